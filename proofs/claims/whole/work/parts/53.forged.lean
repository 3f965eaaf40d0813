section
variable {d c : Nat} {g : Gph} {W : Wth} {P Q : Mem → Prop} {lv : Value} {Ll : List Nat} {rn : Bool} {w dl hr : Nat} {o : Int32} {s : Mem}
theorem QQ_l {t : Mem} {L : List Nat} (h : QQ c g W P Q lv Ll w rn dl hr o s) (hf : frm (L ++ Ll) s t) (hL : ∀ a, a ∈ L → a = c + 5 ∨ a = c + 6 ∨ (37 ≤ a ∧ a ≤ 41) ∨ (50 ≤ a ∧ a ≤ 56)) (hc : CityF c g t) (hp : P t) : fr c Ll s t ∧ QQ c g W P Q lv Ll w rn dl hr o t := by
  have h16 := C_le (qq_isC h)
  have hLl := HlC_L (qq_hl h)
  have n57 : 57 ∉ L ++ Ll := fun z => by
    rcases List.mem_append.mp z with z | z
    · have := hL 57 z; omega
    · have := hLl _ z; omega
  have f1 : fr c Ll s t := fr_f hf n57 (fun a z => by
    rcases List.mem_append.mp z with z | z
    · exact scA_m (by have := hL a z; omega)
    · exact List.mem_append_right _ z)
  exact ⟨f1, QQ_f h f1 hc hp (by rw [hf 57 n57]; exact qq_x33 h)⟩
theorem c_hold_forge (hh : HoldC lv s) {a b : Int32} {KK : Mem → Prop} : wR (wp (d + 2)) m_X_holdingLaw [.ref 0] s (fun x s9 => wV (wp (d + 2)) m_A_forge [.ref 37, .ref c, .ref x, .int a, .int b] s9 KK) (fun s9 => wV (wp (d + 2)) m_A_forge [.ref 37, .ref c, .null, .int a, .int b] s9 KK) = wV (wp (d + 2)) m_A_forge [.ref 37, .ref c, lv, .int a, .int b] s KK := by
  rw [e_X_holdingLaw, e_X_lawAt]
  rcases hh with ⟨rfl, e⟩ | ⟨i, hi, rfl, e⟩
  · rw [e]
    simp only [q0, m1_neg, if_true]
  · rw [e]
    simp (disch := omega) only [↓n_m1, ↓n_hid, q0, q1, q2, q3, q4, q5, q6, q7, q8, q9, q10, q11, q12, q13, q14, q15, q16, q17, q18, q19, q20, q21, q22, q23, q24, q25, q26, q27, q28, q29, q30, q31, q32, q33, q34, q35, q36, q37, q38, q39, q40, q41, q42, q43, q44, q45, q46, q47, q48, q49, q50, q51, q52, q53, q54, q55, q56, q57, q58, q59, q61, q62, q63, q64, q66, q67, q68, q69, q70, q71, q91, q93, q99, q100, q102, q104, q107, q108, q112, q114, q115, q119, q121, q124, q160, q200, q255, q640, q999, q1000, q2000, q4096, n_of, nI_ltI, nI_leI, nI_eq, nI_clamp, nI_add, pk_mul, n_sub, m1_eq, m1_eq2, m1_lt, m1_lt2, gdN, Nat.not_lt_zero, false_or, if_true, if_false, if_pos, if_neg, cond_true, cond_false, beq_self, and_self, true_and, and_true, not_true_eq_false, not_false_eq_true, ne_eq]
theorem f_forged {K : Int32 → Int32 → Mem → Prop} (h : QQ c g W P Q lv Ll w rn dl hr o s) {x y : Int32} (hK : ∀ v s', fr c Ll s s' → QQ c g W P Q lv Ll w rn dl hr o s' → K v v s') :
    wI (wp (d + 50)) m_X_forged [.ref 0, .int x, .int y] s (fun v s1 => wI (wp (d + 50)) m_M_forged [.ref 57, .int x, .int y] s1 (fun v' s2 => K v v' s2)) := by
  have hg := qq_gOk h
  have h20 := gN_le hg
  have hL := C_le (qq_isC h)
  have hcc := qq_isC h
  have hS := hg.2.2.1
  obtain ⟨t1, t2⟩ := q_thr h (x := nI 0)
  rw [e_X_forged, qq_ref h, cref hcc, crefc hcc, c_streetOf (d := d + 46) hcc hg (qq_cf h).1]
  cases e : stc g x with
  | none =>
    rw [if_pos (show oI none = -1 from rfl), e_M_forged, q0, m_streetAt (d := d + 47) hg (qq_cm t2), e]
    simp only [oI, n_m1, if_true]
    exact hK _ _ t1 t2
  | some k =>
    obtain ⟨hk, hst⟩ := stc_some e
    rw [if_neg (show ¬ oI (some k) = -1 from fun z => by rw [n_m1, oI, m1_eq (by omega)] at z; exact z), c_isKind (d := d + 48), ifb]
    by_cases hy : 0 ≤ y.toInt ∧ y.toInt ≤ 4
    · obtain ⟨q, hq4, rfl⟩ := inN (n := 4) hy (by decide)
      rw [decide_eq_true hy, if_pos rfl, q0, c_now (d := d + 47) (by omega), (qq_w h).1]
      refine q_blow (d := d + 41) h (qq_w h).2 ?_
      intro s1 f1 h1 n1 _
      rw [← q0, qq_ref h1, cref2 hcc, crefc hcc, c_smelling (d := d + 45) hcc hg n1.1 n1.2.1 n1.2.2.1 n1.2.2.2.1]
      refine c_breathe (d := d + 43) hcc hg n1.2.1 n1.2.2.2.2.1 (qq_dl h).2 (smI_6 hg) (fun _ _ z => by simp at z) (fun _ _ z => by simp at z) ?_
      intro s2 f2 hB2
      obtain ⟨f2', h2⟩ := QQ_c h1 f2 (by simp)
      refine c_remember (d := d + 48) ?_
      intro s3 f3 hB3
      obtain ⟨f3', h3⟩ := QQ_c h2 f3 (by simp)
      have a3 : AirC g W (hr % 24) rn w dl none s3 := AirC_f (by simp) (by simp) (by simp) (frm_t (frm_w (L' := [40, 41]) f2 (by simp)) (frm_w (L' := [40, 41]) f3 (by simp))) n1.2.2.2.2.1
      rw [qq_ref h3, cref2 hcc, crefc hcc, show oI (some k) = nI k from rfl, c_hold_forge (d := d + 47) (qq_hold h3)]
      refine c_forge (d := d + 42) hcc hg (qq_hl h) (PSt_l hcc (qq_pst h)) (Nat.mod_lt _ (by decide)) (qq_w h).2 a3 (qq_cf h3) (qq_P h3) hk hst hq4 ?_
      intro s4 f4 hc4 hp4 a4
      obtain ⟨f4', h4⟩ := QQ_l h3 f4 (fun a z => by simp only [List.mem_cons, List.not_mem_nil, or_false] at z; omega) hc4 hp4
      have e41 : s4 41 = s3 41 := f4 41 (fun z => by
        rcases List.mem_append.mp z with z | z
        · simp only [List.mem_cons, List.not_mem_nil, or_false] at z
          omega
        · have := HlC_L (qq_hl h) _ z
          omega)
      rw [qq_ref h4, cref2 hcc, crefc hcc, c_smelling (d := d + 45) hcc hg (qq_ref h4) hc4.1 (qq_hr h4).1 (qq_hr h4).2, qq_o h4]
      have o6 : tb (smI g (hr % 24) o ||| 64) 6 = (some (k, q)).isSome := by
        rw [q64, tb_or, tb_nI (by decide)]
        exact Bool.or_true _
      refine c_breathe (d := d + 43) hcc hg hc4.1 a4 (qq_dl h).2 o6 (fun _ _ z => by injection z with z; injection z with z1 z2; omega) (fun _ _ z => by injection z with z; injection z with z1 z2; subst z1; exact ⟨hk, hst⟩) ?_
      intro s5 f5 hB5
      obtain ⟨f5', h5⟩ := QQ_c h4 f5 (by simp)
      rw [qq_ref h5, cref2 hcc, crefc hcc, c_changed (d := d + 45) hcc hg (qq_cf h5).1]
      obtain ⟨u1, u2⟩ := q_thr h5 (x := nI 0)
      rw [e_M_forged, q0, m_streetAt (d := d + 47) hg (qq_cm u2), e]
      simp only [oI]
      simp (disch := omega) only [↓n_m1, ↓n_hid, q0, q1, q2, q3, q4, q5, q6, q7, q8, q9, q10, q11, q12, q13, q14, q15, q16, q17, q18, q19, q20, q21, q22, q23, q24, q25, q26, q27, q28, q29, q30, q31, q32, q33, q34, q35, q36, q37, q38, q39, q40, q41, q42, q43, q44, q45, q46, q47, q48, q49, q50, q51, q52, q53, q54, q55, q56, q57, q58, q59, q61, q62, q63, q64, q66, q67, q68, q69, q70, q71, q91, q93, q99, q100, q102, q104, q107, q108, q112, q114, q115, q119, q121, q124, q160, q200, q255, q640, q999, q1000, q2000, q4096, n_of, nI_ltI, nI_leI, nI_eq, nI_clamp, nI_add, pk_mul, n_sub, m1_eq, m1_eq2, m1_lt, m1_lt2, gdN, Nat.not_lt_zero, false_or, if_true, if_false, if_pos, if_neg, cond_true, cond_false, beq_self, and_self, true_and, and_true, not_true_eq_false, not_false_eq_true, ne_eq]
      rw [mi4 (d := d + 48), decide_eq_true hy]
      simp (disch := omega) only [↓n_m1, ↓n_hid, q0, q1, q2, q3, q4, q5, q6, q7, q8, q9, q10, q11, q12, q13, q14, q15, q16, q17, q18, q19, q20, q21, q22, q23, q24, q25, q26, q27, q28, q29, q30, q31, q32, q33, q34, q35, q36, q37, q38, q39, q40, q41, q42, q43, q44, q45, q46, q47, q48, q49, q50, q51, q52, q53, q54, q55, q56, q57, q58, q59, q61, q62, q63, q64, q66, q67, q68, q69, q70, q71, q91, q93, q99, q100, q102, q104, q107, q108, q112, q114, q115, q119, q121, q124, q160, q200, q255, q640, q999, q1000, q2000, q4096, n_of, nI_ltI, nI_leI, nI_eq, nI_clamp, nI_add, pk_mul, n_sub, m1_eq, m1_eq2, m1_lt, m1_lt2, gdN, Nat.not_lt_zero, false_or, if_true, if_false, if_pos, if_neg, cond_true, cond_false, beq_self, and_self, true_and, and_true, not_true_eq_false, not_false_eq_true, ne_eq, b01_0, Bool.true_eq_false]
      refine q_layNow (d := d + 14) u2 ?_
      intro s6 f6 h6 hS6 hB6 _
      refine m_keepBreaths (d := d + 47) ?_
      intro s7 f7 hB7
      obtain ⟨f7', h7⟩ := QQ_m h6 (frN_f (J := []) f7 (by simp)) (by simp) (fun a z => scA_m (by simp at z; omega)) (by simp) (by rw [f7 57 (by simp)]; exact qq_x33 h6)
      have fe : frN [69] [33] s7 (upM (upM (upM s7 57 33 (nI 1)) 69 0 (nI k)) 69 1 (nI q)) := frN_t (frN_t (frN_v (by simp)) (frN_u (by simp) (by decide))) (frN_u (by simp) (by decide))
      have ce : CityM g (upM (upM (upM s7 57 33 (nI 1)) 69 0 (nI k)) 69 1 (nI q)) := CityM_N fe (by decide) (by decide) (qq_cm h7)
      have e68 : (upM (upM (upM s7 57 33 (nI 1)) 69 0 (nI k)) 69 1 (nI q)) 68 = s7 68 := fe.1 68 (by decide) (by decide)
      refine m_layNow (d := d + 14) (rn := rn) (w := w) (dl := dl) hg (qq_lw h) (fun u v hf => qq_qst h u v (frN_w hf (fun a z => scA_m (by simp only [List.mem_cons, List.not_mem_nil, or_false] at z; omega)) (by simp))) (qq_w h).2 ce (qq_qst h _ _ (frN_w fe (fun a z => scA_m (by simp only [List.mem_cons, List.not_mem_nil, or_false] at z; omega)) (by simp)) (qq_Q h7)) ⟨hr, by rw [e68, qq_e68 h7 2 (by decide)]; exact (qq_hr h7).1, (qq_hr h7).2, rfl, by rw [e68, qq_e68 h7 1 (by decide)]; exact qq_rn h7, by rw [e68, qq_e68 h7 3 (by decide)]; exact (qq_dl h7).1⟩ (by rw [e68, qq_e68 h7 0 (by decide)]; exact (qq_w h7).1) (qq_dl h).2 (ex := some (k, q)) ⟨by rw [up_ce (by decide), up_ce (by decide), up_at], by rw [up_pl (by decide), up_at], up_at⟩ (fun _ _ z => by injection z with z; injection z with z1 z2; subst z1; subst z2; exact ⟨hk, hq4⟩) ?_
      intro s8 f8 hc8 hQ8 hS8 hB8
      rw [e68, qq_e68 h7 4 (by decide), qq_o h7] at hB8
      have f9 : frN [61, 69, 71, 72, 73] (33 :: JL) s7 (upM s8 57 33 (nI 0)) := frN_t (frN_w fe (by simp) (by simp)) (frN_t (frN_w f8 (fun a z => by simp only [List.mem_cons, List.not_mem_nil, or_false] at z ⊢; omega) (fun a z => List.mem_cons_of_mem _ z)) (frN_v (by simp)))
      obtain ⟨f9', h9⟩ := QQ_m h7 f9 (fun a z => by simp only [List.mem_cons, List.not_mem_nil, or_false] at z; omega) (fun a z => scA_m (by simp only [List.mem_cons, List.not_mem_nil, or_false] at z; omega)) (by simp) up_at
      rw [m_changedFromKept (d := d + 45) hg (qq_cm h9)]
      have ev : bits (fun k' => gst g k' && ! decide (s5 40 k' = s5 41 k')) (gN g) = bits (fun k' => gst g k' && ! decide ((upM s8 57 33 (nI 0)) 73 k' = (upM s8 57 33 (nI 0)) 74 k')) (gN g) := bits_eq fun k' hk' => by
        have e41' : s5 41 k' = s2 40 k' := by
          rw [f5 41 (by simp), e41, hB3 k' (by omega)]
        have e74 : (upM s8 57 33 (nI 0)) 74 k' = s6 73 k' := by
          rw [up_ce (by decide), f8.1 74 (by simp) (by decide), fe.1 74 (by simp) (by decide), hB7 k' (by omega)]
        have e73 : (upM s8 57 33 (nI 0)) 73 k' = s8 73 k' := by rw [up_ce (by decide)]
        have eo : brI g W (hr % 24) rn w dl (smI g (hr % 24) o ||| 64) (some (k, q)) k' = brI g W (hr % 24) rn w dl o (some (k, q)) k' := brI_o fun i hi => by
          rw [q64, tb_or, tb_nI (by decide), show Nat.testBit 64 i = false from by rw [show 64 = 2 ^ 6 from rfl, Nat.testBit_two_pow]; exact decide_eq_false (by omega), Bool.or_false]
          exact smI_o hg i hi
        rw [e41', e74, e73, hB5 k' hk', hB2 k' hk', hB6 k' hk', hB8 k' hk', qq_o h1, eo, brI_o (smI_o hg)]
      rw [ev]
      exact hK _ _ (fr_t f1 (fr_t f2' (fr_t f3' (fr_t f4' (fr_t f5' (fr_t u1 (fr_t f6 (fr_t f7' f9')))))))) h9
    · rw [decide_eq_false hy, if_neg (by decide), e_M_forged, q0, m_streetAt (d := d + 47) hg (qq_cm t2), e]
      simp only [oI]
      simp (disch := omega) only [↓n_m1, ↓n_hid, q0, q1, q2, q3, q4, q5, q6, q7, q8, q9, q10, q11, q12, q13, q14, q15, q16, q17, q18, q19, q20, q21, q22, q23, q24, q25, q26, q27, q28, q29, q30, q31, q32, q33, q34, q35, q36, q37, q38, q39, q40, q41, q42, q43, q44, q45, q46, q47, q48, q49, q50, q51, q52, q53, q54, q55, q56, q57, q58, q59, q61, q62, q63, q64, q66, q67, q68, q69, q70, q71, q91, q93, q99, q100, q102, q104, q107, q108, q112, q114, q115, q119, q121, q124, q160, q200, q255, q640, q999, q1000, q2000, q4096, n_of, nI_ltI, nI_leI, nI_eq, nI_clamp, nI_add, pk_mul, n_sub, m1_eq, m1_eq2, m1_lt, m1_lt2, gdN, Nat.not_lt_zero, false_or, if_true, if_false, if_pos, if_neg, cond_true, cond_false, beq_self, and_self, true_and, and_true, not_true_eq_false, not_false_eq_true, ne_eq]
      rw [mi4 (d := d + 48), decide_eq_false hy]
      simp (disch := omega) only [↓n_m1, ↓n_hid, q0, q1, q2, q3, q4, q5, q6, q7, q8, q9, q10, q11, q12, q13, q14, q15, q16, q17, q18, q19, q20, q21, q22, q23, q24, q25, q26, q27, q28, q29, q30, q31, q32, q33, q34, q35, q36, q37, q38, q39, q40, q41, q42, q43, q44, q45, q46, q47, q48, q49, q50, q51, q52, q53, q54, q55, q56, q57, q58, q59, q61, q62, q63, q64, q66, q67, q68, q69, q70, q71, q91, q93, q99, q100, q102, q104, q107, q108, q112, q114, q115, q119, q121, q124, q160, q200, q255, q640, q999, q1000, q2000, q4096, n_of, nI_ltI, nI_leI, nI_eq, nI_clamp, nI_add, pk_mul, n_sub, m1_eq, m1_eq2, m1_lt, m1_lt2, gdN, Nat.not_lt_zero, false_or, if_true, if_false, if_pos, if_neg, cond_true, cond_false, beq_self, and_self, true_and, and_true, not_true_eq_false, not_false_eq_true, ne_eq, b01_0]
      exact hK _ _ t1 t2
end
