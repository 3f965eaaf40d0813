/-! led and forged -/
section
variable {d : Nat} {g : Gph}
theorem m_led_l {K : Int32 → Mem → Prop} (hg : gOk g) {s : Mem} (hc : CityM g s) {hr : Nat} (h2 : s 68 2 = nI hr) (h9 : hr ≤ 999) {F : Nat → Nat} {q : Nat} (hq : q < 5) (hF : ∀ v, v < gN g → s 72 (5 * v + q) = nI (F v)) (hFl : ∀ v, F v ≤ 99)
    (hK : ∀ s', frN [] [43, 44] s s' → K (bits (ledB g (hr % 24) (s 68 4) F q) (gN g)) s') : ∀ (n i : Nat) (t : Mem) (v4 v5 : Value), i + n = gN g → frN [] [43, 44] s t →
    RnI (d + 4) m_M_led K 34 [.ref 57, .int (nI q), .int (bits (ledB g (hr % 24) (s 68 4) F q) i), .int (nI i), v4, v5] [] t := by
  have h20 := gN_le hg
  intro n
  induction n with
  | zero =>
    intro i t v4 v5 hi hf
    obtain rfl : i = gN g := by omega
    rw [r_M_led_34, m_cells (d := d + 3) (CityM_N hf (by decide) (by decide) hc)]
    simp (disch := omega) only [↓n_m1, ↓n_hid, q0, q1, q2, q3, q4, q5, q6, q7, q8, q9, q10, q11, q12, q13, q14, q15, q16, q17, q18, q19, q20, q21, q22, q23, q24, q25, q26, q27, q28, q29, q30, q31, q32, q33, q34, q35, q36, q37, q38, q39, q40, q41, q42, q43, q44, q45, q46, q47, q48, q49, q50, q51, q52, q53, q54, q55, q56, q57, q58, q59, q61, q62, q63, q64, q66, q67, q68, q69, q70, q71, q91, q93, q99, q100, q102, q104, q107, q108, q112, q114, q115, q119, q121, q124, q160, q200, q255, q640, q999, q1000, q2000, q4096, n_of, nI_ltI, nI_leI, nI_eq, nI_clamp, nI_add, pk_mul, n_sub, m1_eq, m1_eq2, m1_lt, m1_lt2, gdN, Nat.not_lt_zero, false_or, if_true, if_false, if_pos, if_neg, cond_true, cond_false, beq_self, and_self, true_and, and_true, not_true_eq_false, not_false_eq_true, ne_eq]
    exact hK t hf
  | succ n ih =>
    intro i t v4 v5 hi hf
    have hct := CityM_N hf (by decide) (by decide) hc
    rw [r_M_led_34, m_cells (d := d + 3) hct]
    simp (disch := omega) only [↓n_m1, ↓n_hid, q0, q1, q2, q3, q4, q5, q6, q7, q8, q9, q10, q11, q12, q13, q14, q15, q16, q17, q18, q19, q20, q21, q22, q23, q24, q25, q26, q27, q28, q29, q30, q31, q32, q33, q34, q35, q36, q37, q38, q39, q40, q41, q42, q43, q44, q45, q46, q47, q48, q49, q50, q51, q52, q53, q54, q55, q56, q57, q58, q59, q61, q62, q63, q64, q66, q67, q68, q69, q70, q71, q91, q93, q99, q100, q102, q104, q107, q108, q112, q114, q115, q119, q121, q124, q160, q200, q255, q640, q999, q1000, q2000, q4096, n_of, nI_ltI, nI_leI, nI_eq, nI_clamp, nI_add, pk_mul, n_sub, m1_eq, m1_eq2, m1_lt, m1_lt2, gdN, Nat.not_lt_zero, false_or, if_true, if_false, if_pos, if_neg, cond_true, cond_false, beq_self, and_self, true_and, and_true, not_true_eq_false, not_false_eq_true, ne_eq, hct.2.2.2.1 i (by omega), b01_0]
    cases hst : gst g i with
    | false =>
      simp only [if_true]
      have e : bits (ledB g (hr % 24) (s 68 4) F q) (i + 1) = bits (ledB g (hr % 24) (s 68 4) F q) i := by
        rw [bits_S, if_neg]
        unfold ledB
        rw [hst, Bool.false_and]
        decide
      rw [← e]
      exact ih (i + 1) t _ _ (by omega) hf
    | true =>
      simp only [Bool.true_eq_false, if_false]
      have e72 : t 72 = s 72 := hf.1 72 (by decide) (by decide)
      have e68 : t 68 = s 68 := hf.1 68 (by decide) (by decide)
      have hlt := flw_P (F := F) hg 20 i (by omega) hst
      refine m_goFollow (d := d + 1) hg hct (F := F) hq (fun v hv => by rw [e72]; exact hF v hv) hFl (show i < gN g by omega) hst ?_
      intro u hu e43 e44
      have hfu := frN_t hf hu
      have hcu := CityM_N hfu (by decide) (by decide) hc
      have u68 : u 68 = s 68 := hfu.1 68 (by decide) (by decide)
      refine m_led_66 (d := d + 1) hg hcu (by rw [u68]; exact h2) h9 (show i < gN g by omega) hq hlt e43 ?_ (gS g) 0 (by omega)
      intro v4 v5
      rw [u68]
      have e : bits (ledB g (hr % 24) (s 68 4) F q) (i + 1) = if ldB g (hr % 24) (s 68 4) q (flw g F 20 i).1 = true then bits (ledB g (hr % 24) (s 68 4) F q) i ||| bit i else bits (ledB g (hr % 24) (s 68 4) F q) i := by
        rw [bits_S]
        have e2 : ledB g (hr % 24) (s 68 4) F q i = ldB g (hr % 24) (s 68 4) q (flw g F 20 i).1 := by unfold ledB; rw [hst, Bool.true_and]
        rw [e2]
      rw [← e]
      exact ih (i + 1) u _ _ (by omega) hfu
end
section
variable {d c : Nat} {g : Gph} {W : Wth} {P Q : Mem → Prop} {lv : Value} {Ll : List Nat} {rn : Bool} {w dl hr : Nat} {o : Int32} {s : Mem}
theorem f_led {K : Int32 → Int32 → Mem → Prop} (h : QQ c g W P Q lv Ll w rn dl hr o s) {y : Int32} (hK : ∀ v s', fr c Ll s s' → QQ c g W P Q lv Ll w rn dl hr o s' → K v v s') :
    wI (wp (d + 50)) m_X_led [.ref 0, .int y] s (fun v s1 => wI (wp (d + 50)) m_M_led [.ref 57, .int y] s1 (fun v' s2 => K v v' s2)) := by
  have hg := qq_gOk h
  have h20 := gN_le hg
  have hL := C_le (qq_isC h)
  have hcc := qq_isC h
  obtain ⟨t1, t2⟩ := q_thr h (x := nI 0)
  rw [e_X_led, qq_ref h, cref hcc, crefc hcc, q_there (d := d + 48) h, ifb]
  by_cases hR : 0 < gR g
  · rw [decide_eq_true hR, if_pos rfl, c_isKind (d := d + 48), ifb]
    by_cases hy : 0 ≤ y.toInt ∧ y.toInt ≤ 4
    · obtain ⟨q, hq4, rfl⟩ := inN (n := 4) hy (by decide)
      rw [decide_eq_true hy, if_pos rfl, q0, c_now (d := d + 47) (by omega), (qq_w h).1]
      refine q_blow (d := d + 41) h (qq_w h).2 ?_
      intro s1 f1 h1 n1 _
      rw [← q0, qq_ref h1, cref2 hcc, crefc hcc, C_b hcc, c_smelling (d := d + 45) hcc hg n1.1 n1.2.1 n1.2.2.1 n1.2.2.2.1]
      simp only [cond_true]
      refine c_sourcePlaces (d := d + 44) hcc hg n1.2.1 (show q < 5 by omega) ?_
      intro x hx
      refine Eq.mpr (c_led_l (d := d + 42) hcc hg n1 (show q < 5 by omega) hx rfl (gN g) 0 (by omega)) ?_
      obtain ⟨u1, u2⟩ := q_thr h1 (x := nI 0)
      rw [e_M_led, q0]
      simp (disch := omega) only [↓n_m1, ↓n_hid, q0, q1, q2, q3, q4, q5, q6, q7, q8, q9, q10, q11, q12, q13, q14, q15, q16, q17, q18, q19, q20, q21, q22, q23, q24, q25, q26, q27, q28, q29, q30, q31, q32, q33, q34, q35, q36, q37, q38, q39, q40, q41, q42, q43, q44, q45, q46, q47, q48, q49, q50, q51, q52, q53, q54, q55, q56, q57, q58, q59, q61, q62, q63, q64, q66, q67, q68, q69, q70, q71, q91, q93, q99, q100, q102, q104, q107, q108, q112, q114, q115, q119, q121, q124, q160, q200, q255, q640, q999, q1000, q2000, q4096, n_of, nI_ltI, nI_leI, nI_eq, nI_clamp, nI_add, pk_mul, n_sub, m1_eq, m1_eq2, m1_lt, m1_lt2, gdN, Nat.not_lt_zero, false_or, if_true, if_false, if_pos, if_neg, cond_true, cond_false, beq_self, and_self, true_and, and_true, not_true_eq_false, not_false_eq_true, ne_eq, q_r0 h1, hR]
      rw [mi4 (d := d + 48), decide_eq_true hy]
      simp (disch := omega) only [↓n_m1, ↓n_hid, q0, q1, q2, q3, q4, q5, q6, q7, q8, q9, q10, q11, q12, q13, q14, q15, q16, q17, q18, q19, q20, q21, q22, q23, q24, q25, q26, q27, q28, q29, q30, q31, q32, q33, q34, q35, q36, q37, q38, q39, q40, q41, q42, q43, q44, q45, q46, q47, q48, q49, q50, q51, q52, q53, q54, q55, q56, q57, q58, q59, q61, q62, q63, q64, q66, q67, q68, q69, q70, q71, q91, q93, q99, q100, q102, q104, q107, q108, q112, q114, q115, q119, q121, q124, q160, q200, q255, q640, q999, q1000, q2000, q4096, n_of, nI_ltI, nI_leI, nI_eq, nI_clamp, nI_add, pk_mul, n_sub, m1_eq, m1_eq2, m1_lt, m1_lt2, gdN, Nat.not_lt_zero, false_or, if_true, if_false, if_pos, if_neg, cond_true, cond_false, beq_self, and_self, true_and, and_true, not_true_eq_false, not_false_eq_true, ne_eq, b01_0, Bool.true_eq_false]
      refine q_layNow (d := d + 14) u2 ?_
      intro s2 f2 h2 hS hB _
      refine m_led_l (d := d + 45) hg (qq_cm h2) (by rw [qq_e68 h2 2 (by decide)]; exact (qq_hr h2).1) (qq_hr h2).2 (F := fun v => smX g W (hr % 24) rn w o none v q) (q := q) (by omega) (fun v hv => hS v q (by omega) (by omega)) (fun v => smX_99) ?_ (gN g) 0 s2 _ _ (by omega) frN_r
      intro s3 f3
      obtain ⟨f3', h3⟩ := QQ_m h2 f3 (by simp) (by simp) (by simp) (by rw [f3.2 33 (by simp)]; exact qq_x33 h2)
      have ev : bits (ledB g (hr % 24) (s2 68 4) (fun v => smX g W (hr % 24) rn w o none v q) q) (gN g) = bits (ledB g (hr % 24) (s1 34 4) (fun v => smN g W (hr % 24) rn w (smI g (hr % 24) (s1 34 4)) none v q) q) (gN g) := bits_eq fun k hk => by
        unfold ledB
        cases hst : gst g k
        · rfl
        · rw [qq_e68 h2 4 (by decide), qq_o h2, qq_o h1, flw_e (F' := fun v => smN g W (hr % 24) rn w (smI g (hr % 24) o) none v q) (fun v hv => smX_o hg hv) 20 k hk hst]
      rw [ev]
      exact hK _ _ (fr_t f1 (fr_t u1 (fr_t f2 f3'))) h3
    · rw [decide_eq_false hy, if_neg (by decide), e_M_led, q0]
      simp (disch := omega) only [↓n_m1, ↓n_hid, q0, q1, q2, q3, q4, q5, q6, q7, q8, q9, q10, q11, q12, q13, q14, q15, q16, q17, q18, q19, q20, q21, q22, q23, q24, q25, q26, q27, q28, q29, q30, q31, q32, q33, q34, q35, q36, q37, q38, q39, q40, q41, q42, q43, q44, q45, q46, q47, q48, q49, q50, q51, q52, q53, q54, q55, q56, q57, q58, q59, q61, q62, q63, q64, q66, q67, q68, q69, q70, q71, q91, q93, q99, q100, q102, q104, q107, q108, q112, q114, q115, q119, q121, q124, q160, q200, q255, q640, q999, q1000, q2000, q4096, n_of, nI_ltI, nI_leI, nI_eq, nI_clamp, nI_add, pk_mul, n_sub, m1_eq, m1_eq2, m1_lt, m1_lt2, gdN, Nat.not_lt_zero, false_or, if_true, if_false, if_pos, if_neg, cond_true, cond_false, beq_self, and_self, true_and, and_true, not_true_eq_false, not_false_eq_true, ne_eq, q_r0 h, hR]
      rw [mi4 (d := d + 48), decide_eq_false hy]
      simp (disch := omega) only [↓n_m1, ↓n_hid, q0, q1, q2, q3, q4, q5, q6, q7, q8, q9, q10, q11, q12, q13, q14, q15, q16, q17, q18, q19, q20, q21, q22, q23, q24, q25, q26, q27, q28, q29, q30, q31, q32, q33, q34, q35, q36, q37, q38, q39, q40, q41, q42, q43, q44, q45, q46, q47, q48, q49, q50, q51, q52, q53, q54, q55, q56, q57, q58, q59, q61, q62, q63, q64, q66, q67, q68, q69, q70, q71, q91, q93, q99, q100, q102, q104, q107, q108, q112, q114, q115, q119, q121, q124, q160, q200, q255, q640, q999, q1000, q2000, q4096, n_of, nI_ltI, nI_leI, nI_eq, nI_clamp, nI_add, pk_mul, n_sub, m1_eq, m1_eq2, m1_lt, m1_lt2, gdN, Nat.not_lt_zero, false_or, if_true, if_false, if_pos, if_neg, cond_true, cond_false, beq_self, and_self, true_and, and_true, not_true_eq_false, not_false_eq_true, ne_eq, b01_0]
      exact hK _ _ t1 t2
  · rw [decide_eq_false hR, if_neg (by decide), e_M_led, q0]
    simp (disch := omega) only [↓n_m1, ↓n_hid, q0, q1, q2, q3, q4, q5, q6, q7, q8, q9, q10, q11, q12, q13, q14, q15, q16, q17, q18, q19, q20, q21, q22, q23, q24, q25, q26, q27, q28, q29, q30, q31, q32, q33, q34, q35, q36, q37, q38, q39, q40, q41, q42, q43, q44, q45, q46, q47, q48, q49, q50, q51, q52, q53, q54, q55, q56, q57, q58, q59, q61, q62, q63, q64, q66, q67, q68, q69, q70, q71, q91, q93, q99, q100, q102, q104, q107, q108, q112, q114, q115, q119, q121, q124, q160, q200, q255, q640, q999, q1000, q2000, q4096, n_of, nI_ltI, nI_leI, nI_eq, nI_clamp, nI_add, pk_mul, n_sub, m1_eq, m1_eq2, m1_lt, m1_lt2, gdN, Nat.not_lt_zero, false_or, if_true, if_false, if_pos, if_neg, cond_true, cond_false, beq_self, and_self, true_and, and_true, not_true_eq_false, not_false_eq_true, ne_eq, q_r0 h, hR]
    exact hK _ _ t1 t2
end
