/-! trail, wipe, note, end, count, source -/
section
variable {d c : Nat} {g : Gph} {s t : Mem}
theorem REL_Tr (h : REL c g s) (hf : frN [42, 43, 44, 75, 76] [0, 42] s t) (c6 : TrR g t) : REL c g t :=
  REL_B h hf ⟨by rw [hf.1 0 (by decide) (by decide)], by rw [hf.1 0 (by decide) (by decide)]⟩ (by decide) (by decide) (TapR_n (rl_tap h) hf (by decide) (by decide)) (LawsR_n (rl_laws h) hf (by decide) (by decide)) (NowR_n (rl_now h) hf (by decide)) (ActR_n (rl_act h) hf (by decide) (by decide)) (ImgR_n (rl_img h) hf (by decide) (by decide)) c6 (NtR_n (rl_nt h) hf (by decide) (by decide))
theorem REL_Nt (h : REL c g s) (hf : frN [45, 46, 47, 48, 49, 81, 82, 83, 86] [0, 55] s t) (c7 : NtR g t) : REL c g t :=
  REL_B h hf ⟨by rw [hf.1 0 (by decide) (by decide)], by rw [hf.1 0 (by decide) (by decide)]⟩ (by decide) (by decide) (TapR_n (rl_tap h) hf (by decide) (by decide)) (LawsR_n (rl_laws h) hf (by decide) (by decide)) (NowR_n (rl_now h) hf (by decide)) (ActR_n (rl_act h) hf (by decide) (by decide)) (ImgR_n (rl_img h) hf (by decide) (by decide)) (TrR_n (rl_tr h) hf (by decide) (by decide)) c7
theorem REL_Ta (h : REL c g s) (hf : frN [1, 2, 58] [0, 6] s t) (c1 : TapR t) : REL c g t :=
  REL_B h hf ⟨by rw [hf.1 0 (by decide) (by decide)], by rw [hf.1 0 (by decide) (by decide)]⟩ (by decide) (by decide) c1 (LawsR_n (rl_laws h) hf (by decide) (by decide)) (NowR_n (rl_now h) hf (by decide)) (ActR_n (rl_act h) hf (by decide) (by decide)) (ImgR_n (rl_img h) hf (by decide) (by decide)) (TrR_n (rl_tr h) hf (by decide) (by decide)) (NtR_n (rl_nt h) hf (by decide) (by decide))
theorem rngN {x : Int32} {n : Nat} (hn : n < 1000) {lit : Int32} (hl : lit = nI n) {A B : Prop} : (if x < 0 then A else (if lit < x then A else B)) = if 0 ≤ x.toInt ∧ x.toInt ≤ n then B else A := by
  subst hl
  have e0 : (x < 0) = (x.toInt < 0) := by rw [q0, Int32.lt_iff_toInt_lt, n_i (by omega)]; rfl
  have e1 : (nI n < x) = ((n : Int) < x.toInt) := by rw [Int32.lt_iff_toInt_lt, n_i (by omega)]
  by_cases h : 0 ≤ x.toInt ∧ x.toInt ≤ n
  · rw [if_pos h, if_neg (by rw [e0]; omega), if_neg (by rw [e1]; omega)]
  · rw [if_neg h]
    by_cases h2 : x < 0
    · rw [if_pos h2]
    · rw [if_neg h2, if_pos (by rw [e1]; rw [e0] at h2; omega)]
theorem rngM {x : Int32} {n : Nat} (hn : n < 1000) {lit : Int32} (hl : lit = nI (n + 1)) {A B : Prop} : (if x < 0 then A else (if x < lit then B else A)) = if 0 ≤ x.toInt ∧ x.toInt ≤ n then B else A := by
  subst hl
  have e0 : (x < 0) = (x.toInt < 0) := by rw [q0, Int32.lt_iff_toInt_lt, n_i (by omega)]; rfl
  have e1 : (x < nI (n + 1)) = (x.toInt < (n + 1 : Nat)) := by rw [Int32.lt_iff_toInt_lt, n_i (by omega)]
  by_cases h : 0 ≤ x.toInt ∧ x.toInt ≤ n
  · rw [if_pos h, if_neg (by rw [e0]; omega), if_pos (by rw [e1]; omega)]
  · rw [if_neg h]
    by_cases h2 : x < 0
    · rw [if_pos h2]
    · rw [if_neg h2, if_neg (by rw [e1]; rw [e0] at h2; omega)]
theorem L_trail {K : Int32 → Int32 → Mem → Prop} (h : REL c g s) {x y : Int32} (hK : ∀ v s', REL c g s' → K v v s') :
    wI (wp (d + 50)) m_X_trail [.ref 0, .int x, .int y] s (fun v s1 => wI (wp (d + 50)) m_M_trail [.ref 57, .int x, .int y] s1 (fun v' s2 => K v v' s2)) := by
  have hcc := rl_isC h
  have ht := REL_thr h (x := nI 0)
  obtain ⟨n, sd, bt, hn, hsd, hC, hM, h0⟩ := rl_tr h
  rw [e_X_trail, rl_ref h, cref hcc, crefc hcc, r_there (d := d + 48) h, ifb]
  by_cases hR : 0 < gR g
  · have e0 : ¬ s 57 24 = 0 := fun z => (r_r0 h).mp z hR
    rw [decide_eq_true hR, if_pos rfl, rngM (n := 4) (lit := 5) (by decide) rfl]
    by_cases hx : 0 ≤ x.toInt ∧ x.toInt ≤ (4 : Nat)
    · obtain ⟨a, ha, rfl⟩ := inN (n := 4) hx (by decide)
      rw [if_pos hx, rngM (n := 31) (lit := 32) (by decide) rfl]
      by_cases hy : 0 ≤ y.toInt ∧ y.toInt ≤ (31 : Nat)
      · obtain ⟨b, hb, rfl⟩ := inN (n := 31) hy (by decide)
        rw [if_pos hy, e_S_isFull, hC.1]
        have cm : ∀ (u : Mem), u 57 24 = s 57 24 → u 57 42 = nI n → ∀ v : Int32, wI (wp (d + 50)) m_M_trail [.ref 57, .int (nI a), .int (nI b)] u (fun v' s2 => K v v' s2) = (if n = 12 then K v m1 (upM u 57 0 (nI 0)) else K v (nI (n + 1)) (upM (upM (upM (upM u 57 0 (nI 0)) 75 n (nI a)) 76 n (nI b)) 57 42 (nI (n + 1)))) := by
          intro u e24 e42 v
          rw [e_M_trail, if_neg (by rw [e24]; exact e0), mi4 (d := d + 48), decide_eq_true (show 0 ≤ (nI a).toInt ∧ (nI a).toInt ≤ 4 from hx), ifb, if_pos rfl, mi31 (d := d + 48), decide_eq_true (show 0 ≤ (nI b).toInt ∧ (nI b).toInt ≤ 31 from hy), ifb, if_pos rfl, up_pl (by decide), e42]
          by_cases h12 : n = 12
          · subst h12
            rw [if_pos (show nI 12 = 12 from rfl), if_pos rfl]; rfl
          · rw [if_neg (show ¬ nI n = 12 by rw [q12, nI_eq (by omega) (by omega)]; exact h12), if_neg h12]
            simp (disch := omega) only [↓n_m1, ↓n_hid, q0, q1, q2, q3, q4, q5, q6, q7, q8, q9, q10, q11, q12, q13, q14, q15, q16, q17, q18, q19, q20, q21, q22, q23, q24, q25, q26, q27, q28, q29, q30, q31, q32, q33, q34, q35, q36, q37, q38, q39, q40, q41, q42, q43, q44, q45, q46, q47, q48, q49, q50, q51, q52, q53, q54, q55, q56, q57, q58, q59, q61, q62, q63, q64, q66, q67, q68, q69, q70, q71, q91, q93, q99, q100, q102, q104, q107, q108, q112, q114, q115, q119, q121, q124, q160, q200, q255, q640, q999, q1000, q2000, q4096, n_of, nI_ltI, nI_leI, nI_eq, nI_clamp, nI_add, pk_mul, n_sub, m1_eq, m1_eq2, m1_lt, m1_lt2, gdN, Nat.not_lt_zero, false_or, if_true, if_false, if_pos, if_neg, cond_true, cond_false, beq_self, and_self, true_and, and_true, not_true_eq_false, not_false_eq_true, ne_eq]
        by_cases h12 : n = 12
        · subst h12
          rw [if_neg (by decide), if_neg (by decide), cm s rfl hM.1, if_pos rfl]
          exact hK _ _ ht
        · rw [if_pos (show nI n < 12 by rw [q12, nI_ltI (by omega) (by omega)]; omega), if_pos rfl, e_S_add, e_S_isFull, hC.1, if_pos (show nI n < 12 by rw [q12, nI_ltI (by omega) (by omega)]; omega), if_pos rfl]
          rw [c_put (d := d + 47) (show (shp 43).1 = 20 from rfl) (by decide) (show n < 12 by omega), up_ce (show 42 ≠ 43 by decide), hC.1, c_put (d := d + 47) (show (shp 44).1 = 20 from rfl) (by decide) (show n < 12 by omega), up_ce (show 42 ≠ 44 by decide), up_ce (show 42 ≠ 43 by decide), hC.1, show nI n + 1 = nI (n + 1) from nI_add n 1, e_S_size, up_at, cm _ (by simp [upM]) (by simp [upM]; exact hM.1), if_neg h12]
          refine hK _ _ (REL_Tr h (frN_t (frN_w (frN_f (L := [42, 43, 44]) (J := []) (frm_t (frm_u (by simp)) (frm_t (frm_u (by simp)) (frm_u (by simp)))) (by simp)) (by simp) (by simp)) (frN_t (frN_v (by simp)) (frN_t (frN_u (by simp) (by decide)) (frN_t (frN_u (by simp) (by decide)) (frN_v (by simp)))))) ⟨n + 1, fun i => if i = n then a else sd i, fun i => if i = n then nI b else bt i, by omega, fun i hi => ?_, ⟨by simp [upM], fun i hi => ?_⟩, ⟨by simp [upM], fun i hi => ?_⟩, fun z => by omega⟩)
          · show (if i = n then a else sd i) < 5
            split
            · omega
            · exact hsd i (by omega)
          · by_cases e : i = n
            · subst e; simp [upM]
            · have := hC.2 i (by omega)
              simp [upM, e, this]
          · by_cases e : i = n
            · subst e; simp [upM]
            · have := hM.2 i (by omega)
              simp [upM, e, this]
      · rw [if_neg hy, e_M_trail, if_neg e0, mi4 (d := d + 48), decide_eq_true (show 0 ≤ (nI a).toInt ∧ (nI a).toInt ≤ 4 from hx), ifb, if_pos rfl, mi31 (d := d + 48), decide_eq_false (show ¬ (0 ≤ y.toInt ∧ y.toInt ≤ 31) from hy), ifb, if_neg (by decide)]
        exact hK _ _ ht
    · rw [if_neg hx, e_M_trail, if_neg e0, mi4 (d := d + 48), decide_eq_false (show ¬ (0 ≤ x.toInt ∧ x.toInt ≤ 4) from hx), ifb, if_neg (by decide)]
      exact hK _ _ ht
  · rw [decide_eq_false hR, if_neg (by decide), e_M_trail, if_pos (show s 57 24 = 0 from (r_r0 h).mpr hR)]
    exact hK _ _ ht
theorem L_wipe {K : Int32 → Int32 → Mem → Prop} (h : REL c g s) (hK : ∀ v s', REL c g s' → K v v s') :
    wI (wp (d + 50)) m_X_wipe [.ref 0] s (fun v s1 => wI (wp (d + 50)) m_M_wipe [.ref 57] s1 (fun v' s2 => K v v' s2)) := by
  have ht := REL_thr h (x := nI 0)
  obtain ⟨n, sd, bt, hn, hsd, hC, hM, h0⟩ := rl_tr h
  rw [e_X_wipe, e_S_size, hC.1]
  by_cases hn0 : n = 0
  · subst hn0
    rw [if_pos (show nI 0 = 0 from rfl), e_M_wipe]
    by_cases hR : s 57 24 = 0
    · rw [if_pos hR]; exact hK _ _ ht
    · rw [if_neg hR, if_pos (show s 57 42 = 0 from hM.1)]; exact hK _ _ ht
  · have hR : ¬ s 57 24 = 0 := fun z => by
      have := (r_r0 h).mp z
      exact hn0 (h0 (by omega))
    rw [if_neg (show ¬ nI n = 0 by rw [q0, nI_eq (by omega) (by omega)]; exact hn0), e_S_clear, e_M_wipe, up_ce (show 57 ≠ 42 by decide), if_neg hR, hM.1, if_neg (show ¬ nI n = 0 by rw [q0, nI_eq (by omega) (by omega)]; exact hn0)]
    refine hK _ _ (REL_Tr h (frN_t (frN_u (by simp) (by decide)) (frN_t (frN_v (by simp)) (frN_v (by simp)))) ⟨0, sd, bt, by omega, fun i hi => by omega, ⟨by simp [upM]; rfl, fun i hi => by omega⟩, ⟨by simp [upM]; rfl, fun i hi => by omega⟩, fun _ => rfl⟩)
theorem L_note {K : Int32 → Int32 → Mem → Prop} (h : REL c g s) {x y z : Int32} {b : Bool} (hK : ∀ v s', REL c g s' → K v v s') :
    wI (wp (d + 50)) m_X_note [.ref 0, .int x, .int y, .int z, .int (b01 b)] s (fun v s1 => wI (wp (d + 50)) m_M_note [.ref 57, .int x, .int y, .int z, .int (b01 b)] s1 (fun v' s2 => K v v' s2)) := by
  have hcc := rl_isC h
  have hg := rl_gOk h
  have h20 := gN_le hg
  have ht := REL_thr h (x := nI 0)
  have ht' : REL c g (upM s 57 0 0) := ht
  obtain ⟨nt, hO, hC, hM⟩ := rl_nt h
  have h12 := hO.1
  rw [e_X_note, rl_ref h, cref hcc, crefc hcc, c_streetOf (d := d + 46) hcc hg (rl_cf h).1]
  cases e : stc g y with
  | none =>
    rw [if_pos (show oI none = -1 from rfl), e_M_note, m_streetAt (d := d + 47) hg (rl_cm ht'), e, if_pos (show oI none = -1 from rfl)]
    exact hK _ _ ht
  | some k =>
    obtain ⟨hk, hst⟩ := stc_some e
    have ne : ¬ oI (some k) = -1 := fun z => by rw [n_m1, oI, m1_eq (by omega)] at z; exact z
    have ee : oI (some k) = nI k := rfl
    rw [if_neg ne, rngN (n := 30) (lit := 30) (by decide) rfl]
    by_cases hx : 0 ≤ x.toInt ∧ x.toInt ≤ (30 : Nat)
    · obtain ⟨a, ha, rfl⟩ := inN (n := 30) hx (by decide)
      rw [if_pos hx, rngN (n := 9) (lit := 9) (by decide) rfl]
      by_cases hz : 0 ≤ z.toInt ∧ z.toInt ≤ (9 : Nat)
      · obtain ⟨m, hm, rfl⟩ := inN (n := 9) hz (by decide)
        rw [if_pos hz, e_N_isFull, hC.1]
        have cm : ∀ (u : Mem), REL c g (upM u 57 0 0) ∨ CityM g (upM u 57 0 0) → u 57 55 = nI nt.1 → ∀ v : Int32, wI (wp (d + 50)) m_M_note [.ref 57, .int (nI a), .int y, .int (nI m), .int (b01 b)] u (fun v' s2 => K v v' s2) = (if nt.1 = 12 then K v m1 (upM u 57 0 (nI 0)) else K v (nI (nt.1 + 1)) (upM (upM (upM (upM (upM (upM u 57 0 (nI 0)) 81 nt.1 (nI a)) 82 nt.1 (nI k)) 83 nt.1 (nI m)) 86 nt.1 (b01 b)) 57 55 (nI (nt.1 + 1)))) := by
          intro u hu e55 v
          have hcm : CityM g (upM u 57 0 0) := hu.elim (fun r => rl_cm r) id
          rw [e_M_note, m_streetAt (d := d + 47) hg hcm, e, if_neg ne, mi30 (d := d + 48), decide_eq_true (show 0 ≤ (nI a).toInt ∧ (nI a).toInt ≤ 30 from hx), ifb, if_pos rfl, mi9 (d := d + 48), decide_eq_true (show 0 ≤ (nI m).toInt ∧ (nI m).toInt ≤ 9 from hz), ifb, if_pos rfl, up_pl (by decide), e55, ee]
          by_cases h12 : nt.1 = 12
          · rw [h12, if_pos (show nI 12 = 12 from rfl), if_pos rfl]; rfl
          · rw [if_neg (show ¬ nI nt.1 = 12 by rw [q12, nI_eq (by omega) (by omega)]; exact h12), if_neg h12]
            have eb : b01 b &&& 1 = b01 b := by cases b <;> decide
            rw [eb]
            simp (disch := omega) only [↓n_m1, ↓n_hid, q0, q1, q2, q3, q4, q5, q6, q7, q8, q9, q10, q11, q12, q13, q14, q15, q16, q17, q18, q19, q20, q21, q22, q23, q24, q25, q26, q27, q28, q29, q30, q31, q32, q33, q34, q35, q36, q37, q38, q39, q40, q41, q42, q43, q44, q45, q46, q47, q48, q49, q50, q51, q52, q53, q54, q55, q56, q57, q58, q59, q61, q62, q63, q64, q66, q67, q68, q69, q70, q71, q91, q93, q99, q100, q102, q104, q107, q108, q112, q114, q115, q119, q121, q124, q160, q200, q255, q640, q999, q1000, q2000, q4096, n_of, nI_ltI, nI_leI, nI_eq, nI_clamp, nI_add, pk_mul, n_sub, m1_eq, m1_eq2, m1_lt, m1_lt2, gdN, Nat.not_lt_zero, false_or, if_true, if_false, if_pos, if_neg, cond_true, cond_false, beq_self, and_self, true_and, and_true, not_true_eq_false, not_false_eq_true, ne_eq]
        by_cases h12' : nt.1 = 12
        · rw [h12', if_neg (by decide), if_neg (by decide)]
          have := cm s (Or.inl ht') hM.1 (-1)
          rw [this, if_pos h12']
          exact hK _ _ ht
        · have lt12 : nI nt.1 < 12 := by rw [q12, nI_ltI (by omega) (by omega)]; omega
          rw [if_pos lt12, if_pos rfl, e_N_add, e_N_isFull, hC.1, if_pos lt12, if_pos rfl, ee]
          have main : ∀ u : Mem, u = upM (upM (upM (upM (upM s 46 nt.1 (nI a)) 47 nt.1 (nI k)) 48 nt.1 (nI m)) 49 nt.1 (b01 b)) 45 4 (nI (nt.1 + 1)) → wI (wp (d + 50)) m_M_note [.ref 57, .int (nI a), .int y, .int (nI m), .int (b01 b)] u (fun v' s2 => K (nI (nt.1 + 1)) v' s2) := by
            intro u hu
            have fu : frm [45, 46, 47, 48, 49] s u := by rw [hu]; exact frm_t (frm_u (by simp)) (frm_t (frm_u (by simp)) (frm_t (frm_u (by simp)) (frm_t (frm_u (by simp)) (frm_u (by simp)))))
            have hcm : CityM g (upM u 57 0 0) := CityM_N (L := [45, 46, 47, 48, 49]) (J := [0]) (frN_t (frN_w (frN_f (J := []) fu (by simp)) (by simp) (by simp)) (frN_v (by simp))) (by decide) (by decide) (rl_cm h)
            rw [cm u (Or.inr hcm) (by rw [fu 57 (by simp)]; exact hM.1), if_neg h12']
            refine hK _ _ (REL_Nt h (frN_t (frN_w (frN_f (J := []) fu (by simp)) (by simp) (by simp)) (frN_t (frN_v (by simp)) (frN_t (frN_u (by simp) (by decide)) (frN_t (frN_u (by simp) (by decide)) (frN_t (frN_u (by simp) (by decide)) (frN_t (frN_u (by simp) (by decide)) (frN_v (by simp)))))))) ⟨(nt.1 + 1, (fun i => if i = nt.1 then a else nt.2.1 i), (fun i => if i = nt.1 then k else nt.2.2.1 i), (fun i => if i = nt.1 then m else nt.2.2.2.1 i), (fun i => if i = nt.1 then b else nt.2.2.2.2 i)), ⟨by show nt.1 + 1 ≤ 12; omega, fun i hi => ?_⟩, ⟨by rw [hu]; simp [upM], fun i hi => ?_⟩, ⟨by simp [upM], fun i hi => ?_⟩⟩)
            · have hi' : i < nt.1 + 1 := hi
              show (if i = nt.1 then a else nt.2.1 i) ≤ 30 ∧ (if i = nt.1 then k else nt.2.2.1 i) < gN g ∧ (if i = nt.1 then m else nt.2.2.2.1 i) ≤ 9
              by_cases ei : i = nt.1
              · rw [if_pos ei, if_pos ei, if_pos ei]; exact ⟨ha, hk, hm⟩
              · rw [if_neg ei, if_neg ei, if_neg ei]; exact hO.2 i (by omega)
            · have hi' : i < nt.1 + 1 := hi
              by_cases ei : i = nt.1
              · subst ei; rw [hu]; simp [upM]
              · have := hC.2 i (by omega)
                rw [hu]; simp [upM, ei, this]
            · have hi' : i < nt.1 + 1 := hi
              by_cases ei : i = nt.1
              · subst ei; simp [upM]
              · have := hM.2 i (by omega)
                rw [hu]; simp [upM, ei, this]
          rw [c_put (d := d + 47) (show (shp 46).1 = 20 from rfl) (by decide) (show nt.1 < 12 by omega), up_ce (show 45 ≠ 46 by decide), hC.1, c_put (d := d + 47) (show (shp 47).1 = 20 from rfl) (by decide) (show nt.1 < 12 by omega), up_ce (show 45 ≠ 47 by decide), up_ce (show 45 ≠ 46 by decide), hC.1, c_put (d := d + 47) (show (shp 48).1 = 20 from rfl) (by decide) (show nt.1 < 12 by omega), up_ce (show 45 ≠ 48 by decide), up_ce (show 45 ≠ 47 by decide), up_ce (show 45 ≠ 46 by decide), hC.1]
          cases b with
          | false =>
            rw [if_pos (show b01 false = 0 from rfl), c_put (d := d + 47) (show (shp 49).1 = 20 from rfl) (by decide) (show nt.1 < 12 by omega), up_ce (show 45 ≠ 49 by decide), up_ce (show 45 ≠ 48 by decide), up_ce (show 45 ≠ 47 by decide), up_ce (show 45 ≠ 46 by decide), hC.1, show nI nt.1 + 1 = nI (nt.1 + 1) from nI_add nt.1 1, e_N_size, up_at]
            exact main _ rfl
          | true =>
            rw [if_neg (show ¬ b01 true = 0 by decide), c_put (d := d + 47) (show (shp 49).1 = 20 from rfl) (by decide) (show nt.1 < 12 by omega), up_ce (show 45 ≠ 49 by decide), up_ce (show 45 ≠ 48 by decide), up_ce (show 45 ≠ 47 by decide), up_ce (show 45 ≠ 46 by decide), hC.1, show nI nt.1 + 1 = nI (nt.1 + 1) from nI_add nt.1 1, e_N_size, up_at]
            exact main _ rfl
      · rw [if_neg hz, e_M_note, m_streetAt (d := d + 47) hg (rl_cm ht'), e, if_neg ne, mi30 (d := d + 48), decide_eq_true (show 0 ≤ (nI a).toInt ∧ (nI a).toInt ≤ 30 from hx), ifb, if_pos rfl, mi9 (d := d + 48), decide_eq_false (show ¬ (0 ≤ z.toInt ∧ z.toInt ≤ 9) from hz), ifb, if_neg (by decide)]
        exact hK _ _ ht
    · rw [if_neg hx, e_M_note, m_streetAt (d := d + 47) hg (rl_cm ht'), e, if_neg ne, mi30 (d := d + 48), decide_eq_false (show ¬ (0 ≤ x.toInt ∧ x.toInt ≤ 30) from hx), ifb, if_neg (by decide)]
      exact hK _ _ ht
theorem L_end {K : Int32 → Int32 → Mem → Prop} (h : REL c g s) {x : Int32} (hK : ∀ v s', REL c g s' → K v v s') :
    wI (wp (d + 50)) m_X_end [.ref 0, .int x] s (fun v s1 => wI (wp (d + 50)) m_M_end [.ref 57, .int x] s1 (fun v' s2 => K v v' s2)) := by
  have ht := REL_thr h (x := nI 0)
  obtain ⟨T, hT, t1, t2, t3, t4⟩ := rl_tap h
  have h160 := hT.1
  rw [e_X_end]
  by_cases h0 : x < 0
  · rw [if_pos h0, e_M_end, if_pos h0]
    exact hK _ _ ht
  · rw [if_neg h0, e_T_size, t1]
    by_cases h1 : nI T.2 < x
    · rw [if_pos h1, e_M_end, if_neg h0, t2, if_pos h1]
      exact hK _ _ ht
    · have hx : ∃ n : Nat, n ≤ T.2 ∧ x = nI n := by
        rw [q0, Int32.lt_iff_toInt_lt, n_i (by omega)] at h0
        rw [Int32.lt_iff_toInt_lt, n_i (by omega)] at h1
        exact ⟨x.toInt.toNat, by omega, Int32.toInt_inj.mp (by rw [n_i (by omega)]; omega)⟩
      obtain ⟨n, hn, rfl⟩ := hx
      rw [if_neg h1, e_T_cut, t1, c_min (d := d + 47), c_max (d := d + 47)]
      have em : (if (0 : Int32) < (if nI n < nI T.2 then nI n else nI T.2) then (if nI n < nI T.2 then nI n else nI T.2) else 0) = nI n := by
        have e1 : (if nI n < nI T.2 then nI n else nI T.2) = nI n := by
          by_cases hh : n < T.2
          · rw [if_pos (by rw [nI_ltI (by omega) (by omega)]; exact hh)]
          · rw [if_neg (by rw [nI_ltI (by omega) (by omega)]; exact hh), show T.2 = n by omega]
        rw [e1]
        by_cases hh : 0 < n
        · rw [if_pos (by rw [q0, nI_ltI (by omega) (by omega)]; exact hh)]
        · rw [if_neg (by rw [q0, nI_ltI (by omega) (by omega)]; exact hh), show n = 0 by omega]; rfl
      rw [em, e_M_end, if_neg h0, up_ce (show 57 ≠ 1 by decide), t2, if_neg h1]
      refine hK _ _ (REL_Ta h (frN_t (frN_u (by simp) (by decide)) (frN_t (frN_v (by simp)) (frN_v (by simp)))) ⟨(T.1, n), ⟨by show n ≤ 160; omega, fun k hk => hT.2 k (Nat.lt_of_lt_of_le hk hn)⟩, by simp [upM], by simp [upM], fun k hk => ?_, fun k hk => ?_⟩)
      · simp [upM]; exact t3 k (Nat.lt_of_lt_of_le hk hn)
      · simp [upM]; exact t4 k (Nat.lt_of_lt_of_le hk hn)
theorem streets_cnt (hg : gOk g) (hc : CityC c g s) : bcF (s c 4) = nI (cnt (gst g) (gN g)) := by
  have h20 := gN_le hg
  have e20 : ∀ k, 20 ≤ k → tb (s c 4) k = false := fun k hk => by
    by_cases h32 : k < 32
    · rw [hc.2.2.2.1 k h32, decide_eq_false (by omega), Bool.false_and]
    · exact tb_hi (by omega)
  rw [bcF_n e20]
  congr 1
  rw [show 20 = gN g + (20 - gN g) by omega, cnt_add, cnt_f (20 - gN g) (fun k hk => by rw [hc.2.2.2.1 _ (by omega), decide_eq_false (by omega), Bool.false_and]), Nat.add_zero]
  exact cnt_congr _ fun k hk => by rw [hc.2.2.2.1 k (by omega), decide_eq_true hk, Bool.true_and]
theorem L_count {K : Int32 → Int32 → Mem → Prop} (h : REL c g s) {x : Int32} (hK : ∀ v s', REL c g s' → K v v s') :
    wI (wp (d + 50)) m_X_count [.ref 0, .int x] s (fun v s1 => wI (wp (d + 50)) m_M_count [.ref 57, .int x] s1 (fun v' s2 => K v v' s2)) := by
  have hcc := rl_isC h
  have hg := rl_gOk h
  have ht : REL c g (upM s 57 0 0) := REL_thr h (x := nI 0)
  have hcm := rl_cm h
  obtain ⟨T, hT, t1, t2, t3, t4⟩ := rl_tap h
  obtain ⟨nl, n1, n2, n3, n4, n5, n6⟩ := rl_laws h
  obtain ⟨n, hn, h33, h57, hB⟩ := rl_act h
  obtain ⟨tn, sd, bt, htn, hsd, hC, hM, h0⟩ := rl_tr h
  obtain ⟨nt, hO, hNC, hNM⟩ := rl_nt h
  have h68 := (rl_now h).2
  have g2 : ∀ v : Int32, v = nI (cnt (gst g) (gN g)) → wI (wp (d + 49)) m_M_streetMany [.ref 57] (upM s 57 0 0) (fun v' s2 => K v v' s2) := by
    intro v hv
    rw [m_streetMany (d := d + 46) hg (rl_cm ht), hv]
    exact hK _ _ ht
  by_cases x0 : x = 0
  · subst x0
    rw [e_X_count, if_pos (show (0 : Int32) = 0 from rfl), rl_ref h, cref hcc, crefc hcc, c_rowCount (d := d + 48) hcc (rl_cf h).1]
    rw [e_M_count, if_pos (show (0 : Int32) = 0 from rfl), hcm.1]
    exact hK _ _ ht
  by_cases x1 : x = 1
  · subst x1
    rw [e_X_count, if_neg (show ¬ (1 : Int32) = 0 by decide), if_pos (show (1 : Int32) = 1 from rfl), rl_ref h, cref hcc, crefc hcc, c_columnCount (d := d + 48) hcc (rl_cf h).1]
    rw [e_M_count, if_neg (show ¬ (1 : Int32) = 0 by decide), if_pos (show (1 : Int32) = 1 from rfl), hcm.2.1]
    exact hK _ _ ht
  by_cases x2 : x = 2
  · subst x2
    rw [e_X_count, if_neg (show ¬ (2 : Int32) = 0 by decide), if_neg (show ¬ (2 : Int32) = 1 by decide), if_pos (show (2 : Int32) = 2 from rfl), rl_ref h, cref hcc, crefc hcc, c_streetSet (d := d + 48) hcc, c_bitCount (d := d + 48), streets_cnt hg (rl_cf h).1]
    rw [e_M_count, if_neg (show ¬ (2 : Int32) = 0 by decide), if_neg (show ¬ (2 : Int32) = 1 by decide), if_pos (show (2 : Int32) = 2 from rfl)]
    exact g2 _ rfl
  by_cases x3 : x = 3
  · subst x3
    rw [e_X_count, if_neg (show ¬ (3 : Int32) = 0 by decide), if_neg (show ¬ (3 : Int32) = 1 by decide), if_neg (show ¬ (3 : Int32) = 2 by decide), if_pos (show (3 : Int32) = 3 from rfl), rl_ref h, cref hcc, crefc hcc, c_sourceCount (d := d + 48) hcc (rl_cf h).1]
    rw [e_M_count, if_neg (show ¬ (3 : Int32) = 0 by decide), if_neg (show ¬ (3 : Int32) = 1 by decide), if_neg (show ¬ (3 : Int32) = 2 by decide), if_pos (show (3 : Int32) = 3 from rfl), hcm.2.2.1]
    exact hK _ _ ht
  by_cases x4 : x = 4
  · subst x4
    rw [e_X_count, if_neg (show ¬ (4 : Int32) = 0 by decide), if_neg (show ¬ (4 : Int32) = 1 by decide), if_neg (show ¬ (4 : Int32) = 2 by decide), if_neg (show ¬ (4 : Int32) = 3 by decide), if_pos (show (4 : Int32) = 4 from rfl), n2]
    rw [e_M_count, if_neg (show ¬ (4 : Int32) = 0 by decide), if_neg (show ¬ (4 : Int32) = 1 by decide), if_neg (show ¬ (4 : Int32) = 2 by decide), if_neg (show ¬ (4 : Int32) = 3 by decide), if_pos (show (4 : Int32) = 4 from rfl), n3]
    exact hK _ _ ht
  by_cases x5 : x = 5
  · subst x5
    rw [e_X_count, if_neg (show ¬ (5 : Int32) = 0 by decide), if_neg (show ¬ (5 : Int32) = 1 by decide), if_neg (show ¬ (5 : Int32) = 2 by decide), if_neg (show ¬ (5 : Int32) = 3 by decide), if_neg (show ¬ (5 : Int32) = 4 by decide), if_pos (show (5 : Int32) = 5 from rfl), e_T_size, t1]
    rw [e_M_count, if_neg (show ¬ (5 : Int32) = 0 by decide), if_neg (show ¬ (5 : Int32) = 1 by decide), if_neg (show ¬ (5 : Int32) = 2 by decide), if_neg (show ¬ (5 : Int32) = 3 by decide), if_neg (show ¬ (5 : Int32) = 4 by decide), if_pos (show (5 : Int32) = 5 from rfl), t2]
    exact hK _ _ ht
  by_cases x6 : x = 6
  · subst x6
    rw [e_X_count, if_neg (show ¬ (6 : Int32) = 0 by decide), if_neg (show ¬ (6 : Int32) = 1 by decide), if_neg (show ¬ (6 : Int32) = 2 by decide), if_neg (show ¬ (6 : Int32) = 3 by decide), if_neg (show ¬ (6 : Int32) = 4 by decide), if_neg (show ¬ (6 : Int32) = 5 by decide), if_pos (show (6 : Int32) = 6 from rfl), show (2 : Int32) = nI 2 from rfl, c_now (d := d + 47) (by omega)]
    rw [e_M_count, if_neg (show ¬ (6 : Int32) = 0 by decide), if_neg (show ¬ (6 : Int32) = 1 by decide), if_neg (show ¬ (6 : Int32) = 2 by decide), if_neg (show ¬ (6 : Int32) = 3 by decide), if_neg (show ¬ (6 : Int32) = 4 by decide), if_neg (show ¬ (6 : Int32) = 5 by decide), if_pos (show (6 : Int32) = 6 from rfl), h68 2 (by decide)]
    exact hK _ _ ht
  by_cases x7 : x = 7
  · subst x7
    rw [e_X_count, if_neg (show ¬ (7 : Int32) = 0 by decide), if_neg (show ¬ (7 : Int32) = 1 by decide), if_neg (show ¬ (7 : Int32) = 2 by decide), if_neg (show ¬ (7 : Int32) = 3 by decide), if_neg (show ¬ (7 : Int32) = 4 by decide), if_neg (show ¬ (7 : Int32) = 5 by decide), if_neg (show ¬ (7 : Int32) = 6 by decide), if_pos (show (7 : Int32) = 7 from rfl), show (0 : Int32) = nI 0 from rfl, c_now (d := d + 47) (by omega)]
    rw [e_M_count, if_neg (show ¬ (7 : Int32) = 0 by decide), if_neg (show ¬ (7 : Int32) = 1 by decide), if_neg (show ¬ (7 : Int32) = 2 by decide), if_neg (show ¬ (7 : Int32) = 3 by decide), if_neg (show ¬ (7 : Int32) = 4 by decide), if_neg (show ¬ (7 : Int32) = 5 by decide), if_neg (show ¬ (7 : Int32) = 6 by decide), if_pos (show (7 : Int32) = 7 from rfl), h68 0 (by decide)]
    exact hK _ _ ht
  by_cases x8 : x = 8
  · subst x8
    rw [e_X_count, if_neg (show ¬ (8 : Int32) = 0 by decide), if_neg (show ¬ (8 : Int32) = 1 by decide), if_neg (show ¬ (8 : Int32) = 2 by decide), if_neg (show ¬ (8 : Int32) = 3 by decide), if_neg (show ¬ (8 : Int32) = 4 by decide), if_neg (show ¬ (8 : Int32) = 5 by decide), if_neg (show ¬ (8 : Int32) = 6 by decide), if_neg (show ¬ (8 : Int32) = 7 by decide), if_pos (show (8 : Int32) = 8 from rfl), show (1 : Int32) = nI 1 from rfl, c_now (d := d + 47) (by omega)]
    rw [e_M_count, if_neg (show ¬ (8 : Int32) = 0 by decide), if_neg (show ¬ (8 : Int32) = 1 by decide), if_neg (show ¬ (8 : Int32) = 2 by decide), if_neg (show ¬ (8 : Int32) = 3 by decide), if_neg (show ¬ (8 : Int32) = 4 by decide), if_neg (show ¬ (8 : Int32) = 5 by decide), if_neg (show ¬ (8 : Int32) = 6 by decide), if_neg (show ¬ (8 : Int32) = 7 by decide), if_pos (show (8 : Int32) = 8 from rfl), h68 1 (by decide)]
    exact hK _ _ ht
  by_cases x9 : x = 9
  · subst x9
    rw [e_X_count, if_neg (show ¬ (9 : Int32) = 0 by decide), if_neg (show ¬ (9 : Int32) = 1 by decide), if_neg (show ¬ (9 : Int32) = 2 by decide), if_neg (show ¬ (9 : Int32) = 3 by decide), if_neg (show ¬ (9 : Int32) = 4 by decide), if_neg (show ¬ (9 : Int32) = 5 by decide), if_neg (show ¬ (9 : Int32) = 6 by decide), if_neg (show ¬ (9 : Int32) = 7 by decide), if_neg (show ¬ (9 : Int32) = 8 by decide), if_pos (show (9 : Int32) = 9 from rfl), show (3 : Int32) = nI 3 from rfl, c_now (d := d + 47) (by omega)]
    rw [e_M_count, if_neg (show ¬ (9 : Int32) = 0 by decide), if_neg (show ¬ (9 : Int32) = 1 by decide), if_neg (show ¬ (9 : Int32) = 2 by decide), if_neg (show ¬ (9 : Int32) = 3 by decide), if_neg (show ¬ (9 : Int32) = 4 by decide), if_neg (show ¬ (9 : Int32) = 5 by decide), if_neg (show ¬ (9 : Int32) = 6 by decide), if_neg (show ¬ (9 : Int32) = 7 by decide), if_neg (show ¬ (9 : Int32) = 8 by decide), if_pos (show (9 : Int32) = 9 from rfl), h68 3 (by decide)]
    exact hK _ _ ht
  by_cases x10 : x = 10
  · subst x10
    rw [e_X_count, if_neg (show ¬ (10 : Int32) = 0 by decide), if_neg (show ¬ (10 : Int32) = 1 by decide), if_neg (show ¬ (10 : Int32) = 2 by decide), if_neg (show ¬ (10 : Int32) = 3 by decide), if_neg (show ¬ (10 : Int32) = 4 by decide), if_neg (show ¬ (10 : Int32) = 5 by decide), if_neg (show ¬ (10 : Int32) = 6 by decide), if_neg (show ¬ (10 : Int32) = 7 by decide), if_neg (show ¬ (10 : Int32) = 8 by decide), if_neg (show ¬ (10 : Int32) = 9 by decide), if_pos (show (10 : Int32) = 10 from rfl), e_S_size, hC.1]
    rw [e_M_count, if_neg (show ¬ (10 : Int32) = 0 by decide), if_neg (show ¬ (10 : Int32) = 1 by decide), if_neg (show ¬ (10 : Int32) = 2 by decide), if_neg (show ¬ (10 : Int32) = 3 by decide), if_neg (show ¬ (10 : Int32) = 4 by decide), if_neg (show ¬ (10 : Int32) = 5 by decide), if_neg (show ¬ (10 : Int32) = 6 by decide), if_neg (show ¬ (10 : Int32) = 7 by decide), if_neg (show ¬ (10 : Int32) = 8 by decide), if_neg (show ¬ (10 : Int32) = 9 by decide), if_pos (show (10 : Int32) = 10 from rfl), hM.1]
    exact hK _ _ ht
  by_cases x11 : x = 11
  · subst x11
    rw [e_X_count, if_neg (show ¬ (11 : Int32) = 0 by decide), if_neg (show ¬ (11 : Int32) = 1 by decide), if_neg (show ¬ (11 : Int32) = 2 by decide), if_neg (show ¬ (11 : Int32) = 3 by decide), if_neg (show ¬ (11 : Int32) = 4 by decide), if_neg (show ¬ (11 : Int32) = 5 by decide), if_neg (show ¬ (11 : Int32) = 6 by decide), if_neg (show ¬ (11 : Int32) = 7 by decide), if_neg (show ¬ (11 : Int32) = 8 by decide), if_neg (show ¬ (11 : Int32) = 9 by decide), if_neg (show ¬ (11 : Int32) = 10 by decide), if_pos (show (11 : Int32) = 11 from rfl), e_N_size, hNC.1]
    rw [e_M_count, if_neg (show ¬ (11 : Int32) = 0 by decide), if_neg (show ¬ (11 : Int32) = 1 by decide), if_neg (show ¬ (11 : Int32) = 2 by decide), if_neg (show ¬ (11 : Int32) = 3 by decide), if_neg (show ¬ (11 : Int32) = 4 by decide), if_neg (show ¬ (11 : Int32) = 5 by decide), if_neg (show ¬ (11 : Int32) = 6 by decide), if_neg (show ¬ (11 : Int32) = 7 by decide), if_neg (show ¬ (11 : Int32) = 8 by decide), if_neg (show ¬ (11 : Int32) = 9 by decide), if_neg (show ¬ (11 : Int32) = 10 by decide), if_pos (show (11 : Int32) = 11 from rfl), hNM.1]
    exact hK _ _ ht
  by_cases x12 : x = 12
  · subst x12
    rw [e_X_count, if_neg (show ¬ (12 : Int32) = 0 by decide), if_neg (show ¬ (12 : Int32) = 1 by decide), if_neg (show ¬ (12 : Int32) = 2 by decide), if_neg (show ¬ (12 : Int32) = 3 by decide), if_neg (show ¬ (12 : Int32) = 4 by decide), if_neg (show ¬ (12 : Int32) = 5 by decide), if_neg (show ¬ (12 : Int32) = 6 by decide), if_neg (show ¬ (12 : Int32) = 7 by decide), if_neg (show ¬ (12 : Int32) = 8 by decide), if_neg (show ¬ (12 : Int32) = 9 by decide), if_neg (show ¬ (12 : Int32) = 10 by decide), if_neg (show ¬ (12 : Int32) = 11 by decide), if_pos (show (12 : Int32) = 12 from rfl), e_W_actCount, h33]
    rw [e_M_count, if_neg (show ¬ (12 : Int32) = 0 by decide), if_neg (show ¬ (12 : Int32) = 1 by decide), if_neg (show ¬ (12 : Int32) = 2 by decide), if_neg (show ¬ (12 : Int32) = 3 by decide), if_neg (show ¬ (12 : Int32) = 4 by decide), if_neg (show ¬ (12 : Int32) = 5 by decide), if_neg (show ¬ (12 : Int32) = 6 by decide), if_neg (show ¬ (12 : Int32) = 7 by decide), if_neg (show ¬ (12 : Int32) = 8 by decide), if_neg (show ¬ (12 : Int32) = 9 by decide), if_neg (show ¬ (12 : Int32) = 10 by decide), if_neg (show ¬ (12 : Int32) = 11 by decide), if_pos (show (12 : Int32) = 12 from rfl), h57]
    exact hK _ _ ht
  rw [e_X_count, if_neg x0, if_neg x1, if_neg x2, if_neg x3, if_neg x4, if_neg x5, if_neg x6, if_neg x7, if_neg x8, if_neg x9, if_neg x10, if_neg x11, if_neg x12, e_M_count, if_neg x0, if_neg x1, if_neg x2, if_neg x3, if_neg x4, if_neg x5, if_neg x6, if_neg x7, if_neg x8, if_neg x9, if_neg x10, if_neg x11, if_neg x12]
  exact hK _ _ ht
end
