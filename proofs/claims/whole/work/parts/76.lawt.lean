/-! source(); the text of a law -/
section
variable {d c : Nat} {g : Gph} {s t : Mem}
theorem L_src1 {K : Int32 → Int32 → Mem → Prop} (h : REL c g s) {x y : Int32} (ho : srcOk s x y) (hK : ∀ v s', REL c g s' → s' 57 0 = nI 0 → s' 56 0 = v → K v v s') :
    wI (wp (d + 50)) m_X_source [.ref 0, .int x, .int y] s (fun v s1 => wI (wp (d + 50)) m_M_source [.ref 57, .int x, .int y] (upM s1 56 0 v) (fun v' s2 => K v v' s2)) := by
  have hcc := rl_isC h
  have hg := rl_gOk h
  have hS := hg.2.2.1
  have h20 := gN_le hg
  obtain ⟨o1, o2, o3, o4⟩ := ho
  rw [rl_ref h, crefc hcc, (rl_cf h).1.2.2.1] at o2
  have hx : ∃ i : Nat, i < gS g ∧ x = nI i := by
    have o1' := o1
    have o2' := o2
    rw [q0, Int32.lt_iff_toInt_lt, n_i (by omega)] at o1'
    rw [Int32.lt_iff_toInt_lt, n_i (by omega)] at o2'
    exact ⟨x.toInt.toNat, by omega, Int32.toInt_inj.mp (by rw [n_i (by omega)]; omega)⟩
  obtain ⟨i, hi, rfl⟩ := hx
  have hy : 0 ≤ y.toInt ∧ y.toInt ≤ 6 := by
    rw [q0, Int32.lt_iff_toInt_lt, n_i (by omega)] at o3
    rw [q6, Int32.lt_iff_toInt_lt, n_i (by omega)] at o4
    omega
  obtain ⟨j, hj, rfl⟩ := inN (n := 6) hy (by decide)
  have hit := hg.2.2.2.2.2 i hi
  have fin : ∀ v : Int32, K v v (upM (upM s 56 0 v) 57 0 (nI 0)) := fun v => by
    have hf : frN [56] [0] s (upM (upM s 56 0 v) 57 0 (nI 0)) := frN_t (frN_u (by simp) (by decide)) (frN_v (by simp))
    exact hK v _ (REL_B h hf ⟨by simp [upM], by simp [upM]⟩ (by decide) (by decide) (TapR_n (rl_tap h) hf (by decide) (by decide)) (LawsR_n (rl_laws h) hf (by decide) (by decide)) (NowR_n (rl_now h) hf (by decide)) (ActR_n (rl_act h) hf (by decide) (by decide)) (ImgR_n (rl_img h) hf (by decide) (by decide)) (TrR_n (rl_tr h) hf (by decide) (by decide)) (NtR_n (rl_nt h) hf (by decide) (by decide))) up_at (by simp [upM])
  have e4 : s 68 4 = s 34 4 := (rl_now h).2 4 (by decide)
  obtain ⟨⟨w, rn, hr, dl, v0, v1, v2, v3, v4⟩, h68⟩ := rl_now h
  have e2 : s 68 2 = nI hr := by rw [h68 2 (by decide)]; exact v2.1
  rw [e_X_source, if_neg o1, rl_ref h, cref hcc, crefc hcc, c_sourceCount (d := d + 48) hcc (rl_cf h).1, if_pos o2, if_neg o3, if_neg o4]
  have cu : ∀ v, CityM g (upM s 56 0 v) := fun v => CityM_N (L := [56]) (J := []) (frN_u (by simp) (by decide)) (by decide) (by decide) (rl_cm h)
  have cu0 : ∀ v, CityM g (upM (upM s 56 0 v) 57 0 (nI 0)) := fun v => CityM_N (L := [56]) (J := [0]) (frN_t (frN_u (by simp) (by decide)) (frN_v (by simp))) (by decide) (by decide) (rl_cm h)
  have hsrc : decide (¬ nI i < 0 ∧ nI i < nI (gS g)) = true := decide_eq_true ⟨o1, o2⟩
  have mM : ∀ v : Int32, wI (wp (d + 50)) m_M_source [.ref 57, .int (nI i), .int (nI j)] (upM s 56 0 v) (fun v' s2 => K v v' s2) = (if j = 0 then K v (nI (git g i 0)) (upM (upM s 56 0 v) 57 0 (nI 0)) else if j = 1 then K v (nI (gsp g i / gC g * 10 + gsp g i % gC g)) (upM (upM s 56 0 v) 57 0 (nI 0)) else if j ≤ 4 then K v (nI (git g i (j + 1))) (upM (upM s 56 0 v) 57 0 (nI 0)) else if j = 5 then K v (b01 (tb (s 34 4) i)) (upM (upM s 56 0 v) 57 0 (nI 0)) else K v (b01 (tb (s 34 4) i && tml g (hr % 24) i)) (upM (upM s 56 0 v) 57 0 (nI 0))) := by
    intro v
    have h65 : ∀ q, q < 6 → (upM s 56 0 v) 65 (6 * i + q) = nI (git g i q) := fun q hq => (cu v).2.2.2.2 i q hi hq
    rw [e_M_source, m_isSource (d := d + 48) hg (cu v), ifb, hsrc, if_pos rfl, mi6 (d := d + 48), decide_eq_true hy, ifb, if_pos rfl]
    rcases (show j = 0 ∨ j = 1 ∨ j = 2 ∨ j = 3 ∨ j = 4 ∨ j = 5 ∨ j = 6 by omega) with rfl | rfl | rfl | rfl | rfl | rfl | rfl
    · simp (disch := omega) only [↓n_m1, ↓n_hid, q0, q1, q2, q3, q4, q5, q6, q7, q8, q9, q10, q11, q12, q13, q14, q15, q16, q17, q18, q19, q20, q21, q22, q23, q24, q25, q26, q27, q28, q29, q30, q31, q32, q33, q34, q35, q36, q37, q38, q39, q40, q41, q42, q43, q44, q45, q46, q47, q48, q49, q50, q51, q52, q53, q54, q55, q56, q57, q58, q59, q61, q62, q63, q64, q66, q67, q68, q69, q70, q71, q91, q93, q99, q100, q102, q104, q107, q108, q112, q114, q115, q119, q121, q124, q160, q200, q255, q640, q999, q1000, q2000, q4096, n_of, nI_ltI, nI_leI, nI_eq, nI_clamp, nI_add, pk_mul, n_sub, m1_eq, m1_eq2, m1_lt, m1_lt2, gdN, Nat.not_lt_zero, false_or, if_true, if_false, if_pos, if_neg, cond_true, cond_false, beq_self, and_self, true_and, and_true, not_true_eq_false, not_false_eq_true, ne_eq, h65 0 (by decide)]
      rw [show (upM s 56 0 v) 65 (6 * i) = nI (git g i 0) from h65 0 (by decide)]
    · simp (disch := omega) only [↓n_m1, ↓n_hid, q0, q1, q2, q3, q4, q5, q6, q7, q8, q9, q10, q11, q12, q13, q14, q15, q16, q17, q18, q19, q20, q21, q22, q23, q24, q25, q26, q27, q28, q29, q30, q31, q32, q33, q34, q35, q36, q37, q38, q39, q40, q41, q42, q43, q44, q45, q46, q47, q48, q49, q50, q51, q52, q53, q54, q55, q56, q57, q58, q59, q61, q62, q63, q64, q66, q67, q68, q69, q70, q71, q91, q93, q99, q100, q102, q104, q107, q108, q112, q114, q115, q119, q121, q124, q160, q200, q255, q640, q999, q1000, q2000, q4096, n_of, nI_ltI, nI_leI, nI_eq, nI_clamp, nI_add, pk_mul, n_sub, m1_eq, m1_eq2, m1_lt, m1_lt2, gdN, Nat.not_lt_zero, false_or, if_true, if_false, if_pos, if_neg, cond_true, cond_false, beq_self, and_self, true_and, and_true, not_true_eq_false, not_false_eq_true, ne_eq]
      rw [m_placeOfSource (d := d + 48) hg (cu0 v) hi, m_cellOf (d := d + 48) hg (cu0 v) (gsp_lt hg hi)]
    · simp (disch := omega) only [↓n_m1, ↓n_hid, q0, q1, q2, q3, q4, q5, q6, q7, q8, q9, q10, q11, q12, q13, q14, q15, q16, q17, q18, q19, q20, q21, q22, q23, q24, q25, q26, q27, q28, q29, q30, q31, q32, q33, q34, q35, q36, q37, q38, q39, q40, q41, q42, q43, q44, q45, q46, q47, q48, q49, q50, q51, q52, q53, q54, q55, q56, q57, q58, q59, q61, q62, q63, q64, q66, q67, q68, q69, q70, q71, q91, q93, q99, q100, q102, q104, q107, q108, q112, q114, q115, q119, q121, q124, q160, q200, q255, q640, q999, q1000, q2000, q4096, n_of, nI_ltI, nI_leI, nI_eq, nI_clamp, nI_add, pk_mul, n_sub, m1_eq, m1_eq2, m1_lt, m1_lt2, gdN, Nat.not_lt_zero, false_or, if_true, if_false, if_pos, if_neg, cond_true, cond_false, beq_self, and_self, true_and, and_true, not_true_eq_false, not_false_eq_true, ne_eq, h65 3 (by decide)]
    · simp (disch := omega) only [↓n_m1, ↓n_hid, q0, q1, q2, q3, q4, q5, q6, q7, q8, q9, q10, q11, q12, q13, q14, q15, q16, q17, q18, q19, q20, q21, q22, q23, q24, q25, q26, q27, q28, q29, q30, q31, q32, q33, q34, q35, q36, q37, q38, q39, q40, q41, q42, q43, q44, q45, q46, q47, q48, q49, q50, q51, q52, q53, q54, q55, q56, q57, q58, q59, q61, q62, q63, q64, q66, q67, q68, q69, q70, q71, q91, q93, q99, q100, q102, q104, q107, q108, q112, q114, q115, q119, q121, q124, q160, q200, q255, q640, q999, q1000, q2000, q4096, n_of, nI_ltI, nI_leI, nI_eq, nI_clamp, nI_add, pk_mul, n_sub, m1_eq, m1_eq2, m1_lt, m1_lt2, gdN, Nat.not_lt_zero, false_or, if_true, if_false, if_pos, if_neg, cond_true, cond_false, beq_self, and_self, true_and, and_true, not_true_eq_false, not_false_eq_true, ne_eq, h65 4 (by decide)]
    · simp (disch := omega) only [↓n_m1, ↓n_hid, q0, q1, q2, q3, q4, q5, q6, q7, q8, q9, q10, q11, q12, q13, q14, q15, q16, q17, q18, q19, q20, q21, q22, q23, q24, q25, q26, q27, q28, q29, q30, q31, q32, q33, q34, q35, q36, q37, q38, q39, q40, q41, q42, q43, q44, q45, q46, q47, q48, q49, q50, q51, q52, q53, q54, q55, q56, q57, q58, q59, q61, q62, q63, q64, q66, q67, q68, q69, q70, q71, q91, q93, q99, q100, q102, q104, q107, q108, q112, q114, q115, q119, q121, q124, q160, q200, q255, q640, q999, q1000, q2000, q4096, n_of, nI_ltI, nI_leI, nI_eq, nI_clamp, nI_add, pk_mul, n_sub, m1_eq, m1_eq2, m1_lt, m1_lt2, gdN, Nat.not_lt_zero, false_or, if_true, if_false, if_pos, if_neg, cond_true, cond_false, beq_self, and_self, true_and, and_true, not_true_eq_false, not_false_eq_true, ne_eq, h65 5 (by decide)]
    · simp (disch := omega) only [↓n_m1, ↓n_hid, q0, q1, q2, q3, q4, q5, q6, q7, q8, q9, q10, q11, q12, q13, q14, q15, q16, q17, q18, q19, q20, q21, q22, q23, q24, q25, q26, q27, q28, q29, q30, q31, q32, q33, q34, q35, q36, q37, q38, q39, q40, q41, q42, q43, q44, q45, q46, q47, q48, q49, q50, q51, q52, q53, q54, q55, q56, q57, q58, q59, q61, q62, q63, q64, q66, q67, q68, q69, q70, q71, q91, q93, q99, q100, q102, q104, q107, q108, q112, q114, q115, q119, q121, q124, q160, q200, q255, q640, q999, q1000, q2000, q4096, n_of, nI_ltI, nI_leI, nI_eq, nI_clamp, nI_add, pk_mul, n_sub, m1_eq, m1_eq2, m1_lt, m1_lt2, gdN, Nat.not_lt_zero, false_or, if_true, if_false, if_pos, if_neg, cond_true, cond_false, beq_self, and_self, true_and, and_true, not_true_eq_false, not_false_eq_true, ne_eq]
      rw [up_ce (show 68 ≠ 56 by decide), e4, m_has (d := d + 48) (by omega)]
      cases tb (s 34 4) i
      · rw [if_pos (show b01 false = nI 0 from rfl)]; rfl
      · rw [if_neg (show ¬ b01 true = nI 0 by decide)]; rfl
    · simp (disch := omega) only [↓n_m1, ↓n_hid, q0, q1, q2, q3, q4, q5, q6, q7, q8, q9, q10, q11, q12, q13, q14, q15, q16, q17, q18, q19, q20, q21, q22, q23, q24, q25, q26, q27, q28, q29, q30, q31, q32, q33, q34, q35, q36, q37, q38, q39, q40, q41, q42, q43, q44, q45, q46, q47, q48, q49, q50, q51, q52, q53, q54, q55, q56, q57, q58, q59, q61, q62, q63, q64, q66, q67, q68, q69, q70, q71, q91, q93, q99, q100, q102, q104, q107, q108, q112, q114, q115, q119, q121, q124, q160, q200, q255, q640, q999, q1000, q2000, q4096, n_of, nI_ltI, nI_leI, nI_eq, nI_clamp, nI_add, pk_mul, n_sub, m1_eq, m1_eq2, m1_lt, m1_lt2, gdN, Nat.not_lt_zero, false_or, if_true, if_false, if_pos, if_neg, cond_true, cond_false, beq_self, and_self, true_and, and_true, not_true_eq_false, not_false_eq_true, ne_eq]
      have es : (upM (upM s 56 0 v) 57 0 (nI 0)) 68 = s 68 := by rw [up_ce (by decide), up_ce (by decide)]
      rw [m_smells (d := d + 47) hg (cu0 v) (by rw [es]; exact e2) v2.2 hi, es, e4]
      cases tb (s 34 4) i && tml g (hr % 24) i
      · rw [if_pos (show b01 false = nI 0 from rfl)]; rfl
      · rw [if_neg (show ¬ b01 true = nI 0 by decide)]; rfl
  have it : ∀ q, q < 6 → ∀ K : Int32 → Mem → Prop, wI (wp (d + 49)) m_C_item [.ref c, .int (nI i), .int (nI q)] s K = K (nI (git g i q)) s := fun q hq K => c_item (d := d + 47) hcc hg (rl_cf h).1 hi hq
  rcases (show j = 0 ∨ j = 1 ∨ j = 2 ∨ j = 3 ∨ j = 4 ∨ j = 5 ∨ j = 6 by omega) with rfl | rfl | rfl | rfl | rfl | rfl | rfl
  · rw [if_pos (show nI 0 = 0 from rfl), rl_ref h, cref hcc, crefc hcc, show (0 : Int32) = nI 0 from rfl, it 0 (by decide), mM, if_pos rfl]
    exact fin _
  · rw [if_neg (show ¬ nI 1 = 0 by decide), if_pos (show nI 1 = 1 from rfl), rl_ref h, cref2 hcc, cref hcc, crefc hcc, c_sourcePlace (d := d + 46) hcc hg (rl_cf h).1 hi, C_b hcc]
    simp only [cond_true]
    rw [c_cellOf (d := d + 48) hcc hg (rl_cf h).1 (gsp_lt hg hi), mM, if_neg (by decide), if_pos rfl]
    exact fin _
  · rw [if_neg (show ¬ nI 2 = 0 by decide), if_neg (show ¬ nI 2 = 1 by decide), if_pos (show nI 2 = 2 from rfl), rl_ref h, cref hcc, crefc hcc, show (3 : Int32) = nI 3 from rfl, it 3 (by decide), mM, if_neg (by decide), if_neg (by decide), if_pos (by decide)]
    exact fin _
  · rw [if_neg (show ¬ nI 3 = 0 by decide), if_neg (show ¬ nI 3 = 1 by decide), if_neg (show ¬ nI 3 = 2 by decide), if_pos (show nI 3 = 3 from rfl), rl_ref h, cref hcc, crefc hcc, show (4 : Int32) = nI 4 from rfl, it 4 (by decide), mM, if_neg (by decide), if_neg (by decide), if_pos (by decide)]
    exact fin _
  · rw [if_neg (show ¬ nI 4 = 0 by decide), if_neg (show ¬ nI 4 = 1 by decide), if_neg (show ¬ nI 4 = 2 by decide), if_neg (show ¬ nI 4 = 3 by decide), if_pos (show nI 4 = 4 from rfl), rl_ref h, cref hcc, crefc hcc, show (5 : Int32) = nI 5 from rfl, it 5 (by decide), mM, if_neg (by decide), if_neg (by decide), if_pos (by decide)]
    exact fin _
  · rw [if_neg (show ¬ nI 5 = 0 by decide), if_neg (show ¬ nI 5 = 1 by decide), if_neg (show ¬ nI 5 = 2 by decide), if_neg (show ¬ nI 5 = 3 by decide), if_neg (show ¬ nI 5 = 4 by decide), if_pos (show nI 5 = 5 from rfl), show (4 : Int32) = nI 4 from rfl, c_now (d := d + 47) (by omega), show (31 : Int32) = nI 31 from rfl, show (1 : Int32) = nI 1 from rfl, sh_b (by omega), mM, if_neg (by decide), if_neg (by decide), if_neg (by decide), if_pos rfl]
    exact fin _
  · rw [if_neg (show ¬ nI 6 = 0 by decide), if_neg (show ¬ nI 6 = 1 by decide), if_neg (show ¬ nI 6 = 2 by decide), if_neg (show ¬ nI 6 = 3 by decide), if_neg (show ¬ nI 6 = 4 by decide), if_neg (show ¬ nI 6 = 5 by decide), c_smelling (d := d + 45) hcc hg (rl_ref h) (rl_cf h).1 v2.1 v2.2, show (31 : Int32) = nI 31 from rfl, show (1 : Int32) = nI 1 from rfl, sh_b (by omega), tb_smI hg, decide_eq_true hi, Bool.true_and, mM, if_neg (by decide), if_neg (by decide), if_neg (by decide), if_neg (by decide)]
    exact fin _
theorem L_src0 {K : Int32 → Mem → Prop} (h : REL c g s) {x y : Int32} (ho : ¬ srcOk s x y) (hK : ∀ s', REL c g s' → s' 57 0 = nI 1 → K (nI 0) s') :
    wI (wp (d + 50)) m_M_source [.ref 57, .int x, .int y] s K := by
  have hcc := rl_isC h
  have hg := rl_gOk h
  have hS := hg.2.2.1
  unfold srcOk at ho
  rw [rl_ref h, crefc hcc, (rl_cf h).1.2.2.1] at ho
  have fin : K (nI 0) (upM s 57 0 (nI 1)) := by
    have hf : frN [] [0] s (upM s 57 0 (nI 1)) := frN_v (by simp)
    exact hK _ (REL_thr h) up_at
  rw [e_M_source, m_isSource (d := d + 48) hg (rl_cm h), ifb]
  by_cases h1 : ¬ x < 0 ∧ x < nI (gS g)
  · rw [decide_eq_true h1, if_pos rfl, mi6 (d := d + 48), ifb]
    by_cases hy : 0 ≤ y.toInt ∧ y.toInt ≤ 6
    · exfalso
      refine ho ⟨h1.1, h1.2, ?_, ?_⟩
      · rw [q0, Int32.lt_iff_toInt_lt, n_i (by omega)]; omega
      · rw [q6, Int32.lt_iff_toInt_lt, n_i (by omega)]; omega
    · rw [decide_eq_false hy, if_neg (by decide)]
      exact fin
  · rw [decide_eq_false h1, if_neg (by decide)]
    exact fin
/-! the text of a law -/
/-- a law that is not counted may change -/
theorem REL_Lw (h : REL c g s) {nl : Nat} (hn : nl ≤ 4) (h4 : s 0 4 = nI nl) (hf : frN [1, 18 + 3 * nl, 18 + 3 * nl + 1] ((0 : Nat) :: JL) s t) (ht : TapR t) : REL c g t := by
  obtain ⟨nl', n1, n2, n3, n4, n5, n6⟩ := rl_laws h
  obtain rfl : nl' = nl := by
    rw [h4, nI_eq (by omega) (by omega)] at n2
    exact n2.symm
  have no : ∀ a, a < 18 ∨ 32 < a → a ≠ 1 → a ∉ [1, 18 + 3 * nl', 18 + 3 * nl' + 1] := fun a h1 h2 z => by
    simp only [List.mem_cons, List.not_mem_nil, or_false] at z
    omega
  have e : ∀ a, a < 18 ∨ 32 < a → a ≠ 1 → a ≠ 57 → t a = s a := fun a h1 h2 h3 => hf.1 a (no a h1 h2) h3
  refine REL_B h hf ⟨by rw [e 0 (by omega) (by decide) (by decide)], by rw [e 0 (by omega) (by decide) (by decide)]⟩ (fun a z => by simp only [List.mem_cons, List.not_mem_nil, or_false] at z; omega) (by decide) ht ?_ (NowR_n (rl_now h) hf ⟨no _ (by omega) (by decide), no _ (by omega) (by decide)⟩) (ActR_n (rl_act h) hf ⟨no _ (by omega) (by decide), no _ (by omega) (by decide), no _ (by omega) (by decide)⟩ (by decide)) (ImgR_n (rl_img h) hf ⟨no _ (by omega) (by decide), no _ (by omega) (by decide), no _ (by omega) (by decide)⟩ (by decide)) (TrR_n (rl_tr h) hf ⟨no _ (by omega) (by decide), no _ (by omega) (by decide), no _ (by omega) (by decide), no _ (by omega) (by decide), no _ (by omega) (by decide)⟩ (by decide)) (NtR_n (rl_nt h) hf ⟨no _ (by omega) (by decide), no _ (by omega) (by decide), no _ (by omega) (by decide), no _ (by omega) (by decide), no _ (by omega) (by decide), no _ (by omega) (by decide), no _ (by omega) (by decide), no _ (by omega) (by decide), no _ (by omega) (by decide)⟩ (by decide))
  refine ⟨nl', n1, by rw [e 0 (by omega) (by decide) (by decide)]; exact n2, by rw [hf.2 7 (by decide)]; exact n3, fun i hi => ?_, by rw [hf.2 32 (by decide), e 0 (by omega) (by decide) (by decide)]; exact n5, by rw [e 0 (by omega) (by decide) (by decide)]; exact n6⟩
  obtain ⟨T, cs, l1, l2, l3, l4, l5⟩ := n4 i hi
  refine ⟨T, cs, l1, l2, ?_, by rw [e 60 (by omega) (by decide) (by decide)]; exact l4, fun j hj => by rw [e 59 (by omega) (by decide) (by decide)]; exact l5 j hj⟩
  unfold CodeA at *
  have ne : ∀ a, a = 18 + 3 * i ∨ a = 18 + 3 * i + 1 → t a = s a := fun a ha => hf.1 a (fun z => by simp only [List.mem_cons, List.not_mem_nil, or_false] at z; omega) (by omega)
  rw [ne _ (Or.inl rfl), ne _ (Or.inr rfl)]
  exact l3
theorem x_read1 {K : Int32 → Mem → Prop} {T : Txt} (hT : TxOk T) {nl : Nat} (hn : nl ≤ 4) (h4 : s 0 4 = nI nl) (t1 : s 1 1 = nI T.2) (t3 : ∀ k, k < T.2 → s 2 k = nI (T.1 k)) {y : Int32} (hy : ¬ y = 0) (hK : LKl T (18 + 3 * nl) (lawP T) s K) : wI (wp (d + 49)) m_X_read [.ref 0, .int y] s K := by
  rw [e_X_read, if_neg hy, h4, e_X_lawAt]
  simp (disch := omega) only [↓n_m1, ↓n_hid, q0, q1, q2, q3, q4, q5, q6, q7, q8, q9, q10, q11, q12, q13, q14, q15, q16, q17, q18, q19, q20, q21, q22, q23, q24, q25, q26, q27, q28, q29, q30, q31, q32, q33, q34, q35, q36, q37, q38, q39, q40, q41, q42, q43, q44, q45, q46, q47, q48, q49, q50, q51, q52, q53, q54, q55, q56, q57, q58, q59, q61, q62, q63, q64, q66, q67, q68, q69, q70, q71, q91, q93, q99, q100, q102, q104, q107, q108, q112, q114, q115, q119, q121, q124, q160, q200, q255, q640, q999, q1000, q2000, q4096, n_of, nI_ltI, nI_leI, nI_eq, nI_clamp, nI_add, pk_mul, n_sub, m1_eq, m1_eq2, m1_lt, m1_lt2, gdN, Nat.not_lt_zero, false_or, if_true, if_false, if_pos, if_neg, cond_true, cond_false, beq_self, and_self, true_and, and_true, not_true_eq_false, not_false_eq_true, ne_eq]
  refine c_readLaw hT ⟨nl, by omega, rfl⟩ (by omega) t1 t3 ?_
  revert hK
  cases lawP T with
  | inl f =>
    intro hK s' f' g'
    simp only [if_true]
    exact hK s' f' g'
  | inr cs =>
    intro hK s' p f' g'
    rw [if_neg (by decide)]
    exact hK s' p f' g'
theorem L_fault1 {K : Int32 → Int32 → Mem → Prop} (h : REL c g s) (hK : ∀ v s', REL c g s' → K v v s') :
    wI (wp (d + 50)) m_X_fault [.ref 0, .int 1] s (fun v s1 => wI (wp (d + 50)) m_M_fault [.ref 57, .int 1] s1 (fun v' s2 => K v v' s2)) := by
  obtain ⟨T, hT, t1, t2, t3, t4⟩ := rl_tap h
  obtain ⟨nl, n1, n2, n3, n4, n5, n6⟩ := rl_laws h
  have h160 := hT.1
  have hll : ∀ {u : Mem}, frm [1, 18 + 3 * nl, 18 + 3 * nl + 1] s u → u 57 = s 57 ∧ u 58 = s 58 ∧ u 2 = s 2 := fun f => ⟨f 57 (by simp; omega), f 58 (by simp; omega), f 2 (by simp; omega)⟩
  have mM : ∀ (u : Mem) (v : Int32), frm [1, 18 + 3 * nl, 18 + 3 * nl + 1] s u → u 1 1 = nI T.2 → (match lawP T with
      | .inl f => v = nI f
      | .inr _ => v = m1) → wI (wp (d + 50)) m_M_fault [.ref 57, .int 1] u (fun v' s2 => K v v' s2) := by
    intro u v fu e11 hv
    obtain ⟨e57, e58, e2⟩ := hll fu
    rw [e_M_fault, mi1 (d := d + 48), decide_eq_true (by decide), ifb, if_pos rfl, if_neg (by decide), up_pl (by decide), e57, t2, show (0 : Int32) = nI 0 from rfl]
    refine m_goThrough hT (by omega) (Or.inl ⟨rfl, rfl⟩) (fun j hj => by rw [up_ce (by decide), e58, Nat.zero_add]; exact t4 j hj) ?_
    have tapR : ∀ w, frN [] JL (upM u 57 0 (nI 0)) w → REL c g w := fun w fw => by
      refine REL_Lw h n1 n2 (frN_t (frN_w (frN_f (J := []) fu (by simp; omega)) (fun _ z => z) (by simp)) (frN_t (frN_v (by simp)) (frN_w fw (by simp) (fun _ z => List.mem_cons_of_mem _ z)))) ⟨T, hT, ?_, ?_, fun k hk => ?_, fun k hk => ?_⟩
      · rw [fw.1 1 (by decide) (by decide), up_ce (by decide)]; exact e11
      · rw [fw.2 6 (by decide), up_pl (by decide), e57]; exact t2
      · rw [fw.1 2 (by decide) (by decide), up_ce (by decide), e2]; exact t3 k hk
      · rw [fw.1 58 (by decide) (by decide), up_ce (by decide), e58]; exact t4 k hk
    revert hv
    cases lawP T with
    | inl f =>
      intro hv w fw e11'
      rw [e11', hv]
      exact hK _ _ (tapR w fw)
    | inr cs =>
      intro hv w fw e11' _
      rw [e11', hv]
      exact hK _ _ (tapR w fw)
  rw [e_X_fault, if_neg (by decide), if_pos rfl]
  refine x_read1 hT n1 n2 t1 t3 (by decide) ?_
  cases hl : lawP T with
  | inl f =>
    intro u fu gu
    rw [e_T_firstWrong]
    rw [gu.1.2.2.1]
    exact mM u _ fu gu.1.1 (by rw [hl])
  | inr cs =>
    intro u p fu gu
    rw [e_T_firstWrong]
    rw [gu.1.2.2.1]
    exact mM u _ fu gu.1.1 (by rw [hl])
theorem L_text1 {K : Int32 → Int32 → Mem → Prop} (h : REL c g s) (hK : ∀ v s', REL c g s' → K v v s') :
    wI (wp (d + 50)) m_X_text [.ref 0, .int 1] s (fun v s1 => wI (wp (d + 50)) m_M_text [.ref 57, .int 1] s1 (fun v' s2 => K v v' s2)) := by
  obtain ⟨T, hT, t1, t2, t3, t4⟩ := rl_tap h
  obtain ⟨nl, n1, n2, n3, n4, n5, n6⟩ := rl_laws h
  have h160 := hT.1
  have ht : REL c g (upM s 57 0 0) := REL_thr h (x := nI 0)
  have hll : ∀ {u : Mem}, frm [1, 18 + 3 * nl, 18 + 3 * nl + 1] s u → u 57 = s 57 ∧ u 58 = s 58 ∧ u 2 = s 2 := fun f => ⟨f 57 (by simp; omega), f 58 (by simp; omega), f 2 (by simp; omega)⟩
  rw [e_X_text, if_neg (by decide), if_pos rfl, n2]
  by_cases h4 : nl = 4
  · rw [if_neg (show ¬ nI nl < 4 by rw [h4]; decide), e_M_text, mi1 (d := d + 48), decide_eq_true (by decide), ifb, if_pos rfl, if_pos rfl, up_pl (by decide), n3, if_pos (show nI nl = 4 by rw [h4]; rfl)]
    exact hK _ _ ht
  · have ne4 : ¬ nI nl = 4 := by rw [q4, nI_eq (by omega) (by omega)]; exact h4
    rw [if_pos (show nI nl < 4 by rw [q4, nI_ltI (by omega) (by omega)]; omega)]
    refine x_read1 (d := d) hT n1 n2 t1 t3 (by decide) ?_
    -- the reference's reading
    have mF : ∀ (u : Mem) (KK : Int32 → Mem → Prop), u 57 6 = nI T.2 → u 58 = s 58 → (match lawP T with
        | .inl f => ∀ w, frN [] (0 :: JL) u w → KK (nI f) w
        | .inr cs => ∀ w, frN [] (0 :: JL) u w → KK m1 w) → wI (wp (d + 49)) m_M_fault [.ref 57, .int 1] u KK := by
      intro u KK e6 e58 hKK
      rw [e_M_fault, mi1 (d := d + 47), decide_eq_true (by decide), ifb, if_pos rfl, if_neg (by decide), up_pl (by decide), e6, show (0 : Int32) = nI 0 from rfl]
      refine m_goThrough hT (by omega) (Or.inl ⟨rfl, rfl⟩) (fun j hj => by rw [up_ce (by decide), e58, Nat.zero_add]; exact t4 j hj) ?_
      revert hKK
      cases lawP T with
      | inl f =>
        intro hKK w fw e11
        rw [e11]
        exact hKK w (frN_t (frN_v (by simp)) (frN_w fw (by simp) (fun _ z => List.mem_cons_of_mem _ z)))
      | inr cs =>
        intro hKK w fw e11 _
        rw [e11]
        exact hKK w (frN_t (frN_v (by simp)) (frN_w fw (by simp) (fun _ z => List.mem_cons_of_mem _ z)))
    cases hl : lawP T with
    | inl f =>
      intro u fu gu
      obtain ⟨e57, e58, e2⟩ := hll fu
      have hf160 : f ≤ 160 := Nat.le_trans gu.1.2.2.2.1 h160
      rw [if_pos (show nI 0 = 0 from rfl), e_M_text, mi1 (d := d + 48), decide_eq_true (by decide), ifb, if_pos rfl, if_pos rfl, up_pl (by decide), e57, n3, if_neg ne4]
      refine mF _ _ (by rw [up_pl (by decide), e57]; exact t2) (by rw [up_ce (by decide), e58]) ?_
      rw [hl]
      intro w fw
      rw [if_neg (show ¬ nI f = -1 from fun z => by rw [n_m1, m1_eq (by omega)] at z; exact z)]
      refine hK _ _ (REL_Lw h n1 n2 (frN_t (frN_w (frN_f (J := []) fu (by simp; omega)) (fun _ z => z) (by simp)) (frN_t (frN_v (by simp)) (frN_w fw (by simp) (fun _ z => z)))) ⟨T, hT, ?_, ?_, fun k hk => ?_, fun k hk => ?_⟩)
      · rw [fw.1 1 (by decide) (by decide), up_ce (by decide)]; exact gu.1.1
      · rw [fw.2 6 (by decide), up_pl (by decide), e57]; exact t2
      · rw [fw.1 2 (by decide) (by decide), up_ce (by decide), e2]; exact t3 k hk
      · rw [fw.1 58 (by decide) (by decide), up_ce (by decide), e58]; exact t4 k hk
    | inr cs =>
      intro u p fu gu
      obtain ⟨e57, e58, e2⟩ := hll fu
      have e0 : u 0 = s 0 := fu 0 (by simp; omega)
      rw [if_neg (show ¬ nI 1 = 0 by decide), e_T_cut, c_min (d := d + 47), c_max (d := d + 47)]
      have em : (if (0 : Int32) < (if (0 : Int32) < u 1 1 then 0 else u 1 1) then (if (0 : Int32) < u 1 1 then 0 else u 1 1) else 0) = nI 0 := by
        rw [gu.1.1]
        by_cases hh : 0 < T.2
        · rw [if_pos (show (0 : Int32) < nI T.2 by rw [q0, nI_ltI (by omega) (by omega)]; exact hh)]; decide
        · rw [show T.2 = 0 by omega]; decide
      rw [em, up_ce (show 0 ≠ 1 by decide), e0, n2, show nI nl + 1 = nI (nl + 1) from nI_add nl 1, show nI (nl + 1) - 1 = nI nl by rw [show (1 : Int32) = nI 1 from rfl, n_sub (by omega)]; rfl]
      generalize hu2 : upM (upM u 1 1 (nI 0)) 0 4 (nI (nl + 1)) = u2
      have fu2 : frm [0, 1] u u2 := by rw [← hu2]; exact frm_t (frm_u (by simp)) (frm_u (by simp))
      have v57 : u2 57 = s 57 := by rw [fu2 57 (by simp)]; exact e57
      have v58 : u2 58 = s 58 := by rw [fu2 58 (by simp)]; exact e58
      rw [e_M_text, mi1 (d := d + 48), decide_eq_true (by decide), ifb, if_pos rfl, if_pos rfl, up_pl (by decide), v57, n3, if_neg ne4]
      refine mF _ _ (by rw [up_pl (by decide), v57]; exact t2) (by rw [up_ce (by decide), v58]) ?_
      rw [hl]
      intro w fw
      rw [if_pos (show m1 = -1 from rfl), if_pos rfl]
      have fuw : frN [] (0 :: JL) u2 w := frN_t (frN_v (by simp)) fw
      have w7 : w 57 7 = nI nl := by rw [fuw.2 7 (by decide), v57]; exact n3
      have w6 : w 57 6 = nI T.2 := by rw [fuw.2 6 (by decide), v57]; exact t2
      have w58 : w 58 = s 58 := by rw [fuw.1 58 (by decide) (by decide), v58]
      have lm : ∀ {K : Int32 → Mem → Prop}, (∀ x, frN [59, 60] [6, 7] w x → x 57 6 = nI 0 → x 57 7 = nI (nl + 1) → (∀ j, j < T.2 → x 59 (160 * nl + j) = byI (T.1 j)) → (∀ j, j < 160 * nl → x 59 j = w 59 j) → x 60 nl = nI T.2 → (∀ j, j ≠ nl → x 60 j = w 60 j) → K (nI nl) x) → ∀ (q i : Nat) (v1 v4 : Value) (x : Mem), i + q = T.2 → frN [59] [6] w x → x 57 6 = nI 0 → (∀ j, j < i → x 59 (160 * nl + j) = byI (T.1 j)) → (∀ j, j < 160 * nl → x 59 j = w 59 j) → RnI (d + 49) m_M_text K 56 [.ref 57, v1, .int (nI T.2), .int (nI i), v4] [] x := by
        intro K hK q
        induction q with
        | zero =>
          intro i v1 v4 x hi hf h6 hb hlo
          obtain rfl : i = T.2 := by omega
          rw [r_M_text_56, hf.2 7 (by decide), w7]
          simp (disch := omega) only [↓n_m1, ↓n_hid, q0, q1, q2, q3, q4, q5, q6, q7, q8, q9, q10, q11, q12, q13, q14, q15, q16, q17, q18, q19, q20, q21, q22, q23, q24, q25, q26, q27, q28, q29, q30, q31, q32, q33, q34, q35, q36, q37, q38, q39, q40, q41, q42, q43, q44, q45, q46, q47, q48, q49, q50, q51, q52, q53, q54, q55, q56, q57, q58, q59, q61, q62, q63, q64, q66, q67, q68, q69, q70, q71, q91, q93, q99, q100, q102, q104, q107, q108, q112, q114, q115, q119, q121, q124, q160, q200, q255, q640, q999, q1000, q2000, q4096, n_of, nI_ltI, nI_leI, nI_eq, nI_clamp, nI_add, pk_mul, n_sub, m1_eq, m1_eq2, m1_lt, m1_lt2, gdN, Nat.not_lt_zero, false_or, if_true, if_false, if_pos, if_neg, cond_true, cond_false, beq_self, and_self, true_and, and_true, not_true_eq_false, not_false_eq_true, ne_eq]
          refine hK _ (frN_t (frN_w hf (by simp) (by simp)) (frN_t (frN_u (by simp) (by decide)) (frN_v (by simp)))) ?_ up_at (fun j hj => ?_) (fun j hj => ?_) ?_ (fun j hj => ?_)
          · rw [up_pl (by decide), up_ce (by decide)]; exact h6
          · rw [up_ce (by decide), up_ce (by decide)]; exact hb j hj
          · rw [up_ce (by decide), up_ce (by decide)]; exact hlo j hj
          · rw [up_ce (by decide), up_at]
          · rw [up_ce (by decide), up_pl hj, hf.1 60 (by decide) (by decide)]
        | succ q ih =>
          intro i v1 v4 x hi hf h6 hb hlo
          rw [r_M_text_56, hf.2 7 (by decide), w7, hf.1 58 (by decide) (by decide), w58]
          simp (disch := omega) only [↓n_m1, ↓n_hid, q0, q1, q2, q3, q4, q5, q6, q7, q8, q9, q10, q11, q12, q13, q14, q15, q16, q17, q18, q19, q20, q21, q22, q23, q24, q25, q26, q27, q28, q29, q30, q31, q32, q33, q34, q35, q36, q37, q38, q39, q40, q41, q42, q43, q44, q45, q46, q47, q48, q49, q50, q51, q52, q53, q54, q55, q56, q57, q58, q59, q61, q62, q63, q64, q66, q67, q68, q69, q70, q71, q91, q93, q99, q100, q102, q104, q107, q108, q112, q114, q115, q119, q121, q124, q160, q200, q255, q640, q999, q1000, q2000, q4096, n_of, nI_ltI, nI_leI, nI_eq, nI_clamp, nI_add, pk_mul, n_sub, m1_eq, m1_eq2, m1_lt, m1_lt2, gdN, Nat.not_lt_zero, false_or, if_true, if_false, if_pos, if_neg, cond_true, cond_false, beq_self, and_self, true_and, and_true, not_true_eq_false, not_false_eq_true, ne_eq, t4 i (by omega)]
          rw [byI_id]
          refine ih (i + 1) _ _ _ (by omega) (frN_t hf (frN_u (by simp) (by decide))) (by rw [up_ce (by decide)]; exact h6) (fun j hj => ?_) (fun j hj => ?_)
          · by_cases e : j = i
            · rw [e, up_at]
            · rw [up_pl (by omega)]; exact hb j (by omega)
          · rw [up_pl (by omega)]; exact hlo j hj
      rw [w6, show (0 : Int32) = nI 0 from rfl]
      refine lm (fun x fx x6 x7 xb xlo x60 x60' => ?_) T.2 0 _ _ _ (by omega) (frN_v (by simp)) up_at (fun j hj => by omega) (fun j hj => by rw [up_ce (by decide)])
      -- all together
      have fr1 : frN [0, 1, 18 + 3 * nl, 18 + 3 * nl + 1] (0 :: JL) s w := frN_t (frN_w (frN_f (J := []) fu (by simp; omega)) (fun _ z => List.mem_cons_of_mem _ z) (by simp)) (frN_t (frN_w (frN_f (J := []) fu2 (by simp)) (fun a z => by simp at z ⊢; omega) (by simp)) (frN_w fuw (by simp) (fun _ z => z)))
      have fr : frN [0, 1, 59, 60, 18 + 3 * nl, 18 + 3 * nl + 1] (6 :: 7 :: 0 :: JL) s x := frN_t (frN_w fr1 (fun a z => by simp only [List.mem_cons, List.not_mem_nil, or_false] at z ⊢; omega) (fun _ z => List.mem_cons_of_mem _ (List.mem_cons_of_mem _ z))) (frN_w fx (fun a z => by simp only [List.mem_cons, List.not_mem_nil, or_false] at z ⊢; omega) (by simp))
      have no : ∀ a, a < 18 ∨ 32 < a → a ≠ 0 → a ≠ 1 → a ≠ 59 → a ≠ 60 → a ∉ [0, 1, 59, 60, 18 + 3 * nl, 18 + 3 * nl + 1] := fun a h1 h2 h3 h4 h5 z => by
        simp only [List.mem_cons, List.not_mem_nil, or_false] at z
        omega
      have x0 : ∀ j, x 0 j = if j = 4 then nI (nl + 1) else s 0 j := fun j => by
        rw [fx.1 0 (by decide) (by decide), fuw.1 0 (by decide) (by decide), ← hu2]
        by_cases e : j = 4
        · rw [if_pos e, e, up_at]
        · rw [if_neg e, up_pl e, up_ce (by decide), e0]
      refine hK _ _ (REL_B h fr ⟨by rw [x0, if_neg (by decide)], by rw [x0, if_neg (by decide)]⟩ (fun a z => by simp only [List.mem_cons, List.not_mem_nil, or_false] at z; omega) (by decide) ⟨(T.1, 0), ⟨Nat.zero_le _, fun k hk => absurd hk (Nat.not_lt_zero k)⟩, ?_, x6, fun k hk => absurd hk (Nat.not_lt_zero k), fun k hk => absurd hk (Nat.not_lt_zero k)⟩ ⟨nl + 1, by omega, by rw [x0, if_pos rfl], x7, fun i hi => ?_, ?_, ?_⟩ (NowR_n (rl_now h) fr ⟨no _ (by omega) (by decide) (by decide) (by decide) (by decide), no _ (by omega) (by decide) (by decide) (by decide) (by decide)⟩) (ActR_n (rl_act h) fr ⟨no _ (by omega) (by decide) (by decide) (by decide) (by decide), no _ (by omega) (by decide) (by decide) (by decide) (by decide), no _ (by omega) (by decide) (by decide) (by decide) (by decide)⟩ (by decide)) (ImgR_n (rl_img h) fr ⟨no _ (by omega) (by decide) (by decide) (by decide) (by decide), no _ (by omega) (by decide) (by decide) (by decide) (by decide), no _ (by omega) (by decide) (by decide) (by decide) (by decide)⟩ (by decide)) (TrR_n (rl_tr h) fr ⟨no _ (by omega) (by decide) (by decide) (by decide) (by decide), no _ (by omega) (by decide) (by decide) (by decide) (by decide), no _ (by omega) (by decide) (by decide) (by decide) (by decide), no _ (by omega) (by decide) (by decide) (by decide) (by decide), no _ (by omega) (by decide) (by decide) (by decide) (by decide)⟩ (by decide)) (NtR_n (rl_nt h) fr ⟨no _ (by omega) (by decide) (by decide) (by decide) (by decide), no _ (by omega) (by decide) (by decide) (by decide) (by decide), no _ (by omega) (by decide) (by decide) (by decide) (by decide), no _ (by omega) (by decide) (by decide) (by decide) (by decide), no _ (by omega) (by decide) (by decide) (by decide) (by decide), no _ (by omega) (by decide) (by decide) (by decide) (by decide), no _ (by omega) (by decide) (by decide) (by decide) (by decide), no _ (by omega) (by decide) (by decide) (by decide) (by decide), no _ (by omega) (by decide) (by decide) (by decide) (by decide)⟩ (by decide)))
      · rw [fx.1 1 (by decide) (by decide), fuw.1 1 (by decide) (by decide), ← hu2, up_ce (by decide), up_at]
      · have xl : ∀ a, 18 ≤ a → a ≤ 32 → x a = u a := fun a h1 h2 => by
          rw [fx.1 a (by simp; omega) (by omega), fuw.1 a (by simp) (by omega), fu2 a (by simp; omega)]
        by_cases e : i = nl
        · subst e
          refine ⟨T, cs, hT, hl, ?_, x60, xb⟩
          have := gu.2
          unfold CodeA at *
          rw [xl _ (by omega) (by omega), xl _ (by omega) (by omega)]
          exact this
        · obtain ⟨T', cs', l1, l2, l3, l4, l5⟩ := n4 i (by omega)
          have h160' := l1.1
          have w59 : w 59 = s 59 := by rw [fuw.1 59 (by decide) (by decide), fu2 59 (by simp), fu 59 (by simp; omega)]
          have w60 : w 60 = s 60 := by rw [fuw.1 60 (by decide) (by decide), fu2 60 (by simp), fu 60 (by simp; omega)]
          refine ⟨T', cs', l1, l2, ?_, by rw [x60' i e, w60]; exact l4, fun j hj => by rw [xlo _ (by omega), w59]; exact l5 j hj⟩
          unfold CodeA at *
          rw [xl _ (by omega) (by omega), xl _ (by omega) (by omega), fu (18 + 3 * i) (by simp; omega), fu (18 + 3 * i + 1) (by simp; omega)]
          exact l3
      · rw [x0, if_neg (by decide), fr.2 32 (by decide)]; exact n5
      · rw [x0, if_neg (by decide)]
        rcases n6 with z | ⟨i, hi, z⟩
        · exact Or.inl z
        · exact Or.inr ⟨i, by omega, z⟩
end
