/-! the thief: runs -/
section
variable {d c : Nat} {g : Gph}
theorem c_spread {K : Int32 → Mem → Prop} (hcc : isC c) (hg : gOk g) {s : Mem} (hc : CityC c g s) {y : Int32} : wI (wp (d + 4)) m_C_spread [.ref c, .int y] s K = K (spr g y) s := by
  have h20 := gN_le hg
  have lp : ∀ (n i : Nat) (x : Int32) (v4 : Value), i + n = gN g → RnI (d + 3) m_C_spread K 4 [.ref c, .int y, .int x, .int (nI i), v4] [] s = K (itr (fun k x => if tb y k = true then sprS g k x else x) n i x) s := by
    intro n
    induction n with
    | zero =>
      intro i x v4 hi
      rw [r_C_spread_4, c_cells hcc hc]
      simp (disch := omega) only [↓n_m1, ↓n_hid, q0, q1, q2, q3, q4, q5, q6, q7, q8, q9, q10, q11, q12, q13, q14, q15, q16, q17, q18, q19, q20, q21, q22, q23, q24, q25, q26, q27, q28, q29, q30, q31, q32, q33, q34, q35, q36, q37, q38, q39, q40, q41, q42, q43, q44, q45, q46, q47, q48, q49, q50, q51, q52, q53, q54, q55, q56, q57, q58, q59, q61, q62, q63, q64, q66, q67, q68, q69, q70, q71, q91, q93, q99, q100, q102, q104, q107, q108, q112, q114, q115, q119, q121, q124, q160, q200, q255, q640, q999, q1000, q2000, q4096, n_of, nI_ltI, nI_leI, nI_eq, nI_clamp, nI_add, pk_mul, n_sub, m1_eq, m1_eq2, m1_lt, m1_lt2, gdN, Nat.not_lt_zero, false_or, if_true, if_false, if_pos, if_neg, cond_true, cond_false, beq_self, and_self, true_and, and_true, not_true_eq_false, not_false_eq_true, ne_eq, C_b hcc]
      rfl
    | succ n ih =>
      intro i x v4 hi
      have inner : ∀ (m j : Nat) (x : Int32), j + m = 5 → RnI (d + 3) m_C_spread K 23 [.ref c, .int y, .int x, .int (nI i), .int (nI j)] [] s = K (itr (fun k x => if tb y k = true then sprS g k x else x) n (i + 1) (itr (fun side x => x ||| bit (bes g i side)) m j x)) s := by
        intro m
        induction m with
        | zero =>
          intro j x hj
          rw [r_C_spread_23]
          simp (disch := omega) only [↓n_m1, ↓n_hid, q0, q1, q2, q3, q4, q5, q6, q7, q8, q9, q10, q11, q12, q13, q14, q15, q16, q17, q18, q19, q20, q21, q22, q23, q24, q25, q26, q27, q28, q29, q30, q31, q32, q33, q34, q35, q36, q37, q38, q39, q40, q41, q42, q43, q44, q45, q46, q47, q48, q49, q50, q51, q52, q53, q54, q55, q56, q57, q58, q59, q61, q62, q63, q64, q66, q67, q68, q69, q70, q71, q91, q93, q99, q100, q102, q104, q107, q108, q112, q114, q115, q119, q121, q124, q160, q200, q255, q640, q999, q1000, q2000, q4096, n_of, nI_ltI, nI_leI, nI_eq, nI_clamp, nI_add, pk_mul, n_sub, m1_eq, m1_eq2, m1_lt, m1_lt2, gdN, Nat.not_lt_zero, false_or, if_true, if_false, if_pos, if_neg, cond_true, cond_false, beq_self, and_self, true_and, and_true, not_true_eq_false, not_false_eq_true, ne_eq]
          exact ih (i + 1) _ _ (by omega)
        | succ m ihm =>
          intro j x hj
          rw [r_C_spread_23]
          simp (disch := omega) only [↓n_m1, ↓n_hid, q0, q1, q2, q3, q4, q5, q6, q7, q8, q9, q10, q11, q12, q13, q14, q15, q16, q17, q18, q19, q20, q21, q22, q23, q24, q25, q26, q27, q28, q29, q30, q31, q32, q33, q34, q35, q36, q37, q38, q39, q40, q41, q42, q43, q44, q45, q46, q47, q48, q49, q50, q51, q52, q53, q54, q55, q56, q57, q58, q59, q61, q62, q63, q64, q66, q67, q68, q69, q70, q71, q91, q93, q99, q100, q102, q104, q107, q108, q112, q114, q115, q119, q121, q124, q160, q200, q255, q640, q999, q1000, q2000, q4096, n_of, nI_ltI, nI_leI, nI_eq, nI_clamp, nI_add, pk_mul, n_sub, m1_eq, m1_eq2, m1_lt, m1_lt2, gdN, Nat.not_lt_zero, false_or, if_true, if_false, if_pos, if_neg, cond_true, cond_false, beq_self, and_self, true_and, and_true, not_true_eq_false, not_false_eq_true, ne_eq, C_b hcc]
          rw [c_go (d := d + 1) hcc hg hc (by omega) (by omega), bit_e]
          exact ihm (j + 1) _ (by omega)
      rw [r_C_spread_4, c_cells hcc hc]
      simp (disch := omega) only [↓n_m1, ↓n_hid, q0, q1, q2, q3, q4, q5, q6, q7, q8, q9, q10, q11, q12, q13, q14, q15, q16, q17, q18, q19, q20, q21, q22, q23, q24, q25, q26, q27, q28, q29, q30, q31, q32, q33, q34, q35, q36, q37, q38, q39, q40, q41, q42, q43, q44, q45, q46, q47, q48, q49, q50, q51, q52, q53, q54, q55, q56, q57, q58, q59, q61, q62, q63, q64, q66, q67, q68, q69, q70, q71, q91, q93, q99, q100, q102, q104, q107, q108, q112, q114, q115, q119, q121, q124, q160, q200, q255, q640, q999, q1000, q2000, q4096, n_of, nI_ltI, nI_leI, nI_eq, nI_clamp, nI_add, pk_mul, n_sub, m1_eq, m1_eq2, m1_lt, m1_lt2, gdN, Nat.not_lt_zero, false_or, if_true, if_false, if_pos, if_neg, cond_true, cond_false, beq_self, and_self, true_and, and_true, not_true_eq_false, not_false_eq_true, ne_eq, C_b hcc, sh_b (show i < 32 by omega), b01_0]
      show _ = K (itr _ n (i + 1) (if tb y i = true then sprS g i x else x)) s
      cases hy : tb y i with
      | false => simp only [if_true, Bool.false_eq_true, if_false]; exact ih (i + 1) _ _ (by omega)
      | true => simp only [Bool.true_eq_false, if_false, if_true]; exact inner 4 1 x rfl
  rw [e_C_spread, q0]
  exact lp (gN g) 0 y _ (by omega)
theorem m_goesOn {K : Int32 → Mem → Prop} (hg : gOk g) {s : Mem} (hc : CityM g s) {y : Int32} : wI (wp (d + 4)) m_M_goesOn [.ref 57, .int y] s K = K (spr g y) s := by
  have h20 := gN_le hg
  have lp : ∀ (n i : Nat) (x : Int32) (v4 : Value), i + n = gN g → RnI (d + 3) m_M_goesOn K 4 [.ref 57, .int y, .int x, .int (nI i), v4] [] s = K (itr (fun k x => if tb y k = true then sprS g k x else x) n i x) s := by
    intro n
    induction n with
    | zero =>
      intro i x v4 hi
      rw [r_M_goesOn_4, m_cells hc]
      simp (disch := omega) only [↓n_m1, ↓n_hid, q0, q1, q2, q3, q4, q5, q6, q7, q8, q9, q10, q11, q12, q13, q14, q15, q16, q17, q18, q19, q20, q21, q22, q23, q24, q25, q26, q27, q28, q29, q30, q31, q32, q33, q34, q35, q36, q37, q38, q39, q40, q41, q42, q43, q44, q45, q46, q47, q48, q49, q50, q51, q52, q53, q54, q55, q56, q57, q58, q59, q61, q62, q63, q64, q66, q67, q68, q69, q70, q71, q91, q93, q99, q100, q102, q104, q107, q108, q112, q114, q115, q119, q121, q124, q160, q200, q255, q640, q999, q1000, q2000, q4096, n_of, nI_ltI, nI_leI, nI_eq, nI_clamp, nI_add, pk_mul, n_sub, m1_eq, m1_eq2, m1_lt, m1_lt2, gdN, Nat.not_lt_zero, false_or, if_true, if_false, if_pos, if_neg, cond_true, cond_false, beq_self, and_self, true_and, and_true, not_true_eq_false, not_false_eq_true, ne_eq]
      rfl
    | succ n ih =>
      intro i x v4 hi
      have inner : ∀ (m j : Nat) (x : Int32), j + m = 5 → 1 ≤ j → RnI (d + 3) m_M_goesOn K 15 [.ref 57, .int y, .int x, .int (nI i), .int (nI j)] [] s = K (itr (fun k x => if tb y k = true then sprS g k x else x) n (i + 1) (if tb y i = true then itr (fun side x => x ||| bit (bes g i side)) m j x else x)) s := by
        intro m
        induction m with
        | zero =>
          intro j x hj h1
          rw [r_M_goesOn_15]
          simp (disch := omega) only [↓n_m1, ↓n_hid, q0, q1, q2, q3, q4, q5, q6, q7, q8, q9, q10, q11, q12, q13, q14, q15, q16, q17, q18, q19, q20, q21, q22, q23, q24, q25, q26, q27, q28, q29, q30, q31, q32, q33, q34, q35, q36, q37, q38, q39, q40, q41, q42, q43, q44, q45, q46, q47, q48, q49, q50, q51, q52, q53, q54, q55, q56, q57, q58, q59, q61, q62, q63, q64, q66, q67, q68, q69, q70, q71, q91, q93, q99, q100, q102, q104, q107, q108, q112, q114, q115, q119, q121, q124, q160, q200, q255, q640, q999, q1000, q2000, q4096, n_of, nI_ltI, nI_leI, nI_eq, nI_clamp, nI_add, pk_mul, n_sub, m1_eq, m1_eq2, m1_lt, m1_lt2, gdN, Nat.not_lt_zero, false_or, if_true, if_false, if_pos, if_neg, cond_true, cond_false, beq_self, and_self, true_and, and_true, not_true_eq_false, not_false_eq_true, ne_eq]
          rw [ih (i + 1) _ _ (by omega)]
          cases tb y i <;> rfl
        | succ m ihm =>
          intro j x hj h1
          rw [r_M_goesOn_15]
          simp (disch := omega) only [↓n_m1, ↓n_hid, q0, q1, q2, q3, q4, q5, q6, q7, q8, q9, q10, q11, q12, q13, q14, q15, q16, q17, q18, q19, q20, q21, q22, q23, q24, q25, q26, q27, q28, q29, q30, q31, q32, q33, q34, q35, q36, q37, q38, q39, q40, q41, q42, q43, q44, q45, q46, q47, q48, q49, q50, q51, q52, q53, q54, q55, q56, q57, q58, q59, q61, q62, q63, q64, q66, q67, q68, q69, q70, q71, q91, q93, q99, q100, q102, q104, q107, q108, q112, q114, q115, q119, q121, q124, q160, q200, q255, q640, q999, q1000, q2000, q4096, n_of, nI_ltI, nI_leI, nI_eq, nI_clamp, nI_add, pk_mul, n_sub, m1_eq, m1_eq2, m1_lt, m1_lt2, gdN, Nat.not_lt_zero, false_or, if_true, if_false, if_pos, if_neg, cond_true, cond_false, beq_self, and_self, true_and, and_true, not_true_eq_false, not_false_eq_true, ne_eq]
          rw [m_has (by omega)]
          simp (disch := omega) only [↓n_m1, ↓n_hid, q0, q1, q2, q3, q4, q5, q6, q7, q8, q9, q10, q11, q12, q13, q14, q15, q16, q17, q18, q19, q20, q21, q22, q23, q24, q25, q26, q27, q28, q29, q30, q31, q32, q33, q34, q35, q36, q37, q38, q39, q40, q41, q42, q43, q44, q45, q46, q47, q48, q49, q50, q51, q52, q53, q54, q55, q56, q57, q58, q59, q61, q62, q63, q64, q66, q67, q68, q69, q70, q71, q91, q93, q99, q100, q102, q104, q107, q108, q112, q114, q115, q119, q121, q124, q160, q200, q255, q640, q999, q1000, q2000, q4096, n_of, nI_ltI, nI_leI, nI_eq, nI_clamp, nI_add, pk_mul, n_sub, m1_eq, m1_eq2, m1_lt, m1_lt2, gdN, Nat.not_lt_zero, false_or, if_true, if_false, if_pos, if_neg, cond_true, cond_false, beq_self, and_self, true_and, and_true, not_true_eq_false, not_false_eq_true, ne_eq, b01_0]
          rw [m_stays (d := d + 1) hg hc (show i < gN g by omega) ⟨h1, by omega⟩, bit_e, ihm (j + 1) _ (by omega) (by omega), ihm (j + 1) _ (by omega) (by omega)]
          cases hy : tb y i with
          | false => simp only [if_true, Bool.false_eq_true, if_false]
          | true => simp only [Bool.true_eq_false, if_false, if_true]; rfl
      rw [r_M_goesOn_4, m_cells hc]
      simp (disch := omega) only [↓n_m1, ↓n_hid, q0, q1, q2, q3, q4, q5, q6, q7, q8, q9, q10, q11, q12, q13, q14, q15, q16, q17, q18, q19, q20, q21, q22, q23, q24, q25, q26, q27, q28, q29, q30, q31, q32, q33, q34, q35, q36, q37, q38, q39, q40, q41, q42, q43, q44, q45, q46, q47, q48, q49, q50, q51, q52, q53, q54, q55, q56, q57, q58, q59, q61, q62, q63, q64, q66, q67, q68, q69, q70, q71, q91, q93, q99, q100, q102, q104, q107, q108, q112, q114, q115, q119, q121, q124, q160, q200, q255, q640, q999, q1000, q2000, q4096, n_of, nI_ltI, nI_leI, nI_eq, nI_clamp, nI_add, pk_mul, n_sub, m1_eq, m1_eq2, m1_lt, m1_lt2, gdN, Nat.not_lt_zero, false_or, if_true, if_false, if_pos, if_neg, cond_true, cond_false, beq_self, and_self, true_and, and_true, not_true_eq_false, not_false_eq_true, ne_eq]
      exact inner 4 1 x rfl (by omega)
  rw [e_M_goesOn, q0]
  exact lp (gN g) 0 y _ (by omega)
theorem CityF_f {L : List Nat} {s t : Mem} (h0 : c ∉ L) (h3 : c + 3 ∉ L) (h4 : c + 4 ∉ L) (h5 : c + 5 ∉ L) (h6 : c + 6 ∉ L) (hf : frm L s t) (h : CityF c g s) : CityF c g t := by
  refine ⟨CityC_f h0 h3 h4 hf h.1, fun w a hw ha => ?_⟩
  unfold FarC
  rw [hf (c + 6) h6, hf (c + 5) h5]
  exact h.2 w a hw ha
/-- the streets that are near -/
def nearB (g : Gph) (a st : Nat) : Int32 := bits (fun k => gst g k && decide (farG g 0 a k ≤ 2 * st)) (gN g)
theorem c_near {K : Int32 → Mem → Prop} (hcc : isC c) (hg : gOk g) {s : Mem} (hc : CityF c g s) {a st : Nat} (ha : a < gN g) (hst : st ≤ 9) (hK : ∀ s', frm [c + 5, c + 6] s s' → CityF c g s' → K (nearB g a st) s') : wI (wp (d + 6)) m_N_near [.ref c, .int (nI a), .int (nI st)] s K := by
  have h20 := gN_le hg
  have lp : ∀ (n i : Nat) (t : Mem) (v5 : Value), i + n = gN g → frm [c + 5, c + 6] s t → CityF c g t → RnI (d + 5) m_N_near K 5 [.ref c, .int (nI a), .int (nI st), .int (bits (fun k => gst g k && decide (farG g 0 a k ≤ 2 * st)) i), .int (nI i), v5] [] t := by
    intro n
    induction n with
    | zero =>
      intro i t v5 hi hf hct
      obtain rfl : i = gN g := by omega
      rw [r_N_near_5, c_cells hcc hct.1]
      simp (disch := omega) only [↓n_m1, ↓n_hid, q0, q1, q2, q3, q4, q5, q6, q7, q8, q9, q10, q11, q12, q13, q14, q15, q16, q17, q18, q19, q20, q21, q22, q23, q24, q25, q26, q27, q28, q29, q30, q31, q32, q33, q34, q35, q36, q37, q38, q39, q40, q41, q42, q43, q44, q45, q46, q47, q48, q49, q50, q51, q52, q53, q54, q55, q56, q57, q58, q59, q61, q62, q63, q64, q66, q67, q68, q69, q70, q71, q91, q93, q99, q100, q102, q104, q107, q108, q112, q114, q115, q119, q121, q124, q160, q200, q255, q640, q999, q1000, q2000, q4096, n_of, nI_ltI, nI_leI, nI_eq, nI_clamp, nI_add, pk_mul, n_sub, m1_eq, m1_eq2, m1_lt, m1_lt2, gdN, Nat.not_lt_zero, false_or, if_true, if_false, if_pos, if_neg, cond_true, cond_false, beq_self, and_self, true_and, and_true, not_true_eq_false, not_false_eq_true, ne_eq, C_b hcc]
      exact hK t hf hct
    | succ n ih =>
      intro i t v5 hi hf hct
      have h57 := far_b (w := 0) hg ha 20 i
      have e57 : farS g 0 a 20 i = farG g 0 a i := rfl
      rw [e57] at h57
      rw [r_N_near_5, c_cells hcc hct.1]
      simp (disch := omega) only [↓n_m1, ↓n_hid, q0, q1, q2, q3, q4, q5, q6, q7, q8, q9, q10, q11, q12, q13, q14, q15, q16, q17, q18, q19, q20, q21, q22, q23, q24, q25, q26, q27, q28, q29, q30, q31, q32, q33, q34, q35, q36, q37, q38, q39, q40, q41, q42, q43, q44, q45, q46, q47, q48, q49, q50, q51, q52, q53, q54, q55, q56, q57, q58, q59, q61, q62, q63, q64, q66, q67, q68, q69, q70, q71, q91, q93, q99, q100, q102, q104, q107, q108, q112, q114, q115, q119, q121, q124, q160, q200, q255, q640, q999, q1000, q2000, q4096, n_of, nI_ltI, nI_leI, nI_eq, nI_clamp, nI_add, pk_mul, n_sub, m1_eq, m1_eq2, m1_lt, m1_lt2, gdN, Nat.not_lt_zero, false_or, if_true, if_false, if_pos, if_neg, cond_true, cond_false, beq_self, and_self, true_and, and_true, not_true_eq_false, not_false_eq_true, ne_eq, C_b hcc]
      rw [c_isStreet hcc hg hct.1 (by omega)]
      simp (disch := omega) only [↓n_m1, ↓n_hid, q0, q1, q2, q3, q4, q5, q6, q7, q8, q9, q10, q11, q12, q13, q14, q15, q16, q17, q18, q19, q20, q21, q22, q23, q24, q25, q26, q27, q28, q29, q30, q31, q32, q33, q34, q35, q36, q37, q38, q39, q40, q41, q42, q43, q44, q45, q46, q47, q48, q49, q50, q51, q52, q53, q54, q55, q56, q57, q58, q59, q61, q62, q63, q64, q66, q67, q68, q69, q70, q71, q91, q93, q99, q100, q102, q104, q107, q108, q112, q114, q115, q119, q121, q124, q160, q200, q255, q640, q999, q1000, q2000, q4096, n_of, nI_ltI, nI_leI, nI_eq, nI_clamp, nI_add, pk_mul, n_sub, m1_eq, m1_eq2, m1_lt, m1_lt2, gdN, Nat.not_lt_zero, false_or, if_true, if_false, if_pos, if_neg, cond_true, cond_false, beq_self, and_self, true_and, and_true, not_true_eq_false, not_false_eq_true, ne_eq, b01_0]
      cases hs : gst g i with
      | false =>
        simp only [if_true]
        have := ih (i + 1) t (.int m1) (by omega) hf hct
        rw [bits_S, hs, Bool.false_and, if_neg (by simp)] at this
        exact this
      | true =>
        simp only [Bool.true_eq_false, if_false]
        refine c_farness (d := d + 1) hcc hg hct (by omega) ha (by omega) ?_
        intro u hfu hcu
        have nx := fun v5 => ih (i + 1) u v5 (by omega) (frm_t hf hfu) hcu
        simp only [bits_S, hs, Bool.true_and, decide_eq_true_eq] at nx
        unfold cosI
        by_cases h9 : farG g 0 a i = 1000
        · rw [h9] at nx
          rw [if_pos h9]
          simp only [if_true]
          simp only [show ¬ (1000 ≤ 2 * st) by omega, if_false] at nx
          exact nx _
        · rw [if_neg h9]
          by_cases hle : farG g 0 a i ≤ 2 * st
          · simp (disch := omega) only [↓n_m1, ↓n_hid, q0, q1, q2, q3, q4, q5, q6, q7, q8, q9, q10, q11, q12, q13, q14, q15, q16, q17, q18, q19, q20, q21, q22, q23, q24, q25, q26, q27, q28, q29, q30, q31, q32, q33, q34, q35, q36, q37, q38, q39, q40, q41, q42, q43, q44, q45, q46, q47, q48, q49, q50, q51, q52, q53, q54, q55, q56, q57, q58, q59, q61, q62, q63, q64, q66, q67, q68, q69, q70, q71, q91, q93, q99, q100, q102, q104, q107, q108, q112, q114, q115, q119, q121, q124, q160, q200, q255, q640, q999, q1000, q2000, q4096, n_of, nI_ltI, nI_leI, nI_eq, nI_clamp, nI_add, pk_mul, n_sub, m1_eq, m1_eq2, m1_lt, m1_lt2, gdN, Nat.not_lt_zero, false_or, if_true, if_false, if_pos, if_neg, cond_true, cond_false, beq_self, and_self, true_and, and_true, not_true_eq_false, not_false_eq_true, ne_eq, bit_e]
            simp only [hle, if_true] at nx
            exact nx _
          · simp (disch := omega) only [↓n_m1, ↓n_hid, q0, q1, q2, q3, q4, q5, q6, q7, q8, q9, q10, q11, q12, q13, q14, q15, q16, q17, q18, q19, q20, q21, q22, q23, q24, q25, q26, q27, q28, q29, q30, q31, q32, q33, q34, q35, q36, q37, q38, q39, q40, q41, q42, q43, q44, q45, q46, q47, q48, q49, q50, q51, q52, q53, q54, q55, q56, q57, q58, q59, q61, q62, q63, q64, q66, q67, q68, q69, q70, q71, q91, q93, q99, q100, q102, q104, q107, q108, q112, q114, q115, q119, q121, q124, q160, q200, q255, q640, q999, q1000, q2000, q4096, n_of, nI_ltI, nI_leI, nI_eq, nI_clamp, nI_add, pk_mul, n_sub, m1_eq, m1_eq2, m1_lt, m1_lt2, gdN, Nat.not_lt_zero, false_or, if_true, if_false, if_pos, if_neg, cond_true, cond_false, beq_self, and_self, true_and, and_true, not_true_eq_false, not_false_eq_true, ne_eq, bit_e]
            simp only [hle, if_false] at nx
            exact nx _
  rw [e_N_near, q0]
  exact lp (gN g) 0 s _ (by omega) frm_r hc
def NtC (nt : Nts) (s : Mem) : Prop := s 45 4 = nI nt.1 ∧ ∀ i, i < nt.1 → s 46 i = nI (nt.2.1 i) ∧ s 47 i = nI (nt.2.2.1 i) ∧ s 48 i = nI (nt.2.2.2.1 i) ∧ s 49 i = b01 (nt.2.2.2.2 i)
def NtM (nt : Nts) (s : Mem) : Prop := s 57 55 = nI nt.1 ∧ ∀ i, i < nt.1 → s 81 i = nI (nt.2.1 i) ∧ s 82 i = nI (nt.2.2.1 i) ∧ s 83 i = nI (nt.2.2.2.1 i) ∧ s 86 i = b01 (nt.2.2.2.2 i)
def NtOk (g : Gph) (nt : Nts) : Prop := nt.1 ≤ 12 ∧ ∀ i, i < nt.1 → nt.2.1 i ≤ 30 ∧ nt.2.2.1 i < gN g ∧ nt.2.2.2.1 i ≤ 9
theorem NtC_f {L : List Nat} {nt : Nts} {s t : Mem} (h5 : 45 ∉ L) (h6 : 46 ∉ L) (h7 : 47 ∉ L) (h8 : 48 ∉ L) (h9 : 49 ∉ L) (hf : frm L s t) (h : NtC nt s) : NtC nt t := by
  unfold NtC at *
  rw [hf 45 h5, hf 46 h6, hf 47 h7, hf 48 h8, hf 49 h9]
  exact h
/-- a set's places that the notes of minute m leave, n of them read -/
theorem c_noted {K : Int32 → Mem → Prop} (hcc : isC c) (hg : gOk g) {s : Mem} (hc : CityF c g s) {nt : Nts} (hn : NtOk g nt) (hN : NtC nt s) {m : Nat} (hm : m ≤ 30) {y : Int32} (hy : inS g y)
    (hK : ∀ s', frm [c + 5, c + 6] s s' → CityF c g s' → K (alw g nt m &&& y) s') : wI (wp (d + 8)) m_N_noted [.ref 45, .ref c, .int (nI m), .int y] s K := by
  have h20 := gN_le hg
  have hL := C_le hcc
  have n12 := hn.1
  have lp : ∀ (n i : Nat) (t : Mem) (x : Int32) (v3 v6 : Value), i + n = nt.1 → frm [c + 5, c + 6] s t → CityF c g t → (∀ k, tb x k = (tb y k && allB (ntB g nt m k) i)) → RnI (d + 7) m_N_noted K 6 [.ref 45, .ref c, .int (nI m), v3, .int x, .int (nI i), v6] [] t := by
    intro n
    induction n with
    | zero =>
      intro i t x v3 v6 hi hf hct hx
      obtain rfl : i = nt.1 := by omega
      have hNt : NtC nt t := NtC_f (by simp; omega) (by simp; omega) (by simp; omega) (by simp; omega) (by simp; omega) hf hN
      rw [r_N_noted_6, hNt.1]
      simp (disch := omega) only [↓n_m1, ↓n_hid, q0, q1, q2, q3, q4, q5, q6, q7, q8, q9, q10, q11, q12, q13, q14, q15, q16, q17, q18, q19, q20, q21, q22, q23, q24, q25, q26, q27, q28, q29, q30, q31, q32, q33, q34, q35, q36, q37, q38, q39, q40, q41, q42, q43, q44, q45, q46, q47, q48, q49, q50, q51, q52, q53, q54, q55, q56, q57, q58, q59, q61, q62, q63, q64, q66, q67, q68, q69, q70, q71, q91, q93, q99, q100, q102, q104, q107, q108, q112, q114, q115, q119, q121, q124, q160, q200, q255, q640, q999, q1000, q2000, q4096, n_of, nI_ltI, nI_leI, nI_eq, nI_clamp, nI_add, pk_mul, n_sub, m1_eq, m1_eq2, m1_lt, m1_lt2, gdN, Nat.not_lt_zero, false_or, if_true, if_false, if_pos, if_neg, cond_true, cond_false, beq_self, and_self, true_and, and_true, not_true_eq_false, not_false_eq_true, ne_eq]
      have e : x = alw g nt m &&& y := tb_ext fun k _ => by
        rw [hx k, tb_and, tb_alw hg]
        unfold okB
        cases hyk : tb y k with
        | false => simp
        | true => simp [hy k hyk]
      rw [e]
      exact hK t hf hct
    | succ n ih =>
      intro i t x v3 v6 hi hf hct hx
      have hNt : NtC nt t := NtC_f (by simp; omega) (by simp; omega) (by simp; omega) (by simp; omega) (by simp; omega) hf hN
      have hi1 := hNt.2 i (by omega)
      have hi2 := hn.2 i (by omega)
      rw [r_N_noted_6, hNt.1]
      simp (disch := omega) only [↓n_m1, ↓n_hid, q0, q1, q2, q3, q4, q5, q6, q7, q8, q9, q10, q11, q12, q13, q14, q15, q16, q17, q18, q19, q20, q21, q22, q23, q24, q25, q26, q27, q28, q29, q30, q31, q32, q33, q34, q35, q36, q37, q38, q39, q40, q41, q42, q43, q44, q45, q46, q47, q48, q49, q50, q51, q52, q53, q54, q55, q56, q57, q58, q59, q61, q62, q63, q64, q66, q67, q68, q69, q70, q71, q91, q93, q99, q100, q102, q104, q107, q108, q112, q114, q115, q119, q121, q124, q160, q200, q255, q640, q999, q1000, q2000, q4096, n_of, nI_ltI, nI_leI, nI_eq, nI_clamp, nI_add, pk_mul, n_sub, m1_eq, m1_eq2, m1_lt, m1_lt2, gdN, Nat.not_lt_zero, false_or, if_true, if_false, if_pos, if_neg, cond_true, cond_false, beq_self, and_self, true_and, and_true, not_true_eq_false, not_false_eq_true, ne_eq]
      rw [c_at (show (shp 46).1 = 20 from rfl) (show i < (shp 46).2 by show _ < 12; omega), hi1.1]
      simp (disch := omega) only [↓n_m1, ↓n_hid, q0, q1, q2, q3, q4, q5, q6, q7, q8, q9, q10, q11, q12, q13, q14, q15, q16, q17, q18, q19, q20, q21, q22, q23, q24, q25, q26, q27, q28, q29, q30, q31, q32, q33, q34, q35, q36, q37, q38, q39, q40, q41, q42, q43, q44, q45, q46, q47, q48, q49, q50, q51, q52, q53, q54, q55, q56, q57, q58, q59, q61, q62, q63, q64, q66, q67, q68, q69, q70, q71, q91, q93, q99, q100, q102, q104, q107, q108, q112, q114, q115, q119, q121, q124, q160, q200, q255, q640, q999, q1000, q2000, q4096, n_of, nI_ltI, nI_leI, nI_eq, nI_clamp, nI_add, pk_mul, n_sub, m1_eq, m1_eq2, m1_lt, m1_lt2, gdN, Nat.not_lt_zero, false_or, if_true, if_false, if_pos, if_neg, cond_true, cond_false, beq_self, and_self, true_and, and_true, not_true_eq_false, not_false_eq_true, ne_eq]
      by_cases hmi : nt.2.1 i = m
      · simp only [hmi, if_true]
        rw [c_at (show (shp 47).1 = 20 from rfl) (show i < (shp 47).2 by show _ < 12; omega), hi1.2.1, c_at (show (shp 48).1 = 20 from rfl) (show i < (shp 48).2 by show _ < 12; omega), hi1.2.2.1]
        refine c_near (d := d + 1) hcc hg hct hi2.2.1 hi2.2.2 ?_
        intro u hfu hcu
        have hNu : NtC nt u := NtC_f (by simp; omega) (by simp; omega) (by simp; omega) (by simp; omega) (by simp; omega) (frm_t hf hfu) hN
        have hiu := hNu.2 i (by omega)
        rw [c_at (show (shp 49).1 = 20 from rfl) (show i < (shp 49).2 by show _ < 12; omega), hiu.2.2.2]
        have key : ∀ z : Int32, (∀ k, tb z k = (tb x k && ntB g nt m k i)) → ∀ v6, RnI (d + 7) m_N_noted K 6 [.ref 45, .ref c, .int (nI m), uV, .int z, .int (nI (i + 1)), v6] [] u := by
          intro z hz v6
          refine ih (i + 1) u z _ _ (by omega) (frm_t hf hfu) hcu fun k => ?_
          rw [hz k, hx k]
          show _ = (tb y k && (allB (ntB g nt m k) i && ntB g nt m k i))
          rw [Bool.and_assoc]
        have hnr : ∀ k, tb x k = true → tb (nearB g (nt.2.2.1 i) (nt.2.2.2.1 i)) k = decide (farG g 0 (nt.2.2.1 i) k ≤ 2 * nt.2.2.2.1 i) := by
          intro k hk
          have hk2 := hy k (by rw [hx k, Bool.and_eq_true] at hk; exact hk.1)
          unfold nearB
          rw [tb_bits (by omega), decide_eq_true hk2.1, hk2.2, Bool.true_and, Bool.true_and]
        have hx32 : ∀ k, tb x k = true → k < 32 := fun k hk => by
          have hk2 := hy k (by rw [hx k, Bool.and_eq_true] at hk; exact hk.1)
          omega
        simp (disch := omega) only [↓n_m1, ↓n_hid, q0, q1, q2, q3, q4, q5, q6, q7, q8, q9, q10, q11, q12, q13, q14, q15, q16, q17, q18, q19, q20, q21, q22, q23, q24, q25, q26, q27, q28, q29, q30, q31, q32, q33, q34, q35, q36, q37, q38, q39, q40, q41, q42, q43, q44, q45, q46, q47, q48, q49, q50, q51, q52, q53, q54, q55, q56, q57, q58, q59, q61, q62, q63, q64, q66, q67, q68, q69, q70, q71, q91, q93, q99, q100, q102, q104, q107, q108, q112, q114, q115, q119, q121, q124, q160, q200, q255, q640, q999, q1000, q2000, q4096, n_of, nI_ltI, nI_leI, nI_eq, nI_clamp, nI_add, pk_mul, n_sub, m1_eq, m1_eq2, m1_lt, m1_lt2, gdN, Nat.not_lt_zero, false_or, if_true, if_false, if_pos, if_neg, cond_true, cond_false, beq_self, and_self, true_and, and_true, not_true_eq_false, not_false_eq_true, ne_eq, b01_1]
        cases his : nt.2.2.2.2 i with
        | true =>
          simp only [if_true]
          refine key _ (fun k => ?_) _
          rw [tb_and]
          unfold ntB
          rw [decide_eq_true hmi, his]
          cases hxk : tb x k with
          | false => rfl
          | true => rw [hnr k hxk]; simp
        | false =>
          simp only [Bool.false_eq_true, if_false]
          refine key _ (fun k => ?_) _
          rw [tb_and, tb_xor]
          unfold ntB
          rw [decide_eq_true hmi, his]
          cases hxk : tb x k with
          | false => rfl
          | true => rw [hnr k hxk, tb_m1 (hx32 k hxk)]; simp
      · simp only [hmi, if_false]
        refine ih (i + 1) t x _ _ (by omega) hf hct fun k => ?_
        rw [hx k]
        show _ = (tb y k && (allB (ntB g nt m k) i && ntB g nt m k i))
        unfold ntB
        rw [decide_eq_false hmi]
        simp
  rw [e_N_noted, q0]
  exact lp nt.1 0 s y _ _ (by omega) frm_r hc fun k => by
    show _ = (tb y k && true)
    rw [Bool.and_true]
end
