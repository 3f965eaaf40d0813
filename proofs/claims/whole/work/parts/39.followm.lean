section
variable {d : Nat} {g : Gph}
theorem m_goFollow {K : Mem → Prop} (hg : gOk g) {s : Mem} (hc : CityM g s) {F : Nat → Nat} {q : Nat} (hq : q < 5) (hF : ∀ v, v < gN g → s 72 (5 * v + q) = nI (F v)) (hFl : ∀ v, F v ≤ 99) {k : Nat} (hk : k < gN g) (hst : gst g k = true)
    (hK : ∀ s', frN [] [43, 44] s s' → s' 57 43 = nI (flw g F 20 k).1 → s' 57 44 = nI (flw g F 20 k).2 → K s') : wV (wp (d + 3)) m_M_goFollow [.ref 57, .int (nI k), .int (nI q)] s K := by
  have h20 := gN_le hg
  have hcf : ∀ {t : Mem}, frN [] [43, 44] s t → CityM g t := fun hf => CityM_N hf (by decide) (by decide) hc
  have lp : ∀ (n i k : Nat) (t : Mem) (v1 v4 v5 v6 : Value), i + n = 20 → k < gN g → gst g k = true → gts g F k < n → frN [] [43, 44] s t → t 57 43 = nI k → t 57 44 = nI i →
      (∀ s', frN [] [43, 44] s s' → s' 57 43 = nI (flw g F n k).1 → s' 57 44 = nI (i + (flw g F n k).2) → K s') →
      RnV (d + 2) m_M_goFollow K 12 [.ref 57, v1, .int (nI q), .int (nI 1), v4, v5, v6] [] t := by
    intro n
    induction n with
    | zero => intro i k t v1 v4 v5 v6 hi hk hst hl; omega
    | succ n ih =>
      intro i k t v1 v4 v5 v6 hi hk hst hl hf h43 h44 hK
      obtain ⟨a1, a2, _, _⟩ := nst_P (F := F) hk hst 4 1 k hk hst (Nat.le_refl _)
      have a1' : nst g F k < gN g := a1
      have fin : ∀ (v1 v3 v6 : Value), RnV (d + 2) m_M_goFollow K 25 [.ref 57, v1, .int (nI q), v3, .int (nI (nst g F k)), .int (nI 5), v6] [] t := by
        intro v1 v3 v6
        unfold flw at hK
        rw [r_M_goFollow_25, h43]
        simp (disch := omega) only [↓n_m1, ↓n_hid, q0, q1, q2, q3, q4, q5, q6, q7, q8, q9, q10, q11, q12, q13, q14, q15, q16, q17, q18, q19, q20, q21, q22, q23, q24, q25, q26, q27, q28, q29, q30, q31, q32, q33, q34, q35, q36, q37, q38, q39, q40, q41, q42, q43, q44, q45, q46, q47, q48, q49, q50, q51, q52, q53, q54, q55, q56, q57, q58, q59, q61, q62, q63, q64, q66, q67, q68, q69, q70, q71, q91, q93, q99, q100, q102, q104, q107, q108, q112, q114, q115, q119, q121, q124, q160, q200, q255, q640, q999, q1000, q2000, q4096, n_of, nI_ltI, nI_leI, nI_eq, nI_clamp, nI_add, pk_mul, n_sub, m1_eq, m1_eq2, m1_lt, m1_lt2, gdN, Nat.not_lt_zero, false_or, if_true, if_false, if_pos, if_neg, cond_true, cond_false, beq_self, and_self, true_and, and_true, not_true_eq_false, not_false_eq_true, ne_eq, h44, Nat.add_zero]
        by_cases e : nst g F k = k
        · simp only [e, if_true] at hK ⊢
          rw [r_M_goFollow_12]
          simp (disch := omega) only [↓n_m1, ↓n_hid, q0, q1, q2, q3, q4, q5, q6, q7, q8, q9, q10, q11, q12, q13, q14, q15, q16, q17, q18, q19, q20, q21, q22, q23, q24, q25, q26, q27, q28, q29, q30, q31, q32, q33, q34, q35, q36, q37, q38, q39, q40, q41, q42, q43, q44, q45, q46, q47, q48, q49, q50, q51, q52, q53, q54, q55, q56, q57, q58, q59, q61, q62, q63, q64, q66, q67, q68, q69, q70, q71, q91, q93, q99, q100, q102, q104, q107, q108, q112, q114, q115, q119, q121, q124, q160, q200, q255, q640, q999, q1000, q2000, q4096, n_of, nI_ltI, nI_leI, nI_eq, nI_clamp, nI_add, pk_mul, n_sub, m1_eq, m1_eq2, m1_lt, m1_lt2, gdN, Nat.not_lt_zero, false_or, if_true, if_false, if_pos, if_neg, cond_true, cond_false, beq_self, and_self, true_and, and_true, not_true_eq_false, not_false_eq_true, ne_eq]
          refine hK _ (frN_t hf (frN_t (frN_v (by simp)) (frN_v (by simp)))) up_at ?_
          rw [up_pl (by decide), up_at]
          rfl
        · simp only [e, if_false] at hK ⊢
          have hgl := gts_lt hk hst e
          refine ih (i + 1) (nst g F k) _ _ _ _ _ (by omega) a1' a2 (by omega) (frN_t hf (frN_t (frN_v (by simp)) (frN_v (by simp)))) up_at (by rw [up_pl (by decide), up_at]) ?_
          intro s' hf' e1 e2
          refine hK s' hf' e1 ?_
          rw [e2]
          congr 1
          omega
      have inner : ∀ (m j b : Nat) (v1 v3 v6 : Value), j + m = 5 → 1 ≤ j → b < gN g → F k ≤ F b → itr (fun sd b => nst1 g F k sd b) m j b = nst g F k → RnV (d + 2) m_M_goFollow K 25 [.ref 57, v1, .int (nI q), v3, .int (nI b), .int (nI j), v6] [] t := by
        intro m
        induction m with
        | zero =>
          intro j b v1 v3 v6 hj h1 hb hle he
          obtain rfl : j = 5 := by omega
          have e : b = nst g F k := he
          rw [e]
          exact fin _ _ _
        | succ m ihm =>
          intro j b v1 v3 v6 hj h1 hb hle he
          have hbb := bes_lt hk j
          have e72 : t 72 = s 72 := hf.1 72 (by decide) (by decide)
          have hfb := hFl b
          have hfbb := hFl (bes g k j)
          have he' : itr (fun sd b => nst1 g F k sd b) m (j + 1) (nst1 g F k j b) = nst g F k := he
          have stay : ¬ F b < F (bes g k j) → ∀ v6 : Value, RnV (d + 2) m_M_goFollow K 25 [.ref 57, uV, .int (nI q), uV, .int (nI b), .int (nI (j + 1)), v6] [] t := by
            intro hn v6
            refine ihm (j + 1) b _ _ _ (by omega) (by omega) hb hle ?_
            rw [show nst1 g F k j b = b from if_neg hn] at he'
            exact he'
          rw [r_M_goFollow_25, h43]
          simp (disch := omega) only [↓n_m1, ↓n_hid, q0, q1, q2, q3, q4, q5, q6, q7, q8, q9, q10, q11, q12, q13, q14, q15, q16, q17, q18, q19, q20, q21, q22, q23, q24, q25, q26, q27, q28, q29, q30, q31, q32, q33, q34, q35, q36, q37, q38, q39, q40, q41, q42, q43, q44, q45, q46, q47, q48, q49, q50, q51, q52, q53, q54, q55, q56, q57, q58, q59, q61, q62, q63, q64, q66, q67, q68, q69, q70, q71, q91, q93, q99, q100, q102, q104, q107, q108, q112, q114, q115, q119, q121, q124, q160, q200, q255, q640, q999, q1000, q2000, q4096, n_of, nI_ltI, nI_leI, nI_eq, nI_clamp, nI_add, pk_mul, n_sub, m1_eq, m1_eq2, m1_lt, m1_lt2, gdN, Nat.not_lt_zero, false_or, if_true, if_false, if_pos, if_neg, cond_true, cond_false, beq_self, and_self, true_and, and_true, not_true_eq_false, not_false_eq_true, ne_eq]
          rw [m_besideOf (d := d + 1) hg (hcf hf) hk ⟨h1, by omega⟩]
          by_cases hbk : bes g k j = k
          · have hbm : besM g k j = m1 := if_pos hbk
            rw [hbm]
            simp only [if_true]
            exact stay (by rw [hbk]; omega) _
          · have hbm : besM g k j = nI (bes g k j) := if_neg hbk
            rw [hbm]
            simp (disch := omega) only [↓n_m1, ↓n_hid, q0, q1, q2, q3, q4, q5, q6, q7, q8, q9, q10, q11, q12, q13, q14, q15, q16, q17, q18, q19, q20, q21, q22, q23, q24, q25, q26, q27, q28, q29, q30, q31, q32, q33, q34, q35, q36, q37, q38, q39, q40, q41, q42, q43, q44, q45, q46, q47, q48, q49, q50, q51, q52, q53, q54, q55, q56, q57, q58, q59, q61, q62, q63, q64, q66, q67, q68, q69, q70, q71, q91, q93, q99, q100, q102, q104, q107, q108, q112, q114, q115, q119, q121, q124, q160, q200, q255, q640, q999, q1000, q2000, q4096, n_of, nI_ltI, nI_leI, nI_eq, nI_clamp, nI_add, pk_mul, n_sub, m1_eq, m1_eq2, m1_lt, m1_lt2, gdN, Nat.not_lt_zero, false_or, if_true, if_false, if_pos, if_neg, cond_true, cond_false, beq_self, and_self, true_and, and_true, not_true_eq_false, not_false_eq_true, ne_eq, e72, hF b hb, hF (bes g k j) hbb]
            by_cases e : F b < F (bes g k j)
            · simp only [e, if_true]
              refine ihm (j + 1) (bes g k j) _ _ _ (by omega) (by omega) hbb (by omega) ?_
              rw [show nst1 g F k j b = bes g k j from if_pos e] at he'
              exact he'
            · simp only [e, if_false]
              exact stay e _
      rw [r_M_goFollow_12, h43]
      simp (disch := omega) only [↓n_m1, ↓n_hid, q0, q1, q2, q3, q4, q5, q6, q7, q8, q9, q10, q11, q12, q13, q14, q15, q16, q17, q18, q19, q20, q21, q22, q23, q24, q25, q26, q27, q28, q29, q30, q31, q32, q33, q34, q35, q36, q37, q38, q39, q40, q41, q42, q43, q44, q45, q46, q47, q48, q49, q50, q51, q52, q53, q54, q55, q56, q57, q58, q59, q61, q62, q63, q64, q66, q67, q68, q69, q70, q71, q91, q93, q99, q100, q102, q104, q107, q108, q112, q114, q115, q119, q121, q124, q160, q200, q255, q640, q999, q1000, q2000, q4096, n_of, nI_ltI, nI_leI, nI_eq, nI_clamp, nI_add, pk_mul, n_sub, m1_eq, m1_eq2, m1_lt, m1_lt2, gdN, Nat.not_lt_zero, false_or, if_true, if_false, if_pos, if_neg, cond_true, cond_false, beq_self, and_self, true_and, and_true, not_true_eq_false, not_false_eq_true, ne_eq]
      exact inner 4 1 k _ _ _ rfl (by omega) hk (Nat.le_refl _) rfl
  rw [e_M_goFollow, q1, q0]
  refine lp 20 0 k _ _ _ _ _ rfl hk hst (gts_20 hg hk) (frN_t (frN_v (by simp)) (frN_v (by simp))) (by rw [up_pl (by decide), up_at]) up_at ?_
  intro s' hf e1 e2
  exact hK s' hf e1 (by rw [e2, Nat.zero_add])
end
