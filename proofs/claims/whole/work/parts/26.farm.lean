/-! the reference's layFar -/
/-- whether a round has lowered a value, as the flag tells it -/
def chg (F0 F : Nat → Nat) (x : Int32) : Prop := (∀ v, F v ≤ F0 v) ∧ ((x = nI 0 ∧ F = F0) ∨ (x = nI 1 ∧ ∃ v, F v < F0 v))
theorem chg_0 (F : Nat → Nat) : chg F F (nI 0) := ⟨fun _ => Nat.le_refl _, Or.inl ⟨rfl, rfl⟩⟩
theorem chg_relx {g : Gph} {w k side : Nat} {F0 F : Nat → Nat} {x : Int32} (h : chg F0 F x) (hc : F k < 1000 ∧ F k + cst w side < F (bes g k side)) : chg F0 (relx g w k side F) (nI 1) := by
  refine ⟨fun v => Nat.le_trans (relx_le v) (h.1 v), Or.inr ⟨rfl, bes g k side, ?_⟩⟩
  unfold relx
  rw [if_pos hc]
  show (if _ = _ then _ else _) < _
  rw [if_pos rfl]
  have := h.1 (bes g k side)
  omega
def FarM (F : Nat → Nat) (s : Mem) : Prop := ∀ k, k < 20 → s 71 k = nI (F k)
theorem CityM_f {g : Gph} {s t : Mem} {L : List Nat} (hL : 57 ∉ L) (hL2 : 62 ∉ L) (hL3 : 65 ∉ L) (hf : frm L s t) (h : CityM g s) : CityM g t := by
  unfold CityM at *
  rw [hf 57 hL, hf 62 hL2, hf 65 hL3]
  exact h
theorem relx_st {g : Gph} {w k : Nat} {F : Nat → Nat} (h : ¬ F k < 1000) : ∀ n i, itr (fun side F => relx g w k side F) n i F = F
  | 0, _ => rfl
  | n + 1, i => by
    show itr _ n (i + 1) (relx g w k i F) = F
    rw [show relx g w k i F = F from if_neg fun z => h z.1]
    exact relx_st h n (i + 1)
theorem m_layFar_53 {d : Nat} {g : Gph} {K : Mem → Prop} (hg : gOk g) {s0 : Mem} (hc : CityM g s0) {w k a : Nat} (hw : w < 5) (hk : k < gN g) (ha : a < gN g) {F0 : Nat → Nat} :
    ∀ (n i : Nat) (F : Nat → Nat) (s : Mem) (x : Int32) (v1 v6 v7 : Value), i + n = 5 → 1 ≤ i → frm [71] s0 s → FarM F s → fInv g w a F → chg F0 F x →
      (∀ (s' : Mem) (x' : Int32) (v5 : Value), frm [71] s0 s' → FarM (itr (fun side F => relx g w k side F) n i F) s' → chg F0 (itr (fun side F => relx g w k side F) n i F) x' → RnV (d + 1) m_M_layFar K 41 [.ref 57, uV, .int (nI w), .int x', .int (nI (k + 1)), v5, uV, uV] [] s') →
      RnV (d + 1) m_M_layFar K 53 [.ref 57, v1, .int (nI w), .int x, .int (nI k), .int (nI i), v6, v7] [] s := by
  have h20 := gN_le hg
  intro n
  induction n with
  | zero =>
    intro i F s x v1 v6 v7 hi h1 hf hF hI hx hK
    rw [r_M_layFar_53]
    simp (disch := omega) only [↓n_m1, ↓n_hid, q0, q1, q2, q3, q4, q5, q6, q7, q8, q9, q10, q11, q12, q13, q14, q15, q16, q17, q18, q19, q20, q21, q22, q23, q24, q25, q26, q27, q28, q29, q30, q31, q32, q33, q34, q35, q36, q37, q38, q39, q40, q41, q42, q43, q44, q45, q46, q47, q48, q49, q50, q51, q52, q53, q54, q55, q56, q57, q58, q59, q61, q62, q63, q64, q66, q67, q68, q69, q70, q71, q91, q93, q99, q100, q102, q104, q107, q108, q112, q114, q115, q119, q121, q124, q160, q200, q255, q640, q999, q1000, q2000, q4096, n_of, nI_ltI, nI_leI, nI_eq, nI_clamp, nI_add, pk_mul, n_sub, m1_eq, m1_eq2, m1_lt, m1_lt2, gdN, Nat.not_lt_zero, false_or, if_true, if_false, if_pos, if_neg, cond_true, cond_false, beq_self, and_self, true_and, and_true, not_true_eq_false, not_false_eq_true, ne_eq]
    exact hK s x _ hf hF hx
  | succ n ih =>
    intro i F s x v1 v6 v7 hi h1 hf hF hI hx hK
    have hb := bes_lt hk i
    have hcc := CityM_f (by decide) (by decide) (by decide) hf hc
    have hFk := hI.2.1 k
    have hFb := hI.2.1 (bes g k i)
    have hcs := cst_le w i
    rw [r_M_layFar_53]
    by_cases hlt : F k < 1000
    · have key : RnV (d + 1) m_M_layFar K 53 [.ref 57, uV, .int (nI w), .int (if F k + cst w i < F (bes g k i) then nI 1 else x), .int (nI k), .int (nI (i + 1)), .int (besM g k i), .int (nI (F k + cst w i))] [] (if F k + cst w i < F (bes g k i) then upM s 71 (bes g k i) (nI (F k + cst w i)) else s) := by
        refine ih (i + 1) (relx g w k i F) _ _ _ _ _ (by omega) (by omega) ?_ ?_ (fInv_relx hk ⟨h1, by omega⟩ hI) ?_ ?_
        · split
          · exact frm_t hf (frm_u (by simp))
          · exact hf
        · intro j hj
          unfold relx
          by_cases hc2 : F k + cst w i < F (bes g k i)
          · rw [if_pos hc2, if_pos ⟨hlt, hc2⟩]
            show _ = nI (if j = bes g k i then _ else _)
            by_cases e : j = bes g k i
            · rw [if_pos e, e, up_at]
            · rw [if_neg e, up_pl e, hF j hj]
          · rw [if_neg hc2, if_neg (fun z => hc2 z.2), hF j hj]
        · by_cases hc2 : F k + cst w i < F (bes g k i)
          · rw [if_pos hc2]; exact chg_relx hx ⟨hlt, hc2⟩
          · rw [if_neg hc2]
            have e : relx g w k i F = F := if_neg (fun z => hc2 z.2)
            rw [e]; exact hx
        · exact hK
      have hcst : (if w = 0 then 2 else if i = w then 1 else if (i + 1) % 4 + 1 = w then 3 else 2) = cst w i := by
        unfold cst
        by_cases h0 : w = 0
        · simp only [h0, if_true]
          rw [if_neg (by omega), if_neg (by omega)]
        · rw [if_neg h0]
      have hrem : nI (i + 1) - nI (i + 1) / nI 4 * nI 4 = nI ((i + 1) % 4) := pk_rem (by omega) (by decide) (by decide)
      by_cases hbk : bes g k i = k
      · have hbm : besM g k i = m1 := if_pos hbk
        have hn : ¬ F k + cst w i < F k := by omega
        rw [hbk, hbm] at key
        simp only [hn, if_false] at key
        simp (disch := omega) only [↓n_m1, ↓n_hid, q0, q1, q2, q3, q4, q5, q6, q7, q8, q9, q10, q11, q12, q13, q14, q15, q16, q17, q18, q19, q20, q21, q22, q23, q24, q25, q26, q27, q28, q29, q30, q31, q32, q33, q34, q35, q36, q37, q38, q39, q40, q41, q42, q43, q44, q45, q46, q47, q48, q49, q50, q51, q52, q53, q54, q55, q56, q57, q58, q59, q61, q62, q63, q64, q66, q67, q68, q69, q70, q71, q91, q93, q99, q100, q102, q104, q107, q108, q112, q114, q115, q119, q121, q124, q160, q200, q255, q640, q999, q1000, q2000, q4096, n_of, nI_ltI, nI_leI, nI_eq, nI_clamp, nI_add, pk_mul, n_sub, m1_eq, m1_eq2, m1_lt, m1_lt2, gdN, Nat.not_lt_zero, false_or, if_true, if_false, if_pos, if_neg, cond_true, cond_false, beq_self, and_self, true_and, and_true, not_true_eq_false, not_false_eq_true, ne_eq, hF k (by omega), m_besideOf hg hcc hk ⟨h1, by omega⟩, hbm, hrem]
        rw [← hcst] at key
        by_cases hw0 : w = 0
        · simp only [hw0, if_true] at key ⊢; exact key
        · by_cases hw1 : i = w
          · simp only [hw0, hw1, if_true, if_false] at key ⊢; exact key
          · by_cases hw2 : (i + 1) % 4 + 1 = w
            · simp only [hw0, hw1, hw2, if_true, if_false] at key ⊢; exact key
            · simp only [hw0, hw1, hw2, if_true, if_false] at key ⊢; exact key
      · have hbm : besM g k i = nI (bes g k i) := if_neg hbk
        rw [hbm] at key
        simp (disch := omega) only [↓n_m1, ↓n_hid, q0, q1, q2, q3, q4, q5, q6, q7, q8, q9, q10, q11, q12, q13, q14, q15, q16, q17, q18, q19, q20, q21, q22, q23, q24, q25, q26, q27, q28, q29, q30, q31, q32, q33, q34, q35, q36, q37, q38, q39, q40, q41, q42, q43, q44, q45, q46, q47, q48, q49, q50, q51, q52, q53, q54, q55, q56, q57, q58, q59, q61, q62, q63, q64, q66, q67, q68, q69, q70, q71, q91, q93, q99, q100, q102, q104, q107, q108, q112, q114, q115, q119, q121, q124, q160, q200, q255, q640, q999, q1000, q2000, q4096, n_of, nI_ltI, nI_leI, nI_eq, nI_clamp, nI_add, pk_mul, n_sub, m1_eq, m1_eq2, m1_lt, m1_lt2, gdN, Nat.not_lt_zero, false_or, if_true, if_false, if_pos, if_neg, cond_true, cond_false, beq_self, and_self, true_and, and_true, not_true_eq_false, not_false_eq_true, ne_eq, hF k (by omega), hF (bes g k i) (by omega), m_besideOf hg hcc hk ⟨h1, by omega⟩, hbm, hrem]
        rw [← hcst] at key
        by_cases hw0 : w = 0
        · simp only [hw0, if_true] at key ⊢
          split
          · rename_i h; simp only [h, if_true] at key; exact key
          · rename_i h; simp only [h, if_false] at key; exact key
        · by_cases hw1 : i = w
          · simp only [hw0, hw1, if_true, if_false] at key ⊢
            split
            · rename_i h; simp only [h, if_true] at key; exact key
            · rename_i h; simp only [h, if_false] at key; exact key
          · by_cases hw2 : (i + 1) % 4 + 1 = w
            · simp only [hw0, hw1, hw2, if_true, if_false] at key ⊢
              split
              · rename_i h; simp only [h, if_true] at key; exact key
              · rename_i h; simp only [h, if_false] at key; exact key
            · simp only [hw0, hw1, hw2, if_true, if_false] at key ⊢
              split
              · rename_i h; simp only [h, if_true] at key; exact key
              · rename_i h; simp only [h, if_false] at key; exact key
    · simp (disch := omega) only [↓n_m1, ↓n_hid, q0, q1, q2, q3, q4, q5, q6, q7, q8, q9, q10, q11, q12, q13, q14, q15, q16, q17, q18, q19, q20, q21, q22, q23, q24, q25, q26, q27, q28, q29, q30, q31, q32, q33, q34, q35, q36, q37, q38, q39, q40, q41, q42, q43, q44, q45, q46, q47, q48, q49, q50, q51, q52, q53, q54, q55, q56, q57, q58, q59, q61, q62, q63, q64, q66, q67, q68, q69, q70, q71, q91, q93, q99, q100, q102, q104, q107, q108, q112, q114, q115, q119, q121, q124, q160, q200, q255, q640, q999, q1000, q2000, q4096, n_of, nI_ltI, nI_leI, nI_eq, nI_clamp, nI_add, pk_mul, n_sub, m1_eq, m1_eq2, m1_lt, m1_lt2, gdN, Nat.not_lt_zero, false_or, if_true, if_false, if_pos, if_neg, cond_true, cond_false, beq_self, and_self, true_and, and_true, not_true_eq_false, not_false_eq_true, ne_eq, hF k (by omega)]
      have e := relx_st (g := g) (w := w) (k := k) hlt (n + 1) i
      rw [e] at hK
      exact hK s x _ hf hF hx
theorem m_layFar_41 {d : Nat} {g : Gph} {K : Mem → Prop} (hg : gOk g) {s0 : Mem} (hc : CityM g s0) {w a : Nat} (hw : w < 5) (ha : a < gN g) {F0 : Nat → Nat} :
    ∀ (n k : Nat) (F : Nat → Nat) (s : Mem) (x : Int32) (v1 v5 v6 v7 : Value), k + n = gN g → frm [71] s0 s → FarM F s → fInv g w a F → chg F0 F x →
      (∀ (s' : Mem) (x' : Int32) (v4 v5 : Value), frm [71] s0 s' → FarM (itr (fun k F => rndS g w k F) n k F) s' → chg F0 (itr (fun k F => rndS g w k F) n k F) x' → RnV (d + 1) m_M_layFar K 32 [.ref 57, uV, .int (nI w), .int x', v4, v5, uV, uV] [] s') →
      RnV (d + 1) m_M_layFar K 41 [.ref 57, v1, .int (nI w), .int x, .int (nI k), v5, v6, v7] [] s := by
  have h20 := gN_le hg
  intro n
  induction n with
  | zero =>
    intro k F s x v1 v5 v6 v7 hk hf hF hI hx hK
    have hcc := CityM_f (by decide) (by decide) (by decide) hf hc
    rw [r_M_layFar_41, m_cells hcc]
    simp (disch := omega) only [↓n_m1, ↓n_hid, q0, q1, q2, q3, q4, q5, q6, q7, q8, q9, q10, q11, q12, q13, q14, q15, q16, q17, q18, q19, q20, q21, q22, q23, q24, q25, q26, q27, q28, q29, q30, q31, q32, q33, q34, q35, q36, q37, q38, q39, q40, q41, q42, q43, q44, q45, q46, q47, q48, q49, q50, q51, q52, q53, q54, q55, q56, q57, q58, q59, q61, q62, q63, q64, q66, q67, q68, q69, q70, q71, q91, q93, q99, q100, q102, q104, q107, q108, q112, q114, q115, q119, q121, q124, q160, q200, q255, q640, q999, q1000, q2000, q4096, n_of, nI_ltI, nI_leI, nI_eq, nI_clamp, nI_add, pk_mul, n_sub, m1_eq, m1_eq2, m1_lt, m1_lt2, gdN, Nat.not_lt_zero, false_or, if_true, if_false, if_pos, if_neg, cond_true, cond_false, beq_self, and_self, true_and, and_true, not_true_eq_false, not_false_eq_true, ne_eq]
    exact hK s x _ _ hf hF hx
  | succ n ih =>
    intro k F s x v1 v5 v6 v7 hk hf hF hI hx hK
    have hcc := CityM_f (by decide) (by decide) (by decide) hf hc
    rw [r_M_layFar_41, m_cells hcc]
    simp (disch := omega) only [↓n_m1, ↓n_hid, q0, q1, q2, q3, q4, q5, q6, q7, q8, q9, q10, q11, q12, q13, q14, q15, q16, q17, q18, q19, q20, q21, q22, q23, q24, q25, q26, q27, q28, q29, q30, q31, q32, q33, q34, q35, q36, q37, q38, q39, q40, q41, q42, q43, q44, q45, q46, q47, q48, q49, q50, q51, q52, q53, q54, q55, q56, q57, q58, q59, q61, q62, q63, q64, q66, q67, q68, q69, q70, q71, q91, q93, q99, q100, q102, q104, q107, q108, q112, q114, q115, q119, q121, q124, q160, q200, q255, q640, q999, q1000, q2000, q4096, n_of, nI_ltI, nI_leI, nI_eq, nI_clamp, nI_add, pk_mul, n_sub, m1_eq, m1_eq2, m1_lt, m1_lt2, gdN, Nat.not_lt_zero, false_or, if_true, if_false, if_pos, if_neg, cond_true, cond_false, beq_self, and_self, true_and, and_true, not_true_eq_false, not_false_eq_true, ne_eq]
    refine m_layFar_53 hg hc hw (by omega) ha 4 1 F s x _ _ _ rfl (by omega) hf hF hI hx ?_
    intro s' x' v5' hf' hF' hx'
    exact ih (k + 1) _ s' x' _ _ _ _ (by omega) hf' hF' (fInv_rndS (by omega) hI) hx' hK
theorem m_layFar_32 {d : Nat} {g : Gph} {K : Mem → Prop} (hg : gOk g) {s0 : Mem} (hc : CityM g s0) {w a : Nat} (hw : w < 5) (ha : a < gN g) (hK : ∀ s', frm [71] s0 s' → FarM (farG g w a) s' → K s') :
    ∀ (m n : Nat) (s : Mem) (v1 v4 v5 v6 v7 : Value), n + m = 20 → frm [71] s0 s → FarM (farS g w a n) s →
      RnV (d + 1) m_M_layFar K 32 [.ref 57, v1, .int (nI w), .int (nI 1), v4, v5, v6, v7] [] s := by
  have step : ∀ (n : Nat) (s : Mem) (v1 v4 v5 v6 v7 : Value), frm [71] s0 s → FarM (farS g w a n) s → (∀ (s' : Mem) (x' : Int32) (v4 v5 : Value), frm [71] s0 s' → FarM (farS g w a (n + 1)) s' → chg (farS g w a n) (farS g w a (n + 1)) x' → RnV (d + 1) m_M_layFar K 32 [.ref 57, uV, .int (nI w), .int x', v4, v5, uV, uV] [] s') → RnV (d + 1) m_M_layFar K 32 [.ref 57, v1, .int (nI w), .int (nI 1), v4, v5, v6, v7] [] s := by
    intro n s v1 v4 v5 v6 v7 hf hF hK
    rw [r_M_layFar_32]
    simp (disch := omega) only [↓n_m1, ↓n_hid, q0, q1, q2, q3, q4, q5, q6, q7, q8, q9, q10, q11, q12, q13, q14, q15, q16, q17, q18, q19, q20, q21, q22, q23, q24, q25, q26, q27, q28, q29, q30, q31, q32, q33, q34, q35, q36, q37, q38, q39, q40, q41, q42, q43, q44, q45, q46, q47, q48, q49, q50, q51, q52, q53, q54, q55, q56, q57, q58, q59, q61, q62, q63, q64, q66, q67, q68, q69, q70, q71, q91, q93, q99, q100, q102, q104, q107, q108, q112, q114, q115, q119, q121, q124, q160, q200, q255, q640, q999, q1000, q2000, q4096, n_of, nI_ltI, nI_leI, nI_eq, nI_clamp, nI_add, pk_mul, n_sub, m1_eq, m1_eq2, m1_lt, m1_lt2, gdN, Nat.not_lt_zero, false_or, if_true, if_false, if_pos, if_neg, cond_true, cond_false, beq_self, and_self, true_and, and_true, not_true_eq_false, not_false_eq_true, ne_eq]
    exact m_layFar_41 hg hc hw ha (gN g) 0 (farS g w a n) s _ _ _ _ _ (by omega) hf hF (fInv_S ha n) (chg_0 _) hK
  have fin : ∀ (n : Nat) (s : Mem) (v1 v4 v5 v6 v7 : Value), farS g w a (n + 1) = farS g w a n → n ≤ 20 → frm [71] s0 s → FarM (farS g w a (n + 1)) s → RnV (d + 1) m_M_layFar K 32 [.ref 57, v1, .int (nI w), .int (nI 0), v4, v5, v6, v7] [] s := by
    intro n s v1 v4 v5 v6 v7 he hn hf hF
    rw [r_M_layFar_32]
    simp (disch := omega) only [↓n_m1, ↓n_hid, q0, q1, q2, q3, q4, q5, q6, q7, q8, q9, q10, q11, q12, q13, q14, q15, q16, q17, q18, q19, q20, q21, q22, q23, q24, q25, q26, q27, q28, q29, q30, q31, q32, q33, q34, q35, q36, q37, q38, q39, q40, q41, q42, q43, q44, q45, q46, q47, q48, q49, q50, q51, q52, q53, q54, q55, q56, q57, q58, q59, q61, q62, q63, q64, q66, q67, q68, q69, q70, q71, q91, q93, q99, q100, q102, q104, q107, q108, q112, q114, q115, q119, q121, q124, q160, q200, q255, q640, q999, q1000, q2000, q4096, n_of, nI_ltI, nI_leI, nI_eq, nI_clamp, nI_add, pk_mul, n_sub, m1_eq, m1_eq2, m1_lt, m1_lt2, gdN, Nat.not_lt_zero, false_or, if_true, if_false, if_pos, if_neg, cond_true, cond_false, beq_self, and_self, true_and, and_true, not_true_eq_false, not_false_eq_true, ne_eq]
    refine hK s hf ?_
    have := far_stop (g := g) (w := w) (a := a) (n := n) he (20 - n)
    rw [show n + (20 - n) = 20 by omega] at this
    rw [he] at hF
    show FarM (farS g w a 20) s
    rw [this]; exact hF
  intro m
  induction m with
  | zero =>
    intro n s v1 v4 v5 v6 v7 hn hf hF
    obtain rfl : n = 20 := by omega
    refine step 20 s _ _ _ _ _ hf hF ?_
    intro s' x' v4' v5' hf' hF' hx'
    have hfix : farS g w a (20 + 1) = farS g w a 20 := far_fix hg ha
    rcases hx'.2 with ⟨rfl, h2⟩ | ⟨rfl, v, hv⟩
    · exact fin 20 s' _ _ _ _ _ hfix (by omega) hf' hF'
    · rw [hfix] at hv; omega
  | succ m ih =>
    intro n s v1 v4 v5 v6 v7 hn hf hF
    refine step n s _ _ _ _ _ hf hF ?_
    intro s' x' v4' v5' hf' hF' hx'
    rcases hx'.2 with ⟨rfl, h2⟩ | ⟨rfl, v, hv⟩
    · exact fin n s' _ _ _ _ _ h2 (by omega) hf' hF'
    · exact ih (n + 1) s' _ _ _ _ _ (by omega) hf' hF'
theorem m_layFar_2 {d : Nat} {K : Mem → Prop} {s0 : Mem} {p1 p2 : Int32} (hK : ∀ s' v4 v5 v6 v7, frm [71] s0 s' → (∀ k, k < 20 → s' 71 k = nI 1000) → RnV (d + 1) m_M_layFar K 2 [.ref 57, .int p1, .int p2, .int (nI 20), v4, v5, v6, v7] [] s') :
    ∀ (n i : Nat) (s : Mem) (v4 v5 v6 v7 : Value), i + n = 20 → frm [71] s0 s → (∀ k, k < i → s 71 k = nI 1000) → RnV (d + 1) m_M_layFar K 2 [.ref 57, .int p1, .int p2, .int (nI i), v4, v5, v6, v7] [] s := by
  intro n
  induction n with
  | zero =>
    intro i s v4 v5 v6 v7 hi hf h
    obtain rfl : i = 20 := by omega
    exact hK s _ _ _ _ hf h
  | succ n ih =>
    intro i s v4 v5 v6 v7 hi hf h
    rw [r_M_layFar_2]
    simp (disch := omega) only [↓n_m1, ↓n_hid, q0, q1, q2, q3, q4, q5, q6, q7, q8, q9, q10, q11, q12, q13, q14, q15, q16, q17, q18, q19, q20, q21, q22, q23, q24, q25, q26, q27, q28, q29, q30, q31, q32, q33, q34, q35, q36, q37, q38, q39, q40, q41, q42, q43, q44, q45, q46, q47, q48, q49, q50, q51, q52, q53, q54, q55, q56, q57, q58, q59, q61, q62, q63, q64, q66, q67, q68, q69, q70, q71, q91, q93, q99, q100, q102, q104, q107, q108, q112, q114, q115, q119, q121, q124, q160, q200, q255, q640, q999, q1000, q2000, q4096, n_of, nI_ltI, nI_leI, nI_eq, nI_clamp, nI_add, pk_mul, n_sub, m1_eq, m1_eq2, m1_lt, m1_lt2, gdN, Nat.not_lt_zero, false_or, if_true, if_false, if_pos, if_neg, cond_true, cond_false, beq_self, and_self, true_and, and_true, not_true_eq_false, not_false_eq_true, ne_eq]
    refine ih (i + 1) _ _ _ _ _ (by omega) (frm_t hf (frm_u (by simp))) ?_
    intro k hk
    by_cases e : k = i
    · rw [e, up_at]
    · rw [up_pl e, h k (by omega)]
theorem m_layFar {d : Nat} {g : Gph} {K : Mem → Prop} (hg : gOk g) {s : Mem} (hc : CityM g s) {w a : Nat} (hw : w < 5) (ha : a < gN g) (hK : ∀ s', frm [71] s s' → FarM (farG g w a) s' → K s') : wV (wp (d + 2)) m_M_layFar [.ref 57, .int (nI a), .int (nI w)] s K := by
  have h20 := gN_le hg
  rw [e_M_layFar, q0]
  refine m_layFar_2 ?_ 20 0 s _ _ _ _ rfl frm_r (fun k hk => by omega)
  intro s' v4 v5 v6 v7 hf h
  rw [r_M_layFar_2]
  simp (disch := omega) only [↓n_m1, ↓n_hid, q0, q1, q2, q3, q4, q5, q6, q7, q8, q9, q10, q11, q12, q13, q14, q15, q16, q17, q18, q19, q20, q21, q22, q23, q24, q25, q26, q27, q28, q29, q30, q31, q32, q33, q34, q35, q36, q37, q38, q39, q40, q41, q42, q43, q44, q45, q46, q47, q48, q49, q50, q51, q52, q53, q54, q55, q56, q57, q58, q59, q61, q62, q63, q64, q66, q67, q68, q69, q70, q71, q91, q93, q99, q100, q102, q104, q107, q108, q112, q114, q115, q119, q121, q124, q160, q200, q255, q640, q999, q1000, q2000, q4096, n_of, nI_ltI, nI_leI, nI_eq, nI_clamp, nI_add, pk_mul, n_sub, m1_eq, m1_eq2, m1_lt, m1_lt2, gdN, Nat.not_lt_zero, false_or, if_true, if_false, if_pos, if_neg, cond_true, cond_false, beq_self, and_self, true_and, and_true, not_true_eq_false, not_false_eq_true, ne_eq]
  refine m_layFar_32 hg hc hw ha hK 20 0 _ _ _ _ _ _ rfl (frm_t hf (frm_u (by simp))) ?_
  intro k hk
  show _ = nI (if k = a then 0 else 1000)
  by_cases e : k = a
  · rw [if_pos e, e, up_at]
  · rw [if_neg e, up_pl e, h k hk]
