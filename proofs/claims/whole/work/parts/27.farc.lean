/-! the class's farness -/
theorem fInv_b {g : Gph} {w a : Nat} {F : Nat → Nat} (hg : gOk g) (h : fInv g w a F) {k : Nat} (hk : F k < 1000) : F k ≤ 57 := by
  have h1 := gN_le hg
  have h2 := h.2.2.2.2 k hk
  have h3 := cnt_le (fun k => decide (F k < 1000)) (gN g)
  omega
theorem chg_add {F0 F F' : Nat → Nat} {x y : Int32} (h : chg F0 F x) (h' : chg F F' y) : chg F0 F' (if y = nI 0 then x else nI 1) := by
  refine ⟨fun v => Nat.le_trans (h'.1 v) (h.1 v), ?_⟩
  rcases h'.2 with ⟨e, e2⟩ | ⟨e, v, e2⟩
  · rw [if_pos e, e2]; exact h.2
  · have hne : ¬ y = nI 0 := by rw [e]; decide
    rw [if_neg hne]
    have := h.1 v
    exact Or.inr ⟨rfl, v, by omega⟩
theorem CityC_f {c : Nat} {g : Gph} {s t : Mem} {L : List Nat} (h0 : c ∉ L) (h3 : c + 3 ∉ L) (h4 : c + 4 ∉ L) (hf : frm L s t) (h : CityC c g s) : CityC c g t := by
  unfold CityC at *
  rw [hf c h0, hf (c + 3) h3, hf (c + 4) h4]
  exact h
def FarC (c r : Nat) (F : Nat → Nat) (s : Mem) : Prop := ∀ k, k < 20 → s (c + 5) (r + k) = cosI (F k)
/-- what lies in the other rows stays -/
def outR (c r : Nat) (s t : Mem) : Prop := frm [c + 5] s t ∧ ∀ j, j < r ∨ r + 20 ≤ j → t (c + 5) j = s (c + 5) j
theorem outR_r {c r : Nat} {s : Mem} : outR c r s s := ⟨frm_r, fun _ _ => rfl⟩
theorem outR_u {c r k : Nat} {s t : Mem} {x : Int32} (hk : k < 20) (h : outR c r s t) : outR c r s (upM t (c + 5) (r + k) x) := ⟨frm_t h.1 (frm_u (by simp)), fun j hj => by rw [up_pl (by omega), h.2 j hj]⟩
theorem CityC_o {c r : Nat} {g : Gph} {s t : Mem} (h : outR c r s t) (hc : CityC c g s) : CityC c g t := CityC_f (by simp) (by simp) (by simp) h.1 hc
theorem FarC_u {c r k v : Nat} {F : Nat → Nat} {s : Mem} (hk : k < 20) (hv : v < 1000) (h : FarC c r F s) : FarC c r (fun j => if j = k then v else F j) (upM s (c + 5) (r + k) (nI v)) := by
  intro j hj
  show _ = cosI (if j = k then v else F j)
  by_cases e : j = k
  · rw [if_pos e, e, up_at]; unfold cosI; rw [if_neg (by omega)]
  · rw [if_neg e, up_pl (by omega), h j hj]
section
variable {d c : Nat} {g : Gph}
theorem c_carryOn_l {K : Int32 → Mem → Prop} (hcc : isC c) (hg : gOk g) {s0 : Mem} (hc : CityC c g s0) {w k a r : Nat} (hw : w < 5) (hk : k < gN g) (ha : a < gN g) (hr : r + 20 ≤ 400) {F0 : Nat → Nat} :
    ∀ (n i : Nat) (F : Nat → Nat) (s : Mem) (x : Int32) (v6 v7 v8 : Value), i + n = 5 → 1 ≤ i → outR c r s0 s → FarC c r F s → fInv g w a F → F k < 1000 → chg F0 F x →
      (∀ (s' : Mem) (x' : Int32), outR c r s0 s' → FarC c r (itr (fun side F => relx g w k side F) n i F) s' → chg F0 (itr (fun side F => relx g w k side F) n i F) x' → K x' s') →
      RnI (d + 1) m_C_carryOn K 6 [.ref c, .int (nI w), .int (nI k), .int (nI r), .int x, .int (nI i), v6, v7, v8] [] s := by
  have h20 := gN_le hg
  intro n
  induction n with
  | zero =>
    intro i F s x v6 v7 v8 hi h1 hf hF hI hlt hx hK
    have e : x &&& nI 1 = x := by rcases hx.2 with ⟨e, _⟩ | ⟨e, _⟩ <;> rw [e] <;> decide
    rw [r_C_carryOn_6]
    simp (disch := omega) only [↓n_m1, ↓n_hid, q0, q1, q2, q3, q4, q5, q6, q7, q8, q9, q10, q11, q12, q13, q14, q15, q16, q17, q18, q19, q20, q21, q22, q23, q24, q25, q26, q27, q28, q29, q30, q31, q32, q33, q34, q35, q36, q37, q38, q39, q40, q41, q42, q43, q44, q45, q46, q47, q48, q49, q50, q51, q52, q53, q54, q55, q56, q57, q58, q59, q61, q62, q63, q64, q66, q67, q68, q69, q70, q71, q91, q93, q99, q100, q102, q104, q107, q108, q112, q114, q115, q119, q121, q124, q160, q200, q255, q640, q999, q1000, q2000, q4096, n_of, nI_ltI, nI_leI, nI_eq, nI_clamp, nI_add, pk_mul, n_sub, m1_eq, m1_eq2, m1_lt, m1_lt2, gdN, Nat.not_lt_zero, false_or, if_true, if_false, if_pos, if_neg, cond_true, cond_false, beq_self, and_self, true_and, and_true, not_true_eq_false, not_false_eq_true, ne_eq, e]
    exact hK s x hf hF hx
  | succ n ih =>
    intro i F s x v6 v7 v8 hi h1 hf hF hI hlt hx hK
    have hb := bes_lt hk i
    have hci := CityC_o hf hc
    have hbs : s (c + 4) (k * 5 + i) = nI (bes g k i) := by rw [Nat.mul_comm]; exact hci.2.2.2.2.2 k i hk (by omega)
    have hFk : s (c + 5) (r + k) = nI (F k) := by rw [hF k (by omega)]; unfold cosI; rw [if_neg (by omega)]
    have hFb := hF (bes g k i) (by omega)
    have hk57 := fInv_b hg hI hlt
    have hcs := cst_le w i
    have hle := hI.2.1 (bes g k i)
    rw [r_C_carryOn_6]
    simp (disch := omega) only [↓n_m1, ↓n_hid, q0, q1, q2, q3, q4, q5, q6, q7, q8, q9, q10, q11, q12, q13, q14, q15, q16, q17, q18, q19, q20, q21, q22, q23, q24, q25, q26, q27, q28, q29, q30, q31, q32, q33, q34, q35, q36, q37, q38, q39, q40, q41, q42, q43, q44, q45, q46, q47, q48, q49, q50, q51, q52, q53, q54, q55, q56, q57, q58, q59, q61, q62, q63, q64, q66, q67, q68, q69, q70, q71, q91, q93, q99, q100, q102, q104, q107, q108, q112, q114, q115, q119, q121, q124, q160, q200, q255, q640, q999, q1000, q2000, q4096, n_of, nI_ltI, nI_leI, nI_eq, nI_clamp, nI_add, pk_mul, n_sub, m1_eq, m1_eq2, m1_lt, m1_lt2, gdN, Nat.not_lt_zero, false_or, if_true, if_false, if_pos, if_neg, cond_true, cond_false, beq_self, and_self, true_and, and_true, not_true_eq_false, not_false_eq_true, ne_eq, C_b hcc]
    rw [c_at (by rw [C_s4 hcc]) (by rw [C_s4 hcc]; show _ < 100; omega), hbs, c_at (by rw [C_s5 hcc]) (by rw [C_s5 hcc]; show _ < 400; omega), hFk, c_stepCost hw (by omega)]
    simp (disch := omega) only [↓n_m1, ↓n_hid, q0, q1, q2, q3, q4, q5, q6, q7, q8, q9, q10, q11, q12, q13, q14, q15, q16, q17, q18, q19, q20, q21, q22, q23, q24, q25, q26, q27, q28, q29, q30, q31, q32, q33, q34, q35, q36, q37, q38, q39, q40, q41, q42, q43, q44, q45, q46, q47, q48, q49, q50, q51, q52, q53, q54, q55, q56, q57, q58, q59, q61, q62, q63, q64, q66, q67, q68, q69, q70, q71, q91, q93, q99, q100, q102, q104, q107, q108, q112, q114, q115, q119, q121, q124, q160, q200, q255, q640, q999, q1000, q2000, q4096, n_of, nI_ltI, nI_leI, nI_eq, nI_clamp, nI_add, pk_mul, n_sub, m1_eq, m1_eq2, m1_lt, m1_lt2, gdN, Nat.not_lt_zero, false_or, if_true, if_false, if_pos, if_neg, cond_true, cond_false, beq_self, and_self, true_and, and_true, not_true_eq_false, not_false_eq_true, ne_eq, C_b hcc]
    rw [c_at (by rw [C_s5 hcc]) (by rw [C_s5 hcc]; show _ < 400; omega), hFb, c_put (by rw [C_s5 hcc]) (by have := C_le hcc; omega) (by rw [C_s5 hcc]; show _ < 400; omega)]
    have up : F k + cst w i < F (bes g k i) → ∀ (x6 x7 x8 : Value), RnI (d + 1) m_C_carryOn K 6 [.ref c, .int (nI w), .int (nI k), .int (nI r), .int (nI 1), .int (nI (i + 1)), x6, x7, x8] [] (upM s (c + 5) (r + bes g k i) (nI (F k + cst w i))) := by
      intro hc2 x6 x7 x8
      have e : relx g w k i F = fun j => if j = bes g k i then F k + cst w i else F j := if_pos ⟨hlt, hc2⟩
      refine ih (i + 1) (relx g w k i F) _ _ _ _ _ (by omega) (by omega) (outR_u (by omega) hf) ?_ (fInv_relx hk ⟨h1, by omega⟩ hI) (Nat.lt_of_le_of_lt (relx_le k) hlt) (chg_relx hx ⟨hlt, hc2⟩) hK
      rw [e]
      exact FarC_u (by omega) (by omega) hF
    have no : ¬ F k + cst w i < F (bes g k i) → ∀ (x6 x7 x8 : Value), RnI (d + 1) m_C_carryOn K 6 [.ref c, .int (nI w), .int (nI k), .int (nI r), .int x, .int (nI (i + 1)), x6, x7, x8] [] s := by
      intro hc2 x6 x7 x8
      have e : relx g w k i F = F := if_neg (fun z => hc2 z.2)
      refine ih (i + 1) F _ _ _ _ _ (by omega) (by omega) hf hF hI hlt hx ?_
      have hK' := hK
      simp only [itr, e] at hK'
      exact hK'
    unfold cosI
    by_cases h9 : F (bes g k i) = 1000
    · simp only [h9, if_true]
      exact up (by omega) _ _ _
    · by_cases hc2 : F k + cst w i < F (bes g k i)
      · simp (disch := omega) only [↓n_m1, ↓n_hid, q0, q1, q2, q3, q4, q5, q6, q7, q8, q9, q10, q11, q12, q13, q14, q15, q16, q17, q18, q19, q20, q21, q22, q23, q24, q25, q26, q27, q28, q29, q30, q31, q32, q33, q34, q35, q36, q37, q38, q39, q40, q41, q42, q43, q44, q45, q46, q47, q48, q49, q50, q51, q52, q53, q54, q55, q56, q57, q58, q59, q61, q62, q63, q64, q66, q67, q68, q69, q70, q71, q91, q93, q99, q100, q102, q104, q107, q108, q112, q114, q115, q119, q121, q124, q160, q200, q255, q640, q999, q1000, q2000, q4096, n_of, nI_ltI, nI_leI, nI_eq, nI_clamp, nI_add, pk_mul, n_sub, m1_eq, m1_eq2, m1_lt, m1_lt2, gdN, Nat.not_lt_zero, false_or, if_true, if_false, if_pos, if_neg, cond_true, cond_false, beq_self, and_self, true_and, and_true, not_true_eq_false, not_false_eq_true, ne_eq, h9]
        exact up hc2 _ _ _
      · simp (disch := omega) only [↓n_m1, ↓n_hid, q0, q1, q2, q3, q4, q5, q6, q7, q8, q9, q10, q11, q12, q13, q14, q15, q16, q17, q18, q19, q20, q21, q22, q23, q24, q25, q26, q27, q28, q29, q30, q31, q32, q33, q34, q35, q36, q37, q38, q39, q40, q41, q42, q43, q44, q45, q46, q47, q48, q49, q50, q51, q52, q53, q54, q55, q56, q57, q58, q59, q61, q62, q63, q64, q66, q67, q68, q69, q70, q71, q91, q93, q99, q100, q102, q104, q107, q108, q112, q114, q115, q119, q121, q124, q160, q200, q255, q640, q999, q1000, q2000, q4096, n_of, nI_ltI, nI_leI, nI_eq, nI_clamp, nI_add, pk_mul, n_sub, m1_eq, m1_eq2, m1_lt, m1_lt2, gdN, Nat.not_lt_zero, false_or, if_true, if_false, if_pos, if_neg, cond_true, cond_false, beq_self, and_self, true_and, and_true, not_true_eq_false, not_false_eq_true, ne_eq, h9]
        exact no hc2 _ _ _
theorem c_carryOn {K : Int32 → Mem → Prop} (hcc : isC c) (hg : gOk g) {s0 s : Mem} (hc : CityC c g s0) {w k a r : Nat} (hw : w < 5) (hk : k < gN g) (ha : a < gN g) (hr : r + 20 ≤ 400) {F : Nat → Nat} (hf : outR c r s0 s) (hF : FarC c r F s) (hI : fInv g w a F) (hlt : F k < 1000)
    (hK : ∀ (s' : Mem) (x' : Int32), outR c r s0 s' → FarC c r (rndS g w k F) s' → chg F (rndS g w k F) x' → K x' s') : wI (wp (d + 2)) m_C_carryOn [.ref c, .int (nI w), .int (nI k), .int (nI r)] s K := by
  rw [e_C_carryOn, q0, q1]
  exact c_carryOn_l hcc hg hc hw hk ha hr 4 1 F s _ _ _ _ rfl (by omega) hf hF hI hlt (chg_0 F) hK
theorem rndS_st {w k : Nat} {F : Nat → Nat} (h : ¬ F k < 1000) : rndS g w k F = F := relx_st h 4 1
theorem c_reckon_62 {K : Mem → Prop} (hcc : isC c) (hg : gOk g) {s0 : Mem} (hc : CityC c g s0) {w a r : Nat} (hw : w < 5) (ha : a < gN g) (hr : r + 20 ≤ 400) {F0 : Nat → Nat} {i5 : Int32} :
    ∀ (n k : Nat) (F : Nat → Nat) (s : Mem) (x : Int32) (v2 : Value), k + n = gN g → outR c r s0 s → FarC c r F s → fInv g w a F → chg F0 F x →
      (∀ (s' : Mem) (x' : Int32) (v6 : Value), outR c r s0 s' → FarC c r (itr (fun k F => rndS g w k F) n k F) s' → chg F0 (itr (fun k F => rndS g w k F) n k F) x' → RnV (d + 2) m_C_reckonFar K 44 [.ref c, .int (nI w), uV, .int (nI r), .int x', .int (i5 + nI 1), v6] [] s') →
      RnV (d + 2) m_C_reckonFar K 62 [.ref c, .int (nI w), v2, .int (nI r), .int x, .int i5, .int (nI k)] [] s := by
  have h20 := gN_le hg
  intro n
  induction n with
  | zero =>
    intro k F s x v2 hk hf hF hI hx hK
    rw [r_C_reckonFar_62, c_cells hcc (CityC_o hf hc)]
    simp (disch := omega) only [↓n_m1, ↓n_hid, q0, q1, q2, q3, q4, q5, q6, q7, q8, q9, q10, q11, q12, q13, q14, q15, q16, q17, q18, q19, q20, q21, q22, q23, q24, q25, q26, q27, q28, q29, q30, q31, q32, q33, q34, q35, q36, q37, q38, q39, q40, q41, q42, q43, q44, q45, q46, q47, q48, q49, q50, q51, q52, q53, q54, q55, q56, q57, q58, q59, q61, q62, q63, q64, q66, q67, q68, q69, q70, q71, q91, q93, q99, q100, q102, q104, q107, q108, q112, q114, q115, q119, q121, q124, q160, q200, q255, q640, q999, q1000, q2000, q4096, n_of, nI_ltI, nI_leI, nI_eq, nI_clamp, nI_add, pk_mul, n_sub, m1_eq, m1_eq2, m1_lt, m1_lt2, gdN, Nat.not_lt_zero, false_or, if_true, if_false, if_pos, if_neg, cond_true, cond_false, beq_self, and_self, true_and, and_true, not_true_eq_false, not_false_eq_true, ne_eq, C_b hcc]
    exact hK s x _ hf hF hx
  | succ n ih =>
    intro k F s x v2 hk hf hF hI hx hK
    have hci := CityC_o hf hc
    have hFk := hF k (by omega)
    rw [r_C_reckonFar_62, c_cells hcc hci]
    simp (disch := omega) only [↓n_m1, ↓n_hid, q0, q1, q2, q3, q4, q5, q6, q7, q8, q9, q10, q11, q12, q13, q14, q15, q16, q17, q18, q19, q20, q21, q22, q23, q24, q25, q26, q27, q28, q29, q30, q31, q32, q33, q34, q35, q36, q37, q38, q39, q40, q41, q42, q43, q44, q45, q46, q47, q48, q49, q50, q51, q52, q53, q54, q55, q56, q57, q58, q59, q61, q62, q63, q64, q66, q67, q68, q69, q70, q71, q91, q93, q99, q100, q102, q104, q107, q108, q112, q114, q115, q119, q121, q124, q160, q200, q255, q640, q999, q1000, q2000, q4096, n_of, nI_ltI, nI_leI, nI_eq, nI_clamp, nI_add, pk_mul, n_sub, m1_eq, m1_eq2, m1_lt, m1_lt2, gdN, Nat.not_lt_zero, false_or, if_true, if_false, if_pos, if_neg, cond_true, cond_false, beq_self, and_self, true_and, and_true, not_true_eq_false, not_false_eq_true, ne_eq, C_b hcc]
    rw [c_at (by rw [C_s5 hcc]) (by rw [C_s5 hcc]; show _ < 400; omega), hFk]
    have hle := hI.2.1 k
    unfold cosI
    by_cases h9 : F k = 1000
    · simp only [h9, if_true]
      refine ih (k + 1) F s x _ (by omega) hf hF hI hx ?_
      have hK' := hK
      simp only [itr, rndS_st (g := g) (w := w) (show ¬ F k < 1000 by omega)] at hK'
      exact hK'
    · simp (disch := omega) only [↓n_m1, ↓n_hid, q0, q1, q2, q3, q4, q5, q6, q7, q8, q9, q10, q11, q12, q13, q14, q15, q16, q17, q18, q19, q20, q21, q22, q23, q24, q25, q26, q27, q28, q29, q30, q31, q32, q33, q34, q35, q36, q37, q38, q39, q40, q41, q42, q43, q44, q45, q46, q47, q48, q49, q50, q51, q52, q53, q54, q55, q56, q57, q58, q59, q61, q62, q63, q64, q66, q67, q68, q69, q70, q71, q91, q93, q99, q100, q102, q104, q107, q108, q112, q114, q115, q119, q121, q124, q160, q200, q255, q640, q999, q1000, q2000, q4096, n_of, nI_ltI, nI_leI, nI_eq, nI_clamp, nI_add, pk_mul, n_sub, m1_eq, m1_eq2, m1_lt, m1_lt2, gdN, Nat.not_lt_zero, false_or, if_true, if_false, if_pos, if_neg, cond_true, cond_false, beq_self, and_self, true_and, and_true, not_true_eq_false, not_false_eq_true, ne_eq, h9]
      refine c_carryOn hcc hg hc hw (by omega) ha hr hf hF hI (by omega) ?_
      intro s' x' hf' hF' hx'
      have key := ih (k + 1) (rndS g w k F) s' _ uV (by omega) hf' hF' (fInv_rndS (by omega) hI) (chg_add hx hx') hK
      by_cases hx0 : x' = nI 0
      · simp only [hx0, if_true] at key ⊢; exact key
      · simp only [hx0, if_false] at key ⊢; exact key
theorem c_reckon_44 {K : Mem → Prop} (hcc : isC c) (hg : gOk g) {s0 : Mem} (hc : CityC c g s0) {w a r : Nat} (hw : w < 5) (ha : a < gN g) (hr : r + 20 ≤ 400) (hK : ∀ s', outR c r s0 s' → FarC c r (farG g w a) s' → K s') :
    ∀ (m n : Nat) (s : Mem) (v2 v6 : Value), n + m = 20 → outR c r s0 s → FarC c r (farS g w a n) s →
      RnV (d + 2) m_C_reckonFar K 44 [.ref c, .int (nI w), v2, .int (nI r), .int (nI 1), .int (nI n), v6] [] s := by
  have fin : ∀ (n : Nat) (s : Mem) (v2 v6 : Value) (y : Int32), farS g w a (n + 1) = farS g w a n → n ≤ 20 → outR c r s0 s → FarC c r (farS g w a (n + 1)) s → RnV (d + 2) m_C_reckonFar K 44 [.ref c, .int (nI w), v2, .int (nI r), .int (nI 0), .int y, v6] [] s := by
    intro n s v2 v6 y he hn hf hF
    rw [r_C_reckonFar_44]
    simp only [q0, if_true]
    refine hK s hf ?_
    have := far_stop (g := g) (w := w) (a := a) (n := n) he (20 - n)
    rw [show n + (20 - n) = 20 by omega] at this
    rw [he] at hF
    show FarC c r (farS g w a 20) s
    rw [this]; exact hF
  intro m
  induction m with
  | zero =>
    intro n s v2 v6 hn hf hF
    obtain rfl : n = 20 := by omega
    rw [r_C_reckonFar_44]
    simp (disch := omega) only [↓n_m1, ↓n_hid, q0, q1, q2, q3, q4, q5, q6, q7, q8, q9, q10, q11, q12, q13, q14, q15, q16, q17, q18, q19, q20, q21, q22, q23, q24, q25, q26, q27, q28, q29, q30, q31, q32, q33, q34, q35, q36, q37, q38, q39, q40, q41, q42, q43, q44, q45, q46, q47, q48, q49, q50, q51, q52, q53, q54, q55, q56, q57, q58, q59, q61, q62, q63, q64, q66, q67, q68, q69, q70, q71, q91, q93, q99, q100, q102, q104, q107, q108, q112, q114, q115, q119, q121, q124, q160, q200, q255, q640, q999, q1000, q2000, q4096, n_of, nI_ltI, nI_leI, nI_eq, nI_clamp, nI_add, pk_mul, n_sub, m1_eq, m1_eq2, m1_lt, m1_lt2, gdN, Nat.not_lt_zero, false_or, if_true, if_false, if_pos, if_neg, cond_true, cond_false, beq_self, and_self, true_and, and_true, not_true_eq_false, not_false_eq_true, ne_eq]
    exact hK s hf hF
  | succ m ih =>
    intro n s v2 v6 hn hf hF
    rw [r_C_reckonFar_44]
    simp (disch := omega) only [↓n_m1, ↓n_hid, q0, q1, q2, q3, q4, q5, q6, q7, q8, q9, q10, q11, q12, q13, q14, q15, q16, q17, q18, q19, q20, q21, q22, q23, q24, q25, q26, q27, q28, q29, q30, q31, q32, q33, q34, q35, q36, q37, q38, q39, q40, q41, q42, q43, q44, q45, q46, q47, q48, q49, q50, q51, q52, q53, q54, q55, q56, q57, q58, q59, q61, q62, q63, q64, q66, q67, q68, q69, q70, q71, q91, q93, q99, q100, q102, q104, q107, q108, q112, q114, q115, q119, q121, q124, q160, q200, q255, q640, q999, q1000, q2000, q4096, n_of, nI_ltI, nI_leI, nI_eq, nI_clamp, nI_add, pk_mul, n_sub, m1_eq, m1_eq2, m1_lt, m1_lt2, gdN, Nat.not_lt_zero, false_or, if_true, if_false, if_pos, if_neg, cond_true, cond_false, beq_self, and_self, true_and, and_true, not_true_eq_false, not_false_eq_true, ne_eq]
    refine c_reckon_62 hcc hg hc hw ha hr (gN g) 0 (farS g w a n) s _ _ (by omega) hf hF (fInv_S ha n) (chg_0 _) ?_
    intro s' x' v6' hf' hF' hx'
    rw [nI_add]
    rcases hx'.2 with ⟨rfl, h2⟩ | ⟨rfl, v, hv⟩
    · exact fin n s' _ _ _ h2 (by omega) hf' hF'
    · exact ih (n + 1) s' _ _ (by omega) hf' hF'
theorem c_reckon_3 {K : Mem → Prop} (hcc : isC c) {s0 : Mem} {a r : Nat} (ha : a < 20) (hr : r + 20 ≤ 400) {p1 : Int32} (hK : ∀ s' v5 v6, outR c r s0 s' → FarC c r (far0 a) s' → RnV (d + 2) m_C_reckonFar K 3 [.ref c, .int p1, .int (nI a), .int (nI r), .int (nI 20), v5, v6] [] s') :
    ∀ (n i : Nat) (s : Mem) (v5 v6 : Value), i + n = 20 → outR c r s0 s → (∀ k, k < i → s (c + 5) (r + k) = cosI (far0 a k)) → RnV (d + 2) m_C_reckonFar K 3 [.ref c, .int p1, .int (nI a), .int (nI r), .int (nI i), v5, v6] [] s := by
  intro n
  induction n with
  | zero =>
    intro i s v5 v6 hi hf h
    obtain rfl : i = 20 := by omega
    exact hK s _ _ hf h
  | succ n ih =>
    intro i s v5 v6 hi hf h
    have hL := C_le hcc
    have key : RnV (d + 2) m_C_reckonFar K 3 [.ref c, .int p1, .int (nI a), .int (nI r), .int (nI (i + 1)), uV, uV] [] (upM s (c + 5) (r + i) (cosI (far0 a i))) := by
      refine ih (i + 1) _ _ _ (by omega) (outR_u (by omega) hf) ?_
      intro k hk
      by_cases e : k = i
      · rw [e, up_at]
      · rw [up_pl (by omega), h k (by omega)]
    rw [r_C_reckonFar_3]
    simp (disch := omega) only [↓n_m1, ↓n_hid, q0, q1, q2, q3, q4, q5, q6, q7, q8, q9, q10, q11, q12, q13, q14, q15, q16, q17, q18, q19, q20, q21, q22, q23, q24, q25, q26, q27, q28, q29, q30, q31, q32, q33, q34, q35, q36, q37, q38, q39, q40, q41, q42, q43, q44, q45, q46, q47, q48, q49, q50, q51, q52, q53, q54, q55, q56, q57, q58, q59, q61, q62, q63, q64, q66, q67, q68, q69, q70, q71, q91, q93, q99, q100, q102, q104, q107, q108, q112, q114, q115, q119, q121, q124, q160, q200, q255, q640, q999, q1000, q2000, q4096, n_of, nI_ltI, nI_leI, nI_eq, nI_clamp, nI_add, pk_mul, n_sub, m1_eq, m1_eq2, m1_lt, m1_lt2, gdN, Nat.not_lt_zero, false_or, if_true, if_false, if_pos, if_neg, cond_true, cond_false, beq_self, and_self, true_and, and_true, not_true_eq_false, not_false_eq_true, ne_eq, C_b hcc]
    rw [c_put (by rw [C_s5 hcc]) (by omega) (by rw [C_s5 hcc]; show _ < 400; omega), c_put (by rw [C_s5 hcc]) (by omega) (by rw [C_s5 hcc]; show _ < 400; omega)]
    unfold far0 cosI at key
    by_cases e : i = a
    · simp only [e, if_true] at key ⊢
      simp (disch := omega) only [↓n_m1, ↓n_hid, q0, q1, q2, q3, q4, q5, q6, q7, q8, q9, q10, q11, q12, q13, q14, q15, q16, q17, q18, q19, q20, q21, q22, q23, q24, q25, q26, q27, q28, q29, q30, q31, q32, q33, q34, q35, q36, q37, q38, q39, q40, q41, q42, q43, q44, q45, q46, q47, q48, q49, q50, q51, q52, q53, q54, q55, q56, q57, q58, q59, q61, q62, q63, q64, q66, q67, q68, q69, q70, q71, q91, q93, q99, q100, q102, q104, q107, q108, q112, q114, q115, q119, q121, q124, q160, q200, q255, q640, q999, q1000, q2000, q4096, n_of, nI_ltI, nI_leI, nI_eq, nI_clamp, nI_add, pk_mul, n_sub, m1_eq, m1_eq2, m1_lt, m1_lt2, gdN, Nat.not_lt_zero, false_or, if_true, if_false, if_pos, if_neg, cond_true, cond_false, beq_self, and_self, true_and, and_true, not_true_eq_false, not_false_eq_true, ne_eq] at key
      exact key
    · simp only [e, if_false] at key ⊢
      simp (disch := omega) only [↓n_m1, ↓n_hid, q0, q1, q2, q3, q4, q5, q6, q7, q8, q9, q10, q11, q12, q13, q14, q15, q16, q17, q18, q19, q20, q21, q22, q23, q24, q25, q26, q27, q28, q29, q30, q31, q32, q33, q34, q35, q36, q37, q38, q39, q40, q41, q42, q43, q44, q45, q46, q47, q48, q49, q50, q51, q52, q53, q54, q55, q56, q57, q58, q59, q61, q62, q63, q64, q66, q67, q68, q69, q70, q71, q91, q93, q99, q100, q102, q104, q107, q108, q112, q114, q115, q119, q121, q124, q160, q200, q255, q640, q999, q1000, q2000, q4096, n_of, nI_ltI, nI_leI, nI_eq, nI_clamp, nI_add, pk_mul, n_sub, m1_eq, m1_eq2, m1_lt, m1_lt2, gdN, Nat.not_lt_zero, false_or, if_true, if_false, if_pos, if_neg, cond_true, cond_false, beq_self, and_self, true_and, and_true, not_true_eq_false, not_false_eq_true, ne_eq] at key
      exact key
theorem c_reckonFar {K : Mem → Prop} (hcc : isC c) (hg : gOk g) {s : Mem} (hc : CityC c g s) {w a r : Nat} (hw : w < 5) (ha : a < gN g) (hr : r + 20 ≤ 400) (hK : ∀ s', outR c r s s' → FarC c r (farG g w a) s' → K s') : wV (wp (d + 3)) m_C_reckonFar [.ref c, .int (nI w), .int (nI a), .int (nI r)] s K := by
  have h20 := gN_le hg
  rw [e_C_reckonFar, q0]
  refine c_reckon_3 hcc (by omega) hr ?_ 20 0 s _ _ rfl outR_r (fun k hk => by omega)
  intro s' v5 v6 hf hF
  rw [r_C_reckonFar_3]
  simp (disch := omega) only [↓n_m1, ↓n_hid, q0, q1, q2, q3, q4, q5, q6, q7, q8, q9, q10, q11, q12, q13, q14, q15, q16, q17, q18, q19, q20, q21, q22, q23, q24, q25, q26, q27, q28, q29, q30, q31, q32, q33, q34, q35, q36, q37, q38, q39, q40, q41, q42, q43, q44, q45, q46, q47, q48, q49, q50, q51, q52, q53, q54, q55, q56, q57, q58, q59, q61, q62, q63, q64, q66, q67, q68, q69, q70, q71, q91, q93, q99, q100, q102, q104, q107, q108, q112, q114, q115, q119, q121, q124, q160, q200, q255, q640, q999, q1000, q2000, q4096, n_of, nI_ltI, nI_leI, nI_eq, nI_clamp, nI_add, pk_mul, n_sub, m1_eq, m1_eq2, m1_lt, m1_lt2, gdN, Nat.not_lt_zero, false_or, if_true, if_false, if_pos, if_neg, cond_true, cond_false, beq_self, and_self, true_and, and_true, not_true_eq_false, not_false_eq_true, ne_eq]
  exact c_reckon_44 hcc hg hc hw ha hr hK 20 0 s' _ _ rfl hf hF
/-- the city with what farness it has reckoned -/
def CityF (c : Nat) (g : Gph) (s : Mem) : Prop := CityC c g s ∧ ∀ w a, w < 5 → a < gN g → s (c + 6) a = nI (w + 1) → FarC c (20 * a) (farG g w a) s
theorem c_farness {K : Int32 → Mem → Prop} (hcc : isC c) (hg : gOk g) {s : Mem} (hc : CityF c g s) {w a b : Nat} (hw : w < 5) (ha : a < gN g) (hb : b < gN g) (hK : ∀ s', frm [c + 5, c + 6] s s' → CityF c g s' → K (cosI (farG g w a b)) s') : wI (wp (d + 4)) m_C_farness [.ref c, .int (nI w), .int (nI a), .int (nI b)] s K := by
  have h20 := gN_le hg
  have hL := C_le hcc
  rw [e_C_farness]
  simp (disch := omega) only [↓n_m1, ↓n_hid, q0, q1, q2, q3, q4, q5, q6, q7, q8, q9, q10, q11, q12, q13, q14, q15, q16, q17, q18, q19, q20, q21, q22, q23, q24, q25, q26, q27, q28, q29, q30, q31, q32, q33, q34, q35, q36, q37, q38, q39, q40, q41, q42, q43, q44, q45, q46, q47, q48, q49, q50, q51, q52, q53, q54, q55, q56, q57, q58, q59, q61, q62, q63, q64, q66, q67, q68, q69, q70, q71, q91, q93, q99, q100, q102, q104, q107, q108, q112, q114, q115, q119, q121, q124, q160, q200, q255, q640, q999, q1000, q2000, q4096, n_of, nI_ltI, nI_leI, nI_eq, nI_clamp, nI_add, pk_mul, n_sub, m1_eq, m1_eq2, m1_lt, m1_lt2, gdN, Nat.not_lt_zero, false_or, if_true, if_false, if_pos, if_neg, cond_true, cond_false, beq_self, and_self, true_and, and_true, not_true_eq_false, not_false_eq_true, ne_eq, C_b hcc]
  rw [c_at (by rw [C_s6 hcc]) (by rw [C_s6 hcc]; show _ < 20; omega)]
  have h := hc.2 w a hw ha
  rw [Nat.mul_comm a 20]
  by_cases h0 : s (c + 6) a = nI (w + 1)
  · simp only [h0, if_true]
    rw [c_at (by rw [C_s5 hcc]) (by rw [C_s5 hcc]; show _ < 400; omega), h h0 b (by omega)]
    exact hK s frm_r hc
  · simp only [h0, if_false]
    refine c_reckonFar hcc hg hc.1 hw ha (by omega) ?_
    intro s' hf hF
    rw [c_put (by rw [C_s6 hcc]) (by omega) (by rw [C_s6 hcc]; show _ < 20; omega), c_at (by rw [C_s5 hcc]) (by rw [C_s5 hcc]; show _ < 400; omega), up_ce (by omega), hF b (by omega)]
    refine hK _ (frm_t (frm_w hf.1 (by simp)) (frm_u (by simp))) ⟨CityC_f (L := [c + 6]) (by simp) (by simp) (by simp) (frm_u (by simp)) (CityC_o hf hc.1), ?_⟩
    intro w' a' hw' ha' h1
    by_cases e : a' = a
    · subst e
      rw [up_at, nI_eq (by omega) (by omega)] at h1
      obtain rfl : w' = w := by omega
      intro k hk
      rw [up_ce (by omega)]
      exact hF k hk
    · rw [up_pl (by omega), hf.1 _ (by simp)] at h1
      intro k hk
      rw [up_ce (by omega), hf.2 _ (by omega)]
      exact hc.2 w' a' hw' ha' h1 k hk
end
