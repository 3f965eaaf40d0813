section
variable {d c : Nat} {g : Gph} {W : Wth} {P : Mem → Prop} {lv : Value} {Ll : List Nat} {h : Nat} {rn : Bool} {w dl : Nat}
/-- the law that is held, as the class keeps it -/
def HoldC (lv : Value) (s : Mem) : Prop := (lv = .null ∧ s 0 5 = m1) ∨ (∃ i : Nat, i < 5 ∧ lv = .ref (18 + 3 * i) ∧ s 0 5 = nI i)
theorem c_blowX {K : Mem → Prop} (hcc : isC c) (hg : gOk g) (hl : HlC lv Ll W P) (hP : PStay c P) (hw : w < 5) {s : Mem} (hr : RefC c s) (hh : HoldC lv s) (hn : NowC h rn dl s) (hc : CityF c g s) (hp : P s)
    (hK : ∀ s', frm ([c + 5, c + 6, 37, 38, 39] ++ Ll) s s' → CityF c g s' → P s' → AirC g W h rn w dl none s' → K s') :
    wV (wp (d + 8)) m_X_blow [.ref 0, .int (nI w)] s K := by
  have hL := C_le hcc
  have key := c_blow (d := d) hcc hg hl hP hw hn hc hp hK
  unfold RefC at hr
  rw [e_X_blow, hr]
  simp (disch := omega) only [↓n_m1, ↓n_hid, q0, q1, q2, q3, q4, q5, q6, q7, q8, q9, q10, q11, q12, q13, q14, q15, q16, q17, q18, q19, q20, q21, q22, q23, q24, q25, q26, q27, q28, q29, q30, q31, q32, q33, q34, q35, q36, q37, q38, q39, q40, q41, q42, q43, q44, q45, q46, q47, q48, q49, q50, q51, q52, q53, q54, q55, q56, q57, q58, q59, q61, q62, q63, q64, q66, q67, q68, q69, q70, q71, q91, q93, q99, q100, q102, q104, q107, q108, q112, q114, q115, q119, q121, q124, q160, q200, q255, q640, q999, q1000, q2000, q4096, n_of, nI_ltI, nI_leI, nI_eq, nI_clamp, nI_add, pk_mul, n_sub, m1_eq, m1_eq2, m1_lt, m1_lt2, gdN, Nat.not_lt_zero, false_or, if_true, if_false, if_pos, if_neg, cond_true, cond_false, beq_self, and_self, true_and, and_true, not_true_eq_false, not_false_eq_true, ne_eq, Nat.add_sub_cancel]
  rw [e_X_holdingLaw, e_X_lawAt]
  rcases hh with ⟨rfl, e⟩ | ⟨i, hi, rfl, e⟩
  · rw [e]
    simp only [q0, m1_neg, if_true]
    exact key
  · rw [e]
    simp (disch := omega) only [↓n_m1, ↓n_hid, q0, q1, q2, q3, q4, q5, q6, q7, q8, q9, q10, q11, q12, q13, q14, q15, q16, q17, q18, q19, q20, q21, q22, q23, q24, q25, q26, q27, q28, q29, q30, q31, q32, q33, q34, q35, q36, q37, q38, q39, q40, q41, q42, q43, q44, q45, q46, q47, q48, q49, q50, q51, q52, q53, q54, q55, q56, q57, q58, q59, q61, q62, q63, q64, q66, q67, q68, q69, q70, q71, q91, q93, q99, q100, q102, q104, q107, q108, q112, q114, q115, q119, q121, q124, q160, q200, q255, q640, q999, q1000, q2000, q4096, n_of, nI_ltI, nI_leI, nI_eq, nI_clamp, nI_add, pk_mul, n_sub, m1_eq, m1_eq2, m1_lt, m1_lt2, gdN, Nat.not_lt_zero, false_or, if_true, if_false, if_pos, if_neg, cond_true, cond_false, beq_self, and_self, true_and, and_true, not_true_eq_false, not_false_eq_true, ne_eq]
    exact key
theorem c_isKind {K : Int32 → Mem → Prop} {s : Mem} {x : Int32} : wI (wp (d + 1)) m_X_isKind [.int x] s K = K (b01 (decide (0 ≤ x.toInt ∧ x.toInt ≤ 4))) s := by
  have h0 : (0 : Int32).toInt = 0 := by decide
  have h5 : (5 : Int32).toInt = 5 := by decide
  rw [e_X_isKind]
  simp only [Int32.lt_iff_toInt_lt, h0, h5]
  by_cases h1 : x.toInt < 0
  · rw [if_pos h1, decide_eq_false (by omega)]; rfl
  · rw [if_neg h1]
    by_cases h2 : x.toInt < 5
    · rw [if_pos h2, decide_eq_true (by omega)]; rfl
    · rw [if_neg h2, decide_eq_false (by omega)]; rfl
end
