section
variable {d c : Nat} {g : Gph}
theorem m_streetMany {K : Int32 → Mem → Prop} (hg : gOk g) {s : Mem} (hc : CityM g s) : wI (wp (d + 3)) m_M_streetMany [.ref 57] s K = K (nI (cnt (gst g) (gN g))) s := by
  have h20 := gN_le hg
  have lp : ∀ (n i : Nat), i + n = gN g → RnI (d + 2) m_M_streetMany K 4 [.ref 57, .int (nI (cnt (gst g) i)), .int (nI i)] [] s = K (nI (cnt (gst g) (gN g))) s := by
    intro n
    induction n with
    | zero =>
      intro i hi
      obtain rfl : i = gN g := by omega
      rw [r_M_streetMany_4, m_cells hc]
      simp (disch := omega) only [↓n_m1, ↓n_hid, q0, q1, q2, q3, q4, q5, q6, q7, q8, q9, q10, q11, q12, q13, q14, q15, q16, q17, q18, q19, q20, q21, q22, q23, q24, q25, q26, q27, q28, q29, q30, q31, q32, q33, q34, q35, q36, q37, q38, q39, q40, q41, q42, q43, q44, q45, q46, q47, q48, q49, q50, q51, q52, q53, q54, q55, q56, q57, q58, q59, q61, q62, q63, q64, q66, q67, q68, q69, q70, q71, q91, q93, q99, q100, q102, q104, q107, q108, q112, q114, q115, q119, q121, q124, q160, q200, q255, q640, q999, q1000, q2000, q4096, n_of, nI_ltI, nI_leI, nI_eq, nI_clamp, nI_add, pk_mul, n_sub, m1_eq, m1_eq2, m1_lt, m1_lt2, gdN, Nat.not_lt_zero, false_or, if_true, if_false, if_pos, if_neg, cond_true, cond_false, beq_self, and_self, true_and, and_true, not_true_eq_false, not_false_eq_true, ne_eq]
    | succ n ih =>
      intro i hi
      have e : cnt (gst g) (i + 1) = cnt (gst g) i + (if gst g i = true then 1 else 0) := rfl
      rw [← ih (i + 1) (by omega), r_M_streetMany_4, m_cells hc, e]
      simp (disch := omega) only [↓n_m1, ↓n_hid, q0, q1, q2, q3, q4, q5, q6, q7, q8, q9, q10, q11, q12, q13, q14, q15, q16, q17, q18, q19, q20, q21, q22, q23, q24, q25, q26, q27, q28, q29, q30, q31, q32, q33, q34, q35, q36, q37, q38, q39, q40, q41, q42, q43, q44, q45, q46, q47, q48, q49, q50, q51, q52, q53, q54, q55, q56, q57, q58, q59, q61, q62, q63, q64, q66, q67, q68, q69, q70, q71, q91, q93, q99, q100, q102, q104, q107, q108, q112, q114, q115, q119, q121, q124, q160, q200, q255, q640, q999, q1000, q2000, q4096, n_of, nI_ltI, nI_leI, nI_eq, nI_clamp, nI_add, pk_mul, n_sub, m1_eq, m1_eq2, m1_lt, m1_lt2, gdN, Nat.not_lt_zero, false_or, if_true, if_false, if_pos, if_neg, cond_true, cond_false, beq_self, and_self, true_and, and_true, not_true_eq_false, not_false_eq_true, ne_eq, hc.2.2.2.1 i (by omega), b01_0]
      cases gst g i <;> simp
  rw [e_M_streetMany, q0]
  exact lp (gN g) 0 (by omega)
theorem m_isIn {K : Int32 → Mem → Prop} {s : Mem} {x : Int32} {b : Int64} {n : Nat} (hb : b.toInt = n) : wI (wp (d + 1)) m_M_isIn [.long x.toInt64, .long 0, .long b] s K = K (b01 (decide (0 ≤ x.toInt ∧ x.toInt ≤ n))) s := by
  have h0 : (0 : Int64).toInt = 0 := by decide
  have c1 : (lg_cmp x.toInt64 0 < 0) = (x.toInt < 0) := by
    unfold lg_cmp
    apply propext
    by_cases h1 : x.toInt64 > 0
    · rw [if_pos h1]
      have : (0 : Int64).toInt < x.toInt64.toInt := Int64.lt_iff_toInt_lt.mp h1
      rw [h0, Int32.toInt_toInt64] at this
      constructor
      · intro z; exact absurd z (by decide)
      · intro z; omega
    · rw [if_neg h1]
      have h1' : ¬ (0 : Int64).toInt < x.toInt64.toInt := fun z => h1 (Int64.lt_iff_toInt_lt.mpr z)
      rw [h0, Int32.toInt_toInt64] at h1'
      by_cases h2 : x.toInt64 = 0
      · rw [if_pos h2]
        have := congrArg Int64.toInt h2
        rw [h0, Int32.toInt_toInt64] at this
        constructor
        · intro z; exact absurd z (by decide)
        · intro z; omega
      · rw [if_neg h2]
        have : x.toInt ≠ 0 := fun z => h2 (Int64.toInt_inj.mp (by rw [Int32.toInt_toInt64, h0, z]))
        constructor
        · intro _; omega
        · intro _; decide
  have c2 : (0 < lg_cmp x.toInt64 b) = ((n : Int) < x.toInt) := by
    unfold lg_cmp
    apply propext
    by_cases h1 : x.toInt64 > b
    · rw [if_pos h1]
      have : b.toInt < x.toInt64.toInt := Int64.lt_iff_toInt_lt.mp h1
      rw [hb, Int32.toInt_toInt64] at this
      exact ⟨fun _ => this, fun _ => by decide⟩
    · rw [if_neg h1]
      have h1' : ¬ b.toInt < x.toInt64.toInt := fun z => h1 (Int64.lt_iff_toInt_lt.mpr z)
      rw [hb, Int32.toInt_toInt64] at h1'
      constructor
      · intro z
        split at z
        · exact absurd z (by decide)
        · exact absurd z (by decide)
      · intro z; exact absurd z h1'
  rw [e_M_isIn]
  simp only [c1, c2]
  by_cases h1 : x.toInt < 0
  · rw [if_pos h1, decide_eq_false (by omega)]; rfl
  · rw [if_neg h1]
    by_cases h2 : (n : Int) < x.toInt
    · rw [if_pos h2, decide_eq_false (by omega)]; rfl
    · rw [if_neg h2, decide_eq_true (by omega)]; rfl
end
