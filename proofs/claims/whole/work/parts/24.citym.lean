/-! the reference's city -/
def CityM (g : Gph) (s : Mem) : Prop :=
  s 57 24 = nI (gR g) ∧ s 57 25 = nI (gC g) ∧ s 57 26 = nI (gS g) ∧ (∀ k, k < gN g → s 62 k = b01 (gst g k)) ∧
  (∀ k j, k < gS g → j < 6 → s 65 (6 * k + j) = nI (git g k j))
theorem m1_neg : (m1 < nI 0) = True := eq_true (by decide)
theorem n_pm (n : Nat) : nI (n + 1) + m1 = nI n := pk_m1 n
theorem n_0m : nI 0 + m1 = m1 := by decide
def besM (g : Gph) (p side : Nat) : Int32 := if bes g p side = p then m1 else nI (bes g p side)
section
variable {d : Nat} {g : Gph} {s : Mem} {K : Int32 → Mem → Prop}
theorem m_cells (hc : CityM g s) : wI (wp (d + 1)) m_M_cells [.ref 57] s K = K (nI (gN g)) s := by
  rw [e_M_cells, hc.1, hc.2.1, pk_mul]
  rfl
theorem m_has {x : Int32} {k : Nat} (hk : k < 32) : wI (wp (d + 1)) m_M_has [.int x, .int (nI k)] s K = K (b01 (tb x k)) s := by
  rw [e_M_has]
  simp only [q31, q1, q0, sh_b hk, b01_1]
  cases tb x k <;> simp [b01]
theorem m_placeAt (hg : gOk g) (hc : CityM g s) {x : Int32} : wI (wp (d + 1)) m_M_placeAt [.ref 57, .int x] s K = K (oI (plc g x)) s := by
  have h1 := hg.1
  have h2 := hg.2.1
  rw [e_M_placeAt]
  unfold plc
  by_cases h0 : x < 0
  · rw [if_pos h0, if_pos h0]; rfl
  · rw [if_neg h0, if_neg h0]
    obtain ⟨j, hj, rfl⟩ := nI_of h0
    rw [q10, pk_rem hj (by decide) (by decide), pk_div hj (by decide) (by decide), nI_clamp hj, hc.1, hc.2.1, pk_mul, nI_add, Nat.mul_comm (gC g)]
    simp only [nI_ltI (show j / 10 < 2 ^ 31 by omega) (show gR g < 2 ^ 31 by omega), nI_ltI (show j % 10 < 2 ^ 31 by omega) (show gC g < 2 ^ 31 by omega)]
    by_cases h3 : j / 10 < gR g
    · by_cases h4 : j % 10 < gC g
      · rw [if_pos h3, if_pos h4, if_pos ⟨h3, h4⟩]; rfl
      · rw [if_pos h3, if_neg h4, if_neg (fun z => h4 z.2)]; rfl
    · rw [if_neg h3, if_neg (fun z => h3 z.1)]; rfl
theorem m_streetAt (hg : gOk g) (hc : CityM g s) {x : Int32} : wI (wp (d + 2)) m_M_streetAt [.ref 57, .int x] s K = K (oI (stc g x)) s := by
  have h1 := gN_le hg
  rw [e_M_streetAt, m_placeAt hg hc]
  unfold stc
  cases e : plc g x with
  | none => rw [n_m1]; simp only [oI, if_true]
  | some k =>
    have hk := plc_lt e
    simp only [oI, n_m1]
    simp (disch := omega) only [↓n_m1, ↓n_hid, q0, q1, q2, q3, q4, q5, q6, q7, q8, q9, q10, q11, q12, q13, q14, q15, q16, q17, q18, q19, q20, q21, q22, q23, q24, q25, q26, q27, q28, q29, q30, q31, q32, q33, q34, q35, q36, q37, q38, q39, q40, q41, q42, q43, q44, q45, q46, q47, q48, q49, q50, q51, q52, q53, q54, q55, q56, q57, q58, q59, q61, q62, q63, q64, q66, q67, q68, q69, q70, q71, q91, q93, q99, q100, q102, q104, q107, q108, q112, q114, q115, q119, q121, q124, q160, q200, q255, q640, q999, q1000, q2000, q4096, n_of, nI_ltI, nI_leI, nI_eq, nI_clamp, nI_add, pk_mul, n_sub, m1_eq, m1_eq2, m1_lt, m1_lt2, gdN, Nat.not_lt_zero, false_or, if_true, if_false, if_pos, if_neg, cond_true, cond_false, beq_self, and_self, true_and, and_true, not_true_eq_false, not_false_eq_true, ne_eq, hc.2.2.2.1 k hk, b01_0]
    cases gst g k <;> simp
theorem m_bes55 (hg : gOk g) (hc : CityM g s) {r k : Nat} (hr : r ≤ 5) (hk : k ≤ 6) {v1 v2 : Value} : RnI d m_M_besideOf K 55 [.ref 57, v1, v2, .int (nI r), .int (nI k)] [] s = K (if (r < gR g ∧ k < gC g) ∧ gst g (gC g * r + k) = true then nI (gC g * r + k) else m1) s := by
  have h1 := hg.1
  have h2 := hg.2.1
  have h5 := gN_le hg
  rw [r_M_besideOf_55]
  simp only [hc.1, hc.2.1]
  by_cases h3 : r < gR g
  · by_cases h4 : k < gC g
    · have h6 : gC g * r + k < gN g := by
        unfold gN
        calc gC g * r + k < gC g * r + gC g := by omega
          _ = (r + 1) * gC g := by rw [Nat.add_mul, Nat.one_mul, Nat.mul_comm]
          _ ≤ gR g * gC g := Nat.mul_le_mul_right _ h3
      simp (disch := omega) only [↓n_m1, ↓n_hid, q0, q1, q2, q3, q4, q5, q6, q7, q8, q9, q10, q11, q12, q13, q14, q15, q16, q17, q18, q19, q20, q21, q22, q23, q24, q25, q26, q27, q28, q29, q30, q31, q32, q33, q34, q35, q36, q37, q38, q39, q40, q41, q42, q43, q44, q45, q46, q47, q48, q49, q50, q51, q52, q53, q54, q55, q56, q57, q58, q59, q61, q62, q63, q64, q66, q67, q68, q69, q70, q71, q91, q93, q99, q100, q102, q104, q107, q108, q112, q114, q115, q119, q121, q124, q160, q200, q255, q640, q999, q1000, q2000, q4096, n_of, nI_ltI, nI_leI, nI_eq, nI_clamp, nI_add, pk_mul, n_sub, m1_eq, m1_eq2, m1_lt, m1_lt2, gdN, Nat.not_lt_zero, false_or, if_true, if_false, if_pos, if_neg, cond_true, cond_false, beq_self, and_self, true_and, and_true, not_true_eq_false, not_false_eq_true, ne_eq, Nat.not_lt_zero, hc.2.2.2.1 _ h6, b01_0]
      cases gst g (gC g * r + k)
      · simp
      · simp [h3, h4]
    · simp (disch := omega) only [↓n_m1, ↓n_hid, q0, q1, q2, q3, q4, q5, q6, q7, q8, q9, q10, q11, q12, q13, q14, q15, q16, q17, q18, q19, q20, q21, q22, q23, q24, q25, q26, q27, q28, q29, q30, q31, q32, q33, q34, q35, q36, q37, q38, q39, q40, q41, q42, q43, q44, q45, q46, q47, q48, q49, q50, q51, q52, q53, q54, q55, q56, q57, q58, q59, q61, q62, q63, q64, q66, q67, q68, q69, q70, q71, q91, q93, q99, q100, q102, q104, q107, q108, q112, q114, q115, q119, q121, q124, q160, q200, q255, q640, q999, q1000, q2000, q4096, n_of, nI_ltI, nI_leI, nI_eq, nI_clamp, nI_add, pk_mul, n_sub, m1_eq, m1_eq2, m1_lt, m1_lt2, gdN, Nat.not_lt_zero, false_or, if_true, if_false, if_pos, if_neg, cond_true, cond_false, beq_self, and_self, true_and, and_true, not_true_eq_false, not_false_eq_true, ne_eq]
  · simp (disch := omega) only [↓n_m1, ↓n_hid, q0, q1, q2, q3, q4, q5, q6, q7, q8, q9, q10, q11, q12, q13, q14, q15, q16, q17, q18, q19, q20, q21, q22, q23, q24, q25, q26, q27, q28, q29, q30, q31, q32, q33, q34, q35, q36, q37, q38, q39, q40, q41, q42, q43, q44, q45, q46, q47, q48, q49, q50, q51, q52, q53, q54, q55, q56, q57, q58, q59, q61, q62, q63, q64, q66, q67, q68, q69, q70, q71, q91, q93, q99, q100, q102, q104, q107, q108, q112, q114, q115, q119, q121, q124, q160, q200, q255, q640, q999, q1000, q2000, q4096, n_of, nI_ltI, nI_leI, nI_eq, nI_clamp, nI_add, pk_mul, n_sub, m1_eq, m1_eq2, m1_lt, m1_lt2, gdN, Nat.not_lt_zero, false_or, if_true, if_false, if_pos, if_neg, cond_true, cond_false, beq_self, and_self, true_and, and_true, not_true_eq_false, not_false_eq_true, ne_eq]
theorem m_bes55r {v1 v2 : Value} {x : Int32} : RnI d m_M_besideOf K 55 [.ref 57, v1, v2, .int m1, .int x] [] s = K m1 s := by
  rw [r_M_besideOf_55]
  simp only [q0, n_m1, m1_neg, if_true]
theorem m_bes55c (hg : gOk g) (hc : CityM g s) {r : Nat} (hr : r < gR g) {v1 v2 : Value} : RnI d m_M_besideOf K 55 [.ref 57, v1, v2, .int (nI r), .int m1] [] s = K m1 s := by
  have h1 := hg.1
  rw [r_M_besideOf_55, hc.1]
  simp (disch := omega) only [↓n_m1, ↓n_hid, q0, q1, q2, q3, q4, q5, q6, q7, q8, q9, q10, q11, q12, q13, q14, q15, q16, q17, q18, q19, q20, q21, q22, q23, q24, q25, q26, q27, q28, q29, q30, q31, q32, q33, q34, q35, q36, q37, q38, q39, q40, q41, q42, q43, q44, q45, q46, q47, q48, q49, q50, q51, q52, q53, q54, q55, q56, q57, q58, q59, q61, q62, q63, q64, q66, q67, q68, q69, q70, q71, q91, q93, q99, q100, q102, q104, q107, q108, q112, q114, q115, q119, q121, q124, q160, q200, q255, q640, q999, q1000, q2000, q4096, n_of, nI_ltI, nI_leI, nI_eq, nI_clamp, nI_add, pk_mul, n_sub, m1_eq, m1_eq2, m1_lt, m1_lt2, gdN, Nat.not_lt_zero, false_or, if_true, if_false, if_pos, if_neg, cond_true, cond_false, beq_self, and_self, true_and, and_true, not_true_eq_false, not_false_eq_true, ne_eq, m1_neg, if_true]
theorem m_besideOf (hg : gOk g) (hc : CityM g s) {p side : Nat} (hp : p < gN g) (hs : 1 ≤ side ∧ side < 5) : wI (wp (d + 1)) m_M_besideOf [.ref 57, .int (nI p), .int (nI side)] s K = K (besM g p side) s := by
  have h1 := hg.1
  have h2 := hg.2.1
  have h5 := gN_le hg
  have h6 := gC_pos hp
  have hm := Nat.mod_lt p h6
  have he := Nat.div_add_mod p (gC g)
  have hd : p / gC g < gR g := (Nat.div_lt_iff_lt_mul h6).mpr hp
  rw [e_M_besideOf]
  simp only [r_M_besideOf_27, hc.2.1]
  rw [pk_rem (by omega) h6 (by omega), pk_div (by omega) h6 (by omega)]
  generalize ha : p / gC g = a at *
  generalize hb : p % gC g = b at *
  have hcc : side = 1 ∨ side = 2 ∨ side = 3 ∨ side = 4 := by omega
  unfold besM bes
  rcases hcc with rfl | rfl | rfl | rfl
  · cases a with
    | zero =>
      have : ¬ gC g ≤ p := by omega
      simp (disch := omega) only [↓n_m1, ↓n_hid, q0, q1, q2, q3, q4, q5, q6, q7, q8, q9, q10, q11, q12, q13, q14, q15, q16, q17, q18, q19, q20, q21, q22, q23, q24, q25, q26, q27, q28, q29, q30, q31, q32, q33, q34, q35, q36, q37, q38, q39, q40, q41, q42, q43, q44, q45, q46, q47, q48, q49, q50, q51, q52, q53, q54, q55, q56, q57, q58, q59, q61, q62, q63, q64, q66, q67, q68, q69, q70, q71, q91, q93, q99, q100, q102, q104, q107, q108, q112, q114, q115, q119, q121, q124, q160, q200, q255, q640, q999, q1000, q2000, q4096, n_of, nI_ltI, nI_leI, nI_eq, nI_clamp, nI_add, pk_mul, n_sub, m1_eq, m1_eq2, m1_lt, m1_lt2, gdN, Nat.not_lt_zero, false_or, if_true, if_false, if_pos, if_neg, cond_true, cond_false, beq_self, and_self, true_and, and_true, not_true_eq_false, not_false_eq_true, ne_eq, n_0m, m_bes55r, Nat.add_zero]
    | succ a =>
      have e1 : gC g * (a + 1) = gC g * a + gC g := Nat.mul_succ _ _
      have e2 : gC g * a + b = p - gC g := by omega
      simp (disch := omega) only [↓n_m1, ↓n_hid, q0, q1, q2, q3, q4, q5, q6, q7, q8, q9, q10, q11, q12, q13, q14, q15, q16, q17, q18, q19, q20, q21, q22, q23, q24, q25, q26, q27, q28, q29, q30, q31, q32, q33, q34, q35, q36, q37, q38, q39, q40, q41, q42, q43, q44, q45, q46, q47, q48, q49, q50, q51, q52, q53, q54, q55, q56, q57, q58, q59, q61, q62, q63, q64, q66, q67, q68, q69, q70, q71, q91, q93, q99, q100, q102, q104, q107, q108, q112, q114, q115, q119, q121, q124, q160, q200, q255, q640, q999, q1000, q2000, q4096, n_of, nI_ltI, nI_leI, nI_eq, nI_clamp, nI_add, pk_mul, n_sub, m1_eq, m1_eq2, m1_lt, m1_lt2, gdN, Nat.not_lt_zero, false_or, if_true, if_false, if_pos, if_neg, cond_true, cond_false, beq_self, and_self, true_and, and_true, not_true_eq_false, not_false_eq_true, ne_eq, n_pm, Nat.add_zero, m_bes55 hg hc]
      rw [e2]
      have : gC g ≤ p := by omega
      have h7 : a < gR g ∧ b < gC g := by omega
      simp only [this, h7, true_and, and_self, if_true]
      cases gst g (p - gC g)
      · simp
      · simp only [if_true]; rw [if_neg (by omega)]
  · simp (disch := omega) only [↓n_m1, ↓n_hid, q0, q1, q2, q3, q4, q5, q6, q7, q8, q9, q10, q11, q12, q13, q14, q15, q16, q17, q18, q19, q20, q21, q22, q23, q24, q25, q26, q27, q28, q29, q30, q31, q32, q33, q34, q35, q36, q37, q38, q39, q40, q41, q42, q43, q44, q45, q46, q47, q48, q49, q50, q51, q52, q53, q54, q55, q56, q57, q58, q59, q61, q62, q63, q64, q66, q67, q68, q69, q70, q71, q91, q93, q99, q100, q102, q104, q107, q108, q112, q114, q115, q119, q121, q124, q160, q200, q255, q640, q999, q1000, q2000, q4096, n_of, nI_ltI, nI_leI, nI_eq, nI_clamp, nI_add, pk_mul, n_sub, m1_eq, m1_eq2, m1_lt, m1_lt2, gdN, Nat.not_lt_zero, false_or, if_true, if_false, if_pos, if_neg, cond_true, cond_false, beq_self, and_self, true_and, and_true, not_true_eq_false, not_false_eq_true, ne_eq, Nat.add_zero, m_bes55 hg hc]
    rw [show gC g * a + (b + 1) = p + 1 by omega]
    simp only [hd, true_and, hb]
    by_cases h7 : b + 1 < gC g ∧ gst g (p + 1) = true
    · simp only [h7, and_self, if_true]; rw [if_neg (by omega)]
    · simp only [h7, if_false, if_true]
  · have e1 : gC g * (a + 1) = gC g * a + gC g := Nat.mul_succ _ _
    simp (disch := omega) only [↓n_m1, ↓n_hid, q0, q1, q2, q3, q4, q5, q6, q7, q8, q9, q10, q11, q12, q13, q14, q15, q16, q17, q18, q19, q20, q21, q22, q23, q24, q25, q26, q27, q28, q29, q30, q31, q32, q33, q34, q35, q36, q37, q38, q39, q40, q41, q42, q43, q44, q45, q46, q47, q48, q49, q50, q51, q52, q53, q54, q55, q56, q57, q58, q59, q61, q62, q63, q64, q66, q67, q68, q69, q70, q71, q91, q93, q99, q100, q102, q104, q107, q108, q112, q114, q115, q119, q121, q124, q160, q200, q255, q640, q999, q1000, q2000, q4096, n_of, nI_ltI, nI_leI, nI_eq, nI_clamp, nI_add, pk_mul, n_sub, m1_eq, m1_eq2, m1_lt, m1_lt2, gdN, Nat.not_lt_zero, false_or, if_true, if_false, if_pos, if_neg, cond_true, cond_false, beq_self, and_self, true_and, and_true, not_true_eq_false, not_false_eq_true, ne_eq, Nat.add_zero, m_bes55 hg hc]
    rw [show gC g * (a + 1) + b = p + gC g by omega]
    have h8 : (a + 1 < gR g) = (p + gC g < gN g) := by
      apply propext
      constructor
      · intro h
        unfold gN
        calc p + gC g < gC g * a + gC g + gC g := by omega
          _ = (a + 1 + 1) * gC g := by simp only [Nat.add_mul, Nat.one_mul, Nat.mul_comm]
          _ ≤ gR g * gC g := Nat.mul_le_mul_right _ h
      · intro h
        have : (p + gC g) / gC g < gR g := (Nat.div_lt_iff_lt_mul h6).mpr h
        rw [Nat.add_div_right _ h6, ha] at this
        exact this
    simp only [h8, hm, and_true]
    by_cases h7 : p + gC g < gN g ∧ gst g (p + gC g) = true
    · simp only [h7, and_self, if_true]; rw [if_neg (by omega)]
    · simp only [h7, if_false, if_true]
  · cases b with
    | zero =>
      simp (disch := omega) only [↓n_m1, ↓n_hid, q0, q1, q2, q3, q4, q5, q6, q7, q8, q9, q10, q11, q12, q13, q14, q15, q16, q17, q18, q19, q20, q21, q22, q23, q24, q25, q26, q27, q28, q29, q30, q31, q32, q33, q34, q35, q36, q37, q38, q39, q40, q41, q42, q43, q44, q45, q46, q47, q48, q49, q50, q51, q52, q53, q54, q55, q56, q57, q58, q59, q61, q62, q63, q64, q66, q67, q68, q69, q70, q71, q91, q93, q99, q100, q102, q104, q107, q108, q112, q114, q115, q119, q121, q124, q160, q200, q255, q640, q999, q1000, q2000, q4096, n_of, nI_ltI, nI_leI, nI_eq, nI_clamp, nI_add, pk_mul, n_sub, m1_eq, m1_eq2, m1_lt, m1_lt2, gdN, Nat.not_lt_zero, false_or, if_true, if_false, if_pos, if_neg, cond_true, cond_false, beq_self, and_self, true_and, and_true, not_true_eq_false, not_false_eq_true, ne_eq, n_0m, Nat.add_zero, m_bes55c hg hc hd]
    | succ b =>
      simp (disch := omega) only [↓n_m1, ↓n_hid, q0, q1, q2, q3, q4, q5, q6, q7, q8, q9, q10, q11, q12, q13, q14, q15, q16, q17, q18, q19, q20, q21, q22, q23, q24, q25, q26, q27, q28, q29, q30, q31, q32, q33, q34, q35, q36, q37, q38, q39, q40, q41, q42, q43, q44, q45, q46, q47, q48, q49, q50, q51, q52, q53, q54, q55, q56, q57, q58, q59, q61, q62, q63, q64, q66, q67, q68, q69, q70, q71, q91, q93, q99, q100, q102, q104, q107, q108, q112, q114, q115, q119, q121, q124, q160, q200, q255, q640, q999, q1000, q2000, q4096, n_of, nI_ltI, nI_leI, nI_eq, nI_clamp, nI_add, pk_mul, n_sub, m1_eq, m1_eq2, m1_lt, m1_lt2, gdN, Nat.not_lt_zero, false_or, if_true, if_false, if_pos, if_neg, cond_true, cond_false, beq_self, and_self, true_and, and_true, not_true_eq_false, not_false_eq_true, ne_eq, n_pm, Nat.add_zero, m_bes55 hg hc]
      rw [show gC g * a + b = p - 1 by omega]
      have h7 : a < gR g ∧ b < gC g := by omega
      simp only [hb, h7, true_and, and_self, Nat.zero_lt_succ]
      cases gst g (p - 1)
      · simp
      · simp only [if_true]; rw [if_neg (by omega)]
theorem m_stays (hg : gOk g) (hc : CityM g s) {p side : Nat} (hp : p < gN g) (hs : 1 ≤ side ∧ side < 5) : wI (wp (d + 2)) m_M_stays [.ref 57, .int (nI p), .int (nI side)] s K = K (nI (bes g p side)) s := by
  have h5 := gN_le hg
  have h6 := bes_lt hp side
  rw [e_M_stays, m_besideOf hg hc hp hs, n_m1]
  unfold besM
  split
  · rename_i h; rw [if_pos rfl, h]
  · simp only [m1_eq (show bes g p side < 2 ^ 31 by omega), if_false]
theorem m_cellOf (hg : gOk g) (hc : CityM g s) {p : Nat} (hp : p < gN g) : wI (wp (d + 1)) m_M_cellOf [.ref 57, .int (nI p)] s K = K (nI (p / gC g * 10 + p % gC g)) s := by
  have h1 := gN_le hg
  have h2 := hg.2.1
  have h3 := gC_pos hp
  rw [e_M_cellOf]
  simp only [hc.2.1]
  rw [pk_rem (by omega) h3 (by omega), pk_div (by omega) h3 (by omega)]
  simp (disch := omega) only [↓n_m1, ↓n_hid, q0, q1, q2, q3, q4, q5, q6, q7, q8, q9, q10, q11, q12, q13, q14, q15, q16, q17, q18, q19, q20, q21, q22, q23, q24, q25, q26, q27, q28, q29, q30, q31, q32, q33, q34, q35, q36, q37, q38, q39, q40, q41, q42, q43, q44, q45, q46, q47, q48, q49, q50, q51, q52, q53, q54, q55, q56, q57, q58, q59, q61, q62, q63, q64, q66, q67, q68, q69, q70, q71, q91, q93, q99, q100, q102, q104, q107, q108, q112, q114, q115, q119, q121, q124, q160, q200, q255, q640, q999, q1000, q2000, q4096, n_of, nI_ltI, nI_leI, nI_eq, nI_clamp, nI_add, pk_mul, n_sub, m1_eq, m1_eq2, m1_lt, m1_lt2, gdN, Nat.not_lt_zero, false_or, if_true, if_false, if_pos, if_neg, cond_true, cond_false, beq_self, and_self, true_and, and_true, not_true_eq_false, not_false_eq_true, ne_eq]
  rw [Nat.mul_comm]
theorem m_isSource (hg : gOk g) (hc : CityM g s) {x : Int32} : wI (wp (d + 1)) m_M_isSource [.ref 57, .int x] s K = K (b01 (decide (¬ x < 0 ∧ x < nI (gS g)))) s := by
  rw [e_M_isSource]
  simp only [hc.2.2.1]
  by_cases h : x < 0
  · simp [h, b01]; rfl
  · by_cases h2 : x < nI (gS g)
    · simp [h, h2, b01]; rfl
    · simp [h, h2, b01]; rfl
theorem m_placeOfSource (hg : gOk g) (hc : CityM g s) {k : Nat} (hk : k < gS g) : wI (wp (d + 1)) m_M_placeOfSource [.ref 57, .int (nI k)] s K = K (nI (gsp g k)) s := by
  have h1 := hg.2.2.1
  rw [e_M_placeOfSource]
  simp (disch := omega) only [↓n_m1, ↓n_hid, q0, q1, q2, q3, q4, q5, q6, q7, q8, q9, q10, q11, q12, q13, q14, q15, q16, q17, q18, q19, q20, q21, q22, q23, q24, q25, q26, q27, q28, q29, q30, q31, q32, q33, q34, q35, q36, q37, q38, q39, q40, q41, q42, q43, q44, q45, q46, q47, q48, q49, q50, q51, q52, q53, q54, q55, q56, q57, q58, q59, q61, q62, q63, q64, q66, q67, q68, q69, q70, q71, q91, q93, q99, q100, q102, q104, q107, q108, q112, q114, q115, q119, q121, q124, q160, q200, q255, q640, q999, q1000, q2000, q4096, n_of, nI_ltI, nI_leI, nI_eq, nI_clamp, nI_add, pk_mul, n_sub, m1_eq, m1_eq2, m1_lt, m1_lt2, gdN, Nat.not_lt_zero, false_or, if_true, if_false, if_pos, if_neg, cond_true, cond_false, beq_self, and_self, true_and, and_true, not_true_eq_false, not_false_eq_true, ne_eq, Nat.not_lt_zero, hc.2.1, hc.2.2.2.2 k 1 hk (by decide), hc.2.2.2.2 k 2 hk (by decide)]
  unfold gsp
  rw [Nat.mul_comm]
theorem m_isHour (hg : gOk g) (hc : CityM g s) {h : Nat} (hh : s 68 2 = nI h) (h9 : h ≤ 999) {k : Nat} (hk : k < gS g) : wI (wp (d + 1)) m_M_isHour [.ref 57, .int (nI k)] s K = K (b01 (tml g (h % 24) k)) s := by
  have h1 := hg.2.2.1
  have h3 := hg.2.2.2.2.2 k hk
  rw [e_M_isHour]
  simp only [hh, q24]
  rw [pk_rem (by omega) (by decide) (by decide)]
  simp (disch := omega) only [↓n_m1, ↓n_hid, q0, q1, q2, q3, q4, q5, q6, q7, q8, q9, q10, q11, q12, q13, q14, q15, q16, q17, q18, q19, q20, q21, q22, q23, q24, q25, q26, q27, q28, q29, q30, q31, q32, q33, q34, q35, q36, q37, q38, q39, q40, q41, q42, q43, q44, q45, q46, q47, q48, q49, q50, q51, q52, q53, q54, q55, q56, q57, q58, q59, q61, q62, q63, q64, q66, q67, q68, q69, q70, q71, q91, q93, q99, q100, q102, q104, q107, q108, q112, q114, q115, q119, q121, q124, q160, q200, q255, q640, q999, q1000, q2000, q4096, n_of, nI_ltI, nI_leI, nI_eq, nI_clamp, nI_add, pk_mul, n_sub, m1_eq, m1_eq2, m1_lt, m1_lt2, gdN, Nat.not_lt_zero, false_or, if_true, if_false, if_pos, if_neg, cond_true, cond_false, beq_self, and_self, true_and, and_true, not_true_eq_false, not_false_eq_true, ne_eq, Nat.not_lt_zero, hc.2.2.2.2 k 3 hk (by decide), hc.2.2.2.2 k 4 hk (by decide)]
  have hl := Nat.mod_lt h (show 0 < 24 by decide)
  generalize h % 24 = j at *
  by_cases h4 : git g k 3 < git g k 4 <;> by_cases h5 : j < git g k 3 <;> by_cases h6 : j < git g k 4 <;> by_cases h7 : git g k 3 = git g k 4 <;> first
    | (exfalso; omega)
    | (have ht : tml g j k = true := by
        unfold tml
        simp only [h4, if_true, if_false]
        exact decide_eq_true (by omega)
       simp only [ht, h4, h5, h6, h7, if_true, if_false, b01_t])
    | (have ht : tml g j k = false := by
        unfold tml
        simp only [h4, if_true, if_false]
        exact decide_eq_false (by omega)
       simp only [ht, h4, h5, h6, h7, if_true, if_false, b01_f])
theorem m_smells (hg : gOk g) (hc : CityM g s) {h : Nat} (hh : s 68 2 = nI h) (h9 : h ≤ 999) {k : Nat} (hk : k < gS g) : wI (wp (d + 2)) m_M_smells [.ref 57, .int (nI k)] s K = K (b01 (tb (s 68 4) k && tml g (h % 24) k)) s := by
  have h1 := hg.2.2.1
  rw [e_M_smells, m_has (by omega)]
  simp only [q0, b01_0]
  rw [m_isHour hg hc hh h9 hk]
  simp only [b01_0]
  cases tb (s 68 4) k <;> cases tml g (h % 24) k <;> simp [b01] <;> rfl
end
