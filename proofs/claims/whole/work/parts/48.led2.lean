section
variable {d c : Nat} {g : Gph} {W : Wth} {rn : Bool} {w dl : Nat}
theorem flw_P (hg : gOk g) {F : Nat → Nat} : ∀ (n k : Nat), k < gN g → gst g k = true → (flw g F n k).1 < gN g
  | 0, _, hk, _ => hk
  | n + 1, k, hk, hst => by
    unfold flw
    split
    · exact hk
    · obtain ⟨a1, a2, _, _⟩ := nst_P (F := F) hk hst 4 1 k hk hst (Nat.le_refl _)
      exact flw_P hg n _ a1 a2
def ledB (g : Gph) (h : Nat) (o : Int32) (F : Nat → Nat) (q k : Nat) : Bool := gst g k && ldB g h o q (flw g F 20 k).1
theorem c_led_l {K : Int32 → Mem → Prop} (hcc : isC c) (hg : gOk g) {s : Mem} {hr : Nat} (hn : NoC c g W rn w dl hr s) {q : Nat} (hq : q < 5) {y : Int32} (hy : ∀ e, tb y e = ldB g (hr % 24) (s 34 4) q e) {F : Nat → Nat} (hF : (fun v => smN g W (hr % 24) rn w (smI g (hr % 24) (s 34 4)) none v q) = F) : ∀ (n i : Nat), i + n = gN g →
    RnI (d + 7) m_X_led K 49 [.ref 0, .int (nI q), .int y, .int (bits (ledB g (hr % 24) (s 34 4) F q) i), .int (nI i)] [] s = K (bits (ledB g (hr % 24) (s 34 4) F q) (gN g)) s := by
  have h20 := gN_le hg
  have hL := C_le hcc
  have hr1 : s 0 1 = nI (c + 1) := hn.1
  have hc := hn.2.1
  intro n
  induction n with
  | zero =>
    intro i hi
    obtain rfl : i = gN g := by omega
    rw [r_X_led_49, hr1]
    simp (disch := omega) only [↓n_m1, ↓n_hid, q0, q1, q2, q3, q4, q5, q6, q7, q8, q9, q10, q11, q12, q13, q14, q15, q16, q17, q18, q19, q20, q21, q22, q23, q24, q25, q26, q27, q28, q29, q30, q31, q32, q33, q34, q35, q36, q37, q38, q39, q40, q41, q42, q43, q44, q45, q46, q47, q48, q49, q50, q51, q52, q53, q54, q55, q56, q57, q58, q59, q61, q62, q63, q64, q66, q67, q68, q69, q70, q71, q91, q93, q99, q100, q102, q104, q107, q108, q112, q114, q115, q119, q121, q124, q160, q200, q255, q640, q999, q1000, q2000, q4096, n_of, nI_ltI, nI_leI, nI_eq, nI_clamp, nI_add, pk_mul, n_sub, m1_eq, m1_eq2, m1_lt, m1_lt2, gdN, Nat.not_lt_zero, false_or, if_true, if_false, if_pos, if_neg, cond_true, cond_false, beq_self, and_self, true_and, and_true, not_true_eq_false, not_false_eq_true, ne_eq, Nat.add_sub_cancel, C_b hcc]
    rw [c_cells hcc hc]
    simp (disch := omega) only [↓n_m1, ↓n_hid, q0, q1, q2, q3, q4, q5, q6, q7, q8, q9, q10, q11, q12, q13, q14, q15, q16, q17, q18, q19, q20, q21, q22, q23, q24, q25, q26, q27, q28, q29, q30, q31, q32, q33, q34, q35, q36, q37, q38, q39, q40, q41, q42, q43, q44, q45, q46, q47, q48, q49, q50, q51, q52, q53, q54, q55, q56, q57, q58, q59, q61, q62, q63, q64, q66, q67, q68, q69, q70, q71, q91, q93, q99, q100, q102, q104, q107, q108, q112, q114, q115, q119, q121, q124, q160, q200, q255, q640, q999, q1000, q2000, q4096, n_of, nI_ltI, nI_leI, nI_eq, nI_clamp, nI_add, pk_mul, n_sub, m1_eq, m1_eq2, m1_lt, m1_lt2, gdN, Nat.not_lt_zero, false_or, if_true, if_false, if_pos, if_neg, cond_true, cond_false, beq_self, and_self, true_and, and_true, not_true_eq_false, not_false_eq_true, ne_eq, hr1, Nat.add_sub_cancel, C_b hcc]
  | succ n ih =>
    intro i hi
    rw [← ih (i + 1) (by omega), r_X_led_49, hr1, bits_S]
    simp (disch := omega) only [↓n_m1, ↓n_hid, q0, q1, q2, q3, q4, q5, q6, q7, q8, q9, q10, q11, q12, q13, q14, q15, q16, q17, q18, q19, q20, q21, q22, q23, q24, q25, q26, q27, q28, q29, q30, q31, q32, q33, q34, q35, q36, q37, q38, q39, q40, q41, q42, q43, q44, q45, q46, q47, q48, q49, q50, q51, q52, q53, q54, q55, q56, q57, q58, q59, q61, q62, q63, q64, q66, q67, q68, q69, q70, q71, q91, q93, q99, q100, q102, q104, q107, q108, q112, q114, q115, q119, q121, q124, q160, q200, q255, q640, q999, q1000, q2000, q4096, n_of, nI_ltI, nI_leI, nI_eq, nI_clamp, nI_add, pk_mul, n_sub, m1_eq, m1_eq2, m1_lt, m1_lt2, gdN, Nat.not_lt_zero, false_or, if_true, if_false, if_pos, if_neg, cond_true, cond_false, beq_self, and_self, true_and, and_true, not_true_eq_false, not_false_eq_true, ne_eq, Nat.add_sub_cancel, C_b hcc]
    rw [c_cells hcc hc]
    simp (disch := omega) only [↓n_m1, ↓n_hid, q0, q1, q2, q3, q4, q5, q6, q7, q8, q9, q10, q11, q12, q13, q14, q15, q16, q17, q18, q19, q20, q21, q22, q23, q24, q25, q26, q27, q28, q29, q30, q31, q32, q33, q34, q35, q36, q37, q38, q39, q40, q41, q42, q43, q44, q45, q46, q47, q48, q49, q50, q51, q52, q53, q54, q55, q56, q57, q58, q59, q61, q62, q63, q64, q66, q67, q68, q69, q70, q71, q91, q93, q99, q100, q102, q104, q107, q108, q112, q114, q115, q119, q121, q124, q160, q200, q255, q640, q999, q1000, q2000, q4096, n_of, nI_ltI, nI_leI, nI_eq, nI_clamp, nI_add, pk_mul, n_sub, m1_eq, m1_eq2, m1_lt, m1_lt2, gdN, Nat.not_lt_zero, false_or, if_true, if_false, if_pos, if_neg, cond_true, cond_false, beq_self, and_self, true_and, and_true, not_true_eq_false, not_false_eq_true, ne_eq, hr1, Nat.add_sub_cancel, C_b hcc]
    rw [c_isStreet hcc hg hc (by omega)]
    simp (disch := omega) only [↓n_m1, ↓n_hid, q0, q1, q2, q3, q4, q5, q6, q7, q8, q9, q10, q11, q12, q13, q14, q15, q16, q17, q18, q19, q20, q21, q22, q23, q24, q25, q26, q27, q28, q29, q30, q31, q32, q33, q34, q35, q36, q37, q38, q39, q40, q41, q42, q43, q44, q45, q46, q47, q48, q49, q50, q51, q52, q53, q54, q55, q56, q57, q58, q59, q61, q62, q63, q64, q66, q67, q68, q69, q70, q71, q91, q93, q99, q100, q102, q104, q107, q108, q112, q114, q115, q119, q121, q124, q160, q200, q255, q640, q999, q1000, q2000, q4096, n_of, nI_ltI, nI_leI, nI_eq, nI_clamp, nI_add, pk_mul, n_sub, m1_eq, m1_eq2, m1_lt, m1_lt2, gdN, Nat.not_lt_zero, false_or, if_true, if_false, if_pos, if_neg, cond_true, cond_false, beq_self, and_self, true_and, and_true, not_true_eq_false, not_false_eq_true, ne_eq, b01_0]
    cases hst : gst g i with
    | false =>
      have e : ledB g (hr % 24) (s 34 4) F q i = false := by unfold ledB; rw [hst, Bool.false_and]
      simp [e]
    | true =>
      have hlt := flw_P (F := F) hg 20 i (by omega) hst
      have e : ledB g (hr % 24) (s 34 4) F q i = ldB g (hr % 24) (s 34 4) q (flw g F 20 i).1 := by unfold ledB; rw [hst, Bool.true_and]
      simp only [Bool.true_eq_false, if_false]
      rw [c_noseEnd (d := d) hcc hg hn (show i < gN g by omega) hst hq, hF, e]
      simp only [sh_b (show (flw g F 20 i).1 < 32 by omega), hy, b01_0, bit_e]
      cases ldB g (hr % 24) (s 34 4) q (flw g F 20 i).1 <;> simp
end
