section
variable {d c : Nat} {g : Gph} {W : Wth} {rn : Bool} {w dl : Nat}
/-- where one is by the trail: the class's walked() -/
theorem c_walked {K : Int32 → Mem → Prop} (hcc : isC c) (hg : gOk g) {s : Mem} {hr : Nat} (hn : NoC c g W rn w dl hr s) (hdl : dl ≤ 50) {t : Nat} {sd : Nat → Nat} {bt : Nat → Int32} (ht : t ≤ 12) (hsd : ∀ i, i < t → sd i < 5) (hT : TrC t sd bt s) {ends : Bool}
    (hK : ∀ s', frm [40] s s' → K (fits g (brI g W (hr % 24) rn w dl (s 34 4) none) bt sd t ends) s') : wI (wp (d + 8)) m_X_walked [.ref 0, .int (b01 ends)] s K := by
  obtain ⟨h1, h2, h3, h4, h5, h6⟩ := hn
  have hS := hg.2.2.1
  have hL := C_le hcc
  have o6 : tb (smI g (hr % 24) (s 34 4)) 6 = (none : Option (Nat × Nat)).isSome := by
    rw [tb_smI hg, decide_eq_false (show ¬ 6 < gS g by omega), Bool.false_and, Bool.and_false]; rfl
  have h1' : s 0 1 = nI (c + 1) := h1
  rw [e_X_walked, h1']
  simp (disch := omega) only [↓n_m1, ↓n_hid, q0, q1, q2, q3, q4, q5, q6, q7, q8, q9, q10, q11, q12, q13, q14, q15, q16, q17, q18, q19, q20, q21, q22, q23, q24, q25, q26, q27, q28, q29, q30, q31, q32, q33, q34, q35, q36, q37, q38, q39, q40, q41, q42, q43, q44, q45, q46, q47, q48, q49, q50, q51, q52, q53, q54, q55, q56, q57, q58, q59, q61, q62, q63, q64, q66, q67, q68, q69, q70, q71, q91, q93, q99, q100, q102, q104, q107, q108, q112, q114, q115, q119, q121, q124, q160, q200, q255, q640, q999, q1000, q2000, q4096, n_of, nI_ltI, nI_leI, nI_eq, nI_clamp, nI_add, pk_mul, n_sub, m1_eq, m1_eq2, m1_lt, m1_lt2, gdN, Nat.not_lt_zero, false_or, if_true, if_false, if_pos, if_neg, cond_true, cond_false, beq_self, and_self, true_and, and_true, not_true_eq_false, not_false_eq_true, ne_eq, Nat.add_sub_cancel]
  rw [c_smelling (d := d + 3) hcc hg h1 h2 h3 h4]
  refine c_breathe (d := d + 1) hcc hg h2 h5 hdl o6 (fun _ _ z => by simp at z) (fun _ _ z => by simp at z) ?_
  intro u hf hu
  have e0 : u 0 1 = nI (c + 1) := by rw [hf 0 (by decide)]; exact h1
  have hTu : TrC t sd bt u := by
    unfold TrC at *
    rw [hf 42 (by decide), hf 43 (by decide), hf 44 (by decide)]
    exact hT
  have hcu : CityC c g u := CityC_f (by simp; omega) (by simp; omega) (by simp; omega) hf h2
  rw [e0]
  simp (disch := omega) only [↓n_m1, ↓n_hid, q0, q1, q2, q3, q4, q5, q6, q7, q8, q9, q10, q11, q12, q13, q14, q15, q16, q17, q18, q19, q20, q21, q22, q23, q24, q25, q26, q27, q28, q29, q30, q31, q32, q33, q34, q35, q36, q37, q38, q39, q40, q41, q42, q43, q44, q45, q46, q47, q48, q49, q50, q51, q52, q53, q54, q55, q56, q57, q58, q59, q61, q62, q63, q64, q66, q67, q68, q69, q70, q71, q91, q93, q99, q100, q102, q104, q107, q108, q112, q114, q115, q119, q121, q124, q160, q200, q255, q640, q999, q1000, q2000, q4096, n_of, nI_ltI, nI_leI, nI_eq, nI_clamp, nI_add, pk_mul, n_sub, m1_eq, m1_eq2, m1_lt, m1_lt2, gdN, Nat.not_lt_zero, false_or, if_true, if_false, if_pos, if_neg, cond_true, cond_false, beq_self, and_self, true_and, and_true, not_true_eq_false, not_false_eq_true, ne_eq, Nat.add_sub_cancel]
  rw [c_fitting (d := d + 1) hcc hg hcu ht hsd hTu]
  have e : fits g (u 40) bt sd t ends = fits g (brI g W (hr % 24) rn w dl (s 34 4) none) bt sd t ends := fits_e fun k hk => by
    rw [hu k hk, brI_o (smI_o hg)]
  rw [e]
  exact hK u hf
end
