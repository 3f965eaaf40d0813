section
variable {d c : Nat} {g : Gph}
/-- how many unlike breaths there are: a bit for each -/
def seenF (g : Gph) (br : Nat → Int32) : Int32 := itr (fun k x => if gst g k = true then x ||| (nI 1 <<< (br k &&& nI 31)) else x) (gN g) 0 (nI 0)
theorem seenF_e {br br' : Nat → Int32} (h : ∀ k, k < gN g → br k = br' k) : seenF g br = seenF g br' := itr_eq fun k x _ hk => by rw [h k (by omega)]
theorem c_unlikeBreaths {K : Int32 → Mem → Prop} (hcc : isC c) (hg : gOk g) {s : Mem} (hc : CityC c g s) : wI (wp (d + 4)) m_A_unlikeBreaths [.ref 37, .ref c] s K = K (bcF (seenF g (s 40))) s := by
  have h20 := gN_le hg
  have lp : ∀ (n i : Nat) (x : Int32), i + n = gN g → RnI (d + 3) m_A_unlikeBreaths K 4 [.ref 37, .ref c, .int x, .int (nI i)] [] s = K (bcF (itr (fun k x => if gst g k = true then x ||| (nI 1 <<< (s 40 k &&& nI 31)) else x) n i x)) s := by
    intro n
    induction n with
    | zero =>
      intro i x hi
      rw [r_A_unlikeBreaths_4, c_cells hcc hc]
      simp (disch := omega) only [↓n_m1, ↓n_hid, q0, q1, q2, q3, q4, q5, q6, q7, q8, q9, q10, q11, q12, q13, q14, q15, q16, q17, q18, q19, q20, q21, q22, q23, q24, q25, q26, q27, q28, q29, q30, q31, q32, q33, q34, q35, q36, q37, q38, q39, q40, q41, q42, q43, q44, q45, q46, q47, q48, q49, q50, q51, q52, q53, q54, q55, q56, q57, q58, q59, q61, q62, q63, q64, q66, q67, q68, q69, q70, q71, q91, q93, q99, q100, q102, q104, q107, q108, q112, q114, q115, q119, q121, q124, q160, q200, q255, q640, q999, q1000, q2000, q4096, n_of, nI_ltI, nI_leI, nI_eq, nI_clamp, nI_add, pk_mul, n_sub, m1_eq, m1_eq2, m1_lt, m1_lt2, gdN, Nat.not_lt_zero, false_or, if_true, if_false, if_pos, if_neg, cond_true, cond_false, beq_self, and_self, true_and, and_true, not_true_eq_false, not_false_eq_true, ne_eq, C_b hcc]
      rw [c_bitCount (d := d + 2)]
      rfl
    | succ n ih =>
      intro i x hi
      rw [r_A_unlikeBreaths_4, c_cells hcc hc]
      simp (disch := omega) only [↓n_m1, ↓n_hid, q0, q1, q2, q3, q4, q5, q6, q7, q8, q9, q10, q11, q12, q13, q14, q15, q16, q17, q18, q19, q20, q21, q22, q23, q24, q25, q26, q27, q28, q29, q30, q31, q32, q33, q34, q35, q36, q37, q38, q39, q40, q41, q42, q43, q44, q45, q46, q47, q48, q49, q50, q51, q52, q53, q54, q55, q56, q57, q58, q59, q61, q62, q63, q64, q66, q67, q68, q69, q70, q71, q91, q93, q99, q100, q102, q104, q107, q108, q112, q114, q115, q119, q121, q124, q160, q200, q255, q640, q999, q1000, q2000, q4096, n_of, nI_ltI, nI_leI, nI_eq, nI_clamp, nI_add, pk_mul, n_sub, m1_eq, m1_eq2, m1_lt, m1_lt2, gdN, Nat.not_lt_zero, false_or, if_true, if_false, if_pos, if_neg, cond_true, cond_false, beq_self, and_self, true_and, and_true, not_true_eq_false, not_false_eq_true, ne_eq, C_b hcc]
      rw [c_isStreet hcc hg hc (by omega)]
      simp (disch := omega) only [↓n_m1, ↓n_hid, q0, q1, q2, q3, q4, q5, q6, q7, q8, q9, q10, q11, q12, q13, q14, q15, q16, q17, q18, q19, q20, q21, q22, q23, q24, q25, q26, q27, q28, q29, q30, q31, q32, q33, q34, q35, q36, q37, q38, q39, q40, q41, q42, q43, q44, q45, q46, q47, q48, q49, q50, q51, q52, q53, q54, q55, q56, q57, q58, q59, q61, q62, q63, q64, q66, q67, q68, q69, q70, q71, q91, q93, q99, q100, q102, q104, q107, q108, q112, q114, q115, q119, q121, q124, q160, q200, q255, q640, q999, q1000, q2000, q4096, n_of, nI_ltI, nI_leI, nI_eq, nI_clamp, nI_add, pk_mul, n_sub, m1_eq, m1_eq2, m1_lt, m1_lt2, gdN, Nat.not_lt_zero, false_or, if_true, if_false, if_pos, if_neg, cond_true, cond_false, beq_self, and_self, true_and, and_true, not_true_eq_false, not_false_eq_true, ne_eq, b01_0]
      rw [c_breathAt (d := d + 1) (by omega)]
      show _ = K (bcF (itr _ n (i + 1) (if gst g i = true then x ||| (nI 1 <<< (s 40 i &&& nI 31)) else x))) s
      cases hst : gst g i with
      | false => simp only [if_true, Bool.false_eq_true, if_false]; exact ih (i + 1) _ (by omega)
      | true => simp only [Bool.true_eq_false, if_false, if_true]; exact ih (i + 1) _ (by omega)
  rw [e_A_unlikeBreaths, q0]
  exact lp (gN g) 0 _ (by omega)
theorem m_kindsNow {K : Int32 → Mem → Prop} (hg : gOk g) {s : Mem} (hc : CityM g s) : wI (wp (d + 4)) m_M_kindsNow [.ref 57] s K = K (bcF (seenF g (s 73))) s := by
  have h20 := gN_le hg
  have lp : ∀ (n i : Nat) (x : Int32), i + n = gN g → RnI (d + 3) m_M_kindsNow K 4 [.ref 57, .int x, .int (nI i)] [] s = K (bcF (itr (fun k x => if gst g k = true then x ||| (nI 1 <<< (s 73 k &&& nI 31)) else x) n i x)) s := by
    intro n
    induction n with
    | zero =>
      intro i x hi
      rw [r_M_kindsNow_4, m_cells hc]
      simp (disch := omega) only [↓n_m1, ↓n_hid, q0, q1, q2, q3, q4, q5, q6, q7, q8, q9, q10, q11, q12, q13, q14, q15, q16, q17, q18, q19, q20, q21, q22, q23, q24, q25, q26, q27, q28, q29, q30, q31, q32, q33, q34, q35, q36, q37, q38, q39, q40, q41, q42, q43, q44, q45, q46, q47, q48, q49, q50, q51, q52, q53, q54, q55, q56, q57, q58, q59, q61, q62, q63, q64, q66, q67, q68, q69, q70, q71, q91, q93, q99, q100, q102, q104, q107, q108, q112, q114, q115, q119, q121, q124, q160, q200, q255, q640, q999, q1000, q2000, q4096, n_of, nI_ltI, nI_leI, nI_eq, nI_clamp, nI_add, pk_mul, n_sub, m1_eq, m1_eq2, m1_lt, m1_lt2, gdN, Nat.not_lt_zero, false_or, if_true, if_false, if_pos, if_neg, cond_true, cond_false, beq_self, and_self, true_and, and_true, not_true_eq_false, not_false_eq_true, ne_eq]
      rw [c_bitCount (d := d + 2)]
      rfl
    | succ n ih =>
      intro i x hi
      rw [r_M_kindsNow_4, m_cells hc]
      simp (disch := omega) only [↓n_m1, ↓n_hid, q0, q1, q2, q3, q4, q5, q6, q7, q8, q9, q10, q11, q12, q13, q14, q15, q16, q17, q18, q19, q20, q21, q22, q23, q24, q25, q26, q27, q28, q29, q30, q31, q32, q33, q34, q35, q36, q37, q38, q39, q40, q41, q42, q43, q44, q45, q46, q47, q48, q49, q50, q51, q52, q53, q54, q55, q56, q57, q58, q59, q61, q62, q63, q64, q66, q67, q68, q69, q70, q71, q91, q93, q99, q100, q102, q104, q107, q108, q112, q114, q115, q119, q121, q124, q160, q200, q255, q640, q999, q1000, q2000, q4096, n_of, nI_ltI, nI_leI, nI_eq, nI_clamp, nI_add, pk_mul, n_sub, m1_eq, m1_eq2, m1_lt, m1_lt2, gdN, Nat.not_lt_zero, false_or, if_true, if_false, if_pos, if_neg, cond_true, cond_false, beq_self, and_self, true_and, and_true, not_true_eq_false, not_false_eq_true, ne_eq, hc.2.2.2.1 i (by omega), b01_0]
      show _ = K (bcF (itr _ n (i + 1) (if gst g i = true then x ||| (nI 1 <<< (s 73 i &&& nI 31)) else x))) s
      cases hst : gst g i with
      | false => simp only [if_true, Bool.false_eq_true, if_false]; exact ih (i + 1) _ (by omega)
      | true => simp only [Bool.true_eq_false, if_false, if_true]; exact ih (i + 1) _ (by omega)
  rw [e_M_kindsNow, q0]
  exact lp (gN g) 0 _ (by omega)
theorem m_changedFromKept {K : Int32 → Mem → Prop} (hg : gOk g) {s : Mem} (hc : CityM g s) : wI (wp (d + 4)) m_M_changedFromKept [.ref 57] s K = K (bits (fun k => gst g k && ! decide (s 73 k = s 74 k)) (gN g)) s := by
  have h20 := gN_le hg
  have lp : ∀ (n i : Nat), i + n = gN g → RnI (d + 3) m_M_changedFromKept K 4 [.ref 57, .int (bits (fun k => gst g k && ! decide (s 73 k = s 74 k)) i), .int (nI i)] [] s = K (bits (fun k => gst g k && ! decide (s 73 k = s 74 k)) (gN g)) s := by
    intro n
    induction n with
    | zero =>
      intro i hi
      obtain rfl : i = gN g := by omega
      rw [r_M_changedFromKept_4, m_cells hc]
      simp (disch := omega) only [↓n_m1, ↓n_hid, q0, q1, q2, q3, q4, q5, q6, q7, q8, q9, q10, q11, q12, q13, q14, q15, q16, q17, q18, q19, q20, q21, q22, q23, q24, q25, q26, q27, q28, q29, q30, q31, q32, q33, q34, q35, q36, q37, q38, q39, q40, q41, q42, q43, q44, q45, q46, q47, q48, q49, q50, q51, q52, q53, q54, q55, q56, q57, q58, q59, q61, q62, q63, q64, q66, q67, q68, q69, q70, q71, q91, q93, q99, q100, q102, q104, q107, q108, q112, q114, q115, q119, q121, q124, q160, q200, q255, q640, q999, q1000, q2000, q4096, n_of, nI_ltI, nI_leI, nI_eq, nI_clamp, nI_add, pk_mul, n_sub, m1_eq, m1_eq2, m1_lt, m1_lt2, gdN, Nat.not_lt_zero, false_or, if_true, if_false, if_pos, if_neg, cond_true, cond_false, beq_self, and_self, true_and, and_true, not_true_eq_false, not_false_eq_true, ne_eq]
    | succ n ih =>
      intro i hi
      have o0 : ∀ x : Int32, x ||| nI 0 = x := fun x => tb_ext fun k _ => by rw [tb_or, tb_0, Bool.or_false]
      rw [← ih (i + 1) (by omega), r_M_changedFromKept_4, m_cells hc, bits_S]
      simp (disch := omega) only [↓n_m1, ↓n_hid, q0, q1, q2, q3, q4, q5, q6, q7, q8, q9, q10, q11, q12, q13, q14, q15, q16, q17, q18, q19, q20, q21, q22, q23, q24, q25, q26, q27, q28, q29, q30, q31, q32, q33, q34, q35, q36, q37, q38, q39, q40, q41, q42, q43, q44, q45, q46, q47, q48, q49, q50, q51, q52, q53, q54, q55, q56, q57, q58, q59, q61, q62, q63, q64, q66, q67, q68, q69, q70, q71, q91, q93, q99, q100, q102, q104, q107, q108, q112, q114, q115, q119, q121, q124, q160, q200, q255, q640, q999, q1000, q2000, q4096, n_of, nI_ltI, nI_leI, nI_eq, nI_clamp, nI_add, pk_mul, n_sub, m1_eq, m1_eq2, m1_lt, m1_lt2, gdN, Nat.not_lt_zero, false_or, if_true, if_false, if_pos, if_neg, cond_true, cond_false, beq_self, and_self, true_and, and_true, not_true_eq_false, not_false_eq_true, ne_eq, hc.2.2.2.1 i (by omega), b01_0, bit_e, o0]
      cases gst g i
      · simp
      · by_cases e : s 73 i = s 74 i
        · simp [e]
        · simp [e]
  rw [e_M_changedFromKept, q0]
  exact lp (gN g) 0 (by omega)
theorem m_keepBreaths {K : Mem → Prop} {s : Mem} (hK : ∀ s', frm [74] s s' → (∀ k, k < 20 → s' 74 k = s 73 k) → K s') : wV (wp (d + 2)) m_M_keepBreaths [.ref 57] s K := by
  have lp : ∀ (n i : Nat) (t : Mem), i + n = 20 → frm [74] s t → (∀ k, k < i → t 74 k = s 73 k) → RnV (d + 1) m_M_keepBreaths K 2 [.ref 57, .int (nI i)] [] t := by
    intro n
    induction n with
    | zero =>
      intro i t hi hf h
      obtain rfl : i = 20 := by omega
      rw [r_M_keepBreaths_2]
      simp (disch := omega) only [↓n_m1, ↓n_hid, q0, q1, q2, q3, q4, q5, q6, q7, q8, q9, q10, q11, q12, q13, q14, q15, q16, q17, q18, q19, q20, q21, q22, q23, q24, q25, q26, q27, q28, q29, q30, q31, q32, q33, q34, q35, q36, q37, q38, q39, q40, q41, q42, q43, q44, q45, q46, q47, q48, q49, q50, q51, q52, q53, q54, q55, q56, q57, q58, q59, q61, q62, q63, q64, q66, q67, q68, q69, q70, q71, q91, q93, q99, q100, q102, q104, q107, q108, q112, q114, q115, q119, q121, q124, q160, q200, q255, q640, q999, q1000, q2000, q4096, n_of, nI_ltI, nI_leI, nI_eq, nI_clamp, nI_add, pk_mul, n_sub, m1_eq, m1_eq2, m1_lt, m1_lt2, gdN, Nat.not_lt_zero, false_or, if_true, if_false, if_pos, if_neg, cond_true, cond_false, beq_self, and_self, true_and, and_true, not_true_eq_false, not_false_eq_true, ne_eq]
      exact hK t hf h
    | succ n ih =>
      intro i t hi hf h
      rw [r_M_keepBreaths_2]
      simp (disch := omega) only [↓n_m1, ↓n_hid, q0, q1, q2, q3, q4, q5, q6, q7, q8, q9, q10, q11, q12, q13, q14, q15, q16, q17, q18, q19, q20, q21, q22, q23, q24, q25, q26, q27, q28, q29, q30, q31, q32, q33, q34, q35, q36, q37, q38, q39, q40, q41, q42, q43, q44, q45, q46, q47, q48, q49, q50, q51, q52, q53, q54, q55, q56, q57, q58, q59, q61, q62, q63, q64, q66, q67, q68, q69, q70, q71, q91, q93, q99, q100, q102, q104, q107, q108, q112, q114, q115, q119, q121, q124, q160, q200, q255, q640, q999, q1000, q2000, q4096, n_of, nI_ltI, nI_leI, nI_eq, nI_clamp, nI_add, pk_mul, n_sub, m1_eq, m1_eq2, m1_lt, m1_lt2, gdN, Nat.not_lt_zero, false_or, if_true, if_false, if_pos, if_neg, cond_true, cond_false, beq_self, and_self, true_and, and_true, not_true_eq_false, not_false_eq_true, ne_eq]
      refine ih (i + 1) _ (by omega) (frm_t hf (frm_u (by simp))) fun k hk => ?_
      by_cases e : k = i
      · rw [e, up_at, hf 73 (by decide)]
      · rw [up_pl e]; exact h k (by omega)
  rw [e_M_keepBreaths, q0]
  exact lp 20 0 s rfl frm_r (fun k hk => by omega)
theorem c_remember {K : Mem → Prop} {s : Mem} (hK : ∀ s', frm [41] s s' → (∀ k, k < 20 → s' 41 k = s 40 k) → K s') : wV (wp (d + 1)) m_A_remember [.ref 37] s K := by
  rw [e_A_remember]
  refine hK _ (frm_c (by simp)) fun k hk => ?_
  unfold cpM
  rw [if_pos rfl, if_pos (by omega)]
  congr 1
  omega
end
