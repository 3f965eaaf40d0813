/-! the class reads a law's text: numbers, code -/
section
variable {d : Nat} {T : Txt} {s : Mem} {l : Nat}
/-- what number() ends with -/
def OutN (T : Txt) (lo hi : Nat) (r : Sum Nat (Nat × Nat)) (s : Mem) (K : Int32 → Mem → Prop) : Prop := match r with
  | .inl f => ∀ x s', frm [1] s s' → TpB T f s' → K x s'
  | .inr x => if x.2 < lo ∨ hi < x.2 then (∀ y s', frm [1] s s' → TpB T (x.1 - 1) s' → K y s') else ∀ s', frm [1] s s' → TpG T x.1 s' → K (nI x.2) s'
theorem c_number_l {K : Int32 → Mem → Prop} (hT : TxOk T) (hd : 1 ≤ d) {lo hi : Nat} (hlo : lo < 10000) (hhi : hi < 10000) {s0 : Mem} : ∀ (k p v e : Nat) (t : Mem) (v1 : Value), k ≤ 4 → v < 10 ^ (4 - k) → TpG T p t → p ≤ T.2 → (1 ≤ p ∨ (p < T.2 ∧ dg (T.1 p) = true)) → frm [1] s0 t → e = (if T.2 < p + k then T.2 else p + k) → OutN T lo hi (numL T k p v) s0 K →
    RnI d m_T_number K 34 [.ref 1, v1, .int (nI lo), .int (nI hi), .int (nI v), .int (nI e)] [] t := by
  have h160 := hT.1
  obtain ⟨d, rfl⟩ : ∃ e, d = e + 1 := ⟨d - 1, by omega⟩
  intro k
  induction k with
  | zero =>
    intro p v e t v1 hk hv hg hp h1 hf he hK
    obtain ⟨g1, g2, g3, g4⟩ := hg
    have hee : e = p := by rw [he]; split <;> omega
    subst hee
    have hv' : v < 10000 := hv
    have at2 : ∀ {K : Int32 → Mem → Prop}, e < T.2 → wI (wp (d + 1)) m_X_at [.ref 2, .int (nI e)] t K = K (nI (T.1 e)) t := fun {K} hlt => by rw [c_at (d := d) (show (shp 2).1 = 20 from rfl) (show e < 160 by omega), g4 e hlt]
    rw [r_T_number_34, g1, g2]
    by_cases hlt : e < T.2
    · have hb := (hT.2 e hlt).2
      by_cases hdg : dg (T.1 e) = true
      · have hr : numL T 0 e v = .inl e := if_pos ⟨hlt, hdg⟩
        rw [hr] at hK
        simp (disch := omega) only [↓n_m1, ↓n_hid, q0, q1, q2, q3, q4, q5, q6, q7, q8, q9, q10, q11, q12, q13, q14, q15, q16, q17, q18, q19, q20, q21, q22, q23, q24, q25, q26, q27, q28, q29, q30, q31, q32, q33, q34, q35, q36, q37, q38, q39, q40, q41, q42, q43, q44, q45, q46, q47, q48, q49, q50, q51, q52, q53, q54, q55, q56, q57, q58, q59, q61, q62, q63, q64, q66, q67, q68, q69, q70, q71, q91, q93, q99, q100, q102, q104, q107, q108, q112, q114, q115, q119, q121, q124, q160, q200, q255, q640, q999, q1000, q2000, q4096, n_of, nI_ltI, nI_leI, nI_eq, nI_clamp, nI_add, pk_mul, n_sub, m1_eq, m1_eq2, m1_lt, m1_lt2, gdN, Nat.not_lt_zero, false_or, if_true, if_false, if_pos, if_neg, cond_true, cond_false, beq_self, and_self, true_and, and_true, not_true_eq_false, not_false_eq_true, ne_eq]
        rw [at2 hlt, c_isDigit (by omega) (by omega), hdg]
        simp (disch := omega) only [↓n_m1, ↓n_hid, q0, q1, q2, q3, q4, q5, q6, q7, q8, q9, q10, q11, q12, q13, q14, q15, q16, q17, q18, q19, q20, q21, q22, q23, q24, q25, q26, q27, q28, q29, q30, q31, q32, q33, q34, q35, q36, q37, q38, q39, q40, q41, q42, q43, q44, q45, q46, q47, q48, q49, q50, q51, q52, q53, q54, q55, q56, q57, q58, q59, q61, q62, q63, q64, q66, q67, q68, q69, q70, q71, q91, q93, q99, q100, q102, q104, q107, q108, q112, q114, q115, q119, q121, q124, q160, q200, q255, q640, q999, q1000, q2000, q4096, n_of, nI_ltI, nI_leI, nI_eq, nI_clamp, nI_add, pk_mul, n_sub, m1_eq, m1_eq2, m1_lt, m1_lt2, gdN, Nat.not_lt_zero, false_or, if_true, if_false, if_pos, if_neg, cond_true, cond_false, beq_self, and_self, true_and, and_true, not_true_eq_false, not_false_eq_true, ne_eq, g2, b01_0, Bool.true_eq_false]
        exact c_refuseAt (by omega) ⟨g1, g2, g3, g4⟩ hp hp fun s' f' g' => hK _ s' (frm_t hf f') g'
      · have h1 : 1 ≤ e := h1.elim id (fun z => absurd z.2 hdg)
        have hdf : dg (T.1 e) = false := Bool.eq_false_iff.mpr hdg
        have hr : numL T 0 e v = .inr (e, v) := if_neg (fun z => hdg z.2)
        rw [hr] at hK
        simp (disch := omega) only [↓n_m1, ↓n_hid, q0, q1, q2, q3, q4, q5, q6, q7, q8, q9, q10, q11, q12, q13, q14, q15, q16, q17, q18, q19, q20, q21, q22, q23, q24, q25, q26, q27, q28, q29, q30, q31, q32, q33, q34, q35, q36, q37, q38, q39, q40, q41, q42, q43, q44, q45, q46, q47, q48, q49, q50, q51, q52, q53, q54, q55, q56, q57, q58, q59, q61, q62, q63, q64, q66, q67, q68, q69, q70, q71, q91, q93, q99, q100, q102, q104, q107, q108, q112, q114, q115, q119, q121, q124, q160, q200, q255, q640, q999, q1000, q2000, q4096, n_of, nI_ltI, nI_leI, nI_eq, nI_clamp, nI_add, pk_mul, n_sub, m1_eq, m1_eq2, m1_lt, m1_lt2, gdN, Nat.not_lt_zero, false_or, if_true, if_false, if_pos, if_neg, cond_true, cond_false, beq_self, and_self, true_and, and_true, not_true_eq_false, not_false_eq_true, ne_eq]
        rw [at2 hlt, c_isDigit (by omega) (by omega), hdf]
        simp (disch := omega) only [↓n_m1, ↓n_hid, q0, q1, q2, q3, q4, q5, q6, q7, q8, q9, q10, q11, q12, q13, q14, q15, q16, q17, q18, q19, q20, q21, q22, q23, q24, q25, q26, q27, q28, q29, q30, q31, q32, q33, q34, q35, q36, q37, q38, q39, q40, q41, q42, q43, q44, q45, q46, q47, q48, q49, q50, q51, q52, q53, q54, q55, q56, q57, q58, q59, q61, q62, q63, q64, q66, q67, q68, q69, q70, q71, q91, q93, q99, q100, q102, q104, q107, q108, q112, q114, q115, q119, q121, q124, q160, q200, q255, q640, q999, q1000, q2000, q4096, n_of, nI_ltI, nI_leI, nI_eq, nI_clamp, nI_add, pk_mul, n_sub, m1_eq, m1_eq2, m1_lt, m1_lt2, gdN, Nat.not_lt_zero, false_or, if_true, if_false, if_pos, if_neg, cond_true, cond_false, beq_self, and_self, true_and, and_true, not_true_eq_false, not_false_eq_true, ne_eq, g2, b01_0]
        by_cases c1 : v < lo
        · rw [if_pos c1]
          have hK' : ∀ y s', frm [1] s0 s' → TpB T (e - 1) s' → K y s' := by
            have : if v < lo ∨ hi < v then (∀ y s', frm [1] s0 s' → TpB T (e - 1) s' → K y s') else _ := hK
            rwa [if_pos (Or.inl c1)] at this
          exact c_refuseAt (by omega) ⟨g1, g2, g3, g4⟩ hp (by omega) fun s' f' g' => hK' _ s' (frm_t hf f') g'
        · rw [if_neg c1]
          by_cases c2 : hi < v
          · rw [if_pos c2]
            have hK' : ∀ y s', frm [1] s0 s' → TpB T (e - 1) s' → K y s' := by
              have : if v < lo ∨ hi < v then (∀ y s', frm [1] s0 s' → TpB T (e - 1) s' → K y s') else _ := hK
              rwa [if_pos (Or.inr c2)] at this
            exact c_refuseAt (by omega) ⟨g1, g2, g3, g4⟩ hp (by omega) fun s' f' g' => hK' _ s' (frm_t hf f') g'
          · rw [if_neg c2]
            have : if v < lo ∨ hi < v then _ else ∀ s', frm [1] s0 s' → TpG T e s' → K (nI v) s' := hK
            rw [if_neg (by omega)] at this
            exact this t hf ⟨g1, g2, g3, g4⟩
    · have h1 : 1 ≤ e := h1.elim id (fun z => absurd z.1 hlt)
      have hr : numL T 0 e v = .inr (e, v) := if_neg (fun z => hlt z.1)
      rw [hr] at hK
      simp (disch := omega) only [↓n_m1, ↓n_hid, q0, q1, q2, q3, q4, q5, q6, q7, q8, q9, q10, q11, q12, q13, q14, q15, q16, q17, q18, q19, q20, q21, q22, q23, q24, q25, q26, q27, q28, q29, q30, q31, q32, q33, q34, q35, q36, q37, q38, q39, q40, q41, q42, q43, q44, q45, q46, q47, q48, q49, q50, q51, q52, q53, q54, q55, q56, q57, q58, q59, q61, q62, q63, q64, q66, q67, q68, q69, q70, q71, q91, q93, q99, q100, q102, q104, q107, q108, q112, q114, q115, q119, q121, q124, q160, q200, q255, q640, q999, q1000, q2000, q4096, n_of, nI_ltI, nI_leI, nI_eq, nI_clamp, nI_add, pk_mul, n_sub, m1_eq, m1_eq2, m1_lt, m1_lt2, gdN, Nat.not_lt_zero, false_or, if_true, if_false, if_pos, if_neg, cond_true, cond_false, beq_self, and_self, true_and, and_true, not_true_eq_false, not_false_eq_true, ne_eq, g2]
      by_cases c1 : v < lo
      · rw [if_pos c1]
        have hK' : ∀ y s', frm [1] s0 s' → TpB T (e - 1) s' → K y s' := by
          have : if v < lo ∨ hi < v then (∀ y s', frm [1] s0 s' → TpB T (e - 1) s' → K y s') else _ := hK
          rwa [if_pos (Or.inl c1)] at this
        exact c_refuseAt (by omega) ⟨g1, g2, g3, g4⟩ hp (by omega) fun s' f' g' => hK' _ s' (frm_t hf f') g'
      · rw [if_neg c1]
        by_cases c2 : hi < v
        · rw [if_pos c2]
          have hK' : ∀ y s', frm [1] s0 s' → TpB T (e - 1) s' → K y s' := by
            have : if v < lo ∨ hi < v then (∀ y s', frm [1] s0 s' → TpB T (e - 1) s' → K y s') else _ := hK
            rwa [if_pos (Or.inr c2)] at this
          exact c_refuseAt (by omega) ⟨g1, g2, g3, g4⟩ hp (by omega) fun s' f' g' => hK' _ s' (frm_t hf f') g'
        · rw [if_neg c2]
          have : if v < lo ∨ hi < v then _ else ∀ s', frm [1] s0 s' → TpG T e s' → K (nI v) s' := hK
          rw [if_neg (by omega)] at this
          exact this t hf ⟨g1, g2, g3, g4⟩
  | succ k ih =>
    intro p v e t v1 hk hv hg hp h1 hf he hK
    have e10 : 10 ^ (4 - k) = 10 * 10 ^ (4 - (k + 1)) := by
      rw [show 4 - k = (4 - (k + 1)) + 1 by omega, Nat.pow_succ, Nat.mul_comm]
    have hv' : v < 10000 := Nat.lt_of_lt_of_le hv (show 10 ^ (4 - (k + 1)) ≤ 10 ^ 4 from Nat.pow_le_pow_right (by decide) (by omega))
    obtain ⟨g1, g2, g3, g4⟩ := hg
    have at2 : ∀ {K : Int32 → Mem → Prop}, p < T.2 → wI (wp (d + 1)) m_X_at [.ref 2, .int (nI p)] t K = K (nI (T.1 p)) t := fun {K} hlt => by rw [c_at (d := d) (show (shp 2).1 = 20 from rfl) (show p < 160 by omega), g4 p hlt]
    rw [r_T_number_34, g1, g2]
    by_cases hlt : p < T.2
    · have hb := (hT.2 p hlt).2
      have hpe : p < e := by rw [he]; split <;> omega
      have he160 : e ≤ 160 := by rw [he]; split <;> omega
      simp (disch := omega) only [↓n_m1, ↓n_hid, q0, q1, q2, q3, q4, q5, q6, q7, q8, q9, q10, q11, q12, q13, q14, q15, q16, q17, q18, q19, q20, q21, q22, q23, q24, q25, q26, q27, q28, q29, q30, q31, q32, q33, q34, q35, q36, q37, q38, q39, q40, q41, q42, q43, q44, q45, q46, q47, q48, q49, q50, q51, q52, q53, q54, q55, q56, q57, q58, q59, q61, q62, q63, q64, q66, q67, q68, q69, q70, q71, q91, q93, q99, q100, q102, q104, q107, q108, q112, q114, q115, q119, q121, q124, q160, q200, q255, q640, q999, q1000, q2000, q4096, n_of, nI_ltI, nI_leI, nI_eq, nI_clamp, nI_add, pk_mul, n_sub, m1_eq, m1_eq2, m1_lt, m1_lt2, gdN, Nat.not_lt_zero, false_or, if_true, if_false, if_pos, if_neg, cond_true, cond_false, beq_self, and_self, true_and, and_true, not_true_eq_false, not_false_eq_true, ne_eq]
      rw [at2 hlt, c_isDigit (by omega) (by omega)]
      by_cases hdg : dg (T.1 p) = true
      · have hdd := of_decide_eq_true hdg
        have hr : numL T (k + 1) p v = numL T k (p + 1) (10 * v + T.1 p - 48) := if_pos ⟨hlt, hdg⟩
        rw [hr] at hK
        rw [hdg]
        simp (disch := omega) only [↓n_m1, ↓n_hid, q0, q1, q2, q3, q4, q5, q6, q7, q8, q9, q10, q11, q12, q13, q14, q15, q16, q17, q18, q19, q20, q21, q22, q23, q24, q25, q26, q27, q28, q29, q30, q31, q32, q33, q34, q35, q36, q37, q38, q39, q40, q41, q42, q43, q44, q45, q46, q47, q48, q49, q50, q51, q52, q53, q54, q55, q56, q57, q58, q59, q61, q62, q63, q64, q66, q67, q68, q69, q70, q71, q91, q93, q99, q100, q102, q104, q107, q108, q112, q114, q115, q119, q121, q124, q160, q200, q255, q640, q999, q1000, q2000, q4096, n_of, nI_ltI, nI_leI, nI_eq, nI_clamp, nI_add, pk_mul, n_sub, m1_eq, m1_eq2, m1_lt, m1_lt2, gdN, Nat.not_lt_zero, false_or, if_true, if_false, if_pos, if_neg, cond_true, cond_false, beq_self, and_self, true_and, and_true, not_true_eq_false, not_false_eq_true, ne_eq, g2, b01_0, Bool.true_eq_false]
        rw [at2 hlt]
        have ev : nI (v * 10) + nI (T.1 p) - nI 48 = nI (10 * v + T.1 p - 48) := by
          rw [nI_add, n_sub (by omega), Nat.mul_comm]
        simp (disch := omega) only [↓n_m1, ↓n_hid, q0, q1, q2, q3, q4, q5, q6, q7, q8, q9, q10, q11, q12, q13, q14, q15, q16, q17, q18, q19, q20, q21, q22, q23, q24, q25, q26, q27, q28, q29, q30, q31, q32, q33, q34, q35, q36, q37, q38, q39, q40, q41, q42, q43, q44, q45, q46, q47, q48, q49, q50, q51, q52, q53, q54, q55, q56, q57, q58, q59, q61, q62, q63, q64, q66, q67, q68, q69, q70, q71, q91, q93, q99, q100, q102, q104, q107, q108, q112, q114, q115, q119, q121, q124, q160, q200, q255, q640, q999, q1000, q2000, q4096, n_of, nI_ltI, nI_leI, nI_eq, nI_clamp, nI_add, pk_mul, n_sub, m1_eq, m1_eq2, m1_lt, m1_lt2, gdN, Nat.not_lt_zero, false_or, if_true, if_false, if_pos, if_neg, cond_true, cond_false, beq_self, and_self, true_and, and_true, not_true_eq_false, not_false_eq_true, ne_eq, g2]
        rw [show v * 10 + T.1 p - 48 = 10 * v + T.1 p - 48 by omega]
        refine ih (p + 1) _ e _ _ (by omega) (by omega) ⟨?_, up_at, ?_, ?_⟩ (by omega) (Or.inl (by omega)) (frm_t hf (frm_u (by simp))) (by rw [he]; split <;> split <;> omega) hK
        · rw [up_pl (by decide)]; exact g1
        · rw [up_pl (by decide)]; exact g3
        · intro j hj; rw [up_ce (by decide)]; exact g4 j hj
      · have h1 : 1 ≤ p := h1.elim id (fun z => absurd z.2 hdg)
        have hdf : dg (T.1 p) = false := Bool.eq_false_iff.mpr hdg
        have hr : numL T (k + 1) p v = .inr (p, v) := if_neg (fun z => hdg z.2)
        rw [hr] at hK
        rw [hdf]
        simp (disch := omega) only [↓n_m1, ↓n_hid, q0, q1, q2, q3, q4, q5, q6, q7, q8, q9, q10, q11, q12, q13, q14, q15, q16, q17, q18, q19, q20, q21, q22, q23, q24, q25, q26, q27, q28, q29, q30, q31, q32, q33, q34, q35, q36, q37, q38, q39, q40, q41, q42, q43, q44, q45, q46, q47, q48, q49, q50, q51, q52, q53, q54, q55, q56, q57, q58, q59, q61, q62, q63, q64, q66, q67, q68, q69, q70, q71, q91, q93, q99, q100, q102, q104, q107, q108, q112, q114, q115, q119, q121, q124, q160, q200, q255, q640, q999, q1000, q2000, q4096, n_of, nI_ltI, nI_leI, nI_eq, nI_clamp, nI_add, pk_mul, n_sub, m1_eq, m1_eq2, m1_lt, m1_lt2, gdN, Nat.not_lt_zero, false_or, if_true, if_false, if_pos, if_neg, cond_true, cond_false, beq_self, and_self, true_and, and_true, not_true_eq_false, not_false_eq_true, ne_eq, g1, g2, b01_0]
        rw [at2 hlt, c_isDigit (by omega) (by omega), hdf]
        simp (disch := omega) only [↓n_m1, ↓n_hid, q0, q1, q2, q3, q4, q5, q6, q7, q8, q9, q10, q11, q12, q13, q14, q15, q16, q17, q18, q19, q20, q21, q22, q23, q24, q25, q26, q27, q28, q29, q30, q31, q32, q33, q34, q35, q36, q37, q38, q39, q40, q41, q42, q43, q44, q45, q46, q47, q48, q49, q50, q51, q52, q53, q54, q55, q56, q57, q58, q59, q61, q62, q63, q64, q66, q67, q68, q69, q70, q71, q91, q93, q99, q100, q102, q104, q107, q108, q112, q114, q115, q119, q121, q124, q160, q200, q255, q640, q999, q1000, q2000, q4096, n_of, nI_ltI, nI_leI, nI_eq, nI_clamp, nI_add, pk_mul, n_sub, m1_eq, m1_eq2, m1_lt, m1_lt2, gdN, Nat.not_lt_zero, false_or, if_true, if_false, if_pos, if_neg, cond_true, cond_false, beq_self, and_self, true_and, and_true, not_true_eq_false, not_false_eq_true, ne_eq, g2, b01_0]
        by_cases c1 : v < lo
        · rw [if_pos c1]
          have hK' : ∀ y s', frm [1] s0 s' → TpB T (p - 1) s' → K y s' := by
            have : if v < lo ∨ hi < v then (∀ y s', frm [1] s0 s' → TpB T (p - 1) s' → K y s') else _ := hK
            rwa [if_pos (Or.inl c1)] at this
          exact c_refuseAt (by omega) ⟨g1, g2, g3, g4⟩ hp (by omega) fun s' f' g' => hK' _ s' (frm_t hf f') g'
        · rw [if_neg c1]
          by_cases c2 : hi < v
          · rw [if_pos c2]
            have hK' : ∀ y s', frm [1] s0 s' → TpB T (p - 1) s' → K y s' := by
              have : if v < lo ∨ hi < v then (∀ y s', frm [1] s0 s' → TpB T (p - 1) s' → K y s') else _ := hK
              rwa [if_pos (Or.inr c2)] at this
            exact c_refuseAt (by omega) ⟨g1, g2, g3, g4⟩ hp (by omega) fun s' f' g' => hK' _ s' (frm_t hf f') g'
          · rw [if_neg c2]
            have : if v < lo ∨ hi < v then _ else ∀ s', frm [1] s0 s' → TpG T p s' → K (nI v) s' := hK
            rw [if_neg (by omega)] at this
            exact this t hf ⟨g1, g2, g3, g4⟩
    · have h1 : 1 ≤ p := h1.elim id (fun z => absurd z.1 hlt)
      have hpe : e = T.2 := by rw [he]; split <;> omega
      have hr : numL T (k + 1) p v = .inr (p, v) := if_neg (fun z => hlt z.1)
      rw [hr] at hK
      simp (disch := omega) only [↓n_m1, ↓n_hid, q0, q1, q2, q3, q4, q5, q6, q7, q8, q9, q10, q11, q12, q13, q14, q15, q16, q17, q18, q19, q20, q21, q22, q23, q24, q25, q26, q27, q28, q29, q30, q31, q32, q33, q34, q35, q36, q37, q38, q39, q40, q41, q42, q43, q44, q45, q46, q47, q48, q49, q50, q51, q52, q53, q54, q55, q56, q57, q58, q59, q61, q62, q63, q64, q66, q67, q68, q69, q70, q71, q91, q93, q99, q100, q102, q104, q107, q108, q112, q114, q115, q119, q121, q124, q160, q200, q255, q640, q999, q1000, q2000, q4096, n_of, nI_ltI, nI_leI, nI_eq, nI_clamp, nI_add, pk_mul, n_sub, m1_eq, m1_eq2, m1_lt, m1_lt2, gdN, Nat.not_lt_zero, false_or, if_true, if_false, if_pos, if_neg, cond_true, cond_false, beq_self, and_self, true_and, and_true, not_true_eq_false, not_false_eq_true, ne_eq, g2]
      by_cases c1 : v < lo
      · rw [if_pos c1]
        have hK' : ∀ y s', frm [1] s0 s' → TpB T (p - 1) s' → K y s' := by
          have : if v < lo ∨ hi < v then (∀ y s', frm [1] s0 s' → TpB T (p - 1) s' → K y s') else _ := hK
          rwa [if_pos (Or.inl c1)] at this
        exact c_refuseAt (by omega) ⟨g1, g2, g3, g4⟩ hp (by omega) fun s' f' g' => hK' _ s' (frm_t hf f') g'
      · rw [if_neg c1]
        by_cases c2 : hi < v
        · rw [if_pos c2]
          have hK' : ∀ y s', frm [1] s0 s' → TpB T (p - 1) s' → K y s' := by
            have : if v < lo ∨ hi < v then (∀ y s', frm [1] s0 s' → TpB T (p - 1) s' → K y s') else _ := hK
            rwa [if_pos (Or.inr c2)] at this
          exact c_refuseAt (by omega) ⟨g1, g2, g3, g4⟩ hp (by omega) fun s' f' g' => hK' _ s' (frm_t hf f') g'
        · rw [if_neg c2]
          have : if v < lo ∨ hi < v then _ else ∀ s', frm [1] s0 s' → TpG T p s' → K (nI v) s' := hK
          rw [if_neg (by omega)] at this
          exact this t hf ⟨g1, g2, g3, g4⟩
theorem c_number {K : Int32 → Mem → Prop} (hT : TxOk T) (hd : 3 ≤ d) {lo hi k p : Nat} (hlo : lo < 10000) (hhi : hi < 10000) (hk : k ≤ 4) (hg : TpG T p s) (hp : sk T p < T.2) (hdg : dg (T.1 (sk T p)) = true) (hK : OutN T lo hi (numL T k (sk T p) 0) s K) :
    wI (wp d) m_T_number [.ref 1, .int (nI k), .int (nI lo), .int (nI hi)] s K := by
  have h160 := hT.1
  obtain ⟨d, rfl⟩ : ∃ e, d = e + 1 := ⟨d - 1, by omega⟩
  have hpp : p ≤ T.2 := by have := sk_ge (T := T) (p := p); omega
  rw [e_T_number]
  refine c_next hT (by omega) hg hpp fun s1 f1 g1 => ?_
  have hb := (hT.2 _ hp).2
  rw [show sg T (sk T p) = nI (T.1 (sk T p)) from if_pos hp, c_isDigit (by omega) (by omega), hdg, g1.1, g1.2.1]
  simp (disch := omega) only [↓n_m1, ↓n_hid, q0, q1, q2, q3, q4, q5, q6, q7, q8, q9, q10, q11, q12, q13, q14, q15, q16, q17, q18, q19, q20, q21, q22, q23, q24, q25, q26, q27, q28, q29, q30, q31, q32, q33, q34, q35, q36, q37, q38, q39, q40, q41, q42, q43, q44, q45, q46, q47, q48, q49, q50, q51, q52, q53, q54, q55, q56, q57, q58, q59, q61, q62, q63, q64, q66, q67, q68, q69, q70, q71, q91, q93, q99, q100, q102, q104, q107, q108, q112, q114, q115, q119, q121, q124, q160, q200, q255, q640, q999, q1000, q2000, q4096, n_of, nI_ltI, nI_leI, nI_eq, nI_clamp, nI_add, pk_mul, n_sub, m1_eq, m1_eq2, m1_lt, m1_lt2, gdN, Nat.not_lt_zero, false_or, if_true, if_false, if_pos, if_neg, cond_true, cond_false, beq_self, and_self, true_and, and_true, not_true_eq_false, not_false_eq_true, ne_eq, b01_0, Bool.true_eq_false]
  obtain ⟨d, rfl⟩ : ∃ e, d = e + 1 := ⟨d - 1, by omega⟩
  rw [c_min (d := d)]
  have ee : (if nI (sk T p + k) < nI T.2 then nI (sk T p + k) else nI T.2) = nI (if T.2 < sk T p + k then T.2 else sk T p + k) := by
    by_cases h : sk T p + k < T.2
    · rw [if_pos (by rw [nI_ltI (by omega) (by omega)]; exact h), if_neg (by omega)]
    · rw [if_neg (by rw [nI_ltI (by omega) (by omega)]; exact h)]
      by_cases h2 : T.2 < sk T p + k
      · rw [if_pos h2]
      · rw [if_neg h2, show sk T p + k = T.2 by omega]
  rw [ee]
  refine c_number_l (s0 := s) hT (by omega) hlo hhi k (sk T p) 0 _ s1 _ hk (Nat.pow_pos (by decide)) g1 (by omega) (Or.inr ⟨hp, hdg⟩) f1 rfl hK
end
