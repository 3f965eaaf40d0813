/-! the class's tape: reading, right so far (TpG) and behind the first wrong sign (TpB) -/
section
variable {d : Nat} {T : Txt} {s : Mem}
def TpG (T : Txt) (p : Nat) (s : Mem) : Prop := s 1 1 = nI T.2 ∧ s 1 2 = nI p ∧ s 1 3 = m1 ∧ ∀ k, k < T.2 → s 2 k = nI (T.1 k)
def TpB (T : Txt) (f : Nat) (s : Mem) : Prop := s 1 1 = nI T.2 ∧ (∃ p : Nat, p ≤ T.2 ∧ s 1 2 = nI p) ∧ s 1 3 = nI f ∧ f ≤ T.2 ∧ ∀ k, k < T.2 → s 2 k = nI (T.1 k)
theorem TpG_f {t : Mem} {L : List Nat} {p : Nat} (h1 : 1 ∉ L) (h2 : 2 ∉ L) (hf : frm L s t) (h : TpG T p s) : TpG T p t := by
  unfold TpG at *
  rw [hf 1 h1, hf 2 h2]; exact h
theorem TpB_f {t : Mem} {L : List Nat} {f : Nat} (h1 : 1 ∉ L) (h2 : 2 ∉ L) (hf : frm L s t) (h : TpB T f s) : TpB T f t := by
  unfold TpB at *
  rw [hf 1 h1, hf 2 h2]; exact h
theorem isS_f {q x : Nat} (h : ¬ isS T q x = true) : isS T q x = false := by
  cases e : isS T q x
  · rfl
  · exact absurd e h
theorem sg_e (hT : TxOk T) {q x : Nat} (hx : x < 256) : (sg T q = nI x) = (isS T q x = true) := by
  have h160 := hT.1
  unfold sg
  refine propext ⟨fun h => ?_, fun h => ?_⟩
  · by_cases hq : q < T.2
    · rw [if_pos hq] at h
      have hb := (hT.2 q hq).2
      rw [nI_eq (by omega) (by omega)] at h
      exact decide_eq_true ⟨hq, h⟩
    · rw [if_neg hq, m1_eq2 (by omega)] at h
      exact h.elim
  · have ⟨hq, e⟩ := isS_lt h
    rw [if_pos hq, e]
theorem sg_m1 (hT : TxOk T) {q : Nat} : (sg T q = m1) = (T.2 ≤ q) := by
  have h160 := hT.1
  unfold sg
  refine propext ⟨fun h => ?_, fun h => ?_⟩
  · by_cases hq : q < T.2
    · rw [if_pos hq] at h
      have hb := (hT.2 q hq).2
      rw [m1_eq (by omega)] at h
      exact h.elim
    · omega
  · rw [if_neg (by omega)]
theorem c_next {K : Int32 → Mem → Prop} (hT : TxOk T) (hd : 2 ≤ d) {p : Nat} (hg : TpG T p s) (hp : p ≤ T.2) (hK : ∀ s', frm [1] s s' → TpG T (sk T p) s' → K (sg T (sk T p)) s') : wI (wp d) m_T_next [.ref 1] s K := by
  have h160 := hT.1
  obtain ⟨d, rfl⟩ : ∃ e, d = e + 2 := ⟨d - 2, by omega⟩
  have lp : ∀ (n p : Nat) (t : Mem), p + n = T.2 → frm [1] s t → TpG T p t → (∀ s', frm [1] s s' → TpG T (sk T p) s' → K (sg T (sk T p)) s') → RnI (d + 1) m_T_next K 0 [.ref 1] [] t := by
    intro n
    induction n with
    | zero =>
      intro p t hn hf ⟨g1, g2, g3, g4⟩ hK
      have e : sk T p = p := sk_n (fun z => by have := z.1; omega)
      rw [r_T_next_0, g1, g2, g3]
      simp (disch := omega) only [↓n_m1, ↓n_hid, q0, q1, q2, q3, q4, q5, q6, q7, q8, q9, q10, q11, q12, q13, q14, q15, q16, q17, q18, q19, q20, q21, q22, q23, q24, q25, q26, q27, q28, q29, q30, q31, q32, q33, q34, q35, q36, q37, q38, q39, q40, q41, q42, q43, q44, q45, q46, q47, q48, q49, q50, q51, q52, q53, q54, q55, q56, q57, q58, q59, q61, q62, q63, q64, q66, q67, q68, q69, q70, q71, q91, q93, q99, q100, q102, q104, q107, q108, q112, q114, q115, q119, q121, q124, q160, q200, q255, q640, q999, q1000, q2000, q4096, n_of, nI_ltI, nI_leI, nI_eq, nI_clamp, nI_add, pk_mul, n_sub, m1_eq, m1_eq2, m1_lt, m1_lt2, gdN, Nat.not_lt_zero, false_or, if_true, if_false, if_pos, if_neg, cond_true, cond_false, beq_self, and_self, true_and, and_true, not_true_eq_false, not_false_eq_true, ne_eq]
      have := hK t hf (by rw [e]; exact ⟨g1, g2, g3, g4⟩)
      rw [e, show sg T p = m1 from if_neg (by omega)] at this
      exact this
    | succ n ih =>
      intro p t hn hf ⟨g1, g2, g3, g4⟩ hK
      have hb := (hT.2 p (by omega)).2
      rw [r_T_next_0, g1, g2]
      simp (disch := omega) only [↓n_m1, ↓n_hid, q0, q1, q2, q3, q4, q5, q6, q7, q8, q9, q10, q11, q12, q13, q14, q15, q16, q17, q18, q19, q20, q21, q22, q23, q24, q25, q26, q27, q28, q29, q30, q31, q32, q33, q34, q35, q36, q37, q38, q39, q40, q41, q42, q43, q44, q45, q46, q47, q48, q49, q50, q51, q52, q53, q54, q55, q56, q57, q58, q59, q61, q62, q63, q64, q66, q67, q68, q69, q70, q71, q91, q93, q99, q100, q102, q104, q107, q108, q112, q114, q115, q119, q121, q124, q160, q200, q255, q640, q999, q1000, q2000, q4096, n_of, nI_ltI, nI_leI, nI_eq, nI_clamp, nI_add, pk_mul, n_sub, m1_eq, m1_eq2, m1_lt, m1_lt2, gdN, Nat.not_lt_zero, false_or, if_true, if_false, if_pos, if_neg, cond_true, cond_false, beq_self, and_self, true_and, and_true, not_true_eq_false, not_false_eq_true, ne_eq]
      rw [c_at (d := d) (show (shp 2).1 = 20 from rfl) (show p < 160 by omega), g4 p (by omega)]
      by_cases hbl : T.1 p = 32
      · simp (disch := omega) only [↓n_m1, ↓n_hid, q0, q1, q2, q3, q4, q5, q6, q7, q8, q9, q10, q11, q12, q13, q14, q15, q16, q17, q18, q19, q20, q21, q22, q23, q24, q25, q26, q27, q28, q29, q30, q31, q32, q33, q34, q35, q36, q37, q38, q39, q40, q41, q42, q43, q44, q45, q46, q47, q48, q49, q50, q51, q52, q53, q54, q55, q56, q57, q58, q59, q61, q62, q63, q64, q66, q67, q68, q69, q70, q71, q91, q93, q99, q100, q102, q104, q107, q108, q112, q114, q115, q119, q121, q124, q160, q200, q255, q640, q999, q1000, q2000, q4096, n_of, nI_ltI, nI_leI, nI_eq, nI_clamp, nI_add, pk_mul, n_sub, m1_eq, m1_eq2, m1_lt, m1_lt2, gdN, Nat.not_lt_zero, false_or, if_true, if_false, if_pos, if_neg, cond_true, cond_false, beq_self, and_self, true_and, and_true, not_true_eq_false, not_false_eq_true, ne_eq, g2, hbl]
        have e : sk T p = sk T (p + 1) := sk_b (by omega) hbl
        rw [e] at hK
        refine ih (p + 1) _ (by omega) (frm_t hf (frm_u (by simp))) ⟨?_, up_at, ?_, ?_⟩ hK
        · rw [up_pl (by decide)]; exact g1
        · rw [up_pl (by decide)]; exact g3
        · intro k hk; rw [up_ce (by decide)]; exact g4 k hk
      · have e : sk T p = p := sk_n (fun z => hbl z.2)
        simp (disch := omega) only [↓n_m1, ↓n_hid, q0, q1, q2, q3, q4, q5, q6, q7, q8, q9, q10, q11, q12, q13, q14, q15, q16, q17, q18, q19, q20, q21, q22, q23, q24, q25, q26, q27, q28, q29, q30, q31, q32, q33, q34, q35, q36, q37, q38, q39, q40, q41, q42, q43, q44, q45, q46, q47, q48, q49, q50, q51, q52, q53, q54, q55, q56, q57, q58, q59, q61, q62, q63, q64, q66, q67, q68, q69, q70, q71, q91, q93, q99, q100, q102, q104, q107, q108, q112, q114, q115, q119, q121, q124, q160, q200, q255, q640, q999, q1000, q2000, q4096, n_of, nI_ltI, nI_leI, nI_eq, nI_clamp, nI_add, pk_mul, n_sub, m1_eq, m1_eq2, m1_lt, m1_lt2, gdN, Nat.not_lt_zero, false_or, if_true, if_false, if_pos, if_neg, cond_true, cond_false, beq_self, and_self, true_and, and_true, not_true_eq_false, not_false_eq_true, ne_eq, g1, g2, g3, hbl]
        rw [c_at (d := d) (show (shp 2).1 = 20 from rfl) (show p < 160 by omega), g4 p (by omega)]
        have := hK t hf (by rw [e]; exact ⟨g1, g2, g3, g4⟩)
        rw [e, show sg T p = nI (T.1 p) from if_pos (by omega)] at this
        exact this
  rw [e_T_next]
  exact lp (T.2 - p) p s (by omega) frm_r hg hK
theorem b_next {K : Int32 → Mem → Prop} (hT : TxOk T) (hd : 2 ≤ d) {f : Nat} (hg : TpB T f s) (hK : ∀ s', frm [1] s s' → TpB T f s' → K m1 s') : wI (wp d) m_T_next [.ref 1] s K := by
  have h160 := hT.1
  obtain ⟨d, rfl⟩ : ∃ e, d = e + 2 := ⟨d - 2, by omega⟩
  have lp : ∀ (n p : Nat) (t : Mem), p + n = T.2 → frm [1] s t → t 1 2 = nI p → t 1 1 = nI T.2 → t 1 3 = nI f → (∀ k, k < T.2 → t 2 k = nI (T.1 k)) → RnI (d + 1) m_T_next K 0 [.ref 1] [] t := by
    intro n
    induction n with
    | zero =>
      intro p t hn hf g2 g1 g3 g4
      have hf4 := hg.2.2.2.1
      rw [r_T_next_0, g1, g2, g3]
      simp (disch := omega) only [↓n_m1, ↓n_hid, q0, q1, q2, q3, q4, q5, q6, q7, q8, q9, q10, q11, q12, q13, q14, q15, q16, q17, q18, q19, q20, q21, q22, q23, q24, q25, q26, q27, q28, q29, q30, q31, q32, q33, q34, q35, q36, q37, q38, q39, q40, q41, q42, q43, q44, q45, q46, q47, q48, q49, q50, q51, q52, q53, q54, q55, q56, q57, q58, q59, q61, q62, q63, q64, q66, q67, q68, q69, q70, q71, q91, q93, q99, q100, q102, q104, q107, q108, q112, q114, q115, q119, q121, q124, q160, q200, q255, q640, q999, q1000, q2000, q4096, n_of, nI_ltI, nI_leI, nI_eq, nI_clamp, nI_add, pk_mul, n_sub, m1_eq, m1_eq2, m1_lt, m1_lt2, gdN, Nat.not_lt_zero, false_or, if_true, if_false, if_pos, if_neg, cond_true, cond_false, beq_self, and_self, true_and, and_true, not_true_eq_false, not_false_eq_true, ne_eq]
      exact hK t hf ⟨g1, ⟨p, by omega, g2⟩, g3, hf4, g4⟩
    | succ n ih =>
      intro p t hn hf g2 g1 g3 g4
      have hf4 := hg.2.2.2.1
      have hb := (hT.2 p (by omega)).2
      rw [r_T_next_0, g1, g2]
      simp (disch := omega) only [↓n_m1, ↓n_hid, q0, q1, q2, q3, q4, q5, q6, q7, q8, q9, q10, q11, q12, q13, q14, q15, q16, q17, q18, q19, q20, q21, q22, q23, q24, q25, q26, q27, q28, q29, q30, q31, q32, q33, q34, q35, q36, q37, q38, q39, q40, q41, q42, q43, q44, q45, q46, q47, q48, q49, q50, q51, q52, q53, q54, q55, q56, q57, q58, q59, q61, q62, q63, q64, q66, q67, q68, q69, q70, q71, q91, q93, q99, q100, q102, q104, q107, q108, q112, q114, q115, q119, q121, q124, q160, q200, q255, q640, q999, q1000, q2000, q4096, n_of, nI_ltI, nI_leI, nI_eq, nI_clamp, nI_add, pk_mul, n_sub, m1_eq, m1_eq2, m1_lt, m1_lt2, gdN, Nat.not_lt_zero, false_or, if_true, if_false, if_pos, if_neg, cond_true, cond_false, beq_self, and_self, true_and, and_true, not_true_eq_false, not_false_eq_true, ne_eq]
      rw [c_at (d := d) (show (shp 2).1 = 20 from rfl) (show p < 160 by omega), g4 p (by omega)]
      by_cases hbl : T.1 p = 32
      · simp (disch := omega) only [↓n_m1, ↓n_hid, q0, q1, q2, q3, q4, q5, q6, q7, q8, q9, q10, q11, q12, q13, q14, q15, q16, q17, q18, q19, q20, q21, q22, q23, q24, q25, q26, q27, q28, q29, q30, q31, q32, q33, q34, q35, q36, q37, q38, q39, q40, q41, q42, q43, q44, q45, q46, q47, q48, q49, q50, q51, q52, q53, q54, q55, q56, q57, q58, q59, q61, q62, q63, q64, q66, q67, q68, q69, q70, q71, q91, q93, q99, q100, q102, q104, q107, q108, q112, q114, q115, q119, q121, q124, q160, q200, q255, q640, q999, q1000, q2000, q4096, n_of, nI_ltI, nI_leI, nI_eq, nI_clamp, nI_add, pk_mul, n_sub, m1_eq, m1_eq2, m1_lt, m1_lt2, gdN, Nat.not_lt_zero, false_or, if_true, if_false, if_pos, if_neg, cond_true, cond_false, beq_self, and_self, true_and, and_true, not_true_eq_false, not_false_eq_true, ne_eq, g2, hbl]
        refine ih (p + 1) _ (by omega) (frm_t hf (frm_u (by simp))) up_at ?_ ?_ ?_
        · rw [up_pl (by decide)]; exact g1
        · rw [up_pl (by decide)]; exact g3
        · intro k hk; rw [up_ce (by decide)]; exact g4 k hk
      · simp (disch := omega) only [↓n_m1, ↓n_hid, q0, q1, q2, q3, q4, q5, q6, q7, q8, q9, q10, q11, q12, q13, q14, q15, q16, q17, q18, q19, q20, q21, q22, q23, q24, q25, q26, q27, q28, q29, q30, q31, q32, q33, q34, q35, q36, q37, q38, q39, q40, q41, q42, q43, q44, q45, q46, q47, q48, q49, q50, q51, q52, q53, q54, q55, q56, q57, q58, q59, q61, q62, q63, q64, q66, q67, q68, q69, q70, q71, q91, q93, q99, q100, q102, q104, q107, q108, q112, q114, q115, q119, q121, q124, q160, q200, q255, q640, q999, q1000, q2000, q4096, n_of, nI_ltI, nI_leI, nI_eq, nI_clamp, nI_add, pk_mul, n_sub, m1_eq, m1_eq2, m1_lt, m1_lt2, gdN, Nat.not_lt_zero, false_or, if_true, if_false, if_pos, if_neg, cond_true, cond_false, beq_self, and_self, true_and, and_true, not_true_eq_false, not_false_eq_true, ne_eq, g3, hbl]
        exact hK t hf ⟨g1, ⟨p, by omega, g2⟩, g3, hf4, g4⟩
  obtain ⟨g1, ⟨p, hp, g2⟩, g3, _, g4⟩ := hg
  rw [e_T_next]
  exact lp (T.2 - p) p s (by omega) frm_r g2 g1 g3 g4
theorem c_pass {K : Mem → Prop} (hT : TxOk T) (hd : 1 ≤ d) {p : Nat} (hg : TpG T p s) (hp : p < T.2) (hK : ∀ s', frm [1] s s' → TpG T (p + 1) s' → K s') : wV (wp d) m_T_pass [.ref 1] s K := by
  have h160 := hT.1
  obtain ⟨d, rfl⟩ : ∃ e, d = e + 1 := ⟨d - 1, by omega⟩
  obtain ⟨g1, g2, g3, g4⟩ := hg
  rw [e_T_pass, g1, g2]
  simp (disch := omega) only [↓n_m1, ↓n_hid, q0, q1, q2, q3, q4, q5, q6, q7, q8, q9, q10, q11, q12, q13, q14, q15, q16, q17, q18, q19, q20, q21, q22, q23, q24, q25, q26, q27, q28, q29, q30, q31, q32, q33, q34, q35, q36, q37, q38, q39, q40, q41, q42, q43, q44, q45, q46, q47, q48, q49, q50, q51, q52, q53, q54, q55, q56, q57, q58, q59, q61, q62, q63, q64, q66, q67, q68, q69, q70, q71, q91, q93, q99, q100, q102, q104, q107, q108, q112, q114, q115, q119, q121, q124, q160, q200, q255, q640, q999, q1000, q2000, q4096, n_of, nI_ltI, nI_leI, nI_eq, nI_clamp, nI_add, pk_mul, n_sub, m1_eq, m1_eq2, m1_lt, m1_lt2, gdN, Nat.not_lt_zero, false_or, if_true, if_false, if_pos, if_neg, cond_true, cond_false, beq_self, and_self, true_and, and_true, not_true_eq_false, not_false_eq_true, ne_eq]
  refine hK _ (frm_u (by simp)) ⟨?_, up_at, ?_, ?_⟩
  · rw [up_pl (by decide)]; exact g1
  · rw [up_pl (by decide)]; exact g3
  · intro k hk; rw [up_ce (by decide)]; exact g4 k hk
theorem b_pass {K : Mem → Prop} (hT : TxOk T) (hd : 1 ≤ d) {f : Nat} (hg : TpB T f s) (hK : ∀ s', frm [1] s s' → TpB T f s' → K s') : wV (wp d) m_T_pass [.ref 1] s K := by
  have h160 := hT.1
  obtain ⟨d, rfl⟩ : ∃ e, d = e + 1 := ⟨d - 1, by omega⟩
  obtain ⟨g1, ⟨p, hp, g2⟩, g3, gf, g4⟩ := hg
  rw [e_T_pass, g1, g2]
  by_cases h : p < T.2
  · simp (disch := omega) only [↓n_m1, ↓n_hid, q0, q1, q2, q3, q4, q5, q6, q7, q8, q9, q10, q11, q12, q13, q14, q15, q16, q17, q18, q19, q20, q21, q22, q23, q24, q25, q26, q27, q28, q29, q30, q31, q32, q33, q34, q35, q36, q37, q38, q39, q40, q41, q42, q43, q44, q45, q46, q47, q48, q49, q50, q51, q52, q53, q54, q55, q56, q57, q58, q59, q61, q62, q63, q64, q66, q67, q68, q69, q70, q71, q91, q93, q99, q100, q102, q104, q107, q108, q112, q114, q115, q119, q121, q124, q160, q200, q255, q640, q999, q1000, q2000, q4096, n_of, nI_ltI, nI_leI, nI_eq, nI_clamp, nI_add, pk_mul, n_sub, m1_eq, m1_eq2, m1_lt, m1_lt2, gdN, Nat.not_lt_zero, false_or, if_true, if_false, if_pos, if_neg, cond_true, cond_false, beq_self, and_self, true_and, and_true, not_true_eq_false, not_false_eq_true, ne_eq]
    refine hK _ (frm_u (by simp)) ⟨?_, ⟨p + 1, by omega, up_at⟩, ?_, gf, ?_⟩
    · rw [up_pl (by decide)]; exact g1
    · rw [up_pl (by decide)]; exact g3
    · intro k hk; rw [up_ce (by decide)]; exact g4 k hk
  · simp (disch := omega) only [↓n_m1, ↓n_hid, q0, q1, q2, q3, q4, q5, q6, q7, q8, q9, q10, q11, q12, q13, q14, q15, q16, q17, q18, q19, q20, q21, q22, q23, q24, q25, q26, q27, q28, q29, q30, q31, q32, q33, q34, q35, q36, q37, q38, q39, q40, q41, q42, q43, q44, q45, q46, q47, q48, q49, q50, q51, q52, q53, q54, q55, q56, q57, q58, q59, q61, q62, q63, q64, q66, q67, q68, q69, q70, q71, q91, q93, q99, q100, q102, q104, q107, q108, q112, q114, q115, q119, q121, q124, q160, q200, q255, q640, q999, q1000, q2000, q4096, n_of, nI_ltI, nI_leI, nI_eq, nI_clamp, nI_add, pk_mul, n_sub, m1_eq, m1_eq2, m1_lt, m1_lt2, gdN, Nat.not_lt_zero, false_or, if_true, if_false, if_pos, if_neg, cond_true, cond_false, beq_self, and_self, true_and, and_true, not_true_eq_false, not_false_eq_true, ne_eq]
    exact hK _ frm_r ⟨g1, ⟨p, hp, g2⟩, g3, gf, g4⟩
theorem c_refuse {K : Mem → Prop} (hT : TxOk T) (hd : 2 ≤ d) {p : Nat} (hg : TpG T p s) (hp : p ≤ T.2) (hK : ∀ s', frm [1] s s' → TpB T p s' → K s') : wV (wp d) m_T_refuse [.ref 1] s K := by
  obtain ⟨d, rfl⟩ : ∃ e, d = e + 2 := ⟨d - 2, by omega⟩
  obtain ⟨g1, g2, g3, g4⟩ := hg
  rw [e_T_refuse, e_T_refuseAt, g3, if_pos (show m1 = -1 from rfl), g2]
  refine hK _ (frm_u (by simp)) ⟨?_, ⟨p, hp, ?_⟩, up_at, hp, ?_⟩
  · rw [up_pl (by decide)]; exact g1
  · rw [up_pl (by decide)]; exact g2
  · intro k hk; rw [up_ce (by decide)]; exact g4 k hk
theorem c_refuseAt {K : Mem → Prop} (hd : 1 ≤ d) {p q : Nat} (hg : TpG T p s) (hp : p ≤ T.2) (hq : q ≤ T.2) (hK : ∀ s', frm [1] s s' → TpB T q s' → K s') : wV (wp d) m_T_refuseAt [.ref 1, .int (nI q)] s K := by
  obtain ⟨d, rfl⟩ : ∃ e, d = e + 1 := ⟨d - 1, by omega⟩
  obtain ⟨g1, g2, g3, g4⟩ := hg
  rw [e_T_refuseAt, g3, if_pos (show m1 = -1 from rfl)]
  refine hK _ (frm_u (by simp)) ⟨?_, ⟨p, hp, ?_⟩, up_at, hq, ?_⟩
  · rw [up_pl (by decide)]; exact g1
  · rw [up_pl (by decide)]; exact g2
  · intro k hk; rw [up_ce (by decide)]; exact g4 k hk
theorem b_refuseAt {K : Mem → Prop} (hT : TxOk T) (hd : 1 ≤ d) {f : Nat} {x : Int32} (hg : TpB T f s) (hK : K s) : wV (wp d) m_T_refuseAt [.ref 1, .int x] s K := by
  have h160 := hT.1
  obtain ⟨d, rfl⟩ : ∃ e, d = e + 1 := ⟨d - 1, by omega⟩
  obtain ⟨g1, _, g3, gf, g4⟩ := hg
  rw [e_T_refuseAt, g3, if_neg (show ¬ nI f = -1 from fun z => by rw [n_m1, m1_eq (by omega)] at z; exact z)]
  exact hK
theorem b_refuse {K : Mem → Prop} (hT : TxOk T) (hd : 2 ≤ d) {f : Nat} (hg : TpB T f s) (hK : K s) : wV (wp d) m_T_refuse [.ref 1] s K := by
  obtain ⟨d, rfl⟩ : ∃ e, d = e + 1 := ⟨d - 1, by omega⟩
  rw [e_T_refuse]
  exact b_refuseAt hT (by omega) hg hK
theorem c_take {K : Int32 → Mem → Prop} (hT : TxOk T) (hd : 3 ≤ d) {p x : Nat} (hx : x < 256) (hg : TpG T p s) (hp : p ≤ T.2)
    (h1 : isS T (sk T p) x = true → ∀ s', frm [1] s s' → TpG T (sk T p + 1) s' → K (nI 1) s') (h0 : isS T (sk T p) x = false → ∀ s', frm [1] s s' → TpG T (sk T p) s' → K (nI 0) s') : wI (wp d) m_T_take [.ref 1, .int (nI x)] s K := by
  obtain ⟨d, rfl⟩ : ∃ e, d = e + 1 := ⟨d - 1, by omega⟩
  rw [e_T_take]
  refine c_next hT (by omega) hg hp fun s' hf g' => ?_
  by_cases e : isS T (sk T p) x = true
  · have e2 : sg T (sk T p) = nI x := by rw [sg_e hT hx]; exact e
    rw [if_pos e2]
    refine c_pass hT (by omega) g' (isS_lt e).1 fun s2 f2 g2 => ?_
    exact h1 e s2 (frm_t hf f2) g2
  · have e2 : ¬ sg T (sk T p) = nI x := by rw [sg_e hT hx]; exact e
    rw [if_neg e2]
    exact h0 (isS_f e) s' hf g'
theorem b_take {K : Int32 → Mem → Prop} (hT : TxOk T) (hd : 3 ≤ d) {f x : Nat} (hx : x < 256) (hg : TpB T f s)
    (h0 : ∀ s', frm [1] s s' → TpB T f s' → K (nI 0) s') : wI (wp d) m_T_take [.ref 1, .int (nI x)] s K := by
  obtain ⟨d, rfl⟩ : ∃ e, d = e + 1 := ⟨d - 1, by omega⟩
  rw [e_T_take]
  refine b_next hT (by omega) hg fun s' hf g' => ?_
  rw [if_neg (show ¬ m1 = nI x from fun z => by rw [m1_eq2 (by omega)] at z; exact z)]
  exact h0 s' hf g'
theorem c_need {K : Mem → Prop} (hT : TxOk T) (hd : 4 ≤ d) {p x : Nat} (hx : x < 256) (hg : TpG T p s) (hp : p ≤ T.2)
    (h1 : isS T (sk T p) x = true → ∀ s', frm [1] s s' → TpG T (sk T p + 1) s' → K s') (h0 : isS T (sk T p) x = false → ∀ s', frm [1] s s' → TpB T (sk T p) s' → K s') : wV (wp d) m_T_need [.ref 1, .int (nI x)] s K := by
  obtain ⟨d, rfl⟩ : ∃ e, d = e + 1 := ⟨d - 1, by omega⟩
  rw [e_T_need]
  refine c_next hT (by omega) hg hp fun s' hf g' => ?_
  by_cases e : isS T (sk T p) x = true
  · have e2 : sg T (sk T p) = nI x := by rw [sg_e hT hx]; exact e
    rw [if_pos e2]
    refine c_pass hT (by omega) g' (isS_lt e).1 fun s2 f2 g2 => ?_
    exact h1 e s2 (frm_t hf f2) g2
  · have e2 : ¬ sg T (sk T p) = nI x := by rw [sg_e hT hx]; exact e
    rw [if_neg e2]
    exact c_refuse hT (by omega) g' (sk_le hp) fun s2 f2 g2 => h0 (isS_f e) s2 (frm_t hf f2) g2
theorem b_need {K : Mem → Prop} (hT : TxOk T) (hd : 4 ≤ d) {f x : Nat} (hx : x < 256) (hg : TpB T f s)
    (h0 : ∀ s', frm [1] s s' → TpB T f s' → K s') : wV (wp d) m_T_need [.ref 1, .int (nI x)] s K := by
  obtain ⟨d, rfl⟩ : ∃ e, d = e + 1 := ⟨d - 1, by omega⟩
  rw [e_T_need]
  refine b_next hT (by omega) hg fun s' hf g' => ?_
  rw [if_neg (show ¬ m1 = nI x from fun z => by rw [m1_eq2 (by omega)] at z; exact z)]
  exact b_refuse hT (by omega) g' (h0 s' hf g')
theorem c_isDigit {K : Int32 → Mem → Prop} (hd : 1 ≤ d) {x : Nat} (hx : x < 256) : wI (wp d) m_T_isDigit [.int (nI x)] s K = K (b01 (dg x)) s := by
  obtain ⟨d, rfl⟩ : ∃ e, d = e + 1 := ⟨d - 1, by omega⟩
  rw [e_T_isDigit]
  simp (disch := omega) only [↓n_m1, ↓n_hid, q0, q1, q2, q3, q4, q5, q6, q7, q8, q9, q10, q11, q12, q13, q14, q15, q16, q17, q18, q19, q20, q21, q22, q23, q24, q25, q26, q27, q28, q29, q30, q31, q32, q33, q34, q35, q36, q37, q38, q39, q40, q41, q42, q43, q44, q45, q46, q47, q48, q49, q50, q51, q52, q53, q54, q55, q56, q57, q58, q59, q61, q62, q63, q64, q66, q67, q68, q69, q70, q71, q91, q93, q99, q100, q102, q104, q107, q108, q112, q114, q115, q119, q121, q124, q160, q200, q255, q640, q999, q1000, q2000, q4096, n_of, nI_ltI, nI_leI, nI_eq, nI_clamp, nI_add, pk_mul, n_sub, m1_eq, m1_eq2, m1_lt, m1_lt2, gdN, Nat.not_lt_zero, false_or, if_true, if_false, if_pos, if_neg, cond_true, cond_false, beq_self, and_self, true_and, and_true, not_true_eq_false, not_false_eq_true, ne_eq]
  unfold dg
  by_cases h1 : x < 48
  · rw [if_pos h1, decide_eq_false (by omega)]; rfl
  · rw [if_neg h1]
    by_cases h2 : 57 < x
    · rw [if_pos h2, decide_eq_false (by omega)]; rfl
    · rw [if_neg h2, decide_eq_true (by omega)]; rfl
theorem b_isDigit {K : Int32 → Mem → Prop} (hd : 1 ≤ d) : wI (wp d) m_T_isDigit [.int m1] s K = K (nI 0) s := by
  obtain ⟨d, rfl⟩ : ∃ e, d = e + 1 := ⟨d - 1, by omega⟩
  rw [e_T_isDigit, if_pos (show m1 < 48 by decide)]
  rfl
end
