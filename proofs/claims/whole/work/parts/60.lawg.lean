/-! the class's Grammar against the pure reader (made by gen/lawg.py) -/
section
variable {d : Nat} {T : Txt} {s : Mem} {l : Nat}
def isL (l : Nat) : Prop := ∃ i : Nat, i < 5 ∧ l = 18 + 3 * i
theorem isL_18 (h : isL l) : 18 ≤ l ∧ l ≤ 30 := by
  obtain ⟨i, hi, rfl⟩ := h
  omega
theorem isL_s (h : isL l) : (shp l).1 = 3 ∧ shp (l + 1) = (20, 160) ∧ shp (l + 2) = (20, 18) := by
  obtain ⟨i, hi, rfl⟩ := h
  rcases (show i = 0 ∨ i = 1 ∨ i = 2 ∨ i = 3 ∨ i = 4 by omega) with rfl | rfl | rfl | rfl | rfl <;> exact ⟨rfl, rfl, rfl⟩
theorem isL_b (h : isL l) : Nat.beq (shp l).1 3 = true := by rw [(isL_s h).1]; rfl
/-- the code that a law holds -/
def CodeA (l : Nat) (C : List Int32) (s : Mem) : Prop := s l 1 = nI C.length ∧ ∀ j x, C[j]? = some x → s (l + 1) j = x
theorem CodeA_f {t : Mem} {L : List Nat} {C : List Int32} (h1 : l ∉ L) (h2 : l + 1 ∉ L) (hf : frm L s t) (h : CodeA l C s) : CodeA l C t := by
  unfold CodeA at *
  rw [hf l h1, hf (l + 1) h2]; exact h
def TG (T : Txt) (l p : Nat) (C : List Int32) (s : Mem) : Prop := TpG T p s ∧ CodeA l C s
def TB2 (T : Txt) (l f : Nat) (s : Mem) : Prop := TpB T f s ∧ ∃ z : Nat, z ≤ 160 ∧ s l 1 = nI z
def LK (T : Txt) (l : Nat) (C : List Int32) (r : PR) (s : Mem) (K : Mem → Prop) : Prop := match r with
  | .inl f => ∀ s', frm [1, l, l + 1] s s' → TB2 T l f s' → K s'
  | .inr x => ∀ s', frm [1, l, l + 1] s s' → TG T l x.1 (C ++ x.2.1) s' → K s'
def CR (T : Txt) (l m D : Nat) (x : Int32) (pr : Nat → PR) : Prop := ∀ d C p s K, D ≤ d → TG T l p C s → C.length ≤ p → p ≤ T.2 → LK T l C (pr p) s K → wV (wp d) m [.ref 1, .ref l, .int x] s K
def BR (T : Txt) (l m D : Nat) : Prop := ∀ d f (x : Int32) s K, D ≤ d → TB2 T l f s → (∀ s', frm [1, l, l + 1] s s' → TB2 T l f s' → K s') → wV (wp d) m [.ref 1, .ref l, .int x] s K
theorem CR_D {m D D' : Nat} {x : Int32} {pr : Nat → PR} (h : CR T l m D x pr) (hD : D ≤ D') : CR T l m D' x pr := fun d C p s K hd => h d C p s K (by omega)
theorem LK_f {C : List Int32} {r : PR} {t : Mem} {K : Mem → Prop} (h : LK T l C r s K) (hf : frm [1, l, l + 1] s t) : LK T l C r t K := by
  cases r with
  | inl f => exact fun s' f' g' => h s' (frm_t hf f') g'
  | inr x => exact fun s' f' g' => h s' (frm_t hf f') g'
theorem sgp (hT : TxOk T) {q x : Nat} (hx : x < 256) (e : isS T q x = true) : sg T q = nI x := by rw [sg_e hT hx]; exact e
theorem sgn (hT : TxOk T) {q x : Nat} (hx : x < 256) (e : ¬ isS T q x = true) : ¬ sg T q = nI x := by rw [sg_e hT hx]; exact e
theorem c_add {K : Mem → Prop} (hl : isL l) (hd : 2 ≤ d) {C : List Int32} {x : Int32} (hc : CodeA l C s) (hlen : C.length < 160) (hK : ∀ s', frm [l, l + 1] s s' → CodeA l (C ++ [x]) s' → K s') : wV (wp d) m_L_add [.ref l, .int x] s K := by
  obtain ⟨h1, h2, h3⟩ := isL_s hl
  have h18 := isL_18 hl
  obtain ⟨d, rfl⟩ : ∃ e, d = e + 2 := ⟨d - 2, by omega⟩
  rw [e_L_add, h1, hc.1]
  simp only [show Nat.beq 3 3 = true from rfl, cond_true]
  simp (disch := omega) only [↓n_m1, ↓n_hid, q0, q1, q2, q3, q4, q5, q6, q7, q8, q9, q10, q11, q12, q13, q14, q15, q16, q17, q18, q19, q20, q21, q22, q23, q24, q25, q26, q27, q28, q29, q30, q31, q32, q33, q34, q35, q36, q37, q38, q39, q40, q41, q42, q43, q44, q45, q46, q47, q48, q49, q50, q51, q52, q53, q54, q55, q56, q57, q58, q59, q61, q62, q63, q64, q66, q67, q68, q69, q70, q71, q91, q93, q99, q100, q102, q104, q107, q108, q112, q114, q115, q119, q121, q124, q160, q200, q255, q640, q999, q1000, q2000, q4096, n_of, nI_ltI, nI_leI, nI_eq, nI_clamp, nI_add, pk_mul, n_sub, m1_eq, m1_eq2, m1_lt, m1_lt2, gdN, Nat.not_lt_zero, false_or, if_true, if_false, if_pos, if_neg, cond_true, cond_false, beq_self, and_self, true_and, and_true, not_true_eq_false, not_false_eq_true, ne_eq]
  rw [c_put (d := d) (by rw [h2]) (by omega) (by rw [h2]; exact hlen)]
  rw [up_ce (show l ≠ l + 1 by omega), hc.1]
  simp (disch := omega) only [↓n_m1, ↓n_hid, q0, q1, q2, q3, q4, q5, q6, q7, q8, q9, q10, q11, q12, q13, q14, q15, q16, q17, q18, q19, q20, q21, q22, q23, q24, q25, q26, q27, q28, q29, q30, q31, q32, q33, q34, q35, q36, q37, q38, q39, q40, q41, q42, q43, q44, q45, q46, q47, q48, q49, q50, q51, q52, q53, q54, q55, q56, q57, q58, q59, q61, q62, q63, q64, q66, q67, q68, q69, q70, q71, q91, q93, q99, q100, q102, q104, q107, q108, q112, q114, q115, q119, q121, q124, q160, q200, q255, q640, q999, q1000, q2000, q4096, n_of, nI_ltI, nI_leI, nI_eq, nI_clamp, nI_add, pk_mul, n_sub, m1_eq, m1_eq2, m1_lt, m1_lt2, gdN, Nat.not_lt_zero, false_or, if_true, if_false, if_pos, if_neg, cond_true, cond_false, beq_self, and_self, true_and, and_true, not_true_eq_false, not_false_eq_true, ne_eq]
  refine hK _ (frm_t (frm_u (by simp)) (frm_u (by simp))) ⟨?_, ?_⟩
  · rw [up_at, List.length_append]; rfl
  · intro j y hj
    rw [up_ce (show l + 1 ≠ l by omega)]
    by_cases e : j = C.length
    · subst e
      rw [up_at]
      rw [List.getElem?_append_right (Nat.le_refl _), Nat.sub_self] at hj
      injection hj
    · rw [up_pl e]
      have hjl : j < C.length := by
        have := (List.getElem?_eq_some_iff.mp hj).1
        rw [List.length_append] at this
        have : j < C.length + 1 := this
        omega
      rw [List.getElem?_append_left hjl] at hj
      exact hc.2 j y hj
theorem b_add {K : Mem → Prop} (hl : isL l) (hd : 2 ≤ d) {f : Nat} {x : Int32} (hg : TB2 T l f s) (hK : ∀ s', frm [l, l + 1] s s' → TB2 T l f s' → K s') : wV (wp d) m_L_add [.ref l, .int x] s K := by
  obtain ⟨h1, h2, h3⟩ := isL_s hl
  have h18 := isL_18 hl
  obtain ⟨d, rfl⟩ : ∃ e, d = e + 2 := ⟨d - 2, by omega⟩
  obtain ⟨g1, z, hz, g2⟩ := hg
  rw [e_L_add, h1, g2]
  simp only [show Nat.beq 3 3 = true from rfl, cond_true]
  by_cases h : z < 160
  · simp (disch := omega) only [↓n_m1, ↓n_hid, q0, q1, q2, q3, q4, q5, q6, q7, q8, q9, q10, q11, q12, q13, q14, q15, q16, q17, q18, q19, q20, q21, q22, q23, q24, q25, q26, q27, q28, q29, q30, q31, q32, q33, q34, q35, q36, q37, q38, q39, q40, q41, q42, q43, q44, q45, q46, q47, q48, q49, q50, q51, q52, q53, q54, q55, q56, q57, q58, q59, q61, q62, q63, q64, q66, q67, q68, q69, q70, q71, q91, q93, q99, q100, q102, q104, q107, q108, q112, q114, q115, q119, q121, q124, q160, q200, q255, q640, q999, q1000, q2000, q4096, n_of, nI_ltI, nI_leI, nI_eq, nI_clamp, nI_add, pk_mul, n_sub, m1_eq, m1_eq2, m1_lt, m1_lt2, gdN, Nat.not_lt_zero, false_or, if_true, if_false, if_pos, if_neg, cond_true, cond_false, beq_self, and_self, true_and, and_true, not_true_eq_false, not_false_eq_true, ne_eq]
    rw [c_put (d := d) (by rw [h2]) (by omega) (by rw [h2]; exact h)]
    rw [up_ce (show l ≠ l + 1 by omega), g2]
    simp (disch := omega) only [↓n_m1, ↓n_hid, q0, q1, q2, q3, q4, q5, q6, q7, q8, q9, q10, q11, q12, q13, q14, q15, q16, q17, q18, q19, q20, q21, q22, q23, q24, q25, q26, q27, q28, q29, q30, q31, q32, q33, q34, q35, q36, q37, q38, q39, q40, q41, q42, q43, q44, q45, q46, q47, q48, q49, q50, q51, q52, q53, q54, q55, q56, q57, q58, q59, q61, q62, q63, q64, q66, q67, q68, q69, q70, q71, q91, q93, q99, q100, q102, q104, q107, q108, q112, q114, q115, q119, q121, q124, q160, q200, q255, q640, q999, q1000, q2000, q4096, n_of, nI_ltI, nI_leI, nI_eq, nI_clamp, nI_add, pk_mul, n_sub, m1_eq, m1_eq2, m1_lt, m1_lt2, gdN, Nat.not_lt_zero, false_or, if_true, if_false, if_pos, if_neg, cond_true, cond_false, beq_self, and_self, true_and, and_true, not_true_eq_false, not_false_eq_true, ne_eq]
    have f1 : frm [l, l + 1] s (upM (upM s (l + 1) z x) l 1 (nI (z + 1))) := frm_t (frm_u (by simp)) (frm_u (by simp))
    exact hK _ f1 ⟨TpB_f (by simp; omega) (by simp; omega) f1 g1, z + 1, by omega, up_at⟩
  · simp (disch := omega) only [↓n_m1, ↓n_hid, q0, q1, q2, q3, q4, q5, q6, q7, q8, q9, q10, q11, q12, q13, q14, q15, q16, q17, q18, q19, q20, q21, q22, q23, q24, q25, q26, q27, q28, q29, q30, q31, q32, q33, q34, q35, q36, q37, q38, q39, q40, q41, q42, q43, q44, q45, q46, q47, q48, q49, q50, q51, q52, q53, q54, q55, q56, q57, q58, q59, q61, q62, q63, q64, q66, q67, q68, q69, q70, q71, q91, q93, q99, q100, q102, q104, q107, q108, q112, q114, q115, q119, q121, q124, q160, q200, q255, q640, q999, q1000, q2000, q4096, n_of, nI_ltI, nI_leI, nI_eq, nI_clamp, nI_add, pk_mul, n_sub, m1_eq, m1_eq2, m1_lt, m1_lt2, gdN, Nat.not_lt_zero, false_or, if_true, if_false, if_pos, if_neg, cond_true, cond_false, beq_self, and_self, true_and, and_true, not_true_eq_false, not_false_eq_true, ne_eq]
    exact hK s frm_r ⟨g1, z, hz, g2⟩
theorem c_isLetter {K : Int32 → Mem → Prop} (hd : 1 ≤ d) {x : Nat} (hx : x < 256) : wI (wp d) m_G_isLetter [.int (nI x)] s K = K (b01 (ltr x)) s := by
  obtain ⟨d, rfl⟩ : ∃ e, d = e + 1 := ⟨d - 1, by omega⟩
  rw [e_G_isLetter]
  simp (disch := omega) only [↓n_m1, ↓n_hid, q0, q1, q2, q3, q4, q5, q6, q7, q8, q9, q10, q11, q12, q13, q14, q15, q16, q17, q18, q19, q20, q21, q22, q23, q24, q25, q26, q27, q28, q29, q30, q31, q32, q33, q34, q35, q36, q37, q38, q39, q40, q41, q42, q43, q44, q45, q46, q47, q48, q49, q50, q51, q52, q53, q54, q55, q56, q57, q58, q59, q61, q62, q63, q64, q66, q67, q68, q69, q70, q71, q91, q93, q99, q100, q102, q104, q107, q108, q112, q114, q115, q119, q121, q124, q160, q200, q255, q640, q999, q1000, q2000, q4096, n_of, nI_ltI, nI_leI, nI_eq, nI_clamp, nI_add, pk_mul, n_sub, m1_eq, m1_eq2, m1_lt, m1_lt2, gdN, Nat.not_lt_zero, false_or, if_true, if_false, if_pos, if_neg, cond_true, cond_false, beq_self, and_self, true_and, and_true, not_true_eq_false, not_false_eq_true, ne_eq]
  unfold ltr
  by_cases h1 : x = 112
  · rw [if_pos h1, decide_eq_true (by omega)]; rfl
  rw [if_neg h1]
  by_cases h2 : x = 102
  · rw [if_pos h2, decide_eq_true (by omega)]; rfl
  rw [if_neg h2]
  by_cases h3 : x = 104
  · rw [if_pos h3, decide_eq_true (by omega)]; rfl
  rw [if_neg h3]
  by_cases h4 : x = 107
  · rw [if_pos h4, decide_eq_true (by omega)]; rfl
  rw [if_neg h4]
  by_cases h5 : x = 119
  · rw [if_pos h5, decide_eq_true (by omega)]; rfl
  rw [if_neg h5, decide_eq_false (by omega)]; rfl
theorem b_isLetter {K : Int32 → Mem → Prop} (hd : 1 ≤ d) : wI (wp d) m_G_isLetter [.int m1] s K = K (nI 0) s := by
  obtain ⟨d, rfl⟩ : ∃ e, d = e + 1 := ⟨d - 1, by omega⟩
  rw [e_G_isLetter, if_neg (by decide), if_neg (by decide), if_neg (by decide), if_neg (by decide), if_neg (by decide)]
  rfl
theorem c_isCmp {K : Int32 → Mem → Prop} (hd : 1 ≤ d) {x : Nat} (hx : x < 256) : wI (wp d) m_G_isComparison [.int (nI x)] s K = K (b01 (csg x)) s := by
  obtain ⟨d, rfl⟩ : ∃ e, d = e + 1 := ⟨d - 1, by omega⟩
  rw [e_G_isComparison]
  simp (disch := omega) only [↓n_m1, ↓n_hid, q0, q1, q2, q3, q4, q5, q6, q7, q8, q9, q10, q11, q12, q13, q14, q15, q16, q17, q18, q19, q20, q21, q22, q23, q24, q25, q26, q27, q28, q29, q30, q31, q32, q33, q34, q35, q36, q37, q38, q39, q40, q41, q42, q43, q44, q45, q46, q47, q48, q49, q50, q51, q52, q53, q54, q55, q56, q57, q58, q59, q61, q62, q63, q64, q66, q67, q68, q69, q70, q71, q91, q93, q99, q100, q102, q104, q107, q108, q112, q114, q115, q119, q121, q124, q160, q200, q255, q640, q999, q1000, q2000, q4096, n_of, nI_ltI, nI_leI, nI_eq, nI_clamp, nI_add, pk_mul, n_sub, m1_eq, m1_eq2, m1_lt, m1_lt2, gdN, Nat.not_lt_zero, false_or, if_true, if_false, if_pos, if_neg, cond_true, cond_false, beq_self, and_self, true_and, and_true, not_true_eq_false, not_false_eq_true, ne_eq, show (60 : Int32) = nI 60 from rfl]
  unfold csg
  by_cases h1 : x = 61
  · rw [if_pos h1, decide_eq_true (by omega)]; rfl
  rw [if_neg h1]
  by_cases h2 : x = 60
  · rw [if_pos h2, decide_eq_true (by omega)]; rfl
  rw [if_neg h2]
  by_cases h3 : x = 62
  · rw [if_pos h3, decide_eq_true (by omega)]; rfl
  rw [if_neg h3, decide_eq_false (by omega)]; rfl
theorem b_isCmp {K : Int32 → Mem → Prop} (hd : 1 ≤ d) : wI (wp d) m_G_isComparison [.int m1] s K = K (nI 0) s := by
  obtain ⟨d, rfl⟩ : ∃ e, d = e + 1 := ⟨d - 1, by omega⟩
  rw [e_G_isComparison, if_neg (by decide), if_neg (by decide), if_neg (by decide)]
  rfl
theorem b_atom (hT : TxOk T) (hl : isL l) : BR T l m_G_readAtom 3 := by
  intro d f x s K hd hg hK
  have h18 := isL_18 hl
  obtain ⟨d, rfl⟩ : ∃ e, d = e + 1 := ⟨d - 1, by omega⟩
  rw [e_G_readAtom]
  refine b_next hT (by omega) hg.1 fun s1 f1 g1 => ?_
  rw [b_isDigit (by omega), if_pos (show nI 0 = 0 from rfl), b_isLetter (by omega), if_pos (show nI 0 = 0 from rfl), if_neg (by decide)]
  refine b_refuse hT (by omega) g1 (hK s1 (frm_w f1 (by simp)) ⟨g1, by rw [f1 l (by simp; omega)]; exact hg.2⟩)

theorem b_term_l {K : Mem → Prop} {x : Int32} {i : Int32} {t : Mem} (hK : K t) : RnV d m_G_readTerm K 14 [.ref 1, .ref l, .int x, .int m1, .int i] [] t := by
  rw [r_G_readTerm_14]
  by_cases h : i < 160
  · rw [if_pos h, if_neg (by decide), if_neg (by decide)]; exact hK
  · rw [if_neg h]; exact hK
theorem b_term (hT : TxOk T) (hl : isL l) : BR T l m_G_readTerm 4 := by
  intro d f x s K hd hg hK
  have h2 := isL_18 hl
  obtain ⟨d, rfl⟩ : ∃ e, d = e + 1 := ⟨d - 1, by omega⟩
  rw [e_G_readTerm]
  refine b_atom hT hl d f x s _ (by omega) hg fun s1 f1 g1 => ?_
  refine b_next hT (by omega) g1.1 fun s2 f2 g2 => ?_
  exact b_term_l (hK s2 (frm_t f1 (frm_w f2 (by simp))) ⟨g2, by rw [f2 l (by simp; omega)]; exact g1.2⟩)
theorem c_term_l (hT : TxOk T) (hl : isL l) {D : Nat} {x : Int32} {pr : Nat → PR} {B : (EnvL → Int32) → Prop} (hA : CR T l m_G_readAtom D x pr) (hG : ∀ p, p ≤ T.2 → GR T B p (pr p)) {d : Nat} (hd : D ≤ d) (hd2 : 2 ≤ d) {C : List Int32} {s : Mem} {K : Mem → Prop} :
    ∀ (f p : Nat) (a : E) (i : Nat) (t : Mem), T.2 - p < f → i ≤ p → TG T l (sk T p) (C ++ a.1) t → C.length + a.1.length ≤ p → p ≤ T.2 → frm [1, l, l + 1] s t → LK T l C (rowL T 42 47 opV pr f p a) s K →
    RnV d m_G_readTerm K 14 [.ref 1, .ref l, .int x, .int (sg T (sk T p)), .int (nI i)] [] t := by
  have h160 := hT.1
  have h18 := isL_18 hl
  have hsh := isL_b hl
  intro f
  induction f with
  | zero => intro p a i t h; omega
  | succ f ih =>
    intro p a i t hf hi hg hC hp hfr hK
    have k1 := sk_ge (T := T) (p := p)
    have k2 := sk_le hp
    rw [r_G_readTerm_14]
    by_cases hx : isS T (sk T p) 42 = true ∨ isS T (sk T p) 47 = true
    · have hlt : sk T p < T.2 := by
        rcases hx with hx | hx
        · exact (isS_lt hx).1
        · exact (isS_lt hx).1
      have er : rowL T 42 47 opV pr (f + 1) p a = bnd (pr (sk T p + 1)) fun p' e => rowL T 42 47 opV pr f p' (a.1 ++ e.1 ++ [- nI (T.1 (sk T p))], fun env => opV (T.1 (sk T p)) (a.2 env) (e.2 env)) := if_pos hx
      rw [er] at hK
      have es : sg T (sk T p) = nI (T.1 (sk T p)) := if_pos hlt
      have main : wV (wp d) m_T_pass [.ref 1] t (fun s35 => wV (wp d) m_G_readAtom [.ref 1, .ref l, .int x] s35 (fun s41 => (bif Nat.beq (shp l).1 3 then wV (wp d) m_L_add [.ref l, .int (- sg T (sk T p))] s41 (fun s47 => wI (wp d) m_T_next [.ref 1] s47 (fun x51 s51 => RnV d m_G_readTerm K 14 [.ref 1, .ref l, .int x, .int x51, .int (nI i + 1)] [] s51)) else False))) := by
        refine c_pass hT (by omega) hg.1 hlt fun s1 f1 g1 => ?_
        have g1' : TG T l (sk T p + 1) (C ++ a.1) s1 := ⟨g1, CodeA_f (by simp; omega) (by simp; omega) f1 hg.2⟩
        have hfr1 : frm [1, l, l + 1] s s1 := frm_t hfr (frm_w f1 (by simp))
        refine hA d (C ++ a.1) (sk T p + 1) s1 _ hd g1' (by rw [List.length_append]; omega) (by omega) ?_
        have hgr := hG (sk T p + 1) (by omega)
        revert hK hgr
        cases pr (sk T p + 1) with
        | inl e =>
          intro hK _ s2 f2 g2
          rw [hsh]
          refine b_add hl (by omega) g2 fun s3 f3 g3 => ?_
          refine b_next hT (by omega) g3.1 fun s4 f4 g4 => ?_
          refine b_term_l ?_
          exact hK s4 (frm_t hfr1 (frm_t f2 (frm_t (frm_w f3 (by simp)) (frm_w f4 (by simp))))) ⟨g4, by rw [f4 l (by simp; omega)]; exact g3.2⟩
        | inr e =>
          intro hK ⟨q1, q2, q3, _⟩ s2 f2 g2
          rw [hsh]
          refine c_add hl (by omega) g2.2 (by simp only [List.length_append]; omega) fun s3 f3 g3 => ?_
          have t3 : TpG T e.1 s3 := TpG_f (by simp; omega) (by simp; omega) f3 g2.1
          refine c_next hT (by omega) t3 q2 fun s4 f4 g4 => ?_
          rw [show nI i + 1 = nI (i + 1) from nI_add i 1]
          refine ih e.1 _ (i + 1) s4 (by omega) (by omega) ⟨g4, ?_⟩ ?_ q2 (frm_t hfr1 (frm_t f2 (frm_t (frm_w f3 (by simp)) (frm_w f4 (by simp))))) hK
          · have := CodeA_f (L := [1]) (by simp; omega) (by simp; omega) f4 g3
            rw [es] at this
            simpa only [List.append_assoc] using this
          · simp only [List.length_append, List.length_cons, List.length_nil]
            omega
      rw [if_pos (show nI i < 160 by rw [q160, nI_ltI (by omega) (by omega)]; omega)]
      by_cases h1 : isS T (sk T p) 42 = true
      · rw [if_pos (show sg T (sk T p) = 42 from sgp hT (by decide) h1)]
        exact main
      · rw [if_neg (show ¬ sg T (sk T p) = 42 from sgn hT (by decide) h1), if_pos (show sg T (sk T p) = 47 from sgp hT (by decide) (hx.resolve_left h1))]
        exact main
    · have er : rowL T 42 47 opV pr (f + 1) p a = .inr (sk T p, a) := if_neg hx
      rw [er] at hK
      rw [if_neg (show ¬ sg T (sk T p) = 42 from sgn hT (by decide) fun z => hx (Or.inl z)), if_neg (show ¬ sg T (sk T p) = 47 from sgn hT (by decide) fun z => hx (Or.inr z))]
      split
      · exact hK t hfr hg
      · exact hK t hfr hg
theorem c_term (hT : TxOk T) (hl : isL l) {D : Nat} (hD : 2 ≤ D) {x : Int32} {pr : Nat → PR} {B : (EnvL → Int32) → Prop} (hA : CR T l m_G_readAtom D x pr) (hG : ∀ p, p ≤ T.2 → GR T B p (pr p)) : CR T l m_G_readTerm (D + 1) x (rowP T 42 47 opV pr) := by
  intro d C p s K hd hg hC hp hK
  have h18 := isL_18 hl
  obtain ⟨d, rfl⟩ : ∃ e, d = e + 1 := ⟨d - 1, by omega⟩
  rw [e_G_readTerm]
  refine hA d C p s _ (by omega) hg hC hp ?_
  have hgr := hG p hp
  have hK' : LK T l C (bnd (pr p) fun p' e => rowL T 42 47 opV pr (T.2 + 1) p' e) s K := hK
  revert hK' hgr
  cases pr p with
  | inl e =>
    intro _ hK' s1 f1 g1
    refine b_next hT (by omega) g1.1 fun s2 f2 g2 => ?_
    exact b_term_l (hK' s2 (frm_t f1 (frm_w f2 (by simp))) ⟨g2, by rw [f2 l (by simp; omega)]; exact g1.2⟩)
  | inr e =>
    intro ⟨q1, q2, q3, _⟩ hK' s1 f1 g1
    refine c_next hT (by omega) g1.1 q2 fun s2 f2 g2 => ?_
    exact c_term_l hT hl hA hG (by omega) (by omega) (T.2 + 1) e.1 e.2 0 s2 (by omega) (by omega) ⟨g2, CodeA_f (by simp; omega) (by simp; omega) f2 g1.2⟩ (by omega) q2 (frm_t f1 (frm_w f2 (by simp))) hK'

theorem b_sum_l {K : Mem → Prop} {x : Int32} {i : Int32} {t : Mem} (hK : K t) : RnV d m_G_readSum K 14 [.ref 1, .ref l, .int x, .int m1, .int i] [] t := by
  rw [r_G_readSum_14]
  by_cases h : i < 160
  · rw [if_pos h, if_neg (by decide), if_neg (by decide)]; exact hK
  · rw [if_neg h]; exact hK
theorem b_sum (hT : TxOk T) (hl : isL l) : BR T l m_G_readSum 5 := by
  intro d f x s K hd hg hK
  have h2 := isL_18 hl
  obtain ⟨d, rfl⟩ : ∃ e, d = e + 1 := ⟨d - 1, by omega⟩
  rw [e_G_readSum]
  refine b_term hT hl d f x s _ (by omega) hg fun s1 f1 g1 => ?_
  refine b_next hT (by omega) g1.1 fun s2 f2 g2 => ?_
  exact b_sum_l (hK s2 (frm_t f1 (frm_w f2 (by simp))) ⟨g2, by rw [f2 l (by simp; omega)]; exact g1.2⟩)
theorem c_sum_l (hT : TxOk T) (hl : isL l) {D : Nat} {x : Int32} {pr : Nat → PR} {B : (EnvL → Int32) → Prop} (hA : CR T l m_G_readTerm D x pr) (hG : ∀ p, p ≤ T.2 → GR T B p (pr p)) {d : Nat} (hd : D ≤ d) (hd2 : 2 ≤ d) {C : List Int32} {s : Mem} {K : Mem → Prop} :
    ∀ (f p : Nat) (a : E) (i : Nat) (t : Mem), T.2 - p < f → i ≤ p → TG T l (sk T p) (C ++ a.1) t → C.length + a.1.length ≤ p → p ≤ T.2 → frm [1, l, l + 1] s t → LK T l C (rowL T 43 45 opV pr f p a) s K →
    RnV d m_G_readSum K 14 [.ref 1, .ref l, .int x, .int (sg T (sk T p)), .int (nI i)] [] t := by
  have h160 := hT.1
  have h18 := isL_18 hl
  have hsh := isL_b hl
  intro f
  induction f with
  | zero => intro p a i t h; omega
  | succ f ih =>
    intro p a i t hf hi hg hC hp hfr hK
    have k1 := sk_ge (T := T) (p := p)
    have k2 := sk_le hp
    rw [r_G_readSum_14]
    by_cases hx : isS T (sk T p) 43 = true ∨ isS T (sk T p) 45 = true
    · have hlt : sk T p < T.2 := by
        rcases hx with hx | hx
        · exact (isS_lt hx).1
        · exact (isS_lt hx).1
      have er : rowL T 43 45 opV pr (f + 1) p a = bnd (pr (sk T p + 1)) fun p' e => rowL T 43 45 opV pr f p' (a.1 ++ e.1 ++ [- nI (T.1 (sk T p))], fun env => opV (T.1 (sk T p)) (a.2 env) (e.2 env)) := if_pos hx
      rw [er] at hK
      have es : sg T (sk T p) = nI (T.1 (sk T p)) := if_pos hlt
      have main : wV (wp d) m_T_pass [.ref 1] t (fun s35 => wV (wp d) m_G_readTerm [.ref 1, .ref l, .int x] s35 (fun s41 => (bif Nat.beq (shp l).1 3 then wV (wp d) m_L_add [.ref l, .int (- sg T (sk T p))] s41 (fun s47 => wI (wp d) m_T_next [.ref 1] s47 (fun x51 s51 => RnV d m_G_readSum K 14 [.ref 1, .ref l, .int x, .int x51, .int (nI i + 1)] [] s51)) else False))) := by
        refine c_pass hT (by omega) hg.1 hlt fun s1 f1 g1 => ?_
        have g1' : TG T l (sk T p + 1) (C ++ a.1) s1 := ⟨g1, CodeA_f (by simp; omega) (by simp; omega) f1 hg.2⟩
        have hfr1 : frm [1, l, l + 1] s s1 := frm_t hfr (frm_w f1 (by simp))
        refine hA d (C ++ a.1) (sk T p + 1) s1 _ hd g1' (by rw [List.length_append]; omega) (by omega) ?_
        have hgr := hG (sk T p + 1) (by omega)
        revert hK hgr
        cases pr (sk T p + 1) with
        | inl e =>
          intro hK _ s2 f2 g2
          rw [hsh]
          refine b_add hl (by omega) g2 fun s3 f3 g3 => ?_
          refine b_next hT (by omega) g3.1 fun s4 f4 g4 => ?_
          refine b_sum_l ?_
          exact hK s4 (frm_t hfr1 (frm_t f2 (frm_t (frm_w f3 (by simp)) (frm_w f4 (by simp))))) ⟨g4, by rw [f4 l (by simp; omega)]; exact g3.2⟩
        | inr e =>
          intro hK ⟨q1, q2, q3, _⟩ s2 f2 g2
          rw [hsh]
          refine c_add hl (by omega) g2.2 (by simp only [List.length_append]; omega) fun s3 f3 g3 => ?_
          have t3 : TpG T e.1 s3 := TpG_f (by simp; omega) (by simp; omega) f3 g2.1
          refine c_next hT (by omega) t3 q2 fun s4 f4 g4 => ?_
          rw [show nI i + 1 = nI (i + 1) from nI_add i 1]
          refine ih e.1 _ (i + 1) s4 (by omega) (by omega) ⟨g4, ?_⟩ ?_ q2 (frm_t hfr1 (frm_t f2 (frm_t (frm_w f3 (by simp)) (frm_w f4 (by simp))))) hK
          · have := CodeA_f (L := [1]) (by simp; omega) (by simp; omega) f4 g3
            rw [es] at this
            simpa only [List.append_assoc] using this
          · simp only [List.length_append, List.length_cons, List.length_nil]
            omega
      rw [if_pos (show nI i < 160 by rw [q160, nI_ltI (by omega) (by omega)]; omega)]
      by_cases h1 : isS T (sk T p) 43 = true
      · rw [if_pos (show sg T (sk T p) = 43 from sgp hT (by decide) h1)]
        exact main
      · rw [if_neg (show ¬ sg T (sk T p) = 43 from sgn hT (by decide) h1), if_pos (show sg T (sk T p) = 45 from sgp hT (by decide) (hx.resolve_left h1))]
        exact main
    · have er : rowL T 43 45 opV pr (f + 1) p a = .inr (sk T p, a) := if_neg hx
      rw [er] at hK
      rw [if_neg (show ¬ sg T (sk T p) = 43 from sgn hT (by decide) fun z => hx (Or.inl z)), if_neg (show ¬ sg T (sk T p) = 45 from sgn hT (by decide) fun z => hx (Or.inr z))]
      split
      · exact hK t hfr hg
      · exact hK t hfr hg
theorem c_sum (hT : TxOk T) (hl : isL l) {D : Nat} (hD : 2 ≤ D) {x : Int32} {pr : Nat → PR} {B : (EnvL → Int32) → Prop} (hA : CR T l m_G_readTerm D x pr) (hG : ∀ p, p ≤ T.2 → GR T B p (pr p)) : CR T l m_G_readSum (D + 1) x (rowP T 43 45 opV pr) := by
  intro d C p s K hd hg hC hp hK
  have h18 := isL_18 hl
  obtain ⟨d, rfl⟩ : ∃ e, d = e + 1 := ⟨d - 1, by omega⟩
  rw [e_G_readSum]
  refine hA d C p s _ (by omega) hg hC hp ?_
  have hgr := hG p hp
  have hK' : LK T l C (bnd (pr p) fun p' e => rowL T 43 45 opV pr (T.2 + 1) p' e) s K := hK
  revert hK' hgr
  cases pr p with
  | inl e =>
    intro _ hK' s1 f1 g1
    refine b_next hT (by omega) g1.1 fun s2 f2 g2 => ?_
    exact b_sum_l (hK' s2 (frm_t f1 (frm_w f2 (by simp))) ⟨g2, by rw [f2 l (by simp; omega)]; exact g1.2⟩)
  | inr e =>
    intro ⟨q1, q2, q3, _⟩ hK' s1 f1 g1
    refine c_next hT (by omega) g1.1 q2 fun s2 f2 g2 => ?_
    exact c_sum_l hT hl hA hG (by omega) (by omega) (T.2 + 1) e.1 e.2 0 s2 (by omega) (by omega) ⟨g2, CodeA_f (by simp; omega) (by simp; omega) f2 g1.2⟩ (by omega) q2 (frm_t f1 (frm_w f2 (by simp))) hK'

/-- an atom; what stands in brackets is read by sub -/
theorem c_atom (hT : TxOk T) (hl : isL l) {D : Nat} (hD : 4 ≤ D) {x : Int32} {sub : Option (Nat → PR)} (hx : match sub with
      | none => ¬ x < 6
      | some f => x < 6 ∧ CR T l m_G_readSum D (x + 1) f ∧ ∀ p, p ≤ T.2 → GR T VB p (f p)) : CR T l m_G_readAtom (D + 1) x (atomP T sub) := by
  intro d C p s K hd hg hC hp hK
  have h160 := hT.1
  have h18 := isL_18 hl
  have hsh := isL_b hl
  obtain ⟨d, rfl⟩ : ∃ e, d = e + 1 := ⟨d - 1, by omega⟩
  have k1 := sk_ge (T := T) (p := p)
  have k2 := sk_le hp
  rw [e_G_readAtom]
  refine c_next hT (by omega) hg.1 hp fun s1 f1 g1 => ?_
  have c1 : CodeA l C s1 := CodeA_f (by simp; omega) (by simp; omega) f1 hg.2
  have fr1 : frm [1, l, l + 1] s s1 := frm_w f1 (by simp)
  by_cases hlt : T.2 ≤ sk T p
  · have er : atomP T sub p = .inl (sk T p) := if_pos hlt
    rw [er] at hK
    rw [show sg T (sk T p) = m1 from if_neg (by omega), b_isDigit (by omega), if_pos (show nI 0 = 0 from rfl), b_isLetter (by omega), if_pos (show nI 0 = 0 from rfl), if_neg (by decide)]
    refine c_refuse hT (by omega) g1 k2 fun s2 f2 g2 => ?_
    exact hK s2 (frm_t fr1 (frm_w f2 (by simp))) ⟨g2, C.length, by omega, by rw [f2 l (by simp; omega)]; exact c1.1⟩
  · have hb := (hT.2 (sk T p) (by omega)).2
    have es : sg T (sk T p) = nI (T.1 (sk T p)) := if_pos (by omega)
    have e0 : atomP T sub p = _ := if_neg hlt
    rw [e0] at hK
    rw [es, c_isDigit (by omega) (by omega), ifb]
    by_cases hdg : dg (T.1 (sk T p)) = true
    · rw [if_pos hdg] at hK
      rw [if_pos hdg]
      refine c_number (k := 4) (lo := 0) (hi := 9999) (p := sk T p) hT (by omega) (by decide) (by decide) (by decide) g1 (by rw [sk_sk]; omega) (by rw [sk_sk]; exact hdg) ?_
      rw [sk_sk]
      have hn := numL_1 (T := T) (p := sk T p) (by omega) hdg
      revert hK hn
      cases numL T 4 (sk T p) 0 with
      | inl e =>
        intro hK hn y s2 f2 g2
        rw [hsh]
        refine b_add hl (by omega) ⟨g2, C.length, by omega, by rw [f2 l (by simp; omega)]; exact c1.1⟩ fun s3 f3 g3 => ?_
        exact hK s3 (frm_t fr1 (frm_t (frm_w f2 (by simp)) (frm_w f3 (by simp)))) g3
      | inr e =>
        intro hK ⟨n1, n2, n3⟩
        show if e.2 < 0 ∨ 9999 < e.2 then _ else _
        rw [if_neg (by omega)]
        intro s2 f2 g2
        rw [hsh]
        refine c_add hl (by omega) (CodeA_f (by simp; omega) (by simp; omega) f2 c1) (by omega) fun s3 f3 g3 => ?_
        exact hK s3 (frm_t fr1 (frm_t (frm_w f2 (by simp)) (frm_w f3 (by simp)))) ⟨TpG_f (by simp; omega) (by simp; omega) f3 g2, g3⟩
    · rw [if_neg hdg] at hK
      rw [if_neg hdg, c_isLetter (by omega) (by omega), ifb]
      by_cases hlr : ltr (T.1 (sk T p)) = true
      · rw [if_pos hlr] at hK
        rw [if_pos hlr]
        refine c_pass hT (by omega) g1 (by omega) fun s2 f2 g2 => ?_
        rw [hsh]
        refine c_add hl (by omega) (CodeA_f (by simp; omega) (by simp; omega) f2 c1) (by omega) fun s3 f3 g3 => ?_
        exact hK s3 (frm_t fr1 (frm_t (frm_w f2 (by simp)) (frm_w f3 (by simp)))) ⟨TpG_f (by simp; omega) (by simp; omega) f3 g2, g3⟩
      · rw [if_neg hlr] at hK
        rw [if_neg hlr]
        by_cases h91 : T.1 (sk T p) = 91
        · rw [if_pos h91] at hK
          rw [if_pos (show nI (T.1 (sk T p)) = 91 by rw [h91]; rfl)]
          cases sub with
          | none =>
            rw [if_neg hx]
            refine c_refuse hT (by omega) g1 k2 fun s2 f2 g2 => ?_
            exact hK s2 (frm_t fr1 (frm_w f2 (by simp))) ⟨g2, C.length, by omega, by rw [f2 l (by simp; omega)]; exact c1.1⟩
          | some f =>
            obtain ⟨hx1, hx2, hx3⟩ := hx
            rw [if_pos hx1]
            refine c_pass hT (by omega) g1 (by omega) fun s2 f2 g2 => ?_
            have fr2 := frm_t fr1 (frm_w (L' := [1, l, l + 1]) f2 (by simp))
            refine hx2 d C (sk T p + 1) s2 _ (by omega) ⟨g2, CodeA_f (by simp; omega) (by simp; omega) f2 c1⟩ (by omega) (by omega) ?_
            have hK' : LK T l C (bnd (f (sk T p + 1)) fun p' e => ned T p' 93 fun p'' => .inr (p'', e)) s K := hK
            have hgr := hx3 (sk T p + 1) (by omega)
            revert hK' hgr
            cases f (sk T p + 1) with
            | inl e =>
              intro hK' _ s3 f3 g3
              refine b_need hT (by omega) (x := 93) (by decide) g3.1 fun s4 f4 g4 => ?_
              exact hK' s4 (frm_t fr2 (frm_t f3 (frm_w f4 (by simp)))) ⟨g4, by rw [f4 l (by simp; omega)]; exact g3.2⟩
            | inr e =>
              intro hK' ⟨q1, hp3, q3, _⟩ s3 f3 g3
              have hK2 : LK T l C (ned T e.1 93 fun p'' => .inr (p'', e.2)) s K := hK'
              refine c_need hT (by omega) (x := 93) (by decide) g3.1 hp3 (fun h93 s4 f4 g4 => ?_) (fun h93 s4 f4 g4 => ?_)
              · have e2 : ned T e.1 93 (fun p'' => (Sum.inr (p'', e.2) : PR)) = .inr (sk T e.1 + 1, e.2) := if_pos h93
                rw [e2] at hK2
                exact hK2 s4 (frm_t fr2 (frm_t f3 (frm_w f4 (by simp)))) ⟨g4, CodeA_f (by simp; omega) (by simp; omega) f4 g3.2⟩
              · have e2 : ned T e.1 93 (fun p'' => (Sum.inr (p'', e.2) : PR)) = .inl (sk T e.1) := if_neg (by rw [h93]; decide)
                rw [e2] at hK2
                exact hK2 s4 (frm_t fr2 (frm_t f3 (frm_w f4 (by simp)))) ⟨g4, (C ++ e.2.1).length, by rw [List.length_append]; omega, by rw [f4 l (by simp; omega)]; exact g3.2.1⟩
        · rw [if_neg h91] at hK
          rw [if_neg (show ¬ nI (T.1 (sk T p)) = 91 by rw [q91, nI_eq (by omega) (by omega)]; exact h91)]
          refine c_refuse hT (by omega) g1 k2 fun s2 f2 g2 => ?_
          exact hK s2 (frm_t fr1 (frm_w f2 (by simp))) ⟨g2, C.length, by omega, by rw [f2 l (by simp; omega)]; exact c1.1⟩

end
