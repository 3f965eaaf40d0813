/-! the reference reads a law's text (made by gen/lawr.py) -/
section
variable {d : Nat} {T : Txt} {s : Mem} {tc off : Nat}
/-- a sign, as the reference keeps it -/
def byI (b : Nat) : Int32 := (nI b).toInt8.toInt32
theorem byI_32 : ∀ b, b < 256 → (byI b = nI 32) = (b = 32) := by
  have : ∀ b, b < 256 → decide (byI b = nI 32) = decide (b = 32) := by decide +kernel
  exact fun b hb => propext (decide_eq_decide.mp (this b hb))
theorem byI_and : ∀ b, b < 256 → byI b &&& nI 255 = nI b := by decide +kernel
theorem byI_dg : ∀ b, b < 256 → dg b = true → byI b = nI b := by decide +kernel
theorem byI_nd : ∀ b, b < 256 → dg b = false → byI b < nI 48 ∨ nI 57 < byI b := by decide +kernel
def RdS (T : Txt) (tc off : Nat) (s : Mem) : Prop := ((tc = 58 ∧ off = 0) ∨ (tc = 59 ∧ ∃ i : Nat, i < 4 ∧ off = 160 * i)) ∧ s 57 5 = nI (tc + 1) ∧ s 57 8 = nI off ∧ s 57 9 = nI T.2 ∧ ∀ j, j < T.2 → s tc (off + j) = byI (T.1 j)
abbrev fM (s t : Mem) : Prop := frN [] [10, 11, 12] s t
theorem RdS_f {t : Mem} (h : RdS T tc off s) (hf : fM s t) : RdS T tc off t := by
  obtain ⟨h1, h2, h3, h4, h5⟩ := h
  have ne : tc ≠ 57 := by rcases h1 with ⟨rfl, _⟩ | ⟨rfl, _⟩ <;> decide
  refine ⟨h1, ?_, ?_, ?_, ?_⟩
  · rw [hf.2 5 (by decide)]; exact h2
  · rw [hf.2 8 (by decide)]; exact h3
  · rw [hf.2 9 (by decide)]; exact h4
  · intro j hj; rw [hf.1 tc (by simp) ne]; exact h5 j hj
theorem RdS_s (hT : TxOk T) (h : RdS T tc off s) : tc + 1 < 100 ∧ (Nat.beq (shp tc).1 21 || Nat.beq (shp tc).1 22) = true ∧ (∀ p, p < T.2 → off + p < (shp tc).2) ∧ off ≤ 480 := by
  have h160 := hT.1
  rcases h.1 with ⟨rfl, rfl⟩ | ⟨rfl, i, hi, rfl⟩
  · exact ⟨by decide, rfl, fun p hp => by show 0 + p < 160; omega, by decide⟩
  · exact ⟨by decide, rfl, fun p hp => by show 160 * i + p < 640; omega, by omega⟩
def RM (T : Txt) (tc off dp p : Nat) (s : Mem) : Prop := RdS T tc off s ∧ s 57 10 = nI p ∧ s 57 11 = m1 ∧ s 57 12 = nI dp
def MK (T : Txt) (tc off dp : Nat) (Pv : Int32 → Prop) (r : PR) (s : Mem) (K : Int32 → Mem → Prop) : Prop := match r with
  | .inl f => ∀ v s', Pv v → fM s s' → s' 57 11 = nI f → K v s'
  | .inr x => ∀ s', fM s s' → RM T tc off dp x.1 s' → K (x.2.2 (s 61)) s'
def MR (T : Txt) (tc off m D dp : Nat) (as : List Value) (Pv : Int32 → Prop) (pr : Nat → PR) : Prop := ∀ d p s K, D ≤ d → RM T tc off dp p s → p ≤ T.2 → MK T tc off dp Pv (pr p) s K → wI (wp d) m (.ref 57 :: as) s K
theorem MR_D {m D D' dp : Nat} {as : List Value} {Pv : Int32 → Prop} {pr : Nat → PR} (h : MR T tc off m D dp as Pv pr) (hD : D ≤ D') : MR T tc off m D' dp as Pv pr := fun d p s K hd => h d p s K (by omega)
theorem MK_f {dp : Nat} {Pv : Int32 → Prop} {r : PR} {t : Mem} {K : Int32 → Mem → Prop} (h : MK T tc off dp Pv r s K) (hf : fM s t) : MK T tc off dp Pv r t K := by
  cases r with
  | inl f => exact fun v s' hv f' e => h v s' hv (frN_t hf f') e
  | inr x =>
    intro s' f' g'
    have e : t 61 = s 61 := hf.1 61 (by simp) (by decide)
    rw [e]
    exact h s' (frN_t hf f') g'
/-- what stands next -/
theorem m_look {K : Int32 → Mem → Prop} (hT : TxOk T) (hd : 1 ≤ d) {p : Nat} (hg : RdS T tc off s) (h10 : s 57 10 = nI p) (hp : p ≤ T.2) (hK : ∀ s', frN [] [10] s s' → s' 57 10 = nI (sk T p) → K (sg T (sk T p)) s') : wI (wp d) m_M_look [.ref 57] s K := by
  have h160 := hT.1
  obtain ⟨d, rfl⟩ : ∃ e, d = e + 1 := ⟨d - 1, by omega⟩
  obtain ⟨a1, a2, a3, a4⟩ := RdS_s hT hg
  have lp : ∀ (n p : Nat) (t : Mem), p + n = T.2 → frN [] [10] s t → t 57 10 = nI p → (∀ s', frN [] [10] s s' → s' 57 10 = nI (sk T p) → K (sg T (sk T p)) s') → RnI d m_M_look K 0 [.ref 57] [] t := by
    intro n
    induction n with
    | zero =>
      intro p t hn hf h10 hK
      obtain ⟨_, b2, b3, b4, b5⟩ := RdS_f hg (frN_w hf (by simp) (by simp))
      have e : sk T p = p := sk_n (fun z => by have := z.1; omega)
      rw [r_M_look_0, h10, b4]
      simp (disch := omega) only [↓n_m1, ↓n_hid, q0, q1, q2, q3, q4, q5, q6, q7, q8, q9, q10, q11, q12, q13, q14, q15, q16, q17, q18, q19, q20, q21, q22, q23, q24, q25, q26, q27, q28, q29, q30, q31, q32, q33, q34, q35, q36, q37, q38, q39, q40, q41, q42, q43, q44, q45, q46, q47, q48, q49, q50, q51, q52, q53, q54, q55, q56, q57, q58, q59, q61, q62, q63, q64, q66, q67, q68, q69, q70, q71, q91, q93, q99, q100, q102, q104, q107, q108, q112, q114, q115, q119, q121, q124, q160, q200, q255, q640, q999, q1000, q2000, q4096, n_of, nI_ltI, nI_leI, nI_eq, nI_clamp, nI_add, pk_mul, n_sub, m1_eq, m1_eq2, m1_lt, m1_lt2, gdN, Nat.not_lt_zero, false_or, if_true, if_false, if_pos, if_neg, cond_true, cond_false, beq_self, and_self, true_and, and_true, not_true_eq_false, not_false_eq_true, ne_eq]
      have := hK t hf (by rw [e]; exact h10)
      rw [e, show sg T p = m1 from if_neg (by omega)] at this
      exact this
    | succ n ih =>
      intro p t hn hf h10 hK
      obtain ⟨_, b2, b3, b4, b5⟩ := RdS_f hg (frN_w hf (by simp) (by simp))
      have hb := (hT.2 p (by omega)).2
      have hsz := a3 p (by omega)
      have ec : (nI (tc + 1)).toNatClampNeg - 1 = tc := by rw [nI_clamp (by omega)]; rfl
      rw [r_M_look_0, h10, b4, b2, ec, a2, b3]
      simp (disch := omega) only [↓n_m1, ↓n_hid, q0, q1, q2, q3, q4, q5, q6, q7, q8, q9, q10, q11, q12, q13, q14, q15, q16, q17, q18, q19, q20, q21, q22, q23, q24, q25, q26, q27, q28, q29, q30, q31, q32, q33, q34, q35, q36, q37, q38, q39, q40, q41, q42, q43, q44, q45, q46, q47, q48, q49, q50, q51, q52, q53, q54, q55, q56, q57, q58, q59, q61, q62, q63, q64, q66, q67, q68, q69, q70, q71, q91, q93, q99, q100, q102, q104, q107, q108, q112, q114, q115, q119, q121, q124, q160, q200, q255, q640, q999, q1000, q2000, q4096, n_of, nI_ltI, nI_leI, nI_eq, nI_clamp, nI_add, pk_mul, n_sub, m1_eq, m1_eq2, m1_lt, m1_lt2, gdN, Nat.not_lt_zero, false_or, if_true, if_false, if_pos, if_neg, cond_true, cond_false, beq_self, and_self, true_and, and_true, not_true_eq_false, not_false_eq_true, ne_eq, b5 p (by omega), byI_32 (T.1 p) (by omega)]
      by_cases hbl : T.1 p = 32
      · simp only [hbl, if_true]
        have e : sk T p = sk T (p + 1) := sk_b (by omega) hbl
        rw [e] at hK
        exact ih (p + 1) _ (by omega) (frN_t hf (frN_v (by simp))) up_at hK
      · simp only [hbl, if_false]
        have e : sk T p = p := sk_n (fun z => hbl z.2)
        rw [byI_and _ (by omega)]
        have := hK t hf (by rw [e]; exact h10)
        rw [e, show sg T p = nI (T.1 p) from if_pos (by omega)] at this
        exact this
  rw [e_M_look]
  exact lp (T.2 - p) p s (by omega) frN_r h10 hK
theorem m_fails {K : Int32 → Mem → Prop} (hd : 1 ≤ d) (h11 : s 57 11 = m1) : wI (wp d) m_M_fails [.ref 57] s K = K (nI 0) (upM s 57 11 (s 57 10)) := by
  obtain ⟨d, rfl⟩ : ∃ e, d = e + 1 := ⟨d - 1, by omega⟩
  rw [e_M_fails, if_pos (show s 57 11 = -1 from h11)]
  rfl
theorem mb_fails {K : Int32 → Mem → Prop} (hd : 1 ≤ d) (h11 : ¬ s 57 11 = m1) : wI (wp d) m_M_fails [.ref 57] s K = K (nI 0) s := by
  obtain ⟨d, rfl⟩ : ∃ e, d = e + 1 := ⟨d - 1, by omega⟩
  rw [e_M_fails, if_neg (show ¬ s 57 11 = -1 from h11)]
  rfl
theorem m_isDigit {K : Int32 → Mem → Prop} (hT : TxOk T) (hd : 1 ≤ d) {p : Nat} (hg : RdS T tc off s) (h10 : s 57 10 = nI p) (hp : p ≤ T.2) : wI (wp d) m_M_isDigit [.ref 57] s K = K (b01 (decide (p < T.2) && dg (T.1 p))) s := by
  have h160 := hT.1
  obtain ⟨d, rfl⟩ : ∃ e, d = e + 1 := ⟨d - 1, by omega⟩
  obtain ⟨a1, a2, a3, a4⟩ := RdS_s hT hg
  obtain ⟨_, b2, b3, b4, b5⟩ := hg
  have ec : (nI (tc + 1)).toNatClampNeg - 1 = tc := by rw [nI_clamp (by omega)]; rfl
  rw [e_M_isDigit, h10, b4]
  by_cases hlt : p < T.2
  · have hb := (hT.2 p hlt).2
    have hsz := a3 p hlt
    rw [b2, ec, a2, b3]
    simp (disch := omega) only [↓n_m1, ↓n_hid, q0, q1, q2, q3, q4, q5, q6, q7, q8, q9, q10, q11, q12, q13, q14, q15, q16, q17, q18, q19, q20, q21, q22, q23, q24, q25, q26, q27, q28, q29, q30, q31, q32, q33, q34, q35, q36, q37, q38, q39, q40, q41, q42, q43, q44, q45, q46, q47, q48, q49, q50, q51, q52, q53, q54, q55, q56, q57, q58, q59, q61, q62, q63, q64, q66, q67, q68, q69, q70, q71, q91, q93, q99, q100, q102, q104, q107, q108, q112, q114, q115, q119, q121, q124, q160, q200, q255, q640, q999, q1000, q2000, q4096, n_of, nI_ltI, nI_leI, nI_eq, nI_clamp, nI_add, pk_mul, n_sub, m1_eq, m1_eq2, m1_lt, m1_lt2, gdN, Nat.not_lt_zero, false_or, if_true, if_false, if_pos, if_neg, cond_true, cond_false, beq_self, and_self, true_and, and_true, not_true_eq_false, not_false_eq_true, ne_eq, b5 p hlt]
    rw [decide_eq_true hlt, Bool.true_and]
    cases hdg : dg (T.1 p) with
    | true =>
      have hdd := of_decide_eq_true hdg
      rw [byI_dg _ (by omega) hdg]
      simp (disch := omega) only [↓n_m1, ↓n_hid, q0, q1, q2, q3, q4, q5, q6, q7, q8, q9, q10, q11, q12, q13, q14, q15, q16, q17, q18, q19, q20, q21, q22, q23, q24, q25, q26, q27, q28, q29, q30, q31, q32, q33, q34, q35, q36, q37, q38, q39, q40, q41, q42, q43, q44, q45, q46, q47, q48, q49, q50, q51, q52, q53, q54, q55, q56, q57, q58, q59, q61, q62, q63, q64, q66, q67, q68, q69, q70, q71, q91, q93, q99, q100, q102, q104, q107, q108, q112, q114, q115, q119, q121, q124, q160, q200, q255, q640, q999, q1000, q2000, q4096, n_of, nI_ltI, nI_leI, nI_eq, nI_clamp, nI_add, pk_mul, n_sub, m1_eq, m1_eq2, m1_lt, m1_lt2, gdN, Nat.not_lt_zero, false_or, if_true, if_false, if_pos, if_neg, cond_true, cond_false, beq_self, and_self, true_and, and_true, not_true_eq_false, not_false_eq_true, ne_eq]
      rfl
    | false =>
      by_cases h1 : byI (T.1 p) < nI 48
      · rw [if_pos h1]; rfl
      · rw [if_neg h1, if_pos ((byI_nd _ (by omega) hdg).resolve_left h1)]; rfl
  · rw [if_neg (show ¬ nI p < nI T.2 by rw [nI_ltI (by omega) (by omega)]; exact hlt), decide_eq_false hlt, Bool.false_and]
    rfl
/-- takes(): the sign is there, or not -/
theorem m_takes {K : Int32 → Mem → Prop} (hT : TxOk T) (hd : 2 ≤ d) {dp p x : Nat} (hx : x < 256) (hg : RM T tc off dp p s) (hp : p ≤ T.2)
    (h1 : isS T (sk T p) x = true → ∀ s', fM s s' → RM T tc off dp (sk T p + 1) s' → K (nI 1) s') (h0 : isS T (sk T p) x = false → ∀ s', fM s s' → s' 57 11 = nI (sk T p) → K (nI 0) s') : wI (wp d) m_M_takes [.ref 57, .int (nI x)] s K := by
  obtain ⟨d, rfl⟩ : ∃ e, d = e + 1 := ⟨d - 1, by omega⟩
  obtain ⟨g1, g2, g3, g4⟩ := hg
  rw [e_M_takes, if_pos (show s 57 11 = -1 from g3)]
  refine m_look hT (by omega) g1 g2 hp fun s1 f1 e1 => ?_
  have fm : fM s s1 := frN_w f1 (by simp) (by simp)
  by_cases e : isS T (sk T p) x = true
  · rw [if_pos (show sg T (sk T p) = nI x from sgp hT hx e)]
    have f2 : fM s (upM s1 57 10 (s1 57 10 + 1)) := frN_t fm (frN_v (by simp))
    refine h1 e _ f2 ⟨RdS_f g1 f2, ?_, ?_, ?_⟩
    · rw [up_at, e1]; exact nI_add _ 1
    · rw [up_pl (by decide), f1.2 11 (by decide)]; exact g3
    · rw [up_pl (by decide), f1.2 12 (by decide)]; exact g4
  · rw [if_neg (show ¬ sg T (sk T p) = nI x from sgn hT hx e), m_fails (by omega) (by rw [f1.2 11 (by decide)]; exact g3), if_pos (by decide)]
    refine h0 (isS_f e) _ (frN_t fm (frN_v (by simp))) ?_
    rw [up_at, e1]
theorem mb_takes {K : Int32 → Mem → Prop} (hd : 2 ≤ d) {x : Int32} (h11 : ¬ s 57 11 = m1) : wI (wp d) m_M_takes [.ref 57, .int x] s K = K (nI 0) s := by
  obtain ⟨d, rfl⟩ : ∃ e, d = e + 1 := ⟨d - 1, by omega⟩
  rw [e_M_takes, if_neg (show ¬ s 57 11 = -1 from h11), mb_fails (by omega) h11, if_pos (by decide)]
theorem f_m1 {f : Nat} (hf : f ≤ 160) {t : Mem} (h : t 57 11 = nI f) : ¬ t 57 11 = m1 := fun z => by
  rw [h, m1_eq (by omega)] at z; exact z
theorem m_within {K : Int32 → Mem → Prop} (hd : 2 ≤ d) {v : Int64} : wI (wp d) m_M_within [.long v] s K = K (hld v) s := by
  obtain ⟨d, rfl⟩ : ∃ e, d = e + 2 := ⟨d - 2, by omega⟩
  rw [e_M_within, c_minL (d := d), c_maxL (d := d)]
  rfl
theorem c_held {K : Int32 → Mem → Prop} (hd : 2 ≤ d) {v : Int64} : wI (wp d) m_L_held [.long v] s K = K (hld v) s := by
  obtain ⟨d, rfl⟩ : ∃ e, d = e + 2 := ⟨d - 2, by omega⟩
  rw [e_L_held, c_minL (d := d), c_maxL (d := d)]
  rfl
theorem m_among {K : Int32 → Mem → Prop} (hd : 1 ≤ d) {x : Nat} (hx : x < 256) : wI (wp d) 901 [.ref 1011, .int (nI x)] s K = K (b01 (ltr x)) s := by
  obtain ⟨d, rfl⟩ : ∃ e, d = e + 1 := ⟨d - 1, by omega⟩
  have e : wI (wp (d + 1)) 901 [.ref 1011, .int (nI x)] s K = K (if nI x ∈ [nI 112, nI 102, nI 104, nI 107, nI 119] then 1 else 0) s := rfl
  rw [e]
  simp only [List.mem_cons, List.not_mem_nil, or_false]
  simp (disch := omega) only [↓n_m1, ↓n_hid, q0, q1, q2, q3, q4, q5, q6, q7, q8, q9, q10, q11, q12, q13, q14, q15, q16, q17, q18, q19, q20, q21, q22, q23, q24, q25, q26, q27, q28, q29, q30, q31, q32, q33, q34, q35, q36, q37, q38, q39, q40, q41, q42, q43, q44, q45, q46, q47, q48, q49, q50, q51, q52, q53, q54, q55, q56, q57, q58, q59, q61, q62, q63, q64, q66, q67, q68, q69, q70, q71, q91, q93, q99, q100, q102, q104, q107, q108, q112, q114, q115, q119, q121, q124, q160, q200, q255, q640, q999, q1000, q2000, q4096, n_of, nI_ltI, nI_leI, nI_eq, nI_clamp, nI_add, pk_mul, n_sub, m1_eq, m1_eq2, m1_lt, m1_lt2, gdN, Nat.not_lt_zero, false_or, if_true, if_false, if_pos, if_neg, cond_true, cond_false, beq_self, and_self, true_and, and_true, not_true_eq_false, not_false_eq_true, ne_eq]
  unfold ltr b01
  congr 1
  by_cases h : x = 112 ∨ x = 102 ∨ x = 104 ∨ x = 107 ∨ x = 119
  · rw [if_pos h, decide_eq_true h]; rfl
  · rw [if_neg h, decide_eq_false h]; rfl
theorem mb_among {K : Int32 → Mem → Prop} (hd : 1 ≤ d) : wI (wp d) 901 [.ref 1011, .int m1] s K = K (nI 0) s := by
  obtain ⟨d, rfl⟩ : ∃ e, d = e + 1 := ⟨d - 1, by omega⟩
  have e : wI (wp (d + 1)) 901 [.ref 1011, .int m1] s K = K (if m1 ∈ [nI 112, nI 102, nI 104, nI 107, nI 119] then 1 else 0) s := rfl
  rw [e, if_neg (by decide)]
  rfl
theorem m_goesIn0 {K : Int32 → Mem → Prop} (hd : 2 ≤ d) {p : Nat} (hg : RM T tc off 6 p s) (hK : ∀ s', fM s s' → s' 57 11 = nI p → K (nI 0) s') : wI (wp d) m_M_goesIn [.ref 57] s K := by
  obtain ⟨d, rfl⟩ : ∃ e, d = e + 1 := ⟨d - 1, by omega⟩
  obtain ⟨g1, g2, g3, g4⟩ := hg
  rw [e_M_goesIn, if_pos (show s 57 12 = 6 from g4), m_fails (by omega) g3, if_pos (by decide)]
  exact hK _ (frN_v (by simp)) (by rw [up_at, g2])
theorem m_goesIn1 {K : Int32 → Mem → Prop} (hd : 2 ≤ d) {dp p : Nat} (hdp : dp < 6) (hg : RM T tc off dp p s) (hK : ∀ s', fM s s' → RM T tc off (dp + 1) (p + 1) s' → K (nI 1) s') : wI (wp d) m_M_goesIn [.ref 57] s K := by
  obtain ⟨d, rfl⟩ : ∃ e, d = e + 1 := ⟨d - 1, by omega⟩
  obtain ⟨g1, g2, g3, g4⟩ := hg
  rw [e_M_goesIn, if_neg (show ¬ s 57 12 = 6 by rw [g4, q6, nI_eq (by omega) (by omega)]; omega)]
  have f2 : fM s (upM (upM s 57 12 (s 57 12 + 1)) 57 10 (s 57 10 + 1)) := frN_t (frN_v (by simp)) (frN_v (by simp))
  refine hK _ f2 ⟨RdS_f g1 f2, ?_, ?_, ?_⟩
  · rw [up_at, g2]; exact nI_add _ 1
  · rw [up_pl (by decide), up_pl (by decide)]; exact g3
  · rw [up_pl (by decide), up_at, g4]; exact nI_add _ 1
theorem m_digits {K : Int32 → Mem → Prop} (hT : TxOk T) (hd : 1 ≤ d) {dp : Nat} {s0 : Mem} : ∀ (k p v : Nat) (v1 : Value) (t : Mem), k ≤ 4 → v < 10 ^ (4 - k) → p ≤ T.2 → fM s0 t → RM T tc off dp p t → MK T tc off dp (fun _ => True) (bnd (numL T k p v) fun p' v => .inr (p', [nI v], fun _ => nI v)) s0 K →
    RnI d m_M_atom K 90 [.ref 57, v1, .int (nI v), .int (nI (4 - k))] [] t := by
  have h160 := hT.1
  intro k
  induction k with
  | zero =>
    intro p v v1 t hk hv hp hf hg hK
    obtain ⟨g1, g2, g3, g4⟩ := hg
    have hv' : v < 10000 := hv
    rw [r_M_atom_90, m_isDigit hT hd g1 g2 hp, ifb]
    by_cases h : p < T.2 ∧ dg (T.1 p) = true
    · have hr : numL T 0 p v = .inl p := if_pos h
      rw [hr] at hK
      rw [decide_eq_true h.1, h.2, if_pos (by decide), if_pos (show t 57 11 = -1 from g3), if_pos (show nI (4 - 0) = 4 from rfl), m_fails hd g3]
      exact hK _ _ trivial (frN_t hf (frN_v (by simp))) (by rw [up_at, g2])
    · have hr : numL T 0 p v = .inr (p, v) := if_neg h
      rw [hr] at hK
      rw [if_neg (fun z => by
        have := Bool.and_eq_true_iff.mp z
        exact h ⟨of_decide_eq_true this.1, this.2⟩)]
      exact hK t hf ⟨g1, g2, g3, g4⟩
  | succ k ih =>
    intro p v v1 t hk hv hp hf hg hK
    have e10 : 10 ^ (4 - k) = 10 * 10 ^ (4 - (k + 1)) := by
      rw [show 4 - k = (4 - (k + 1)) + 1 by omega, Nat.pow_succ, Nat.mul_comm]
    have hv' : v < 10000 := Nat.lt_of_lt_of_le hv (show 10 ^ (4 - (k + 1)) ≤ 10 ^ 4 from Nat.pow_le_pow_right (by decide) (by omega))
    have hgg := hg
    obtain ⟨g1, g2, g3, g4⟩ := hg
    rw [r_M_atom_90, m_isDigit hT hd g1 g2 hp, ifb]
    by_cases h : p < T.2 ∧ dg (T.1 p) = true
    · have hb := (hT.2 p h.1).2
      have hdd := of_decide_eq_true h.2
      have hr : numL T (k + 1) p v = numL T k (p + 1) (10 * v + T.1 p - 48) := if_pos h
      rw [hr] at hK
      obtain ⟨a1, a2, a3, a4⟩ := RdS_s hT g1
      obtain ⟨b1, b2, b3, b4, b5⟩ := g1
      have hsz := a3 p h.1
      have ec : (nI (tc + 1)).toNatClampNeg - 1 = tc := by rw [nI_clamp (by omega)]; rfl
      rw [decide_eq_true h.1, h.2, if_pos (by decide), if_pos (show t 57 11 = -1 from g3), if_neg (show ¬ nI (4 - (k + 1)) = 4 by rw [q4, nI_eq (by omega) (by omega)]; omega), b2, ec, a2, b3, g2]
      simp (disch := omega) only [↓n_m1, ↓n_hid, q0, q1, q2, q3, q4, q5, q6, q7, q8, q9, q10, q11, q12, q13, q14, q15, q16, q17, q18, q19, q20, q21, q22, q23, q24, q25, q26, q27, q28, q29, q30, q31, q32, q33, q34, q35, q36, q37, q38, q39, q40, q41, q42, q43, q44, q45, q46, q47, q48, q49, q50, q51, q52, q53, q54, q55, q56, q57, q58, q59, q61, q62, q63, q64, q66, q67, q68, q69, q70, q71, q91, q93, q99, q100, q102, q104, q107, q108, q112, q114, q115, q119, q121, q124, q160, q200, q255, q640, q999, q1000, q2000, q4096, n_of, nI_ltI, nI_leI, nI_eq, nI_clamp, nI_add, pk_mul, n_sub, m1_eq, m1_eq2, m1_lt, m1_lt2, gdN, Nat.not_lt_zero, false_or, if_true, if_false, if_pos, if_neg, cond_true, cond_false, beq_self, and_self, true_and, and_true, not_true_eq_false, not_false_eq_true, ne_eq, b5 p h.1, byI_dg _ (show T.1 p < 256 by omega) h.2]
      have f2 : fM s0 (upM t 57 10 (nI (p + 1))) := frN_t hf (frN_v (by simp))
      rw [show 4 - (k + 1) + 1 = 4 - k by omega]
      refine ih (p + 1) _ _ _ (by omega) (by omega) (by omega) f2 ⟨RdS_f hgg.1 (frN_v (by simp)), up_at, ?_, ?_⟩ hK
      · rw [up_pl (by decide)]; exact g3
      · rw [up_pl (by decide)]; exact g4
    · have hr : numL T (k + 1) p v = .inr (p, v) := if_neg h
      rw [hr] at hK
      rw [if_neg (fun z => by
        have := Bool.and_eq_true_iff.mp z
        exact h ⟨of_decide_eq_true this.1, this.2⟩)]
      exact hK t hf ⟨g1, g2, g3, g4⟩
theorem m_atom (hT : TxOk T) {D : Nat} (hD : 2 ≤ D) {dp : Nat} {sub : Option (Nat → PR)} (hx : match sub with
      | none => dp = 6
      | some f => dp < 6 ∧ MR T tc off m_M_sum D (dp + 1) [] (fun _ => True) f ∧ ∀ p, p ≤ T.2 → GR T VB p (f p)) : MR T tc off m_M_atom (D + 1) dp [] (fun _ => True) (atomP T sub) := by
  intro d p s K hd hg hp hK
  have h160 := hT.1
  obtain ⟨d, rfl⟩ : ∃ e, d = e + 1 := ⟨d - 1, by omega⟩
  have k1 := sk_ge (T := T) (p := p)
  have k2 := sk_le hp
  obtain ⟨g1, g2, g3, g4⟩ := hg
  rw [e_M_atom]
  refine m_look hT (by omega) g1 g2 hp fun s1 f1 e1 => ?_
  have fm1 : fM s s1 := frN_w f1 (by simp) (by simp)
  have r1 : RM T tc off dp (sk T p) s1 := ⟨RdS_f g1 fm1, e1, by rw [f1.2 11 (by decide)]; exact g3, by rw [f1.2 12 (by decide)]; exact g4⟩
  -- neither a digit, a letter nor a bracket
  have non : (decide (sk T p < T.2) && dg (T.1 (sk T p))) = false → atomP T sub p = .inl (sk T p) → ∀ v1 : Value, wI (wp d) m_M_isDigit [.ref 57] s1 (fun x75 s75 => (if x75 = 0 then wI (wp d) m_M_fails [.ref 57] s75 (fun x82 s82 => RnI d m_M_atom K 90 [.ref 57, v1, .int 0, .int 0] [] s82) else RnI d m_M_atom K 90 [.ref 57, v1, .int 0, .int 0] [] s75)) := by
    intro hn er v1
    rw [er] at hK
    rw [m_isDigit hT (by omega) r1.1 r1.2.1 k2, ifb, hn, if_neg (by decide), m_fails (by omega) r1.2.2.1, r_M_atom_90]
    have f2 : fM s (upM s1 57 11 (s1 57 10)) := frN_t fm1 (frN_v (by simp))
    rw [m_isDigit hT (by omega) (RdS_f g1 f2) (by rw [up_pl (by decide)]; exact e1) k2, ifb, hn, if_neg (by decide)]
    exact hK _ _ trivial f2 (by rw [up_at, e1])
  by_cases hlt : T.2 ≤ sk T p
  · rw [show sg T (sk T p) = m1 from if_neg (by omega), mb_among (by omega), if_pos (show nI 0 = 0 from rfl), if_neg (show ¬ m1 = 91 by decide)]
    exact non (by rw [decide_eq_false (by omega), Bool.false_and]) (if_pos hlt) _
  · have hb := (hT.2 (sk T p) (by omega)).2
    have es : sg T (sk T p) = nI (T.1 (sk T p)) := if_pos (by omega)
    have e0 : atomP T sub p = _ := if_neg hlt
    rw [es, m_among (by omega) (by omega), ifb]
    by_cases hlr : ltr (T.1 (sk T p)) = true
    · have hll := of_decide_eq_true hlr
      have hdf : ¬ dg (T.1 (sk T p)) = true := fun z => by have := of_decide_eq_true z; omega
      rw [e0, if_neg hdf, if_pos hlr] at hK
      rw [if_pos hlr, if_neg (show ¬ (nI (T.1 (sk T p)) < 0 ∨ 128 ≤ (nI (T.1 (sk T p))).toNatClampNeg) by rw [nI_clamp (by omega), q0, nI_ltI (by omega) (by omega)]; omega), nI_clamp (by omega)]
      have f2 : fM s (upM s1 57 10 (s1 57 10 + 1)) := frN_t fm1 (frN_v (by simp))
      have e61 : s1 61 = s 61 := f1.1 61 (by simp) (by decide)
      rw [e61]
      refine hK _ f2 ⟨RdS_f g1 f2, ?_, ?_, ?_⟩
      · rw [up_at, e1]; exact nI_add _ 1
      · rw [up_pl (by decide)]; exact r1.2.2.1
      · rw [up_pl (by decide)]; exact r1.2.2.2
    · rw [if_neg hlr]
      by_cases h91 : T.1 (sk T p) = 91
      · have hdf : ¬ dg (T.1 (sk T p)) = true := fun z => by have := of_decide_eq_true z; omega
        rw [e0, if_neg hdf, if_neg hlr, if_pos h91] at hK
        rw [if_pos (show nI (T.1 (sk T p)) = 91 by rw [h91]; rfl)]
        cases sub with
        | none =>
          have hx' : dp = 6 := hx
          subst hx'
          refine m_goesIn0 (by omega) r1 fun s2 f2 e2 => ?_
          rw [if_pos (show nI 0 = 0 from rfl)]
          exact hK _ _ trivial (frN_t fm1 f2) e2
        | some f =>
          obtain ⟨hx1, hx2, hx3⟩ := hx
          refine m_goesIn1 (by omega) hx1 r1 fun s2 f2 r2 => ?_
          rw [if_neg (show ¬ nI 1 = 0 by decide)]
          have fm2 := frN_t fm1 f2
          refine hx2 d (sk T p + 1) s2 _ (by omega) r2 (by omega) ?_
          have hgr := hx3 (sk T p + 1) (by omega)
          have hK' : MK T tc off dp (fun _ => True) (bnd (f (sk T p + 1)) fun p' e => ned T p' 93 fun p'' => .inr (p'', e)) s K := hK
          revert hK' hgr
          cases f (sk T p + 1) with
          | inl e =>
            intro he hK' v s3 _ f3 e3
            rw [mb_takes (by omega) (f_m1 (show e ≤ 160 from Nat.le_trans he h160) e3), if_pos (show nI 0 = 0 from rfl)]
            exact hK' _ _ trivial (frN_t fm2 f3) e3
          | inr e =>
            intro ⟨q1, q2, q3, _⟩ hK' s3 f3 r3
            have hK2 : MK T tc off dp (fun _ => True) (ned T e.1 93 fun p'' => .inr (p'', e.2)) s K := hK'
            have fm3 := frN_t fm2 f3
            refine m_takes hT (by omega) (x := 93) (by decide) r3 q2 (fun hh s4 f4 r4 => ?_) (fun hh s4 f4 e4 => ?_)
            · have e2 : ned T e.1 93 (fun p'' => (Sum.inr (p'', e.2) : PR)) = .inr (sk T e.1 + 1, e.2) := if_pos hh
              rw [e2] at hK2
              rw [if_neg (show ¬ nI 1 = 0 by decide)]
              have f5 : fM s (upM s4 57 12 (s4 57 12 - 1)) := frN_t (frN_t fm3 f4) (frN_v (by simp))
              have e61 : s2 61 = s 61 := fm2.1 61 (by simp) (by decide)
              rw [e61]
              refine hK2 _ f5 ⟨RdS_f g1 f5, ?_, ?_, ?_⟩
              · rw [up_pl (by decide)]; exact r4.2.1
              · rw [up_pl (by decide)]; exact r4.2.2.1
              · rw [up_at, r4.2.2.2, show (1 : Int32) = nI 1 from rfl, n_sub (by omega)]; rfl
            · have e2 : ned T e.1 93 (fun p'' => (Sum.inr (p'', e.2) : PR)) = .inl (sk T e.1) := if_neg (by rw [hh]; decide)
              rw [e2] at hK2
              rw [if_pos (show nI 0 = 0 from rfl)]
              exact hK2 _ _ trivial (frN_t fm3 f4) e4
      · rw [if_neg (show ¬ nI (T.1 (sk T p)) = 91 by rw [q91, nI_eq (by omega) (by omega)]; exact h91)]
        by_cases hdg : dg (T.1 (sk T p)) = true
        · rw [e0, if_pos hdg] at hK
          rw [m_isDigit hT (by omega) r1.1 r1.2.1 k2, ifb, hdg, decide_eq_true (show sk T p < T.2 by omega), if_pos (by decide)]
          exact m_digits hT (by omega) 4 (sk T p) 0 _ s1 (by omega) (by decide) k2 fm1 r1 hK
        · exact non (by rw [Bool.eq_false_iff.mpr hdg, Bool.and_false]) (by rw [e0, if_neg hdg, if_neg hlr, if_neg h91]) _

theorem m_term_l (hT : TxOk T) {D : Nat} {dp : Nat} {pr : Nat → PR} {B : (EnvL → Int32) → Prop} (hA : MR T tc off m_M_atom D dp [] (fun _ => True) pr) (hG : ∀ p, p ≤ T.2 → GR T B p (pr p)) {d : Nat} (hd : D ≤ d) (hd2 : 2 ≤ d) {s : Mem} {K : Int32 → Mem → Prop} :
    ∀ (f p : Nat) (a : E) (v2 v3 v4 : Value) (t : Mem), T.2 - p < f → p ≤ T.2 → RM T tc off dp p t → fM s t → MK T tc off dp (fun _ => True) (rowL T 42 47 opV pr f p a) s K →
    RnI d m_M_term K 5 [.ref 57, .int (a.2 (s 61)), v2, v3, v4] [] t := by
  have h160 := hT.1
  intro f
  induction f with
  | zero => intro p a v2 v3 v4 t h; omega
  | succ f ih =>
    intro p a v2 v3 v4 t hf hp hg hfr hK
    have k1 := sk_ge (T := T) (p := p)
    have k2 := sk_le hp
    obtain ⟨g1, g2, g3, g4⟩ := hg
    rw [r_M_term_5, if_pos (show t 57 11 = -1 from g3)]
    refine m_look hT (by omega) g1 g2 hp fun s1 f1 e1 => ?_
    have fm1 : fM s s1 := frN_t hfr (frN_w f1 (by simp) (by simp))
    have r1 : RM T tc off dp (sk T p) s1 := ⟨RdS_f g1 (frN_w f1 (by simp) (by simp)), e1, by rw [f1.2 11 (by decide)]; exact g3, by rw [f1.2 12 (by decide)]; exact g4⟩
    -- a sign that is one of the two
    have main : isS T (sk T p) 42 = true ∨ isS T (sk T p) 47 = true → ∀ (u : Mem), fM s u → RM T tc off dp (sk T p) u → ∀ Kx : Int32 → Mem → Prop, (∀ x w, (∀ v v' v'' : Value, RnI d m_M_term K 5 [.ref 57, .int (opV (T.1 (sk T p)) (a.2 (s 61)) x), v, v', v''] [] w) → Kx x w) → wI (wp d) m_M_atom [.ref 57] (upM u 57 10 ((u 57 10) + 1)) Kx := by
      intro hx u fu ru Kx hKx
      have hlt : sk T p < T.2 := by
        rcases hx with hx | hx
        · exact (isS_lt hx).1
        · exact (isS_lt hx).1
      have er : rowL T 42 47 opV pr (f + 1) p a = bnd (pr (sk T p + 1)) fun p' e => rowL T 42 47 opV pr f p' (a.1 ++ e.1 ++ [- nI (T.1 (sk T p))], fun env => opV (T.1 (sk T p)) (a.2 env) (e.2 env)) := if_pos hx
      rw [er] at hK
      have f2 : fM s (upM u 57 10 ((u 57 10) + 1)) := frN_t fu (frN_v (by simp))
      have ru2 : RM T tc off dp (sk T p + 1) (upM u 57 10 ((u 57 10) + 1)) := ⟨RdS_f ru.1 (frN_v (by simp)), by rw [up_at, ru.2.1]; exact nI_add _ 1, by rw [up_pl (by decide)]; exact ru.2.2.1, by rw [up_pl (by decide)]; exact ru.2.2.2⟩
      refine hA d (sk T p + 1) _ _ hd ru2 (by omega) ?_
      have hgr := hG (sk T p + 1) (by omega)
      revert hK hgr
      cases pr (sk T p + 1) with
      | inl e =>
        intro hK he v s3 _ f3 e3
        refine hKx v s3 fun v v' v'' => ?_
        rw [r_M_term_5, if_neg (show ¬ s3 57 11 = -1 from f_m1 (show e ≤ 160 from Nat.le_trans he h160) e3)]
        exact hK _ s3 trivial (frN_t f2 f3) e3
      | inr e =>
        intro hK ⟨q1, q2, q3, _⟩ s3 f3 r3
        refine hKx _ s3 fun v v' v'' => ?_
        have e61 : (upM u 57 10 ((u 57 10) + 1)) 61 = s 61 := f2.1 61 (by simp) (by decide)
        rw [e61]
        exact ih e.1 (a.1 ++ e.2.1 ++ [- nI (T.1 (sk T p))], fun env => opV (T.1 (sk T p)) (a.2 env) (e.2.2 env)) _ _ _ s3 (by omega) q2 r3 (frN_t f2 f3) hK
    by_cases h1 : isS T (sk T p) 42 = true
    · have es1 : sg T (sk T p) = 42 := sgp hT (by decide) h1
      have et := (isS_lt h1).2
      rw [if_pos es1]
      refine m_look hT (by omega) r1.1 r1.2.1 k2 fun s2 f2 e2 => ?_
      rw [sk_sk] at e2 ⊢
      rw [if_pos es1]
      refine main (Or.inl h1) s2 (frN_t fm1 (frN_w f2 (by simp) (by simp))) ⟨RdS_f r1.1 (frN_w f2 (by simp) (by simp)), e2, by rw [f2.2 11 (by decide)]; exact r1.2.2.1, by rw [f2.2 12 (by decide)]; exact r1.2.2.2⟩ _ fun x w hw => ?_
      rw [et] at hw
      rw [m_within (by omega)]
      exact hw _ _ _
    · have ns1 : ¬ sg T (sk T p) = 42 := sgn hT (by decide) h1
      rw [if_neg ns1]
      refine m_look hT (by omega) r1.1 r1.2.1 k2 fun s2 f2 e2 => ?_
      rw [sk_sk] at e2 ⊢
      have fm2 : fM s s2 := frN_t fm1 (frN_w f2 (by simp) (by simp))
      have r2 : RM T tc off dp (sk T p) s2 := ⟨RdS_f r1.1 (frN_w f2 (by simp) (by simp)), e2, by rw [f2.2 11 (by decide)]; exact r1.2.2.1, by rw [f2.2 12 (by decide)]; exact r1.2.2.2⟩
      by_cases h2 : isS T (sk T p) 47 = true
      · have es2 : sg T (sk T p) = 47 := sgp hT (by decide) h2
        have et := (isS_lt h2).2
        rw [if_pos es2]
        refine m_look hT (by omega) r2.1 r2.2.1 k2 fun s3 f3 e3 => ?_
        rw [sk_sk] at e3 ⊢
        rw [if_neg ns1]
        refine main (Or.inr h2) s3 (frN_t fm2 (frN_w f3 (by simp) (by simp))) ⟨RdS_f r2.1 (frN_w f3 (by simp) (by simp)), e3, by rw [f3.2 11 (by decide)]; exact r2.2.2.1, by rw [f3.2 12 (by decide)]; exact r2.2.2.2⟩ _ fun x w hw => ?_
        rw [et] at hw
        have ex : (lg_cmp x.toInt64 0 = 0) = (x = 0) := by
          unfold lg_cmp
          refine propext ⟨fun z => ?_, fun z => ?_⟩
          · by_cases h3 : x.toInt64 > 0
            · rw [if_pos h3] at z; exact absurd z (by decide)
            · rw [if_neg h3] at z
              by_cases h4 : x.toInt64 = 0
              · exact Int32.toInt_inj.mp (by rw [← Int32.toInt_toInt64, h4]; rfl)
              · rw [if_neg h4] at z; exact absurd z (by decide)
          · rw [z]; decide
        by_cases hx0 : x = 0
        · have ev : opV 47 (a.2 (s 61)) x = hld 0 := by
            unfold opV
            rw [if_neg (by decide), if_neg (by decide), if_neg (by decide), if_pos hx0]
            decide
          rw [if_pos (by rw [ex]; exact hx0), m_within (by omega), ← ev]
          exact hw _ _ _
        · have ev : opV 47 (a.2 (s 61)) x = hld ((a.2 (s 61)).toInt64 / x.toInt64) := by
            unfold opV
            rw [if_neg (by decide), if_neg (by decide), if_neg (by decide), if_neg hx0]
          have h64 : ¬ x.toInt64 = 0 := fun z => hx0 (Int32.toInt_inj.mp (by rw [← Int32.toInt_toInt64, z]; rfl))
          rw [if_neg (by rw [ex]; exact hx0), if_neg h64, m_within (by omega), ← ev]
          exact hw _ _ _
      · rw [if_neg (show ¬ sg T (sk T p) = 47 from sgn hT (by decide) h2)]
        have er : rowL T 42 47 opV pr (f + 1) p a = .inr (sk T p, a) := if_neg (fun z => z.elim h1 h2)
        rw [er] at hK
        exact hK s2 fm2 r2
theorem m_term (hT : TxOk T) {D : Nat} (hD : 2 ≤ D) {dp : Nat} {pr : Nat → PR} {B : (EnvL → Int32) → Prop} (hA : MR T tc off m_M_atom D dp [] (fun _ => True) pr) (hG : ∀ p, p ≤ T.2 → GR T B p (pr p)) : MR T tc off m_M_term (D + 1) dp [] (fun _ => True) (rowP T 42 47 opV pr) := by
  intro d p s K hd hg hp hK
  have h160 := hT.1
  obtain ⟨d, rfl⟩ : ∃ e, d = e + 1 := ⟨d - 1, by omega⟩
  rw [e_M_term]
  refine hA d p s _ (by omega) hg hp ?_
  have hgr := hG p hp
  have hK' : MK T tc off dp (fun _ => True) (bnd (pr p) fun p' e => rowL T 42 47 opV pr (T.2 + 1) p' e) s K := hK
  revert hK' hgr
  cases pr p with
  | inl e =>
    intro he hK' v s1 _ f1 e1
    rw [r_M_term_5, if_neg (show ¬ s1 57 11 = -1 from f_m1 (show e ≤ 160 from Nat.le_trans he h160) e1)]
    exact hK' v s1 trivial f1 e1
  | inr e =>
    intro ⟨q1, q2, q3, _⟩ hK' s1 f1 r1
    exact m_term_l hT hA hG (by omega) (by omega) (T.2 + 1) e.1 e.2 _ _ _ s1 (by omega) q2 r1 f1 hK'

theorem m_sum_l (hT : TxOk T) {D : Nat} {dp : Nat} {pr : Nat → PR} {B : (EnvL → Int32) → Prop} (hA : MR T tc off m_M_term D dp [] (fun _ => True) pr) (hG : ∀ p, p ≤ T.2 → GR T B p (pr p)) {d : Nat} (hd : D ≤ d) (hd2 : 2 ≤ d) {s : Mem} {K : Int32 → Mem → Prop} :
    ∀ (f p : Nat) (a : E) (v2 v3 v4 : Value) (t : Mem), T.2 - p < f → p ≤ T.2 → RM T tc off dp p t → fM s t → MK T tc off dp (fun _ => True) (rowL T 43 45 opV pr f p a) s K →
    RnI d m_M_sum K 5 [.ref 57, .int (a.2 (s 61)), v2, v3, v4] [] t := by
  have h160 := hT.1
  intro f
  induction f with
  | zero => intro p a v2 v3 v4 t h; omega
  | succ f ih =>
    intro p a v2 v3 v4 t hf hp hg hfr hK
    have k1 := sk_ge (T := T) (p := p)
    have k2 := sk_le hp
    obtain ⟨g1, g2, g3, g4⟩ := hg
    rw [r_M_sum_5, if_pos (show t 57 11 = -1 from g3)]
    refine m_look hT (by omega) g1 g2 hp fun s1 f1 e1 => ?_
    have fm1 : fM s s1 := frN_t hfr (frN_w f1 (by simp) (by simp))
    have r1 : RM T tc off dp (sk T p) s1 := ⟨RdS_f g1 (frN_w f1 (by simp) (by simp)), e1, by rw [f1.2 11 (by decide)]; exact g3, by rw [f1.2 12 (by decide)]; exact g4⟩
    -- a sign that is one of the two
    have main : isS T (sk T p) 43 = true ∨ isS T (sk T p) 45 = true → ∀ (u : Mem), fM s u → RM T tc off dp (sk T p) u → ∀ Kx : Int32 → Mem → Prop, (∀ x w, (∀ v v' v'' : Value, RnI d m_M_sum K 5 [.ref 57, .int (opV (T.1 (sk T p)) (a.2 (s 61)) x), v, v', v''] [] w) → Kx x w) → wI (wp d) m_M_term [.ref 57] (upM u 57 10 ((u 57 10) + 1)) Kx := by
      intro hx u fu ru Kx hKx
      have hlt : sk T p < T.2 := by
        rcases hx with hx | hx
        · exact (isS_lt hx).1
        · exact (isS_lt hx).1
      have er : rowL T 43 45 opV pr (f + 1) p a = bnd (pr (sk T p + 1)) fun p' e => rowL T 43 45 opV pr f p' (a.1 ++ e.1 ++ [- nI (T.1 (sk T p))], fun env => opV (T.1 (sk T p)) (a.2 env) (e.2 env)) := if_pos hx
      rw [er] at hK
      have f2 : fM s (upM u 57 10 ((u 57 10) + 1)) := frN_t fu (frN_v (by simp))
      have ru2 : RM T tc off dp (sk T p + 1) (upM u 57 10 ((u 57 10) + 1)) := ⟨RdS_f ru.1 (frN_v (by simp)), by rw [up_at, ru.2.1]; exact nI_add _ 1, by rw [up_pl (by decide)]; exact ru.2.2.1, by rw [up_pl (by decide)]; exact ru.2.2.2⟩
      refine hA d (sk T p + 1) _ _ hd ru2 (by omega) ?_
      have hgr := hG (sk T p + 1) (by omega)
      revert hK hgr
      cases pr (sk T p + 1) with
      | inl e =>
        intro hK he v s3 _ f3 e3
        refine hKx v s3 fun v v' v'' => ?_
        rw [r_M_sum_5, if_neg (show ¬ s3 57 11 = -1 from f_m1 (show e ≤ 160 from Nat.le_trans he h160) e3)]
        exact hK _ s3 trivial (frN_t f2 f3) e3
      | inr e =>
        intro hK ⟨q1, q2, q3, _⟩ s3 f3 r3
        refine hKx _ s3 fun v v' v'' => ?_
        have e61 : (upM u 57 10 ((u 57 10) + 1)) 61 = s 61 := f2.1 61 (by simp) (by decide)
        rw [e61]
        exact ih e.1 (a.1 ++ e.2.1 ++ [- nI (T.1 (sk T p))], fun env => opV (T.1 (sk T p)) (a.2 env) (e.2.2 env)) _ _ _ s3 (by omega) q2 r3 (frN_t f2 f3) hK
    by_cases h1 : isS T (sk T p) 43 = true
    · have es1 : sg T (sk T p) = 43 := sgp hT (by decide) h1
      have et := (isS_lt h1).2
      rw [if_pos es1]
      refine m_look hT (by omega) r1.1 r1.2.1 k2 fun s2 f2 e2 => ?_
      rw [sk_sk] at e2 ⊢
      rw [if_pos es1]
      refine main (Or.inl h1) s2 (frN_t fm1 (frN_w f2 (by simp) (by simp))) ⟨RdS_f r1.1 (frN_w f2 (by simp) (by simp)), e2, by rw [f2.2 11 (by decide)]; exact r1.2.2.1, by rw [f2.2 12 (by decide)]; exact r1.2.2.2⟩ _ fun x w hw => ?_
      rw [et] at hw
      rw [m_within (by omega)]
      exact hw _ _ _
    · have ns1 : ¬ sg T (sk T p) = 43 := sgn hT (by decide) h1
      rw [if_neg ns1]
      refine m_look hT (by omega) r1.1 r1.2.1 k2 fun s2 f2 e2 => ?_
      rw [sk_sk] at e2 ⊢
      have fm2 : fM s s2 := frN_t fm1 (frN_w f2 (by simp) (by simp))
      have r2 : RM T tc off dp (sk T p) s2 := ⟨RdS_f r1.1 (frN_w f2 (by simp) (by simp)), e2, by rw [f2.2 11 (by decide)]; exact r1.2.2.1, by rw [f2.2 12 (by decide)]; exact r1.2.2.2⟩
      by_cases h2 : isS T (sk T p) 45 = true
      · have es2 : sg T (sk T p) = 45 := sgp hT (by decide) h2
        have et := (isS_lt h2).2
        rw [if_pos es2]
        refine m_look hT (by omega) r2.1 r2.2.1 k2 fun s3 f3 e3 => ?_
        rw [sk_sk] at e3 ⊢
        rw [if_neg ns1]
        refine main (Or.inr h2) s3 (frN_t fm2 (frN_w f3 (by simp) (by simp))) ⟨RdS_f r2.1 (frN_w f3 (by simp) (by simp)), e3, by rw [f3.2 11 (by decide)]; exact r2.2.2.1, by rw [f3.2 12 (by decide)]; exact r2.2.2.2⟩ _ fun x w hw => ?_
        rw [et] at hw
        rw [m_within (by omega)]
        exact hw _ _ _
      · rw [if_neg (show ¬ sg T (sk T p) = 45 from sgn hT (by decide) h2)]
        have er : rowL T 43 45 opV pr (f + 1) p a = .inr (sk T p, a) := if_neg (fun z => z.elim h1 h2)
        rw [er] at hK
        exact hK s2 fm2 r2
theorem m_sum (hT : TxOk T) {D : Nat} (hD : 2 ≤ D) {dp : Nat} {pr : Nat → PR} {B : (EnvL → Int32) → Prop} (hA : MR T tc off m_M_term D dp [] (fun _ => True) pr) (hG : ∀ p, p ≤ T.2 → GR T B p (pr p)) : MR T tc off m_M_sum (D + 1) dp [] (fun _ => True) (rowP T 43 45 opV pr) := by
  intro d p s K hd hg hp hK
  have h160 := hT.1
  obtain ⟨d, rfl⟩ : ∃ e, d = e + 1 := ⟨d - 1, by omega⟩
  rw [e_M_sum]
  refine hA d p s _ (by omega) hg hp ?_
  have hgr := hG p hp
  have hK' : MK T tc off dp (fun _ => True) (bnd (pr p) fun p' e => rowL T 43 45 opV pr (T.2 + 1) p' e) s K := hK
  revert hK' hgr
  cases pr p with
  | inl e =>
    intro he hK' v s1 _ f1 e1
    rw [r_M_sum_5, if_neg (show ¬ s1 57 11 = -1 from f_m1 (show e ≤ 160 from Nat.le_trans he h160) e1)]
    exact hK' v s1 trivial f1 e1
  | inr e =>
    intro ⟨q1, q2, q3, _⟩ hK' s1 f1 r1
    exact m_sum_l hT hA hG (by omega) (by omega) (T.2 + 1) e.1 e.2 _ _ _ s1 (by omega) q2 r1 f1 hK'

theorem m_sums (hT : TxOk T) : ∀ k, k ≤ 6 → MR T tc off m_M_sum (5 + 3 * k) (6 - k) [] (fun _ => True) (sumP T k)
  | 0, _ => m_sum hT (by omega) (m_term hT (by omega) (m_atom hT (D := 2) (by omega) (sub := none) rfl) (fun _ hp => atomP_G (fun _ z => by simp at z) hp)) (fun _ hp => rowP_G (fun _ _ _ _ _ _ _ => opV_b) (fun _ hp => atomP_G (fun _ z => by simp at z) hp) hp)
  | k + 1, hk => by
    have ih := m_sums hT k (by omega)
    have hx : 6 - (k + 1) < 6 ∧ MR T tc off m_M_sum (5 + 3 * k) (6 - (k + 1) + 1) [] (fun _ => True) (sumP T k) ∧ ∀ p, p ≤ T.2 → GR T VB p (sumP T k p) := by
      refine ⟨by omega, ?_, sumP_G k⟩
      rw [show 6 - (k + 1) + 1 = 6 - k by omega]
      exact ih
    have ga : ∀ p, p ≤ T.2 → GR T VB p (atomP T (some (sumP T k)) p) := fun _ hp => atomP_G (fun f z p hp => by injection z with z; subst z; exact sumP_G k p hp) hp
    exact MR_D (m_sum hT (by omega) (m_term hT (by omega) (m_atom hT (D := 5 + 3 * k) (by omega) (sub := some (sumP T k)) hx) ga) (fun _ hp => rowP_G (fun _ _ _ _ _ _ _ => opV_b) ga hp)) (by omega)
end
