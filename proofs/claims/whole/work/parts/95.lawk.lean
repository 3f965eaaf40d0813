/-! the law's loop: every call of the class answers as the reference's (made by gen/gen7.py) -/
section
theorem bhC_C {c c' : Call} (h : ∀ m as s q, c m as s q → c' m as s q) {m rk : Nat} {as : List Value} {s : Mem} {k : Cont} {np : Nat} {loc r : List Value} : bhC c m rk as s k np loc r → bhC c' m rk as s k np loc r := by
  unfold bhC
  split <;> exact h _ _ _ _
theorem ivS_C {c c' : Call} (h : ∀ m as s q, c m as s q → c' m as s q) {k : Cont} {np : Nat} {loc stk : List Value} {s : Mem} {e : Option (Nat × Nat × Nat × Nat)} : ivS c k np loc stk s e → ivS c' k np loc stk s e := by
  unfold ivS; split
  · exact id
  · exact cnd_mono2 id (takK_mono (fun _ _ => cnd_mono (bhC_C h)) _ _ _)
theorem ivV_C {c c' : Call} (h : ∀ m as s q, c m as s q → c' m as s q) {k : Cont} {np : Nat} {loc stk : List Value} {s : Mem} {e : Option (Nat × Nat × Nat × Nat)} : ivV c k np loc stk s e → ivV c' k np loc stk s e := by
  unfold ivV; split
  · exact id
  · refine takK_mono (fun _ r => ?_) _ _ _
    split
    · exact cnd_mono (bhC_C h)
    · exact id
theorem stP_C {c c' : Call} (h : ∀ m as s q, c m as s q → c' m as s q) {m : Nat} {k : Cont} {q : Post} {pc : Nat} {loc stk : List Value} {s : Mem} : stP c m k q pc loc stk s → stP c' m k q pc loc stk s := by
  unfold stP
  split
  · refine frgK_mono (fun l => ?_) _ _
    rename_i ins np tp fs sw _
    cases ins <;> (dsimp only [stepI]; first | exact id | exact ivS_C h | exact ivV_C h)
  · exact id
theorem wp_S : ∀ d m as s q, wp d m as s q → wp (d + 1) m as s q
  | 0, _, _, _, _ => fun h => h.elim
  | d + 1, m, as, s, q => by
    have ih := wp_S d
    unfold wp
    refine cnd_mono2 ?_ (cnd_mono ?_)
    · unfold primP
      refine cnd_mono2 ?_ id
      split
      · exact And.imp id (And.imp id (And.imp (fun h g => ih _ _ _ _ (h g)) id))
      · exact id
    · exact fun h X hX => h X (fun pc loc stk s g => hX pc loc stk s (stP_C ih g))
theorem wI_S {d m : Nat} {as : List Value} {s : Mem} {K : Int32 → Mem → Prop} (h : wI (wp d) m as s K) : wI (wp (d + 1)) m as s K := wp_S d m as s _ h
theorem wI_mono {d m : Nat} {as : List Value} {s : Mem} {K K' : Int32 → Mem → Prop} (h : wI (wp d) m as s K) (hk : ∀ v s', K v s' → K' v s') : wI (wp d) m as s K' := wp_mono d _ _ _ _ _ (li_I hk) h
theorem lgc_self (x : Int64) : lg_cmp x x = nI 0 := by
  unfold lg_cmp
  rw [if_neg (fun h : x > x => absurd (Int64.lt_iff_toInt_lt.mp h) (by omega)), if_pos rfl]
  rfl
variable {d n i c : Nat} {X : Cont} {s0 s : Mem} {g : Gph}
/-- X holds what the law's instructions keep, and knows that the script stays -/
def LX (d : Nat) (X : Cont) (s0 : Mem) (n : Nat) : Prop := KX (d + 51) X (fun v _ => v = 1) ∧ (∀ pc loc stk s, (agM s s0 → X pc loc stk s) → X pc loc stk s) ∧ s0 1008 0 = nI n ∧ n ≤ 3072
abbrev lcs (i : Nat) (v5 v6 : Value) : List Value := [.ref 1000, .ref 0, .ref 57, .ref 56, .int (nI i), v5, v6]

theorem k_feed (hL : LX d X s0 n) (h : REL c g s) (hi : i + 6 ≤ n) (hn : ∀ c' g' s' v5 v6, REL c' g' s' → X 1247 (lcs i v5 v6) [] s') (v5 v6 : Value) : X 184 (lcs i v5 v6) [] s := by
  obtain ⟨hX, hA, h8, h3⟩ := hL
  refine hA _ _ _ _ fun ha => ?_
  refine x_K_184 hX (nI i) v5 v6 s ?_
  rw [ha 1008 (by omega), ha 1000 (by omega), h8]
  simp (disch := omega) only [↓n_m1, ↓n_hid, q0, q1, q2, q3, q4, q5, q6, q7, q8, q9, q10, q11, q12, q13, q14, q15, q16, q17, q18, q19, q20, q21, q22, q23, q24, q25, q26, q27, q28, q29, q30, q31, q32, q33, q34, q35, q36, q37, q38, q39, q40, q41, q42, q43, q44, q45, q46, q47, q48, q49, q50, q51, q52, q53, q54, q55, q56, q57, q58, q59, q61, q62, q63, q64, q66, q67, q68, q69, q70, q71, q91, q93, q99, q100, q102, q104, q107, q108, q112, q114, q115, q119, q121, q124, q160, q200, q255, q640, q999, q1000, q2000, q4096, n_of, nI_ltI, nI_leI, nI_eq, nI_clamp, nI_add, pk_mul, n_sub, m1_eq, m1_eq2, m1_lt, m1_lt2, gdN, Nat.not_lt_zero, false_or, if_true, if_false, if_pos, if_neg, cond_true, cond_false, beq_self, and_self, true_and, and_true, not_true_eq_false, not_false_eq_true, ne_eq]
  refine wI_mono (L_feed (d := d + 1) (K := fun v v' s2 => v = v' ∧ ∃ c g, REL c g s2) h fun v s' h' => ⟨rfl, c, g, h'⟩) fun v s1 hk => ?_
  refine hA _ _ _ _ fun ha1 => ?_
  refine x_K_218 hX (nI i) v5 v6 v s1 ?_
  rw [ha1 1008 (by omega), ha1 1000 (by omega), h8]
  simp (disch := omega) only [↓n_m1, ↓n_hid, q0, q1, q2, q3, q4, q5, q6, q7, q8, q9, q10, q11, q12, q13, q14, q15, q16, q17, q18, q19, q20, q21, q22, q23, q24, q25, q26, q27, q28, q29, q30, q31, q32, q33, q34, q35, q36, q37, q38, q39, q40, q41, q42, q43, q44, q45, q46, q47, q48, q49, q50, q51, q52, q53, q54, q55, q56, q57, q58, q59, q61, q62, q63, q64, q66, q67, q68, q69, q70, q71, q91, q93, q99, q100, q102, q104, q107, q108, q112, q114, q115, q119, q121, q124, q160, q200, q255, q640, q999, q1000, q2000, q4096, n_of, nI_ltI, nI_leI, nI_eq, nI_clamp, nI_add, pk_mul, n_sub, m1_eq, m1_eq2, m1_lt, m1_lt2, gdN, Nat.not_lt_zero, false_or, if_true, if_false, if_pos, if_neg, cond_true, cond_false, beq_self, and_self, true_and, and_true, not_true_eq_false, not_false_eq_true, ne_eq]
  exact wI_mono hk fun v' s2 ⟨e, c', g', h'⟩ => by rw [if_pos e]; exact hn c' g' s2 v5 v6 h'
theorem k_end (hL : LX d X s0 n) (h : REL c g s) (hi : i + 6 ≤ n) (hn : ∀ c' g' s' v5 v6, REL c' g' s' → X 1247 (lcs i v5 v6) [] s') (v5 v6 : Value) : X 257 (lcs i v5 v6) [] s := by
  obtain ⟨hX, hA, h8, h3⟩ := hL
  refine hA _ _ _ _ fun ha => ?_
  refine x_K_257 hX (nI i) v5 v6 s ?_
  rw [ha 1008 (by omega), ha 1000 (by omega), h8]
  simp (disch := omega) only [↓n_m1, ↓n_hid, q0, q1, q2, q3, q4, q5, q6, q7, q8, q9, q10, q11, q12, q13, q14, q15, q16, q17, q18, q19, q20, q21, q22, q23, q24, q25, q26, q27, q28, q29, q30, q31, q32, q33, q34, q35, q36, q37, q38, q39, q40, q41, q42, q43, q44, q45, q46, q47, q48, q49, q50, q51, q52, q53, q54, q55, q56, q57, q58, q59, q61, q62, q63, q64, q66, q67, q68, q69, q70, q71, q91, q93, q99, q100, q102, q104, q107, q108, q112, q114, q115, q119, q121, q124, q160, q200, q255, q640, q999, q1000, q2000, q4096, n_of, nI_ltI, nI_leI, nI_eq, nI_clamp, nI_add, pk_mul, n_sub, m1_eq, m1_eq2, m1_lt, m1_lt2, gdN, Nat.not_lt_zero, false_or, if_true, if_false, if_pos, if_neg, cond_true, cond_false, beq_self, and_self, true_and, and_true, not_true_eq_false, not_false_eq_true, ne_eq]
  refine wI_mono (L_end (d := d + 1) (K := fun v v' s2 => v = v' ∧ ∃ c g, REL c g s2) h fun v s' h' => ⟨rfl, c, g, h'⟩) fun v s1 hk => ?_
  refine hA _ _ _ _ fun ha1 => ?_
  refine x_K_267 hX (nI i) v5 v6 v s1 ?_
  rw [ha1 1008 (by omega), ha1 1000 (by omega), h8]
  simp (disch := omega) only [↓n_m1, ↓n_hid, q0, q1, q2, q3, q4, q5, q6, q7, q8, q9, q10, q11, q12, q13, q14, q15, q16, q17, q18, q19, q20, q21, q22, q23, q24, q25, q26, q27, q28, q29, q30, q31, q32, q33, q34, q35, q36, q37, q38, q39, q40, q41, q42, q43, q44, q45, q46, q47, q48, q49, q50, q51, q52, q53, q54, q55, q56, q57, q58, q59, q61, q62, q63, q64, q66, q67, q68, q69, q70, q71, q91, q93, q99, q100, q102, q104, q107, q108, q112, q114, q115, q119, q121, q124, q160, q200, q255, q640, q999, q1000, q2000, q4096, n_of, nI_ltI, nI_leI, nI_eq, nI_clamp, nI_add, pk_mul, n_sub, m1_eq, m1_eq2, m1_lt, m1_lt2, gdN, Nat.not_lt_zero, false_or, if_true, if_false, if_pos, if_neg, cond_true, cond_false, beq_self, and_self, true_and, and_true, not_true_eq_false, not_false_eq_true, ne_eq]
  exact wI_mono hk fun v' s2 ⟨e, c', g', h'⟩ => by rw [if_pos e]; exact hn c' g' s2 v5 v6 h'
theorem k_fault (hL : LX d X s0 n) (h : REL c g s) (hi : i + 6 ≤ n) (hn : ∀ c' g' s' v5 v6, REL c' g' s' → X 1247 (lcs i v5 v6) [] s') (v5 v6 : Value) : X 282 (lcs i v5 v6) [] s := by
  obtain ⟨hX, hA, h8, h3⟩ := hL
  refine hA _ _ _ _ fun ha => ?_
  refine x_K_282 hX (nI i) v5 v6 s ?_
  rw [ha 1008 (by omega), ha 1000 (by omega), h8]
  simp (disch := omega) only [↓n_m1, ↓n_hid, q0, q1, q2, q3, q4, q5, q6, q7, q8, q9, q10, q11, q12, q13, q14, q15, q16, q17, q18, q19, q20, q21, q22, q23, q24, q25, q26, q27, q28, q29, q30, q31, q32, q33, q34, q35, q36, q37, q38, q39, q40, q41, q42, q43, q44, q45, q46, q47, q48, q49, q50, q51, q52, q53, q54, q55, q56, q57, q58, q59, q61, q62, q63, q64, q66, q67, q68, q69, q70, q71, q91, q93, q99, q100, q102, q104, q107, q108, q112, q114, q115, q119, q121, q124, q160, q200, q255, q640, q999, q1000, q2000, q4096, n_of, nI_ltI, nI_leI, nI_eq, nI_clamp, nI_add, pk_mul, n_sub, m1_eq, m1_eq2, m1_lt, m1_lt2, gdN, Nat.not_lt_zero, false_or, if_true, if_false, if_pos, if_neg, cond_true, cond_false, beq_self, and_self, true_and, and_true, not_true_eq_false, not_false_eq_true, ne_eq]
  refine wI_mono (L_fault (d := d + 1) (K := fun v v' s2 => v = v' ∧ ∃ c g, REL c g s2) h fun v s' h' => ⟨rfl, c, g, h'⟩) fun v s1 hk => ?_
  refine hA _ _ _ _ fun ha1 => ?_
  refine x_K_292 hX (nI i) v5 v6 v s1 ?_
  rw [ha1 1008 (by omega), ha1 1000 (by omega), h8]
  simp (disch := omega) only [↓n_m1, ↓n_hid, q0, q1, q2, q3, q4, q5, q6, q7, q8, q9, q10, q11, q12, q13, q14, q15, q16, q17, q18, q19, q20, q21, q22, q23, q24, q25, q26, q27, q28, q29, q30, q31, q32, q33, q34, q35, q36, q37, q38, q39, q40, q41, q42, q43, q44, q45, q46, q47, q48, q49, q50, q51, q52, q53, q54, q55, q56, q57, q58, q59, q61, q62, q63, q64, q66, q67, q68, q69, q70, q71, q91, q93, q99, q100, q102, q104, q107, q108, q112, q114, q115, q119, q121, q124, q160, q200, q255, q640, q999, q1000, q2000, q4096, n_of, nI_ltI, nI_leI, nI_eq, nI_clamp, nI_add, pk_mul, n_sub, m1_eq, m1_eq2, m1_lt, m1_lt2, gdN, Nat.not_lt_zero, false_or, if_true, if_false, if_pos, if_neg, cond_true, cond_false, beq_self, and_self, true_and, and_true, not_true_eq_false, not_false_eq_true, ne_eq]
  exact wI_mono hk fun v' s2 ⟨e, c', g', h'⟩ => by rw [if_pos e]; exact hn c' g' s2 v5 v6 h'
theorem k_text (hL : LX d X s0 n) (h : REL c g s) (hi : i + 6 ≤ n) (hn : ∀ c' g' s' v5 v6, REL c' g' s' → X 1247 (lcs i v5 v6) [] s') (v5 v6 : Value) : X 307 (lcs i v5 v6) [] s := by
  obtain ⟨hX, hA, h8, h3⟩ := hL
  refine hA _ _ _ _ fun ha => ?_
  refine x_K_307 hX (nI i) v5 v6 s ?_
  rw [ha 1008 (by omega), ha 1000 (by omega), h8]
  simp (disch := omega) only [↓n_m1, ↓n_hid, q0, q1, q2, q3, q4, q5, q6, q7, q8, q9, q10, q11, q12, q13, q14, q15, q16, q17, q18, q19, q20, q21, q22, q23, q24, q25, q26, q27, q28, q29, q30, q31, q32, q33, q34, q35, q36, q37, q38, q39, q40, q41, q42, q43, q44, q45, q46, q47, q48, q49, q50, q51, q52, q53, q54, q55, q56, q57, q58, q59, q61, q62, q63, q64, q66, q67, q68, q69, q70, q71, q91, q93, q99, q100, q102, q104, q107, q108, q112, q114, q115, q119, q121, q124, q160, q200, q255, q640, q999, q1000, q2000, q4096, n_of, nI_ltI, nI_leI, nI_eq, nI_clamp, nI_add, pk_mul, n_sub, m1_eq, m1_eq2, m1_lt, m1_lt2, gdN, Nat.not_lt_zero, false_or, if_true, if_false, if_pos, if_neg, cond_true, cond_false, beq_self, and_self, true_and, and_true, not_true_eq_false, not_false_eq_true, ne_eq]
  refine wI_mono (L_text (d := d + 1) (K := fun v v' s2 => v = v' ∧ ∃ c g, REL c g s2) h fun v s' c' g' h' => ⟨rfl, c', g', h'⟩) fun v s1 hk => ?_
  refine hA _ _ _ _ fun ha1 => ?_
  refine x_K_317 hX (nI i) v5 v6 v s1 ?_
  rw [ha1 1008 (by omega), ha1 1000 (by omega), h8]
  simp (disch := omega) only [↓n_m1, ↓n_hid, q0, q1, q2, q3, q4, q5, q6, q7, q8, q9, q10, q11, q12, q13, q14, q15, q16, q17, q18, q19, q20, q21, q22, q23, q24, q25, q26, q27, q28, q29, q30, q31, q32, q33, q34, q35, q36, q37, q38, q39, q40, q41, q42, q43, q44, q45, q46, q47, q48, q49, q50, q51, q52, q53, q54, q55, q56, q57, q58, q59, q61, q62, q63, q64, q66, q67, q68, q69, q70, q71, q91, q93, q99, q100, q102, q104, q107, q108, q112, q114, q115, q119, q121, q124, q160, q200, q255, q640, q999, q1000, q2000, q4096, n_of, nI_ltI, nI_leI, nI_eq, nI_clamp, nI_add, pk_mul, n_sub, m1_eq, m1_eq2, m1_lt, m1_lt2, gdN, Nat.not_lt_zero, false_or, if_true, if_false, if_pos, if_neg, cond_true, cond_false, beq_self, and_self, true_and, and_true, not_true_eq_false, not_false_eq_true, ne_eq]
  exact wI_mono hk fun v' s2 ⟨e, c', g', h'⟩ => by rw [if_pos e]; exact hn c' g' s2 v5 v6 h'
theorem k_street (hL : LX d X s0 n) (h : REL c g s) (hi : i + 6 ≤ n) (hn : ∀ c' g' s' v5 v6, REL c' g' s' → X 1247 (lcs i v5 v6) [] s') (v5 v6 : Value) : X 400 (lcs i v5 v6) [] s := by
  obtain ⟨hX, hA, h8, h3⟩ := hL
  refine hA _ _ _ _ fun ha => ?_
  refine x_K_400 hX (nI i) v5 v6 s ?_
  rw [ha 1008 (by omega), ha 1000 (by omega), h8]
  simp (disch := omega) only [↓n_m1, ↓n_hid, q0, q1, q2, q3, q4, q5, q6, q7, q8, q9, q10, q11, q12, q13, q14, q15, q16, q17, q18, q19, q20, q21, q22, q23, q24, q25, q26, q27, q28, q29, q30, q31, q32, q33, q34, q35, q36, q37, q38, q39, q40, q41, q42, q43, q44, q45, q46, q47, q48, q49, q50, q51, q52, q53, q54, q55, q56, q57, q58, q59, q61, q62, q63, q64, q66, q67, q68, q69, q70, q71, q91, q93, q99, q100, q102, q104, q107, q108, q112, q114, q115, q119, q121, q124, q160, q200, q255, q640, q999, q1000, q2000, q4096, n_of, nI_ltI, nI_leI, nI_eq, nI_clamp, nI_add, pk_mul, n_sub, m1_eq, m1_eq2, m1_lt, m1_lt2, gdN, Nat.not_lt_zero, false_or, if_true, if_false, if_pos, if_neg, cond_true, cond_false, beq_self, and_self, true_and, and_true, not_true_eq_false, not_false_eq_true, ne_eq]
  refine wI_mono (L_street (d := d + 1) (K := fun v v' s2 => v = v' ∧ ∃ c g, REL c g s2) h fun v s' h' => ⟨rfl, c, g, h'⟩) fun v s1 hk => ?_
  refine hA _ _ _ _ fun ha1 => ?_
  refine x_K_410 hX (nI i) v5 v6 v s1 ?_
  rw [ha1 1008 (by omega), ha1 1000 (by omega), h8]
  simp (disch := omega) only [↓n_m1, ↓n_hid, q0, q1, q2, q3, q4, q5, q6, q7, q8, q9, q10, q11, q12, q13, q14, q15, q16, q17, q18, q19, q20, q21, q22, q23, q24, q25, q26, q27, q28, q29, q30, q31, q32, q33, q34, q35, q36, q37, q38, q39, q40, q41, q42, q43, q44, q45, q46, q47, q48, q49, q50, q51, q52, q53, q54, q55, q56, q57, q58, q59, q61, q62, q63, q64, q66, q67, q68, q69, q70, q71, q91, q93, q99, q100, q102, q104, q107, q108, q112, q114, q115, q119, q121, q124, q160, q200, q255, q640, q999, q1000, q2000, q4096, n_of, nI_ltI, nI_leI, nI_eq, nI_clamp, nI_add, pk_mul, n_sub, m1_eq, m1_eq2, m1_lt, m1_lt2, gdN, Nat.not_lt_zero, false_or, if_true, if_false, if_pos, if_neg, cond_true, cond_false, beq_self, and_self, true_and, and_true, not_true_eq_false, not_false_eq_true, ne_eq]
  exact wI_mono hk fun v' s2 ⟨e, c', g', h'⟩ => by rw [if_pos e]; exact hn c' g' s2 v5 v6 h'
theorem k_law (hL : LX d X s0 n) (h : REL c g s) (hi : i + 6 ≤ n) (hn : ∀ c' g' s' v5 v6, REL c' g' s' → X 1247 (lcs i v5 v6) [] s') (v5 v6 : Value) : X 425 (lcs i v5 v6) [] s := by
  obtain ⟨hX, hA, h8, h3⟩ := hL
  refine hA _ _ _ _ fun ha => ?_
  refine x_K_425 hX (nI i) v5 v6 s ?_
  rw [ha 1008 (by omega), ha 1000 (by omega), h8]
  simp (disch := omega) only [↓n_m1, ↓n_hid, q0, q1, q2, q3, q4, q5, q6, q7, q8, q9, q10, q11, q12, q13, q14, q15, q16, q17, q18, q19, q20, q21, q22, q23, q24, q25, q26, q27, q28, q29, q30, q31, q32, q33, q34, q35, q36, q37, q38, q39, q40, q41, q42, q43, q44, q45, q46, q47, q48, q49, q50, q51, q52, q53, q54, q55, q56, q57, q58, q59, q61, q62, q63, q64, q66, q67, q68, q69, q70, q71, q91, q93, q99, q100, q102, q104, q107, q108, q112, q114, q115, q119, q121, q124, q160, q200, q255, q640, q999, q1000, q2000, q4096, n_of, nI_ltI, nI_leI, nI_eq, nI_clamp, nI_add, pk_mul, n_sub, m1_eq, m1_eq2, m1_lt, m1_lt2, gdN, Nat.not_lt_zero, false_or, if_true, if_false, if_pos, if_neg, cond_true, cond_false, beq_self, and_self, true_and, and_true, not_true_eq_false, not_false_eq_true, ne_eq]
  refine wI_mono (L_law (d := d + 1) (K := fun v v' s2 => v = v' ∧ ∃ c g, REL c g s2) h fun v s' h' => ⟨rfl, c, g, h'⟩) fun v s1 hk => ?_
  refine hA _ _ _ _ fun ha1 => ?_
  refine x_K_435 hX (nI i) v5 v6 v s1 ?_
  rw [ha1 1008 (by omega), ha1 1000 (by omega), h8]
  simp (disch := omega) only [↓n_m1, ↓n_hid, q0, q1, q2, q3, q4, q5, q6, q7, q8, q9, q10, q11, q12, q13, q14, q15, q16, q17, q18, q19, q20, q21, q22, q23, q24, q25, q26, q27, q28, q29, q30, q31, q32, q33, q34, q35, q36, q37, q38, q39, q40, q41, q42, q43, q44, q45, q46, q47, q48, q49, q50, q51, q52, q53, q54, q55, q56, q57, q58, q59, q61, q62, q63, q64, q66, q67, q68, q69, q70, q71, q91, q93, q99, q100, q102, q104, q107, q108, q112, q114, q115, q119, q121, q124, q160, q200, q255, q640, q999, q1000, q2000, q4096, n_of, nI_ltI, nI_leI, nI_eq, nI_clamp, nI_add, pk_mul, n_sub, m1_eq, m1_eq2, m1_lt, m1_lt2, gdN, Nat.not_lt_zero, false_or, if_true, if_false, if_pos, if_neg, cond_true, cond_false, beq_self, and_self, true_and, and_true, not_true_eq_false, not_false_eq_true, ne_eq]
  exact wI_mono hk fun v' s2 ⟨e, c', g', h'⟩ => by rw [if_pos e]; exact hn c' g' s2 v5 v6 h'
theorem k_set (hL : LX d X s0 n) (h : REL c g s) (hi : i + 6 ≤ n) (hn : ∀ c' g' s' v5 v6, REL c' g' s' → X 1247 (lcs i v5 v6) [] s') (v5 v6 : Value) : X 450 (lcs i v5 v6) [] s := by
  obtain ⟨hX, hA, h8, h3⟩ := hL
  refine hA _ _ _ _ fun ha => ?_
  refine x_K_450 hX (nI i) v5 v6 s ?_
  rw [ha 1008 (by omega), ha 1000 (by omega), h8]
  simp (disch := omega) only [↓n_m1, ↓n_hid, q0, q1, q2, q3, q4, q5, q6, q7, q8, q9, q10, q11, q12, q13, q14, q15, q16, q17, q18, q19, q20, q21, q22, q23, q24, q25, q26, q27, q28, q29, q30, q31, q32, q33, q34, q35, q36, q37, q38, q39, q40, q41, q42, q43, q44, q45, q46, q47, q48, q49, q50, q51, q52, q53, q54, q55, q56, q57, q58, q59, q61, q62, q63, q64, q66, q67, q68, q69, q70, q71, q91, q93, q99, q100, q102, q104, q107, q108, q112, q114, q115, q119, q121, q124, q160, q200, q255, q640, q999, q1000, q2000, q4096, n_of, nI_ltI, nI_leI, nI_eq, nI_clamp, nI_add, pk_mul, n_sub, m1_eq, m1_eq2, m1_lt, m1_lt2, gdN, Nat.not_lt_zero, false_or, if_true, if_false, if_pos, if_neg, cond_true, cond_false, beq_self, and_self, true_and, and_true, not_true_eq_false, not_false_eq_true, ne_eq]
  refine wI_mono (L_set (d := d + 1) (K := fun v v' s2 => v = v' ∧ ∃ c g, REL c g s2) h fun v s' h' => ⟨rfl, c, g, h'⟩) fun v s1 hk => ?_
  refine hA _ _ _ _ fun ha1 => ?_
  refine x_K_466 hX (nI i) v5 v6 v s1 ?_
  rw [ha1 1008 (by omega), ha1 1000 (by omega), h8]
  simp (disch := omega) only [↓n_m1, ↓n_hid, q0, q1, q2, q3, q4, q5, q6, q7, q8, q9, q10, q11, q12, q13, q14, q15, q16, q17, q18, q19, q20, q21, q22, q23, q24, q25, q26, q27, q28, q29, q30, q31, q32, q33, q34, q35, q36, q37, q38, q39, q40, q41, q42, q43, q44, q45, q46, q47, q48, q49, q50, q51, q52, q53, q54, q55, q56, q57, q58, q59, q61, q62, q63, q64, q66, q67, q68, q69, q70, q71, q91, q93, q99, q100, q102, q104, q107, q108, q112, q114, q115, q119, q121, q124, q160, q200, q255, q640, q999, q1000, q2000, q4096, n_of, nI_ltI, nI_leI, nI_eq, nI_clamp, nI_add, pk_mul, n_sub, m1_eq, m1_eq2, m1_lt, m1_lt2, gdN, Nat.not_lt_zero, false_or, if_true, if_false, if_pos, if_neg, cond_true, cond_false, beq_self, and_self, true_and, and_true, not_true_eq_false, not_false_eq_true, ne_eq]
  exact wI_mono hk fun v' s2 ⟨e, c', g', h'⟩ => by rw [if_pos e]; exact hn c' g' s2 v5 v6 h'
theorem k_open (hL : LX d X s0 n) (h : REL c g s) (hi : i + 6 ≤ n) (hn : ∀ c' g' s' v5 v6, REL c' g' s' → X 1247 (lcs i v5 v6) [] s') (v5 v6 : Value) : X 487 (lcs i v5 v6) [] s := by
  obtain ⟨hX, hA, h8, h3⟩ := hL
  refine hA _ _ _ _ fun ha => ?_
  refine x_K_487 hX (nI i) v5 v6 s ?_
  rw [ha 1008 (by omega), ha 1000 (by omega), h8]
  simp (disch := omega) only [↓n_m1, ↓n_hid, q0, q1, q2, q3, q4, q5, q6, q7, q8, q9, q10, q11, q12, q13, q14, q15, q16, q17, q18, q19, q20, q21, q22, q23, q24, q25, q26, q27, q28, q29, q30, q31, q32, q33, q34, q35, q36, q37, q38, q39, q40, q41, q42, q43, q44, q45, q46, q47, q48, q49, q50, q51, q52, q53, q54, q55, q56, q57, q58, q59, q61, q62, q63, q64, q66, q67, q68, q69, q70, q71, q91, q93, q99, q100, q102, q104, q107, q108, q112, q114, q115, q119, q121, q124, q160, q200, q255, q640, q999, q1000, q2000, q4096, n_of, nI_ltI, nI_leI, nI_eq, nI_clamp, nI_add, pk_mul, n_sub, m1_eq, m1_eq2, m1_lt, m1_lt2, gdN, Nat.not_lt_zero, false_or, if_true, if_false, if_pos, if_neg, cond_true, cond_false, beq_self, and_self, true_and, and_true, not_true_eq_false, not_false_eq_true, ne_eq]
  by_cases hz : s0 1000 (i + 2) = nI 0
  · rw [if_pos hz]
    refine wI_mono (L_open (d := d + 1) (b := false) (K := fun v v' s2 => v = v' ∧ ∃ c g, REL c g s2) h fun v s' h' => ⟨rfl, c, g, h'⟩) fun v s1 hk => ?_
    refine hA _ _ _ _ fun ha1 => ?_
    refine x_K_511 hX (nI i) v5 v6 v s1 ?_
    rw [ha1 1008 (by omega), ha1 1000 (by omega), h8]
    simp (disch := omega) only [↓n_m1, ↓n_hid, q0, q1, q2, q3, q4, q5, q6, q7, q8, q9, q10, q11, q12, q13, q14, q15, q16, q17, q18, q19, q20, q21, q22, q23, q24, q25, q26, q27, q28, q29, q30, q31, q32, q33, q34, q35, q36, q37, q38, q39, q40, q41, q42, q43, q44, q45, q46, q47, q48, q49, q50, q51, q52, q53, q54, q55, q56, q57, q58, q59, q61, q62, q63, q64, q66, q67, q68, q69, q70, q71, q91, q93, q99, q100, q102, q104, q107, q108, q112, q114, q115, q119, q121, q124, q160, q200, q255, q640, q999, q1000, q2000, q4096, n_of, nI_ltI, nI_leI, nI_eq, nI_clamp, nI_add, pk_mul, n_sub, m1_eq, m1_eq2, m1_lt, m1_lt2, gdN, Nat.not_lt_zero, false_or, if_true, if_false, if_pos, if_neg, cond_true, cond_false, beq_self, and_self, true_and, and_true, not_true_eq_false, not_false_eq_true, ne_eq]
    exact wI_mono hk fun v' s2 ⟨e, c', g', h'⟩ => by rw [if_pos e]; exact hn c' g' s2 v5 v6 h'
  · rw [if_neg hz]
    refine wI_mono (L_open (d := d + 1) (b := true) (K := fun v v' s2 => v = v' ∧ ∃ c g, REL c g s2) h fun v s' h' => ⟨rfl, c, g, h'⟩) fun v s1 hk => ?_
    refine hA _ _ _ _ fun ha1 => ?_
    refine x_K_511 hX (nI i) v5 v6 v s1 ?_
    rw [ha1 1008 (by omega), ha1 1000 (by omega), h8]
    simp (disch := omega) only [↓n_m1, ↓n_hid, q0, q1, q2, q3, q4, q5, q6, q7, q8, q9, q10, q11, q12, q13, q14, q15, q16, q17, q18, q19, q20, q21, q22, q23, q24, q25, q26, q27, q28, q29, q30, q31, q32, q33, q34, q35, q36, q37, q38, q39, q40, q41, q42, q43, q44, q45, q46, q47, q48, q49, q50, q51, q52, q53, q54, q55, q56, q57, q58, q59, q61, q62, q63, q64, q66, q67, q68, q69, q70, q71, q91, q93, q99, q100, q102, q104, q107, q108, q112, q114, q115, q119, q121, q124, q160, q200, q255, q640, q999, q1000, q2000, q4096, n_of, nI_ltI, nI_leI, nI_eq, nI_clamp, nI_add, pk_mul, n_sub, m1_eq, m1_eq2, m1_lt, m1_lt2, gdN, Nat.not_lt_zero, false_or, if_true, if_false, if_pos, if_neg, cond_true, cond_false, beq_self, and_self, true_and, and_true, not_true_eq_false, not_false_eq_true, ne_eq]
    exact wI_mono hk fun v' s2 ⟨e, c', g', h'⟩ => by rw [if_pos e]; exact hn c' g' s2 v5 v6 h'
theorem k_hours (hL : LX d X s0 n) (h : REL c g s) (hi : i + 6 ≤ n) (hn : ∀ c' g' s' v5 v6, REL c' g' s' → X 1247 (lcs i v5 v6) [] s') (v5 v6 : Value) : X 540 (lcs i v5 v6) [] s := by
  obtain ⟨hX, hA, h8, h3⟩ := hL
  refine hA _ _ _ _ fun ha => ?_
  refine x_K_540 hX (nI i) v5 v6 s ?_
  rw [ha 1008 (by omega), ha 1000 (by omega), h8]
  simp (disch := omega) only [↓n_m1, ↓n_hid, q0, q1, q2, q3, q4, q5, q6, q7, q8, q9, q10, q11, q12, q13, q14, q15, q16, q17, q18, q19, q20, q21, q22, q23, q24, q25, q26, q27, q28, q29, q30, q31, q32, q33, q34, q35, q36, q37, q38, q39, q40, q41, q42, q43, q44, q45, q46, q47, q48, q49, q50, q51, q52, q53, q54, q55, q56, q57, q58, q59, q61, q62, q63, q64, q66, q67, q68, q69, q70, q71, q91, q93, q99, q100, q102, q104, q107, q108, q112, q114, q115, q119, q121, q124, q160, q200, q255, q640, q999, q1000, q2000, q4096, n_of, nI_ltI, nI_leI, nI_eq, nI_clamp, nI_add, pk_mul, n_sub, m1_eq, m1_eq2, m1_lt, m1_lt2, gdN, Nat.not_lt_zero, false_or, if_true, if_false, if_pos, if_neg, cond_true, cond_false, beq_self, and_self, true_and, and_true, not_true_eq_false, not_false_eq_true, ne_eq]
  refine wI_mono (L_hours (d := d + 1) (K := fun v v' s2 => v = v' ∧ ∃ c g, REL c g s2) h fun v s' h' => ⟨rfl, c, g, h'⟩) fun v s1 hk => ?_
  refine hA _ _ _ _ fun ha1 => ?_
  refine x_K_572 hX (nI i) v5 v6 v s1 ?_
  rw [ha1 1008 (by omega), ha1 1000 (by omega), h8]
  simp (disch := omega) only [↓n_m1, ↓n_hid, q0, q1, q2, q3, q4, q5, q6, q7, q8, q9, q10, q11, q12, q13, q14, q15, q16, q17, q18, q19, q20, q21, q22, q23, q24, q25, q26, q27, q28, q29, q30, q31, q32, q33, q34, q35, q36, q37, q38, q39, q40, q41, q42, q43, q44, q45, q46, q47, q48, q49, q50, q51, q52, q53, q54, q55, q56, q57, q58, q59, q61, q62, q63, q64, q66, q67, q68, q69, q70, q71, q91, q93, q99, q100, q102, q104, q107, q108, q112, q114, q115, q119, q121, q124, q160, q200, q255, q640, q999, q1000, q2000, q4096, n_of, nI_ltI, nI_leI, nI_eq, nI_clamp, nI_add, pk_mul, n_sub, m1_eq, m1_eq2, m1_lt, m1_lt2, gdN, Nat.not_lt_zero, false_or, if_true, if_false, if_pos, if_neg, cond_true, cond_false, beq_self, and_self, true_and, and_true, not_true_eq_false, not_false_eq_true, ne_eq]
  exact wI_mono hk fun v' s2 ⟨e, c', g', h'⟩ => by rw [if_pos e]; exact hn c' g' s2 v5 v6 h'
theorem k_undo (hL : LX d X s0 n) (h : REL c g s) (hi : i + 6 ≤ n) (hn : ∀ c' g' s' v5 v6, REL c' g' s' → X 1247 (lcs i v5 v6) [] s') (v5 v6 : Value) : X 609 (lcs i v5 v6) [] s := by
  obtain ⟨hX, hA, h8, h3⟩ := hL
  refine hA _ _ _ _ fun ha => ?_
  refine x_K_609 hX (nI i) v5 v6 s ?_
  refine wI_mono (L_undo (d := d + 1) (K := fun v v' s2 => v = v' ∧ ∃ c g, REL c g s2) h fun v s' h' => ⟨rfl, c, g, h'⟩) fun v s1 hk => ?_
  refine hA _ _ _ _ fun ha1 => ?_
  refine x_K_613 hX (nI i) v5 v6 v s1 ?_
  exact wI_mono hk fun v' s2 ⟨e, c', g', h'⟩ => by rw [if_pos e]; exact hn c' g' s2 v5 v6 h'
theorem k_far (hL : LX d X s0 n) (h : REL c g s) (hi : i + 6 ≤ n) (hn : ∀ c' g' s' v5 v6, REL c' g' s' → X 1247 (lcs i v5 v6) [] s') (v5 v6 : Value) : X 622 (lcs i v5 v6) [] s := by
  obtain ⟨hX, hA, h8, h3⟩ := hL
  refine hA _ _ _ _ fun ha => ?_
  refine x_K_622 hX (nI i) v5 v6 s ?_
  rw [ha 1008 (by omega), ha 1000 (by omega), h8]
  simp (disch := omega) only [↓n_m1, ↓n_hid, q0, q1, q2, q3, q4, q5, q6, q7, q8, q9, q10, q11, q12, q13, q14, q15, q16, q17, q18, q19, q20, q21, q22, q23, q24, q25, q26, q27, q28, q29, q30, q31, q32, q33, q34, q35, q36, q37, q38, q39, q40, q41, q42, q43, q44, q45, q46, q47, q48, q49, q50, q51, q52, q53, q54, q55, q56, q57, q58, q59, q61, q62, q63, q64, q66, q67, q68, q69, q70, q71, q91, q93, q99, q100, q102, q104, q107, q108, q112, q114, q115, q119, q121, q124, q160, q200, q255, q640, q999, q1000, q2000, q4096, n_of, nI_ltI, nI_leI, nI_eq, nI_clamp, nI_add, pk_mul, n_sub, m1_eq, m1_eq2, m1_lt, m1_lt2, gdN, Nat.not_lt_zero, false_or, if_true, if_false, if_pos, if_neg, cond_true, cond_false, beq_self, and_self, true_and, and_true, not_true_eq_false, not_false_eq_true, ne_eq]
  refine wI_mono (L_far (d := d + 1) (K := fun v v' s2 => v = v' ∧ ∃ c g, REL c g s2) h fun v s' h' => ⟨rfl, c, g, h'⟩) fun v s1 hk => ?_
  refine hA _ _ _ _ fun ha1 => ?_
  refine x_K_638 hX (nI i) v5 v6 v s1 ?_
  rw [ha1 1008 (by omega), ha1 1000 (by omega), h8]
  simp (disch := omega) only [↓n_m1, ↓n_hid, q0, q1, q2, q3, q4, q5, q6, q7, q8, q9, q10, q11, q12, q13, q14, q15, q16, q17, q18, q19, q20, q21, q22, q23, q24, q25, q26, q27, q28, q29, q30, q31, q32, q33, q34, q35, q36, q37, q38, q39, q40, q41, q42, q43, q44, q45, q46, q47, q48, q49, q50, q51, q52, q53, q54, q55, q56, q57, q58, q59, q61, q62, q63, q64, q66, q67, q68, q69, q70, q71, q91, q93, q99, q100, q102, q104, q107, q108, q112, q114, q115, q119, q121, q124, q160, q200, q255, q640, q999, q1000, q2000, q4096, n_of, nI_ltI, nI_leI, nI_eq, nI_clamp, nI_add, pk_mul, n_sub, m1_eq, m1_eq2, m1_lt, m1_lt2, gdN, Nat.not_lt_zero, false_or, if_true, if_false, if_pos, if_neg, cond_true, cond_false, beq_self, and_self, true_and, and_true, not_true_eq_false, not_false_eq_true, ne_eq]
  exact wI_mono hk fun v' s2 ⟨e, c', g', h'⟩ => by rw [if_pos e]; exact hn c' g' s2 v5 v6 h'
theorem k_smell (hL : LX d X s0 n) (h : REL c g s) (hi : i + 6 ≤ n) (hn : ∀ c' g' s' v5 v6, REL c' g' s' → X 1247 (lcs i v5 v6) [] s') (v5 v6 : Value) : X 659 (lcs i v5 v6) [] s := by
  obtain ⟨hX, hA, h8, h3⟩ := hL
  refine hA _ _ _ _ fun ha => ?_
  refine x_K_659 hX (nI i) v5 v6 s ?_
  rw [ha 1008 (by omega), ha 1000 (by omega), h8]
  simp (disch := omega) only [↓n_m1, ↓n_hid, q0, q1, q2, q3, q4, q5, q6, q7, q8, q9, q10, q11, q12, q13, q14, q15, q16, q17, q18, q19, q20, q21, q22, q23, q24, q25, q26, q27, q28, q29, q30, q31, q32, q33, q34, q35, q36, q37, q38, q39, q40, q41, q42, q43, q44, q45, q46, q47, q48, q49, q50, q51, q52, q53, q54, q55, q56, q57, q58, q59, q61, q62, q63, q64, q66, q67, q68, q69, q70, q71, q91, q93, q99, q100, q102, q104, q107, q108, q112, q114, q115, q119, q121, q124, q160, q200, q255, q640, q999, q1000, q2000, q4096, n_of, nI_ltI, nI_leI, nI_eq, nI_clamp, nI_add, pk_mul, n_sub, m1_eq, m1_eq2, m1_lt, m1_lt2, gdN, Nat.not_lt_zero, false_or, if_true, if_false, if_pos, if_neg, cond_true, cond_false, beq_self, and_self, true_and, and_true, not_true_eq_false, not_false_eq_true, ne_eq]
  refine wI_mono (L_smell (d := d + 1) (K := fun v v' s2 => v = v' ∧ ∃ c g, REL c g s2) h fun v s' h' => ⟨rfl, c, g, h'⟩) fun v s1 hk => ?_
  refine hA _ _ _ _ fun ha1 => ?_
  refine x_K_675 hX (nI i) v5 v6 v s1 ?_
  rw [ha1 1008 (by omega), ha1 1000 (by omega), h8]
  simp (disch := omega) only [↓n_m1, ↓n_hid, q0, q1, q2, q3, q4, q5, q6, q7, q8, q9, q10, q11, q12, q13, q14, q15, q16, q17, q18, q19, q20, q21, q22, q23, q24, q25, q26, q27, q28, q29, q30, q31, q32, q33, q34, q35, q36, q37, q38, q39, q40, q41, q42, q43, q44, q45, q46, q47, q48, q49, q50, q51, q52, q53, q54, q55, q56, q57, q58, q59, q61, q62, q63, q64, q66, q67, q68, q69, q70, q71, q91, q93, q99, q100, q102, q104, q107, q108, q112, q114, q115, q119, q121, q124, q160, q200, q255, q640, q999, q1000, q2000, q4096, n_of, nI_ltI, nI_leI, nI_eq, nI_clamp, nI_add, pk_mul, n_sub, m1_eq, m1_eq2, m1_lt, m1_lt2, gdN, Nat.not_lt_zero, false_or, if_true, if_false, if_pos, if_neg, cond_true, cond_false, beq_self, and_self, true_and, and_true, not_true_eq_false, not_false_eq_true, ne_eq]
  exact wI_mono hk fun v' s2 ⟨e, c', g', h'⟩ => by rw [if_pos e]; exact hn c' g' s2 v5 v6 h'
theorem k_breath (hL : LX d X s0 n) (h : REL c g s) (hi : i + 6 ≤ n) (hn : ∀ c' g' s' v5 v6, REL c' g' s' → X 1247 (lcs i v5 v6) [] s') (v5 v6 : Value) : X 696 (lcs i v5 v6) [] s := by
  obtain ⟨hX, hA, h8, h3⟩ := hL
  refine hA _ _ _ _ fun ha => ?_
  refine x_K_696 hX (nI i) v5 v6 s ?_
  rw [ha 1008 (by omega), ha 1000 (by omega), h8]
  simp (disch := omega) only [↓n_m1, ↓n_hid, q0, q1, q2, q3, q4, q5, q6, q7, q8, q9, q10, q11, q12, q13, q14, q15, q16, q17, q18, q19, q20, q21, q22, q23, q24, q25, q26, q27, q28, q29, q30, q31, q32, q33, q34, q35, q36, q37, q38, q39, q40, q41, q42, q43, q44, q45, q46, q47, q48, q49, q50, q51, q52, q53, q54, q55, q56, q57, q58, q59, q61, q62, q63, q64, q66, q67, q68, q69, q70, q71, q91, q93, q99, q100, q102, q104, q107, q108, q112, q114, q115, q119, q121, q124, q160, q200, q255, q640, q999, q1000, q2000, q4096, n_of, nI_ltI, nI_leI, nI_eq, nI_clamp, nI_add, pk_mul, n_sub, m1_eq, m1_eq2, m1_lt, m1_lt2, gdN, Nat.not_lt_zero, false_or, if_true, if_false, if_pos, if_neg, cond_true, cond_false, beq_self, and_self, true_and, and_true, not_true_eq_false, not_false_eq_true, ne_eq]
  refine wI_mono (L_breath (d := d + 1) (K := fun v v' s2 => v = v' ∧ ∃ c g, REL c g s2) h fun v s' h' => ⟨rfl, c, g, h'⟩) fun v s1 hk => ?_
  refine hA _ _ _ _ fun ha1 => ?_
  refine x_K_706 hX (nI i) v5 v6 v s1 ?_
  rw [ha1 1008 (by omega), ha1 1000 (by omega), h8]
  simp (disch := omega) only [↓n_m1, ↓n_hid, q0, q1, q2, q3, q4, q5, q6, q7, q8, q9, q10, q11, q12, q13, q14, q15, q16, q17, q18, q19, q20, q21, q22, q23, q24, q25, q26, q27, q28, q29, q30, q31, q32, q33, q34, q35, q36, q37, q38, q39, q40, q41, q42, q43, q44, q45, q46, q47, q48, q49, q50, q51, q52, q53, q54, q55, q56, q57, q58, q59, q61, q62, q63, q64, q66, q67, q68, q69, q70, q71, q91, q93, q99, q100, q102, q104, q107, q108, q112, q114, q115, q119, q121, q124, q160, q200, q255, q640, q999, q1000, q2000, q4096, n_of, nI_ltI, nI_leI, nI_eq, nI_clamp, nI_add, pk_mul, n_sub, m1_eq, m1_eq2, m1_lt, m1_lt2, gdN, Nat.not_lt_zero, false_or, if_true, if_false, if_pos, if_neg, cond_true, cond_false, beq_self, and_self, true_and, and_true, not_true_eq_false, not_false_eq_true, ne_eq]
  exact wI_mono hk fun v' s2 ⟨e, c', g', h'⟩ => by rw [if_pos e]; exact hn c' g' s2 v5 v6 h'
theorem k_strongest (hL : LX d X s0 n) (h : REL c g s) (hi : i + 6 ≤ n) (hn : ∀ c' g' s' v5 v6, REL c' g' s' → X 1247 (lcs i v5 v6) [] s') (v5 v6 : Value) : X 721 (lcs i v5 v6) [] s := by
  obtain ⟨hX, hA, h8, h3⟩ := hL
  refine hA _ _ _ _ fun ha => ?_
  refine x_K_721 hX (nI i) v5 v6 s ?_
  rw [ha 1008 (by omega), ha 1000 (by omega), h8]
  simp (disch := omega) only [↓n_m1, ↓n_hid, q0, q1, q2, q3, q4, q5, q6, q7, q8, q9, q10, q11, q12, q13, q14, q15, q16, q17, q18, q19, q20, q21, q22, q23, q24, q25, q26, q27, q28, q29, q30, q31, q32, q33, q34, q35, q36, q37, q38, q39, q40, q41, q42, q43, q44, q45, q46, q47, q48, q49, q50, q51, q52, q53, q54, q55, q56, q57, q58, q59, q61, q62, q63, q64, q66, q67, q68, q69, q70, q71, q91, q93, q99, q100, q102, q104, q107, q108, q112, q114, q115, q119, q121, q124, q160, q200, q255, q640, q999, q1000, q2000, q4096, n_of, nI_ltI, nI_leI, nI_eq, nI_clamp, nI_add, pk_mul, n_sub, m1_eq, m1_eq2, m1_lt, m1_lt2, gdN, Nat.not_lt_zero, false_or, if_true, if_false, if_pos, if_neg, cond_true, cond_false, beq_self, and_self, true_and, and_true, not_true_eq_false, not_false_eq_true, ne_eq]
  refine wI_mono (L_strongest (d := d + 1) (K := fun v v' s2 => v = v' ∧ ∃ c g, REL c g s2) h fun v s' h' => ⟨rfl, c, g, h'⟩) fun v s1 hk => ?_
  refine hA _ _ _ _ fun ha1 => ?_
  refine x_K_731 hX (nI i) v5 v6 v s1 ?_
  rw [ha1 1008 (by omega), ha1 1000 (by omega), h8]
  simp (disch := omega) only [↓n_m1, ↓n_hid, q0, q1, q2, q3, q4, q5, q6, q7, q8, q9, q10, q11, q12, q13, q14, q15, q16, q17, q18, q19, q20, q21, q22, q23, q24, q25, q26, q27, q28, q29, q30, q31, q32, q33, q34, q35, q36, q37, q38, q39, q40, q41, q42, q43, q44, q45, q46, q47, q48, q49, q50, q51, q52, q53, q54, q55, q56, q57, q58, q59, q61, q62, q63, q64, q66, q67, q68, q69, q70, q71, q91, q93, q99, q100, q102, q104, q107, q108, q112, q114, q115, q119, q121, q124, q160, q200, q255, q640, q999, q1000, q2000, q4096, n_of, nI_ltI, nI_leI, nI_eq, nI_clamp, nI_add, pk_mul, n_sub, m1_eq, m1_eq2, m1_lt, m1_lt2, gdN, Nat.not_lt_zero, false_or, if_true, if_false, if_pos, if_neg, cond_true, cond_false, beq_self, and_self, true_and, and_true, not_true_eq_false, not_false_eq_true, ne_eq]
  exact wI_mono hk fun v' s2 ⟨e, c', g', h'⟩ => by rw [if_pos e]; exact hn c' g' s2 v5 v6 h'
theorem k_trail (hL : LX d X s0 n) (h : REL c g s) (hi : i + 6 ≤ n) (hn : ∀ c' g' s' v5 v6, REL c' g' s' → X 1247 (lcs i v5 v6) [] s') (v5 v6 : Value) : X 746 (lcs i v5 v6) [] s := by
  obtain ⟨hX, hA, h8, h3⟩ := hL
  refine hA _ _ _ _ fun ha => ?_
  refine x_K_746 hX (nI i) v5 v6 s ?_
  rw [ha 1008 (by omega), ha 1000 (by omega), h8]
  simp (disch := omega) only [↓n_m1, ↓n_hid, q0, q1, q2, q3, q4, q5, q6, q7, q8, q9, q10, q11, q12, q13, q14, q15, q16, q17, q18, q19, q20, q21, q22, q23, q24, q25, q26, q27, q28, q29, q30, q31, q32, q33, q34, q35, q36, q37, q38, q39, q40, q41, q42, q43, q44, q45, q46, q47, q48, q49, q50, q51, q52, q53, q54, q55, q56, q57, q58, q59, q61, q62, q63, q64, q66, q67, q68, q69, q70, q71, q91, q93, q99, q100, q102, q104, q107, q108, q112, q114, q115, q119, q121, q124, q160, q200, q255, q640, q999, q1000, q2000, q4096, n_of, nI_ltI, nI_leI, nI_eq, nI_clamp, nI_add, pk_mul, n_sub, m1_eq, m1_eq2, m1_lt, m1_lt2, gdN, Nat.not_lt_zero, false_or, if_true, if_false, if_pos, if_neg, cond_true, cond_false, beq_self, and_self, true_and, and_true, not_true_eq_false, not_false_eq_true, ne_eq]
  refine wI_mono (L_trail (d := d + 1) (K := fun v v' s2 => v = v' ∧ ∃ c g, REL c g s2) h fun v s' h' => ⟨rfl, c, g, h'⟩) fun v s1 hk => ?_
  refine hA _ _ _ _ fun ha1 => ?_
  refine x_K_762 hX (nI i) v5 v6 v s1 ?_
  rw [ha1 1008 (by omega), ha1 1000 (by omega), h8]
  simp (disch := omega) only [↓n_m1, ↓n_hid, q0, q1, q2, q3, q4, q5, q6, q7, q8, q9, q10, q11, q12, q13, q14, q15, q16, q17, q18, q19, q20, q21, q22, q23, q24, q25, q26, q27, q28, q29, q30, q31, q32, q33, q34, q35, q36, q37, q38, q39, q40, q41, q42, q43, q44, q45, q46, q47, q48, q49, q50, q51, q52, q53, q54, q55, q56, q57, q58, q59, q61, q62, q63, q64, q66, q67, q68, q69, q70, q71, q91, q93, q99, q100, q102, q104, q107, q108, q112, q114, q115, q119, q121, q124, q160, q200, q255, q640, q999, q1000, q2000, q4096, n_of, nI_ltI, nI_leI, nI_eq, nI_clamp, nI_add, pk_mul, n_sub, m1_eq, m1_eq2, m1_lt, m1_lt2, gdN, Nat.not_lt_zero, false_or, if_true, if_false, if_pos, if_neg, cond_true, cond_false, beq_self, and_self, true_and, and_true, not_true_eq_false, not_false_eq_true, ne_eq]
  exact wI_mono hk fun v' s2 ⟨e, c', g', h'⟩ => by rw [if_pos e]; exact hn c' g' s2 v5 v6 h'
theorem k_wipe (hL : LX d X s0 n) (h : REL c g s) (hi : i + 6 ≤ n) (hn : ∀ c' g' s' v5 v6, REL c' g' s' → X 1247 (lcs i v5 v6) [] s') (v5 v6 : Value) : X 783 (lcs i v5 v6) [] s := by
  obtain ⟨hX, hA, h8, h3⟩ := hL
  refine hA _ _ _ _ fun ha => ?_
  refine x_K_783 hX (nI i) v5 v6 s ?_
  refine wI_mono (L_wipe (d := d + 1) (K := fun v v' s2 => v = v' ∧ ∃ c g, REL c g s2) h fun v s' h' => ⟨rfl, c, g, h'⟩) fun v s1 hk => ?_
  refine hA _ _ _ _ fun ha1 => ?_
  refine x_K_787 hX (nI i) v5 v6 v s1 ?_
  exact wI_mono hk fun v' s2 ⟨e, c', g', h'⟩ => by rw [if_pos e]; exact hn c' g' s2 v5 v6 h'
theorem k_where (hL : LX d X s0 n) (h : REL c g s) (hi : i + 6 ≤ n) (hn : ∀ c' g' s' v5 v6, REL c' g' s' → X 1247 (lcs i v5 v6) [] s') (v5 v6 : Value) : X 796 (lcs i v5 v6) [] s := by
  obtain ⟨hX, hA, h8, h3⟩ := hL
  refine hA _ _ _ _ fun ha => ?_
  refine x_K_796 hX (nI i) v5 v6 s ?_
  rw [ha 1008 (by omega), ha 1000 (by omega), h8]
  simp (disch := omega) only [↓n_m1, ↓n_hid, q0, q1, q2, q3, q4, q5, q6, q7, q8, q9, q10, q11, q12, q13, q14, q15, q16, q17, q18, q19, q20, q21, q22, q23, q24, q25, q26, q27, q28, q29, q30, q31, q32, q33, q34, q35, q36, q37, q38, q39, q40, q41, q42, q43, q44, q45, q46, q47, q48, q49, q50, q51, q52, q53, q54, q55, q56, q57, q58, q59, q61, q62, q63, q64, q66, q67, q68, q69, q70, q71, q91, q93, q99, q100, q102, q104, q107, q108, q112, q114, q115, q119, q121, q124, q160, q200, q255, q640, q999, q1000, q2000, q4096, n_of, nI_ltI, nI_leI, nI_eq, nI_clamp, nI_add, pk_mul, n_sub, m1_eq, m1_eq2, m1_lt, m1_lt2, gdN, Nat.not_lt_zero, false_or, if_true, if_false, if_pos, if_neg, cond_true, cond_false, beq_self, and_self, true_and, and_true, not_true_eq_false, not_false_eq_true, ne_eq]
  refine wI_mono (L_where (d := d + 1) (K := fun v v' s2 => v = v' ∧ ∃ c g, REL c g s2) h fun v s' h' => ⟨rfl, c, g, h'⟩) fun v s1 hk => ?_
  refine hA _ _ _ _ fun ha1 => ?_
  refine x_K_806 hX (nI i) v5 v6 v s1 ?_
  rw [ha1 1008 (by omega), ha1 1000 (by omega), h8]
  simp (disch := omega) only [↓n_m1, ↓n_hid, q0, q1, q2, q3, q4, q5, q6, q7, q8, q9, q10, q11, q12, q13, q14, q15, q16, q17, q18, q19, q20, q21, q22, q23, q24, q25, q26, q27, q28, q29, q30, q31, q32, q33, q34, q35, q36, q37, q38, q39, q40, q41, q42, q43, q44, q45, q46, q47, q48, q49, q50, q51, q52, q53, q54, q55, q56, q57, q58, q59, q61, q62, q63, q64, q66, q67, q68, q69, q70, q71, q91, q93, q99, q100, q102, q104, q107, q108, q112, q114, q115, q119, q121, q124, q160, q200, q255, q640, q999, q1000, q2000, q4096, n_of, nI_ltI, nI_leI, nI_eq, nI_clamp, nI_add, pk_mul, n_sub, m1_eq, m1_eq2, m1_lt, m1_lt2, gdN, Nat.not_lt_zero, false_or, if_true, if_false, if_pos, if_neg, cond_true, cond_false, beq_self, and_self, true_and, and_true, not_true_eq_false, not_false_eq_true, ne_eq]
  exact wI_mono hk fun v' s2 ⟨e, c', g', h'⟩ => by rw [if_pos e]; exact hn c' g' s2 v5 v6 h'
theorem k_door (hL : LX d X s0 n) (h : REL c g s) (hi : i + 6 ≤ n) (hn : ∀ c' g' s' v5 v6, REL c' g' s' → X 1247 (lcs i v5 v6) [] s') (v5 v6 : Value) : X 821 (lcs i v5 v6) [] s := by
  obtain ⟨hX, hA, h8, h3⟩ := hL
  refine hA _ _ _ _ fun ha => ?_
  refine x_K_821 hX (nI i) v5 v6 s ?_
  rw [ha 1008 (by omega), ha 1000 (by omega), h8]
  simp (disch := omega) only [↓n_m1, ↓n_hid, q0, q1, q2, q3, q4, q5, q6, q7, q8, q9, q10, q11, q12, q13, q14, q15, q16, q17, q18, q19, q20, q21, q22, q23, q24, q25, q26, q27, q28, q29, q30, q31, q32, q33, q34, q35, q36, q37, q38, q39, q40, q41, q42, q43, q44, q45, q46, q47, q48, q49, q50, q51, q52, q53, q54, q55, q56, q57, q58, q59, q61, q62, q63, q64, q66, q67, q68, q69, q70, q71, q91, q93, q99, q100, q102, q104, q107, q108, q112, q114, q115, q119, q121, q124, q160, q200, q255, q640, q999, q1000, q2000, q4096, n_of, nI_ltI, nI_leI, nI_eq, nI_clamp, nI_add, pk_mul, n_sub, m1_eq, m1_eq2, m1_lt, m1_lt2, gdN, Nat.not_lt_zero, false_or, if_true, if_false, if_pos, if_neg, cond_true, cond_false, beq_self, and_self, true_and, and_true, not_true_eq_false, not_false_eq_true, ne_eq]
  refine wI_mono (L_door (d := d + 1) (K := fun v v' s2 => v = v' ∧ ∃ c g, REL c g s2) h fun v s' h' => ⟨rfl, c, g, h'⟩) fun v s1 hk => ?_
  refine hA _ _ _ _ fun ha1 => ?_
  refine x_K_831 hX (nI i) v5 v6 v s1 ?_
  rw [ha1 1008 (by omega), ha1 1000 (by omega), h8]
  simp (disch := omega) only [↓n_m1, ↓n_hid, q0, q1, q2, q3, q4, q5, q6, q7, q8, q9, q10, q11, q12, q13, q14, q15, q16, q17, q18, q19, q20, q21, q22, q23, q24, q25, q26, q27, q28, q29, q30, q31, q32, q33, q34, q35, q36, q37, q38, q39, q40, q41, q42, q43, q44, q45, q46, q47, q48, q49, q50, q51, q52, q53, q54, q55, q56, q57, q58, q59, q61, q62, q63, q64, q66, q67, q68, q69, q70, q71, q91, q93, q99, q100, q102, q104, q107, q108, q112, q114, q115, q119, q121, q124, q160, q200, q255, q640, q999, q1000, q2000, q4096, n_of, nI_ltI, nI_leI, nI_eq, nI_clamp, nI_add, pk_mul, n_sub, m1_eq, m1_eq2, m1_lt, m1_lt2, gdN, Nat.not_lt_zero, false_or, if_true, if_false, if_pos, if_neg, cond_true, cond_false, beq_self, and_self, true_and, and_true, not_true_eq_false, not_false_eq_true, ne_eq]
  exact wI_mono hk fun v' s2 ⟨e, c', g', h'⟩ => by rw [if_pos e]; exact hn c' g' s2 v5 v6 h'
theorem k_most (hL : LX d X s0 n) (h : REL c g s) (hi : i + 6 ≤ n) (hn : ∀ c' g' s' v5 v6, REL c' g' s' → X 1247 (lcs i v5 v6) [] s') (v5 v6 : Value) : X 846 (lcs i v5 v6) [] s := by
  obtain ⟨hX, hA, h8, h3⟩ := hL
  refine hA _ _ _ _ fun ha => ?_
  refine x_K_846 hX (nI i) v5 v6 s ?_
  rw [ha 1008 (by omega), ha 1000 (by omega), h8]
  simp (disch := omega) only [↓n_m1, ↓n_hid, q0, q1, q2, q3, q4, q5, q6, q7, q8, q9, q10, q11, q12, q13, q14, q15, q16, q17, q18, q19, q20, q21, q22, q23, q24, q25, q26, q27, q28, q29, q30, q31, q32, q33, q34, q35, q36, q37, q38, q39, q40, q41, q42, q43, q44, q45, q46, q47, q48, q49, q50, q51, q52, q53, q54, q55, q56, q57, q58, q59, q61, q62, q63, q64, q66, q67, q68, q69, q70, q71, q91, q93, q99, q100, q102, q104, q107, q108, q112, q114, q115, q119, q121, q124, q160, q200, q255, q640, q999, q1000, q2000, q4096, n_of, nI_ltI, nI_leI, nI_eq, nI_clamp, nI_add, pk_mul, n_sub, m1_eq, m1_eq2, m1_lt, m1_lt2, gdN, Nat.not_lt_zero, false_or, if_true, if_false, if_pos, if_neg, cond_true, cond_false, beq_self, and_self, true_and, and_true, not_true_eq_false, not_false_eq_true, ne_eq]
  refine wI_mono (L_most (d := d + 1) (K := fun v v' s2 => v = v' ∧ ∃ c g, REL c g s2) h fun v s' h' => ⟨rfl, c, g, h'⟩) fun v s1 hk => ?_
  refine hA _ _ _ _ fun ha1 => ?_
  refine x_K_856 hX (nI i) v5 v6 v s1 ?_
  rw [ha1 1008 (by omega), ha1 1000 (by omega), h8]
  simp (disch := omega) only [↓n_m1, ↓n_hid, q0, q1, q2, q3, q4, q5, q6, q7, q8, q9, q10, q11, q12, q13, q14, q15, q16, q17, q18, q19, q20, q21, q22, q23, q24, q25, q26, q27, q28, q29, q30, q31, q32, q33, q34, q35, q36, q37, q38, q39, q40, q41, q42, q43, q44, q45, q46, q47, q48, q49, q50, q51, q52, q53, q54, q55, q56, q57, q58, q59, q61, q62, q63, q64, q66, q67, q68, q69, q70, q71, q91, q93, q99, q100, q102, q104, q107, q108, q112, q114, q115, q119, q121, q124, q160, q200, q255, q640, q999, q1000, q2000, q4096, n_of, nI_ltI, nI_leI, nI_eq, nI_clamp, nI_add, pk_mul, n_sub, m1_eq, m1_eq2, m1_lt, m1_lt2, gdN, Nat.not_lt_zero, false_or, if_true, if_false, if_pos, if_neg, cond_true, cond_false, beq_self, and_self, true_and, and_true, not_true_eq_false, not_false_eq_true, ne_eq]
  exact wI_mono hk fun v' s2 ⟨e, c', g', h'⟩ => by rw [if_pos e]; exact hn c' g' s2 v5 v6 h'
theorem k_silent (hL : LX d X s0 n) (h : REL c g s) (hi : i + 6 ≤ n) (hn : ∀ c' g' s' v5 v6, REL c' g' s' → X 1247 (lcs i v5 v6) [] s') (v5 v6 : Value) : X 871 (lcs i v5 v6) [] s := by
  obtain ⟨hX, hA, h8, h3⟩ := hL
  refine hA _ _ _ _ fun ha => ?_
  refine x_K_871 hX (nI i) v5 v6 s ?_
  refine wI_mono (L_silent (d := d + 1) (K := fun v v' s2 => v = v' ∧ ∃ c g, REL c g s2) h fun v s' h' => ⟨rfl, c, g, h'⟩) fun v s1 hk => ?_
  refine hA _ _ _ _ fun ha1 => ?_
  refine x_K_875 hX (nI i) v5 v6 v s1 ?_
  exact wI_mono hk fun v' s2 ⟨e, c', g', h'⟩ => by rw [if_pos e]; exact hn c' g' s2 v5 v6 h'
theorem k_unlike (hL : LX d X s0 n) (h : REL c g s) (hi : i + 6 ≤ n) (hn : ∀ c' g' s' v5 v6, REL c' g' s' → X 1247 (lcs i v5 v6) [] s') (v5 v6 : Value) : X 884 (lcs i v5 v6) [] s := by
  obtain ⟨hX, hA, h8, h3⟩ := hL
  refine hA _ _ _ _ fun ha => ?_
  refine x_K_884 hX (nI i) v5 v6 s ?_
  rw [ha 1008 (by omega), ha 1000 (by omega), h8]
  simp (disch := omega) only [↓n_m1, ↓n_hid, q0, q1, q2, q3, q4, q5, q6, q7, q8, q9, q10, q11, q12, q13, q14, q15, q16, q17, q18, q19, q20, q21, q22, q23, q24, q25, q26, q27, q28, q29, q30, q31, q32, q33, q34, q35, q36, q37, q38, q39, q40, q41, q42, q43, q44, q45, q46, q47, q48, q49, q50, q51, q52, q53, q54, q55, q56, q57, q58, q59, q61, q62, q63, q64, q66, q67, q68, q69, q70, q71, q91, q93, q99, q100, q102, q104, q107, q108, q112, q114, q115, q119, q121, q124, q160, q200, q255, q640, q999, q1000, q2000, q4096, n_of, nI_ltI, nI_leI, nI_eq, nI_clamp, nI_add, pk_mul, n_sub, m1_eq, m1_eq2, m1_lt, m1_lt2, gdN, Nat.not_lt_zero, false_or, if_true, if_false, if_pos, if_neg, cond_true, cond_false, beq_self, and_self, true_and, and_true, not_true_eq_false, not_false_eq_true, ne_eq]
  refine wI_mono (L_unlike (d := d + 1) (K := fun v v' s2 => v = v' ∧ ∃ c g, REL c g s2) h fun v s' h' => ⟨rfl, c, g, h'⟩) fun v s1 hk => ?_
  refine hA _ _ _ _ fun ha1 => ?_
  refine x_K_900 hX (nI i) v5 v6 v s1 ?_
  rw [ha1 1008 (by omega), ha1 1000 (by omega), h8]
  simp (disch := omega) only [↓n_m1, ↓n_hid, q0, q1, q2, q3, q4, q5, q6, q7, q8, q9, q10, q11, q12, q13, q14, q15, q16, q17, q18, q19, q20, q21, q22, q23, q24, q25, q26, q27, q28, q29, q30, q31, q32, q33, q34, q35, q36, q37, q38, q39, q40, q41, q42, q43, q44, q45, q46, q47, q48, q49, q50, q51, q52, q53, q54, q55, q56, q57, q58, q59, q61, q62, q63, q64, q66, q67, q68, q69, q70, q71, q91, q93, q99, q100, q102, q104, q107, q108, q112, q114, q115, q119, q121, q124, q160, q200, q255, q640, q999, q1000, q2000, q4096, n_of, nI_ltI, nI_leI, nI_eq, nI_clamp, nI_add, pk_mul, n_sub, m1_eq, m1_eq2, m1_lt, m1_lt2, gdN, Nat.not_lt_zero, false_or, if_true, if_false, if_pos, if_neg, cond_true, cond_false, beq_self, and_self, true_and, and_true, not_true_eq_false, not_false_eq_true, ne_eq]
  exact wI_mono hk fun v' s2 ⟨e, c', g', h'⟩ => by rw [if_pos e]; exact hn c' g' s2 v5 v6 h'
theorem k_forged (hL : LX d X s0 n) (h : REL c g s) (hi : i + 6 ≤ n) (hn : ∀ c' g' s' v5 v6, REL c' g' s' → X 1247 (lcs i v5 v6) [] s') (v5 v6 : Value) : X 921 (lcs i v5 v6) [] s := by
  obtain ⟨hX, hA, h8, h3⟩ := hL
  refine hA _ _ _ _ fun ha => ?_
  refine x_K_921 hX (nI i) v5 v6 s ?_
  rw [ha 1008 (by omega), ha 1000 (by omega), h8]
  simp (disch := omega) only [↓n_m1, ↓n_hid, q0, q1, q2, q3, q4, q5, q6, q7, q8, q9, q10, q11, q12, q13, q14, q15, q16, q17, q18, q19, q20, q21, q22, q23, q24, q25, q26, q27, q28, q29, q30, q31, q32, q33, q34, q35, q36, q37, q38, q39, q40, q41, q42, q43, q44, q45, q46, q47, q48, q49, q50, q51, q52, q53, q54, q55, q56, q57, q58, q59, q61, q62, q63, q64, q66, q67, q68, q69, q70, q71, q91, q93, q99, q100, q102, q104, q107, q108, q112, q114, q115, q119, q121, q124, q160, q200, q255, q640, q999, q1000, q2000, q4096, n_of, nI_ltI, nI_leI, nI_eq, nI_clamp, nI_add, pk_mul, n_sub, m1_eq, m1_eq2, m1_lt, m1_lt2, gdN, Nat.not_lt_zero, false_or, if_true, if_false, if_pos, if_neg, cond_true, cond_false, beq_self, and_self, true_and, and_true, not_true_eq_false, not_false_eq_true, ne_eq]
  refine wI_mono (L_forged (d := d + 1) (K := fun v v' s2 => v = v' ∧ ∃ c g, REL c g s2) h fun v s' h' => ⟨rfl, c, g, h'⟩) fun v s1 hk => ?_
  refine hA _ _ _ _ fun ha1 => ?_
  refine x_K_937 hX (nI i) v5 v6 v s1 ?_
  rw [ha1 1008 (by omega), ha1 1000 (by omega), h8]
  simp (disch := omega) only [↓n_m1, ↓n_hid, q0, q1, q2, q3, q4, q5, q6, q7, q8, q9, q10, q11, q12, q13, q14, q15, q16, q17, q18, q19, q20, q21, q22, q23, q24, q25, q26, q27, q28, q29, q30, q31, q32, q33, q34, q35, q36, q37, q38, q39, q40, q41, q42, q43, q44, q45, q46, q47, q48, q49, q50, q51, q52, q53, q54, q55, q56, q57, q58, q59, q61, q62, q63, q64, q66, q67, q68, q69, q70, q71, q91, q93, q99, q100, q102, q104, q107, q108, q112, q114, q115, q119, q121, q124, q160, q200, q255, q640, q999, q1000, q2000, q4096, n_of, nI_ltI, nI_leI, nI_eq, nI_clamp, nI_add, pk_mul, n_sub, m1_eq, m1_eq2, m1_lt, m1_lt2, gdN, Nat.not_lt_zero, false_or, if_true, if_false, if_pos, if_neg, cond_true, cond_false, beq_self, and_self, true_and, and_true, not_true_eq_false, not_false_eq_true, ne_eq]
  exact wI_mono hk fun v' s2 ⟨e, c', g', h'⟩ => by rw [if_pos e]; exact hn c' g' s2 v5 v6 h'
theorem k_follow (hL : LX d X s0 n) (h : REL c g s) (hi : i + 6 ≤ n) (hn : ∀ c' g' s' v5 v6, REL c' g' s' → X 1247 (lcs i v5 v6) [] s') (v5 v6 : Value) : X 958 (lcs i v5 v6) [] s := by
  obtain ⟨hX, hA, h8, h3⟩ := hL
  refine hA _ _ _ _ fun ha => ?_
  refine x_K_958 hX (nI i) v5 v6 s ?_
  rw [ha 1008 (by omega), ha 1000 (by omega), h8]
  simp (disch := omega) only [↓n_m1, ↓n_hid, q0, q1, q2, q3, q4, q5, q6, q7, q8, q9, q10, q11, q12, q13, q14, q15, q16, q17, q18, q19, q20, q21, q22, q23, q24, q25, q26, q27, q28, q29, q30, q31, q32, q33, q34, q35, q36, q37, q38, q39, q40, q41, q42, q43, q44, q45, q46, q47, q48, q49, q50, q51, q52, q53, q54, q55, q56, q57, q58, q59, q61, q62, q63, q64, q66, q67, q68, q69, q70, q71, q91, q93, q99, q100, q102, q104, q107, q108, q112, q114, q115, q119, q121, q124, q160, q200, q255, q640, q999, q1000, q2000, q4096, n_of, nI_ltI, nI_leI, nI_eq, nI_clamp, nI_add, pk_mul, n_sub, m1_eq, m1_eq2, m1_lt, m1_lt2, gdN, Nat.not_lt_zero, false_or, if_true, if_false, if_pos, if_neg, cond_true, cond_false, beq_self, and_self, true_and, and_true, not_true_eq_false, not_false_eq_true, ne_eq]
  refine wI_mono (L_follow (d := d + 1) (K := fun v v' s2 => v = v' ∧ ∃ c g, REL c g s2) h fun v s' h' => ⟨rfl, c, g, h'⟩) fun v s1 hk => ?_
  refine hA _ _ _ _ fun ha1 => ?_
  refine x_K_980 hX (nI i) v5 v6 v s1 ?_
  rw [ha1 1008 (by omega), ha1 1000 (by omega), h8]
  simp (disch := omega) only [↓n_m1, ↓n_hid, q0, q1, q2, q3, q4, q5, q6, q7, q8, q9, q10, q11, q12, q13, q14, q15, q16, q17, q18, q19, q20, q21, q22, q23, q24, q25, q26, q27, q28, q29, q30, q31, q32, q33, q34, q35, q36, q37, q38, q39, q40, q41, q42, q43, q44, q45, q46, q47, q48, q49, q50, q51, q52, q53, q54, q55, q56, q57, q58, q59, q61, q62, q63, q64, q66, q67, q68, q69, q70, q71, q91, q93, q99, q100, q102, q104, q107, q108, q112, q114, q115, q119, q121, q124, q160, q200, q255, q640, q999, q1000, q2000, q4096, n_of, nI_ltI, nI_leI, nI_eq, nI_clamp, nI_add, pk_mul, n_sub, m1_eq, m1_eq2, m1_lt, m1_lt2, gdN, Nat.not_lt_zero, false_or, if_true, if_false, if_pos, if_neg, cond_true, cond_false, beq_self, and_self, true_and, and_true, not_true_eq_false, not_false_eq_true, ne_eq]
  exact wI_mono hk fun v' s2 ⟨e, c', g', h'⟩ => by rw [if_pos e]; exact hn c' g' s2 v5 v6 h'
theorem k_led (hL : LX d X s0 n) (h : REL c g s) (hi : i + 6 ≤ n) (hn : ∀ c' g' s' v5 v6, REL c' g' s' → X 1247 (lcs i v5 v6) [] s') (v5 v6 : Value) : X 1007 (lcs i v5 v6) [] s := by
  obtain ⟨hX, hA, h8, h3⟩ := hL
  refine hA _ _ _ _ fun ha => ?_
  refine x_K_1007 hX (nI i) v5 v6 s ?_
  rw [ha 1008 (by omega), ha 1000 (by omega), h8]
  simp (disch := omega) only [↓n_m1, ↓n_hid, q0, q1, q2, q3, q4, q5, q6, q7, q8, q9, q10, q11, q12, q13, q14, q15, q16, q17, q18, q19, q20, q21, q22, q23, q24, q25, q26, q27, q28, q29, q30, q31, q32, q33, q34, q35, q36, q37, q38, q39, q40, q41, q42, q43, q44, q45, q46, q47, q48, q49, q50, q51, q52, q53, q54, q55, q56, q57, q58, q59, q61, q62, q63, q64, q66, q67, q68, q69, q70, q71, q91, q93, q99, q100, q102, q104, q107, q108, q112, q114, q115, q119, q121, q124, q160, q200, q255, q640, q999, q1000, q2000, q4096, n_of, nI_ltI, nI_leI, nI_eq, nI_clamp, nI_add, pk_mul, n_sub, m1_eq, m1_eq2, m1_lt, m1_lt2, gdN, Nat.not_lt_zero, false_or, if_true, if_false, if_pos, if_neg, cond_true, cond_false, beq_self, and_self, true_and, and_true, not_true_eq_false, not_false_eq_true, ne_eq]
  refine wI_mono (L_led (d := d + 1) (K := fun v v' s2 => v = v' ∧ ∃ c g, REL c g s2) h fun v s' h' => ⟨rfl, c, g, h'⟩) fun v s1 hk => ?_
  refine hA _ _ _ _ fun ha1 => ?_
  refine x_K_1017 hX (nI i) v5 v6 v s1 ?_
  rw [ha1 1008 (by omega), ha1 1000 (by omega), h8]
  simp (disch := omega) only [↓n_m1, ↓n_hid, q0, q1, q2, q3, q4, q5, q6, q7, q8, q9, q10, q11, q12, q13, q14, q15, q16, q17, q18, q19, q20, q21, q22, q23, q24, q25, q26, q27, q28, q29, q30, q31, q32, q33, q34, q35, q36, q37, q38, q39, q40, q41, q42, q43, q44, q45, q46, q47, q48, q49, q50, q51, q52, q53, q54, q55, q56, q57, q58, q59, q61, q62, q63, q64, q66, q67, q68, q69, q70, q71, q91, q93, q99, q100, q102, q104, q107, q108, q112, q114, q115, q119, q121, q124, q160, q200, q255, q640, q999, q1000, q2000, q4096, n_of, nI_ltI, nI_leI, nI_eq, nI_clamp, nI_add, pk_mul, n_sub, m1_eq, m1_eq2, m1_lt, m1_lt2, gdN, Nat.not_lt_zero, false_or, if_true, if_false, if_pos, if_neg, cond_true, cond_false, beq_self, and_self, true_and, and_true, not_true_eq_false, not_false_eq_true, ne_eq]
  exact wI_mono hk fun v' s2 ⟨e, c', g', h'⟩ => by rw [if_pos e]; exact hn c' g' s2 v5 v6 h'
theorem k_sure (hL : LX d X s0 n) (h : REL c g s) (hi : i + 6 ≤ n) (hn : ∀ c' g' s' v5 v6, REL c' g' s' → X 1247 (lcs i v5 v6) [] s') (v5 v6 : Value) : X 1032 (lcs i v5 v6) [] s := by
  obtain ⟨hX, hA, h8, h3⟩ := hL
  refine hA _ _ _ _ fun ha => ?_
  refine x_K_1032 hX (nI i) v5 v6 s ?_
  rw [ha 1008 (by omega), ha 1000 (by omega), h8]
  simp (disch := omega) only [↓n_m1, ↓n_hid, q0, q1, q2, q3, q4, q5, q6, q7, q8, q9, q10, q11, q12, q13, q14, q15, q16, q17, q18, q19, q20, q21, q22, q23, q24, q25, q26, q27, q28, q29, q30, q31, q32, q33, q34, q35, q36, q37, q38, q39, q40, q41, q42, q43, q44, q45, q46, q47, q48, q49, q50, q51, q52, q53, q54, q55, q56, q57, q58, q59, q61, q62, q63, q64, q66, q67, q68, q69, q70, q71, q91, q93, q99, q100, q102, q104, q107, q108, q112, q114, q115, q119, q121, q124, q160, q200, q255, q640, q999, q1000, q2000, q4096, n_of, nI_ltI, nI_leI, nI_eq, nI_clamp, nI_add, pk_mul, n_sub, m1_eq, m1_eq2, m1_lt, m1_lt2, gdN, Nat.not_lt_zero, false_or, if_true, if_false, if_pos, if_neg, cond_true, cond_false, beq_self, and_self, true_and, and_true, not_true_eq_false, not_false_eq_true, ne_eq]
  refine wI_mono (L_sure (d := d + 1) (K := fun v v' s2 => v = v' ∧ ∃ c g, REL c g s2) h fun v s' h' => ⟨rfl, c, g, h'⟩) fun v s1 hk => ?_
  refine hA _ _ _ _ fun ha1 => ?_
  refine x_K_1048 hX (nI i) v5 v6 v s1 ?_
  rw [ha1 1008 (by omega), ha1 1000 (by omega), h8]
  simp (disch := omega) only [↓n_m1, ↓n_hid, q0, q1, q2, q3, q4, q5, q6, q7, q8, q9, q10, q11, q12, q13, q14, q15, q16, q17, q18, q19, q20, q21, q22, q23, q24, q25, q26, q27, q28, q29, q30, q31, q32, q33, q34, q35, q36, q37, q38, q39, q40, q41, q42, q43, q44, q45, q46, q47, q48, q49, q50, q51, q52, q53, q54, q55, q56, q57, q58, q59, q61, q62, q63, q64, q66, q67, q68, q69, q70, q71, q91, q93, q99, q100, q102, q104, q107, q108, q112, q114, q115, q119, q121, q124, q160, q200, q255, q640, q999, q1000, q2000, q4096, n_of, nI_ltI, nI_leI, nI_eq, nI_clamp, nI_add, pk_mul, n_sub, m1_eq, m1_eq2, m1_lt, m1_lt2, gdN, Nat.not_lt_zero, false_or, if_true, if_false, if_pos, if_neg, cond_true, cond_false, beq_self, and_self, true_and, and_true, not_true_eq_false, not_false_eq_true, ne_eq]
  exact wI_mono hk fun v' s2 ⟨e, c', g', h'⟩ => by rw [if_pos e]; exact hn c' g' s2 v5 v6 h'
theorem k_note (hL : LX d X s0 n) (h : REL c g s) (hi : i + 6 ≤ n) (hn : ∀ c' g' s' v5 v6, REL c' g' s' → X 1247 (lcs i v5 v6) [] s') (v5 v6 : Value) : X 1069 (lcs i v5 v6) [] s := by
  obtain ⟨hX, hA, h8, h3⟩ := hL
  refine hA _ _ _ _ fun ha => ?_
  refine x_K_1069 hX (nI i) v5 v6 s ?_
  rw [ha 1008 (by omega), ha 1000 (by omega), h8]
  simp (disch := omega) only [↓n_m1, ↓n_hid, q0, q1, q2, q3, q4, q5, q6, q7, q8, q9, q10, q11, q12, q13, q14, q15, q16, q17, q18, q19, q20, q21, q22, q23, q24, q25, q26, q27, q28, q29, q30, q31, q32, q33, q34, q35, q36, q37, q38, q39, q40, q41, q42, q43, q44, q45, q46, q47, q48, q49, q50, q51, q52, q53, q54, q55, q56, q57, q58, q59, q61, q62, q63, q64, q66, q67, q68, q69, q70, q71, q91, q93, q99, q100, q102, q104, q107, q108, q112, q114, q115, q119, q121, q124, q160, q200, q255, q640, q999, q1000, q2000, q4096, n_of, nI_ltI, nI_leI, nI_eq, nI_clamp, nI_add, pk_mul, n_sub, m1_eq, m1_eq2, m1_lt, m1_lt2, gdN, Nat.not_lt_zero, false_or, if_true, if_false, if_pos, if_neg, cond_true, cond_false, beq_self, and_self, true_and, and_true, not_true_eq_false, not_false_eq_true, ne_eq]
  by_cases hz : s0 1000 (i + 4) = nI 0
  · rw [if_pos hz]
    refine wI_mono (L_note (d := d + 1) (b := false) (K := fun v v' s2 => v = v' ∧ ∃ c g, REL c g s2) h fun v s' h' => ⟨rfl, c, g, h'⟩) fun v s1 hk => ?_
    refine hA _ _ _ _ fun ha1 => ?_
    refine x_K_1105 hX (nI i) v5 v6 v s1 ?_
    rw [ha1 1008 (by omega), ha1 1000 (by omega), h8]
    simp (disch := omega) only [↓n_m1, ↓n_hid, q0, q1, q2, q3, q4, q5, q6, q7, q8, q9, q10, q11, q12, q13, q14, q15, q16, q17, q18, q19, q20, q21, q22, q23, q24, q25, q26, q27, q28, q29, q30, q31, q32, q33, q34, q35, q36, q37, q38, q39, q40, q41, q42, q43, q44, q45, q46, q47, q48, q49, q50, q51, q52, q53, q54, q55, q56, q57, q58, q59, q61, q62, q63, q64, q66, q67, q68, q69, q70, q71, q91, q93, q99, q100, q102, q104, q107, q108, q112, q114, q115, q119, q121, q124, q160, q200, q255, q640, q999, q1000, q2000, q4096, n_of, nI_ltI, nI_leI, nI_eq, nI_clamp, nI_add, pk_mul, n_sub, m1_eq, m1_eq2, m1_lt, m1_lt2, gdN, Nat.not_lt_zero, false_or, if_true, if_false, if_pos, if_neg, cond_true, cond_false, beq_self, and_self, true_and, and_true, not_true_eq_false, not_false_eq_true, ne_eq]
    exact wI_mono hk fun v' s2 ⟨e, c', g', h'⟩ => by rw [if_pos e]; exact hn c' g' s2 v5 v6 h'
  · rw [if_neg hz]
    refine wI_mono (L_note (d := d + 1) (b := true) (K := fun v v' s2 => v = v' ∧ ∃ c g, REL c g s2) h fun v s' h' => ⟨rfl, c, g, h'⟩) fun v s1 hk => ?_
    refine hA _ _ _ _ fun ha1 => ?_
    refine x_K_1105 hX (nI i) v5 v6 v s1 ?_
    rw [ha1 1008 (by omega), ha1 1000 (by omega), h8]
    simp (disch := omega) only [↓n_m1, ↓n_hid, q0, q1, q2, q3, q4, q5, q6, q7, q8, q9, q10, q11, q12, q13, q14, q15, q16, q17, q18, q19, q20, q21, q22, q23, q24, q25, q26, q27, q28, q29, q30, q31, q32, q33, q34, q35, q36, q37, q38, q39, q40, q41, q42, q43, q44, q45, q46, q47, q48, q49, q50, q51, q52, q53, q54, q55, q56, q57, q58, q59, q61, q62, q63, q64, q66, q67, q68, q69, q70, q71, q91, q93, q99, q100, q102, q104, q107, q108, q112, q114, q115, q119, q121, q124, q160, q200, q255, q640, q999, q1000, q2000, q4096, n_of, nI_ltI, nI_leI, nI_eq, nI_clamp, nI_add, pk_mul, n_sub, m1_eq, m1_eq2, m1_lt, m1_lt2, gdN, Nat.not_lt_zero, false_or, if_true, if_false, if_pos, if_neg, cond_true, cond_false, beq_self, and_self, true_and, and_true, not_true_eq_false, not_false_eq_true, ne_eq]
    exact wI_mono hk fun v' s2 ⟨e, c', g', h'⟩ => by rw [if_pos e]; exact hn c' g' s2 v5 v6 h'
theorem k_thief (hL : LX d X s0 n) (h : REL c g s) (hi : i + 6 ≤ n) (hn : ∀ c' g' s' v5 v6, REL c' g' s' → X 1247 (lcs i v5 v6) [] s') (v5 v6 : Value) : X 1146 (lcs i v5 v6) [] s := by
  obtain ⟨hX, hA, h8, h3⟩ := hL
  refine hA _ _ _ _ fun ha => ?_
  refine x_K_1146 hX (nI i) v5 v6 s ?_
  rw [ha 1008 (by omega), ha 1000 (by omega), h8]
  simp (disch := omega) only [↓n_m1, ↓n_hid, q0, q1, q2, q3, q4, q5, q6, q7, q8, q9, q10, q11, q12, q13, q14, q15, q16, q17, q18, q19, q20, q21, q22, q23, q24, q25, q26, q27, q28, q29, q30, q31, q32, q33, q34, q35, q36, q37, q38, q39, q40, q41, q42, q43, q44, q45, q46, q47, q48, q49, q50, q51, q52, q53, q54, q55, q56, q57, q58, q59, q61, q62, q63, q64, q66, q67, q68, q69, q70, q71, q91, q93, q99, q100, q102, q104, q107, q108, q112, q114, q115, q119, q121, q124, q160, q200, q255, q640, q999, q1000, q2000, q4096, n_of, nI_ltI, nI_leI, nI_eq, nI_clamp, nI_add, pk_mul, n_sub, m1_eq, m1_eq2, m1_lt, m1_lt2, gdN, Nat.not_lt_zero, false_or, if_true, if_false, if_pos, if_neg, cond_true, cond_false, beq_self, and_self, true_and, and_true, not_true_eq_false, not_false_eq_true, ne_eq]
  refine wI_mono (L_thief (d := d + 1) (K := fun v v' s2 => v = v' ∧ ∃ c g, REL c g s2) h fun v s' h' => ⟨rfl, c, g, h'⟩) fun v s1 hk => ?_
  refine hA _ _ _ _ fun ha1 => ?_
  refine x_K_1156 hX (nI i) v5 v6 v s1 ?_
  rw [ha1 1008 (by omega), ha1 1000 (by omega), h8]
  simp (disch := omega) only [↓n_m1, ↓n_hid, q0, q1, q2, q3, q4, q5, q6, q7, q8, q9, q10, q11, q12, q13, q14, q15, q16, q17, q18, q19, q20, q21, q22, q23, q24, q25, q26, q27, q28, q29, q30, q31, q32, q33, q34, q35, q36, q37, q38, q39, q40, q41, q42, q43, q44, q45, q46, q47, q48, q49, q50, q51, q52, q53, q54, q55, q56, q57, q58, q59, q61, q62, q63, q64, q66, q67, q68, q69, q70, q71, q91, q93, q99, q100, q102, q104, q107, q108, q112, q114, q115, q119, q121, q124, q160, q200, q255, q640, q999, q1000, q2000, q4096, n_of, nI_ltI, nI_leI, nI_eq, nI_clamp, nI_add, pk_mul, n_sub, m1_eq, m1_eq2, m1_lt, m1_lt2, gdN, Nat.not_lt_zero, false_or, if_true, if_false, if_pos, if_neg, cond_true, cond_false, beq_self, and_self, true_and, and_true, not_true_eq_false, not_false_eq_true, ne_eq]
  exact wI_mono hk fun v' s2 ⟨e, c', g', h'⟩ => by rw [if_pos e]; exact hn c' g' s2 v5 v6 h'
theorem k_found (hL : LX d X s0 n) (h : REL c g s) (hi : i + 6 ≤ n) (hn : ∀ c' g' s' v5 v6, REL c' g' s' → X 1247 (lcs i v5 v6) [] s') (v5 v6 : Value) : X 1171 (lcs i v5 v6) [] s := by
  obtain ⟨hX, hA, h8, h3⟩ := hL
  refine hA _ _ _ _ fun ha => ?_
  refine x_K_1171 hX (nI i) v5 v6 s ?_
  rw [ha 1008 (by omega), ha 1000 (by omega), h8]
  simp (disch := omega) only [↓n_m1, ↓n_hid, q0, q1, q2, q3, q4, q5, q6, q7, q8, q9, q10, q11, q12, q13, q14, q15, q16, q17, q18, q19, q20, q21, q22, q23, q24, q25, q26, q27, q28, q29, q30, q31, q32, q33, q34, q35, q36, q37, q38, q39, q40, q41, q42, q43, q44, q45, q46, q47, q48, q49, q50, q51, q52, q53, q54, q55, q56, q57, q58, q59, q61, q62, q63, q64, q66, q67, q68, q69, q70, q71, q91, q93, q99, q100, q102, q104, q107, q108, q112, q114, q115, q119, q121, q124, q160, q200, q255, q640, q999, q1000, q2000, q4096, n_of, nI_ltI, nI_leI, nI_eq, nI_clamp, nI_add, pk_mul, n_sub, m1_eq, m1_eq2, m1_lt, m1_lt2, gdN, Nat.not_lt_zero, false_or, if_true, if_false, if_pos, if_neg, cond_true, cond_false, beq_self, and_self, true_and, and_true, not_true_eq_false, not_false_eq_true, ne_eq]
  refine wI_mono (L_found (d := d + 1) (K := fun v v' s2 => v = v' ∧ ∃ c g, REL c g s2) h fun v s' h' => ⟨rfl, c, g, h'⟩) fun v s1 hk => ?_
  refine hA _ _ _ _ fun ha1 => ?_
  refine x_K_1181 hX (nI i) v5 v6 v s1 ?_
  rw [ha1 1008 (by omega), ha1 1000 (by omega), h8]
  simp (disch := omega) only [↓n_m1, ↓n_hid, q0, q1, q2, q3, q4, q5, q6, q7, q8, q9, q10, q11, q12, q13, q14, q15, q16, q17, q18, q19, q20, q21, q22, q23, q24, q25, q26, q27, q28, q29, q30, q31, q32, q33, q34, q35, q36, q37, q38, q39, q40, q41, q42, q43, q44, q45, q46, q47, q48, q49, q50, q51, q52, q53, q54, q55, q56, q57, q58, q59, q61, q62, q63, q64, q66, q67, q68, q69, q70, q71, q91, q93, q99, q100, q102, q104, q107, q108, q112, q114, q115, q119, q121, q124, q160, q200, q255, q640, q999, q1000, q2000, q4096, n_of, nI_ltI, nI_leI, nI_eq, nI_clamp, nI_add, pk_mul, n_sub, m1_eq, m1_eq2, m1_lt, m1_lt2, gdN, Nat.not_lt_zero, false_or, if_true, if_false, if_pos, if_neg, cond_true, cond_false, beq_self, and_self, true_and, and_true, not_true_eq_false, not_false_eq_true, ne_eq]
  exact wI_mono hk fun v' s2 ⟨e, c', g', h'⟩ => by rw [if_pos e]; exact hn c' g' s2 v5 v6 h'
theorem k_image (hL : LX d X s0 n) (h : REL c g s) (hi : i + 6 ≤ n) (hn : ∀ c' g' s' v5 v6, REL c' g' s' → X 1247 (lcs i v5 v6) [] s') (v5 v6 : Value) : X 1196 (lcs i v5 v6) [] s := by
  obtain ⟨hX, hA, h8, h3⟩ := hL
  refine hA _ _ _ _ fun ha => ?_
  refine x_K_1196 hX (nI i) v5 v6 s ?_
  refine wI_mono (L_image (d := d + 1) (K := fun v v' s2 => v = v' ∧ ∃ c g, REL c g s2) h fun v s' h' => ⟨rfl, c, g, h'⟩) fun v s1 hk => ?_
  refine hA _ _ _ _ fun ha1 => ?_
  refine x_K_1200 hX (nI i) v5 v6 v s1 ?_
  exact wI_mono hk fun v' s2 ⟨e, c', g', h'⟩ => by rw [if_pos e]; exact hn c' g' s2 v5 v6 h'
theorem k_back (hL : LX d X s0 n) (h : REL c g s) (hi : i + 6 ≤ n) (hn : ∀ c' g' s' v5 v6, REL c' g' s' → X 1247 (lcs i v5 v6) [] s') (v5 v6 : Value) : X 1209 (lcs i v5 v6) [] s := by
  obtain ⟨hX, hA, h8, h3⟩ := hL
  refine hA _ _ _ _ fun ha => ?_
  refine x_K_1209 hX (nI i) v5 v6 s ?_
  refine wI_mono (L_back (d := d + 1) (K := fun v v' s2 => v = v' ∧ ∃ c g, REL c g s2) h fun v s' h' => ⟨rfl, c, g, h'⟩) fun v s1 hk => ?_
  refine hA _ _ _ _ fun ha1 => ?_
  refine x_K_1213 hX (nI i) v5 v6 v s1 ?_
  exact wI_mono hk fun v' s2 ⟨e, c', g', h'⟩ => by rw [if_pos e]; exact hn c' g' s2 v5 v6 h'
theorem k_count (hL : LX d X s0 n) (h : REL c g s) (hi : i + 6 ≤ n) (hn : ∀ c' g' s' v5 v6, REL c' g' s' → X 1247 (lcs i v5 v6) [] s') (v5 v6 : Value) : X 1222 (lcs i v5 v6) [] s := by
  obtain ⟨hX, hA, h8, h3⟩ := hL
  refine hA _ _ _ _ fun ha => ?_
  refine x_K_1222 hX (nI i) v5 v6 s ?_
  rw [ha 1008 (by omega), ha 1000 (by omega), h8]
  simp (disch := omega) only [↓n_m1, ↓n_hid, q0, q1, q2, q3, q4, q5, q6, q7, q8, q9, q10, q11, q12, q13, q14, q15, q16, q17, q18, q19, q20, q21, q22, q23, q24, q25, q26, q27, q28, q29, q30, q31, q32, q33, q34, q35, q36, q37, q38, q39, q40, q41, q42, q43, q44, q45, q46, q47, q48, q49, q50, q51, q52, q53, q54, q55, q56, q57, q58, q59, q61, q62, q63, q64, q66, q67, q68, q69, q70, q71, q91, q93, q99, q100, q102, q104, q107, q108, q112, q114, q115, q119, q121, q124, q160, q200, q255, q640, q999, q1000, q2000, q4096, n_of, nI_ltI, nI_leI, nI_eq, nI_clamp, nI_add, pk_mul, n_sub, m1_eq, m1_eq2, m1_lt, m1_lt2, gdN, Nat.not_lt_zero, false_or, if_true, if_false, if_pos, if_neg, cond_true, cond_false, beq_self, and_self, true_and, and_true, not_true_eq_false, not_false_eq_true, ne_eq]
  refine wI_mono (L_count (d := d + 1) (K := fun v v' s2 => v = v' ∧ ∃ c g, REL c g s2) h fun v s' h' => ⟨rfl, c, g, h'⟩) fun v s1 hk => ?_
  refine hA _ _ _ _ fun ha1 => ?_
  refine x_K_1232 hX (nI i) v5 v6 v s1 ?_
  rw [ha1 1008 (by omega), ha1 1000 (by omega), h8]
  simp (disch := omega) only [↓n_m1, ↓n_hid, q0, q1, q2, q3, q4, q5, q6, q7, q8, q9, q10, q11, q12, q13, q14, q15, q16, q17, q18, q19, q20, q21, q22, q23, q24, q25, q26, q27, q28, q29, q30, q31, q32, q33, q34, q35, q36, q37, q38, q39, q40, q41, q42, q43, q44, q45, q46, q47, q48, q49, q50, q51, q52, q53, q54, q55, q56, q57, q58, q59, q61, q62, q63, q64, q66, q67, q68, q69, q70, q71, q91, q93, q99, q100, q102, q104, q107, q108, q112, q114, q115, q119, q121, q124, q160, q200, q255, q640, q999, q1000, q2000, q4096, n_of, nI_ltI, nI_leI, nI_eq, nI_clamp, nI_add, pk_mul, n_sub, m1_eq, m1_eq2, m1_lt, m1_lt2, gdN, Nat.not_lt_zero, false_or, if_true, if_false, if_pos, if_neg, cond_true, cond_false, beq_self, and_self, true_and, and_true, not_true_eq_false, not_false_eq_true, ne_eq]
  exact wI_mono hk fun v' s2 ⟨e, c', g', h'⟩ => by rw [if_pos e]; exact hn c' g' s2 v5 v6 h'
/-- the law's helper: what it answers, and then Y -/
def SX (d : Nat) (X Y : Cont) : Prop := ∀ (i4 : Int32) (v5 v6 : Value) (a b : Int32) (s : Mem), (s 0 1 = nI 4 ∨ s 0 1 = nI 11) → wI (wp (d + 51)) 900 [.ref 0, .int a, .int b, .ref 56] s (fun x s' => Y 349 [.ref 1000, .ref 0, .ref 57, .ref 56, .int i4, v5, v6] [.int x] s') → X 346 [.ref 1000, .ref 0, .ref 57, .ref 56, .int i4, v5, v6] [.ref 56, .int b, .int a, .ref 0] s
theorem k_source {Y : Cont} (hL : LX d X s0 n) (hLY : LX d Y s0 n) (hS : SX d X Y) (h : REL c g s) (hi : i + 6 ≤ n) (hn : ∀ c' g' s' v5 v6, REL c' g' s' → Y 1247 (lcs i v5 v6) [] s') (v5 v6 : Value) : X 332 (lcs i v5 v6) [] s := by
  obtain ⟨hX, hA, h8, h3⟩ := hL
  obtain ⟨hXY, hAY, -, -⟩ := hLY
  refine hA _ _ _ _ fun ha => ?_
  refine x_K_332 hX (nI i) v5 v6 s ?_
  rw [ha 1008 (by omega), ha 1000 (by omega), h8]
  simp (disch := omega) only [↓n_m1, ↓n_hid, q0, q1, q2, q3, q4, q5, q6, q7, q8, q9, q10, q11, q12, q13, q14, q15, q16, q17, q18, q19, q20, q21, q22, q23, q24, q25, q26, q27, q28, q29, q30, q31, q32, q33, q34, q35, q36, q37, q38, q39, q40, q41, q42, q43, q44, q45, q46, q47, q48, q49, q50, q51, q52, q53, q54, q55, q56, q57, q58, q59, q61, q62, q63, q64, q66, q67, q68, q69, q70, q71, q91, q93, q99, q100, q102, q104, q107, q108, q112, q114, q115, q119, q121, q124, q160, q200, q255, q640, q999, q1000, q2000, q4096, n_of, nI_ltI, nI_leI, nI_eq, nI_clamp, nI_add, pk_mul, n_sub, m1_eq, m1_eq2, m1_lt, m1_lt2, gdN, Nat.not_lt_zero, false_or, if_true, if_false, if_pos, if_neg, cond_true, cond_false, beq_self, and_self, true_and, and_true, not_true_eq_false, not_false_eq_true, ne_eq]
  have hcc : s 0 1 = nI 4 ∨ s 0 1 = nI 11 := by
    rcases h.1.1 with rfl | rfl
    · exact Or.inl h.1.2.2.1
    · exact Or.inr h.1.2.2.1
  refine hS (nI i) v5 v6 _ _ s hcc ?_
  show primP (wp (d + 50)) 900 [.ref 0, .int (s0 1000 (i + 1)), .int (s0 1000 (i + 2)), .ref 56] s _
  refine ⟨rfl, rfl, fun ho => ?_, fun ho => ?_⟩
  · refine wI_mono (L_src1 (d := d) (K := fun v v' s2 => v = v' ∧ s2 57 0 = nI 0 ∧ s2 56 0 = v ∧ ∃ c g, REL c g s2) h ho fun v s' h' e1 e2 => ⟨rfl, e1, e2, c, g, h'⟩) fun v s1 hk => ?_
    show Y 349 _ _ _
    refine hAY _ _ _ _ fun ha1 => ?_
    refine x_K_349 hXY (nI i) v5 v6 0 (upM s1 56 0 v) ?_
    rw [ha1 1008 (by omega), ha1 1000 (by omega), h8]
    simp (disch := omega) only [↓n_m1, ↓n_hid, q0, q1, q2, q3, q4, q5, q6, q7, q8, q9, q10, q11, q12, q13, q14, q15, q16, q17, q18, q19, q20, q21, q22, q23, q24, q25, q26, q27, q28, q29, q30, q31, q32, q33, q34, q35, q36, q37, q38, q39, q40, q41, q42, q43, q44, q45, q46, q47, q48, q49, q50, q51, q52, q53, q54, q55, q56, q57, q58, q59, q61, q62, q63, q64, q66, q67, q68, q69, q70, q71, q91, q93, q99, q100, q102, q104, q107, q108, q112, q114, q115, q119, q121, q124, q160, q200, q255, q640, q999, q1000, q2000, q4096, n_of, nI_ltI, nI_leI, nI_eq, nI_clamp, nI_add, pk_mul, n_sub, m1_eq, m1_eq2, m1_lt, m1_lt2, gdN, Nat.not_lt_zero, false_or, if_true, if_false, if_pos, if_neg, cond_true, cond_false, beq_self, and_self, true_and, and_true, not_true_eq_false, not_false_eq_true, ne_eq]
    refine wI_mono (wI_S hk) fun v' s2 ⟨e, e1, e2, c', g', h'⟩ => ?_
    rw [e_M_thrown, e1, e2, e, if_pos rfl, show lg_cmp v'.toInt64 v'.toInt64 = nI 0 from lgc_self _, if_pos rfl]
    exact hn c' g' s2 _ _ h'
  · show Y 349 _ _ _
    refine hAY _ _ _ _ fun ha1 => ?_
    refine x_K_349 hXY (nI i) v5 v6 1 s ?_
    rw [ha1 1008 (by omega), ha1 1000 (by omega), h8]
    simp (disch := omega) only [↓n_m1, ↓n_hid, q0, q1, q2, q3, q4, q5, q6, q7, q8, q9, q10, q11, q12, q13, q14, q15, q16, q17, q18, q19, q20, q21, q22, q23, q24, q25, q26, q27, q28, q29, q30, q31, q32, q33, q34, q35, q36, q37, q38, q39, q40, q41, q42, q43, q44, q45, q46, q47, q48, q49, q50, q51, q52, q53, q54, q55, q56, q57, q58, q59, q61, q62, q63, q64, q66, q67, q68, q69, q70, q71, q91, q93, q99, q100, q102, q104, q107, q108, q112, q114, q115, q119, q121, q124, q160, q200, q255, q640, q999, q1000, q2000, q4096, n_of, nI_ltI, nI_leI, nI_eq, nI_clamp, nI_add, pk_mul, n_sub, m1_eq, m1_eq2, m1_lt, m1_lt2, gdN, Nat.not_lt_zero, false_or, if_true, if_false, if_pos, if_neg, cond_true, cond_false, beq_self, and_self, true_and, and_true, not_true_eq_false, not_false_eq_true, ne_eq]
    refine L_src0 (d := d + 1) h ho fun s' h' e1 => ?_
    rw [e_M_thrown, e1, if_pos rfl]
    exact hn c g s' _ _ h'
theorem law_loop {XX : Nat → Cont} {N : Nat} (hL : ∀ j, j ≤ N → LX d (XX j) s0 n) (hSX : ∀ j, j < N → SX d (XX j) (XX (j + 1))) : ∀ (f i j : Nat) (c : Nat) (g : Gph) (s : Mem) (v5 v6 : Value), n + 6 ≤ 6 * f + i → i ≤ n + 5 → j + f ≤ N → REL c g s → XX j 23 (lcs i v5 v6) [] s := by
  intro f
  induction f with
  | zero =>
    intro i j c g s v5 v6 hf hi hj h
    omega
  | succ f ih =>
    intro i j c g s v5 v6 hf hi hj h
    have hLj := hL j (by omega)
    have hLj' := hLj
    obtain ⟨hX, hA, h8, h3⟩ := hLj'
    refine hA _ _ _ _ fun ha => ?_
    refine x_K_23 hX (nI i) v5 v6 s ?_
    rw [ha 1008 (by omega), ha 1000 (by omega), h8, if_neg (show ¬ nI n < 0 by rw [q0, nI_ltI (by omega) (by omega)]; omega)]
    by_cases hl : i + 6 ≤ n
    · have hn' : ∀ j', j' + f ≤ N → ∀ c' g' s' v5 v6, REL c' g' s' → XX j' 1247 (lcs i v5 v6) [] s' := by
        intro j' hj' c' g' s' v5 v6 h'
        refine x_K_1247 (hL j' (by omega)).1 (nI i) v5 v6 s' ?_
        rw [show nI i + 6 = nI (i + 6) from nI_add i 6]
        exact ih (i + 6) j' c' g' s' v5 v6 (by omega) (by omega) hj' h'
      have hn := hn' j (by omega)
      rw [show nI n - 6 = nI (n - 6) from n_sub (a := n) (b := 6) (by omega), if_neg (show ¬ nI (n - 6) < nI i by rw [nI_ltI (by omega) (by omega)]; omega), show (nI i).toNatClampNeg = i from nI_clamp (by omega), show (nI n).toNatClampNeg = n from nI_clamp (by omega), if_neg (show ¬ (nI i < 0 ∨ n ≤ i) by rw [q0, nI_ltI (by omega) (by omega)]; omega)]
      generalize (s0 1000 i) &&& 31 = w
      by_cases w0 : w = 0
      · rw [if_pos w0]; exact k_feed hLj h hl hn _ _
      rw [if_neg w0]
      by_cases w1 : w = 1
      · rw [if_pos w1]; exact k_end hLj h hl hn _ _
      rw [if_neg w1]
      by_cases w2 : w = 2
      · rw [if_pos w2]; exact k_fault hLj h hl hn _ _
      rw [if_neg w2]
      by_cases w3 : w = 3
      · rw [if_pos w3]; exact k_text hLj h hl hn _ _
      rw [if_neg w3]
      by_cases w4 : w = 4
      · rw [if_pos w4]; exact k_source hLj (hL (j + 1) (by omega)) (hSX j (by omega)) h hl (hn' (j + 1) (by omega)) _ _
      rw [if_neg w4]
      by_cases w5 : w = 5
      · rw [if_pos w5]; exact k_street hLj h hl hn _ _
      rw [if_neg w5]
      by_cases w6 : w = 6
      · rw [if_pos w6]; exact k_law hLj h hl hn _ _
      rw [if_neg w6]
      by_cases w7 : w = 7
      · rw [if_pos w7]; exact k_set hLj h hl hn _ _
      rw [if_neg w7]
      by_cases w8 : w = 8
      · rw [if_pos w8]; exact k_open hLj h hl hn _ _
      rw [if_neg w8]
      by_cases w9 : w = 9
      · rw [if_pos w9]; exact k_hours hLj h hl hn _ _
      rw [if_neg w9]
      by_cases w10 : w = 10
      · rw [if_pos w10]; exact k_undo hLj h hl hn _ _
      rw [if_neg w10]
      by_cases w11 : w = 11
      · rw [if_pos w11]; exact k_far hLj h hl hn _ _
      rw [if_neg w11]
      by_cases w12 : w = 12
      · rw [if_pos w12]; exact k_smell hLj h hl hn _ _
      rw [if_neg w12]
      by_cases w13 : w = 13
      · rw [if_pos w13]; exact k_breath hLj h hl hn _ _
      rw [if_neg w13]
      by_cases w14 : w = 14
      · rw [if_pos w14]; exact k_strongest hLj h hl hn _ _
      rw [if_neg w14]
      by_cases w15 : w = 15
      · rw [if_pos w15]; exact k_trail hLj h hl hn _ _
      rw [if_neg w15]
      by_cases w16 : w = 16
      · rw [if_pos w16]; exact k_wipe hLj h hl hn _ _
      rw [if_neg w16]
      by_cases w17 : w = 17
      · rw [if_pos w17]; exact k_where hLj h hl hn _ _
      rw [if_neg w17]
      by_cases w18 : w = 18
      · rw [if_pos w18]; exact k_door hLj h hl hn _ _
      rw [if_neg w18]
      by_cases w19 : w = 19
      · rw [if_pos w19]; exact k_most hLj h hl hn _ _
      rw [if_neg w19]
      by_cases w20 : w = 20
      · rw [if_pos w20]; exact k_silent hLj h hl hn _ _
      rw [if_neg w20]
      by_cases w21 : w = 21
      · rw [if_pos w21]; exact k_unlike hLj h hl hn _ _
      rw [if_neg w21]
      by_cases w22 : w = 22
      · rw [if_pos w22]; exact k_forged hLj h hl hn _ _
      rw [if_neg w22]
      by_cases w23 : w = 23
      · rw [if_pos w23]; exact k_follow hLj h hl hn _ _
      rw [if_neg w23]
      by_cases w24 : w = 24
      · rw [if_pos w24]; exact k_led hLj h hl hn _ _
      rw [if_neg w24]
      by_cases w25 : w = 25
      · rw [if_pos w25]; exact k_sure hLj h hl hn _ _
      rw [if_neg w25]
      by_cases w26 : w = 26
      · rw [if_pos w26]; exact k_note hLj h hl hn _ _
      rw [if_neg w26]
      by_cases w27 : w = 27
      · rw [if_pos w27]; exact k_thief hLj h hl hn _ _
      rw [if_neg w27]
      by_cases w28 : w = 28
      · rw [if_pos w28]; exact k_found hLj h hl hn _ _
      rw [if_neg w28]
      by_cases w29 : w = 29
      · rw [if_pos w29]; exact k_image hLj h hl hn _ _
      rw [if_neg w29]
      by_cases w30 : w = 30
      · rw [if_pos w30]; exact k_back hLj h hl hn _ _
      rw [if_neg w30]
      by_cases w31 : w = 31
      · rw [if_pos w31]; exact k_count hLj h hl hn _ _
      rw [if_neg w31]
      exact hn c g s _ _ h
    · have hlt : nI n - 6 < nI i := by
        rw [Int32.lt_iff_toInt_lt, n_i (by omega)]
        rcases Nat.lt_or_ge n 6 with z | z
        · have : (nI n - 6).toInt < 0 := by
            rcases (show n = 0 ∨ n = 1 ∨ n = 2 ∨ n = 3 ∨ n = 4 ∨ n = 5 by omega) with rfl | rfl | rfl | rfl | rfl | rfl <;> decide
          omega
        · rw [show nI n - 6 = nI (n - 6) from n_sub (a := n) (b := 6) z, n_i (by omega)]
          omega
      rw [if_pos hlt]
end
