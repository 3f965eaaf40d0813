/-! more queries -/
section
variable {d c : Nat} {g : Gph} {W : Wth} {P Q : Mem → Prop} {lv : Value} {Ll : List Nat} {rn : Bool} {w dl hr : Nat} {o : Int32} {s : Mem}
theorem crefc (hcc : isC c) : (nI (c + 1)).toNatClampNeg - 1 = c := by
  have := C_le hcc
  rw [nI_clamp (by omega)]
  omega
theorem cref2 (hcc : isC c) {A B : Prop} : (if nI (c + 1) = 0 then A else B) = B := by
  have := C_le hcc
  rw [if_neg]
  rw [q0, nI_eq (by omega) (by omega)]
  omega
theorem cref (hcc : isC c) {A : Prop} : (if nI (c + 1) = 0 then False else (bif Nat.beq (shp ((nI (c + 1)).toNatClampNeg - 1)).1 2 then A else False)) = A := by
  rw [cref2 hcc, crefc hcc, C_b hcc]
  rfl
theorem rng5 {p : Nat} (hp : p < 5) {A B C : Prop} : (if nI p < 0 then A else (if nI p < 5 then B else C)) = B := by
  rw [if_neg (show ¬ nI p < 0 by rw [q0, nI_ltI (by omega) (by omega)]; omega), if_pos (show nI p < 5 by rw [q5, nI_ltI (by omega) (by omega)]; omega)]
theorem rng5n {x : Int32} (hx : ¬ (0 ≤ x.toInt ∧ x.toInt ≤ 4)) {A B : Prop} : (if x < 0 then A else (if x < 5 then B else A)) = A := by
  rcases out_n (n := 4) (by decide) hx with e | ⟨e, e2⟩
  · rw [if_pos (show x < 0 from e)]
  · rw [if_neg (show ¬ x < 0 from e), if_neg (show ¬ x < 5 from e2)]
theorem ifb {b : Bool} {A B : Prop} : (if b01 b = 0 then A else B) = (if b = true then B else A) := by
  cases b
  · rw [if_pos (show b01 false = 0 from rfl)]; rfl
  · rw [if_neg (show ¬ b01 true = 0 by decide)]; rfl
theorem nst_e {F F' : Nat → Nat} (he : ∀ v, v < gN g → F v = F' v) {k : Nat} (hk : k < gN g) (hst : gst g k = true) : nst g F k = nst g F' k := by
  have key : ∀ n i b, b < gN g → itr (fun sd b => nst1 g F k sd b) n i b = itr (fun sd b => nst1 g F' k sd b) n i b := by
    intro n
    induction n with
    | zero => intro i b _; rfl
    | succ n ih =>
      intro i b hb
      have hbb := bes_lt hk i
      have e1 : nst1 g F k i b = nst1 g F' k i b := by unfold nst1; rw [he b hb, he _ hbb]
      show itr _ n (i + 1) (nst1 g F k i b) = itr _ n (i + 1) (nst1 g F' k i b)
      rw [e1]
      refine ih (i + 1) _ ?_
      unfold nst1
      split
      · exact hbb
      · exact hb
  exact key 4 1 k hk
theorem flw_e {F F' : Nat → Nat} (he : ∀ v, v < gN g → F v = F' v) : ∀ (n k : Nat), k < gN g → gst g k = true → flw g F n k = flw g F' n k
  | 0, _, _, _ => rfl
  | n + 1, k, hk, hst => by
    have e1 : nst g F k = nst g F' k := nst_e he hk hst
    unfold flw
    rw [e1]
    split
    · rfl
    · obtain ⟨a1, a2, _, _⟩ := nst_P (F := F') hk hst 4 1 k hk hst (Nat.le_refl _)
      have e2 : flw g F n (nst g F' k) = flw g F' n (nst g F' k) := flw_e he n _ a1 a2
      rw [e2]
theorem f_street {K : Int32 → Int32 → Mem → Prop} (h : QQ c g W P Q lv Ll w rn dl hr o s) {x : Int32} (hK : ∀ v s', fr c Ll s s' → QQ c g W P Q lv Ll w rn dl hr o s' → K v v s') :
    wI (wp (d + 50)) m_X_street [.ref 0, .int x] s (fun v s1 => wI (wp (d + 50)) m_M_street [.ref 57, .int x] s1 (fun v' s2 => K v v' s2)) := by
  have hg := qq_gOk h
  have h20 := gN_le hg
  have hL := C_le (qq_isC h)
  obtain ⟨t1, t2⟩ := q_thr h (x := nI 0)
  rw [e_X_street, qq_ref h]
  simp (disch := omega) only [↓n_m1, ↓n_hid, q0, q1, q2, q3, q4, q5, q6, q7, q8, q9, q10, q11, q12, q13, q14, q15, q16, q17, q18, q19, q20, q21, q22, q23, q24, q25, q26, q27, q28, q29, q30, q31, q32, q33, q34, q35, q36, q37, q38, q39, q40, q41, q42, q43, q44, q45, q46, q47, q48, q49, q50, q51, q52, q53, q54, q55, q56, q57, q58, q59, q61, q62, q63, q64, q66, q67, q68, q69, q70, q71, q91, q93, q99, q100, q102, q104, q107, q108, q112, q114, q115, q119, q121, q124, q160, q200, q255, q640, q999, q1000, q2000, q4096, n_of, nI_ltI, nI_leI, nI_eq, nI_clamp, nI_add, pk_mul, n_sub, m1_eq, m1_eq2, m1_lt, m1_lt2, gdN, Nat.not_lt_zero, false_or, if_true, if_false, if_pos, if_neg, cond_true, cond_false, beq_self, and_self, true_and, and_true, not_true_eq_false, not_false_eq_true, ne_eq, Nat.add_sub_cancel, C_b (qq_isC h)]
  rw [c_placeOf (d := d + 47) (qq_isC h) hg (qq_cf h).1]
  cases e : plc g x with
  | none =>
    simp only [oI, if_true]
    rw [e_M_street, q0, m_placeAt (d := d + 48) hg (qq_cm t2), e]
    simp only [oI, n_m1, if_true]
    exact hK _ _ t1 t2
  | some k =>
    have hk := plc_lt e
    simp only [oI]
    simp (disch := omega) only [↓n_m1, ↓n_hid, q0, q1, q2, q3, q4, q5, q6, q7, q8, q9, q10, q11, q12, q13, q14, q15, q16, q17, q18, q19, q20, q21, q22, q23, q24, q25, q26, q27, q28, q29, q30, q31, q32, q33, q34, q35, q36, q37, q38, q39, q40, q41, q42, q43, q44, q45, q46, q47, q48, q49, q50, q51, q52, q53, q54, q55, q56, q57, q58, q59, q61, q62, q63, q64, q66, q67, q68, q69, q70, q71, q91, q93, q99, q100, q102, q104, q107, q108, q112, q114, q115, q119, q121, q124, q160, q200, q255, q640, q999, q1000, q2000, q4096, n_of, nI_ltI, nI_leI, nI_eq, nI_clamp, nI_add, pk_mul, n_sub, m1_eq, m1_eq2, m1_lt, m1_lt2, gdN, Nat.not_lt_zero, false_or, if_true, if_false, if_pos, if_neg, cond_true, cond_false, beq_self, and_self, true_and, and_true, not_true_eq_false, not_false_eq_true, ne_eq, qq_ref h, Nat.add_sub_cancel, C_b (qq_isC h)]
    rw [c_isStreet (d := d + 48) (qq_isC h) hg (qq_cf h).1 hk]
    cases hst : gst g k
    · simp (disch := omega) only [↓n_m1, ↓n_hid, q0, q1, q2, q3, q4, q5, q6, q7, q8, q9, q10, q11, q12, q13, q14, q15, q16, q17, q18, q19, q20, q21, q22, q23, q24, q25, q26, q27, q28, q29, q30, q31, q32, q33, q34, q35, q36, q37, q38, q39, q40, q41, q42, q43, q44, q45, q46, q47, q48, q49, q50, q51, q52, q53, q54, q55, q56, q57, q58, q59, q61, q62, q63, q64, q66, q67, q68, q69, q70, q71, q91, q93, q99, q100, q102, q104, q107, q108, q112, q114, q115, q119, q121, q124, q160, q200, q255, q640, q999, q1000, q2000, q4096, n_of, nI_ltI, nI_leI, nI_eq, nI_clamp, nI_add, pk_mul, n_sub, m1_eq, m1_eq2, m1_lt, m1_lt2, gdN, Nat.not_lt_zero, false_or, if_true, if_false, if_pos, if_neg, cond_true, cond_false, beq_self, and_self, true_and, and_true, not_true_eq_false, not_false_eq_true, ne_eq, b01_0]
      rw [e_M_street, q0, m_placeAt (d := d + 48) hg (qq_cm t2), e]
      simp only [oI]
      simp (disch := omega) only [↓n_m1, ↓n_hid, q0, q1, q2, q3, q4, q5, q6, q7, q8, q9, q10, q11, q12, q13, q14, q15, q16, q17, q18, q19, q20, q21, q22, q23, q24, q25, q26, q27, q28, q29, q30, q31, q32, q33, q34, q35, q36, q37, q38, q39, q40, q41, q42, q43, q44, q45, q46, q47, q48, q49, q50, q51, q52, q53, q54, q55, q56, q57, q58, q59, q61, q62, q63, q64, q66, q67, q68, q69, q70, q71, q91, q93, q99, q100, q102, q104, q107, q108, q112, q114, q115, q119, q121, q124, q160, q200, q255, q640, q999, q1000, q2000, q4096, n_of, nI_ltI, nI_leI, nI_eq, nI_clamp, nI_add, pk_mul, n_sub, m1_eq, m1_eq2, m1_lt, m1_lt2, gdN, Nat.not_lt_zero, false_or, if_true, if_false, if_pos, if_neg, cond_true, cond_false, beq_self, and_self, true_and, and_true, not_true_eq_false, not_false_eq_true, ne_eq, (qq_cm t2).2.2.2.1 k hk, hst, b01_0]
      exact hK _ _ t1 t2
    · simp (disch := omega) only [↓n_m1, ↓n_hid, q0, q1, q2, q3, q4, q5, q6, q7, q8, q9, q10, q11, q12, q13, q14, q15, q16, q17, q18, q19, q20, q21, q22, q23, q24, q25, q26, q27, q28, q29, q30, q31, q32, q33, q34, q35, q36, q37, q38, q39, q40, q41, q42, q43, q44, q45, q46, q47, q48, q49, q50, q51, q52, q53, q54, q55, q56, q57, q58, q59, q61, q62, q63, q64, q66, q67, q68, q69, q70, q71, q91, q93, q99, q100, q102, q104, q107, q108, q112, q114, q115, q119, q121, q124, q160, q200, q255, q640, q999, q1000, q2000, q4096, n_of, nI_ltI, nI_leI, nI_eq, nI_clamp, nI_add, pk_mul, n_sub, m1_eq, m1_eq2, m1_lt, m1_lt2, gdN, Nat.not_lt_zero, false_or, if_true, if_false, if_pos, if_neg, cond_true, cond_false, beq_self, and_self, true_and, and_true, not_true_eq_false, not_false_eq_true, ne_eq, b01_0, Bool.true_eq_false]
      rw [e_M_street, q0, m_placeAt (d := d + 48) hg (qq_cm t2), e]
      simp only [oI]
      simp (disch := omega) only [↓n_m1, ↓n_hid, q0, q1, q2, q3, q4, q5, q6, q7, q8, q9, q10, q11, q12, q13, q14, q15, q16, q17, q18, q19, q20, q21, q22, q23, q24, q25, q26, q27, q28, q29, q30, q31, q32, q33, q34, q35, q36, q37, q38, q39, q40, q41, q42, q43, q44, q45, q46, q47, q48, q49, q50, q51, q52, q53, q54, q55, q56, q57, q58, q59, q61, q62, q63, q64, q66, q67, q68, q69, q70, q71, q91, q93, q99, q100, q102, q104, q107, q108, q112, q114, q115, q119, q121, q124, q160, q200, q255, q640, q999, q1000, q2000, q4096, n_of, nI_ltI, nI_leI, nI_eq, nI_clamp, nI_add, pk_mul, n_sub, m1_eq, m1_eq2, m1_lt, m1_lt2, gdN, Nat.not_lt_zero, false_or, if_true, if_false, if_pos, if_neg, cond_true, cond_false, beq_self, and_self, true_and, and_true, not_true_eq_false, not_false_eq_true, ne_eq, (qq_cm t2).2.2.2.1 k hk, hst, b01_0, Bool.true_eq_false]
      exact hK _ _ t1 t2
theorem f_far {K : Int32 → Int32 → Mem → Prop} (h : QQ c g W P Q lv Ll w rn dl hr o s) {x y : Int32} (hK : ∀ v s', fr c Ll s s' → QQ c g W P Q lv Ll w rn dl hr o s' → K v v s') :
    wI (wp (d + 50)) m_X_far [.ref 0, .int x, .int y] s (fun v s1 => wI (wp (d + 50)) m_M_far [.ref 57, .int x, .int y] s1 (fun v' s2 => K v v' s2)) := by
  have hg := qq_gOk h
  have h20 := gN_le hg
  have hL := C_le (qq_isC h)
  rw [e_X_far, qq_ref h]
  simp (disch := omega) only [↓n_m1, ↓n_hid, q0, q1, q2, q3, q4, q5, q6, q7, q8, q9, q10, q11, q12, q13, q14, q15, q16, q17, q18, q19, q20, q21, q22, q23, q24, q25, q26, q27, q28, q29, q30, q31, q32, q33, q34, q35, q36, q37, q38, q39, q40, q41, q42, q43, q44, q45, q46, q47, q48, q49, q50, q51, q52, q53, q54, q55, q56, q57, q58, q59, q61, q62, q63, q64, q66, q67, q68, q69, q70, q71, q91, q93, q99, q100, q102, q104, q107, q108, q112, q114, q115, q119, q121, q124, q160, q200, q255, q640, q999, q1000, q2000, q4096, n_of, nI_ltI, nI_leI, nI_eq, nI_clamp, nI_add, pk_mul, n_sub, m1_eq, m1_eq2, m1_lt, m1_lt2, gdN, Nat.not_lt_zero, false_or, if_true, if_false, if_pos, if_neg, cond_true, cond_false, beq_self, and_self, true_and, and_true, not_true_eq_false, not_false_eq_true, ne_eq, Nat.add_sub_cancel, C_b (qq_isC h)]
  rw [c_streetOf (d := d + 46) (qq_isC h) hg (qq_cf h).1]
  simp (disch := omega) only [↓n_m1, ↓n_hid, q0, q1, q2, q3, q4, q5, q6, q7, q8, q9, q10, q11, q12, q13, q14, q15, q16, q17, q18, q19, q20, q21, q22, q23, q24, q25, q26, q27, q28, q29, q30, q31, q32, q33, q34, q35, q36, q37, q38, q39, q40, q41, q42, q43, q44, q45, q46, q47, q48, q49, q50, q51, q52, q53, q54, q55, q56, q57, q58, q59, q61, q62, q63, q64, q66, q67, q68, q69, q70, q71, q91, q93, q99, q100, q102, q104, q107, q108, q112, q114, q115, q119, q121, q124, q160, q200, q255, q640, q999, q1000, q2000, q4096, n_of, nI_ltI, nI_leI, nI_eq, nI_clamp, nI_add, pk_mul, n_sub, m1_eq, m1_eq2, m1_lt, m1_lt2, gdN, Nat.not_lt_zero, false_or, if_true, if_false, if_pos, if_neg, cond_true, cond_false, beq_self, and_self, true_and, and_true, not_true_eq_false, not_false_eq_true, ne_eq, qq_ref h, Nat.add_sub_cancel, C_b (qq_isC h)]
  rw [c_streetOf (d := d + 46) (qq_isC h) hg (qq_cf h).1]
  have mm : ∀ {s1 : Mem}, fr c Ll s s1 → QQ c g W P Q lv Ll w rn dl hr o s1 → ∀ v, (∀ s2, fr c Ll s s2 → QQ c g W P Q lv Ll w rn dl hr o s2 → K v (match stc g x with
      | none => m1
      | some a => match stc g y with
        | none => m1
        | some b => cosI (farG g w a b)) s2) → wI (wp (d + 50)) m_M_far [.ref 57, .int x, .int y] s1 (fun v' s2 => K v v' s2) := by
    intro s1 f1 h1 v hv
    obtain ⟨t1, t2⟩ := q_thr h1 (x := nI 0)
    rw [e_M_far, q0, m_streetAt (d := d + 47) hg (qq_cm t2), m_streetAt (d := d + 47) hg (qq_cm t2)]
    cases e : stc g x with
    | none =>
      simp only [oI, n_m1, if_true]
      have := hv _ (fr_t f1 t1) t2
      rw [e] at this
      exact this
    | some a =>
      obtain ⟨ha, _⟩ := stc_some e
      cases e2 : stc g y with
      | none =>
        simp only [oI]
        simp (disch := omega) only [↓n_m1, ↓n_hid, q0, q1, q2, q3, q4, q5, q6, q7, q8, q9, q10, q11, q12, q13, q14, q15, q16, q17, q18, q19, q20, q21, q22, q23, q24, q25, q26, q27, q28, q29, q30, q31, q32, q33, q34, q35, q36, q37, q38, q39, q40, q41, q42, q43, q44, q45, q46, q47, q48, q49, q50, q51, q52, q53, q54, q55, q56, q57, q58, q59, q61, q62, q63, q64, q66, q67, q68, q69, q70, q71, q91, q93, q99, q100, q102, q104, q107, q108, q112, q114, q115, q119, q121, q124, q160, q200, q255, q640, q999, q1000, q2000, q4096, n_of, nI_ltI, nI_leI, nI_eq, nI_clamp, nI_add, pk_mul, n_sub, m1_eq, m1_eq2, m1_lt, m1_lt2, gdN, Nat.not_lt_zero, false_or, if_true, if_false, if_pos, if_neg, cond_true, cond_false, beq_self, and_self, true_and, and_true, not_true_eq_false, not_false_eq_true, ne_eq]
        have := hv _ (fr_t f1 t1) t2
        rw [e, e2] at this
        exact this
      | some b =>
        obtain ⟨hb, _⟩ := stc_some e2
        simp only [oI]
        simp (disch := omega) only [↓n_m1, ↓n_hid, q0, q1, q2, q3, q4, q5, q6, q7, q8, q9, q10, q11, q12, q13, q14, q15, q16, q17, q18, q19, q20, q21, q22, q23, q24, q25, q26, q27, q28, q29, q30, q31, q32, q33, q34, q35, q36, q37, q38, q39, q40, q41, q42, q43, q44, q45, q46, q47, q48, q49, q50, q51, q52, q53, q54, q55, q56, q57, q58, q59, q61, q62, q63, q64, q66, q67, q68, q69, q70, q71, q91, q93, q99, q100, q102, q104, q107, q108, q112, q114, q115, q119, q121, q124, q160, q200, q255, q640, q999, q1000, q2000, q4096, n_of, nI_ltI, nI_leI, nI_eq, nI_clamp, nI_add, pk_mul, n_sub, m1_eq, m1_eq2, m1_lt, m1_lt2, gdN, Nat.not_lt_zero, false_or, if_true, if_false, if_pos, if_neg, cond_true, cond_false, beq_self, and_self, true_and, and_true, not_true_eq_false, not_false_eq_true, ne_eq]
        rw [qq_e68 t2 0 (by decide), (qq_w t2).1]
        refine m_layFar (d := d + 47) hg (qq_cm t2) (qq_w h).2 ha ?_
        intro s2 f2 hF
        obtain ⟨f2', h2⟩ := QQ_m t2 (frN_f (J := []) f2 (by simp)) (by simp) (fun a z => scA_m (by simp at z; omega)) (by simp) (by rw [f2 57 (by simp)]; exact qq_x33 t2)
        have := hv _ (fr_t f1 (fr_t t1 f2')) h2
        rw [e, e2] at this
        have hb2 : farG g w a b = 1000 ∨ farG g w a b ≤ 57 := far_b hg ha 20 b
        simp (disch := omega) only [↓n_m1, ↓n_hid, q0, q1, q2, q3, q4, q5, q6, q7, q8, q9, q10, q11, q12, q13, q14, q15, q16, q17, q18, q19, q20, q21, q22, q23, q24, q25, q26, q27, q28, q29, q30, q31, q32, q33, q34, q35, q36, q37, q38, q39, q40, q41, q42, q43, q44, q45, q46, q47, q48, q49, q50, q51, q52, q53, q54, q55, q56, q57, q58, q59, q61, q62, q63, q64, q66, q67, q68, q69, q70, q71, q91, q93, q99, q100, q102, q104, q107, q108, q112, q114, q115, q119, q121, q124, q160, q200, q255, q640, q999, q1000, q2000, q4096, n_of, nI_ltI, nI_leI, nI_eq, nI_clamp, nI_add, pk_mul, n_sub, m1_eq, m1_eq2, m1_lt, m1_lt2, gdN, Nat.not_lt_zero, false_or, if_true, if_false, if_pos, if_neg, cond_true, cond_false, beq_self, and_self, true_and, and_true, not_true_eq_false, not_false_eq_true, ne_eq, hF b (by omega)]
        unfold cosI at this
        simp only [] at this
        rcases hb2 with hb2 | hb2
        · rw [if_pos hb2] at *
          exact this
        · rw [if_neg (by omega)] at *
          exact this
  cases e : stc g x with
  | none =>
    simp only [oI]
    simp (disch := omega) only [↓n_m1, ↓n_hid, q0, q1, q2, q3, q4, q5, q6, q7, q8, q9, q10, q11, q12, q13, q14, q15, q16, q17, q18, q19, q20, q21, q22, q23, q24, q25, q26, q27, q28, q29, q30, q31, q32, q33, q34, q35, q36, q37, q38, q39, q40, q41, q42, q43, q44, q45, q46, q47, q48, q49, q50, q51, q52, q53, q54, q55, q56, q57, q58, q59, q61, q62, q63, q64, q66, q67, q68, q69, q70, q71, q91, q93, q99, q100, q102, q104, q107, q108, q112, q114, q115, q119, q121, q124, q160, q200, q255, q640, q999, q1000, q2000, q4096, n_of, nI_ltI, nI_leI, nI_eq, nI_clamp, nI_add, pk_mul, n_sub, m1_eq, m1_eq2, m1_lt, m1_lt2, gdN, Nat.not_lt_zero, false_or, if_true, if_false, if_pos, if_neg, cond_true, cond_false, beq_self, and_self, true_and, and_true, not_true_eq_false, not_false_eq_true, ne_eq]
    refine mm frN_r h _ ?_
    rw [e]
    exact hK m1
  | some a =>
    obtain ⟨ha, _⟩ := stc_some e
    simp only [oI]
    simp (disch := omega) only [↓n_m1, ↓n_hid, q0, q1, q2, q3, q4, q5, q6, q7, q8, q9, q10, q11, q12, q13, q14, q15, q16, q17, q18, q19, q20, q21, q22, q23, q24, q25, q26, q27, q28, q29, q30, q31, q32, q33, q34, q35, q36, q37, q38, q39, q40, q41, q42, q43, q44, q45, q46, q47, q48, q49, q50, q51, q52, q53, q54, q55, q56, q57, q58, q59, q61, q62, q63, q64, q66, q67, q68, q69, q70, q71, q91, q93, q99, q100, q102, q104, q107, q108, q112, q114, q115, q119, q121, q124, q160, q200, q255, q640, q999, q1000, q2000, q4096, n_of, nI_ltI, nI_leI, nI_eq, nI_clamp, nI_add, pk_mul, n_sub, m1_eq, m1_eq2, m1_lt, m1_lt2, gdN, Nat.not_lt_zero, false_or, if_true, if_false, if_pos, if_neg, cond_true, cond_false, beq_self, and_self, true_and, and_true, not_true_eq_false, not_false_eq_true, ne_eq]
    cases e2 : stc g y with
    | none =>
      simp only [oI]
      simp (disch := omega) only [↓n_m1, ↓n_hid, q0, q1, q2, q3, q4, q5, q6, q7, q8, q9, q10, q11, q12, q13, q14, q15, q16, q17, q18, q19, q20, q21, q22, q23, q24, q25, q26, q27, q28, q29, q30, q31, q32, q33, q34, q35, q36, q37, q38, q39, q40, q41, q42, q43, q44, q45, q46, q47, q48, q49, q50, q51, q52, q53, q54, q55, q56, q57, q58, q59, q61, q62, q63, q64, q66, q67, q68, q69, q70, q71, q91, q93, q99, q100, q102, q104, q107, q108, q112, q114, q115, q119, q121, q124, q160, q200, q255, q640, q999, q1000, q2000, q4096, n_of, nI_ltI, nI_leI, nI_eq, nI_clamp, nI_add, pk_mul, n_sub, m1_eq, m1_eq2, m1_lt, m1_lt2, gdN, Nat.not_lt_zero, false_or, if_true, if_false, if_pos, if_neg, cond_true, cond_false, beq_self, and_self, true_and, and_true, not_true_eq_false, not_false_eq_true, ne_eq]
      refine mm frN_r h _ ?_
      rw [e, e2]
      exact hK m1
    | some b =>
      obtain ⟨hb, _⟩ := stc_some e2
      simp only [oI]
      simp (disch := omega) only [↓n_m1, ↓n_hid, q0, q1, q2, q3, q4, q5, q6, q7, q8, q9, q10, q11, q12, q13, q14, q15, q16, q17, q18, q19, q20, q21, q22, q23, q24, q25, q26, q27, q28, q29, q30, q31, q32, q33, q34, q35, q36, q37, q38, q39, q40, q41, q42, q43, q44, q45, q46, q47, q48, q49, q50, q51, q52, q53, q54, q55, q56, q57, q58, q59, q61, q62, q63, q64, q66, q67, q68, q69, q70, q71, q91, q93, q99, q100, q102, q104, q107, q108, q112, q114, q115, q119, q121, q124, q160, q200, q255, q640, q999, q1000, q2000, q4096, n_of, nI_ltI, nI_leI, nI_eq, nI_clamp, nI_add, pk_mul, n_sub, m1_eq, m1_eq2, m1_lt, m1_lt2, gdN, Nat.not_lt_zero, false_or, if_true, if_false, if_pos, if_neg, cond_true, cond_false, beq_self, and_self, true_and, and_true, not_true_eq_false, not_false_eq_true, ne_eq, qq_ref h, Nat.add_sub_cancel, C_b (qq_isC h)]
      rw [c_now (d := d + 47) (by omega), (qq_w h).1]
      refine c_farness (d := d + 45) (qq_isC h) hg (qq_cf h) (qq_w h).2 ha hb ?_
      intro s1 f1 hc1
      have h16 := C_le (qq_isC h)
      have n57 : 57 ∉ [c + 5, c + 6] := by simp only [List.mem_cons, List.not_mem_nil, or_false]; omega
      have f1' : fr c Ll s s1 := fr_f f1 n57 (fun a z => scA_m (by simp only [List.mem_cons, List.not_mem_nil, or_false] at z; omega))
      have h1 := QQ_f h f1' hc1 (qq_pst h s s1 (fr_f f1 n57 (fun a z => scA_m (by simp only [List.mem_cons, List.not_mem_nil, or_false] at z; omega))) (qq_P h)) (by rw [f1 57 n57]; exact qq_x33 h)
      refine mm f1' h1 _ ?_
      rw [e, e2]
      exact hK _
theorem f_unlike {K : Int32 → Int32 → Mem → Prop} (h : QQ c g W P Q lv Ll w rn dl hr o s) {x y : Int32} (hK : ∀ v s', fr c Ll s s' → QQ c g W P Q lv Ll w rn dl hr o s' → K v v s') :
    wI (wp (d + 50)) m_X_unlike [.ref 0, .int x, .int y] s (fun v s1 => wI (wp (d + 50)) m_M_unlike [.ref 57, .int x, .int y] s1 (fun v' s2 => K v v' s2)) := by
  have hg := qq_gOk h
  have h20 := gN_le hg
  have hL := C_le (qq_isC h)
  have i4 : ∀ {z : Int32} {t : Mem} {K : Int32 → Mem → Prop}, wI (wp (d + 49)) m_M_isIn [.long z.toInt64, .long 0, .long 4] t K = K (b01 (decide (0 ≤ z.toInt ∧ z.toInt ≤ 4))) t := fun {z t K} => m_isIn (d := d + 48) (n := 4) (by decide)
  obtain ⟨t1, t2⟩ := q_thr h (x := nI 0)
  have hcc := qq_isC h
  rw [e_X_unlike, qq_ref h, cref hcc, crefc hcc, q_there (d := d + 48) h, ifb]
  by_cases hR : 0 < gR g
  · rw [decide_eq_true hR, if_pos rfl]
    by_cases hx : 0 ≤ x.toInt ∧ x.toInt ≤ 4
    · obtain ⟨p, hp4, rfl⟩ := inN (n := 4) hx (by decide)
      by_cases hy : 0 ≤ y.toInt ∧ y.toInt ≤ 4
      · obtain ⟨q, hq4, rfl⟩ := inN (n := 4) hy (by decide)
        rw [rng5 (show p < 5 by omega), rng5 (show q < 5 by omega)]
        refine q_blow (d := d + 41) h (show p < 5 by omega) ?_
        intro s1 f1 h1 n1 _
        rw [qq_ref h1, cref2 hcc, crefc hcc, c_smelling (d := d + 45) (qq_isC h) hg n1.1 n1.2.1 n1.2.2.1 n1.2.2.2.1]
        refine c_breathe (d := d + 43) (qq_isC h) hg n1.2.1 n1.2.2.2.2.1 (qq_dl h).2 (smI_6 hg) (fun _ _ z => by simp at z) (fun _ _ z => by simp at z) ?_
        intro s2 f2 hB2
        obtain ⟨f2', h2⟩ := QQ_c h1 f2 (by simp)
        refine c_remember (d := d + 48) ?_
        intro s3 f3 hB3
        obtain ⟨f3', h3⟩ := QQ_c h2 f3 (by simp)
        refine q_blow (d := d + 41) h3 (show q < 5 by omega) ?_
        intro s4 f4 h4 n4 e44
        rw [qq_ref h4, cref2 hcc, crefc hcc, c_smelling (d := d + 45) (qq_isC h) hg n4.1 n4.2.1 n4.2.2.1 n4.2.2.2.1]
        refine c_breathe (d := d + 43) (qq_isC h) hg n4.2.1 n4.2.2.2.2.1 (qq_dl h).2 (smI_6 hg) (fun _ _ z => by simp at z) (fun _ _ z => by simp at z) ?_
        intro s5 f5 hB5
        obtain ⟨f5', h5⟩ := QQ_c h4 f5 (by simp)
        rw [qq_ref h5, cref2 hcc, crefc hcc, c_changed (d := d + 45) (qq_isC h) hg (qq_cf h5).1]
        obtain ⟨u1, u2⟩ := q_thr h5 (x := nI 0)
        rw [e_M_unlike, q0]
        simp (disch := omega) only [↓n_m1, ↓n_hid, q0, q1, q2, q3, q4, q5, q6, q7, q8, q9, q10, q11, q12, q13, q14, q15, q16, q17, q18, q19, q20, q21, q22, q23, q24, q25, q26, q27, q28, q29, q30, q31, q32, q33, q34, q35, q36, q37, q38, q39, q40, q41, q42, q43, q44, q45, q46, q47, q48, q49, q50, q51, q52, q53, q54, q55, q56, q57, q58, q59, q61, q62, q63, q64, q66, q67, q68, q69, q70, q71, q91, q93, q99, q100, q102, q104, q107, q108, q112, q114, q115, q119, q121, q124, q160, q200, q255, q640, q999, q1000, q2000, q4096, n_of, nI_ltI, nI_leI, nI_eq, nI_clamp, nI_add, pk_mul, n_sub, m1_eq, m1_eq2, m1_lt, m1_lt2, gdN, Nat.not_lt_zero, false_or, if_true, if_false, if_pos, if_neg, cond_true, cond_false, beq_self, and_self, true_and, and_true, not_true_eq_false, not_false_eq_true, ne_eq, q_r0 h5, hR]
        rw [i4, decide_eq_true hx]
        simp (disch := omega) only [↓n_m1, ↓n_hid, q0, q1, q2, q3, q4, q5, q6, q7, q8, q9, q10, q11, q12, q13, q14, q15, q16, q17, q18, q19, q20, q21, q22, q23, q24, q25, q26, q27, q28, q29, q30, q31, q32, q33, q34, q35, q36, q37, q38, q39, q40, q41, q42, q43, q44, q45, q46, q47, q48, q49, q50, q51, q52, q53, q54, q55, q56, q57, q58, q59, q61, q62, q63, q64, q66, q67, q68, q69, q70, q71, q91, q93, q99, q100, q102, q104, q107, q108, q112, q114, q115, q119, q121, q124, q160, q200, q255, q640, q999, q1000, q2000, q4096, n_of, nI_ltI, nI_leI, nI_eq, nI_clamp, nI_add, pk_mul, n_sub, m1_eq, m1_eq2, m1_lt, m1_lt2, gdN, Nat.not_lt_zero, false_or, if_true, if_false, if_pos, if_neg, cond_true, cond_false, beq_self, and_self, true_and, and_true, not_true_eq_false, not_false_eq_true, ne_eq, b01_0, Bool.true_eq_false]
        rw [i4, decide_eq_true hy]
        simp (disch := omega) only [↓n_m1, ↓n_hid, q0, q1, q2, q3, q4, q5, q6, q7, q8, q9, q10, q11, q12, q13, q14, q15, q16, q17, q18, q19, q20, q21, q22, q23, q24, q25, q26, q27, q28, q29, q30, q31, q32, q33, q34, q35, q36, q37, q38, q39, q40, q41, q42, q43, q44, q45, q46, q47, q48, q49, q50, q51, q52, q53, q54, q55, q56, q57, q58, q59, q61, q62, q63, q64, q66, q67, q68, q69, q70, q71, q91, q93, q99, q100, q102, q104, q107, q108, q112, q114, q115, q119, q121, q124, q160, q200, q255, q640, q999, q1000, q2000, q4096, n_of, nI_ltI, nI_leI, nI_eq, nI_clamp, nI_add, pk_mul, n_sub, m1_eq, m1_eq2, m1_lt, m1_lt2, gdN, Nat.not_lt_zero, false_or, if_true, if_false, if_pos, if_neg, cond_true, cond_false, beq_self, and_self, true_and, and_true, not_true_eq_false, not_false_eq_true, ne_eq, b01_0, Bool.true_eq_false]
        rw [qq_e68 u2 4 (by decide), qq_o u2]
        refine q_laySmells (d := d + 15) u2 (show p < 5 by omega) ?_
        intro s6 f6 h6 hS6 hB6 _
        refine m_keepBreaths (d := d + 47) ?_
        intro s7 f7 hB7
        obtain ⟨f7', h7⟩ := QQ_m h6 (frN_f (J := []) f7 (by simp)) (by simp) (fun a z => scA_m (by simp at z; omega)) (by simp) (by rw [f7 57 (by simp)]; exact qq_x33 h6)
        rw [qq_e68 h7 4 (by decide), qq_o h7]
        refine q_laySmells (d := d + 15) h7 (show q < 5 by omega) ?_
        intro s8 f8 h8 hS8 hB8 e8
        rw [m_changedFromKept (d := d + 45) hg (qq_cm h8)]
        have ev : bits (fun k => gst g k && ! decide (s5 40 k = s5 41 k)) (gN g) = bits (fun k => gst g k && ! decide (s8 73 k = s8 74 k)) (gN g) := bits_eq fun k hk => by
          have e41 : s5 41 k = s2 40 k := by
            rw [f5 41 (by simp), e44, hB3 k (by omega)]
          have e74 : s8 74 k = s6 73 k := by
            rw [e8 74 (by simp) (by decide), hB7 k (by omega)]
          rw [e41, e74, hB5 k hk, hB2 k hk, hB6 k hk, hB8 k hk, qq_o h1, qq_o h4, brI_o (smI_o hg), brI_o (smI_o hg)]
        rw [ev]
        exact hK _ _ (fr_t f1 (fr_t f2' (fr_t f3' (fr_t f4 (fr_t f5' (fr_t u1 (fr_t f6 (fr_t f7' f8)))))))) h8
      · rw [rng5 (show p < 5 by omega), rng5n hy, e_M_unlike, q0]
        simp (disch := omega) only [↓n_m1, ↓n_hid, q0, q1, q2, q3, q4, q5, q6, q7, q8, q9, q10, q11, q12, q13, q14, q15, q16, q17, q18, q19, q20, q21, q22, q23, q24, q25, q26, q27, q28, q29, q30, q31, q32, q33, q34, q35, q36, q37, q38, q39, q40, q41, q42, q43, q44, q45, q46, q47, q48, q49, q50, q51, q52, q53, q54, q55, q56, q57, q58, q59, q61, q62, q63, q64, q66, q67, q68, q69, q70, q71, q91, q93, q99, q100, q102, q104, q107, q108, q112, q114, q115, q119, q121, q124, q160, q200, q255, q640, q999, q1000, q2000, q4096, n_of, nI_ltI, nI_leI, nI_eq, nI_clamp, nI_add, pk_mul, n_sub, m1_eq, m1_eq2, m1_lt, m1_lt2, gdN, Nat.not_lt_zero, false_or, if_true, if_false, if_pos, if_neg, cond_true, cond_false, beq_self, and_self, true_and, and_true, not_true_eq_false, not_false_eq_true, ne_eq, q_r0 h, hR]
        rw [i4, decide_eq_true hx]
        simp (disch := omega) only [↓n_m1, ↓n_hid, q0, q1, q2, q3, q4, q5, q6, q7, q8, q9, q10, q11, q12, q13, q14, q15, q16, q17, q18, q19, q20, q21, q22, q23, q24, q25, q26, q27, q28, q29, q30, q31, q32, q33, q34, q35, q36, q37, q38, q39, q40, q41, q42, q43, q44, q45, q46, q47, q48, q49, q50, q51, q52, q53, q54, q55, q56, q57, q58, q59, q61, q62, q63, q64, q66, q67, q68, q69, q70, q71, q91, q93, q99, q100, q102, q104, q107, q108, q112, q114, q115, q119, q121, q124, q160, q200, q255, q640, q999, q1000, q2000, q4096, n_of, nI_ltI, nI_leI, nI_eq, nI_clamp, nI_add, pk_mul, n_sub, m1_eq, m1_eq2, m1_lt, m1_lt2, gdN, Nat.not_lt_zero, false_or, if_true, if_false, if_pos, if_neg, cond_true, cond_false, beq_self, and_self, true_and, and_true, not_true_eq_false, not_false_eq_true, ne_eq, b01_0, Bool.true_eq_false]
        rw [i4, decide_eq_false hy]
        simp (disch := omega) only [↓n_m1, ↓n_hid, q0, q1, q2, q3, q4, q5, q6, q7, q8, q9, q10, q11, q12, q13, q14, q15, q16, q17, q18, q19, q20, q21, q22, q23, q24, q25, q26, q27, q28, q29, q30, q31, q32, q33, q34, q35, q36, q37, q38, q39, q40, q41, q42, q43, q44, q45, q46, q47, q48, q49, q50, q51, q52, q53, q54, q55, q56, q57, q58, q59, q61, q62, q63, q64, q66, q67, q68, q69, q70, q71, q91, q93, q99, q100, q102, q104, q107, q108, q112, q114, q115, q119, q121, q124, q160, q200, q255, q640, q999, q1000, q2000, q4096, n_of, nI_ltI, nI_leI, nI_eq, nI_clamp, nI_add, pk_mul, n_sub, m1_eq, m1_eq2, m1_lt, m1_lt2, gdN, Nat.not_lt_zero, false_or, if_true, if_false, if_pos, if_neg, cond_true, cond_false, beq_self, and_self, true_and, and_true, not_true_eq_false, not_false_eq_true, ne_eq, b01_0]
        exact hK _ _ t1 t2
    · rw [rng5n hx, e_M_unlike, q0]
      simp (disch := omega) only [↓n_m1, ↓n_hid, q0, q1, q2, q3, q4, q5, q6, q7, q8, q9, q10, q11, q12, q13, q14, q15, q16, q17, q18, q19, q20, q21, q22, q23, q24, q25, q26, q27, q28, q29, q30, q31, q32, q33, q34, q35, q36, q37, q38, q39, q40, q41, q42, q43, q44, q45, q46, q47, q48, q49, q50, q51, q52, q53, q54, q55, q56, q57, q58, q59, q61, q62, q63, q64, q66, q67, q68, q69, q70, q71, q91, q93, q99, q100, q102, q104, q107, q108, q112, q114, q115, q119, q121, q124, q160, q200, q255, q640, q999, q1000, q2000, q4096, n_of, nI_ltI, nI_leI, nI_eq, nI_clamp, nI_add, pk_mul, n_sub, m1_eq, m1_eq2, m1_lt, m1_lt2, gdN, Nat.not_lt_zero, false_or, if_true, if_false, if_pos, if_neg, cond_true, cond_false, beq_self, and_self, true_and, and_true, not_true_eq_false, not_false_eq_true, ne_eq, q_r0 h, hR]
      rw [i4, decide_eq_false hx]
      simp (disch := omega) only [↓n_m1, ↓n_hid, q0, q1, q2, q3, q4, q5, q6, q7, q8, q9, q10, q11, q12, q13, q14, q15, q16, q17, q18, q19, q20, q21, q22, q23, q24, q25, q26, q27, q28, q29, q30, q31, q32, q33, q34, q35, q36, q37, q38, q39, q40, q41, q42, q43, q44, q45, q46, q47, q48, q49, q50, q51, q52, q53, q54, q55, q56, q57, q58, q59, q61, q62, q63, q64, q66, q67, q68, q69, q70, q71, q91, q93, q99, q100, q102, q104, q107, q108, q112, q114, q115, q119, q121, q124, q160, q200, q255, q640, q999, q1000, q2000, q4096, n_of, nI_ltI, nI_leI, nI_eq, nI_clamp, nI_add, pk_mul, n_sub, m1_eq, m1_eq2, m1_lt, m1_lt2, gdN, Nat.not_lt_zero, false_or, if_true, if_false, if_pos, if_neg, cond_true, cond_false, beq_self, and_self, true_and, and_true, not_true_eq_false, not_false_eq_true, ne_eq, b01_0]
      exact hK _ _ t1 t2
  · rw [decide_eq_false hR, if_neg (by decide)]
    rw [e_M_unlike, q0]
    simp (disch := omega) only [↓n_m1, ↓n_hid, q0, q1, q2, q3, q4, q5, q6, q7, q8, q9, q10, q11, q12, q13, q14, q15, q16, q17, q18, q19, q20, q21, q22, q23, q24, q25, q26, q27, q28, q29, q30, q31, q32, q33, q34, q35, q36, q37, q38, q39, q40, q41, q42, q43, q44, q45, q46, q47, q48, q49, q50, q51, q52, q53, q54, q55, q56, q57, q58, q59, q61, q62, q63, q64, q66, q67, q68, q69, q70, q71, q91, q93, q99, q100, q102, q104, q107, q108, q112, q114, q115, q119, q121, q124, q160, q200, q255, q640, q999, q1000, q2000, q4096, n_of, nI_ltI, nI_leI, nI_eq, nI_clamp, nI_add, pk_mul, n_sub, m1_eq, m1_eq2, m1_lt, m1_lt2, gdN, Nat.not_lt_zero, false_or, if_true, if_false, if_pos, if_neg, cond_true, cond_false, beq_self, and_self, true_and, and_true, not_true_eq_false, not_false_eq_true, ne_eq, q_r0 h, hR]
    exact hK _ _ t1 t2
theorem f_follow {K : Int32 → Int32 → Mem → Prop} (h : QQ c g W P Q lv Ll w rn dl hr o s) {x y z : Int32} (hK : ∀ v s', fr c Ll s s' → QQ c g W P Q lv Ll w rn dl hr o s' → K v v s') :
    wI (wp (d + 50)) m_X_follow [.ref 0, .int x, .int y, .int z] s (fun v s1 => wI (wp (d + 50)) m_M_follow [.ref 57, .int x, .int y, .int z] s1 (fun v' s2 => K v v' s2)) := by
  have hg := qq_gOk h
  have h20 := gN_le hg
  have hL := C_le (qq_isC h)
  have i4 : ∀ {z : Int32} {t : Mem} {K : Int32 → Mem → Prop}, wI (wp (d + 49)) m_M_isIn [.long z.toInt64, .long 0, .long 4] t K = K (b01 (decide (0 ≤ z.toInt ∧ z.toInt ≤ 4))) t := fun {z t K} => m_isIn (d := d + 48) (n := 4) (by decide)
  have i1 : ∀ {z : Int32} {t : Mem} {K : Int32 → Mem → Prop}, wI (wp (d + 49)) m_M_isIn [.long z.toInt64, .long 0, .long 1] t K = K (b01 (decide (0 ≤ z.toInt ∧ z.toInt ≤ 1))) t := fun {z t K} => m_isIn (d := d + 48) (n := 1) (by decide)
  obtain ⟨t1, t2⟩ := q_thr h (x := nI 0)
  rw [e_X_follow, qq_ref h]
  simp (disch := omega) only [↓n_m1, ↓n_hid, q0, q1, q2, q3, q4, q5, q6, q7, q8, q9, q10, q11, q12, q13, q14, q15, q16, q17, q18, q19, q20, q21, q22, q23, q24, q25, q26, q27, q28, q29, q30, q31, q32, q33, q34, q35, q36, q37, q38, q39, q40, q41, q42, q43, q44, q45, q46, q47, q48, q49, q50, q51, q52, q53, q54, q55, q56, q57, q58, q59, q61, q62, q63, q64, q66, q67, q68, q69, q70, q71, q91, q93, q99, q100, q102, q104, q107, q108, q112, q114, q115, q119, q121, q124, q160, q200, q255, q640, q999, q1000, q2000, q4096, n_of, nI_ltI, nI_leI, nI_eq, nI_clamp, nI_add, pk_mul, n_sub, m1_eq, m1_eq2, m1_lt, m1_lt2, gdN, Nat.not_lt_zero, false_or, if_true, if_false, if_pos, if_neg, cond_true, cond_false, beq_self, and_self, true_and, and_true, not_true_eq_false, not_false_eq_true, ne_eq, Nat.add_sub_cancel, C_b (qq_isC h)]
  rw [c_streetOf (d := d + 46) (qq_isC h) hg (qq_cf h).1]
  cases e : stc g x with
  | none =>
    simp only [oI, if_true]
    rw [e_M_follow, q0, m_streetAt (d := d + 47) hg (qq_cm t2), e]
    simp only [oI, n_m1, if_true]
    exact hK _ _ t1 t2
  | some k =>
    obtain ⟨hk, hst⟩ := stc_some e
    simp only [oI]
    simp (disch := omega) only [↓n_m1, ↓n_hid, q0, q1, q2, q3, q4, q5, q6, q7, q8, q9, q10, q11, q12, q13, q14, q15, q16, q17, q18, q19, q20, q21, q22, q23, q24, q25, q26, q27, q28, q29, q30, q31, q32, q33, q34, q35, q36, q37, q38, q39, q40, q41, q42, q43, q44, q45, q46, q47, q48, q49, q50, q51, q52, q53, q54, q55, q56, q57, q58, q59, q61, q62, q63, q64, q66, q67, q68, q69, q70, q71, q91, q93, q99, q100, q102, q104, q107, q108, q112, q114, q115, q119, q121, q124, q160, q200, q255, q640, q999, q1000, q2000, q4096, n_of, nI_ltI, nI_leI, nI_eq, nI_clamp, nI_add, pk_mul, n_sub, m1_eq, m1_eq2, m1_lt, m1_lt2, gdN, Nat.not_lt_zero, false_or, if_true, if_false, if_pos, if_neg, cond_true, cond_false, beq_self, and_self, true_and, and_true, not_true_eq_false, not_false_eq_true, ne_eq]
    rw [c_isKind (d := d + 48)]
    by_cases hy : 0 ≤ y.toInt ∧ y.toInt ≤ 4
    · obtain ⟨q, hq5, rfl⟩ := inN (n := 4) hy (by decide)
      rw [decide_eq_true hy]
      simp (disch := omega) only [↓n_m1, ↓n_hid, q0, q1, q2, q3, q4, q5, q6, q7, q8, q9, q10, q11, q12, q13, q14, q15, q16, q17, q18, q19, q20, q21, q22, q23, q24, q25, q26, q27, q28, q29, q30, q31, q32, q33, q34, q35, q36, q37, q38, q39, q40, q41, q42, q43, q44, q45, q46, q47, q48, q49, q50, q51, q52, q53, q54, q55, q56, q57, q58, q59, q61, q62, q63, q64, q66, q67, q68, q69, q70, q71, q91, q93, q99, q100, q102, q104, q107, q108, q112, q114, q115, q119, q121, q124, q160, q200, q255, q640, q999, q1000, q2000, q4096, n_of, nI_ltI, nI_leI, nI_eq, nI_clamp, nI_add, pk_mul, n_sub, m1_eq, m1_eq2, m1_lt, m1_lt2, gdN, Nat.not_lt_zero, false_or, if_true, if_false, if_pos, if_neg, cond_true, cond_false, beq_self, and_self, true_and, and_true, not_true_eq_false, not_false_eq_true, ne_eq, b01_0, Bool.true_eq_false]
      -- the reference, behind the class's part
      have mm : ∀ {s1 : Mem} {z : Int32} (j : Nat), j ≤ 1 → z = nI j → fr c Ll s s1 → QQ c g W P Q lv Ll w rn dl hr o s1 → ∀ v : Int32, v = (if j = 0 then nI ((flw g (fun v => smN g W (hr % 24) rn w (smI g (hr % 24) o) none v q) 20 k).1 / gC g * 10 + (flw g (fun v => smN g W (hr % 24) rn w (smI g (hr % 24) o) none v q) 20 k).1 % gC g) else nI (flw g (fun v => smN g W (hr % 24) rn w (smI g (hr % 24) o) none v q) 20 k).2) → (∀ s', fr c Ll s s' → QQ c g W P Q lv Ll w rn dl hr o s' → K v v s') →
          wI (wp (d + 50)) m_M_follow [.ref 57, .int x, .int (nI q), .int z] s1 (fun v' s2 => K v v' s2) := by
        intro s1 z j hj hz f1 h1 v hv hK
        subst hz
        obtain ⟨t1, t2⟩ := q_thr h1 (x := nI 0)
        rw [e_M_follow, q0, m_streetAt (d := d + 47) hg (qq_cm t2), e]
        simp only [oI]
        simp (disch := omega) only [↓n_m1, ↓n_hid, q0, q1, q2, q3, q4, q5, q6, q7, q8, q9, q10, q11, q12, q13, q14, q15, q16, q17, q18, q19, q20, q21, q22, q23, q24, q25, q26, q27, q28, q29, q30, q31, q32, q33, q34, q35, q36, q37, q38, q39, q40, q41, q42, q43, q44, q45, q46, q47, q48, q49, q50, q51, q52, q53, q54, q55, q56, q57, q58, q59, q61, q62, q63, q64, q66, q67, q68, q69, q70, q71, q91, q93, q99, q100, q102, q104, q107, q108, q112, q114, q115, q119, q121, q124, q160, q200, q255, q640, q999, q1000, q2000, q4096, n_of, nI_ltI, nI_leI, nI_eq, nI_clamp, nI_add, pk_mul, n_sub, m1_eq, m1_eq2, m1_lt, m1_lt2, gdN, Nat.not_lt_zero, false_or, if_true, if_false, if_pos, if_neg, cond_true, cond_false, beq_self, and_self, true_and, and_true, not_true_eq_false, not_false_eq_true, ne_eq]
        rw [i4, decide_eq_true hy]
        simp (disch := omega) only [↓n_m1, ↓n_hid, q0, q1, q2, q3, q4, q5, q6, q7, q8, q9, q10, q11, q12, q13, q14, q15, q16, q17, q18, q19, q20, q21, q22, q23, q24, q25, q26, q27, q28, q29, q30, q31, q32, q33, q34, q35, q36, q37, q38, q39, q40, q41, q42, q43, q44, q45, q46, q47, q48, q49, q50, q51, q52, q53, q54, q55, q56, q57, q58, q59, q61, q62, q63, q64, q66, q67, q68, q69, q70, q71, q91, q93, q99, q100, q102, q104, q107, q108, q112, q114, q115, q119, q121, q124, q160, q200, q255, q640, q999, q1000, q2000, q4096, n_of, nI_ltI, nI_leI, nI_eq, nI_clamp, nI_add, pk_mul, n_sub, m1_eq, m1_eq2, m1_lt, m1_lt2, gdN, Nat.not_lt_zero, false_or, if_true, if_false, if_pos, if_neg, cond_true, cond_false, beq_self, and_self, true_and, and_true, not_true_eq_false, not_false_eq_true, ne_eq, b01_0, Bool.true_eq_false]
        rw [i1, decide_eq_true (show 0 ≤ (nI j).toInt ∧ (nI j).toInt ≤ 1 by rw [n_i (by omega)]; omega)]
        simp (disch := omega) only [↓n_m1, ↓n_hid, q0, q1, q2, q3, q4, q5, q6, q7, q8, q9, q10, q11, q12, q13, q14, q15, q16, q17, q18, q19, q20, q21, q22, q23, q24, q25, q26, q27, q28, q29, q30, q31, q32, q33, q34, q35, q36, q37, q38, q39, q40, q41, q42, q43, q44, q45, q46, q47, q48, q49, q50, q51, q52, q53, q54, q55, q56, q57, q58, q59, q61, q62, q63, q64, q66, q67, q68, q69, q70, q71, q91, q93, q99, q100, q102, q104, q107, q108, q112, q114, q115, q119, q121, q124, q160, q200, q255, q640, q999, q1000, q2000, q4096, n_of, nI_ltI, nI_leI, nI_eq, nI_clamp, nI_add, pk_mul, n_sub, m1_eq, m1_eq2, m1_lt, m1_lt2, gdN, Nat.not_lt_zero, false_or, if_true, if_false, if_pos, if_neg, cond_true, cond_false, beq_self, and_self, true_and, and_true, not_true_eq_false, not_false_eq_true, ne_eq, b01_0, Bool.true_eq_false]
        refine q_layNow (d := d + 14) t2 ?_
        intro s2 f2 h2 hS hB _
        refine m_goFollow (d := d + 46) hg (qq_cm h2) (F := fun v => smX g W (hr % 24) rn w o none v q) (q := q) (by omega) (fun v hv => hS v q (by omega) (by omega)) (fun v => smX_99) hk hst ?_
        intro s3 f3 e43 e44
        obtain ⟨f3', h3⟩ := QQ_m h2 f3 (by simp) (by simp) (by simp) (by rw [f3.2 33 (by simp)]; exact qq_x33 h2)
        have ef : flw g (fun v => smX g W (hr % 24) rn w o none v q) 20 k = flw g (fun v => smN g W (hr % 24) rn w (smI g (hr % 24) o) none v q) 20 k := flw_e (fun v hv => smX_o hg hv) 20 k hk hst
        have hlt := flw_P (F := fun v => smN g W (hr % 24) rn w (smI g (hr % 24) o) none v q) hg 20 k hk hst
        have f := fr_t f1 (fr_t t1 (fr_t f2 f3'))
        rcases (show j = 0 ∨ j = 1 by omega) with rfl | rfl
        · simp (disch := omega) only [↓n_m1, ↓n_hid, q0, q1, q2, q3, q4, q5, q6, q7, q8, q9, q10, q11, q12, q13, q14, q15, q16, q17, q18, q19, q20, q21, q22, q23, q24, q25, q26, q27, q28, q29, q30, q31, q32, q33, q34, q35, q36, q37, q38, q39, q40, q41, q42, q43, q44, q45, q46, q47, q48, q49, q50, q51, q52, q53, q54, q55, q56, q57, q58, q59, q61, q62, q63, q64, q66, q67, q68, q69, q70, q71, q91, q93, q99, q100, q102, q104, q107, q108, q112, q114, q115, q119, q121, q124, q160, q200, q255, q640, q999, q1000, q2000, q4096, n_of, nI_ltI, nI_leI, nI_eq, nI_clamp, nI_add, pk_mul, n_sub, m1_eq, m1_eq2, m1_lt, m1_lt2, gdN, Nat.not_lt_zero, false_or, if_true, if_false, if_pos, if_neg, cond_true, cond_false, beq_self, and_self, true_and, and_true, not_true_eq_false, not_false_eq_true, ne_eq, e43, ef]
          rw [m_cellOf (d := d + 48) hg (qq_cm h3) hlt, hv, if_pos rfl]
          rw [hv, if_pos rfl] at hK
          exact hK _ f h3
        · simp (disch := omega) only [↓n_m1, ↓n_hid, q0, q1, q2, q3, q4, q5, q6, q7, q8, q9, q10, q11, q12, q13, q14, q15, q16, q17, q18, q19, q20, q21, q22, q23, q24, q25, q26, q27, q28, q29, q30, q31, q32, q33, q34, q35, q36, q37, q38, q39, q40, q41, q42, q43, q44, q45, q46, q47, q48, q49, q50, q51, q52, q53, q54, q55, q56, q57, q58, q59, q61, q62, q63, q64, q66, q67, q68, q69, q70, q71, q91, q93, q99, q100, q102, q104, q107, q108, q112, q114, q115, q119, q121, q124, q160, q200, q255, q640, q999, q1000, q2000, q4096, n_of, nI_ltI, nI_leI, nI_eq, nI_clamp, nI_add, pk_mul, n_sub, m1_eq, m1_eq2, m1_lt, m1_lt2, gdN, Nat.not_lt_zero, false_or, if_true, if_false, if_pos, if_neg, cond_true, cond_false, beq_self, and_self, true_and, and_true, not_true_eq_false, not_false_eq_true, ne_eq, e44, ef]
          rw [hv, if_neg (by decide)]
          rw [hv, if_neg (by decide)] at hK
          exact hK _ f h3
      by_cases hz : 0 ≤ z.toInt ∧ z.toInt ≤ 1
      · obtain ⟨j, hj1, rfl⟩ := inN (n := 1) hz (by decide)
        have hlt := flw_P (F := fun v => smN g W (hr % 24) rn w (smI g (hr % 24) o) none v q) hg 20 k hk hst
        rcases (show j = 0 ∨ j = 1 by omega) with rfl | rfl
        · simp (disch := omega) only [↓n_m1, ↓n_hid, q0, q1, q2, q3, q4, q5, q6, q7, q8, q9, q10, q11, q12, q13, q14, q15, q16, q17, q18, q19, q20, q21, q22, q23, q24, q25, q26, q27, q28, q29, q30, q31, q32, q33, q34, q35, q36, q37, q38, q39, q40, q41, q42, q43, q44, q45, q46, q47, q48, q49, q50, q51, q52, q53, q54, q55, q56, q57, q58, q59, q61, q62, q63, q64, q66, q67, q68, q69, q70, q71, q91, q93, q99, q100, q102, q104, q107, q108, q112, q114, q115, q119, q121, q124, q160, q200, q255, q640, q999, q1000, q2000, q4096, n_of, nI_ltI, nI_leI, nI_eq, nI_clamp, nI_add, pk_mul, n_sub, m1_eq, m1_eq2, m1_lt, m1_lt2, gdN, Nat.not_lt_zero, false_or, if_true, if_false, if_pos, if_neg, cond_true, cond_false, beq_self, and_self, true_and, and_true, not_true_eq_false, not_false_eq_true, ne_eq]
          rw [c_now (d := d + 47) (by omega), (qq_w h).1]
          refine q_blow (d := d + 41) h (qq_w h).2 ?_
          intro s1 f1 h1 n1 _
          rw [qq_ref h1]
          simp (disch := omega) only [↓n_m1, ↓n_hid, q0, q1, q2, q3, q4, q5, q6, q7, q8, q9, q10, q11, q12, q13, q14, q15, q16, q17, q18, q19, q20, q21, q22, q23, q24, q25, q26, q27, q28, q29, q30, q31, q32, q33, q34, q35, q36, q37, q38, q39, q40, q41, q42, q43, q44, q45, q46, q47, q48, q49, q50, q51, q52, q53, q54, q55, q56, q57, q58, q59, q61, q62, q63, q64, q66, q67, q68, q69, q70, q71, q91, q93, q99, q100, q102, q104, q107, q108, q112, q114, q115, q119, q121, q124, q160, q200, q255, q640, q999, q1000, q2000, q4096, n_of, nI_ltI, nI_leI, nI_eq, nI_clamp, nI_add, pk_mul, n_sub, m1_eq, m1_eq2, m1_lt, m1_lt2, gdN, Nat.not_lt_zero, false_or, if_true, if_false, if_pos, if_neg, cond_true, cond_false, beq_self, and_self, true_and, and_true, not_true_eq_false, not_false_eq_true, ne_eq, Nat.add_sub_cancel, C_b (qq_isC h)]
          rw [c_noseEnd (d := d + 42) (qq_isC h) hg n1 hk hst (by omega), qq_o h1, c_cellOf (d := d + 48) (qq_isC h) hg n1.2.1 hlt]
          exact mm 0 (by omega) rfl f1 h1 _ (if_pos rfl).symm (hK _)
        · simp (disch := omega) only [↓n_m1, ↓n_hid, q0, q1, q2, q3, q4, q5, q6, q7, q8, q9, q10, q11, q12, q13, q14, q15, q16, q17, q18, q19, q20, q21, q22, q23, q24, q25, q26, q27, q28, q29, q30, q31, q32, q33, q34, q35, q36, q37, q38, q39, q40, q41, q42, q43, q44, q45, q46, q47, q48, q49, q50, q51, q52, q53, q54, q55, q56, q57, q58, q59, q61, q62, q63, q64, q66, q67, q68, q69, q70, q71, q91, q93, q99, q100, q102, q104, q107, q108, q112, q114, q115, q119, q121, q124, q160, q200, q255, q640, q999, q1000, q2000, q4096, n_of, nI_ltI, nI_leI, nI_eq, nI_clamp, nI_add, pk_mul, n_sub, m1_eq, m1_eq2, m1_lt, m1_lt2, gdN, Nat.not_lt_zero, false_or, if_true, if_false, if_pos, if_neg, cond_true, cond_false, beq_self, and_self, true_and, and_true, not_true_eq_false, not_false_eq_true, ne_eq]
          rw [c_now (d := d + 47) (by omega), (qq_w h).1]
          refine q_blow (d := d + 41) h (qq_w h).2 ?_
          intro s1 f1 h1 n1 _
          rw [c_noseSteps (d := d + 42) (qq_isC h) hg n1 hk hst (by omega), qq_o h1]
          exact mm 1 (by omega) rfl f1 h1 _ (if_neg (by decide)).symm (hK _)
      · simp only [ne_n hz (show 0 ≤ 1 by decide) (by decide), ne_n hz (show 1 ≤ 1 by decide) (by decide), if_false]
        rw [e_M_follow, q0, m_streetAt (d := d + 47) hg (qq_cm t2), e]
        simp only [oI]
        simp (disch := omega) only [↓n_m1, ↓n_hid, q0, q1, q2, q3, q4, q5, q6, q7, q8, q9, q10, q11, q12, q13, q14, q15, q16, q17, q18, q19, q20, q21, q22, q23, q24, q25, q26, q27, q28, q29, q30, q31, q32, q33, q34, q35, q36, q37, q38, q39, q40, q41, q42, q43, q44, q45, q46, q47, q48, q49, q50, q51, q52, q53, q54, q55, q56, q57, q58, q59, q61, q62, q63, q64, q66, q67, q68, q69, q70, q71, q91, q93, q99, q100, q102, q104, q107, q108, q112, q114, q115, q119, q121, q124, q160, q200, q255, q640, q999, q1000, q2000, q4096, n_of, nI_ltI, nI_leI, nI_eq, nI_clamp, nI_add, pk_mul, n_sub, m1_eq, m1_eq2, m1_lt, m1_lt2, gdN, Nat.not_lt_zero, false_or, if_true, if_false, if_pos, if_neg, cond_true, cond_false, beq_self, and_self, true_and, and_true, not_true_eq_false, not_false_eq_true, ne_eq]
        rw [i4, decide_eq_true hy]
        simp (disch := omega) only [↓n_m1, ↓n_hid, q0, q1, q2, q3, q4, q5, q6, q7, q8, q9, q10, q11, q12, q13, q14, q15, q16, q17, q18, q19, q20, q21, q22, q23, q24, q25, q26, q27, q28, q29, q30, q31, q32, q33, q34, q35, q36, q37, q38, q39, q40, q41, q42, q43, q44, q45, q46, q47, q48, q49, q50, q51, q52, q53, q54, q55, q56, q57, q58, q59, q61, q62, q63, q64, q66, q67, q68, q69, q70, q71, q91, q93, q99, q100, q102, q104, q107, q108, q112, q114, q115, q119, q121, q124, q160, q200, q255, q640, q999, q1000, q2000, q4096, n_of, nI_ltI, nI_leI, nI_eq, nI_clamp, nI_add, pk_mul, n_sub, m1_eq, m1_eq2, m1_lt, m1_lt2, gdN, Nat.not_lt_zero, false_or, if_true, if_false, if_pos, if_neg, cond_true, cond_false, beq_self, and_self, true_and, and_true, not_true_eq_false, not_false_eq_true, ne_eq, b01_0, Bool.true_eq_false]
        rw [i1, decide_eq_false hz]
        simp (disch := omega) only [↓n_m1, ↓n_hid, q0, q1, q2, q3, q4, q5, q6, q7, q8, q9, q10, q11, q12, q13, q14, q15, q16, q17, q18, q19, q20, q21, q22, q23, q24, q25, q26, q27, q28, q29, q30, q31, q32, q33, q34, q35, q36, q37, q38, q39, q40, q41, q42, q43, q44, q45, q46, q47, q48, q49, q50, q51, q52, q53, q54, q55, q56, q57, q58, q59, q61, q62, q63, q64, q66, q67, q68, q69, q70, q71, q91, q93, q99, q100, q102, q104, q107, q108, q112, q114, q115, q119, q121, q124, q160, q200, q255, q640, q999, q1000, q2000, q4096, n_of, nI_ltI, nI_leI, nI_eq, nI_clamp, nI_add, pk_mul, n_sub, m1_eq, m1_eq2, m1_lt, m1_lt2, gdN, Nat.not_lt_zero, false_or, if_true, if_false, if_pos, if_neg, cond_true, cond_false, beq_self, and_self, true_and, and_true, not_true_eq_false, not_false_eq_true, ne_eq, b01_0]
        exact hK _ _ t1 t2
    · rw [decide_eq_false hy]
      simp (disch := omega) only [↓n_m1, ↓n_hid, q0, q1, q2, q3, q4, q5, q6, q7, q8, q9, q10, q11, q12, q13, q14, q15, q16, q17, q18, q19, q20, q21, q22, q23, q24, q25, q26, q27, q28, q29, q30, q31, q32, q33, q34, q35, q36, q37, q38, q39, q40, q41, q42, q43, q44, q45, q46, q47, q48, q49, q50, q51, q52, q53, q54, q55, q56, q57, q58, q59, q61, q62, q63, q64, q66, q67, q68, q69, q70, q71, q91, q93, q99, q100, q102, q104, q107, q108, q112, q114, q115, q119, q121, q124, q160, q200, q255, q640, q999, q1000, q2000, q4096, n_of, nI_ltI, nI_leI, nI_eq, nI_clamp, nI_add, pk_mul, n_sub, m1_eq, m1_eq2, m1_lt, m1_lt2, gdN, Nat.not_lt_zero, false_or, if_true, if_false, if_pos, if_neg, cond_true, cond_false, beq_self, and_self, true_and, and_true, not_true_eq_false, not_false_eq_true, ne_eq, b01_0]
      rw [e_M_follow, q0, m_streetAt (d := d + 47) hg (qq_cm t2), e]
      simp only [oI]
      simp (disch := omega) only [↓n_m1, ↓n_hid, q0, q1, q2, q3, q4, q5, q6, q7, q8, q9, q10, q11, q12, q13, q14, q15, q16, q17, q18, q19, q20, q21, q22, q23, q24, q25, q26, q27, q28, q29, q30, q31, q32, q33, q34, q35, q36, q37, q38, q39, q40, q41, q42, q43, q44, q45, q46, q47, q48, q49, q50, q51, q52, q53, q54, q55, q56, q57, q58, q59, q61, q62, q63, q64, q66, q67, q68, q69, q70, q71, q91, q93, q99, q100, q102, q104, q107, q108, q112, q114, q115, q119, q121, q124, q160, q200, q255, q640, q999, q1000, q2000, q4096, n_of, nI_ltI, nI_leI, nI_eq, nI_clamp, nI_add, pk_mul, n_sub, m1_eq, m1_eq2, m1_lt, m1_lt2, gdN, Nat.not_lt_zero, false_or, if_true, if_false, if_pos, if_neg, cond_true, cond_false, beq_self, and_self, true_and, and_true, not_true_eq_false, not_false_eq_true, ne_eq]
      rw [i4, decide_eq_false hy]
      simp (disch := omega) only [↓n_m1, ↓n_hid, q0, q1, q2, q3, q4, q5, q6, q7, q8, q9, q10, q11, q12, q13, q14, q15, q16, q17, q18, q19, q20, q21, q22, q23, q24, q25, q26, q27, q28, q29, q30, q31, q32, q33, q34, q35, q36, q37, q38, q39, q40, q41, q42, q43, q44, q45, q46, q47, q48, q49, q50, q51, q52, q53, q54, q55, q56, q57, q58, q59, q61, q62, q63, q64, q66, q67, q68, q69, q70, q71, q91, q93, q99, q100, q102, q104, q107, q108, q112, q114, q115, q119, q121, q124, q160, q200, q255, q640, q999, q1000, q2000, q4096, n_of, nI_ltI, nI_leI, nI_eq, nI_clamp, nI_add, pk_mul, n_sub, m1_eq, m1_eq2, m1_lt, m1_lt2, gdN, Nat.not_lt_zero, false_or, if_true, if_false, if_pos, if_neg, cond_true, cond_false, beq_self, and_self, true_and, and_true, not_true_eq_false, not_false_eq_true, ne_eq, b01_0]
      exact hK _ _ t1 t2
end
