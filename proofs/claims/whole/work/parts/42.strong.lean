/-! strongest and silent: the loops -/
section
variable {d c : Nat} {g : Gph} {W : Wth} {rn : Bool} {w dl : Nat}
def strF (F : Nat → Nat) (dl q : Nat) (b : Option Nat) : Option Nat :=
  if smd dl (F q) = true then (match b with
    | none => some q
    | some k => if F k < F q then some q else some k) else b
def strM (F : Nat → Nat) : Option Nat → Nat
  | none => 0
  | some k => F k
theorem c_strongest_l {K : Int32 → Mem → Prop} (hcc : isC c) (hg : gOk g) {s : Mem} {hr : Nat} (hn : NoC c g W rn w dl hr s) (hdl : dl ≤ 50) {p : Nat} (hp : p < gN g) {F : Nat → Nat} (hFe : ∀ q, smN g W (hr % 24) rn w (smI g (hr % 24) (s 34 4)) none p q = F q) : ∀ (n i : Nat) (b : Option Nat) (v1 v6 : Value), i + n = 5 →
    RnI (d + 5) m_X_strongest K 36 [.ref 0, v1, .int (nI p), .int (oI b), .int (nI (strM F b)), .int (nI i), v6] [] s = K (oI (itr (fun q b => strF F dl q b) n i b)) s := by
  obtain ⟨h1, h2, h3, h4, h5, h6⟩ := hn
  have hS := hg.2.2.1
  have h20 := gN_le hg
  have o6 : tb (smI g (hr % 24) (s 34 4)) 6 = (none : Option (Nat × Nat)).isSome := by
    rw [tb_smI hg, decide_eq_false (show ¬ 6 < gS g by omega), Bool.false_and, Bool.and_false]; rfl
  intro n
  induction n with
  | zero =>
    intro i b v1 v6 hi
    rw [r_X_strongest_36]
    simp (disch := omega) only [↓n_m1, ↓n_hid, q0, q1, q2, q3, q4, q5, q6, q7, q8, q9, q10, q11, q12, q13, q14, q15, q16, q17, q18, q19, q20, q21, q22, q23, q24, q25, q26, q27, q28, q29, q30, q31, q32, q33, q34, q35, q36, q37, q38, q39, q40, q41, q42, q43, q44, q45, q46, q47, q48, q49, q50, q51, q52, q53, q54, q55, q56, q57, q58, q59, q61, q62, q63, q64, q66, q67, q68, q69, q70, q71, q91, q93, q99, q100, q102, q104, q107, q108, q112, q114, q115, q119, q121, q124, q160, q200, q255, q640, q999, q1000, q2000, q4096, n_of, nI_ltI, nI_leI, nI_eq, nI_clamp, nI_add, pk_mul, n_sub, m1_eq, m1_eq2, m1_lt, m1_lt2, gdN, Nat.not_lt_zero, false_or, if_true, if_false, if_pos, if_neg, cond_true, cond_false, beq_self, and_self, true_and, and_true, not_true_eq_false, not_false_eq_true, ne_eq]
    rfl
  | succ n ih =>
    intro i b v1 v6 hi
    have hl := fun q => smN_le (g := g) (W := W) (h := hr % 24) (rn := rn) (w := w) (o := smI g (hr % 24) (s 34 4)) (ex := none) (k := p) (q := q)
    have hli := hl i
    rw [r_X_strongest_36, c_smelling (d := d + 1) hcc hg h1 h2 h3 h4, c_greatest (d := d + 2) hg h5 o6 hp (show i < 5 by omega) (fun _ _ z => by simp at z), c_isSmelled (d := d + 4) hli h5.2.1 hdl]
    show _ = K (oI (itr (fun q b => strF F dl q b) n (i + 1) (strF F dl i b))) s
    have hFl : ∀ q, F q ≤ 99 := fun q => by rw [← hFe]; exact hl q
    unfold strF
    simp (disch := omega) only [↓n_m1, ↓n_hid, q0, q1, q2, q3, q4, q5, q6, q7, q8, q9, q10, q11, q12, q13, q14, q15, q16, q17, q18, q19, q20, q21, q22, q23, q24, q25, q26, q27, q28, q29, q30, q31, q32, q33, q34, q35, q36, q37, q38, q39, q40, q41, q42, q43, q44, q45, q46, q47, q48, q49, q50, q51, q52, q53, q54, q55, q56, q57, q58, q59, q61, q62, q63, q64, q66, q67, q68, q69, q70, q71, q91, q93, q99, q100, q102, q104, q107, q108, q112, q114, q115, q119, q121, q124, q160, q200, q255, q640, q999, q1000, q2000, q4096, n_of, nI_ltI, nI_leI, nI_eq, nI_clamp, nI_add, pk_mul, n_sub, m1_eq, m1_eq2, m1_lt, m1_lt2, gdN, Nat.not_lt_zero, false_or, if_true, if_false, if_pos, if_neg, cond_true, cond_false, beq_self, and_self, true_and, and_true, not_true_eq_false, not_false_eq_true, ne_eq, b01_0, hFe]
    cases hs : smd dl (F i) with
    | false => simp only [if_true, Bool.false_eq_true, if_false]; exact ih (i + 1) b _ _ (by omega)
    | true =>
      have h0 : 0 < F i := (of_decide_eq_true hs).1
      simp only [Bool.true_eq_false, if_false, if_true]
      cases b with
      | none =>
        have e : nI (strM F none) < nI (F i) := (nI_ltI (by show 0 < _; omega) (by have := hFl i; omega)).mpr h0
        simp only [e, if_true]
        exact ih (i + 1) (some i) _ _ (by omega)
      | some k =>
        have hk := hFl k
        have hi' := hFl i
        have e : (nI (strM F (some k)) < nI (F i)) = (F k < F i) := propext (nI_ltI (by show F k < _; omega) (by omega))
        simp only [e]
        by_cases hc : F k < F i
        · simp only [hc, if_true]
          exact ih (i + 1) (some i) _ _ (by omega)
        · simp only [hc, if_false]
          exact ih (i + 1) (some k) _ _ (by omega)
theorem m_strongest_l {K : Int32 → Mem → Prop} {s : Mem} {F : Nat → Nat → Nat} (hF : SmM F s) (hFl : ∀ k q, F k q ≤ 99) (hd : s 68 3 = nI dl) (hdl : dl ≤ 50) {p : Nat} (hp : p < 20) : ∀ (n i : Nat) (b : Option Nat) (v1 : Value), i + n = 5 → (∀ k, b = some k → k < 5) →
    RnI (d + 2) m_M_strongest K 27 [.ref 57, v1, .int (nI p), .int (oI b), .int (nI i)] [] s = K (oI (itr (fun q b => strF (F p) dl q b) n i b)) s := by
  intro n
  induction n with
  | zero =>
    intro i b v1 hi hb
    rw [r_M_strongest_27]
    simp (disch := omega) only [↓n_m1, ↓n_hid, q0, q1, q2, q3, q4, q5, q6, q7, q8, q9, q10, q11, q12, q13, q14, q15, q16, q17, q18, q19, q20, q21, q22, q23, q24, q25, q26, q27, q28, q29, q30, q31, q32, q33, q34, q35, q36, q37, q38, q39, q40, q41, q42, q43, q44, q45, q46, q47, q48, q49, q50, q51, q52, q53, q54, q55, q56, q57, q58, q59, q61, q62, q63, q64, q66, q67, q68, q69, q70, q71, q91, q93, q99, q100, q102, q104, q107, q108, q112, q114, q115, q119, q121, q124, q160, q200, q255, q640, q999, q1000, q2000, q4096, n_of, nI_ltI, nI_leI, nI_eq, nI_clamp, nI_add, pk_mul, n_sub, m1_eq, m1_eq2, m1_lt, m1_lt2, gdN, Nat.not_lt_zero, false_or, if_true, if_false, if_pos, if_neg, cond_true, cond_false, beq_self, and_self, true_and, and_true, not_true_eq_false, not_false_eq_true, ne_eq]
    rfl
  | succ n ih =>
    intro i b v1 hi hb
    have hi' := hFl p i
    rw [r_M_strongest_27, m_isSmelled (d := d + 1) hF hFl hd hdl hp (show i < 5 by omega)]
    show _ = K (oI (itr _ n (i + 1) (strF (F p) dl i b))) s
    unfold strF
    simp (disch := omega) only [↓n_m1, ↓n_hid, q0, q1, q2, q3, q4, q5, q6, q7, q8, q9, q10, q11, q12, q13, q14, q15, q16, q17, q18, q19, q20, q21, q22, q23, q24, q25, q26, q27, q28, q29, q30, q31, q32, q33, q34, q35, q36, q37, q38, q39, q40, q41, q42, q43, q44, q45, q46, q47, q48, q49, q50, q51, q52, q53, q54, q55, q56, q57, q58, q59, q61, q62, q63, q64, q66, q67, q68, q69, q70, q71, q91, q93, q99, q100, q102, q104, q107, q108, q112, q114, q115, q119, q121, q124, q160, q200, q255, q640, q999, q1000, q2000, q4096, n_of, nI_ltI, nI_leI, nI_eq, nI_clamp, nI_add, pk_mul, n_sub, m1_eq, m1_eq2, m1_lt, m1_lt2, gdN, Nat.not_lt_zero, false_or, if_true, if_false, if_pos, if_neg, cond_true, cond_false, beq_self, and_self, true_and, and_true, not_true_eq_false, not_false_eq_true, ne_eq, b01_0]
    cases hs : smd dl (F p i) with
    | false => simp only [if_true, Bool.false_eq_true, if_false]; exact ih (i + 1) b _ (by omega) hb
    | true =>
      simp only [Bool.true_eq_false, if_false, if_true]
      cases b with
      | none =>
        simp only [oI, if_true]
        exact ih (i + 1) (some i) _ (by omega) (fun k e => by injection e with e; omega)
      | some k =>
        have hk5 := hb k rfl
        have hk := hFl p k
        simp only [oI]
        simp (disch := omega) only [↓n_m1, ↓n_hid, q0, q1, q2, q3, q4, q5, q6, q7, q8, q9, q10, q11, q12, q13, q14, q15, q16, q17, q18, q19, q20, q21, q22, q23, q24, q25, q26, q27, q28, q29, q30, q31, q32, q33, q34, q35, q36, q37, q38, q39, q40, q41, q42, q43, q44, q45, q46, q47, q48, q49, q50, q51, q52, q53, q54, q55, q56, q57, q58, q59, q61, q62, q63, q64, q66, q67, q68, q69, q70, q71, q91, q93, q99, q100, q102, q104, q107, q108, q112, q114, q115, q119, q121, q124, q160, q200, q255, q640, q999, q1000, q2000, q4096, n_of, nI_ltI, nI_leI, nI_eq, nI_clamp, nI_add, pk_mul, n_sub, m1_eq, m1_eq2, m1_lt, m1_lt2, gdN, Nat.not_lt_zero, false_or, if_true, if_false, if_pos, if_neg, cond_true, cond_false, beq_self, and_self, true_and, and_true, not_true_eq_false, not_false_eq_true, ne_eq, hF p i hp (by omega), hF p k hp hk5]
        by_cases hc : F p k < F p i
        · simp only [hc, if_true]
          exact ih (i + 1) (some i) _ (by omega) (fun k e => by injection e with e; omega)
        · simp only [hc, if_false]
          exact ih (i + 1) (some k) _ (by omega) hb
end
