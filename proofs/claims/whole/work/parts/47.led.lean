section
variable {d c : Nat} {g : Gph}
def anyB (p : Nat → Bool) : Nat → Bool
  | 0 => false
  | n + 1 => anyB p n || p n
/-- whether a source of the kind, that smells now, stands there -/
def ldB (g : Gph) (h : Nat) (o : Int32) (q e : Nat) : Bool := anyB (fun i => (tb o i && tml g h i) && (decide (git g i 0 = q) && decide (gsp g i = e))) (gS g)
theorem c_sourcePlaces {K : Int32 → Mem → Prop} (hcc : isC c) (hg : gOk g) {s : Mem} (hc : CityC c g s) {h q : Nat} {o : Int32} (hq : q < 5) (hK : ∀ x, (∀ e, tb x e = ldB g h o q e) → K x s) : wI (wp (d + 5)) m_C_sourcePlaces [.ref c, .int (smI g h o), .int (nI q)] s K := by
  have hS := hg.2.2.1
  have h20 := gN_le hg
  have lp : ∀ (n i : Nat) (x : Int32), i + n = gS g → (∀ e, tb x e = anyB (fun i => (tb o i && tml g h i) && (decide (git g i 0 = q) && decide (gsp g i = e))) i) → RnI (d + 4) m_C_sourcePlaces K 5 [.ref c, .int (smI g h o), .int (nI q), .int x, .int (nI i)] [] s := by
    intro n
    induction n with
    | zero =>
      intro i x hi hx
      obtain rfl : i = gS g := by omega
      rw [r_C_sourcePlaces_5, hc.2.2.1]
      simp (disch := omega) only [↓n_m1, ↓n_hid, q0, q1, q2, q3, q4, q5, q6, q7, q8, q9, q10, q11, q12, q13, q14, q15, q16, q17, q18, q19, q20, q21, q22, q23, q24, q25, q26, q27, q28, q29, q30, q31, q32, q33, q34, q35, q36, q37, q38, q39, q40, q41, q42, q43, q44, q45, q46, q47, q48, q49, q50, q51, q52, q53, q54, q55, q56, q57, q58, q59, q61, q62, q63, q64, q66, q67, q68, q69, q70, q71, q91, q93, q99, q100, q102, q104, q107, q108, q112, q114, q115, q119, q121, q124, q160, q200, q255, q640, q999, q1000, q2000, q4096, n_of, nI_ltI, nI_leI, nI_eq, nI_clamp, nI_add, pk_mul, n_sub, m1_eq, m1_eq2, m1_lt, m1_lt2, gdN, Nat.not_lt_zero, false_or, if_true, if_false, if_pos, if_neg, cond_true, cond_false, beq_self, and_self, true_and, and_true, not_true_eq_false, not_false_eq_true, ne_eq, C_b hcc]
      exact hK x hx
    | succ n ih =>
      intro i x hi hx
      have hit := (hg.2.2.2.2.2 i (by omega)).1
      have hsp := gsp_lt hg (show i < gS g by omega)
      rw [r_C_sourcePlaces_5, hc.2.2.1]
      simp (disch := omega) only [↓n_m1, ↓n_hid, q0, q1, q2, q3, q4, q5, q6, q7, q8, q9, q10, q11, q12, q13, q14, q15, q16, q17, q18, q19, q20, q21, q22, q23, q24, q25, q26, q27, q28, q29, q30, q31, q32, q33, q34, q35, q36, q37, q38, q39, q40, q41, q42, q43, q44, q45, q46, q47, q48, q49, q50, q51, q52, q53, q54, q55, q56, q57, q58, q59, q61, q62, q63, q64, q66, q67, q68, q69, q70, q71, q91, q93, q99, q100, q102, q104, q107, q108, q112, q114, q115, q119, q121, q124, q160, q200, q255, q640, q999, q1000, q2000, q4096, n_of, nI_ltI, nI_leI, nI_eq, nI_clamp, nI_add, pk_mul, n_sub, m1_eq, m1_eq2, m1_lt, m1_lt2, gdN, Nat.not_lt_zero, false_or, if_true, if_false, if_pos, if_neg, cond_true, cond_false, beq_self, and_self, true_and, and_true, not_true_eq_false, not_false_eq_true, ne_eq, C_b hcc, sh_b (show i < 32 by omega), b01_0, tb_smI hg, decide_eq_true (show i < gS g by omega), Bool.true_and]
      rw [c_item (d := d + 2) hcc hg hc (by omega) (by omega)]
      simp (disch := omega) only [↓n_m1, ↓n_hid, q0, q1, q2, q3, q4, q5, q6, q7, q8, q9, q10, q11, q12, q13, q14, q15, q16, q17, q18, q19, q20, q21, q22, q23, q24, q25, q26, q27, q28, q29, q30, q31, q32, q33, q34, q35, q36, q37, q38, q39, q40, q41, q42, q43, q44, q45, q46, q47, q48, q49, q50, q51, q52, q53, q54, q55, q56, q57, q58, q59, q61, q62, q63, q64, q66, q67, q68, q69, q70, q71, q91, q93, q99, q100, q102, q104, q107, q108, q112, q114, q115, q119, q121, q124, q160, q200, q255, q640, q999, q1000, q2000, q4096, n_of, nI_ltI, nI_leI, nI_eq, nI_clamp, nI_add, pk_mul, n_sub, m1_eq, m1_eq2, m1_lt, m1_lt2, gdN, Nat.not_lt_zero, false_or, if_true, if_false, if_pos, if_neg, cond_true, cond_false, beq_self, and_self, true_and, and_true, not_true_eq_false, not_false_eq_true, ne_eq]
      rw [c_sourcePlace (d := d + 1) hcc hg hc (by omega), bit_e]
      cases ho : tb o i && tml g h i with
      | false =>
        simp only [if_true]
        refine ih (i + 1) x (by omega) fun e => ?_
        show _ = (anyB _ i || ((tb o i && tml g h i) && (decide (git g i 0 = q) && decide (gsp g i = e))))
        rw [ho, Bool.false_and, Bool.or_false]
        exact hx e
      | true =>
        simp only [Bool.true_eq_false, if_false]
        by_cases hk : git g i 0 = q
        · simp only [hk, if_true]
          refine ih (i + 1) _ (by omega) fun e => ?_
          show _ = (anyB _ i || ((tb o i && tml g h i) && (decide (git g i 0 = q) && decide (gsp g i = e))))
          rw [ho, decide_eq_true hk, Bool.true_and, Bool.true_and, tb_or, tb_bit (by omega), hx e]
        · simp only [hk, if_false]
          refine ih (i + 1) x (by omega) fun e => ?_
          show _ = (anyB _ i || ((tb o i && tml g h i) && (decide (git g i 0 = q) && decide (gsp g i = e))))
          rw [ho, decide_eq_false hk, Bool.false_and, Bool.and_false, Bool.or_false]
          exact hx e
  rw [e_C_sourcePlaces, q0]
  exact lp (gS g) 0 _ (by omega) fun e => tb_0
theorem m_led_66 {K : Int32 → Mem → Prop} (hg : gOk g) {s : Mem} (hc : CityM g s) {hr : Nat} (h2 : s 68 2 = nI hr) (h9 : hr ≤ 999) {q k e : Nat} (hk : k < gN g) (hq : q < 5) (he : e < gN g) (h43 : s 57 43 = nI e) {x : Int32}
    (hK : ∀ v4 v5, RnI (d + 3) m_M_led K 34 [.ref 57, .int (nI q), .int (if ldB g (hr % 24) (s 68 4) q e = true then x ||| bit k else x), .int (nI (k + 1)), v4, v5] [] s) :
    ∀ (n i : Nat), i + n = gS g → RnI (d + 3) m_M_led K 66 [.ref 57, .int (nI q), .int x, .int (nI k), .int (b01 (anyB (fun i => (tb (s 68 4) i && tml g (hr % 24) i) && (decide (git g i 0 = q) && decide (gsp g i = e))) i)), .int (nI i)] [] s := by
  have hS := hg.2.2.1
  have h20 := gN_le hg
  have o0 : ∀ x : Int32, x ||| nI 0 = x := fun x => tb_ext fun k _ => by rw [tb_or, tb_0, Bool.or_false]
  intro n
  induction n with
  | zero =>
    intro i hi
    obtain rfl : i = gS g := by omega
    rw [r_M_led_66, hc.2.2.1]
    simp (disch := omega) only [↓n_m1, ↓n_hid, q0, q1, q2, q3, q4, q5, q6, q7, q8, q9, q10, q11, q12, q13, q14, q15, q16, q17, q18, q19, q20, q21, q22, q23, q24, q25, q26, q27, q28, q29, q30, q31, q32, q33, q34, q35, q36, q37, q38, q39, q40, q41, q42, q43, q44, q45, q46, q47, q48, q49, q50, q51, q52, q53, q54, q55, q56, q57, q58, q59, q61, q62, q63, q64, q66, q67, q68, q69, q70, q71, q91, q93, q99, q100, q102, q104, q107, q108, q112, q114, q115, q119, q121, q124, q160, q200, q255, q640, q999, q1000, q2000, q4096, n_of, nI_ltI, nI_leI, nI_eq, nI_clamp, nI_add, pk_mul, n_sub, m1_eq, m1_eq2, m1_lt, m1_lt2, gdN, Nat.not_lt_zero, false_or, if_true, if_false, if_pos, if_neg, cond_true, cond_false, beq_self, and_self, true_and, and_true, not_true_eq_false, not_false_eq_true, ne_eq, b01_0, o0, bit_e]
    unfold ldB at hK
    cases ha : anyB (fun i => (tb (s 68 4) i && tml g (hr % 24) i) && (decide (git g i 0 = q) && decide (gsp g i = e))) (gS g) with
    | false => simp only [ha, Bool.false_eq_true, if_false, if_true] at hK ⊢; exact hK _ _
    | true => simp only [ha, Bool.true_eq_false, if_false, if_true] at hK ⊢; exact hK _ _
  | succ n ih =>
    intro i hi
    have nx := ih (i + 1) (by omega)
    have hit := (hg.2.2.2.2.2 i (by omega)).1
    have hsp := gsp_lt hg (show i < gS g by omega)
    have i0 : s 65 (6 * i) = nI (git g i 0) := hc.2.2.2.2 i 0 (by omega) (by decide)
    simp only [anyB] at nx
    rw [r_M_led_66, hc.2.2.1]
    simp (disch := omega) only [↓n_m1, ↓n_hid, q0, q1, q2, q3, q4, q5, q6, q7, q8, q9, q10, q11, q12, q13, q14, q15, q16, q17, q18, q19, q20, q21, q22, q23, q24, q25, q26, q27, q28, q29, q30, q31, q32, q33, q34, q35, q36, q37, q38, q39, q40, q41, q42, q43, q44, q45, q46, q47, q48, q49, q50, q51, q52, q53, q54, q55, q56, q57, q58, q59, q61, q62, q63, q64, q66, q67, q68, q69, q70, q71, q91, q93, q99, q100, q102, q104, q107, q108, q112, q114, q115, q119, q121, q124, q160, q200, q255, q640, q999, q1000, q2000, q4096, n_of, nI_ltI, nI_leI, nI_eq, nI_clamp, nI_add, pk_mul, n_sub, m1_eq, m1_eq2, m1_lt, m1_lt2, gdN, Nat.not_lt_zero, false_or, if_true, if_false, if_pos, if_neg, cond_true, cond_false, beq_self, and_self, true_and, and_true, not_true_eq_false, not_false_eq_true, ne_eq, b01_0]
    rw [m_smells (d := d + 1) hg hc h2 h9 (by omega)]
    simp (disch := omega) only [↓n_m1, ↓n_hid, q0, q1, q2, q3, q4, q5, q6, q7, q8, q9, q10, q11, q12, q13, q14, q15, q16, q17, q18, q19, q20, q21, q22, q23, q24, q25, q26, q27, q28, q29, q30, q31, q32, q33, q34, q35, q36, q37, q38, q39, q40, q41, q42, q43, q44, q45, q46, q47, q48, q49, q50, q51, q52, q53, q54, q55, q56, q57, q58, q59, q61, q62, q63, q64, q66, q67, q68, q69, q70, q71, q91, q93, q99, q100, q102, q104, q107, q108, q112, q114, q115, q119, q121, q124, q160, q200, q255, q640, q999, q1000, q2000, q4096, n_of, nI_ltI, nI_leI, nI_eq, nI_clamp, nI_add, pk_mul, n_sub, m1_eq, m1_eq2, m1_lt, m1_lt2, gdN, Nat.not_lt_zero, false_or, if_true, if_false, if_pos, if_neg, cond_true, cond_false, beq_self, and_self, true_and, and_true, not_true_eq_false, not_false_eq_true, ne_eq, b01_0, i0]
    rw [m_placeOfSource (d := d + 2) hg hc (by omega), h43]
    simp (disch := omega) only [↓n_m1, ↓n_hid, q0, q1, q2, q3, q4, q5, q6, q7, q8, q9, q10, q11, q12, q13, q14, q15, q16, q17, q18, q19, q20, q21, q22, q23, q24, q25, q26, q27, q28, q29, q30, q31, q32, q33, q34, q35, q36, q37, q38, q39, q40, q41, q42, q43, q44, q45, q46, q47, q48, q49, q50, q51, q52, q53, q54, q55, q56, q57, q58, q59, q61, q62, q63, q64, q66, q67, q68, q69, q70, q71, q91, q93, q99, q100, q102, q104, q107, q108, q112, q114, q115, q119, q121, q124, q160, q200, q255, q640, q999, q1000, q2000, q4096, n_of, nI_ltI, nI_leI, nI_eq, nI_clamp, nI_add, pk_mul, n_sub, m1_eq, m1_eq2, m1_lt, m1_lt2, gdN, Nat.not_lt_zero, false_or, if_true, if_false, if_pos, if_neg, cond_true, cond_false, beq_self, and_self, true_and, and_true, not_true_eq_false, not_false_eq_true, ne_eq]
    cases ha : anyB (fun i => (tb (s 68 4) i && tml g (hr % 24) i) && (decide (git g i 0 = q) && decide (gsp g i = e))) i with
    | true => rw [ha, Bool.true_or] at nx; simp only [Bool.true_eq_false, if_false]; exact nx
    | false =>
      rw [ha, Bool.false_or] at nx
      simp only [if_true]
      cases ho : tb (s 68 4) i && tml g (hr % 24) i with
      | false => rw [ho, Bool.false_and] at nx; simp only [if_true]; exact nx
      | true =>
        rw [ho, Bool.true_and] at nx
        simp only [Bool.true_eq_false, if_false]
        by_cases hk : git g i 0 = q
        · rw [decide_eq_true hk, Bool.true_and] at nx
          simp only [hk, if_true]
          by_cases hs : gsp g i = e
          · rw [decide_eq_true hs] at nx; simp only [hs, if_true]; exact nx
          · rw [decide_eq_false hs] at nx; simp only [hs, if_false]; exact nx
        · rw [decide_eq_false hk, Bool.false_and] at nx
          simp only [hk, if_false]; exact nx
end
