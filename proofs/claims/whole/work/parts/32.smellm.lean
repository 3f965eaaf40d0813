/-! the reference's smells -/
/-- nothing else but the cells of L, and of the reference's own fields those of J -/
def frN (L J : List Nat) (s t : Mem) : Prop := (∀ a, a ∉ L → a ≠ 57 → t a = s a) ∧ ∀ j, j ∉ J → t 57 j = s 57 j
theorem frN_r {L J : List Nat} {s : Mem} : frN L J s s := ⟨fun _ _ _ => rfl, fun _ _ => rfl⟩
theorem frN_t {L J : List Nat} {s t u : Mem} (h : frN L J s t) (h2 : frN L J t u) : frN L J s u := ⟨fun a ha hb => (h2.1 a ha hb).trans (h.1 a ha hb), fun j hj => (h2.2 j hj).trans (h.2 j hj)⟩
theorem frN_w {L J L' J' : List Nat} {s t : Mem} (h : frN L J s t) (hl : ∀ a, a ∈ L → a ∈ L') (hj : ∀ a, a ∈ J → a ∈ J') : frN L' J' s t := ⟨fun a ha => h.1 a fun z => ha (hl a z), fun j hj' => h.2 j fun z => hj' (hj j z)⟩
theorem frN_f {L : List Nat} {J : List Nat} {s t : Mem} (h : frm L s t) (h57 : 57 ∉ L) : frN L J s t := ⟨fun a ha _ => h a ha, fun j _ => by rw [h 57 h57]⟩
theorem frN_u {L J : List Nat} {s : Mem} {a k : Nat} {x : Int32} (h : a ∈ L) (h57 : a ≠ 57) : frN L J s (upM s a k x) := ⟨fun b hb _ => up_ce fun e => hb (e ▸ h), fun j _ => by rw [up_ce (fun e => h57 e.symm)]⟩
theorem frN_v {L J : List Nat} {s : Mem} {k : Nat} {x : Int32} (h : k ∈ J) : frN L J s (upM s 57 k x) := ⟨fun b _ hb => up_ce hb, fun j hj => up_pl fun e => hj (e ▸ h)⟩
/-- the reference's fields that its reading of a law writes -/
abbrev JL : List Nat := [5, 8, 9, 10, 11, 12, 13, 14, 17]
theorem CityM_N {g : Gph} {s t : Mem} {L J : List Nat} (hf : frN L J s t) (hJ : 24 ∉ J ∧ 25 ∉ J ∧ 26 ∉ J) (hL : 62 ∉ L ∧ 65 ∉ L) (h : CityM g s) : CityM g t := by
  unfold CityM at *
  rw [hf.2 24 hJ.1, hf.2 25 hJ.2.1, hf.2 26 hJ.2.2, hf.1 62 hL.1 (by decide), hf.1 65 hL.2 (by decide)]
  exact h
/-- the reference's law answers W: Q says which law, and the hour -/
def LwM (W : Wth) (h : Nat) (Q : Mem → Prop) : Prop := ∀ (d : Nat) (s : Mem) (K : Int32 → Mem → Prop) (pw f kd w : Nat), pw ≤ 9 → f ≤ 57 → kd ≤ 4 → w < 5 → Q s →
  (∀ s', frN [61] JL s s' → Q s' → K (W pw f h kd w) s') → wI (wp (d + 30)) m_M_worthOf [.ref 57, .int (nI pw), .int (nI kd), .int (nI w), .int (nI f)] s K
/-- what Q may not look at -/
def QStay (Q : Mem → Prop) : Prop := ∀ s t, frN [71, 72, 73, 74] [] s t → Q s → Q t
theorem n_ite {p : Prop} [Decidable p] (a b : Nat) : (if p then nI a else nI b) = nI (if p then a else b) := by split <;> rfl
section
variable {d : Nat} {g : Gph} {W : Wth} {Q : Mem → Prop} {h : Nat} {rn : Bool} {w dl : Nat}
/-- smells: by place and kind -/
def SmM (F : Nat → Nat → Nat) (s : Mem) : Prop := ∀ k q, k < 20 → q < 5 → s 72 (5 * k + q) = nI (F k q)
def upS (F : Nat → Nat → Nat) (V : Nat → Nat) (kd n : Nat) : Nat → Nat → Nat := fun k q => if k < n ∧ q = kd then (if F k q < V k then V k else F k q) else F k q
theorem m_spreads {K : Mem → Prop} (hg : gOk g) (hQ : LwM W h Q) (hQs : QStay Q) (hh : h < 24) (hw : w < 5) {a kd pw : Nat} (ha : a < gN g) (hpw : pw ≤ 9) (hkd : kd ≤ 4) {s : Mem} (hc : CityM g s) (hq : Q s) (hr : s 68 1 = b01 rn) {F : Nat → Nat → Nat} (hF : SmM F s) (hFl : ∀ k q, F k q ≤ 99)
    (hK : ∀ s', frN [61, 71, 72] JL s s' → CityM g s' → Q s' → SmM (upS F (vN g W h rn w a pw kd) kd (gN g)) s' → K s') :
    wV (wp (d + 32)) m_M_spreads [.ref 57, .int (nI a), .int (nI kd), .int (nI pw), .int (nI w)] s K := by
  have h20 := gN_le hg
  have lp : ∀ (n i : Nat) (t : Mem) (v1 v6 : Value), i + n = gN g → frN [61, 71, 72] JL s t → Q t → FarM (farG g w a) t → SmM (upS F (vN g W h rn w a pw kd) kd i) t →
      RnV (d + 31) m_M_spreads K 10 [.ref 57, v1, .int (nI kd), .int (nI pw), .int (nI w), .int (nI i), v6] [] t := by
    intro n
    induction n with
    | zero =>
      intro i t v1 v6 hi hf hqt hfar hS
      obtain rfl : i = gN g := by omega
      have hct := CityM_N hf (by decide) (by decide) hc
      rw [r_M_spreads_10, m_cells hct]
      simp (disch := omega) only [↓n_m1, ↓n_hid, q0, q1, q2, q3, q4, q5, q6, q7, q8, q9, q10, q11, q12, q13, q14, q15, q16, q17, q18, q19, q20, q21, q22, q23, q24, q25, q26, q27, q28, q29, q30, q31, q32, q33, q34, q35, q36, q37, q38, q39, q40, q41, q42, q43, q44, q45, q46, q47, q48, q49, q50, q51, q52, q53, q54, q55, q56, q57, q58, q59, q61, q62, q63, q64, q66, q67, q68, q69, q70, q71, q91, q93, q99, q100, q102, q104, q107, q108, q112, q114, q115, q119, q121, q124, q160, q200, q255, q640, q999, q1000, q2000, q4096, n_of, nI_ltI, nI_leI, nI_eq, nI_clamp, nI_add, pk_mul, n_sub, m1_eq, m1_eq2, m1_lt, m1_lt2, gdN, Nat.not_lt_zero, false_or, if_true, if_false, if_pos, if_neg, cond_true, cond_false, beq_self, and_self, true_and, and_true, not_true_eq_false, not_false_eq_true, ne_eq]
      exact hK t hf hct hqt hS
    | succ n ih =>
      intro i t v1 v6 hi hf hqt hfar hS
      have hct := CityM_N hf (by decide) (by decide) hc
      have h57 := far_b (w := w) hg ha 20 i
      have e57 : farS g w a 20 i = farG g w a i := rfl
      rw [e57] at h57
      have hSi : t 72 (5 * i + kd) = nI (F i kd) := by
        rw [hS i kd (by omega) (by omega)]
        unfold upS
        rw [if_neg (by omega)]
      have hFi := hFl i kd
      rw [r_M_spreads_10, m_cells hct]
      simp (disch := omega) only [↓n_m1, ↓n_hid, q0, q1, q2, q3, q4, q5, q6, q7, q8, q9, q10, q11, q12, q13, q14, q15, q16, q17, q18, q19, q20, q21, q22, q23, q24, q25, q26, q27, q28, q29, q30, q31, q32, q33, q34, q35, q36, q37, q38, q39, q40, q41, q42, q43, q44, q45, q46, q47, q48, q49, q50, q51, q52, q53, q54, q55, q56, q57, q58, q59, q61, q62, q63, q64, q66, q67, q68, q69, q70, q71, q91, q93, q99, q100, q102, q104, q107, q108, q112, q114, q115, q119, q121, q124, q160, q200, q255, q640, q999, q1000, q2000, q4096, n_of, nI_ltI, nI_leI, nI_eq, nI_clamp, nI_add, pk_mul, n_sub, m1_eq, m1_eq2, m1_lt, m1_lt2, gdN, Nat.not_lt_zero, false_or, if_true, if_false, if_pos, if_neg, cond_true, cond_false, beq_self, and_self, true_and, and_true, not_true_eq_false, not_false_eq_true, ne_eq, hfar i (by omega)]
      by_cases h9 : farG g w a i = 1000
      · simp only [h9, if_true]
        refine ih (i + 1) t _ _ (by omega) hf hqt hfar fun k q hk hq5 => ?_
        rw [hS k q hk hq5]
        unfold upS
        by_cases e : k = i ∧ q = kd
        · rw [if_neg (by omega), if_pos (by omega), e.1]
          have hv : vN g W h rn w a pw kd i = 0 := if_pos h9
          rw [hv, if_neg (show ¬ F i q < 0 by omega)]
        · by_cases e2 : k < i ∧ q = kd
          · rw [if_pos e2, if_pos (show k < i + 1 ∧ q = kd by omega)]
          · rw [if_neg e2, if_neg (show ¬ (k < i + 1 ∧ q = kd) by omega)]
      · simp only [h9, if_false]
        refine hQ (d + 1) t _ pw (farG g w a i) kd w hpw (by omega) hkd hw hqt ?_
        intro t2 hf2 hq2
        have f3 : frN [61, 71, 72] JL s t2 := frN_t hf (frN_w hf2 (by simp) (fun _ z => z))
        have e68 : t2 68 = s 68 := f3.1 68 (by decide) (by decide)
        have e72 : t2 72 = t 72 := hf2.1 72 (by decide) (by decide)
        have e71 : t2 71 = t 71 := hf2.1 71 (by decide) (by decide)
        have hcl := clpN_le (W pw (farG g w a i) h kd w)
        have nx : ∀ (y : Nat) (x6 : Value), vN g W h rn w a pw kd i = y → RnV (d + 31) m_M_spreads K 10 [.ref 57, uV, .int (nI kd), .int (nI pw), .int (nI w), .int (nI (i + 1)), x6] [] (upM t2 72 (5 * i + kd) (nI (if F i kd < y then y else F i kd))) := by
          intro y x6 hy
          have fu : frN [72] [] t2 (upM t2 72 (5 * i + kd) (nI (if F i kd < y then y else F i kd))) := frN_u (by simp) (by decide)
          refine ih (i + 1) _ _ _ (by omega) (frN_t f3 (frN_w fu (by simp) (by simp))) (hQs _ _ (frN_w fu (by simp) (by simp)) hq2) ?_ ?_
          · intro k hk
            rw [up_ce (by decide), e71]
            exact hfar k hk
          · intro k q hk hq5
            by_cases e : k = i ∧ q = kd
            · rw [e.1, e.2, up_at]
              unfold upS
              rw [if_pos (show i < i + 1 ∧ kd = kd from ⟨by omega, rfl⟩), hy]
            · rw [up_pl (by omega), e72, hS k q hk hq5]
              unfold upS
              by_cases e2 : k < i ∧ q = kd
              · rw [if_pos e2, if_pos (show k < i + 1 ∧ q = kd by omega)]
              · rw [if_neg e2, if_neg (show ¬ (k < i + 1 ∧ q = kd) by omega)]
        simp (disch := omega) only [↓n_m1, ↓n_hid, q0, q1, q2, q3, q4, q5, q6, q7, q8, q9, q10, q11, q12, q13, q14, q15, q16, q17, q18, q19, q20, q21, q22, q23, q24, q25, q26, q27, q28, q29, q30, q31, q32, q33, q34, q35, q36, q37, q38, q39, q40, q41, q42, q43, q44, q45, q46, q47, q48, q49, q50, q51, q52, q53, q54, q55, q56, q57, q58, q59, q61, q62, q63, q64, q66, q67, q68, q69, q70, q71, q91, q93, q99, q100, q102, q104, q107, q108, q112, q114, q115, q119, q121, q124, q160, q200, q255, q640, q999, q1000, q2000, q4096, n_of, nI_ltI, nI_leI, nI_eq, nI_clamp, nI_add, pk_mul, n_sub, m1_eq, m1_eq2, m1_lt, m1_lt2, gdN, Nat.not_lt_zero, false_or, if_true, if_false, if_pos, if_neg, cond_true, cond_false, beq_self, and_self, true_and, and_true, not_true_eq_false, not_false_eq_true, ne_eq, c_max, c_min, clp_e, e68, hr, b01_1]
        cases rn with
        | false =>
          simp only [Bool.false_eq_true, if_false]
          simp (disch := omega) only [↓n_m1, ↓n_hid, q0, q1, q2, q3, q4, q5, q6, q7, q8, q9, q10, q11, q12, q13, q14, q15, q16, q17, q18, q19, q20, q21, q22, q23, q24, q25, q26, q27, q28, q29, q30, q31, q32, q33, q34, q35, q36, q37, q38, q39, q40, q41, q42, q43, q44, q45, q46, q47, q48, q49, q50, q51, q52, q53, q54, q55, q56, q57, q58, q59, q61, q62, q63, q64, q66, q67, q68, q69, q70, q71, q91, q93, q99, q100, q102, q104, q107, q108, q112, q114, q115, q119, q121, q124, q160, q200, q255, q640, q999, q1000, q2000, q4096, n_of, nI_ltI, nI_leI, nI_eq, nI_clamp, nI_add, pk_mul, n_sub, m1_eq, m1_eq2, m1_lt, m1_lt2, gdN, Nat.not_lt_zero, false_or, if_true, if_false, if_pos, if_neg, cond_true, cond_false, beq_self, and_self, true_and, and_true, not_true_eq_false, not_false_eq_true, ne_eq, e72, hSi, n_ite]
          refine nx _ _ ?_
          unfold vN
          rw [if_neg h9, if_neg (by simp)]
        | true =>
          simp only [if_true]
          rw [pk_div (by omega) (by decide) (by decide)]
          simp (disch := omega) only [↓n_m1, ↓n_hid, q0, q1, q2, q3, q4, q5, q6, q7, q8, q9, q10, q11, q12, q13, q14, q15, q16, q17, q18, q19, q20, q21, q22, q23, q24, q25, q26, q27, q28, q29, q30, q31, q32, q33, q34, q35, q36, q37, q38, q39, q40, q41, q42, q43, q44, q45, q46, q47, q48, q49, q50, q51, q52, q53, q54, q55, q56, q57, q58, q59, q61, q62, q63, q64, q66, q67, q68, q69, q70, q71, q91, q93, q99, q100, q102, q104, q107, q108, q112, q114, q115, q119, q121, q124, q160, q200, q255, q640, q999, q1000, q2000, q4096, n_of, nI_ltI, nI_leI, nI_eq, nI_clamp, nI_add, pk_mul, n_sub, m1_eq, m1_eq2, m1_lt, m1_lt2, gdN, Nat.not_lt_zero, false_or, if_true, if_false, if_pos, if_neg, cond_true, cond_false, beq_self, and_self, true_and, and_true, not_true_eq_false, not_false_eq_true, ne_eq, e72, hSi, n_ite]
          refine nx _ _ ?_
          unfold vN
          rw [if_neg h9, if_pos rfl]
  rw [e_M_spreads]
  refine m_layFar hg hc hw ha ?_
  intro t hf hfar
  have fN : frN [71] [] s t := frN_f hf (by decide)
  rw [q0]
  refine lp (gN g) 0 t _ _ (by omega) (frN_w fN (by simp) (by simp)) (hQs _ _ (frN_w fN (by simp) (by simp)) hq) hfar ?_
  intro k q hk hq5
  rw [hf 72 (by decide), hF k q hk hq5]
  unfold upS
  rw [if_neg (by omega)]
end
