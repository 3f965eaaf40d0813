section
variable {d : Nat} {g : Gph} {W : Wth} {Q : Mem → Prop} {h : Nat} {rn : Bool} {w dl : Nat}
def NowM (h : Nat) (rn : Bool) (dl : Nat) (s : Mem) : Prop := ∃ hr, s 68 2 = nI hr ∧ hr ≤ 999 ∧ h = hr % 24 ∧ s 68 1 = b01 rn ∧ s 68 3 = nI dl
theorem NowM_f {s t : Mem} (e : t 68 = s 68) (hn : NowM h rn dl s) : NowM h rn dl t := by
  unfold NowM at *
  rw [e]; exact hn
def smSt (g : Gph) (W : Wth) (h : Nat) (rn : Bool) (w : Nat) (o : Int32) (i k q : Nat) : Nat := if k < gN g then smS g W h rn w o k q i else 0
theorem smSt_le {o : Int32} {i k q : Nat} : smSt g W h rn w o i k q ≤ 99 := by
  unfold smSt
  split
  · exact smS_le i
  · omega
/-- what is forged, as the reference keeps it -/
def ExM (ex : Option (Nat × Nat)) (s : Mem) : Prop := match ex with
  | none => s 57 33 = nI 0
  | some (p, kd) => s 57 33 = nI 1 ∧ s 69 0 = nI p ∧ s 69 1 = nI kd
theorem ExM_f {ex : Option (Nat × Nat)} {s t : Mem} (e1 : t 57 33 = s 57 33) (e2 : t 69 = s 69) (hx : ExM ex s) : ExM ex t := by
  unfold ExM at *
  rw [e1, e2]; exact hx
def smX (g : Gph) (W : Wth) (h : Nat) (rn : Bool) (w : Nat) (o : Int32) (ex : Option (Nat × Nat)) (k q : Nat) : Nat := if k < gN g then smN g W h rn w o ex k q else 0
theorem m_fill72 {K : Mem → Prop} {p1 p2 : Int32} {s : Mem} (hK : ∀ t v4, frm [72] s t → (∀ j, j < 100 → t 72 j = nI 0) → RnV d m_M_laySmells K 23 [.ref 57, .int p1, .int p2, .int (nI 0), v4] [] t) : ∀ (n i : Nat) (t : Mem) (v4 : Value), i + n = 100 → frm [72] s t → (∀ j, j < i → t 72 j = nI 0) → RnV d m_M_laySmells K 2 [.ref 57, .int p1, .int p2, .int (nI i), v4] [] t := by
  intro n
  induction n with
  | zero =>
    intro i t v4 hi hf h0
    obtain rfl : i = 100 := by omega
    rw [r_M_laySmells_2]
    simp (disch := omega) only [↓n_m1, ↓n_hid, q0, q1, q2, q3, q4, q5, q6, q7, q8, q9, q10, q11, q12, q13, q14, q15, q16, q17, q18, q19, q20, q21, q22, q23, q24, q25, q26, q27, q28, q29, q30, q31, q32, q33, q34, q35, q36, q37, q38, q39, q40, q41, q42, q43, q44, q45, q46, q47, q48, q49, q50, q51, q52, q53, q54, q55, q56, q57, q58, q59, q61, q62, q63, q64, q66, q67, q68, q69, q70, q71, q91, q93, q99, q100, q102, q104, q107, q108, q112, q114, q115, q119, q121, q124, q160, q200, q255, q640, q999, q1000, q2000, q4096, n_of, nI_ltI, nI_leI, nI_eq, nI_clamp, nI_add, pk_mul, n_sub, m1_eq, m1_eq2, m1_lt, m1_lt2, gdN, Nat.not_lt_zero, false_or, if_true, if_false, if_pos, if_neg, cond_true, cond_false, beq_self, and_self, true_and, and_true, not_true_eq_false, not_false_eq_true, ne_eq]
    exact hK t _ hf h0
  | succ n ih =>
    intro i t v4 hi hf h0
    rw [r_M_laySmells_2]
    simp (disch := omega) only [↓n_m1, ↓n_hid, q0, q1, q2, q3, q4, q5, q6, q7, q8, q9, q10, q11, q12, q13, q14, q15, q16, q17, q18, q19, q20, q21, q22, q23, q24, q25, q26, q27, q28, q29, q30, q31, q32, q33, q34, q35, q36, q37, q38, q39, q40, q41, q42, q43, q44, q45, q46, q47, q48, q49, q50, q51, q52, q53, q54, q55, q56, q57, q58, q59, q61, q62, q63, q64, q66, q67, q68, q69, q70, q71, q91, q93, q99, q100, q102, q104, q107, q108, q112, q114, q115, q119, q121, q124, q160, q200, q255, q640, q999, q1000, q2000, q4096, n_of, nI_ltI, nI_leI, nI_eq, nI_clamp, nI_add, pk_mul, n_sub, m1_eq, m1_eq2, m1_lt, m1_lt2, gdN, Nat.not_lt_zero, false_or, if_true, if_false, if_pos, if_neg, cond_true, cond_false, beq_self, and_self, true_and, and_true, not_true_eq_false, not_false_eq_true, ne_eq]
    refine ih (i + 1) _ _ (by omega) (frm_t hf (frm_u (by simp))) fun j hj => ?_
    by_cases e : j = i
    · rw [e, up_at]
    · rw [up_pl e, h0 j (by omega)]
theorem m_isSmelled {K : Int32 → Mem → Prop} {s : Mem} {F : Nat → Nat → Nat} (hF : SmM F s) (hFl : ∀ k q, F k q ≤ 99) (hd : s 68 3 = nI dl) (hdl : dl ≤ 50) {k q : Nat} (hk : k < 20) (hq : q < 5) : wI (wp (d + 1)) m_M_isSmelled [.ref 57, .int (nI k), .int (nI q)] s K = K (b01 (smd dl (F k q))) s := by
  have := hFl k q
  rw [e_M_isSmelled, hd]
  simp (disch := omega) only [↓n_m1, ↓n_hid, q0, q1, q2, q3, q4, q5, q6, q7, q8, q9, q10, q11, q12, q13, q14, q15, q16, q17, q18, q19, q20, q21, q22, q23, q24, q25, q26, q27, q28, q29, q30, q31, q32, q33, q34, q35, q36, q37, q38, q39, q40, q41, q42, q43, q44, q45, q46, q47, q48, q49, q50, q51, q52, q53, q54, q55, q56, q57, q58, q59, q61, q62, q63, q64, q66, q67, q68, q69, q70, q71, q91, q93, q99, q100, q102, q104, q107, q108, q112, q114, q115, q119, q121, q124, q160, q200, q255, q640, q999, q1000, q2000, q4096, n_of, nI_ltI, nI_leI, nI_eq, nI_clamp, nI_add, pk_mul, n_sub, m1_eq, m1_eq2, m1_lt, m1_lt2, gdN, Nat.not_lt_zero, false_or, if_true, if_false, if_pos, if_neg, cond_true, cond_false, beq_self, and_self, true_and, and_true, not_true_eq_false, not_false_eq_true, ne_eq, hF k q hk hq]
  unfold smd
  by_cases h0 : 0 < F k q
  · by_cases h1 : F k q < dl
    · rw [decide_eq_false (by omega)]; simp [h0, h1, b01]
    · rw [decide_eq_true (by omega)]; simp [h0, h1, b01]
  · rw [decide_eq_false (by omega)]; simp [h0, b01]
theorem m_breaths {K : Mem → Prop} {s : Mem} {F : Nat → Nat → Nat} (hF : SmM F s) (hFl : ∀ k q, F k q ≤ 99) (hd : s 68 3 = nI dl) (hdl : dl ≤ 50) (hK : ∀ t, frm [73] s t → (∀ k, k < 20 → t 73 k = bits (fun q => smd dl (F k q)) 5) → K t) :
    ∀ (n i : Nat) (t : Mem) (v1 v2 v4 : Value), i + n = 20 → frm [73] s t → (∀ k, k < i → t 73 k = bits (fun q => smd dl (F k q)) 5) → RnV (d + 1) m_M_laySmells K 110 [.ref 57, v1, v2, .int (nI i), v4] [] t := by
  intro n
  induction n with
  | zero =>
    intro i t v1 v2 v4 hi hf h0
    obtain rfl : i = 20 := by omega
    rw [r_M_laySmells_110]
    simp (disch := omega) only [↓n_m1, ↓n_hid, q0, q1, q2, q3, q4, q5, q6, q7, q8, q9, q10, q11, q12, q13, q14, q15, q16, q17, q18, q19, q20, q21, q22, q23, q24, q25, q26, q27, q28, q29, q30, q31, q32, q33, q34, q35, q36, q37, q38, q39, q40, q41, q42, q43, q44, q45, q46, q47, q48, q49, q50, q51, q52, q53, q54, q55, q56, q57, q58, q59, q61, q62, q63, q64, q66, q67, q68, q69, q70, q71, q91, q93, q99, q100, q102, q104, q107, q108, q112, q114, q115, q119, q121, q124, q160, q200, q255, q640, q999, q1000, q2000, q4096, n_of, nI_ltI, nI_leI, nI_eq, nI_clamp, nI_add, pk_mul, n_sub, m1_eq, m1_eq2, m1_lt, m1_lt2, gdN, Nat.not_lt_zero, false_or, if_true, if_false, if_pos, if_neg, cond_true, cond_false, beq_self, and_self, true_and, and_true, not_true_eq_false, not_false_eq_true, ne_eq]
    exact hK t hf h0
  | succ n ih =>
    intro i t v1 v2 v4 hi hf h0
    have inner : ∀ (m j : Nat) (u : Mem) (v1 v2 : Value), j + m = 5 → frm [73] s u → (∀ k, k < i → u 73 k = bits (fun q => smd dl (F k q)) 5) → u 73 i = bits (fun q => smd dl (F i q)) j → RnV (d + 1) m_M_laySmells K 126 [.ref 57, v1, v2, .int (nI i), .int (nI j)] [] u := by
      intro m
      induction m with
      | zero =>
        intro j u v1 v2 hj hfu hu1 hu2
        obtain rfl : j = 5 := by omega
        rw [r_M_laySmells_126]
        simp (disch := omega) only [↓n_m1, ↓n_hid, q0, q1, q2, q3, q4, q5, q6, q7, q8, q9, q10, q11, q12, q13, q14, q15, q16, q17, q18, q19, q20, q21, q22, q23, q24, q25, q26, q27, q28, q29, q30, q31, q32, q33, q34, q35, q36, q37, q38, q39, q40, q41, q42, q43, q44, q45, q46, q47, q48, q49, q50, q51, q52, q53, q54, q55, q56, q57, q58, q59, q61, q62, q63, q64, q66, q67, q68, q69, q70, q71, q91, q93, q99, q100, q102, q104, q107, q108, q112, q114, q115, q119, q121, q124, q160, q200, q255, q640, q999, q1000, q2000, q4096, n_of, nI_ltI, nI_leI, nI_eq, nI_clamp, nI_add, pk_mul, n_sub, m1_eq, m1_eq2, m1_lt, m1_lt2, gdN, Nat.not_lt_zero, false_or, if_true, if_false, if_pos, if_neg, cond_true, cond_false, beq_self, and_self, true_and, and_true, not_true_eq_false, not_false_eq_true, ne_eq]
        refine ih (i + 1) u _ _ _ (by omega) hfu fun k hk => ?_
        by_cases e : k = i
        · rw [e, hu2]
        · exact hu1 k (by omega)
      | succ m ihm =>
        intro j u v1 v2 hj hfu hu1 hu2
        have hFu : SmM F u := fun k q hk hq => by rw [hfu 72 (by decide)]; exact hF k q hk hq
        have nx : ∀ y, y = bits (fun q => smd dl (F i q)) (j + 1) → RnV (d + 1) m_M_laySmells K 126 [.ref 57, uV, uV, .int (nI i), .int (nI (j + 1))] [] (upM u 73 i y) := by
          intro y hy
          refine ihm (j + 1) _ _ _ (by omega) (frm_t hfu (frm_u (by simp))) (fun k hk => by rw [up_pl (by omega)]; exact hu1 k hk) (by rw [up_at, hy])
        rw [r_M_laySmells_126]
        simp (disch := omega) only [↓n_m1, ↓n_hid, q0, q1, q2, q3, q4, q5, q6, q7, q8, q9, q10, q11, q12, q13, q14, q15, q16, q17, q18, q19, q20, q21, q22, q23, q24, q25, q26, q27, q28, q29, q30, q31, q32, q33, q34, q35, q36, q37, q38, q39, q40, q41, q42, q43, q44, q45, q46, q47, q48, q49, q50, q51, q52, q53, q54, q55, q56, q57, q58, q59, q61, q62, q63, q64, q66, q67, q68, q69, q70, q71, q91, q93, q99, q100, q102, q104, q107, q108, q112, q114, q115, q119, q121, q124, q160, q200, q255, q640, q999, q1000, q2000, q4096, n_of, nI_ltI, nI_leI, nI_eq, nI_clamp, nI_add, pk_mul, n_sub, m1_eq, m1_eq2, m1_lt, m1_lt2, gdN, Nat.not_lt_zero, false_or, if_true, if_false, if_pos, if_neg, cond_true, cond_false, beq_self, and_self, true_and, and_true, not_true_eq_false, not_false_eq_true, ne_eq]
        rw [m_isSmelled hFu hFl (by rw [hfu 68 (by decide)]; exact hd) hdl (by omega) (by omega)]
        simp (disch := omega) only [↓n_m1, ↓n_hid, q0, q1, q2, q3, q4, q5, q6, q7, q8, q9, q10, q11, q12, q13, q14, q15, q16, q17, q18, q19, q20, q21, q22, q23, q24, q25, q26, q27, q28, q29, q30, q31, q32, q33, q34, q35, q36, q37, q38, q39, q40, q41, q42, q43, q44, q45, q46, q47, q48, q49, q50, q51, q52, q53, q54, q55, q56, q57, q58, q59, q61, q62, q63, q64, q66, q67, q68, q69, q70, q71, q91, q93, q99, q100, q102, q104, q107, q108, q112, q114, q115, q119, q121, q124, q160, q200, q255, q640, q999, q1000, q2000, q4096, n_of, nI_ltI, nI_leI, nI_eq, nI_clamp, nI_add, pk_mul, n_sub, m1_eq, m1_eq2, m1_lt, m1_lt2, gdN, Nat.not_lt_zero, false_or, if_true, if_false, if_pos, if_neg, cond_true, cond_false, beq_self, and_self, true_and, and_true, not_true_eq_false, not_false_eq_true, ne_eq, b01_0, hu2, bit_e]
        cases hs : smd dl (F i j) with
        | false =>
          simp only [if_true]
          refine nx _ ?_
          rw [bits_S, hs, if_neg (by simp)]
          refine tb_ext fun k hk => ?_
          rw [tb_or, tb_0, Bool.or_false]
        | true =>
          simp only [Bool.true_eq_false, if_false]
          refine nx _ ?_
          rw [bits_S, hs, if_pos rfl]
    rw [r_M_laySmells_110]
    simp (disch := omega) only [↓n_m1, ↓n_hid, q0, q1, q2, q3, q4, q5, q6, q7, q8, q9, q10, q11, q12, q13, q14, q15, q16, q17, q18, q19, q20, q21, q22, q23, q24, q25, q26, q27, q28, q29, q30, q31, q32, q33, q34, q35, q36, q37, q38, q39, q40, q41, q42, q43, q44, q45, q46, q47, q48, q49, q50, q51, q52, q53, q54, q55, q56, q57, q58, q59, q61, q62, q63, q64, q66, q67, q68, q69, q70, q71, q91, q93, q99, q100, q102, q104, q107, q108, q112, q114, q115, q119, q121, q124, q160, q200, q255, q640, q999, q1000, q2000, q4096, n_of, nI_ltI, nI_leI, nI_eq, nI_clamp, nI_add, pk_mul, n_sub, m1_eq, m1_eq2, m1_lt, m1_lt2, gdN, Nat.not_lt_zero, false_or, if_true, if_false, if_pos, if_neg, cond_true, cond_false, beq_self, and_self, true_and, and_true, not_true_eq_false, not_false_eq_true, ne_eq]
    refine inner 5 0 _ _ _ rfl (frm_t hf (frm_u (by simp))) (fun k hk => by rw [up_pl (by omega)]; exact h0 k hk) ?_
    rw [up_at]; rfl
theorem m_laySmells {K : Mem → Prop} (hg : gOk g) (hQ : LwM W h Q) (hQs : QStay Q) (hw : w < 5) {s : Mem} (hc : CityM g s) (hq : Q s) (hn : NowM h rn dl s) (hdl : dl ≤ 50) {o : Int32} {ex : Option (Nat × Nat)} (hx : ExM ex s) (hex : ∀ p kd, ex = some (p, kd) → p < gN g ∧ kd ≤ 4)
    (hK : ∀ s', frN [61, 71, 72, 73] JL s s' → CityM g s' → Q s' → SmM (smX g W h rn w o ex) s' → (∀ k, k < gN g → s' 73 k = brI g W h rn w dl o ex k) → K s') :
    wV (wp (d + 34)) m_M_laySmells [.ref 57, .int o, .int (nI w)] s K := by
  have h20 := gN_le hg
  have h6 := hg.2.2.1
  obtain ⟨hr, n2, nle, rfl, n1, n3⟩ := hn
  have hlt := Nat.mod_lt hr (show 0 < 24 by decide)
  have e57 : ∀ {t : Mem}, frN [61, 71, 72] JL s t → t 57 26 = nI (gS g) := fun hf => by rw [hf.2 26 (by decide)]; exact hc.2.2.1
  have fin : ∀ (t : Mem) (v1 v2 v4 : Value), frN [61, 71, 72] JL s t → CityM g t → Q t → SmM (smX g W (hr % 24) rn w o ex) t → RnV (d + 33) m_M_laySmells K 110 [.ref 57, v1, v2, .int (nI 0), v4] [] t := by
    intro t v1 v2 v4 hf hct hqt hS
    refine m_breaths hS ?_ (by rw [hf.1 68 (by decide) (by decide)]; exact n3) hdl ?_ 20 0 t _ _ _ rfl frm_r (fun k hk => by omega)
    · intro k q
      unfold smX
      split
      · exact smN_le
      · omega
    · intro u hfu hu
      have fu : frN [73] [] t u := frN_f hfu (by decide)
      refine hK u (frN_t (frN_w hf (by simp) (fun _ z => z)) (frN_w fu (by simp) (by simp))) (CityM_N fu (by decide) (by decide) hct) (hQs _ _ (frN_w fu (by simp) (by simp)) hqt) ?_ ?_
      · intro k q hk hq5
        rw [hfu 72 (by decide)]; exact hS k q hk hq5
      · intro k hk
        rw [hu k (by omega)]
        unfold brI
        refine bits_eq fun q _ => ?_
        unfold smX
        rw [if_pos hk]
  have lp : ∀ (n i : Nat) (t : Mem) (v4 : Value), i + n = gS g → frN [61, 71, 72] JL s t → CityM g t → Q t → SmM (smSt g W (hr % 24) rn w o i) t → RnV (d + 33) m_M_laySmells K 23 [.ref 57, .int o, .int (nI w), .int (nI i), v4] [] t := by
    intro n
    induction n with
    | zero =>
      intro i t v4 hi hf hct hqt hS
      obtain rfl : i = gS g := by omega
      have hx' := ExM_f (hf.2 33 (by decide)) (hf.1 69 (by decide) (by decide)) hx
      rw [r_M_laySmells_23, e57 hf]
      simp (disch := omega) only [↓n_m1, ↓n_hid, q0, q1, q2, q3, q4, q5, q6, q7, q8, q9, q10, q11, q12, q13, q14, q15, q16, q17, q18, q19, q20, q21, q22, q23, q24, q25, q26, q27, q28, q29, q30, q31, q32, q33, q34, q35, q36, q37, q38, q39, q40, q41, q42, q43, q44, q45, q46, q47, q48, q49, q50, q51, q52, q53, q54, q55, q56, q57, q58, q59, q61, q62, q63, q64, q66, q67, q68, q69, q70, q71, q91, q93, q99, q100, q102, q104, q107, q108, q112, q114, q115, q119, q121, q124, q160, q200, q255, q640, q999, q1000, q2000, q4096, n_of, nI_ltI, nI_leI, nI_eq, nI_clamp, nI_add, pk_mul, n_sub, m1_eq, m1_eq2, m1_lt, m1_lt2, gdN, Nat.not_lt_zero, false_or, if_true, if_false, if_pos, if_neg, cond_true, cond_false, beq_self, and_self, true_and, and_true, not_true_eq_false, not_false_eq_true, ne_eq]
      cases ex with
      | none =>
        have e : t 57 33 = nI 0 := hx'
        simp (disch := omega) only [↓n_m1, ↓n_hid, q0, q1, q2, q3, q4, q5, q6, q7, q8, q9, q10, q11, q12, q13, q14, q15, q16, q17, q18, q19, q20, q21, q22, q23, q24, q25, q26, q27, q28, q29, q30, q31, q32, q33, q34, q35, q36, q37, q38, q39, q40, q41, q42, q43, q44, q45, q46, q47, q48, q49, q50, q51, q52, q53, q54, q55, q56, q57, q58, q59, q61, q62, q63, q64, q66, q67, q68, q69, q70, q71, q91, q93, q99, q100, q102, q104, q107, q108, q112, q114, q115, q119, q121, q124, q160, q200, q255, q640, q999, q1000, q2000, q4096, n_of, nI_ltI, nI_leI, nI_eq, nI_clamp, nI_add, pk_mul, n_sub, m1_eq, m1_eq2, m1_lt, m1_lt2, gdN, Nat.not_lt_zero, false_or, if_true, if_false, if_pos, if_neg, cond_true, cond_false, beq_self, and_self, true_and, and_true, not_true_eq_false, not_false_eq_true, ne_eq, e]
        exact fin t _ _ _ hf hct hqt hS
      | some e =>
        obtain ⟨p, kd⟩ := e
        have hpk := hex p kd rfl
        simp (disch := omega) only [↓n_m1, ↓n_hid, q0, q1, q2, q3, q4, q5, q6, q7, q8, q9, q10, q11, q12, q13, q14, q15, q16, q17, q18, q19, q20, q21, q22, q23, q24, q25, q26, q27, q28, q29, q30, q31, q32, q33, q34, q35, q36, q37, q38, q39, q40, q41, q42, q43, q44, q45, q46, q47, q48, q49, q50, q51, q52, q53, q54, q55, q56, q57, q58, q59, q61, q62, q63, q64, q66, q67, q68, q69, q70, q71, q91, q93, q99, q100, q102, q104, q107, q108, q112, q114, q115, q119, q121, q124, q160, q200, q255, q640, q999, q1000, q2000, q4096, n_of, nI_ltI, nI_leI, nI_eq, nI_clamp, nI_add, pk_mul, n_sub, m1_eq, m1_eq2, m1_lt, m1_lt2, gdN, Nat.not_lt_zero, false_or, if_true, if_false, if_pos, if_neg, cond_true, cond_false, beq_self, and_self, true_and, and_true, not_true_eq_false, not_false_eq_true, ne_eq, hx'.1, hx'.2.1, hx'.2.2]
        refine m_spreads (d := d + 1) hg hQ hQs hlt hw hpk.1 (by omega) hpk.2 hct hqt (by rw [hf.1 68 (by decide) (by decide)]; exact n1) hS (fun _ _ => smSt_le) ?_
        intro u hfu hcu hqu hSu
        refine fin u _ _ _ (frN_t hf hfu) hcu hqu fun k q hk hq5 => ?_
        rw [hSu k q hk hq5]
        unfold upS smX smSt smN
        by_cases hkN : k < gN g
        · by_cases e : kd = q
          · simp [hkN, e]
          · simp [hkN, e, show ¬ q = kd from fun z => e z.symm]
        · simp [hkN]
    | succ n ih =>
      intro i t v4 hi hf hct hqt hS
      have hi5 := hg.2.2.2.2.2 i (by omega)
      have e68 : t 68 = s 68 := hf.1 68 (by decide) (by decide)
      have off : (tb o i && tml g (hr % 24) i) = false → RnV (d + 33) m_M_laySmells K 23 [.ref 57, .int o, .int (nI w), .int (nI (i + 1)), uV] [] t := by
        intro e
        refine ih (i + 1) t _ (by omega) hf hct hqt fun k q hk hq5 => ?_
        rw [hS k q hk hq5]
        unfold smSt
        rw [smS_S]
        unfold smF
        rw [← Bool.and_assoc, e, Bool.false_and]
        simp
      rw [r_M_laySmells_23, e57 hf]
      simp (disch := omega) only [↓n_m1, ↓n_hid, q0, q1, q2, q3, q4, q5, q6, q7, q8, q9, q10, q11, q12, q13, q14, q15, q16, q17, q18, q19, q20, q21, q22, q23, q24, q25, q26, q27, q28, q29, q30, q31, q32, q33, q34, q35, q36, q37, q38, q39, q40, q41, q42, q43, q44, q45, q46, q47, q48, q49, q50, q51, q52, q53, q54, q55, q56, q57, q58, q59, q61, q62, q63, q64, q66, q67, q68, q69, q70, q71, q91, q93, q99, q100, q102, q104, q107, q108, q112, q114, q115, q119, q121, q124, q160, q200, q255, q640, q999, q1000, q2000, q4096, n_of, nI_ltI, nI_leI, nI_eq, nI_clamp, nI_add, pk_mul, n_sub, m1_eq, m1_eq2, m1_lt, m1_lt2, gdN, Nat.not_lt_zero, false_or, if_true, if_false, if_pos, if_neg, cond_true, cond_false, beq_self, and_self, true_and, and_true, not_true_eq_false, not_false_eq_true, ne_eq]
      rw [m_has (by omega)]
      simp (disch := omega) only [↓n_m1, ↓n_hid, q0, q1, q2, q3, q4, q5, q6, q7, q8, q9, q10, q11, q12, q13, q14, q15, q16, q17, q18, q19, q20, q21, q22, q23, q24, q25, q26, q27, q28, q29, q30, q31, q32, q33, q34, q35, q36, q37, q38, q39, q40, q41, q42, q43, q44, q45, q46, q47, q48, q49, q50, q51, q52, q53, q54, q55, q56, q57, q58, q59, q61, q62, q63, q64, q66, q67, q68, q69, q70, q71, q91, q93, q99, q100, q102, q104, q107, q108, q112, q114, q115, q119, q121, q124, q160, q200, q255, q640, q999, q1000, q2000, q4096, n_of, nI_ltI, nI_leI, nI_eq, nI_clamp, nI_add, pk_mul, n_sub, m1_eq, m1_eq2, m1_lt, m1_lt2, gdN, Nat.not_lt_zero, false_or, if_true, if_false, if_pos, if_neg, cond_true, cond_false, beq_self, and_self, true_and, and_true, not_true_eq_false, not_false_eq_true, ne_eq, b01_0]
      rw [m_isHour hg hct (by rw [e68]; exact n2) nle (by omega)]
      simp (disch := omega) only [↓n_m1, ↓n_hid, q0, q1, q2, q3, q4, q5, q6, q7, q8, q9, q10, q11, q12, q13, q14, q15, q16, q17, q18, q19, q20, q21, q22, q23, q24, q25, q26, q27, q28, q29, q30, q31, q32, q33, q34, q35, q36, q37, q38, q39, q40, q41, q42, q43, q44, q45, q46, q47, q48, q49, q50, q51, q52, q53, q54, q55, q56, q57, q58, q59, q61, q62, q63, q64, q66, q67, q68, q69, q70, q71, q91, q93, q99, q100, q102, q104, q107, q108, q112, q114, q115, q119, q121, q124, q160, q200, q255, q640, q999, q1000, q2000, q4096, n_of, nI_ltI, nI_leI, nI_eq, nI_clamp, nI_add, pk_mul, n_sub, m1_eq, m1_eq2, m1_lt, m1_lt2, gdN, Nat.not_lt_zero, false_or, if_true, if_false, if_pos, if_neg, cond_true, cond_false, beq_self, and_self, true_and, and_true, not_true_eq_false, not_false_eq_true, ne_eq, b01_0]
      cases ho : tb o i with
      | false => simp only [if_true]; exact off (by rw [ho, Bool.false_and])
      | true =>
        simp only [Bool.true_eq_false, if_false]
        cases ht : tml g (hr % 24) i with
        | false => simp only [if_true]; exact off (by rw [ho, ht]; rfl)
        | true =>
          simp only [Bool.true_eq_false, if_false]
          rw [m_placeOfSource hg hct (by omega)]
          have i0 : t 65 (6 * i) = nI (git g i 0) := hct.2.2.2.2 i 0 (by omega) (by decide)
          simp (disch := omega) only [↓n_m1, ↓n_hid, q0, q1, q2, q3, q4, q5, q6, q7, q8, q9, q10, q11, q12, q13, q14, q15, q16, q17, q18, q19, q20, q21, q22, q23, q24, q25, q26, q27, q28, q29, q30, q31, q32, q33, q34, q35, q36, q37, q38, q39, q40, q41, q42, q43, q44, q45, q46, q47, q48, q49, q50, q51, q52, q53, q54, q55, q56, q57, q58, q59, q61, q62, q63, q64, q66, q67, q68, q69, q70, q71, q91, q93, q99, q100, q102, q104, q107, q108, q112, q114, q115, q119, q121, q124, q160, q200, q255, q640, q999, q1000, q2000, q4096, n_of, nI_ltI, nI_leI, nI_eq, nI_clamp, nI_add, pk_mul, n_sub, m1_eq, m1_eq2, m1_lt, m1_lt2, gdN, Nat.not_lt_zero, false_or, if_true, if_false, if_pos, if_neg, cond_true, cond_false, beq_self, and_self, true_and, and_true, not_true_eq_false, not_false_eq_true, ne_eq, i0, hct.2.2.2.2 i 5 (by omega) (by decide)]
          refine m_spreads (d := d + 1) hg hQ hQs hlt hw (gsp_lt hg (by omega)) hi5.2.2.2.2.2.1 hi5.1 hct hqt (by rw [e68]; exact n1) hS (fun _ _ => smSt_le) ?_
          intro u hfu hcu hqu hSu
          refine ih (i + 1) u _ (by omega) (frN_t hf hfu) hcu hqu fun k q hk hq5 => ?_
          rw [hSu k q hk hq5]
          unfold upS smSt
          rw [smS_S]
          unfold smF
          rw [ho, ht]
          by_cases hkN : k < gN g
          · by_cases e : git g i 0 = q
            · simp [hkN, e]
            · simp [hkN, e, show ¬ q = git g i 0 from fun z => e z.symm]
          · simp [hkN]
  rw [e_M_laySmells, q0]
  refine m_fill72 ?_ 100 0 s _ rfl frm_r (fun j hj => by omega)
  intro t v4 hf h0
  have fN : frN [72] [] s t := frN_f hf (by decide)
  refine lp (gS g) 0 t _ (by omega) (frN_w fN (by simp) (by simp)) (CityM_N fN (by decide) (by decide) hc) (hQs _ _ (frN_w fN (by simp) (by simp)) hq) fun k q hk hq5 => ?_
  rw [h0 _ (by omega)]
  unfold smSt
  split <;> rfl
theorem m_layNow {K : Mem → Prop} (hg : gOk g) (hQ : LwM W h Q) (hQs : QStay Q) (hw : w < 5) {s : Mem} (hc : CityM g s) (hq : Q s) (hn : NowM h rn dl s) (hw0 : s 68 0 = nI w) (hdl : dl ≤ 50) {ex : Option (Nat × Nat)} (hx : ExM ex s) (hex : ∀ p kd, ex = some (p, kd) → p < gN g ∧ kd ≤ 4)
    (hK : ∀ s', frN [61, 71, 72, 73] JL s s' → CityM g s' → Q s' → SmM (smX g W h rn w (s 68 4) ex) s' → (∀ k, k < gN g → s' 73 k = brI g W h rn w dl (s 68 4) ex k) → K s') :
    wV (wp (d + 35)) m_M_layNow [.ref 57] s K := by
  rw [e_M_layNow, hw0]
  exact m_laySmells hg hQ hQs hw hc hq hn hdl hx hex hK
end
