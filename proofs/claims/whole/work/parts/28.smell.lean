/-! what a whiff is worth: an int that power, farness, hour, kind and wind tell; of it, a number up to 99, half of it by rain -/
abbrev Wth := Nat → Nat → Nat → Nat → Nat → Int32
def clpN (x : Int32) : Nat := if x < nI 99 then (if nI 0 < x then x.toNatClampNeg else 0) else 99
theorem clpN_le (x : Int32) : clpN x ≤ 99 := by
  unfold clpN
  split
  · split
    · rename_i h h0
      have h1 : ¬ x < 0 := by
        rw [Int32.lt_iff_toInt_lt] at h0 ⊢
        rw [nI_toInt (by decide)] at h0
        rw [show (0 : Int32).toInt = 0 from rfl]
        omega
      obtain ⟨j, hj, rfl⟩ := nI_of h1
      rw [nI_clamp hj]
      rw [nI_ltI hj (by decide)] at h
      omega
    · omega
  · omega
theorem clp_e (x : Int32) : (if nI 0 < (if x < nI 99 then x else nI 99) then (if x < nI 99 then x else nI 99) else nI 0) = nI (clpN x) := by
  unfold clpN
  by_cases h : x < nI 99
  · by_cases h0 : nI 0 < x
    · simp only [h, h0, if_true]
      have h1 : ¬ x < 0 := by
        rw [Int32.lt_iff_toInt_lt] at h0 ⊢
        rw [nI_toInt (by decide)] at h0
        rw [show (0 : Int32).toInt = 0 from rfl]
        omega
      obtain ⟨j, hj, rfl⟩ := nI_of h1
      rw [nI_clamp hj]
    · simp only [h, h0, if_true, if_false]
  · simp only [h, if_false]
    rw [if_pos (by decide)]
/-- a source's whiff at a place -/
def vN (g : Gph) (W : Wth) (h : Nat) (rn : Bool) (w a pw kd k : Nat) : Nat :=
  if farG g w a k = 1000 then 0 else if rn = true then clpN (W pw (farG g w a k) h kd w) / 2 else clpN (W pw (farG g w a k) h kd w)
theorem vN_le {g : Gph} {W : Wth} {h : Nat} {rn : Bool} {w a pw kd k : Nat} : vN g W h rn w a pw kd k ≤ 99 := by
  unfold vN
  have := clpN_le (W pw (farG g w a k) h kd w)
  repeat' split
  all_goals omega
/-- no way leads to what is no street -/
theorem far_ns {g : Gph} {w a k : Nat} (ha : a < gN g) (hs : gst g a = true) (hk : gst g k = false) : farG g w a k = 1000 := by
  have : ∀ n, ∀ v, farS g w a n v < 1000 → gst g v = true := by
    intro n
    induction n with
    | zero =>
      intro v hv
      by_cases e : v = a
      · rw [e]; exact hs
      · have : farS g w a 0 v = 1000 := if_neg e
        omega
    | succ n ih =>
      refine (itr_P (f := fun k F => rndS g w k F) (fun _ F => ∀ v, F v < 1000 → gst g v = true) (n := gN g) (i := 0) ih ?_)
      intro k F _ _ hF
      refine (itr_P (f := fun side F => relx g w k side F) (fun _ F => ∀ v, F v < 1000 → gst g v = true) (n := 4) (i := 1) hF ?_)
      intro sd F _ _ hF v hv
      by_cases hc : F k < 1000 ∧ F k + cst w sd < F (bes g k sd)
      · by_cases e : v = bes g k sd
        · rw [e]; exact bes_st (hF k hc.1) sd
        · refine hF v ?_
          have e2 : relx g w k sd F v = F v := by
            unfold relx
            rw [if_pos hc]
            exact if_neg e
          rw [← e2]; exact hv
      · have e2 : relx g w k sd F = F := if_neg hc
        rw [e2] at hv
        exact hF v hv
  have hI := fInv_S (w := w) ha 20
  have h1 := hI.2.1 k
  rcases Nat.lt_or_ge (farG g w a k) 1000 with h2 | h2
  · have := this 20 k h2
    rw [hk] at this
    simp at this
  · have : farG g w a k ≤ 1000 := h1
    omega
/-- the class's law at l answers W -/
def LwC (l : Nat) (W : Wth) (P : Mem → Prop) : Prop := ∀ (d : Nat) (s : Mem) (K : Int32 → Mem → Prop) (pw f h kd w : Nat), pw ≤ 9 → f ≤ 57 → h < 24 → kd ≤ 4 → w < 5 → P s →
  (∀ s', frm [l, l + 2] s s' → P s' → K (W pw f h kd w) s') →
  wV (wp (d + 5)) m_L_letters [.ref l, .int (nI pw), .int (nI f), .int (nI h), .int (nI kd), .int (nI w)] s (fun s' => wI (wp (d + 5)) m_L_worth [.ref l] s' K)
/-- the law that is held, if there is one, answers W -/
def HlC (lv : Value) (Ll : List Nat) (W : Wth) (P : Mem → Prop) : Prop :=
  (lv = .null ∧ Ll = [] ∧ ∀ pw f h kd w, W pw f h kd w = nI (3 * pw) - nI f) ∨
  (∃ i : Nat, i < 5 ∧ lv = .ref (18 + 3 * i) ∧ Ll = [18 + 3 * i, 18 + 3 * i + 2] ∧ LwC (18 + 3 * i) W P)
theorem HlC_L {lv : Value} {Ll : List Nat} {W : Wth} {P : Mem → Prop} (h : HlC lv Ll W P) : ∀ a, a ∈ Ll → 18 ≤ a ∧ a ≤ 32 := by
  intro a ha
  rcases h with ⟨_, e, _⟩ | ⟨i, hi, _, e, _⟩
  · rw [e] at ha; simp at ha
  · rw [e] at ha
    simp only [List.mem_cons, List.not_mem_nil, or_false] at ha
    rcases ha with rfl | rfl
    · omega
    · omega
theorem L_sh : ∀ i, i < 5 → shp (18 + 3 * i) = (3, 0) ∨ Nat.beq (shp (18 + 3 * i)).1 3 = true := by decide +kernel
/-- what P may not look at -/
def PStay (c : Nat) (P : Mem → Prop) : Prop := ∀ s t, frm [c + 5, c + 6, 37, 38, 39, 40, 41] s t → P s → P t
section
variable {d c : Nat} {g : Gph} {W : Wth} {P : Mem → Prop} {lv : Value} {Ll : List Nat} {h : Nat} {rn : Bool} {w : Nat}
def AirF (w h : Nat) (rn : Bool) (s : Mem) : Prop := s 37 0 = nI w ∧ s 37 1 = nI h ∧ s 37 2 = b01 rn
theorem c_whiff_l {K : Mem → Prop} (hcc : isC c) (hg : gOk g) (hl : HlC lv Ll W P) (hP : PStay c P) (hh : h < 24) (hw : w < 5) {si a pw kd : Nat} (hsi : si < 7) (ha : a < gN g) (has : gst g a = true) (hpw : pw ≤ 9) (hkd : kd ≤ 4) {s0 : Mem} (hA : AirF w h rn s0)
    (hK : ∀ s', frm ([c + 5, c + 6, 39] ++ Ll) s0 s' → CityF c g s' → P s' → (∀ k, k < gN g → s' 39 (20 * si + k) = nI (vN g W h rn w a pw kd k)) → (∀ j, j < 20 * si ∨ 20 * si + 20 ≤ j → s' 39 j = s0 39 j) → K s') :
    ∀ (n i : Nat) (s : Mem) (v8 v9 v10 v11 : Value), i + n = gN g → frm ([c + 5, c + 6, 39] ++ Ll) s0 s → CityF c g s → P s → (∀ k, k < i → s 39 (20 * si + k) = nI (vN g W h rn w a pw kd k)) → (∀ j, j < 20 * si ∨ 20 * si + 20 ≤ j → s 39 j = s0 39 j) →
      RnV (d + 5) m_A_whiff K 13 [.ref 37, .ref c, lv, .int (nI si), .int (nI a), .int (nI pw), .int (nI kd), .int (nI i), v8, v9, v10, v11] [] s := by
  have h20 := gN_le hg
  have hL := C_le hcc
  have hLl := HlC_L hl
  have n39 : 39 ∉ [c + 5, c + 6] := by simp; omega
  have n37 : 37 ∉ [c + 5, c + 6, 39] ++ Ll := by
    simp only [List.mem_append, List.mem_cons, List.not_mem_nil, or_false, not_or]
    exact ⟨by omega, fun z => by have := hLl 37 z; omega⟩
  intro n
  induction n with
  | zero =>
    intro i s v8 v9 v10 v11 hi hf hc hp h1 h2
    obtain rfl : i = gN g := by omega
    rcases hl with ⟨rfl, _, _⟩ | ⟨j, hj, rfl, _, _⟩
    · rw [r_A_whiff_n_13, c_cells hcc hc.1]
      simp (disch := omega) only [↓n_m1, ↓n_hid, q0, q1, q2, q3, q4, q5, q6, q7, q8, q9, q10, q11, q12, q13, q14, q15, q16, q17, q18, q19, q20, q21, q22, q23, q24, q25, q26, q27, q28, q29, q30, q31, q32, q33, q34, q35, q36, q37, q38, q39, q40, q41, q42, q43, q44, q45, q46, q47, q48, q49, q50, q51, q52, q53, q54, q55, q56, q57, q58, q59, q61, q62, q63, q64, q66, q67, q68, q69, q70, q71, q91, q93, q99, q100, q102, q104, q107, q108, q112, q114, q115, q119, q121, q124, q160, q200, q255, q640, q999, q1000, q2000, q4096, n_of, nI_ltI, nI_leI, nI_eq, nI_clamp, nI_add, pk_mul, n_sub, m1_eq, m1_eq2, m1_lt, m1_lt2, gdN, Nat.not_lt_zero, false_or, if_true, if_false, if_pos, if_neg, cond_true, cond_false, beq_self, and_self, true_and, and_true, not_true_eq_false, not_false_eq_true, ne_eq, C_b hcc]
      exact hK s hf hc hp h1 h2
    · rw [r_A_whiff_13, c_cells hcc hc.1]
      simp (disch := omega) only [↓n_m1, ↓n_hid, q0, q1, q2, q3, q4, q5, q6, q7, q8, q9, q10, q11, q12, q13, q14, q15, q16, q17, q18, q19, q20, q21, q22, q23, q24, q25, q26, q27, q28, q29, q30, q31, q32, q33, q34, q35, q36, q37, q38, q39, q40, q41, q42, q43, q44, q45, q46, q47, q48, q49, q50, q51, q52, q53, q54, q55, q56, q57, q58, q59, q61, q62, q63, q64, q66, q67, q68, q69, q70, q71, q91, q93, q99, q100, q102, q104, q107, q108, q112, q114, q115, q119, q121, q124, q160, q200, q255, q640, q999, q1000, q2000, q4096, n_of, nI_ltI, nI_leI, nI_eq, nI_clamp, nI_add, pk_mul, n_sub, m1_eq, m1_eq2, m1_lt, m1_lt2, gdN, Nat.not_lt_zero, false_or, if_true, if_false, if_pos, if_neg, cond_true, cond_false, beq_self, and_self, true_and, and_true, not_true_eq_false, not_false_eq_true, ne_eq, C_b hcc]
      exact hK s hf hc hp h1 h2
  | succ n ih =>
    intro i s v8 v9 v10 v11 hi hf hc hp h1 h2
    have pu : ∀ (t : Mem) (y : Nat) (x8 x9 x10 x11 : Value), frm ([c + 5, c + 6, 39] ++ Ll) s0 t → CityF c g t → P t → (∀ k, k < i → t 39 (20 * si + k) = nI (vN g W h rn w a pw kd k)) → (∀ j, j < 20 * si ∨ 20 * si + 20 ≤ j → t 39 j = s0 39 j) → vN g W h rn w a pw kd i = y →
        RnV (d + 5) m_A_whiff K 13 [.ref 37, .ref c, lv, .int (nI si), .int (nI a), .int (nI pw), .int (nI kd), .int (nI (i + 1)), x8, x9, x10, x11] [] (upM t 39 (si * 20 + i) (nI y)) := by
      intro t y x8 x9 x10 x11 hf hc hp h1 h2 hy
      refine ih (i + 1) _ _ _ _ _ (by omega) (frm_t hf (frm_u (by simp))) ?_ (hP _ _ (frm_u (by simp)) hp) ?_ ?_
      · refine ⟨CityC_f (L := [39]) (by simp; omega) (by simp; omega) (by simp; omega) (frm_u (by simp)) hc.1, fun w' a' hw' ha' => ?_⟩
        unfold FarC
        rw [up_ce (show c + 6 ≠ 39 by omega), up_ce (show c + 5 ≠ 39 by omega)]
        exact hc.2 w' a' hw' ha'
      · intro k hk
        by_cases e : k = i
        · rw [e, Nat.mul_comm 20, up_at, hy]
        · rw [up_pl (by omega), h1 k (by omega)]
      · intro j hj
        rw [up_pl (by omega), h2 j hj]
    have keep : ∀ (t : Mem), frm [c + 5, c + 6] s t → CityF c g t → P t ∧ frm ([c + 5, c + 6, 39] ++ Ll) s0 t ∧ (∀ k, k < i → t 39 (20 * si + k) = nI (vN g W h rn w a pw kd k)) ∧ (∀ j, j < 20 * si ∨ 20 * si + 20 ≤ j → t 39 j = s0 39 j) := by
      intro t ht _
      refine ⟨hP _ _ (frm_w ht (by simp)) hp, frm_t hf (frm_w ht (by simp)), ?_, ?_⟩
      · intro k hk; rw [ht 39 n39, h1 k hk]
      · intro j hj; rw [ht 39 n39, h2 j hj]
    have a1 : s 37 = s0 37 := hf 37 n37
    have h57 := far_b (w := w) hg ha 20 i
    have e57 : farS g w a 20 i = farG g w a i := rfl
    rw [e57] at h57
    rcases hl with ⟨rfl, rfl, hW⟩ | ⟨l, hl5, rfl, rfl, hW⟩
    · rw [r_A_whiff_n_13, c_cells hcc hc.1]
      simp (disch := omega) only [↓n_m1, ↓n_hid, q0, q1, q2, q3, q4, q5, q6, q7, q8, q9, q10, q11, q12, q13, q14, q15, q16, q17, q18, q19, q20, q21, q22, q23, q24, q25, q26, q27, q28, q29, q30, q31, q32, q33, q34, q35, q36, q37, q38, q39, q40, q41, q42, q43, q44, q45, q46, q47, q48, q49, q50, q51, q52, q53, q54, q55, q56, q57, q58, q59, q61, q62, q63, q64, q66, q67, q68, q69, q70, q71, q91, q93, q99, q100, q102, q104, q107, q108, q112, q114, q115, q119, q121, q124, q160, q200, q255, q640, q999, q1000, q2000, q4096, n_of, nI_ltI, nI_leI, nI_eq, nI_clamp, nI_add, pk_mul, n_sub, m1_eq, m1_eq2, m1_lt, m1_lt2, gdN, Nat.not_lt_zero, false_or, if_true, if_false, if_pos, if_neg, cond_true, cond_false, beq_self, and_self, true_and, and_true, not_true_eq_false, not_false_eq_true, ne_eq, C_b hcc]
      rw [c_isStreet hcc hg hc.1 (by omega)]
      simp (disch := omega) only [↓n_m1, ↓n_hid, q0, q1, q2, q3, q4, q5, q6, q7, q8, q9, q10, q11, q12, q13, q14, q15, q16, q17, q18, q19, q20, q21, q22, q23, q24, q25, q26, q27, q28, q29, q30, q31, q32, q33, q34, q35, q36, q37, q38, q39, q40, q41, q42, q43, q44, q45, q46, q47, q48, q49, q50, q51, q52, q53, q54, q55, q56, q57, q58, q59, q61, q62, q63, q64, q66, q67, q68, q69, q70, q71, q91, q93, q99, q100, q102, q104, q107, q108, q112, q114, q115, q119, q121, q124, q160, q200, q255, q640, q999, q1000, q2000, q4096, n_of, nI_ltI, nI_leI, nI_eq, nI_clamp, nI_add, pk_mul, n_sub, m1_eq, m1_eq2, m1_lt, m1_lt2, gdN, Nat.not_lt_zero, false_or, if_true, if_false, if_pos, if_neg, cond_true, cond_false, beq_self, and_self, true_and, and_true, not_true_eq_false, not_false_eq_true, ne_eq, b01_0, c_put (show (shp 39).1 = 20 from rfl) (show 39 ≤ 999 by decide) (show si * 20 + i < (shp 39).2 by show _ < 140; omega)]
      cases hst : gst g i with
      | false =>
        simp only [if_true]
        refine pu s 0 _ _ _ _ hf hc hp h1 h2 ?_
        unfold vN
        rw [if_pos (far_ns ha has hst)]
      | true =>
        simp only [Bool.true_eq_false, if_false]
        rw [a1, hA.1]
        refine c_farness hcc hg hc hw ha (by omega) ?_
        intro s1 hf1 hc1
        obtain ⟨k1, k2, k3, k4⟩ := keep s1 hf1 hc1
        have a2 : s1 37 = s0 37 := k2 37 n37
        unfold cosI
        by_cases h9 : farG g w a i = 1000
        · simp only [h9, if_true]
          exact pu s1 0 _ _ _ _ k2 hc1 k1 k3 k4 (if_pos h9)
        · simp only [h9, if_false]
          simp (disch := omega) only [↓n_m1, ↓n_hid, q0, q1, q2, q3, q4, q5, q6, q7, q8, q9, q10, q11, q12, q13, q14, q15, q16, q17, q18, q19, q20, q21, q22, q23, q24, q25, q26, q27, q28, q29, q30, q31, q32, q33, q34, q35, q36, q37, q38, q39, q40, q41, q42, q43, q44, q45, q46, q47, q48, q49, q50, q51, q52, q53, q54, q55, q56, q57, q58, q59, q61, q62, q63, q64, q66, q67, q68, q69, q70, q71, q91, q93, q99, q100, q102, q104, q107, q108, q112, q114, q115, q119, q121, q124, q160, q200, q255, q640, q999, q1000, q2000, q4096, n_of, nI_ltI, nI_leI, nI_eq, nI_clamp, nI_add, pk_mul, n_sub, m1_eq, m1_eq2, m1_lt, m1_lt2, gdN, Nat.not_lt_zero, false_or, if_true, if_false, if_pos, if_neg, cond_true, cond_false, beq_self, and_self, true_and, and_true, not_true_eq_false, not_false_eq_true, ne_eq, c_max, c_min, clp_e, a2, hA.2.2, b01_0, h9]
          rw [← hW pw (farG g w a i) h kd w, pk_div (by have := clpN_le (W pw (farG g w a i) h kd w); omega) (by decide) (by decide)]
          cases rn
          · simp only [if_true]
            refine pu s1 _ _ _ _ _ k2 hc1 k1 k3 k4 ?_
            unfold vN
            rw [if_neg h9, if_neg (by simp)]
          · simp only [Bool.true_eq_false, if_false]
            refine pu s1 _ _ _ _ _ k2 hc1 k1 k3 k4 ?_
            unfold vN
            rw [if_neg h9, if_pos rfl]
    · have hbl : Nat.beq (shp (18 + 3 * l)).1 3 = true := by
        rcases L_sh l hl5 with e | e
        · rw [e]; rfl
        · exact e
      rw [r_A_whiff_13, c_cells hcc hc.1]
      simp (disch := omega) only [↓n_m1, ↓n_hid, q0, q1, q2, q3, q4, q5, q6, q7, q8, q9, q10, q11, q12, q13, q14, q15, q16, q17, q18, q19, q20, q21, q22, q23, q24, q25, q26, q27, q28, q29, q30, q31, q32, q33, q34, q35, q36, q37, q38, q39, q40, q41, q42, q43, q44, q45, q46, q47, q48, q49, q50, q51, q52, q53, q54, q55, q56, q57, q58, q59, q61, q62, q63, q64, q66, q67, q68, q69, q70, q71, q91, q93, q99, q100, q102, q104, q107, q108, q112, q114, q115, q119, q121, q124, q160, q200, q255, q640, q999, q1000, q2000, q4096, n_of, nI_ltI, nI_leI, nI_eq, nI_clamp, nI_add, pk_mul, n_sub, m1_eq, m1_eq2, m1_lt, m1_lt2, gdN, Nat.not_lt_zero, false_or, if_true, if_false, if_pos, if_neg, cond_true, cond_false, beq_self, and_self, true_and, and_true, not_true_eq_false, not_false_eq_true, ne_eq, C_b hcc]
      rw [c_isStreet hcc hg hc.1 (by omega)]
      simp (disch := omega) only [↓n_m1, ↓n_hid, q0, q1, q2, q3, q4, q5, q6, q7, q8, q9, q10, q11, q12, q13, q14, q15, q16, q17, q18, q19, q20, q21, q22, q23, q24, q25, q26, q27, q28, q29, q30, q31, q32, q33, q34, q35, q36, q37, q38, q39, q40, q41, q42, q43, q44, q45, q46, q47, q48, q49, q50, q51, q52, q53, q54, q55, q56, q57, q58, q59, q61, q62, q63, q64, q66, q67, q68, q69, q70, q71, q91, q93, q99, q100, q102, q104, q107, q108, q112, q114, q115, q119, q121, q124, q160, q200, q255, q640, q999, q1000, q2000, q4096, n_of, nI_ltI, nI_leI, nI_eq, nI_clamp, nI_add, pk_mul, n_sub, m1_eq, m1_eq2, m1_lt, m1_lt2, gdN, Nat.not_lt_zero, false_or, if_true, if_false, if_pos, if_neg, cond_true, cond_false, beq_self, and_self, true_and, and_true, not_true_eq_false, not_false_eq_true, ne_eq, b01_0, c_put (show (shp 39).1 = 20 from rfl) (show 39 ≤ 999 by decide) (show si * 20 + i < (shp 39).2 by show _ < 140; omega)]
      cases hst : gst g i with
      | false =>
        simp only [if_true]
        refine pu s 0 _ _ _ _ hf hc hp h1 h2 ?_
        unfold vN
        rw [if_pos (far_ns ha has hst)]
      | true =>
        simp only [Bool.true_eq_false, if_false]
        rw [a1, hA.1]
        refine c_farness hcc hg hc hw ha (by omega) ?_
        intro s1 hf1 hc1
        obtain ⟨k1, k2, k3, k4⟩ := keep s1 hf1 hc1
        have a2 : s1 37 = s0 37 := k2 37 n37
        unfold cosI
        by_cases h9 : farG g w a i = 1000
        · simp only [h9, if_true]
          exact pu s1 0 _ _ _ _ k2 hc1 k1 k3 k4 (if_pos h9)
        · simp only [h9, if_false]
          simp (disch := omega) only [↓n_m1, ↓n_hid, q0, q1, q2, q3, q4, q5, q6, q7, q8, q9, q10, q11, q12, q13, q14, q15, q16, q17, q18, q19, q20, q21, q22, q23, q24, q25, q26, q27, q28, q29, q30, q31, q32, q33, q34, q35, q36, q37, q38, q39, q40, q41, q42, q43, q44, q45, q46, q47, q48, q49, q50, q51, q52, q53, q54, q55, q56, q57, q58, q59, q61, q62, q63, q64, q66, q67, q68, q69, q70, q71, q91, q93, q99, q100, q102, q104, q107, q108, q112, q114, q115, q119, q121, q124, q160, q200, q255, q640, q999, q1000, q2000, q4096, n_of, nI_ltI, nI_leI, nI_eq, nI_clamp, nI_add, pk_mul, n_sub, m1_eq, m1_eq2, m1_lt, m1_lt2, gdN, Nat.not_lt_zero, false_or, if_true, if_false, if_pos, if_neg, cond_true, cond_false, beq_self, and_self, true_and, and_true, not_true_eq_false, not_false_eq_true, ne_eq, a2, hA.1, hA.2.1, hbl, h9]
          refine hW d s1 _ pw (farG g w a i) h kd w hpw (by omega) hh hkd hw k1 ?_
          intro s2 hf2 hp2
          have n39b : 39 ∉ [18 + 3 * l, 18 + 3 * l + 2] := by
            simp only [List.mem_cons, List.not_mem_nil, or_false, not_or]
            omega
          have k2' : frm ([c + 5, c + 6, 39] ++ [18 + 3 * l, 18 + 3 * l + 2]) s0 s2 := frm_t k2 (frm_w hf2 (by simp))
          have k3' : ∀ k, k < i → s2 39 (20 * si + k) = nI (vN g W h rn w a pw kd k) := fun k hk => by rw [hf2 39 n39b, k3 k hk]
          have k4' : ∀ j, j < 20 * si ∨ 20 * si + 20 ≤ j → s2 39 j = s0 39 j := fun j hj => by rw [hf2 39 n39b, k4 j hj]
          have a3 : s2 37 = s0 37 := k2' 37 n37
          have hc2 : CityF c g s2 := by
            refine ⟨CityC_f (L := [18 + 3 * l, 18 + 3 * l + 2]) (by simp; omega) (by simp; omega) (by simp; omega) hf2 hc1.1, fun w' a' hw' ha' => ?_⟩
            unfold FarC
            rw [hf2 (c + 6) (by simp; omega), hf2 (c + 5) (by simp; omega)]
            exact hc1.2 w' a' hw' ha'
          simp (disch := omega) only [↓n_m1, ↓n_hid, q0, q1, q2, q3, q4, q5, q6, q7, q8, q9, q10, q11, q12, q13, q14, q15, q16, q17, q18, q19, q20, q21, q22, q23, q24, q25, q26, q27, q28, q29, q30, q31, q32, q33, q34, q35, q36, q37, q38, q39, q40, q41, q42, q43, q44, q45, q46, q47, q48, q49, q50, q51, q52, q53, q54, q55, q56, q57, q58, q59, q61, q62, q63, q64, q66, q67, q68, q69, q70, q71, q91, q93, q99, q100, q102, q104, q107, q108, q112, q114, q115, q119, q121, q124, q160, q200, q255, q640, q999, q1000, q2000, q4096, n_of, nI_ltI, nI_leI, nI_eq, nI_clamp, nI_add, pk_mul, n_sub, m1_eq, m1_eq2, m1_lt, m1_lt2, gdN, Nat.not_lt_zero, false_or, if_true, if_false, if_pos, if_neg, cond_true, cond_false, beq_self, and_self, true_and, and_true, not_true_eq_false, not_false_eq_true, ne_eq, c_max, c_min, clp_e, a3, hA.2.2, b01_0, h9]
          rw [pk_div (by have := clpN_le (W pw (farG g w a i) h kd w); omega) (by decide) (by decide)]
          cases rn
          · simp only [if_true]
            refine pu s2 _ _ _ _ _ k2' hc2 hp2 k3' k4' ?_
            unfold vN
            rw [if_neg h9, if_neg (by simp)]
          · simp only [Bool.true_eq_false, if_false]
            refine pu s2 _ _ _ _ _ k2' hc2 hp2 k3' k4' ?_
            unfold vN
            rw [if_neg h9, if_pos rfl]
end
