section
variable {d c : Nat} {g : Gph} {W : Wth} {P : Mem → Prop} {lv : Value} {Ll : List Nat} {h : Nat} {rn : Bool} {w dl : Nat}
/-- what the weather says: hour of the day, rain, dullness -/
def NowC (h : Nat) (rn : Bool) (dl : Nat) (s : Mem) : Prop := ∃ hr, s 34 2 = nI hr ∧ hr ≤ 999 ∧ h = hr % 24 ∧ s 34 1 = b01 rn ∧ s 34 3 = nI dl
theorem c_blow {K : Mem → Prop} (hcc : isC c) (hg : gOk g) (hl : HlC lv Ll W P) (hP : PStay c P) (hw : w < 5) {s : Mem} (hn : NowC h rn dl s) (hc : CityF c g s) (hp : P s)
    (hK : ∀ s', frm ([c + 5, c + 6, 37, 38, 39] ++ Ll) s s' → CityF c g s' → P s' → AirC g W h rn w dl none s' → K s') :
    wV (wp (d + 7)) m_A_blow [.ref 37, .ref c, lv, .ref 33, .int (nI w)] s K := by
  obtain ⟨hr, n2, nle, rfl, n1, n3⟩ := hn
  have hL := C_le hcc
  have h20 := gN_le hg
  have h6 := hg.2.2.1
  have hlt := Nat.mod_lt hr (show 0 < 24 by decide)
  have a34 : ∀ (t : Mem) j x, (upM t 37 j x) 34 = t 34 := fun t j x => up_ce (by decide)
  have key : ∀ (t : Mem) (v3 v4 : Value), frm [37] s t → AirF w (hr % 24) rn t → t 37 3 = nI dl → t 37 4 = bits (tml g (hr % 24)) (gS g) ||| nI 64 → RnV (d + 6) m_A_blow K 63 [.ref 37, .ref c, lv, v3, v4, .int (nI 0)] [] t := by
    intro t v3 v4 hf hA hd h4
    have hct : CityF c g t := by
      refine ⟨CityC_f (by simp; omega) (by simp; omega) (by simp; omega) hf hc.1, fun w' a' hw' ha' => ?_⟩
      unfold FarC
      rw [hf (c + 6) (by simp; omega), hf (c + 5) (by simp; omega)]
      exact hc.2 w' a' hw' ha'
    refine c_blow_l hcc hg hl hP hlt hw hA hd ?_ ?_ (gS g) 0 t _ _ (by omega) frm_r hct (hP _ _ (frm_w hf (by simp)) hp) (fun k hk => by omega) (fun k hk => by omega)
    · intro k hk
      rw [h4, tb_or, tb_bits (by omega), tb_64]
    · intro s' hf' hc' hp' hA'
      refine hK s' (frm_t (frm_w hf (by simp)) (frm_w hf' ?_)) hc' hp' hA'
      intro a ha
      simp only [List.mem_append, List.mem_cons, List.not_mem_nil, or_false] at ha ⊢
      rcases ha with (rfl | rfl | rfl | rfl) | ha
      · simp
      · simp
      · simp
      · simp
      · exact Or.inr ha
  have cf : ∀ (t : Mem) j x, CityC c g t → CityC c g (upM t 37 j x) := fun t j x ht => CityC_f (L := [37]) (by simp; omega) (by simp; omega) (by simp; omega) (frm_u (by simp)) ht
  have fin : ∀ (x2 : Int32) (v3 v4 : Value), x2 = b01 rn → RnV (d + 6) m_A_blow K 63 [.ref 37, .ref c, lv, v3, v4, .int (nI 0)] [] (upM (upM (upM (upM (upM s 37 0 (nI w)) 37 1 (nI (hr % 24))) 37 2 x2) 37 3 (nI dl)) 37 4 (bits (tml g (hr % 24)) (gS g) ||| nI 64)) := by
    intro x2 v3 v4 hx
    refine key _ _ _ ?_ ?_ ?_ ?_
    · exact frm_t (frm_t (frm_t (frm_t (frm_u (by simp)) (frm_u (by simp))) (frm_u (by simp))) (frm_u (by simp))) (frm_u (by simp))
    · refine ⟨?_, ?_, ?_⟩ <;> simp [upM, hx]
    · simp [upM]
    · simp [upM]
  have h1 : ∀ (t : Mem) j x, (upM t 37 j x) 37 j = x := fun t j x => up_at
  rcases hl with ⟨rfl, _, _⟩ | ⟨j, hj, rfl, _, _⟩
  · rw [e_A_blow_n, q2, c_now (by omega), a34, n2, q24, pk_rem (by omega) (by decide) (by decide), q1, c_now (by omega), a34, a34, n1]
    simp only [b01_1]
    cases rn
    · simp only [Bool.false_eq_true, if_false]
      rw [q3, c_now (by omega), a34, a34, a34, n3, C_b hcc, cond_true, up_pl (by decide), up_at, c_timely hcc hg (cf _ _ _ (cf _ _ _ (cf _ _ _ (cf _ _ _ hc.1)))) hlt]
      exact fin _ _ _ rfl
    · simp only [if_true]
      rw [q3, c_now (by omega), a34, a34, a34, n3, C_b hcc, cond_true, up_pl (by decide), up_at, c_timely hcc hg (cf _ _ _ (cf _ _ _ (cf _ _ _ (cf _ _ _ hc.1)))) hlt]
      exact fin _ _ _ rfl
  · rw [e_A_blow, q2, c_now (by omega), a34, n2, q24, pk_rem (by omega) (by decide) (by decide), q1, c_now (by omega), a34, a34, n1]
    simp only [b01_1]
    cases rn
    · simp only [Bool.false_eq_true, if_false]
      rw [q3, c_now (by omega), a34, a34, a34, n3, C_b hcc, cond_true, up_pl (by decide), up_at, c_timely hcc hg (cf _ _ _ (cf _ _ _ (cf _ _ _ (cf _ _ _ hc.1)))) hlt]
      exact fin _ _ _ rfl
    · simp only [if_true]
      rw [q3, c_now (by omega), a34, a34, a34, n3, C_b hcc, cond_true, up_pl (by decide), up_at, c_timely hcc hg (cf _ _ _ (cf _ _ _ (cf _ _ _ (cf _ _ _ hc.1)))) hlt]
      exact fin _ _ _ rfl
theorem c_forge {K : Mem → Prop} (hcc : isC c) (hg : gOk g) (hl : HlC lv Ll W P) (hP : PStay c P) (hh : h < 24) (hw : w < 5) {s : Mem} (hA : AirC g W h rn w dl none s) (hc : CityF c g s) (hp : P s) {a kd : Nat} (ha : a < gN g) (has : gst g a = true) (hkd : kd ≤ 4)
    (hK : ∀ s', frm ([c + 5, c + 6, 38, 39] ++ Ll) s s' → CityF c g s' → P s' → AirC g W h rn w dl (some (a, kd)) s' → K s') :
    wV (wp (d + 7)) m_A_forge [.ref 37, .ref c, lv, .int (nI a), .int (nI kd)] s K := by
  have hL := C_le hcc
  have h6 := hg.2.2.1
  have hLl := HlC_L hl
  have n37 : 37 ∉ [c + 5, c + 6, 38, 39] ++ Ll := by
    simp only [List.mem_append, List.mem_cons, List.not_mem_nil, or_false, not_or]
    exact ⟨by omega, fun z => by have := hLl 37 z; omega⟩
  have n38 : 38 ∉ [c + 5, c + 6, 39] ++ Ll := by
    simp only [List.mem_append, List.mem_cons, List.not_mem_nil, or_false, not_or]
    exact ⟨by omega, fun z => by have := hLl 38 z; omega⟩
  have s1f : frm [38] s (upM s 38 6 (nI kd)) := frm_u (by simp)
  have hc1 : CityF c g (upM s 38 6 (nI kd)) := by
    refine ⟨CityC_f (L := [38]) (by simp; omega) (by simp; omega) (by simp; omega) s1f hc.1, fun w' a' hw' ha' => ?_⟩
    unfold FarC
    rw [s1f (c + 6) (by simp; omega), s1f (c + 5) (by simp; omega)]
    exact hc.2 w' a' hw' ha'
  have e37 : (upM s 38 6 (nI kd)) 37 = s 37 := s1f 37 (by simp)
  have e39 : (upM s 38 6 (nI kd)) 39 = s 39 := s1f 39 (by simp)
  have main : wV (wp (d + 6)) m_A_whiff [.ref 37, .ref c, lv, .int (nI 6), .int (nI a), .int (nI 5)] (upM s 38 6 (nI kd)) K := by
    refine c_whiff hcc hg hl hP hh hw (by omega) ha has (by omega) hkd (by unfold AirF; rw [e37]; exact hA.1) hc1 (hP _ _ (frm_w s1f (by simp)) hp) up_at ?_
    intro s' hf' hc' hp' hw1 hw2
    have f2 : frm ([c + 5, c + 6, 38, 39] ++ Ll) s s' := frm_t (frm_w s1f (by simp)) (frm_w hf' (by
      intro b hb
      simp only [List.mem_append, List.mem_cons, List.not_mem_nil, or_false] at hb ⊢
      rcases hb with (rfl | rfl | rfl) | hb
      · simp
      · simp
      · simp
      · exact Or.inr hb))
    have e37' : s' 37 = s 37 := f2 37 n37
    have e38' : s' 38 = (upM s 38 6 (nI kd)) 38 := hf' 38 n38
    refine hK s' f2 hc' hp' ?_
    obtain ⟨b1, b2, b3, b4, b5, b6⟩ := hA
    refine ⟨by unfold AirF; rw [e37']; exact b1, by rw [e37']; exact b2, by rw [e37']; exact b3, fun k hk => ?_, fun k hk hk2 p hp2 => ?_, fun p q e => ?_⟩
    · rw [e38', up_pl (by omega)]; exact b4 k hk
    · rw [hw2 _ (by have := gN_le hg; omega), e39]; exact b5 k hk hk2 p hp2
    · injection e with e
      injection e with e1 e2
      subst e1 e2
      refine ⟨by rw [e38', up_at], fun q hq => hw1 q hq⟩
  rcases hl with ⟨rfl, _, _⟩ | ⟨j, hj, rfl, _, _⟩
  · rw [e_A_forge_n, q6, q5, c_put (show (shp 38).1 = 20 from rfl) (show 38 ≤ 999 by decide) (show 6 < (shp 38).2 by decide)]
    exact main
  · rw [e_A_forge, q6, q5, c_put (show (shp 38).1 = 20 from rfl) (show 38 ≤ 999 by decide) (show 6 < (shp 38).2 by decide)]
    exact main
theorem c_breathAt {K : Int32 → Mem → Prop} {s : Mem} {k : Nat} (hk : k < 20) : wI (wp (d + 2)) m_A_breathAt [.ref 37, .int (nI k)] s K = K (s 40 k) s := by
  rw [e_A_breathAt, c_at (show (shp 40).1 = 20 from rfl) (show k < (shp 40).2 from hk)]
/-- a bit by a loop over places: what the classes' loops come to -/
theorem bits_S (p : Nat → Bool) (n : Nat) : bits p (n + 1) = if p n = true then bits p n ||| bit n else bits p n := by
  unfold bits
  rw [itr_S, Nat.zero_add]
theorem c_changed {K : Int32 → Mem → Prop} (hcc : isC c) (hg : gOk g) {s : Mem} (hc : CityC c g s) : wI (wp (d + 4)) m_A_changed [.ref 37, .ref c] s K = K (bits (fun k => gst g k && ! decide (s 40 k = s 41 k)) (gN g)) s := by
  have h20 := gN_le hg
  have lp : ∀ (n i : Nat), i + n = gN g → RnI (d + 3) m_A_changed K 4 [.ref 37, .ref c, .int (bits (fun k => gst g k && ! decide (s 40 k = s 41 k)) i), .int (nI i)] [] s = K (bits (fun k => gst g k && ! decide (s 40 k = s 41 k)) (gN g)) s := by
    intro n
    induction n with
    | zero =>
      intro i hi
      obtain rfl : i = gN g := by omega
      rw [r_A_changed_4, c_cells hcc hc]
      simp (disch := omega) only [↓n_m1, ↓n_hid, q0, q1, q2, q3, q4, q5, q6, q7, q8, q9, q10, q11, q12, q13, q14, q15, q16, q17, q18, q19, q20, q21, q22, q23, q24, q25, q26, q27, q28, q29, q30, q31, q32, q33, q34, q35, q36, q37, q38, q39, q40, q41, q42, q43, q44, q45, q46, q47, q48, q49, q50, q51, q52, q53, q54, q55, q56, q57, q58, q59, q61, q62, q63, q64, q66, q67, q68, q69, q70, q71, q91, q93, q99, q100, q102, q104, q107, q108, q112, q114, q115, q119, q121, q124, q160, q200, q255, q640, q999, q1000, q2000, q4096, n_of, nI_ltI, nI_leI, nI_eq, nI_clamp, nI_add, pk_mul, n_sub, m1_eq, m1_eq2, m1_lt, m1_lt2, gdN, Nat.not_lt_zero, false_or, if_true, if_false, if_pos, if_neg, cond_true, cond_false, beq_self, and_self, true_and, and_true, not_true_eq_false, not_false_eq_true, ne_eq, C_b hcc]
    | succ n ih =>
      intro i hi
      rw [← ih (i + 1) (by omega), r_A_changed_4, c_cells hcc hc, bits_S]
      simp (disch := omega) only [↓n_m1, ↓n_hid, q0, q1, q2, q3, q4, q5, q6, q7, q8, q9, q10, q11, q12, q13, q14, q15, q16, q17, q18, q19, q20, q21, q22, q23, q24, q25, q26, q27, q28, q29, q30, q31, q32, q33, q34, q35, q36, q37, q38, q39, q40, q41, q42, q43, q44, q45, q46, q47, q48, q49, q50, q51, q52, q53, q54, q55, q56, q57, q58, q59, q61, q62, q63, q64, q66, q67, q68, q69, q70, q71, q91, q93, q99, q100, q102, q104, q107, q108, q112, q114, q115, q119, q121, q124, q160, q200, q255, q640, q999, q1000, q2000, q4096, n_of, nI_ltI, nI_leI, nI_eq, nI_clamp, nI_add, pk_mul, n_sub, m1_eq, m1_eq2, m1_lt, m1_lt2, gdN, Nat.not_lt_zero, false_or, if_true, if_false, if_pos, if_neg, cond_true, cond_false, beq_self, and_self, true_and, and_true, not_true_eq_false, not_false_eq_true, ne_eq, C_b hcc]
      rw [c_isStreet hcc hg hc (by omega)]
      simp (disch := omega) only [↓n_m1, ↓n_hid, q0, q1, q2, q3, q4, q5, q6, q7, q8, q9, q10, q11, q12, q13, q14, q15, q16, q17, q18, q19, q20, q21, q22, q23, q24, q25, q26, q27, q28, q29, q30, q31, q32, q33, q34, q35, q36, q37, q38, q39, q40, q41, q42, q43, q44, q45, q46, q47, q48, q49, q50, q51, q52, q53, q54, q55, q56, q57, q58, q59, q61, q62, q63, q64, q66, q67, q68, q69, q70, q71, q91, q93, q99, q100, q102, q104, q107, q108, q112, q114, q115, q119, q121, q124, q160, q200, q255, q640, q999, q1000, q2000, q4096, n_of, nI_ltI, nI_leI, nI_eq, nI_clamp, nI_add, pk_mul, n_sub, m1_eq, m1_eq2, m1_lt, m1_lt2, gdN, Nat.not_lt_zero, false_or, if_true, if_false, if_pos, if_neg, cond_true, cond_false, beq_self, and_self, true_and, and_true, not_true_eq_false, not_false_eq_true, ne_eq, b01_0]
      rw [c_breathAt (by omega), c_at (show (shp 41).1 = 20 from rfl) (show i < (shp 41).2 by show _ < 20; omega)]
      cases gst g i
      · simp
      · by_cases e : s 40 i = s 41 i
        · simp [e]
        · simp [e, bit_e]
  rw [e_A_changed, q0]
  exact lp (gN g) 0 (by omega)
theorem c_isAlone {K : Int32 → Mem → Prop} (hcc : isC c) (hg : gOk g) {s : Mem} (hc : CityC c g s) {p : Nat} (hp : p < gN g) : wI (wp (d + 4)) m_A_isAlone [.ref 37, .ref c, .int (nI p)] s K = K (b01 (decide (¬ s 40 p = nI 0 ∧ ∀ k, k < gN g → k ≠ p → gst g k = true → s 40 k ≠ s 40 p))) s := by
  have h20 := gN_le hg
  have lp : ∀ (n i : Nat), i + n = gN g → (∀ k, k < i → k ≠ p → gst g k = true → s 40 k ≠ s 40 p) → RnI (d + 3) m_A_isAlone K 9 [.ref 37, .ref c, .int (nI p), .int (s 40 p), .int (nI i)] [] s = K (b01 (decide (¬ s 40 p = nI 0 ∧ ∀ k, k < gN g → k ≠ p → gst g k = true → s 40 k ≠ s 40 p))) s := by
    intro n
    induction n with
    | zero =>
      intro i hi h
      obtain rfl : i = gN g := by omega
      rw [r_A_isAlone_9, c_cells hcc hc]
      simp (disch := omega) only [↓n_m1, ↓n_hid, q0, q1, q2, q3, q4, q5, q6, q7, q8, q9, q10, q11, q12, q13, q14, q15, q16, q17, q18, q19, q20, q21, q22, q23, q24, q25, q26, q27, q28, q29, q30, q31, q32, q33, q34, q35, q36, q37, q38, q39, q40, q41, q42, q43, q44, q45, q46, q47, q48, q49, q50, q51, q52, q53, q54, q55, q56, q57, q58, q59, q61, q62, q63, q64, q66, q67, q68, q69, q70, q71, q91, q93, q99, q100, q102, q104, q107, q108, q112, q114, q115, q119, q121, q124, q160, q200, q255, q640, q999, q1000, q2000, q4096, n_of, nI_ltI, nI_leI, nI_eq, nI_clamp, nI_add, pk_mul, n_sub, m1_eq, m1_eq2, m1_lt, m1_lt2, gdN, Nat.not_lt_zero, false_or, if_true, if_false, if_pos, if_neg, cond_true, cond_false, beq_self, and_self, true_and, and_true, not_true_eq_false, not_false_eq_true, ne_eq, C_b hcc]
      by_cases e : s 40 p = nI 0
      · rw [decide_eq_false (fun z => z.1 e)]; simp [e, b01]
      · rw [decide_eq_true ⟨e, h⟩]; simp [e, b01]
    | succ n ih =>
      intro i hi h
      rw [r_A_isAlone_9, c_cells hcc hc]
      simp (disch := omega) only [↓n_m1, ↓n_hid, q0, q1, q2, q3, q4, q5, q6, q7, q8, q9, q10, q11, q12, q13, q14, q15, q16, q17, q18, q19, q20, q21, q22, q23, q24, q25, q26, q27, q28, q29, q30, q31, q32, q33, q34, q35, q36, q37, q38, q39, q40, q41, q42, q43, q44, q45, q46, q47, q48, q49, q50, q51, q52, q53, q54, q55, q56, q57, q58, q59, q61, q62, q63, q64, q66, q67, q68, q69, q70, q71, q91, q93, q99, q100, q102, q104, q107, q108, q112, q114, q115, q119, q121, q124, q160, q200, q255, q640, q999, q1000, q2000, q4096, n_of, nI_ltI, nI_leI, nI_eq, nI_clamp, nI_add, pk_mul, n_sub, m1_eq, m1_eq2, m1_lt, m1_lt2, gdN, Nat.not_lt_zero, false_or, if_true, if_false, if_pos, if_neg, cond_true, cond_false, beq_self, and_self, true_and, and_true, not_true_eq_false, not_false_eq_true, ne_eq, C_b hcc]
      rw [c_isStreet hcc hg hc (by omega)]
      simp (disch := omega) only [↓n_m1, ↓n_hid, q0, q1, q2, q3, q4, q5, q6, q7, q8, q9, q10, q11, q12, q13, q14, q15, q16, q17, q18, q19, q20, q21, q22, q23, q24, q25, q26, q27, q28, q29, q30, q31, q32, q33, q34, q35, q36, q37, q38, q39, q40, q41, q42, q43, q44, q45, q46, q47, q48, q49, q50, q51, q52, q53, q54, q55, q56, q57, q58, q59, q61, q62, q63, q64, q66, q67, q68, q69, q70, q71, q91, q93, q99, q100, q102, q104, q107, q108, q112, q114, q115, q119, q121, q124, q160, q200, q255, q640, q999, q1000, q2000, q4096, n_of, nI_ltI, nI_leI, nI_eq, nI_clamp, nI_add, pk_mul, n_sub, m1_eq, m1_eq2, m1_lt, m1_lt2, gdN, Nat.not_lt_zero, false_or, if_true, if_false, if_pos, if_neg, cond_true, cond_false, beq_self, and_self, true_and, and_true, not_true_eq_false, not_false_eq_true, ne_eq, b01_0]
      rw [c_breathAt (by omega)]
      by_cases ep : i = p
      · subst ep
        simp only [if_true]
        exact ih (i + 1) (by omega) fun k hk hkp hs => h k (by omega) hkp hs
      · simp only [ep, if_false]
        cases hst : gst g i with
        | false =>
          simp only [if_true]
          exact ih (i + 1) (by omega) fun k hk hkp hs => by
            by_cases e : k = i
            · rw [e, hst] at hs; simp at hs
            · exact h k (by omega) hkp hs
        | true =>
          simp only [Bool.true_eq_false, if_false]
          by_cases e : s 40 i = s 40 p
          · simp only [e, if_true]
            rw [decide_eq_false (fun z => z.2 i (by omega) ep hst e)]
            rfl
          · simp only [e, if_false]
            exact ih (i + 1) (by omega) fun k hk hkp hs => by
              by_cases e2 : k = i
              · rw [e2]; exact e
              · exact h k (by omega) hkp hs
  rw [e_A_isAlone, c_breathAt (by omega), q0]
  exact lp (gN g) 0 (by omega) fun k hk => by omega
end
