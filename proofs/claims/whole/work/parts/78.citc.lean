/-! the class reads a city's text -/
section
variable {d c : Nat} {T : Txt} {s : Mem}
theorem c_fill {K : Mem → Prop} (hd : 1 ≤ d) {a : Nat} (ha : (shp a).1 = 20) (hle : a ≤ 999) {v : Int32} (hK : ∀ s', frm [a] s s' → (∀ k, k < (shp a).2 → s' a k = v) → K s') : wV (wp d) m_J_fill [.ref a, .int v] s K := by
  have hs := shp_le a
  obtain ⟨d, rfl⟩ : ∃ e, d = e + 1 := ⟨d - 1, by omega⟩
  have lp : ∀ (n i : Nat) (t : Mem), i + n = (shp a).2 → frm [a] s t → (∀ k, k < i → t a k = v) → RnV d m_J_fill K 5 [.ref a, .int v, .int (nI i), .int (nI (shp a).2)] [] t := by
    intro n
    induction n with
    | zero =>
      intro i t hi hf h
      obtain rfl : i = (shp a).2 := by omega
      rw [r_J_fill_5, if_neg (show ¬ nI (shp a).2 < nI (shp a).2 by rw [nI_ltI (by omega) (by omega)]; omega)]
      exact hK t hf h
    | succ n ih =>
      intro i t hi hf h
      rw [r_J_fill_5, if_pos (show nI i < nI (shp a).2 by rw [nI_ltI (by omega) (by omega)]; omega), ha, show Nat.ble a 999 = true from Nat.ble_eq_true_of_le hle, nI_clamp (by omega), if_neg (show ¬ (nI i < 0 ∨ (shp a).2 ≤ i) by rw [q0, nI_ltI (by omega) (by omega)]; omega), show nI i + 1 = nI (i + 1) from nI_add i 1]
      refine ih (i + 1) _ (by omega) (frm_t hf (frm_u (by simp))) fun k hk => ?_
      by_cases e : k = i
      · rw [e, up_at]
      · rw [up_pl e]; exact h k (by omega)
  rw [e_J_fill, ha]
  exact lp (shp a).2 0 s (by omega) frm_r (fun k hk => by omega)
theorem C_s6' {c : Nat} (h : isC c) : (shp (c + 6)).1 = 20 ∧ (shp (c + 6)).2 = 20 := by rcases h with rfl | rfl <;> exact ⟨rfl, rfl⟩
def DC (c : Nat) (r : RawC) (s : Mem) : Prop := s c 0 = nI (rR r) ∧ s c 2 = nI (rS r) ∧ s c 3 = b01 (rH r) ∧ (∀ k, k < rR r → s (c + 1) k = nI (rW r k) ∧ s (c + 2) k = bits (rT r k) (rW r k)) ∧
  (∀ k j, k < rS r → j < 6 → s (c + 3) (7 * k + j) = nI (rI r k j)) ∧ (∀ k j, rS r ≤ k → k < 6 → j < 6 → s (c + 3) (7 * k + j) = nI (itU j)) ∧ s (c + 3) 48 = nI (rD r)
theorem DC_f {t : Mem} {L : List Nat} {r : RawC} (h : DC c r s) (hf : frm L s t) (hL : c ∉ L ∧ c + 1 ∉ L ∧ c + 2 ∉ L ∧ c + 3 ∉ L) : DC c r t := by
  unfold DC at *
  rw [hf c hL.1, hf (c + 1) hL.2.1, hf (c + 2) hL.2.2.1, hf (c + 3) hL.2.2.2]
  exact h
theorem STA_f {t : Mem} {L : List Nat} (h : STA s) (hf : frm L s t) (hL : ∀ a, a ∈ L → a < 1000) : STA t := by
  have e : ∀ a, 1001 ≤ a → t a = s a := fun a ha => hf a (fun z => by have := hL a z; omega)
  unfold STA at *
  rw [e 1001 (by omega), e 1002 (by omega), e 1003 (by omega), e 1004 (by omega), e 1005 (by omega), e 1006 (by omega), e 1007 (by omega)]
  exact h
theorem sta_U (h : STA s) {j : Nat} (hj : j < 7) : s 1005 j = nI (itU j) := by
  obtain ⟨a0, a1, a2, a3, a4, a5, a6⟩ := h.2.2.2.2.1
  rcases (show j = 0 ∨ j = 1 ∨ j = 2 ∨ j = 3 ∨ j = 4 ∨ j = 5 ∨ j = 6 by omega) with rfl | rfl | rfl | rfl | rfl | rfl | rfl
  · exact a0
  · exact a1
  · exact a2
  · exact a3
  · exact a4
  · exact a5
  · exact a6
theorem sta_L (h : STA s) {j : Nat} (hj : j < 7) : s 1002 j = nI (itL j) := by
  obtain ⟨a0, a1, a2, a3, a4, a5, a6⟩ := h.2.1
  rcases (show j = 0 ∨ j = 1 ∨ j = 2 ∨ j = 3 ∨ j = 4 ∨ j = 5 ∨ j = 6 by omega) with rfl | rfl | rfl | rfl | rfl | rfl | rfl
  · exact a0
  · exact a1
  · exact a2
  · exact a3
  · exact a4
  · exact a5
  · exact a6
theorem sta_lo (h : STA s) {j : Nat} (hj : j < 7) : s 1003 j = nI (itLo j) := by
  obtain ⟨a0, a1, a2, a3, a4, a5, a6⟩ := h.2.2.1
  rcases (show j = 0 ∨ j = 1 ∨ j = 2 ∨ j = 3 ∨ j = 4 ∨ j = 5 ∨ j = 6 by omega) with rfl | rfl | rfl | rfl | rfl | rfl | rfl
  · exact a0
  · exact a1
  · exact a2
  · exact a3
  · exact a4
  · exact a5
  · exact a6
theorem sta_hi (h : STA s) {j : Nat} (hj : j < 7) : s 1004 j = nI (itHi j) := by
  obtain ⟨a0, a1, a2, a3, a4, a5, a6⟩ := h.2.2.2.1
  rcases (show j = 0 ∨ j = 1 ∨ j = 2 ∨ j = 3 ∨ j = 4 ∨ j = 5 ∨ j = 6 by omega) with rfl | rfl | rfl | rfl | rfl | rfl | rfl
  · exact a0
  · exact a1
  · exact a2
  · exact a3
  · exact a4
  · exact a5
  · exact a6
theorem c_clear {K : Mem → Prop} (hcc : isC c) (hd : 3 ≤ d) (hst : STA s) (hK : ∀ s', frm [c, c + 3, c + 6] s s' → DC c raw0 s' → (∀ k, k < 20 → s' (c + 6) k = nI 0) → K s') : wV (wp d) m_C_clear [.ref c] s K := by
  have hL := C_le hcc
  have hb := C_b hcc
  have h3 := C_s3 hcc
  obtain ⟨h6, h6'⟩ := C_s6' hcc
  obtain ⟨d, rfl⟩ : ∃ e, d = e + 2 := ⟨d - 2, by omega⟩
  have f0 : frm [c, c + 3, c + 6] s (upM (upM (upM (upM (upM s c 0 0) c 1 0) c 2 0) c 3 0) c 4 0) := frm_t (frm_u (by simp)) (frm_t (frm_u (by simp)) (frm_t (frm_u (by simp)) (frm_t (frm_u (by simp)) (frm_u (by simp)))))
  have e0 : ∀ {t : Mem}, t c = (upM (upM (upM (upM (upM s c 0 0) c 1 0) c 2 0) c 3 0) c 4 0) c → t c 0 = nI 0 ∧ t c 2 = nI 0 ∧ t c 3 = nI 0 := fun e => by rw [e]; simp [upM]; decide
  have l2 : ∀ (n i : Nat) (t : Mem) (v2 : Value), i + n = 7 → frm [c, c + 3, c + 6] s t → t c = (upM (upM (upM (upM (upM s c 0 0) c 1 0) c 2 0) c 3 0) c 4 0) c → (∀ k j, k < i → j < 7 → t (c + 3) (7 * k + j) = nI (itU j)) → RnV (d + 1) m_C_clear K 27 [.ref c, .int (nI i), v2] [] t := by
    intro n
    induction n with
    | zero =>
      intro i t v2 hi hf ec h
      obtain rfl : i = 7 := by omega
      rw [r_C_clear_27, if_pos (show (6 : Int32) < nI 7 by decide), hb]
      simp only [cond_true]
      refine c_fill (by omega) h6 (by omega) fun u fu hu => ?_
      rw [h6'] at hu
      have fr : frm [c, c + 3, c + 6] s u := frm_t hf (frm_w fu (by simp))
      obtain ⟨a0, a2, a3⟩ := e0 (t := u) (by rw [fu c (by simp)]; exact ec)
      refine hK u fr ⟨a0, a2, a3, fun k hk => absurd hk (Nat.not_lt_zero k), fun k j hk => absurd hk (Nat.not_lt_zero k), fun k j _ hk hj => ?_, ?_⟩ hu
      · rw [fu (c + 3) (by simp)]; exact h k j (by omega) (by omega)
      · rw [fu (c + 3) (by simp)]; exact h 6 6 (by decide) (by decide)
    | succ n ih =>
      intro i t v2 hi hf ec h
      rw [r_C_clear_27, if_neg (show ¬ (6 : Int32) < nI i by rw [q6, nI_ltI (by omega) (by omega)]; omega)]
      have l1 : ∀ (m j : Nat) (u : Mem), j + m = 7 → frm [c, c + 3, c + 6] s u → u c = (upM (upM (upM (upM (upM s c 0 0) c 1 0) c 2 0) c 3 0) c 4 0) c → (∀ k j', (k < i ∧ j' < 7) ∨ (k = i ∧ j' < j) → u (c + 3) (7 * k + j') = nI (itU j')) → RnV (d + 1) m_C_clear K 35 [.ref c, .int (nI i), .int (nI j)] [] u := by
        intro m
        induction m with
        | zero =>
          intro j u hj hf ec h
          obtain rfl : j = 7 := by omega
          rw [r_C_clear_35, if_neg (show ¬ nI 7 < 7 by decide), show nI i + 1 = nI (i + 1) from nI_add i 1]
          exact ih (i + 1) u _ (by omega) hf ec fun k j' hk hj' => h k j' (by omega)
        | succ m ihm =>
          intro j u hj hf ec h
          have est : u 1005 j = nI (itU j) := sta_U (STA_f hst hf (fun a z => by simp only [List.mem_cons, List.not_mem_nil, or_false] at z; omega)) (by omega)
          rw [r_C_clear_35, if_pos (show nI j < 7 by rw [q7, nI_ltI (by omega) (by omega)]; omega), hb]
          simp only [cond_true]
          rw [c_at (d := d) (show (shp 1005).1 = 20 from rfl) (show j < 7 by omega), est, show (7 : Int32) = nI 7 from rfl, pk_mul, nI_add, c_put (d := d) (by rw [h3]) (by omega) (by rw [h3]; show i * 7 + j < 49; omega), show nI j + 1 = nI (j + 1) from nI_add j 1]
          refine ihm (j + 1) _ (by omega) (frm_t hf (frm_u (by simp))) (by rw [up_ce (by omega)]; exact ec) fun k j' hk => ?_
          by_cases e : 7 * k + j' = i * 7 + j
          · have : k = i ∧ j' = j := by omega
            rw [e, up_at, this.2]
          · rw [up_pl e]; exact h k j' (by omega)
      exact l1 7 0 t rfl hf ec fun k j' hk => h k j' (by omega) (by omega)
  rw [e_C_clear, hb]
  simp only [cond_true]
  exact l2 7 0 _ _ rfl f0 rfl (fun k j hk => absurd hk (Nat.not_lt_zero k))
/-- a fault that is told, or one that will be told at the text's end -/
def FB (T : Txt) (f : Nat) (s : Mem) : Prop := TpB T f s ∨ ∃ p : Nat, TpG T p s ∧ p ≤ T.2 ∧ sk T p = f ∧ f < T.2 ∧ T.1 f ≠ 59
abbrev fC (c : Nat) (s t : Mem) : Prop := frm [1, c, c + 1, c + 2, c + 3] s t
def CK (T : Txt) (c : Nat) (r : Sum Nat (Nat × RawC)) (s : Mem) (K : Mem → Prop) : Prop := match r with
  | .inl f => ∀ s', fC c s s' → FB T f s' → K s'
  | .inr x => ∀ s' p, fC c s s' → TpG T p s' → p ≤ T.2 → sk T p = x.1 → DC c x.2 s' → K s'
theorem c_isGround {K : Int32 → Mem → Prop} (hd : 1 ≤ d) {x : Nat} (hx : x < 256) : wI (wp d) m_C_isGround [.int (nI x)] s K = K (b01 (grd x)) s := by
  obtain ⟨d, rfl⟩ : ∃ e, d = e + 1 := ⟨d - 1, by omega⟩
  rw [e_C_isGround]
  simp (disch := omega) only [↓n_m1, ↓n_hid, q0, q1, q2, q3, q4, q5, q6, q7, q8, q9, q10, q11, q12, q13, q14, q15, q16, q17, q18, q19, q20, q21, q22, q23, q24, q25, q26, q27, q28, q29, q30, q31, q32, q33, q34, q35, q36, q37, q38, q39, q40, q41, q42, q43, q44, q45, q46, q47, q48, q49, q50, q51, q52, q53, q54, q55, q56, q57, q58, q59, q61, q62, q63, q64, q66, q67, q68, q69, q70, q71, q91, q93, q99, q100, q102, q104, q107, q108, q112, q114, q115, q119, q121, q124, q160, q200, q255, q640, q999, q1000, q2000, q4096, n_of, nI_ltI, nI_leI, nI_eq, nI_clamp, nI_add, pk_mul, n_sub, m1_eq, m1_eq2, m1_lt, m1_lt2, gdN, Nat.not_lt_zero, false_or, if_true, if_false, if_pos, if_neg, cond_true, cond_false, beq_self, and_self, true_and, and_true, not_true_eq_false, not_false_eq_true, ne_eq]
  unfold grd
  by_cases h1 : x = 46
  · rw [if_pos h1, decide_eq_true (by omega)]; rfl
  rw [if_neg h1]
  by_cases h2 : x = 35
  · rw [if_pos h2, decide_eq_true (by omega)]; rfl
  rw [if_neg h2, decide_eq_false (by omega)]; rfl
theorem b_isGround {K : Int32 → Mem → Prop} (hd : 1 ≤ d) : wI (wp d) m_C_isGround [.int m1] s K = K (nI 0) s := by
  obtain ⟨d, rfl⟩ : ∃ e, d = e + 1 := ⟨d - 1, by omega⟩
  rw [e_C_isGround, if_neg (by decide), if_neg (by decide)]
  rfl
/-- whether ground stands there -/
theorem c_groundAt (hT : TxOk T) {K : Int32 → Mem → Prop} (hd : 1 ≤ d) {q : Nat} : wI (wp d) m_C_isGround [.int (sg T q)] s K = K (b01 (decide (q < T.2) && grd (T.1 q))) s := by
  by_cases h : q < T.2
  · have := (hT.2 q h).2
    rw [show sg T q = nI (T.1 q) from if_pos h, c_isGround hd (by omega), decide_eq_true h, Bool.true_and]
  · rw [show sg T q = m1 from if_neg h, b_isGround hd, decide_eq_false h, Bool.false_and]
    rfl
theorem TpG_sk {p p' : Nat} (h : TpG T p s) (e : p = p') : TpG T p' s := e ▸ h
theorem c_readRow (hT : TxOk T) (hcc : isC c) {K : Mem → Prop} (hd : 4 ≤ d) {r : RawC} {p : Nat} (hg : TpG T p s) (hp : p ≤ T.2) (hD : DC c r s) (hR : rR r < 4) (hK : CK T c (bnd (rowF T 5 p 0 (fun _ => false)) fun p' x => .inr (p', addRow r x)) s K) : wV (wp d) m_C_readRow [.ref c, .ref 1] s K := by
  have h160 := hT.1
  have hL := C_le hcc
  have c3 : 3 ≤ c := by rcases hcc with rfl | rfl <;> omega
  have hb := C_b hcc
  have h1 := C_s1 hcc
  have h2 := C_s2 hcc
  obtain ⟨d, rfl⟩ : ∃ e, d = e + 1 := ⟨d - 1, by omega⟩
  -- behind a fault
  have bad : ∀ (f : Nat) (u : Mem) (x y : Int32), fC c s u → TpB T f u → (∀ s', fC c s s' → FB T f s' → K s') → wV (wp d) m_X_put [.ref (c + 1), .int (u c 0), .int x] u (fun s78 => wV (wp d) m_X_put [.ref (c + 2), .int (s78 c 0), .int y] s78 (fun s90 => K (upM s90 c 0 ((s90 c 0) + 1)))) := by
    intro f u x y fu gu hK
    refine c_putany (by omega) (by rw [h1]) (by omega) fun u1 f1 => ?_
    refine c_putany (by omega) (by rw [h2]) (by omega) fun u2 f2 => ?_
    have fr : frm [1, c, c + 1, c + 2, c + 3] u (upM u2 c 0 (u2 c 0 + 1)) := frm_t (frm_w f1 (by simp)) (frm_t (frm_w f2 (by simp)) (frm_u (by simp)))
    refine hK _ (frm_t fu fr) (Or.inl ?_)
    exact TpB_f (L := [c, c + 1, c + 2]) (by simp; omega) (by simp; omega) (frm_t (frm_w f1 (by simp)) (frm_t (frm_w f2 (by simp)) (frm_u (by simp)))) gu
  -- the row is laid down
  have good : ∀ (q len : Nat) (f : Nat → Bool) (u : Mem) (p0 : Nat), fC c s u → TpG T p0 u → p0 ≤ T.2 → sk T p0 = q → u c = s c → u (c + 1) = s (c + 1) → u (c + 2) = s (c + 2) → u (c + 3) = s (c + 3) → (∀ s' p, fC c s s' → TpG T p s' → p ≤ T.2 → sk T p = q → DC c (addRow r (len, f)) s' → K s') → wV (wp d) m_X_put [.ref (c + 1), .int (u c 0), .int (nI len)] u (fun s78 => wV (wp d) m_X_put [.ref (c + 2), .int (s78 c 0), .int (bits f len)] s78 (fun s90 => K (upM s90 c 0 ((s90 c 0) + 1)))) := by
    intro q len f u p0 fu gu hp0 hq e0 e1 e2 e3 hK
    obtain ⟨d0, d2, d3, dr, di, du, dd⟩ := hD
    obtain ⟨d, rfl⟩ : ∃ e, d = e + 1 := ⟨d - 1, by omega⟩
    rw [e0, d0, c_put (d := d) (by rw [h1]) (by omega) (by rw [h1]; exact hR), up_ce (show c ≠ c + 1 by omega), e0, d0, c_put (d := d) (by rw [h2]) (by omega) (by rw [h2]; exact hR), up_ce (show c ≠ c + 2 by omega), up_ce (show c ≠ c + 1 by omega), e0, d0, show nI (rR r) + 1 = nI (rR r + 1) from nI_add _ 1]
    refine hK _ p0 (frm_t fu (frm_t (frm_u (by simp)) (frm_t (frm_u (by simp)) (frm_u (by simp))))) ?_ hp0 hq ⟨up_at, ?_, ?_, fun k hk => ?_, fun k j hk hj => ?_, fun k j hk hk6 hj => ?_, ?_⟩
    · exact TpG_f (L := [c, c + 1, c + 2]) (by simp; omega) (by simp; omega) (frm_t (frm_u (by simp)) (frm_t (frm_u (by simp)) (frm_u (by simp)))) gu
    · rw [up_pl (by decide), up_ce (by omega), up_ce (by omega), e0]; exact d2
    · rw [up_pl (by decide), up_ce (by omega), up_ce (by omega), e0]; exact d3
    · have hk' : k < rR r + 1 := hk
      show _ = nI (if k = rR r then len else rW r k) ∧ _ = bits (if k = rR r then f else rT r k) (if k = rR r then len else rW r k)
      by_cases e : k = rR r
      · rw [if_pos e, if_pos e, e]
        rw [up_ce (show c + 1 ≠ c by omega), up_ce (show c + 1 ≠ c + 2 by omega), up_at, up_ce (show c + 2 ≠ c by omega), up_at]
        exact ⟨rfl, rfl⟩
      · rw [if_neg e, if_neg e]
        rw [up_ce (show c + 1 ≠ c by omega), up_ce (show c + 1 ≠ c + 2 by omega), up_pl e, up_ce (show c + 2 ≠ c by omega), up_pl e, up_ce (show c + 2 ≠ c + 1 by omega), e1, e2]
        exact dr k (by omega)
    · rw [up_ce (by omega), up_ce (by omega), up_ce (by omega), e3]; exact di k j hk hj
    · rw [up_ce (by omega), up_ce (by omega), up_ce (by omega), e3]; exact du k j hk hk6 hj
    · rw [up_ce (by omega), up_ce (by omega), up_ce (by omega), e3]; exact dd
  have cells : ∀ {u : Mem}, frm [1] s u → u c = s c ∧ u (c + 1) = s (c + 1) ∧ u (c + 2) = s (c + 2) ∧ u (c + 3) = s (c + 3) := fun f => ⟨f c (by simp only [List.mem_cons, List.not_mem_nil, or_false]; omega), f (c + 1) (by simp only [List.mem_cons, List.not_mem_nil, or_false]; omega), f (c + 2) (by simp only [List.mem_cons, List.not_mem_nil, or_false]; omega), f (c + 3) (by simp only [List.mem_cons, List.not_mem_nil, or_false]; omega)⟩
  have lp : ∀ (m p len : Nat) (f : Nat → Bool) (u : Mem), len + m = 5 → frm [1] s u → TpG T p u → p ≤ T.2 → CK T c (bnd (rowF T m p len f) fun p' x => .inr (p', addRow r x)) s K → RnV d m_C_readRow K 7 [.ref c, .ref 1, .int (nI len), .int (bits f len), .int (nI len)] [] u := by
    intro m
    induction m with
    | zero =>
      intro p len f u hm hf hg hp hK
      obtain rfl : len = 5 := by omega
      have k1 := sk_ge (T := T) (p := p)
      have k2 := sk_le hp
      rw [r_C_readRow_7]
      simp only [hb, cond_true]
      rw [if_neg (show ¬ nI 5 < 5 by decide), if_neg (show ¬ nI 5 = 0 by decide)]
      refine c_next hT (by omega) hg hp fun u1 f1 g1 => ?_
      rw [c_groundAt hT (by omega), ifb]
      by_cases hx : sk T p < T.2 ∧ grd (T.1 (sk T p)) = true
      · rw [show rowF T 0 p 5 f = .inl (sk T p) from if_pos hx] at hK
        rw [if_pos (by rw [decide_eq_true hx.1, hx.2]; rfl)]
        refine c_refuse hT (by omega) g1 k2 fun u2 f2 g2 => ?_
        exact bad (sk T p) u2 _ _ (frm_w (frm_t hf (frm_t f1 f2)) (by simp)) g2 hK
      · rw [show rowF T 0 p 5 f = .inr (sk T p, (5, f)) from (if_neg hx).trans (if_neg (by decide))] at hK
        rw [if_neg (fun z => hx (by have := Bool.and_eq_true_iff.mp z; exact ⟨of_decide_eq_true this.1, this.2⟩))]
        obtain ⟨a0, a1, a2, a3⟩ := cells (frm_t hf f1)
        exact good (sk T p) 5 f u1 (sk T p) (frm_w (frm_t hf f1) (by simp)) g1 k2 sk_sk a0 a1 a2 a3 hK
    | succ m ih =>
      intro p len f u hm hf hg hp hK
      have k1 := sk_ge (T := T) (p := p)
      have k2 := sk_le hp
      rw [r_C_readRow_7]
      simp only [hb, cond_true]
      rw [if_pos (show nI len < 5 by rw [q5, nI_ltI (by omega) (by omega)]; omega)]
      refine c_next hT (by omega) hg hp fun u1 f1 g1 => ?_
      rw [c_groundAt hT (by omega), ifb]
      by_cases hx : sk T p < T.2 ∧ grd (T.1 (sk T p)) = true
      · have hbt := (hT.2 _ hx.1).2
        rw [show rowF T (m + 1) p len f = rowF T m (sk T p + 1) (len + 1) (fun k => if k = len then decide (T.1 (sk T p) = 46) else f k) from if_pos hx] at hK
        rw [if_pos (by rw [decide_eq_true hx.1, hx.2]; rfl)]
        refine c_next hT (by omega) g1 k2 fun u2 f2 g2 => ?_
        rw [sk_sk] at g2 ⊢
        have e1 : nI len + 1 = nI (len + 1) := nI_add len 1
        have ebit : (1 : Int32) <<< (nI len &&& 31) = bit len := rfl
        have ebits : bits (fun k => if k = len then decide (T.1 (sk T p) = 46) else f k) (len + 1) = if T.1 (sk T p) = 46 then bits f len ||| bit len else bits f len := by
          rw [bits_S, bits_eq (q := f) (fun k hk => if_neg (by omega))]
          by_cases e : T.1 (sk T p) = 46
          · rw [if_pos e, if_pos (by rw [if_pos rfl]; exact decide_eq_true e)]
          · rw [if_neg e, if_neg (by rw [if_pos rfl, decide_eq_false e]; decide)]
        by_cases e46 : T.1 (sk T p) = 46
        · rw [if_pos (show sg T (sk T p) = 46 by rw [show sg T (sk T p) = nI (T.1 (sk T p)) from if_pos hx.1, e46]; rfl)]
          refine c_pass hT (by omega) g2 hx.1 fun u3 f3 g3 => ?_
          rw [e1, ebit]
          rw [if_pos e46] at ebits
          rw [← ebits]
          exact ih (sk T p + 1) (len + 1) _ u3 (by omega) (frm_t hf (frm_t f1 (frm_t f2 f3))) g3 (by omega) hK
        · rw [if_neg (show ¬ sg T (sk T p) = 46 by rw [show sg T (sk T p) = nI (T.1 (sk T p)) from if_pos hx.1, show (46 : Int32) = nI 46 from rfl, nI_eq (by omega) (by omega)]; exact e46)]
          refine c_pass hT (by omega) g2 hx.1 fun u3 f3 g3 => ?_
          rw [e1]
          rw [if_neg e46] at ebits
          rw [← ebits]
          exact ih (sk T p + 1) (len + 1) _ u3 (by omega) (frm_t hf (frm_t f1 (frm_t f2 f3))) g3 (by omega) hK
      · have hgf : (decide (sk T p < T.2) && grd (T.1 (sk T p))) = false := by
          cases h : (decide (sk T p < T.2) && grd (T.1 (sk T p)))
          · rfl
          · exact absurd (by have := Bool.and_eq_true_iff.mp h; exact ⟨of_decide_eq_true this.1, this.2⟩) hx
        rw [if_neg (by rw [hgf]; decide)]
        by_cases hl0 : len = 0
        · subst hl0
          rw [show rowF T (m + 1) p 0 f = .inl (sk T p) from (if_neg hx).trans (if_pos rfl)] at hK
          rw [if_pos (show nI 0 = 0 from rfl)]
          refine c_refuse hT (by omega) g1 k2 fun u2 f2 g2 => ?_
          exact bad (sk T p) u2 _ _ (frm_w (frm_t hf (frm_t f1 f2)) (by simp)) g2 hK
        · rw [show rowF T (m + 1) p len f = .inr (sk T p, (len, f)) from (if_neg hx).trans (if_neg hl0)] at hK
          rw [if_neg (show ¬ nI len = 0 by rw [q0, nI_eq (by omega) (by omega)]; exact hl0)]
          refine c_next hT (by omega) g1 k2 fun u2 f2 g2 => ?_
          rw [sk_sk] at g2 ⊢
          rw [c_groundAt hT (by omega), ifb, if_neg (by rw [hgf]; decide)]
          obtain ⟨a0, a1, a2, a3⟩ := cells (frm_t hf (frm_t f1 f2))
          exact good (sk T p) len f u2 (sk T p) (frm_w (frm_t hf (frm_t f1 f2)) (by simp)) g2 k2 sk_sk a0 a1 a2 a3 hK
  rw [e_C_readRow]
  exact lp 5 p 0 (fun _ => false) s rfl frm_r hg hp hK
end
