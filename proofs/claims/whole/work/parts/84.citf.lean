/-! the class lays out a city, reads a whole text -/
section
variable {d c : Nat} {T : Txt} {s : Mem}
/-- where a step would lead, if it were inside -/
def nxt (R C row col side : Nat) : Option Nat :=
  if side = 1 then (if 1 ≤ row then some ((row - 1) * C + col) else none)
  else if side = 2 then (if col + 1 < C then some (row * C + (col + 1)) else none)
  else if side = 3 then (if row + 1 < R then some ((row + 1) * C + col) else none)
  else if side = 4 then (if 1 ≤ col then some (row * C + (col - 1)) else none)
  else some (row * C + col)
theorem nxt_lt {R C row col side q : Nat} (hr : row < R) (hc : col < C) (h : nxt R C row col side = some q) : q < R * C := by
  have key : ∀ a b, a < R → b < C → a * C + b < R * C := by
    intro a b ha hb
    have : (a + 1) * C ≤ R * C := Nat.mul_le_mul_right _ ha
    rw [Nat.add_mul] at this
    omega
  unfold nxt at h
  split at h
  · split at h
    · injection h with h; rw [← h]; exact key _ _ (by omega) hc
    · simp at h
  · split at h
    · split at h
      · injection h with h; rw [← h]; exact key _ _ hr (by omega)
      · simp at h
    · split at h
      · split at h
        · injection h with h; rw [← h]; exact key _ _ (by omega) hc
        · simp at h
      · split at h
        · split at h
          · injection h with h; rw [← h]; exact key _ _ hr (by omega)
          · simp at h
        · injection h with h; rw [← h]; exact key _ _ hr hc
theorem nxt_bes {g : Gph} {row col side : Nat} (hr : row < gR g) (hc : col < gC g) (hs : side < 5) : bes g (row * gC g + col) side = match nxt (gR g) (gC g) row col side with
    | none => row * gC g + col
    | some q => if gst g q = true then q else row * gC g + col := by
  have hm := (dm_of hc (i := row)).2
  have e1 : gC g ≤ row * gC g + col ↔ 1 ≤ row := by
    constructor
    · intro h
      rcases Nat.eq_zero_or_pos row with z | z
      · subst z; rw [Nat.zero_mul] at h; omega
      · exact z
    · intro h
      have : 1 * gC g ≤ row * gC g := Nat.mul_le_mul_right _ h
      omega
  have e2 : 1 ≤ row → row * gC g + col - gC g = (row - 1) * gC g + col := by
    intro h
    have : row * gC g = (row - 1) * gC g + gC g := by
      rw [show row = (row - 1) + 1 by omega, Nat.add_mul, Nat.one_mul]; rfl
    omega
  have e3 : row * gC g + col + gC g < gN g ↔ row + 1 < gR g := by
    unfold gN
    constructor
    · intro h
      rcases Nat.lt_or_ge (row + 1) (gR g) with z | z
      · exact z
      · have : gR g * gC g ≤ (row + 1) * gC g := Nat.mul_le_mul_right _ z
        rw [Nat.add_mul] at this
        omega
    · intro h
      have : (row + 1 + 1) * gC g ≤ gR g * gC g := Nat.mul_le_mul_right _ h
      rw [Nat.add_mul, Nat.add_mul] at this
      omega
  have e4 : row * gC g + col + gC g = (row + 1) * gC g + col := by rw [Nat.add_mul]; omega
  rcases (show side = 0 ∨ side = 1 ∨ side = 2 ∨ side = 3 ∨ side = 4 by omega) with rfl | rfl | rfl | rfl | rfl
  · show row * gC g + col = if gst g (row * gC g + col) = true then row * gC g + col else row * gC g + col
    split <;> rfl
  · rw [show bes g (row * gC g + col) 1 = if gC g ≤ row * gC g + col ∧ gst g (row * gC g + col - gC g) = true then row * gC g + col - gC g else row * gC g + col from rfl]
    show _ = match (if 1 ≤ row then some ((row - 1) * gC g + col) else none) with | none => _ | some q => _
    by_cases h : 1 ≤ row
    · rw [if_pos h, e2 h]
      by_cases h2 : gst g ((row - 1) * gC g + col) = true
      · rw [if_pos ⟨e1.mpr h, h2⟩]; exact (if_pos h2).symm
      · rw [if_neg (fun z => h2 z.2)]; exact (if_neg h2).symm
    · rw [if_neg h, if_neg (fun z => h (e1.mp z.1))]
  · rw [show bes g (row * gC g + col) 2 = if (row * gC g + col) % gC g + 1 < gC g ∧ gst g (row * gC g + col + 1) = true then row * gC g + col + 1 else row * gC g + col from rfl]
    show _ = match (if col + 1 < gC g then some (row * gC g + (col + 1)) else none) with | none => _ | some q => _
    rw [hm]
    by_cases h : col + 1 < gC g
    · rw [if_pos h]
      by_cases h2 : gst g (row * gC g + (col + 1)) = true
      · rw [if_pos ⟨h, h2⟩]; exact (if_pos h2).symm
      · rw [if_neg (fun z => h2 z.2)]; exact (if_neg h2).symm
    · rw [if_neg h, if_neg (fun z => h z.1)]
  · rw [show bes g (row * gC g + col) 3 = if row * gC g + col + gC g < gN g ∧ gst g (row * gC g + col + gC g) = true then row * gC g + col + gC g else row * gC g + col from rfl]
    show _ = match (if row + 1 < gR g then some ((row + 1) * gC g + col) else none) with | none => _ | some q => _
    by_cases h : row + 1 < gR g
    · rw [if_pos h, ← e4]
      by_cases h2 : gst g (row * gC g + col + gC g) = true
      · rw [if_pos ⟨e3.mpr h, h2⟩]; exact (if_pos h2).symm
      · rw [if_neg (fun z => h2 z.2)]; exact (if_neg h2).symm
    · rw [if_neg h, if_neg (fun z => h (e3.mp z.1))]
  · rw [show bes g (row * gC g + col) 4 = if 0 < (row * gC g + col) % gC g ∧ gst g (row * gC g + col - 1) = true then row * gC g + col - 1 else row * gC g + col from rfl]
    show _ = match (if 1 ≤ col then some (row * gC g + (col - 1)) else none) with | none => _ | some q => _
    rw [hm]
    by_cases h : 1 ≤ col
    · rw [if_pos h, show row * gC g + col - 1 = row * gC g + (col - 1) by omega]
      by_cases h2 : gst g (row * gC g + (col - 1)) = true
      · rw [if_pos ⟨h, h2⟩]; exact (if_pos h2).symm
      · rw [if_neg (fun z => h2 z.2)]; exact (if_neg h2).symm
    · rw [if_neg h, if_neg (fun z => h z.1)]
theorem c_stepAt (hcc : isC c) (hst : STA s) {K : Int32 → Mem → Prop} (hd : 1 ≤ d) {R C row col side : Nat} (h0 : s c 0 = nI R) (h1 : s c 1 = nI C) (hR : R ≤ 4) (hC : C ≤ 5) (hr : row < R) (hk : col < C) (hs : side < 5) : wI (wp d) m_C_placeAt [.ref c, .int (nI row + s 1006 side), .int (nI col + s 1007 side)] s K = K (oI (nxt R C row col side)) s := by
  obtain ⟨_, _, _, _, _, ⟨a0, a1, a2, a3, a4⟩, b0, b1, b2, b3, b4⟩ := hst
  have nm : ∀ {n : Nat}, 1 ≤ n → nI n + m1 = nI (n - 1) := by
    intro n h
    obtain ⟨k, rfl⟩ : ∃ k, n = k + 1 := ⟨n - 1, by omega⟩
    rw [← nI_add, Int32.add_assoc, show nI 1 + m1 = 0 by decide, Int32.add_zero]
    rfl
  rcases (show side = 0 ∨ side = 1 ∨ side = 2 ∨ side = 3 ∨ side = 4 by omega) with rfl | rfl | rfl | rfl | rfl
  · rw [a0, b0, nI_add, nI_add, c_placeX hcc hd h0 h1 (by omega) (by omega) (by omega) (by omega), if_pos ⟨by omega, by omega⟩]
    rfl
  · rw [a1, b1, nI_add]
    show _ = K (oI (if 1 ≤ row then some ((row - 1) * C + col) else none)) s
    by_cases h : 1 ≤ row
    · rw [nm h, c_placeX hcc hd h0 h1 (by omega) (by omega) (by omega) (by omega), if_pos ⟨by omega, by omega⟩, if_pos h]
      rfl
    · obtain rfl : row = 0 := by omega
      obtain ⟨d, rfl⟩ : ∃ e, d = e + 1 := ⟨d - 1, by omega⟩
      rw [if_neg h, e_C_placeAt, if_pos (show nI 0 + m1 < 0 by decide)]
      rfl
  · rw [a2, b2, nI_add, nI_add, c_placeX hcc hd h0 h1 (by omega) (by omega) (by omega) (by omega)]
    show _ = K (oI (if col + 1 < C then some (row * C + (col + 1)) else none)) s
    by_cases h : col + 1 < C
    · rw [if_pos ⟨by omega, h⟩, if_pos h]; rfl
    · rw [if_neg (fun z => h z.2), if_neg h]; rfl
  · rw [a3, b3, nI_add, nI_add, c_placeX hcc hd h0 h1 (by omega) (by omega) (by omega) (by omega)]
    show _ = K (oI (if row + 1 < R then some ((row + 1) * C + col) else none)) s
    by_cases h : row + 1 < R
    · rw [if_pos ⟨h, by omega⟩, if_pos h]; rfl
    · rw [if_neg (fun z => h z.1), if_neg h]; rfl
  · rw [a4, b4, nI_add]
    show _ = K (oI (if 1 ≤ col then some (row * C + (col - 1)) else none)) s
    by_cases h : 1 ≤ col
    · rw [nm h, c_placeX hcc hd h0 h1 (by omega) (by omega) (by omega) (by omega), if_pos ⟨by omega, by omega⟩, if_pos h]
      rfl
    · obtain rfl : col = 0 := by omega
      obtain ⟨d, rfl⟩ : ∃ e, d = e + 1 := ⟨d - 1, by omega⟩
      rw [if_neg h, e_C_placeAt, C_b hcc]
      simp only [cond_true, h0]
      rw [if_neg (show ¬ nI (row + 0) < 0 by rw [q0, nI_ltI (by omega) (by omega)]; omega), if_pos (show nI (row + 0) < nI R by rw [nI_ltI (by omega) (by omega)]; omega), if_pos (show nI 0 + m1 < 0 by decide)]
      rfl
theorem c_layOut (hcc : isC c) (hst : STA s) {K : Mem → Prop} (hd : 3 ≤ d) {g : Gph} (hg4 : gR g ≤ 4) (hg5 : gC g ≤ 5) (h0 : s c 0 = nI (gR g)) (h1 : s c 1 = nI (gC g)) (ht : ∀ k, k < 32 → tb (s c 4) k = (decide (k < gN g) && gst g k))
    (hK : ∀ s', frm [c + 4] s s' → (∀ p side, p < gN g → side < 5 → s' (c + 4) (5 * p + side) = nI (bes g p side)) → K s') : wV (wp d) m_C_layOut [.ref c] s K := by
  have hL := C_le hcc
  have c3 : 3 ≤ c := by rcases hcc with rfl | rfl <;> omega
  have hb := C_b hcc
  have h4 := C_s4 hcc
  have h20 : gN g ≤ 20 := mul_le20 hg4 hg5
  obtain ⟨d, rfl⟩ : ∃ e, d = e + 2 := ⟨d - 2, by omega⟩
  have cst' : ∀ {u : Mem}, frm [c + 4] s u → STA u ∧ u c = s c := fun h => ⟨STA_f hst h (fun a z => by simp only [List.mem_cons, List.not_mem_nil, or_false] at z; omega), h c (by simp)⟩
  have l3 : ∀ (row col : Nat), row < gR g → col < gC g → (∀ (t : Mem) (v4 v5 v6 v7 : Value), frm [c + 4] s t → (∀ p side, p < row * gC g + col + 1 → side < 5 → t (c + 4) (5 * p + side) = nI (bes g p side)) → RnV (d + 1) m_C_layOut K 12 [.ref c, .int (nI row), .int (nI (col + 1)), v4, v5, v6, v7] [] t) →
      ∀ (n i : Nat) (t : Mem) (v5 v6 : Value), i + n = 5 → frm [c + 4] s t → (∀ p side, (p < row * gC g + col ∧ side < 5) ∨ (p = row * gC g + col ∧ side < i) → t (c + 4) (5 * p + side) = nI (bes g p side)) → RnV (d + 1) m_C_layOut K 32 [.ref c, .int (nI row), .int (nI col), .int (nI (row * gC g + col)), .int (nI i), v5, v6] [] t := by
    intro row col hrow hcol hnext n
    have hp : row * gC g + col < gN g := by
      have : (row + 1) * gC g ≤ gR g * gC g := Nat.mul_le_mul_right _ hrow
      rw [Nat.add_mul] at this
      unfold gN
      omega
    induction n with
    | zero =>
      intro i t v5 v6 hi hf h
      obtain rfl : i = 5 := by omega
      rw [r_C_layOut_32, if_neg (show ¬ nI 5 < 5 by decide), show nI col + 1 = nI (col + 1) from nI_add col 1]
      exact hnext t _ _ _ _ hf fun p side hp hs => h p side (by omega)
    | succ n ih =>
      intro i t v5 v6 hi hf h
      obtain ⟨st, ec⟩ := cst' hf
      rw [r_C_layOut_32, if_pos (show nI i < 5 by rw [q5, nI_ltI (by omega) (by omega)]; omega), c_at (d := d) (show (shp 1006).1 = 20 from rfl) (show i < 5 by omega), c_at (d := d) (show (shp 1007).1 = 20 from rfl) (show i < 5 by omega)]
      simp only [hb, cond_true]
      rw [c_stepAt hcc st (by omega) (by rw [ec]; exact h0) (by rw [ec]; exact h1) hg4 hg5 hrow hcol (by omega)]
      have eb := nxt_bes (g := g) hrow hcol (show i < 5 by omega)
      have put : ∀ (x : Nat) (v5 v6 : Value), x = bes g (row * gC g + col) i → wV (wp (d + 1)) m_X_put [.ref (c + 4), .int ((nI (row * gC g + col) * 5) + nI i), .int (nI x)] t (fun s107 => RnV (d + 1) m_C_layOut K 32 [.ref c, .int (nI row), .int (nI col), .int (nI (row * gC g + col)), .int (nI i + 1), v5, v6] [] s107) := by
        intro x v5 v6 hx
        rw [show (5 : Int32) = nI 5 from rfl, pk_mul, nI_add, show (row * gC g + col) * 5 + i = 5 * (row * gC g + col) + i by omega, c_put (d := d) (by rw [h4]) (by omega) (by rw [h4]; show _ < 100; omega), show nI i + 1 = nI (i + 1) from nI_add i 1]
        refine ih (i + 1) _ _ _ (by omega) (frm_t hf (frm_u (by simp))) fun p side hps => ?_
        by_cases e : 5 * p + side = 5 * (row * gC g + col) + i
        · have : p = row * gC g + col ∧ side = i := by omega
          rw [e, up_at, hx, this.1, this.2]
        · rw [up_pl e]; exact h p side (by omega)
      cases hn : nxt (gR g) (gC g) row col i with
      | none =>
        rw [hn] at eb
        rw [if_pos (show oI none = -1 from rfl)]
        exact put _ _ _ eb.symm
      | some q =>
        have hq := nxt_lt hrow hcol hn
        have hq' : q < gN g := hq
        rw [hn] at eb
        have eb' : bes g (row * gC g + col) i = if gst g q = true then q else row * gC g + col := eb
        have eq : oI (some q) = nI q := rfl
        rw [eq, if_neg (show ¬ nI q = -1 from fun z => by rw [n_m1, m1_eq (by omega)] at z; exact z), c_streetX hcc (by omega) (by omega), ec, ht q (by omega), decide_eq_true hq', Bool.true_and, ifb]
        by_cases hst2 : gst g q = true
        · rw [if_pos hst2] at eb' ⊢
          exact put _ _ _ eb'.symm
        · rw [if_neg hst2] at eb' ⊢
          exact put _ _ _ eb'.symm
  have l2 : ∀ (row : Nat), row < gR g → (∀ (t : Mem) (v2 v3 v4 v5 v6 : Value), frm [c + 4] s t → (∀ p side, p < (row + 1) * gC g → side < 5 → t (c + 4) (5 * p + side) = nI (bes g p side)) → RnV (d + 1) m_C_layOut K 2 [.ref c, .int (nI (row + 1)), v2, v3, v4, v5, v6] [] t) →
      ∀ (n i : Nat) (t : Mem) (v3 v4 v5 v6 : Value), i + n = gC g → frm [c + 4] s t → (∀ p side, p < row * gC g + i → side < 5 → t (c + 4) (5 * p + side) = nI (bes g p side)) → RnV (d + 1) m_C_layOut K 12 [.ref c, .int (nI row), .int (nI i), v3, v4, v5, v6] [] t := by
    intro row hrow hnext n
    induction n with
    | zero =>
      intro i t v3 v4 v5 v6 hi hf h
      obtain rfl : i = gC g := by omega
      obtain ⟨st, ec⟩ := cst' hf
      rw [r_C_layOut_12]
      simp only [hb, cond_true]
      rw [ec, h1, if_neg (show ¬ nI (gC g) < nI (gC g) by rw [nI_ltI (by omega) (by omega)]; omega), show nI row + 1 = nI (row + 1) from nI_add row 1]
      exact hnext t _ _ _ _ _ hf fun p side hp hs => h p side (by rw [Nat.add_mul] at hp; omega) hs
    | succ n ih =>
      intro i t v3 v4 v5 v6 hi hf h
      obtain ⟨st, ec⟩ := cst' hf
      rw [r_C_layOut_12]
      simp only [hb, cond_true]
      rw [ec, h1, if_pos (show nI i < nI (gC g) by rw [nI_ltI (by omega) (by omega)]; omega), pk_mul, nI_add, show (0 : Int32) = nI 0 from rfl]
      refine l3 row i hrow (by omega) (fun t' v4 v5 v6 v7 hf' h' => ih (i + 1) t' _ _ _ _ (by omega) hf' fun p side hp hs => h' p side (by omega) hs) 5 0 t _ _ rfl hf fun p side hps => h p side (by omega) (by omega)
  have l1 : ∀ (n i : Nat) (t : Mem) (v2 v3 v4 v5 v6 : Value), i + n = gR g → frm [c + 4] s t → (∀ p side, p < i * gC g → side < 5 → t (c + 4) (5 * p + side) = nI (bes g p side)) → RnV (d + 1) m_C_layOut K 2 [.ref c, .int (nI i), v2, v3, v4, v5, v6] [] t := by
    intro n
    induction n with
    | zero =>
      intro i t v2 v3 v4 v5 v6 hi hf h
      obtain rfl : i = gR g := by omega
      obtain ⟨st, ec⟩ := cst' hf
      rw [r_C_layOut_2]
      simp only [hb, cond_true]
      rw [ec, h0, if_neg (show ¬ nI (gR g) < nI (gR g) by rw [nI_ltI (by omega) (by omega)]; omega)]
      exact hK t hf h
    | succ n ih =>
      intro i t v2 v3 v4 v5 v6 hi hf h
      obtain ⟨st, ec⟩ := cst' hf
      rw [r_C_layOut_2]
      simp only [hb, cond_true]
      rw [ec, h0, if_pos (show nI i < nI (gR g) by rw [nI_ltI (by omega) (by omega)]; omega), show (0 : Int32) = nI 0 from rfl]
      exact l2 i (by omega) (fun t' v2 v3 v4 v5 v6 hf' h' => ih (i + 1) t' _ _ _ _ _ (by omega) hf' h') (gC g) 0 t _ _ _ _ (by omega) hf fun p side hp hs => h p side (by omega) hs
  rw [e_C_layOut]
  exact l1 (gR g) 0 s _ _ _ _ _ (by omega) frm_r fun p side hp => by rw [Nat.zero_mul] at hp; exact absurd hp (Nat.not_lt_zero p)
end
