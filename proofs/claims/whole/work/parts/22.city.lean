/-! the two cities -/
def isC (c : Nat) : Prop := c = 3 ∨ c = 10
theorem C_sh {c : Nat} (h : isC c) : (shp c).1 = 2 := by rcases h with rfl | rfl <;> rfl
theorem C_s1 {c : Nat} (h : isC c) : shp (c + 1) = (20, 4) := by rcases h with rfl | rfl <;> rfl
theorem C_s2 {c : Nat} (h : isC c) : shp (c + 2) = (20, 4) := by rcases h with rfl | rfl <;> rfl
theorem C_s3 {c : Nat} (h : isC c) : shp (c + 3) = (20, 49) := by rcases h with rfl | rfl <;> rfl
theorem C_s4 {c : Nat} (h : isC c) : shp (c + 4) = (20, 100) := by rcases h with rfl | rfl <;> rfl
theorem C_s5 {c : Nat} (h : isC c) : shp (c + 5) = (20, 400) := by rcases h with rfl | rfl <;> rfl
theorem C_s6 {c : Nat} (h : isC c) : shp (c + 6) = (20, 20) := by rcases h with rfl | rfl <;> rfl
theorem C_le {c : Nat} (h : isC c) : c + 6 ≤ 16 := by rcases h with rfl | rfl <;> decide
theorem C_b {c : Nat} (h : isC c) : Nat.beq (shp c).1 2 = true := by rw [C_sh h]; rfl
/-- a city: rows, columns, sources, whether a place is a street, a source's items -/
abbrev Gph := Nat × Nat × Nat × (Nat → Bool) × (Nat → Nat → Nat)
def gR (g : Gph) : Nat := g.1
def gC (g : Gph) : Nat := g.2.1
def gS (g : Gph) : Nat := g.2.2.1
def gst (g : Gph) : Nat → Bool := g.2.2.2.1
def git (g : Gph) : Nat → Nat → Nat := g.2.2.2.2
def gN (g : Gph) : Nat := gR g * gC g
/-- a source's place -/
def gsp (g : Gph) (k : Nat) : Nat := git g k 1 * gC g + git g k 2
def gOk (g : Gph) : Prop := gR g ≤ 4 ∧ gC g ≤ 5 ∧ gS g ≤ 6 ∧ (0 < gR g → 0 < gC g ∧ 0 < gS g ∧ ∃ k, k < gN g ∧ gst g k = true) ∧ (gR g = 0 → gC g = 0 ∧ gS g = 0) ∧
  ∀ k, k < gS g → git g k 0 ≤ 4 ∧ git g k 1 < gR g ∧ git g k 2 < gC g ∧ git g k 3 ≤ 23 ∧ git g k 4 ≤ 23 ∧ git g k 5 ≤ 9 ∧ gst g (gsp g k) = true
/-- where a step leads -/
def bes (g : Gph) (p side : Nat) : Nat :=
  if side = 1 then (if gC g ≤ p ∧ gst g (p - gC g) = true then p - gC g else p)
  else if side = 2 then (if p % gC g + 1 < gC g ∧ gst g (p + 1) = true then p + 1 else p)
  else if side = 3 then (if p + gC g < gN g ∧ gst g (p + gC g) = true then p + gC g else p)
  else if side = 4 then (if 0 < p % gC g ∧ gst g (p - 1) = true then p - 1 else p)
  else p
theorem gN_le {g : Gph} (h : gOk g) : gN g ≤ 20 := by
  have h1 := h.1
  have h2 := h.2.1
  exact Nat.le_trans (Nat.mul_le_mul h1 h2) (by decide)
theorem gsp_lt {g : Gph} (h : gOk g) {k : Nat} (hk : k < gS g) : gsp g k < gN g := by
  have h3 := h.2.2.2.2.2 k hk
  unfold gsp gN
  calc git g k 1 * gC g + git g k 2 < git g k 1 * gC g + gC g := by omega
    _ = (git g k 1 + 1) * gC g := by rw [Nat.add_mul, Nat.one_mul]
    _ ≤ gR g * gC g := Nat.mul_le_mul_right _ h3.2.1
theorem mod_pred {p c : Nat} (hc : 0 < c) (h : 0 < p % c) : (p - 1) % c = p % c - 1 ∧ (p - 1) / c = p / c := by
  have e := Nat.div_add_mod p c
  have hl := Nat.mod_lt p hc
  have : p - 1 = c * (p / c) + (p % c - 1) := by omega
  rw [this]
  constructor
  · rw [Nat.mul_add_mod, Nat.mod_eq_of_lt (by omega)]
  · rw [Nat.mul_add_div hc, Nat.div_eq_of_lt (show p % c - 1 < c by omega)]; omega
theorem mod_succ {p c : Nat} (h : p % c + 1 < c) : (p + 1) % c = p % c + 1 ∧ (p + 1) / c = p / c := by
  have hc : 0 < c := by omega
  have e := Nat.div_add_mod p c
  have : p + 1 = c * (p / c) + (p % c + 1) := by omega
  rw [this]
  constructor
  · rw [Nat.mul_add_mod, Nat.mod_eq_of_lt h]
  · rw [Nat.mul_add_div hc, Nat.div_eq_of_lt h]; omega
theorem bes_lt {g : Gph} {p : Nat} (hp : p < gN g) (side : Nat) : bes g p side < gN g := by
  unfold bes
  have hc : 0 < gC g := by
    rcases Nat.eq_zero_or_pos (gC g) with h | h
    · unfold gN at hp; rw [h, Nat.mul_zero] at hp; omega
    · exact h
  split
  · split <;> omega
  · split
    · split
      · rename_i h
        have hm := mod_succ h.1
        have hd : (p + 1) / gC g < gR g := by rw [hm.2]; exact Nat.div_lt_of_lt_mul (by rw [Nat.mul_comm]; exact hp)
        exact (Nat.div_lt_iff_lt_mul hc).mp hd
      · exact hp
    · split
      · split
        · rename_i h; exact h.1
        · exact hp
      · split
        · split <;> omega
        · exact hp
theorem bes_st {g : Gph} {p : Nat} (h : gst g p = true) (side : Nat) : gst g (bes g p side) = true := by
  unfold bes
  repeat' split
  all_goals first
    | exact h
    | (rename_i h2; exact h2.2)
/-- the class's city -/
def cosI (x : Nat) : Int32 := if x = 1000 then m1 else nI x
def CityC (c : Nat) (g : Gph) (s : Mem) : Prop :=
  s c 0 = nI (gR g) ∧ s c 1 = nI (gC g) ∧ s c 2 = nI (gS g) ∧ (∀ k, k < 32 → tb (s c 4) k = (decide (k < gN g) && gst g k)) ∧
  (∀ k j, k < gS g → j < 6 → s (c + 3) (7 * k + j) = nI (git g k j)) ∧
  (∀ p side, p < gN g → side < 5 → s (c + 4) (5 * p + side) = nI (bes g p side))
