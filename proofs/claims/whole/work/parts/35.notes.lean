/-! the thief -/
section
variable {g : Gph}
def sprS (g : Gph) (k : Nat) (x : Int32) : Int32 := itr (fun side x => x ||| bit (bes g k side)) 4 1 x
def spr (g : Gph) (y : Int32) : Int32 := itr (fun k x => if tb y k = true then sprS g k x else x) (gN g) 0 y
def inS (g : Gph) (y : Int32) : Prop := ∀ k, tb y k = true → k < gN g ∧ gst g k = true
theorem tb_sprS (hg : gOk g) {k : Nat} (hk : k < gN g) {q : Nat} : ∀ (n i : Nat) (x : Int32), (tb (itr (fun side x => x ||| bit (bes g k side)) n i x) q = true) ↔ (tb x q = true ∨ ∃ sd, i ≤ sd ∧ sd < i + n ∧ bes g k sd = q) := by
  have h20 := gN_le hg
  intro n
  induction n with
  | zero =>
    intro i x
    constructor
    · exact fun h => Or.inl h
    · rintro (h | ⟨sd, h1, h2, _⟩)
      · exact h
      · omega
  | succ n ih =>
    intro i x
    have hb := bes_lt hk i
    show tb (itr _ n (i + 1) (x ||| bit (bes g k i))) q = true ↔ _
    rw [ih, tb_or, tb_bit (by omega), Bool.or_eq_true, decide_eq_true_eq]
    constructor
    · rintro ((h | h) | ⟨sd, h1, h2, h3⟩)
      · exact Or.inl h
      · exact Or.inr ⟨i, by omega, by omega, h⟩
      · exact Or.inr ⟨sd, by omega, by omega, h3⟩
    · rintro (h | ⟨sd, h1, h2, h3⟩)
      · exact Or.inl (Or.inl h)
      · by_cases e : sd = i
        · exact Or.inl (Or.inr (e ▸ h3))
        · exact Or.inr ⟨sd, by omega, by omega, h3⟩
theorem tb_spr (hg : gOk g) {y : Int32} {q : Nat} : tb (spr g y) q = true ↔ (tb y q = true ∨ ∃ k sd, k < gN g ∧ tb y k = true ∧ 1 ≤ sd ∧ sd < 5 ∧ bes g k sd = q) := by
  have lp : ∀ (n i : Nat) (x : Int32), i + n = gN g → ((tb (itr (fun k x => if tb y k = true then sprS g k x else x) n i x) q = true) ↔ (tb x q = true ∨ ∃ k sd, i ≤ k ∧ k < gN g ∧ tb y k = true ∧ 1 ≤ sd ∧ sd < 5 ∧ bes g k sd = q)) := by
    intro n
    induction n with
    | zero =>
      intro i x hi
      constructor
      · exact fun h => Or.inl h
      · rintro (h | ⟨k, sd, h1, h2, _⟩)
        · exact h
        · omega
    | succ n ih =>
      intro i x hi
      show tb (itr _ n (i + 1) (if tb y i = true then sprS g i x else x)) q = true ↔ _
      rw [ih (i + 1) _ (by omega)]
      by_cases hy : tb y i = true
      · rw [if_pos hy]
        unfold sprS
        rw [tb_sprS hg (by omega)]
        constructor
        · rintro ((h | ⟨sd, h1, h2, h3⟩) | ⟨k, sd, h1, h2, h3⟩)
          · exact Or.inl h
          · exact Or.inr ⟨i, sd, by omega, by omega, hy, by omega, by omega, h3⟩
          · exact Or.inr ⟨k, sd, by omega, h2, h3⟩
        · rintro (h | ⟨k, sd, h1, h2, h3, h4, h5, h6⟩)
          · exact Or.inl (Or.inl h)
          · by_cases e : k = i
            · exact Or.inl (Or.inr ⟨sd, h4, by omega, e ▸ h6⟩)
            · exact Or.inr ⟨k, sd, by omega, h2, h3, h4, h5, h6⟩
      · rw [if_neg hy]
        constructor
        · rintro (h | ⟨k, sd, h1, h2, h3⟩)
          · exact Or.inl h
          · exact Or.inr ⟨k, sd, by omega, h2, h3⟩
        · rintro (h | ⟨k, sd, h1, h2, h3, h4⟩)
          · exact Or.inl h
          · by_cases e : k = i
            · rw [e] at h3; exact absurd h3 hy
            · exact Or.inr ⟨k, sd, by omega, h2, h3, h4⟩
  unfold spr
  rw [lp (gN g) 0 y (by omega)]
  constructor
  · rintro (h | ⟨k, sd, _, h2⟩)
    · exact Or.inl h
    · exact Or.inr ⟨k, sd, h2⟩
  · rintro (h | ⟨k, sd, h2⟩)
    · exact Or.inl h
    · exact Or.inr ⟨k, sd, by omega, h2⟩
theorem inS_spr (hg : gOk g) {y : Int32} (h : inS g y) : inS g (spr g y) := by
  intro q hq
  rcases (tb_spr hg).mp hq with h1 | ⟨k, sd, h1, h2, h3, h4, rfl⟩
  · exact h q h1
  · exact ⟨bes_lt h1 sd, bes_st (h k h2).2 sd⟩
/-- who steps there, steps back -/
theorem bes_sym {k sd : Nat} (hk : k < gN g) (hst : gst g k = true) (hs : 1 ≤ sd ∧ sd < 5) : bes g k sd = k ∨ ∃ sd', 1 ≤ sd' ∧ sd' < 5 ∧ bes g (bes g k sd) sd' = k := by
  have hc := gC_pos hk
  have h4 : sd = 1 ∨ sd = 2 ∨ sd = 3 ∨ sd = 4 := by omega
  rcases h4 with rfl | rfl | rfl | rfl
  · by_cases h : gC g ≤ k ∧ gst g (k - gC g) = true
    · right
      have e : bes g k 1 = k - gC g := if_pos h
      refine ⟨3, by omega, by omega, ?_⟩
      rw [e]
      show (if k - gC g + gC g < gN g ∧ gst g (k - gC g + gC g) = true then k - gC g + gC g else k - gC g) = k
      rw [Nat.sub_add_cancel h.1, if_pos ⟨hk, hst⟩]
    · exact Or.inl (if_neg h)
  · by_cases h : k % gC g + 1 < gC g ∧ gst g (k + 1) = true
    · right
      have e : bes g k 2 = k + 1 := if_pos h
      have hm := mod_succ h.1
      refine ⟨4, by omega, by omega, ?_⟩
      rw [e]
      show (if 0 < (k + 1) % gC g ∧ gst g (k + 1 - 1) = true then k + 1 - 1 else k + 1) = k
      rw [Nat.add_sub_cancel, if_pos ⟨by omega, hst⟩]
    · exact Or.inl (if_neg h)
  · by_cases h : k + gC g < gN g ∧ gst g (k + gC g) = true
    · right
      have e : bes g k 3 = k + gC g := if_pos h
      refine ⟨1, by omega, by omega, ?_⟩
      rw [e]
      show (if gC g ≤ k + gC g ∧ gst g (k + gC g - gC g) = true then k + gC g - gC g else k + gC g) = k
      rw [Nat.add_sub_cancel, if_pos ⟨by omega, hst⟩]
    · exact Or.inl (if_neg h)
  · by_cases h : 0 < k % gC g ∧ gst g (k - 1) = true
    · right
      have e : bes g k 4 = k - 1 := if_pos h
      have hm := mod_pred hc h.1
      have hl := Nat.mod_lt k hc
      have hk0 : 0 < k := by
        rcases Nat.eq_zero_or_pos k with z | z
        · rw [z, Nat.zero_mod] at h; omega
        · exact z
      refine ⟨2, by omega, by omega, ?_⟩
      rw [e]
      show (if (k - 1) % gC g + 1 < gC g ∧ gst g (k - 1 + 1) = true then k - 1 + 1 else k - 1) = k
      rw [Nat.sub_add_cancel hk0, if_pos ⟨by omega, hst⟩]
    · exact Or.inl (if_neg h)
def allB (p : Nat → Bool) : Nat → Bool
  | 0 => true
  | n + 1 => allB p n && p n
/-- the notes: how many, minute, place, steps, whether -/
abbrev Nts := Nat × (Nat → Nat) × (Nat → Nat) × (Nat → Nat) × (Nat → Bool)
def ntB (g : Gph) (nt : Nts) (m k i : Nat) : Bool := ! decide (nt.2.1 i = m) || (decide (farG g 0 (nt.2.2.1 i) k ≤ 2 * nt.2.2.2.1 i) == nt.2.2.2.2 i)
def okB (g : Gph) (nt : Nts) (m k : Nat) : Bool := allB (ntB g nt m k) nt.1
def alw (g : Gph) (nt : Nts) (m : Nat) : Int32 := bits (fun k => gst g k && okB g nt m k) (gN g)
def ahd (g : Gph) (nt : Nts) : Nat → Int32
  | 0 => alw g nt 0
  | m + 1 => alw g nt (m + 1) &&& spr g (ahd g nt m)
def bhd (g : Gph) (nt : Nts) : Nat → Int32
  | 0 => alw g nt 30
  | j + 1 => alw g nt (30 - (j + 1)) &&& spr g (bhd g nt j)
def cns (g : Gph) (nt : Nts) : Nat → Int32
  | 0 => ahd g nt 30
  | j + 1 => spr g (cns g nt j) &&& ahd g nt (30 - (j + 1))
theorem tb_alw (hg : gOk g) {nt : Nts} {m k : Nat} : tb (alw g nt m) k = (decide (k < gN g) && (gst g k && okB g nt m k)) := by
  have := gN_le hg
  exact tb_bits (by omega)
theorem inS_and {x y : Int32} (h : inS g x) : inS g (x &&& y) := fun k hk => by
  rw [tb_and, Bool.and_eq_true] at hk
  exact h k hk.1
theorem inS_alw (hg : gOk g) {nt : Nts} {m : Nat} : inS g (alw g nt m) := fun k hk => by
  rw [tb_alw hg, Bool.and_eq_true, Bool.and_eq_true, decide_eq_true_eq] at hk
  exact ⟨hk.1, hk.2.1⟩
theorem inS_ahd (hg : gOk g) {nt : Nts} : ∀ m, inS g (ahd g nt m)
  | 0 => inS_alw hg
  | m + 1 => inS_and (inS_alw hg)
theorem inS_bhd (hg : gOk g) {nt : Nts} : ∀ m, inS g (bhd g nt m)
  | 0 => inS_alw hg
  | m + 1 => inS_and (inS_alw hg)
theorem ahd_alw {nt : Nts} {k : Nat} : ∀ m, tb (ahd g nt m) k = true → tb (alw g nt m) k = true
  | 0, h => h
  | m + 1, h => by
    show tb (alw g nt (m + 1)) k = true
    have : tb (alw g nt (m + 1) &&& spr g (ahd g nt m)) k = true := h
    rw [tb_and, Bool.and_eq_true] at this
    exact this.1
theorem bhd_alw {nt : Nts} {k : Nat} : ∀ j, tb (bhd g nt j) k = true → tb (alw g nt (30 - j)) k = true
  | 0, h => h
  | j + 1, h => by
    have : tb (alw g nt (30 - (j + 1)) &&& spr g (bhd g nt j)) k = true := h
    rw [tb_and, Bool.and_eq_true] at this
    exact this.1
/-- forward, then back within that: the same as forward and back, both -/
theorem cns_e (hg : gOk g) {nt : Nts} : ∀ j, j ≤ 30 → cns g nt j = ahd g nt (30 - j) &&& bhd g nt j
  | 0, _ => tb_ext fun k _ => by
    rw [tb_and]
    show tb (ahd g nt 30) k = (tb (ahd g nt 30) k && tb (alw g nt 30) k)
    cases h : tb (ahd g nt 30) k with
    | false => rfl
    | true => rw [ahd_alw 30 h]; rfl
  | j + 1, hj => tb_ext fun q _ => by
    have ih := cns_e hg (nt := nt) j (by omega)
    show tb (spr g (cns g nt j) &&& ahd g nt (30 - (j + 1))) q = tb (ahd g nt (30 - (j + 1)) &&& (alw g nt (30 - (j + 1)) &&& spr g (bhd g nt j))) q
    rw [ih, tb_and, tb_and, tb_and]
    cases ha : tb (ahd g nt (30 - (j + 1))) q with
    | false => rw [Bool.and_false, Bool.false_and]
    | true =>
      rw [Bool.and_true, Bool.true_and, ahd_alw _ ha, Bool.true_and]
      have hm : 30 - j = (30 - (j + 1)) + 1 := by omega
      have hS := inS_ahd hg (nt := nt) (30 - (j + 1))
      -- a place that can go on to y, which can: y can be reached
      have up : ∀ y, tb (bhd g nt j) y = true → (y = q ∨ ∃ sd, 1 ≤ sd ∧ sd < 5 ∧ bes g y sd = q) → tb (ahd g nt (30 - j)) y = true := by
        intro y hy hadj
        rw [hm]
        show tb (alw g nt (30 - (j + 1) + 1) &&& spr g (ahd g nt (30 - (j + 1)))) y = true
        rw [tb_and, ← hm, bhd_alw j hy, Bool.true_and]
        refine (tb_spr hg).mpr ?_
        rcases hadj with e | ⟨sd, h1, h2, h3⟩
        · rw [e]; exact Or.inl ha
        · have hyS := inS_bhd hg j y hy
          rcases bes_sym hyS.1 hyS.2 ⟨h1, h2⟩ with e | ⟨sd', h4, h5, h6⟩
          · rw [← e, h3]; exact Or.inl ha
          · rw [h3] at h6
            exact Or.inr ⟨q, sd', (hS q ha).1, ha, h4, h5, h6⟩
      apply Bool.eq_iff_iff.mpr
      rw [tb_spr hg, tb_spr hg]
      constructor
      · rintro (h | ⟨k, sd, h1, h2, h3⟩)
        · rw [tb_and, Bool.and_eq_true] at h; exact Or.inl h.2
        · rw [tb_and, Bool.and_eq_true] at h2; exact Or.inr ⟨k, sd, h1, h2.2, h3⟩
      · rintro (h | ⟨k, sd, h1, h2, h3, h4, h5⟩)
        · left
          rw [tb_and, h, up q h (Or.inl rfl)]; rfl
        · right
          refine ⟨k, sd, h1, ?_, h3, h4, h5⟩
          rw [tb_and, h2, up k h2 (Or.inr ⟨sd, h3, h4, h5⟩)]; rfl
end
