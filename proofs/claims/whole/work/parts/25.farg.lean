/-! farness: rounds that take it on, until none is better; twenty are enough -/
def cnt (p : Nat → Bool) : Nat → Nat
  | 0 => 0
  | n + 1 => cnt p n + (if p n = true then 1 else 0)
theorem cnt_le (p : Nat → Bool) : ∀ n, cnt p n ≤ n
  | 0 => Nat.le_refl 0
  | n + 1 => by
    have := cnt_le p n
    unfold cnt
    split <;> omega
theorem cnt_mono {p q : Nat → Bool} : ∀ {n : Nat}, (∀ k, k < n → p k = true → q k = true) → cnt p n ≤ cnt q n
  | 0, _ => Nat.le_refl 0
  | n + 1, h => by
    have := cnt_mono (n := n) fun k hk => h k (by omega)
    have h2 := h n (by omega)
    unfold cnt
    by_cases hp : p n = true
    · rw [if_pos hp, if_pos (h2 hp)]; omega
    · rw [if_neg hp]; omega
theorem cnt_lt {p q : Nat → Bool} {v : Nat} (hq : q v = true) (hp : p v = false) : ∀ {n : Nat}, (∀ k, k < n → p k = true → q k = true) → v < n → cnt p n < cnt q n
  | 0, _, hv => by omega
  | n + 1, h, hv => by
    have hm := cnt_mono (p := p) (q := q) (n := n) fun k hk => h k (by omega)
    have h2 := h n (by omega)
    unfold cnt
    by_cases e : v = n
    · subst e
      rw [hp, hq, if_neg (by simp), if_pos rfl]; omega
    · have := cnt_lt hq hp (n := n) (fun k hk => h k (by omega)) (by omega)
      by_cases hp : p n = true
      · rw [if_pos hp, if_pos (h2 hp)]; omega
      · rw [if_neg hp]; omega
theorem cnt_all {p : Nat → Bool} : ∀ {n : Nat}, n ≤ cnt p n → ∀ k, k < n → p k = true
  | 0, _, k, hk => by omega
  | n + 1, h, k, hk => by
    have hl := cnt_le p n
    unfold cnt at h
    by_cases hp : p n = true
    · rw [if_pos hp] at h
      by_cases e : k = n
      · rw [e]; exact hp
      · exact cnt_all (n := n) (by omega) k (by omega)
    · rw [if_neg hp] at h; omega
/-- a place with a least value among those of n that p holds at -/
theorem min_of {p : Nat → Prop} (D : Nat → Nat) {n v : Nat} (hv : v < n) (hp : p v) : ∃ v, v < n ∧ p v ∧ ∀ u, u < n → p u → D v ≤ D u := by
  obtain ⟨x, ⟨v, h1, h2, h3⟩, hm⟩ := pk_least (fun x => ∃ v, v < n ∧ p v ∧ D v = x) ⟨_, v, hv, hp, rfl⟩
  exact ⟨v, h1, h2, fun u hu hpu => Nat.not_lt.mp fun hl => hm (D u) (by omega) ⟨u, hu, hpu, rfl⟩⟩
def relx (g : Gph) (w k side : Nat) (F : Nat → Nat) : Nat → Nat :=
  if F k < 1000 ∧ F k + cst w side < F (bes g k side) then (fun j => if j = bes g k side then F k + cst w side else F j) else F
def rndS (g : Gph) (w k : Nat) (F : Nat → Nat) : Nat → Nat := itr (fun side F => relx g w k side F) 4 1 F
def rnd (g : Gph) (w : Nat) (F : Nat → Nat) : Nat → Nat := itr (fun k F => rndS g w k F) (gN g) 0 F
def far0 (a : Nat) : Nat → Nat := fun k => if k = a then 0 else 1000
def farS (g : Gph) (w a : Nat) : Nat → Nat → Nat
  | 0 => far0 a
  | n + 1 => rnd g w (farS g w a n)
def farG (g : Gph) (w a : Nat) : Nat → Nat := farS g w a 20
theorem relx_le {g : Gph} {w k side : Nat} {F : Nat → Nat} (v : Nat) : relx g w k side F v ≤ F v := by
  unfold relx
  split
  · rename_i h
    show (if v = _ then _ else _) ≤ _
    split
    · rename_i e; rw [e]; omega
    · exact Nat.le_refl _
  · exact Nat.le_refl _
theorem relx_lt {g : Gph} {w k side : Nat} {F : Nat → Nat} (h : F k < 1000) : relx g w k side F (bes g k side) ≤ F k + cst w side := by
  unfold relx
  split
  · show (if _ = _ then _ else _) ≤ _
    rw [if_pos rfl]; exact Nat.le_refl _
  · rename_i h2
    exact Nat.not_lt.mp fun z => h2 ⟨h, z⟩
/-- what each step lowers, all lower -/
theorem itr_le {f : Nat → (Nat → Nat) → Nat → Nat} (hf : ∀ k F v, f k F v ≤ F v) : ∀ {n i : Nat} {F : Nat → Nat} (v : Nat), itr f n i F v ≤ F v
  | 0, _, _, _ => Nat.le_refl _
  | n + 1, i, F, v => Nat.le_trans (itr_le hf (n := n) (i := i + 1) (F := f i F) v) (hf i F v)
theorem rndS_le {g : Gph} {w k : Nat} {F : Nat → Nat} (v : Nat) : rndS g w k F v ≤ F v := itr_le (f := fun side F => relx g w k side F) (fun _ _ _ => relx_le _) v
theorem rnd_le {g : Gph} {w : Nat} {F : Nat → Nat} (v : Nat) : rnd g w F v ≤ F v := itr_le (f := fun k F => rndS g w k F) (fun _ _ _ => rndS_le _) v
theorem rndS_lt {g : Gph} {w k side : Nat} {F : Nat → Nat} (h : F k < 1000) (hs : 1 ≤ side ∧ side < 5) : rndS g w k F (bes g k side) ≤ F k + cst w side := by
  unfold rndS
  rw [show (4 : Nat) = (side - 1) + (1 + (4 - side)) by omega, itr_add, show 1 + (side - 1) = side by omega, itr_add]
  have h1 : itr (fun side F => relx g w k side F) (side - 1) 1 F k ≤ F k := itr_le (f := fun side F => relx g w k side F) (fun _ _ _ => relx_le _) k
  refine Nat.le_trans (itr_le (f := fun side F => relx g w k side F) (fun _ _ _ => relx_le _) _) ?_
  show relx g w k side _ (bes g k side) ≤ _
  exact Nat.le_trans (relx_lt (by omega)) (by omega)
theorem rnd_lt {g : Gph} {w k side : Nat} {F : Nat → Nat} (hk : k < gN g) (h : F k < 1000) (hs : 1 ≤ side ∧ side < 5) : rnd g w F (bes g k side) ≤ F k + cst w side := by
  unfold rnd
  rw [show gN g = k + (1 + (gN g - k - 1)) by omega, itr_add, Nat.zero_add, itr_add]
  have h1 : itr (fun k F => rndS g w k F) k 0 F k ≤ F k := itr_le (f := fun k F => rndS g w k F) (fun _ _ _ => rndS_le _) k
  refine Nat.le_trans (itr_le (f := fun k F => rndS g w k F) (fun _ _ _ => rndS_le _) _) ?_
  show rndS g w k _ (bes g k side) ≤ _
  exact Nat.le_trans (rndS_lt (by omega) hs) (by omega)
/-- what holds of the values all the time -/
def fInv (g : Gph) (w a : Nat) (F : Nat → Nat) : Prop :=
  F a = 0 ∧ (∀ v, F v ≤ 1000) ∧ (∀ v, gN g ≤ v → F v = 1000) ∧
  (∀ v, v ≠ a → F v < 1000 → ∃ u side, u < gN g ∧ (1 ≤ side ∧ side < 5) ∧ bes g u side = v ∧ F u + cst w side ≤ F v) ∧
  (∀ v, F v < 1000 → F v + 3 ≤ 3 * cnt (fun k => decide (F k < 1000)) (gN g))
theorem fInv_0 {g : Gph} {w a : Nat} (ha : a < gN g) : fInv g w a (far0 a) := by
  refine ⟨if_pos rfl, fun v => ?_, fun v hv => if_neg (by omega), fun v hv h => ?_, fun v h => ?_⟩
  · unfold far0; split <;> omega
  · unfold far0 at h; rw [if_neg hv] at h; omega
  · have e : v = a := by
      apply Classical.byContradiction
      intro e
      unfold far0 at h; rw [if_neg e] at h; omega
    have : cnt (fun _ => false) (gN g) < cnt (fun k => decide (far0 a k < 1000)) (gN g) := cnt_lt (v := a) (decide_eq_true (by unfold far0; rw [if_pos rfl]; omega)) rfl (fun _ _ z => absurd z (by simp)) ha
    have : far0 a v = 0 := by unfold far0; rw [if_pos e]
    omega
theorem fInv_relx {g : Gph} {w a k side : Nat} {F : Nat → Nat} (hk : k < gN g) (hs : 1 ≤ side ∧ side < 5) (h : fInv g w a F) : fInv g w a (relx g w k side F) := by
  by_cases hc : F k < 1000 ∧ F k + cst w side < F (bes g k side)
  · have e : relx g w k side F = fun j => if j = bes g k side then F k + cst w side else F j := if_pos hc
    obtain ⟨h1, h2, h3, h4, h5⟩ := h
    have hcs := cst_le w side
    have hto : bes g k side ≠ a := fun z => by rw [z, h1] at hc; omega
    have hb := bes_lt hk side
    have hkto : k ≠ bes g k side := fun z => by rw [← z] at hc; omega
    have hm : ∀ j, (if j = bes g k side then F k + cst w side else F j) ≤ F j := fun j => by
      split
      · rename_i e; rw [e]; omega
      · exact Nat.le_refl _
    have h2b := h2 (bes g k side)
    rw [e]
    refine ⟨?_, fun v => ?_, fun v hv => ?_, fun v hv hl => ?_, fun v hl => ?_⟩
    · show (if a = _ then _ else _) = _
      rw [if_neg fun z => hto z.symm]; exact h1
    · exact Nat.le_trans (hm v) (h2 v)
    · show (if v = _ then _ else _) = _
      rw [if_neg (by omega)]; exact h3 v hv
    · by_cases ev : v = bes g k side
      · refine ⟨k, side, hk, hs, ev.symm, ?_⟩
        show (if k = _ then _ else _) + _ ≤ (if v = _ then _ else _)
        rw [if_neg hkto, if_pos ev]; exact Nat.le_refl _
      · have hl' : F v < 1000 := by
          have : (if v = bes g k side then F k + cst w side else F v) < 1000 := hl
          rwa [if_neg ev] at this
        obtain ⟨u, sd, h6, h7, h8, h9⟩ := h4 v hv hl'
        refine ⟨u, sd, h6, h7, h8, ?_⟩
        show (if u = _ then _ else _) + _ ≤ (if v = _ then _ else _)
        rw [if_neg ev]
        have := hm u
        omega
    · have hmono : ∀ j, j < gN g → decide (F j < 1000) = true → decide ((if j = bes g k side then F k + cst w side else F j) < 1000) = true := fun j _ hj => decide_eq_true (Nat.lt_of_le_of_lt (hm j) (of_decide_eq_true hj))
      show (if v = _ then _ else _) + 3 ≤ 3 * cnt (fun j => decide ((if j = bes g k side then F k + cst w side else F j) < 1000)) (gN g)
      have hcm := cnt_mono hmono
      by_cases ev : v = bes g k side
      · rw [if_pos ev]
        have hkb := h5 k hc.1
        by_cases hf : F (bes g k side) < 1000
        · have := h5 _ hf
          omega
        · have hct := cnt_lt (p := fun j => decide (F j < 1000)) (q := fun j => decide ((if j = bes g k side then F k + cst w side else F j) < 1000)) (v := bes g k side) (n := gN g) (decide_eq_true (by
            have hcl := cnt_le (fun j => decide (F j < 1000)) (gN g)
            rw [if_pos rfl]
            omega)) (decide_eq_false hf) hmono hb
          omega
      · rw [if_neg ev]
        have : (if v = bes g k side then F k + cst w side else F v) < 1000 := hl
        rw [if_neg ev] at this
        have := h5 v this
        omega
  · have e : relx g w k side F = F := if_neg hc
    rw [e]; exact h
theorem fInv_rndS {g : Gph} {w a k : Nat} {F : Nat → Nat} (hk : k < gN g) (h : fInv g w a F) : fInv g w a (rndS g w k F) :=
  itr_P (f := fun side F => relx g w k side F) (fun _ F => fInv g w a F) h (fun sd F h1 h2 hF => fInv_relx hk ⟨h1, by omega⟩ hF)
theorem fInv_rnd {g : Gph} {w a : Nat} {F : Nat → Nat} (h : fInv g w a F) : fInv g w a (rnd g w F) :=
  itr_P (f := fun k F => rndS g w k F) (fun _ F => fInv g w a F) h (fun k F _ h2 hF => fInv_rndS (by omega) hF)
theorem fInv_S {g : Gph} {w a : Nat} (ha : a < gN g) : ∀ n, fInv g w a (farS g w a n)
  | 0 => fInv_0 ha
  | n + 1 => fInv_rnd (fInv_S ha n)
theorem farS_le {g : Gph} {w a : Nat} (n v : Nat) : ∀ m, farS g w a (n + m) v ≤ farS g w a n v
  | 0 => Nat.le_refl _
  | m + 1 => Nat.le_trans (rnd_le v) (farS_le n v m)
theorem far_D {g : Gph} {w a : Nat} (v : Nat) : ∃ x, (∀ n, x ≤ farS g w a n v) ∧ ∃ n, farS g w a n v = x := by
  obtain ⟨x, ⟨n, hn⟩, hm⟩ := pk_least (fun x => ∃ n, farS g w a n v = x) ⟨_, 0, rfl⟩
  exact ⟨x, fun m => Nat.not_lt.mp fun z => hm _ z ⟨m, rfl⟩, n, hn⟩
theorem far_fix {g : Gph} {w a : Nat} (hg : gOk g) (ha : a < gN g) : rnd g w (farG g w a) = farG g w a := by
  have hN := gN_le hg
  obtain ⟨D, hD⟩ : ∃ D : Nat → Nat, ∀ v, (∀ n, D v ≤ farS g w a n v) ∧ ∃ n, farS g w a n v = D v := ⟨fun v => Classical.choose (far_D (g := g) (w := w) (a := a) v), fun v => Classical.choose_spec (far_D v)⟩
  have hA : ∀ v, v ≠ a → D v < 1000 → ∃ u side, u < gN g ∧ (1 ≤ side ∧ side < 5) ∧ bes g u side = v ∧ D u + cst w side ≤ D v := by
    intro v hv hl
    obtain ⟨n, hn⟩ := (hD v).2
    obtain ⟨u, sd, h1, h2, h3, h4⟩ := (fInv_S ha n).2.2.2.1 v hv (by rw [hn]; exact hl)
    exact ⟨u, sd, h1, h2, h3, by have := (hD u).1 n; omega⟩
  have hst : ∀ n, (∀ v, v < gN g → farS g w a n v = D v) ∨ n + 1 ≤ cnt (fun v => decide (farS g w a n v = D v)) (gN g) := by
    intro n
    induction n with
    | zero =>
      right
      have : cnt (fun _ => false) (gN g) < cnt (fun v => decide (farS g w a 0 v = D v)) (gN g) := cnt_lt (v := a) (decide_eq_true (by
        have h1 := (hD a).1 0
        have h2 := (fInv_S (w := w) ha 0).1
        omega)) rfl (fun _ _ z => absurd z (by simp)) ha
      omega
    | succ n ih =>
      have hkeep : ∀ v, farS g w a n v = D v → farS g w a (n + 1) v = D v := fun v hv => by
        have h1 := (hD v).1 (n + 1)
        have h2 := farS_le (g := g) (w := w) (a := a) n v 1
        omega
      by_cases hall : ∀ v, v < gN g → farS g w a n v = D v
      · exact Or.inl fun v hv => hkeep v (hall v hv)
      · right
        have hn := ih.resolve_left hall
        obtain ⟨v0, hv0⟩ := Classical.not_forall.mp hall
        have hv1 : v0 < gN g ∧ ¬ farS g w a n v0 = D v0 := by
          constructor
          · exact Classical.byContradiction fun z => hv0 fun y => absurd y z
          · exact fun z => hv0 fun _ => z
        obtain ⟨v, h1, h2, h3⟩ := min_of (p := fun v => ¬ farS g w a n v = D v) D hv1.1 hv1.2
        have hI := fInv_S (w := w) ha n
        have hle := (hD v).1 n
        have h1000 := hI.2.1 v
        have hva : v ≠ a := fun z => by
          have h4 := (hD a).1 n
          have h5 := hI.1
          rw [z] at h2
          omega
        obtain ⟨u, sd, h4, h5, h6, h7⟩ := hA v hva (by omega)
        have hcs := cst_le w sd
        have hu : farS g w a n u = D u := Classical.byContradiction fun z => by
          have := h3 u h4 z
          omega
        have h8 := rnd_lt (g := g) (w := w) (F := farS g w a n) h4 (by omega) h5
        rw [h6] at h8
        have h9 : farS g w a (n + 1) v = D v := by
          have := (hD v).1 (n + 1)
          have : farS g w a (n + 1) v ≤ farS g w a n u + cst w sd := h8
          omega
        have := cnt_lt (p := fun v => decide (farS g w a n v = D v)) (q := fun v => decide (farS g w a (n + 1) v = D v)) (v := v) (n := gN g) (decide_eq_true h9) (decide_eq_false h2) (fun k _ hk => decide_eq_true (hkeep k (of_decide_eq_true hk))) h1
        omega
  have h19 : ∀ v, v < gN g → farS g w a 19 v = D v := by
    rcases hst 19 with h | h
    · exact h
    · intro v hv
      exact of_decide_eq_true (cnt_all (p := fun v => decide (farS g w a 19 v = D v)) (n := gN g) (by omega) v hv)
  funext v
  show farS g w a 21 v = farS g w a 20 v
  by_cases hv : v < gN g
  · have h1 := h19 v hv
    have h2 : farS g w a 20 v ≤ farS g w a 19 v := farS_le 19 v 1
    have h3 : farS g w a 21 v ≤ farS g w a 19 v := farS_le 19 v 2
    have h4 := (hD v).1 20
    have h5 := (hD v).1 21
    omega
  · rw [(fInv_S (w := w) ha 21).2.2.1 v (by omega), (fInv_S (w := w) ha 20).2.2.1 v (by omega)]
theorem far_stop {g : Gph} {w a n : Nat} (h : rnd g w (farS g w a n) = farS g w a n) : ∀ m, farS g w a (n + m) = farS g w a n
  | 0 => rfl
  | m + 1 => by
    show rnd g w (farS g w a (n + m)) = _
    rw [far_stop h m, h]
theorem far_b {g : Gph} {w a : Nat} (hg : gOk g) (ha : a < gN g) (n v : Nat) : farS g w a n v = 1000 ∨ farS g w a n v ≤ 57 := by
  have hN := gN_le hg
  have h := fInv_S (w := w) ha n
  rcases Nat.lt_or_ge (farS g w a n v) 1000 with h1 | h1
  · have h2 := h.2.2.2.2 v h1
    have h3 := cnt_le (fun k => decide (farS g w a n k < 1000)) (gN g)
    omega
  · have := h.2.1 v
    omega
