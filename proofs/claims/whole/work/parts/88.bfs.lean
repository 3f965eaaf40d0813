/-! sets of streets, told by numbers; the search for a row of steps -/
section
variable {g : Gph}
def num (g : Gph) (k : Nat) : Nat := cnt (gst g) k
theorem num_S {k : Nat} : num g (k + 1) = num g k + (if gst g k = true then 1 else 0) := rfl
theorem num_mono {a b : Nat} (h : a ≤ b) : num g a ≤ num g b := by
  induction b with
  | zero => obtain rfl : a = 0 := by omega
            exact Nat.le_refl _
  | succ b ih =>
    rcases Nat.lt_or_ge b a with z | z
    · obtain rfl : a = b + 1 := by omega
      exact Nat.le_refl _
    · have := ih z
      rw [num_S]
      omega
theorem num_lt {k n : Nat} (hk : k < n) (hs : gst g k = true) : num g k < num g n := by
  have h1 : num g (k + 1) = num g k + 1 := by rw [num_S, if_pos hs]
  have h2 := num_mono (g := g) (show k + 1 ≤ n from hk)
  omega
/-- bits h(k) of the k at which p holds -/
def orH (p : Nat → Bool) (h : Nat → Nat) : Nat → Int32 → Int32 := fun k x => if p k = true then x ||| bit (h k) else x
theorem orH_hi {p : Nat → Bool} {h : Nat → Nat} {N n : Nat} (hN : N ≤ 32) (hh : ∀ k, k < n → p k = true → h k < N) {e : Nat} (he : N ≤ e) : tb (itr (orH p h) n 0 (nI 0)) e = false := by
  have := itr_P (f := orH p h) (P := fun _ x => tb x e = false) (n := n) (i := 0) (a := nI 0) tb_0 (fun k a _ hk ha => by
    unfold orH
    by_cases hp : p k = true
    · rw [if_pos hp, tb_or, ha, tb_bit (by have := hh k (by omega) hp; omega), decide_eq_false (by have := hh k (by omega) hp; omega)]; rfl
    · rw [if_neg hp]; exact ha)
  exact this
theorem orH_in {p : Nat → Bool} {h : Nat → Nat} {k : Nat} (hp : p k = true) (hh : h k < 32) : ∀ {n : Nat}, k < n → tb (itr (orH p h) n 0 (nI 0)) (h k) = true := by
  intro n
  induction n with
  | zero => intro hk; omega
  | succ n ih =>
    intro hk
    rw [itr_S, Nat.zero_add]
    unfold orH
    by_cases e : k = n
    · subst e
      rw [if_pos hp, tb_or, tb_bit hh, decide_eq_true rfl, Bool.or_true]
    · have := ih (by omega)
      by_cases hq : p n = true
      · rw [if_pos hq, tb_or]
        unfold orH at this
        rw [this, Bool.true_or]
      · rw [if_neg hq]
        exact this
def cd (x : Int32) : Nat := x.toNatClampNeg
theorem cd_ok {x : Int32} {N : Nat} (hN : N ≤ 12) (h : ∀ e, N ≤ e → e < 32 → tb x e = false) : x = nI (cd x) ∧ cd x < 2 ^ N := by
  have hlt : x.toBitVec.toNat < 2 ^ N := by
    refine Nat.lt_pow_two_of_testBit _ fun i hi => ?_
    by_cases hi2 : i < 32
    · have := h i hi hi2
      unfold tb at this
      rw [← BitVec.testBit_toNat] at this
      exact this
    · exact Nat.testBit_lt_two_pow (Nat.lt_of_lt_of_le x.toBitVec.isLt (Nat.pow_le_pow_right (by decide) (by omega)))
  have h12 : 2 ^ N ≤ 4096 := Nat.le_trans (Nat.pow_le_pow_right (by decide) hN) (by decide)
  have e : x = nI x.toBitVec.toNat := by
    apply Int32.toBitVec_inj.mp
    apply BitVec.eq_of_toNat_eq
    rw [pk_tn (by omega)]
  have e2 : cd x = x.toBitVec.toNat := by
    unfold cd
    rw [e, nI_clamp (by omega)]
    rw [pk_tn (by omega)]
  rw [e2]
  exact ⟨e, hlt⟩
/-- where a set gets to by a step -/
def mvI (g : Gph) (set : Int32) (side : Nat) : Int32 := itr (orH (fun k => gst g k && tb set (num g k)) (fun k => num g (bes g k side))) (gN g) 0 (nI 0)
def mv (g : Gph) (set side : Nat) : Nat := cd (mvI g (nI set) side)
def pkI (g : Gph) (x : Int32) : Int32 := itr (orH (fun k => gst g k && tb x k) (num g)) (gN g) 0 (nI 0)
def pk (g : Gph) (x : Int32) : Nat := cd (pkI g x)
theorem mv_ok (hN : num g (gN g) ≤ 12) (set side : Nat) : mvI g (nI set) side = nI (mv g set side) ∧ mv g set side < 2 ^ num g (gN g) := by
  refine cd_ok hN fun e he h32 => orH_hi (N := num g (gN g)) (by omega) (fun k hk hp => ?_) he
  have hs := (Bool.and_eq_true_iff.mp hp).1
  exact num_lt (bes_lt hk side) (bes_st hs side)
theorem pk_ok (hN : num g (gN g) ≤ 12) (x : Int32) : pkI g x = nI (pk g x) ∧ pk g x < 2 ^ num g (gN g) := by
  refine cd_ok hN fun e he h32 => orH_hi (N := num g (gN g)) (by omega) (fun k hk hp => ?_) he
  exact num_lt hk (Bool.and_eq_true_iff.mp hp).1
theorem pk_0 (hN : num g (gN g) ≤ 12) {x : Int32} (hx : ∀ e, tb x e = true → e < gN g ∧ gst g e = true) (hx0 : x ≠ nI 0) : pkI g x ≠ nI 0 := by
  intro z
  have : ∃ e, e < 32 ∧ tb x e = true := Classical.byContradiction fun hn => hx0 (tb_ext fun k hk => by
    rw [tb_0]
    cases h : tb x k
    · rfl
    · exact absurd ⟨k, hk, h⟩ hn)
  obtain ⟨e, he, ht⟩ := this
  obtain ⟨h1, h2⟩ := hx e ht
  have h3 := num_lt (g := g) h1 h2
  have := orH_in (p := fun k => gst g k && tb x k) (h := num g) (k := e) (by rw [h2, ht]; rfl) (by omega) h1
  have z' : itr (orH (fun k => gst g k && tb x k) (num g)) (gN g) 0 (nI 0) = nI 0 := z
  rw [z', tb_0] at this
  simp at this
theorem wlk_st {br bt : Nat → Int32} {sd : Nat → Nat} : ∀ {n i k e : Nat}, gst g k = true → wlk g br bt sd n i k = some e → gst g e = true
  | 0, _, _, _, hk, h => by
    injection h with h
    subst h; exact hk
  | n + 1, i, k, e, hk, h => by
    unfold wlk at h
    split at h
    · exact wlk_st (bes_st hk _) h
    · simp at h
theorem fits_st {br bt : Nat → Int32} {sd : Nat → Nat} {t : Nat} (hg : gOk g) {e : Nat} (h : tb (fits g br bt sd t true) e = true) : e < gN g ∧ gst g e = true := by
  have h20 := gN_le hg
  have := itr_P (f := fitB g br bt sd t true) (P := fun _ x => tb x e = true → e < gN g ∧ gst g e = true) (n := gN g) (i := 0) (a := nI 0) (fun z => by rw [tb_0] at z; simp at z) (fun k a _ hk ha => by
    unfold fitB
    by_cases hp : gst g k = true
    · rw [if_pos hp]
      cases hw : wlk g br bt sd t 0 k with
      | none => exact ha
      | some q =>
        have hq : q < gN g := wlk_lt (by omega) hw
        show tb (a ||| bit (if true = true then q else k)) e = true → _
        rw [if_pos rfl, tb_or, tb_bit (by omega)]
        intro z
        rcases Bool.or_eq_true_iff.mp z with z | z
        · exact ha z
        · have := of_decide_eq_true z
          subst this
          exact ⟨hq, wlk_st hp hw⟩
    · rw [if_neg hp]; exact ha)
  exact this h
/-- numbers instead of places -/
theorem mv_num {set : Int32} {side : Nat} {L : Nat → Nat} (hL : ∀ k, k < gN g → gst g k = true → L (num g k) = num g (bes g k side)) : ∀ n, n ≤ gN g → itr (orH (fun k => gst g k && tb set (num g k)) (fun k => num g (bes g k side))) n 0 (nI 0) = itr (orH (fun i => tb set i) L) (num g n) 0 (nI 0) := by
  intro n
  induction n with
  | zero => intro _; rfl
  | succ n ih =>
    intro hn
    have ih := ih (by omega)
    rw [itr_S, Nat.zero_add, num_S]
    by_cases hs : gst g n = true
    · rw [if_pos hs, itr_S, Nat.zero_add, ih]
      generalize itr (orH (fun i => tb set i) L) (num g n) 0 (nI 0) = X
      show (if (gst g n && tb set (num g n)) = true then X ||| bit (num g (bes g n side)) else X) = (if tb set (num g n) = true then X ||| bit (L (num g n)) else X)
      rw [hs, Bool.true_and, hL n (by omega) hs]
    · rw [if_neg hs, Nat.add_zero, ih]
      unfold orH
      rw [if_neg (by rw [Bool.and_eq_true]; exact fun z => hs z.1)]
end
section
/-- a search: sizes, queue, reached, first -/
abbrev BS := Nat × (Nat → Nat) × (Nat → Nat) × (Nat → Nat)
def bM (b : BS) : Nat := b.1
def bQ (b : BS) : Nat → Nat := b.2.1
def bR (b : BS) : Nat → Nat := b.2.2.1
def bF (b : BS) : Nat → Nat := b.2.2.2
def upN (f : Nat → Nat) (x v : Nat) : Nat → Nat := fun k => if k = x then v else f k
def bNew (n set side x : Nat) (b : BS) : BS := (bM b + 1, upN (bQ b) (bM b) x, upN (bR b) x (bR b set + 1), upN (bF b) x (if n = 0 then side else bF b set))
def bOne (M : Nat → Nat → Nat) (n set side : Nat) (b : BS) : BS := if bR b (M set side) = 0 then bNew n set side (M set side) b else b
def bRow (M : Nat → Nat → Nat) (n set : Nat) : Nat → Nat → BS → BS
  | 0, _, b => b
  | k + 1, side, b => bRow M n set k (side + 1) (bOne M n set side b)
def bAll (M : Nat → Nat → Nat) (goal : Nat) : Nat → Nat → BS → BS
  | 0, _, b => b
  | f + 1, n, b => if n < bM b ∧ bR b goal = 0 then bAll M goal f (n + 1) (bRow M n (bQ b n) 4 1 b) else b
def b0 (st : Nat) : BS := (1, (fun _ => st), (fun k => if k = st then 1 else 0), (fun _ => 0))
def BI (B st : Nat) (b : BS) : Prop := 1 ≤ bM b ∧ cnt (fun x => ! decide (bR b x = 0)) B = bM b ∧ (∀ x, bR b x ≤ bM b) ∧ (∀ i, i < bM b → bQ b i < B ∧ bR b (bQ b i) ≠ 0) ∧ bQ b 0 = st ∧ bR b st ≠ 0 ∧ (∀ i, 1 ≤ i → i < bM b → bQ b i ≠ st)
theorem cnt_up {p : Nat → Bool} {x : Nat} (hp : p x = false) : ∀ {n : Nat}, x < n → cnt (fun k => if k = x then true else p k) n = cnt p n + 1 := by
  intro n
  induction n with
  | zero => intro h; omega
  | succ n ih =>
    intro h
    show cnt _ n + (if (if n = x then true else p n) = true then 1 else 0) = cnt p n + (if p n = true then 1 else 0) + 1
    by_cases e : n = x
    · subst e
      rw [if_pos rfl, if_pos rfl, if_neg (show ¬ p n = true by rw [hp]; decide), Nat.add_zero]
      congr 1
      exact cnt_congr n fun k hk => if_neg (by omega)
    · rw [if_neg e, ih (by omega)]
      omega
theorem BI_lt {B st x : Nat} {b : BS} (h : BI B st b) (hx : x < B) (h0 : bR b x = 0) : bM b < B := by
  have := cnt_up (p := fun x => ! decide (bR b x = 0)) (x := x) (by show (! decide (bR b x = 0)) = false; rw [decide_eq_true h0]; rfl) hx
  have l := cnt_le (fun k => if k = x then true else ! decide (bR b k = 0)) B
  rw [this, h.2.1] at l
  exact l
theorem BI_new {B st n set side x : Nat} {b : BS} (h : BI B st b) (hx : x < B) (h0 : bR b x = 0) : BI B st (bNew n set side x b) := by
  obtain ⟨a1, a2, a3, a4, a5, a6, a7⟩ := h
  refine ⟨Nat.le_succ_of_le a1, ?_, fun y => ?_, fun i hi => ?_, ?_, ?_, fun i hi1 hi => ?_⟩
  · show cnt (fun y => ! decide (upN (bR b) x (bR b set + 1) y = 0)) B = bM b + 1
    rw [← a2, ← cnt_up (p := fun x => ! decide (bR b x = 0)) (x := x) (by show (! decide (bR b x = 0)) = false; rw [decide_eq_true h0]; rfl) hx]
    refine cnt_congr B fun k _ => ?_
    unfold upN
    by_cases e : k = x
    · rw [if_pos e, if_pos e]; rfl
    · rw [if_neg e, if_neg e]
  · show upN (bR b) x (bR b set + 1) y ≤ bM b + 1
    unfold upN
    split
    · have := a3 set; omega
    · have := a3 y; omega
  · have hi' : i < bM b + 1 := hi
    show upN (bQ b) (bM b) x i < B ∧ upN (bR b) x (bR b set + 1) (upN (bQ b) (bM b) x i) ≠ 0
    unfold upN
    by_cases e : i = bM b
    · rw [if_pos e, if_pos rfl]; exact ⟨hx, by omega⟩
    · rw [if_neg e]
      refine ⟨(a4 i (by omega)).1, ?_⟩
      split
      · omega
      · exact (a4 i (by omega)).2
  · show upN (bQ b) (bM b) x 0 = st
    unfold upN
    rw [if_neg (by omega)]; exact a5
  · show upN (bR b) x (bR b set + 1) st ≠ 0
    unfold upN
    split
    · omega
    · exact a6
  · have hi' : i < bM b + 1 := hi
    show upN (bQ b) (bM b) x i ≠ st
    unfold upN
    by_cases e : i = bM b
    · rw [if_pos e]; intro z; rw [z] at h0; exact a6 h0
    · rw [if_neg e]; exact a7 i hi1 (by omega)
theorem BI_one {B st n set side : Nat} {M : Nat → Nat → Nat} {b : BS} (h : BI B st b) (hM : M set side < B) : BI B st (bOne M n set side b) := by
  unfold bOne
  split
  · rename_i h0; exact BI_new h hM h0
  · exact h
theorem BI_row {B st n set : Nat} {M : Nat → Nat → Nat} (hM : ∀ set side, M set side < B) : ∀ (k side : Nat) (b : BS), BI B st b → BI B st (bRow M n set k side b)
  | 0, _, _, h => h
  | k + 1, side, b, h => BI_row hM k (side + 1) _ (BI_one h (hM _ _))
theorem bM_row {M : Nat → Nat → Nat} {n set : Nat} : ∀ (k side : Nat) (b : BS), bM b ≤ bM (bRow M n set k side b)
  | 0, _, _ => Nat.le_refl _
  | k + 1, side, b => by
    refine Nat.le_trans ?_ (bM_row k (side + 1) (bOne M n set side b))
    unfold bOne
    split
    · exact Nat.le_succ _
    · exact Nat.le_refl _
/-- what is reached stays -/
theorem keep_one {M : Nat → Nat → Nat} {n set side x : Nat} {b : BS} (h : bR b x ≠ 0) : bR (bOne M n set side b) x = bR b x ∧ bF (bOne M n set side b) x = bF b x := by
  unfold bOne
  split
  · rename_i h0
    have ne : x ≠ M set side := fun e => h (e ▸ h0)
    exact ⟨if_neg ne, if_neg ne⟩
  · exact ⟨rfl, rfl⟩
theorem keep_row {M : Nat → Nat → Nat} {n set x : Nat} : ∀ (k side : Nat) (b : BS), bR b x ≠ 0 → bR (bRow M n set k side b) x = bR b x ∧ bF (bRow M n set k side b) x = bF b x
  | 0, _, _, _ => ⟨rfl, rfl⟩
  | k + 1, side, b, h => by
    have h1 := keep_one (M := M) (n := n) (set := set) (side := side) h
    have h2 := keep_row (M := M) (n := n) (set := set) (x := x) k (side + 1) (bOne M n set side b) (by rw [h1.1]; exact h)
    exact ⟨h2.1.trans h1.1, h2.2.trans h1.2⟩
theorem bAll_stop {M : Nat → Nat → Nat} {goal : Nat} : ∀ (f n : Nat) (b : BS), bR b goal ≠ 0 → bAll M goal f n b = b
  | 0, _, _, _ => rfl
  | f + 1, n, b, h => if_neg fun z => h z.2
theorem BI_0 {B st : Nat} (h : st < B) : BI B st (b0 st) := by
  refine ⟨Nat.le_refl _, ?_, fun x => ?_, fun i hi => ⟨h, ?_⟩, rfl, ?_, fun i h1 h2 => ?_⟩
  · have := cnt_up (p := fun _ => false) (x := st) rfl h
    rw [cnt_f B (fun _ _ => rfl)] at this
    refine Eq.trans (cnt_congr B fun k _ => ?_) this
    show (! decide (bR (b0 st) k = 0)) = if k = st then true else false
    have eb : bR (b0 st) k = if k = st then 1 else 0 := rfl
    by_cases e : k = st
    · rw [decide_eq_false (show ¬ bR (b0 st) k = 0 by rw [eb, if_pos e]; decide), if_pos e]; rfl
    · rw [decide_eq_true (show bR (b0 st) k = 0 by rw [eb, if_neg e]), if_neg e]; rfl
  · show (if x = st then 1 else 0) ≤ 1
    split <;> omega
  · show (if st = st then 1 else 0) ≠ 0
    rw [if_pos rfl]; omega
  · show (if st = st then 1 else 0) ≠ 0
    rw [if_pos rfl]; omega
  · have h2' : i < 1 := h2
    omega
/-- what is answered: the steps, or the first of them -/
def bRes (goal : Nat) (what : Nat) (b : BS) : Int32 := if bR b goal = 0 then m1 else if what = 0 then nI (bR b goal - 1) else nI (bF b goal)
end
