/-! PURE: numbers -/
theorem q0 : (0 : Int32) = nI 0 := (rfl)
theorem q1 : (1 : Int32) = nI 1 := (rfl)
theorem q2 : (2 : Int32) = nI 2 := (rfl)
theorem q3 : (3 : Int32) = nI 3 := (rfl)
theorem q4 : (4 : Int32) = nI 4 := (rfl)
theorem q5 : (5 : Int32) = nI 5 := (rfl)
theorem q6 : (6 : Int32) = nI 6 := (rfl)
theorem q7 : (7 : Int32) = nI 7 := (rfl)
theorem q8 : (8 : Int32) = nI 8 := (rfl)
theorem q9 : (9 : Int32) = nI 9 := (rfl)
theorem q10 : (10 : Int32) = nI 10 := (rfl)
theorem q11 : (11 : Int32) = nI 11 := (rfl)
theorem q12 : (12 : Int32) = nI 12 := (rfl)
theorem q13 : (13 : Int32) = nI 13 := (rfl)
theorem q14 : (14 : Int32) = nI 14 := (rfl)
theorem q15 : (15 : Int32) = nI 15 := (rfl)
theorem q16 : (16 : Int32) = nI 16 := (rfl)
theorem q17 : (17 : Int32) = nI 17 := (rfl)
theorem q18 : (18 : Int32) = nI 18 := (rfl)
theorem q19 : (19 : Int32) = nI 19 := (rfl)
theorem q20 : (20 : Int32) = nI 20 := (rfl)
theorem q21 : (21 : Int32) = nI 21 := (rfl)
theorem q22 : (22 : Int32) = nI 22 := (rfl)
theorem q23 : (23 : Int32) = nI 23 := (rfl)
theorem q24 : (24 : Int32) = nI 24 := (rfl)
theorem q25 : (25 : Int32) = nI 25 := (rfl)
theorem q26 : (26 : Int32) = nI 26 := (rfl)
theorem q27 : (27 : Int32) = nI 27 := (rfl)
theorem q28 : (28 : Int32) = nI 28 := (rfl)
theorem q29 : (29 : Int32) = nI 29 := (rfl)
theorem q30 : (30 : Int32) = nI 30 := (rfl)
theorem q31 : (31 : Int32) = nI 31 := (rfl)
theorem q32 : (32 : Int32) = nI 32 := (rfl)
theorem q33 : (33 : Int32) = nI 33 := (rfl)
theorem q34 : (34 : Int32) = nI 34 := (rfl)
theorem q35 : (35 : Int32) = nI 35 := (rfl)
theorem q36 : (36 : Int32) = nI 36 := (rfl)
theorem q37 : (37 : Int32) = nI 37 := (rfl)
theorem q38 : (38 : Int32) = nI 38 := (rfl)
theorem q39 : (39 : Int32) = nI 39 := (rfl)
theorem q40 : (40 : Int32) = nI 40 := (rfl)
theorem q41 : (41 : Int32) = nI 41 := (rfl)
theorem q42 : (42 : Int32) = nI 42 := (rfl)
theorem q43 : (43 : Int32) = nI 43 := (rfl)
theorem q44 : (44 : Int32) = nI 44 := (rfl)
theorem q45 : (45 : Int32) = nI 45 := (rfl)
theorem q46 : (46 : Int32) = nI 46 := (rfl)
theorem q47 : (47 : Int32) = nI 47 := (rfl)
theorem q48 : (48 : Int32) = nI 48 := (rfl)
theorem q49 : (49 : Int32) = nI 49 := (rfl)
theorem q50 : (50 : Int32) = nI 50 := (rfl)
theorem q51 : (51 : Int32) = nI 51 := (rfl)
theorem q52 : (52 : Int32) = nI 52 := (rfl)
theorem q53 : (53 : Int32) = nI 53 := (rfl)
theorem q54 : (54 : Int32) = nI 54 := (rfl)
theorem q55 : (55 : Int32) = nI 55 := (rfl)
theorem q56 : (56 : Int32) = nI 56 := (rfl)
theorem q57 : (57 : Int32) = nI 57 := (rfl)
theorem q58 : (58 : Int32) = nI 58 := (rfl)
theorem q59 : (59 : Int32) = nI 59 := (rfl)
theorem q61 : (61 : Int32) = nI 61 := (rfl)
theorem q62 : (62 : Int32) = nI 62 := (rfl)
theorem q63 : (63 : Int32) = nI 63 := (rfl)
theorem q64 : (64 : Int32) = nI 64 := (rfl)
theorem q66 : (66 : Int32) = nI 66 := (rfl)
theorem q67 : (67 : Int32) = nI 67 := (rfl)
theorem q68 : (68 : Int32) = nI 68 := (rfl)
theorem q69 : (69 : Int32) = nI 69 := (rfl)
theorem q70 : (70 : Int32) = nI 70 := (rfl)
theorem q71 : (71 : Int32) = nI 71 := (rfl)
theorem q91 : (91 : Int32) = nI 91 := (rfl)
theorem q93 : (93 : Int32) = nI 93 := (rfl)
theorem q99 : (99 : Int32) = nI 99 := (rfl)
theorem q100 : (100 : Int32) = nI 100 := (rfl)
theorem q102 : (102 : Int32) = nI 102 := (rfl)
theorem q104 : (104 : Int32) = nI 104 := (rfl)
theorem q107 : (107 : Int32) = nI 107 := (rfl)
theorem q108 : (108 : Int32) = nI 108 := (rfl)
theorem q112 : (112 : Int32) = nI 112 := (rfl)
theorem q114 : (114 : Int32) = nI 114 := (rfl)
theorem q115 : (115 : Int32) = nI 115 := (rfl)
theorem q119 : (119 : Int32) = nI 119 := (rfl)
theorem q121 : (121 : Int32) = nI 121 := (rfl)
theorem q124 : (124 : Int32) = nI 124 := (rfl)
theorem q160 : (160 : Int32) = nI 160 := (rfl)
theorem q200 : (200 : Int32) = nI 200 := (rfl)
theorem q255 : (255 : Int32) = nI 255 := (rfl)
theorem q640 : (640 : Int32) = nI 640 := (rfl)
theorem q999 : (999 : Int32) = nI 999 := (rfl)
theorem q1000 : (1000 : Int32) = nI 1000 := (rfl)
theorem q2000 : (2000 : Int32) = nI 2000 := (rfl)
theorem q4096 : (4096 : Int32) = nI 4096 := (rfl)
def m1 : Int32 := -1
def hid : Int32 := -1000000
theorem n_m1 : (-1 : Int32) = m1 := (rfl)
theorem n_hid : (-1000000 : Int32) = hid := (rfl)
theorem n_of (n : Nat) : Int32.ofNat n = nI n := (rfl)
theorem n_sub {a b : Nat} (h : b ≤ a) : nI a - nI b = nI (a - b) := pk_sub h
theorem n_i {n : Nat} (h : n < 2 ^ 31) : (nI n).toInt = n := nI_toInt h
theorem m1_toInt : m1.toInt = -1 := by decide
theorem m1_eq {n : Nat} (h : n < 2 ^ 31) : (nI n = m1) = False := eq_false <| by
  intro e
  have := congrArg Int32.toInt e
  rw [nI_toInt h, m1_toInt] at this
  omega
theorem m1_eq2 {n : Nat} (h : n < 2 ^ 31) : (m1 = nI n) = False := by
  refine eq_false ?_
  exact fun e => absurd e.symm (by rw [m1_eq h]; exact id)
theorem m1_lt {n : Nat} (h : n < 2 ^ 31) : (m1 < nI n) = True := by
  refine eq_true ?_
  rw [Int32.lt_iff_toInt_lt, nI_toInt h, m1_toInt]
  omega
theorem m1_lt2 {n : Nat} (h : n < 2 ^ 31) : (nI n < m1) = False := by
  refine eq_false ?_
  rw [Int32.lt_iff_toInt_lt, nI_toInt h, m1_toInt]
  omega
theorem gdN {c N : Nat} (h : c < N) : (c < 0 ∨ N ≤ c) = False := by
  refine eq_false ?_; omega
theorem beq_self (n : Nat) : Nat.beq n n = true := Nat.beq_refl n
/-- n steps of f, from place i -/
def itr {α : Type} (f : Nat → α → α) : Nat → Nat → α → α
  | 0, _, a => a
  | n + 1, i, a => itr f n (i + 1) (f i a)
theorem itr_eq {α : Type} {f g : Nat → α → α} : ∀ {n i : Nat} {a : α}, (∀ k a, i ≤ k → k < i + n → f k a = g k a) → itr f n i a = itr g n i a
  | 0, _, _, _ => rfl
  | n + 1, i, a, h => by
    show itr f n (i + 1) (f i a) = itr g n (i + 1) (g i a)
    rw [h i a (by omega) (by omega)]
    exact itr_eq fun k a h1 h2 => h k a (by omega) (by omega)
theorem itr_add {α : Type} {f : Nat → α → α} : ∀ {m n i : Nat} {a : α}, itr f (m + n) i a = itr f n (i + m) (itr f m i a)
  | 0, _, _, _ => by rw [Nat.zero_add]; rfl
  | m + 1, n, i, a => by
    rw [show m + 1 + n = (m + n) + 1 by omega]
    show itr f (m + n) (i + 1) (f i a) = itr f n (i + (m + 1)) (itr f m (i + 1) (f i a))
    rw [itr_add, show i + 1 + m = i + (m + 1) by omega]
theorem itr_S {α : Type} {f : Nat → α → α} {n i : Nat} {a : α} : itr f (n + 1) i a = f (i + n) (itr f n i a) := by
  rw [itr_add]; rfl
/-- what holds along the steps -/
theorem itr_P {α : Type} {f : Nat → α → α} (P : Nat → α → Prop) : ∀ {n i : Nat} {a : α}, P i a → (∀ k a, i ≤ k → k < i + n → P k a → P (k + 1) (f k a)) → P (i + n) (itr f n i a)
  | 0, _, _, h, _ => h
  | n + 1, i, a, h, hs => by
    have := itr_P (f := f) P (n := n) (i := i + 1) (a := f i a) (hs i a (by omega) (by omega) h) (fun k a h1 h2 => hs k a (by omega) (by omega))
    rwa [show i + 1 + n = i + (n + 1) by omega] at this
/-! bits -/
def tb (x : Int32) (k : Nat) : Bool := x.toBitVec.getLsbD k
theorem tb_ext {x y : Int32} (h : ∀ k, k < 32 → tb x k = tb y k) : x = y := Int32.toBitVec_inj.mp (BitVec.eq_of_getLsbD_eq fun k hk => h k hk)
theorem tb_or (x y : Int32) (k : Nat) : tb (x ||| y) k = (tb x k || tb y k) := by
  unfold tb; rw [Int32.toBitVec_or, BitVec.getLsbD_or]
theorem tb_and (x y : Int32) (k : Nat) : tb (x &&& y) k = (tb x k && tb y k) := by
  unfold tb; rw [Int32.toBitVec_and, BitVec.getLsbD_and]
theorem tb_xor (x y : Int32) (k : Nat) : tb (x ^^^ y) k = (tb x k ^^ tb y k) := by
  unfold tb; rw [Int32.toBitVec_xor, BitVec.getLsbD_xor]
theorem tb_nI {n k : Nat} (h : n < 2 ^ 32) : tb (nI n) k = n.testBit k := by
  unfold tb
  rw [← BitVec.testBit_toNat, pk_tn h]
theorem tb_m1 {k : Nat} (h : k < 32) : tb m1 k = true := by
  have : ∀ k, k < 32 → tb m1 k = true := by decide
  exact this k h
theorem tb_hi {x : Int32} {k : Nat} (h : 32 ≤ k) : tb x k = false := BitVec.getLsbD_of_ge _ _ h
theorem tb_0 {k : Nat} : tb (nI 0) k = false := by
  rw [tb_nI (by decide)]; exact Nat.zero_testBit k
theorem sm32 : ∀ k, k < 32 → ((nI k &&& nI 31).toBitVec.smod 32).toNat = k := by decide
theorem sm32u : ∀ k, k < 32 → (((nI k).toUInt32 &&& Int32.toUInt32 31).toBitVec % 32).toNat = k := by decide
def bit (k : Nat) : Int32 := nI 1 <<< (nI k &&& nI 31)
theorem bit_e (k : Nat) : nI 1 <<< (nI k &&& nI 31) = bit k := (rfl)
theorem bit_n : ∀ k, k < 31 → bit k = nI (2 ^ k) := fun k hk => by
  unfold bit
  rw [pk_shlN _ k (sm32 k (by omega)) (by rw [Nat.one_mul]; exact Nat.pow_lt_pow_right (by decide) (by omega)), Nat.one_mul]
theorem tb_bit {j k : Nat} (hj : j < 32) : tb (bit j) k = decide (j = k) := by
  have h := pk_shl (nI 1) (nI j &&& nI 31) j (sm32 j hj)
  unfold tb
  rw [← BitVec.testBit_toNat]
  unfold bit
  rw [h, pk_tn (by decide), Nat.one_mul, Nat.mod_eq_of_lt (Nat.pow_lt_pow_right (by decide) hj), Nat.testBit_two_pow]
theorem and_1 (x : Int32) : x &&& nI 1 = if tb x 0 then nI 1 else nI 0 := by
  refine tb_ext fun k hk => ?_
  rw [tb_and, tb_nI (by decide)]
  cases k with
  | zero =>
    cases h : tb x 0
    · rw [Bool.false_and, if_neg (by simp), tb_0]
    · rw [Bool.true_and, if_pos rfl, tb_nI (by decide)]
  | succ k =>
    have e : Nat.testBit 1 (k + 1) = false := by
      rw [Nat.testBit_succ]; exact Nat.zero_testBit k
    rw [e, Bool.and_false]
    split
    · rw [tb_nI (by decide), e]
    · rw [tb_0]
theorem sh_bit {x : Int32} {k : Nat} (hk : k < 32) : (x >>> (nI k &&& nI 31)) &&& nI 1 = if tb x k then nI 1 else nI 0 := by
  rw [and_1]
  have : tb (x >>> (nI k &&& nI 31)) 0 = tb x k := by
    unfold tb
    rw [Int32.toBitVec_shiftRight, BitVec.sshiftRight_eq', sm32 k hk, BitVec.getLsbD_sshiftRight]
    simp only [Nat.add_zero, hk, if_true]
    rfl
  rw [this]
/-- whether a bit is set, as 1 and 0 -/
theorem if_10 {b : Bool} : ((if b = true then nI 1 else nI 0) = nI 0) ↔ b = false := by
  cases b <;> simp <;> decide
theorem if_11 {b : Bool} : ((if b = true then nI 1 else nI 0) = nI 1) ↔ b = true := by
  cases b <;> simp <;> decide
/-- the bits of places from i on, n of them, at which p holds -/
theorem itr_or {p : Nat → Bool} {n i : Nat} {a : Int32} {j : Nat} (h : i + n ≤ 32) : tb (itr (fun k x => if p k then x ||| bit k else x) n i a) j = (tb a j || (decide (i ≤ j ∧ j < i + n) && p j)) := by
  induction n generalizing i a with
  | zero =>
    show tb a j = _
    rw [decide_eq_false (by omega), Bool.false_and, Bool.or_false]
  | succ n ih =>
    show tb (itr _ n (i + 1) (if p i then a ||| bit i else a)) j = _
    rw [ih (by omega)]
    by_cases e : i = j
    · subst e
      rw [decide_eq_false (by omega), Bool.false_and, Bool.or_false, decide_eq_true (by omega), Bool.true_and]
      cases hp : p i
      · simp
      · simp [tb_or, tb_bit (show i < 32 by omega)]
    · have : tb (if p i then a ||| bit i else a) j = tb a j := by
        split
        · rw [tb_or, tb_bit (by omega), decide_eq_false e, Bool.or_false]
        · rfl
      rw [this]
      congr 2
      exact decide_eq_decide.mpr (by omega)
