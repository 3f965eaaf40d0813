/-! Integer.bitCount counts: of sets of up to twenty places -/
section
theorem nI_and {a b : Nat} (ha : a < 2 ^ 32) (hb : b < 2 ^ 32) : nI a &&& nI b = nI (a &&& b) := tb_ext fun k _ => by
  rw [tb_and, tb_nI ha, tb_nI hb, tb_nI (Nat.lt_of_le_of_lt Nat.and_le_left ha), Nat.testBit_and]
theorem and_f {x0 x1 m0 m1 : Nat} (h0 : x0 < 256) (hm : m0 < 256) : (x0 + 256 * x1) &&& (m0 + 256 * m1) = (x0 &&& m0) + 256 * (x1 &&& m1) := by
  have e1 : ((x0 + 256 * x1) &&& (m0 + 256 * m1)) % 2 ^ 8 = x0 &&& m0 := by
    rw [Nat.and_mod_two_pow, show (x0 + 256 * x1) % 2 ^ 8 = x0 by omega, show (m0 + 256 * m1) % 2 ^ 8 = m0 by omega]
  have e2 : ((x0 + 256 * x1) &&& (m0 + 256 * m1)) / 2 ^ 8 = x1 &&& m1 := by
    rw [Nat.and_div_two_pow, show (x0 + 256 * x1) / 2 ^ 8 = x1 by omega, show (m0 + 256 * m1) / 2 ^ 8 = m1 by omega]
  omega
theorem and_3 {x0 x1 x2 m : Nat} (h0 : x0 < 256) (h1 : x1 < 256) (hm : m < 256) {M : Nat} (hM : M = m + 256 * (m + 256 * (m + 256 * m))) (h2 : x2 < 256) : (x0 + 256 * (x1 + 256 * x2)) &&& M = (x0 &&& m) + 256 * ((x1 &&& m) + 256 * (x2 &&& m)) := by
  rw [hM, and_f h0 hm, and_f h1 hm]
  have e := and_f (x0 := x2) (x1 := 0) (m0 := m) (m1 := m) h2 hm
  rw [Nat.zero_and, Nat.mul_zero, Nat.add_zero, Nat.add_zero] at e
  rw [e]
def bA (b : Nat) : Nat := b - ((b / 2) &&& 85)
def bB (b : Nat) : Nat := (bA b &&& 51) + ((bA b / 4) &&& 51)
def bP (b : Nat) : Nat := (bB b + bB b / 16) &&& 15
theorem bA_ok : ∀ b, b < 256 → ∀ t, t < 2 → (b / 2 + 128 * t) &&& 85 = (b / 2) &&& 85 ∧ (b / 2) &&& 85 ≤ b := by decide +kernel
theorem bB_ok : ∀ b, b < 256 → ∀ t, t < 4 → (bA b / 4 + 64 * t) &&& 51 = (bA b / 4) &&& 51 ∧ bA b < 256 := by decide +kernel
theorem bP_ok : ∀ b, b < 256 → ∀ t, t < 5 → (bB b + bB b / 16 + 16 * t) &&& 15 = bP b ∧ bB b % 16 ≤ 4 ∧ bB b ≤ 68 ∧ bP b ≤ 8 := by decide +kernel
theorem bP_cnt : ∀ b, b < 256 → bP b = cnt (fun k => b.testBit k) 8 := by decide +kernel
theorem bc_s1 {b0 b1 b2 : Nat} (h0 : b0 < 256) (h1 : b1 < 256) (h2 : b2 < 256) : (b0 + 256 * (b1 + 256 * b2)) - (((b0 + 256 * (b1 + 256 * b2)) / 2) &&& 1431655765) = bA b0 + 256 * (bA b1 + 256 * bA b2) := by
  rw [show (b0 + 256 * (b1 + 256 * b2)) / 2 = (b0 / 2 + 128 * (b1 % 2)) + 256 * ((b1 / 2 + 128 * (b2 % 2)) + 256 * (b2 / 2)) by omega, and_3 (m := 85) (by omega) (by omega) (by decide) (by decide) (by omega)]
  obtain ⟨e0, l0⟩ := bA_ok b0 h0 (b1 % 2) (by omega)
  obtain ⟨e1, l1⟩ := bA_ok b1 h1 (b2 % 2) (by omega)
  obtain ⟨_, l2⟩ := bA_ok b2 h2 0 (by omega)
  rw [e0, e1]
  unfold bA
  omega
theorem bc_s2 {b0 b1 b2 : Nat} (h0 : b0 < 256) (h1 : b1 < 256) (h2 : b2 < 256) : ((bA b0 + 256 * (bA b1 + 256 * bA b2)) &&& 858993459) + (((bA b0 + 256 * (bA b1 + 256 * bA b2)) / 4) &&& 858993459) = bB b0 + 256 * (bB b1 + 256 * bB b2) := by
  obtain ⟨e0, l0⟩ := bB_ok b0 h0 (bA b1 % 4) (by omega)
  obtain ⟨e1, l1⟩ := bB_ok b1 h1 (bA b2 % 4) (by omega)
  obtain ⟨_, l2⟩ := bB_ok b2 h2 0 (by omega)
  rw [and_3 (m := 51) l0 l1 (by decide) (by decide) l2, show (bA b0 + 256 * (bA b1 + 256 * bA b2)) / 4 = (bA b0 / 4 + 64 * (bA b1 % 4)) + 256 * ((bA b1 / 4 + 64 * (bA b2 % 4)) + 256 * (bA b2 / 4)) by omega, and_3 (m := 51) (by omega) (by omega) (by decide) (by decide) (by omega), e0, e1]
  unfold bB
  omega
theorem bc_s3 {b0 b1 b2 : Nat} (h0 : b0 < 256) (h1 : b1 < 256) (h2 : b2 < 256) : ((bB b0 + 256 * (bB b1 + 256 * bB b2)) + (bB b0 + 256 * (bB b1 + 256 * bB b2)) / 16) &&& 252645135 = bP b0 + 256 * (bP b1 + 256 * bP b2) := by
  obtain ⟨_, k0, l0, _⟩ := bP_ok b0 h0 0 (by omega)
  obtain ⟨_, k1, l1, _⟩ := bP_ok b1 h1 0 (by omega)
  obtain ⟨e2, k2, l2, _⟩ := bP_ok b2 h2 0 (by omega)
  obtain ⟨e0, _⟩ := bP_ok b0 h0 (bB b1 % 16) (by omega)
  obtain ⟨e1, _⟩ := bP_ok b1 h1 (bB b2 % 16) (by omega)
  rw [Nat.mul_zero, Nat.add_zero] at e2
  rw [show (bB b0 + 256 * (bB b1 + 256 * bB b2)) + (bB b0 + 256 * (bB b1 + 256 * bB b2)) / 16 = (bB b0 + bB b0 / 16 + 16 * (bB b1 % 16)) + 256 * ((bB b1 + bB b1 / 16 + 16 * (bB b2 % 16)) + 256 * (bB b2 + bB b2 / 16)) by omega, and_3 (m := 15) (by omega) (by omega) (by decide) (by decide) (by omega), e0, e1, e2]
theorem bc_s4 {p q r : Nat} (hp : p ≤ 8) (hq : q ≤ 8) (hr : r ≤ 8) : ((p + 256 * (q + 256 * r)) + (p + 256 * (q + 256 * r)) / 2 ^ 8 + ((p + 256 * (q + 256 * r)) + (p + 256 * (q + 256 * r)) / 2 ^ 8) / 2 ^ 16) % 2 ^ 6 = p + q + r := by
  have e1 : (p + 256 * (q + 256 * r)) / 2 ^ 8 = q + 256 * r := by omega
  rw [e1]
  have e2 : (p + 256 * (q + 256 * r) + (q + 256 * r)) / 2 ^ 16 = r := by omega
  rw [e2]
  omega
def iA (x : Int32) : Int32 := x - ((((x).toUInt32 >>> ((1 : Int32).toUInt32 &&& Int32.toUInt32 31)).toInt32) &&& 1431655765)
def iB (x : Int32) : Int32 := (x &&& 858993459) + ((((x).toUInt32 >>> ((2 : Int32).toUInt32 &&& Int32.toUInt32 31)).toInt32) &&& 858993459)
def iC (x : Int32) : Int32 := (x + (((x).toUInt32 >>> ((4 : Int32).toUInt32 &&& Int32.toUInt32 31)).toInt32)) &&& 252645135
def iD (x : Int32) : Int32 := x + (((x).toUInt32 >>> ((8 : Int32).toUInt32 &&& Int32.toUInt32 31)).toInt32)
def iE (x : Int32) : Int32 := x + (((x).toUInt32 >>> ((16 : Int32).toUInt32 &&& Int32.toUInt32 31)).toInt32)
theorem bcF_i (x : Int32) : bcF x = iE (iD (iC (iB (iA x)))) &&& 63 := rfl
theorem bcF_b {b0 b1 b2 : Nat} (h0 : b0 < 256) (h1 : b1 < 256) (h2 : b2 < 256) : bcF (nI (b0 + 256 * (b1 + 256 * b2))) = nI (bP b0 + bP b1 + bP b2) := by
  obtain ⟨_, a0⟩ := bB_ok b0 h0 0 (by omega)
  obtain ⟨_, a1⟩ := bB_ok b1 h1 0 (by omega)
  obtain ⟨_, a2⟩ := bB_ok b2 h2 0 (by omega)
  obtain ⟨_, _, l0, p0⟩ := bP_ok b0 h0 0 (by omega)
  obtain ⟨_, _, l1, p1⟩ := bP_ok b1 h1 0 (by omega)
  obtain ⟨_, _, l2, p2⟩ := bP_ok b2 h2 0 (by omega)
  have s1 := bc_s1 h0 h1 h2
  have s2 := bc_s2 h0 h1 h2
  have s3 := bc_s3 h0 h1 h2
  have eA : iA (nI (b0 + 256 * (b1 + 256 * b2))) = nI (bA b0 + 256 * (bA b1 + 256 * bA b2)) := by
    unfold iA
    rw [pk_ushrN (by omega) 1 1 (by decide), show (1431655765 : Int32) = nI 1431655765 from rfl, nI_and (by omega) (by decide), pk_sub (Nat.le_trans Nat.and_le_left (by omega)), Nat.pow_one, s1]
  have eB : iB (nI (bA b0 + 256 * (bA b1 + 256 * bA b2))) = nI (bB b0 + 256 * (bB b1 + 256 * bB b2)) := by
    unfold iB
    rw [pk_ushrN (by omega) 2 2 (by decide), show (858993459 : Int32) = nI 858993459 from rfl, nI_and (by omega) (by decide), nI_and (by omega) (by decide), nI_add, show (2 : Nat) ^ 2 = 4 from rfl, s2]
  have eC : iC (nI (bB b0 + 256 * (bB b1 + 256 * bB b2))) = nI (bP b0 + 256 * (bP b1 + 256 * bP b2)) := by
    unfold iC
    rw [pk_ushrN (by omega) 4 4 (by decide), show (252645135 : Int32) = nI 252645135 from rfl, nI_add, nI_and (by omega) (by decide), show (2 : Nat) ^ 4 = 16 from rfl, s3]
  rw [bcF_i, eA, eB, eC]
  unfold iD iE
  rw [pk_ushrN (by omega) 8 8 (by decide), nI_add, pk_ushrN (by omega) 16 16 (by decide), nI_add, pk_andN (by omega) 6 (by decide)]
  exact congrArg nI (bc_s4 p0 p1 p2)
theorem cnt_add (p : Nat → Bool) (a : Nat) : ∀ b, cnt p (a + b) = cnt p a + cnt (fun k => p (a + k)) b
  | 0 => rfl
  | b + 1 => by
    show cnt p (a + b) + (if p (a + b) = true then 1 else 0) = cnt p a + (cnt (fun k => p (a + k)) b + (if p (a + b) = true then 1 else 0))
    rw [cnt_add p a b, Nat.add_assoc]
theorem cnt_congr {p q : Nat → Bool} : ∀ n, (∀ k, k < n → p k = q k) → cnt p n = cnt q n
  | 0, _ => rfl
  | n + 1, h => by
    show cnt p n + _ = cnt q n + _
    rw [cnt_congr n (fun k hk => h k (by omega)), h n (by omega)]
theorem cnt_f {p : Nat → Bool} : ∀ n, (∀ k, k < n → p k = false) → cnt p n = 0
  | 0, _ => rfl
  | n + 1, h => by
    show cnt p n + (if p n = true then 1 else 0) = 0
    rw [cnt_f n (fun k hk => h k (by omega)), h n (by omega)]
    rfl
/-- what bitCount says of a set of up to twenty places -/
theorem bcF_n {x : Int32} (h : ∀ k, 20 ≤ k → tb x k = false) : bcF x = nI (cnt (fun k => tb x k) 20) := by
  have hx : x = nI x.toBitVec.toNat := by
    refine Int32.toBitVec_inj.mp (BitVec.eq_of_toNat_eq ?_)
    rw [pk_tn x.toBitVec.isLt]
  have hlt : x.toBitVec.toNat < 2 ^ 20 := Nat.lt_pow_two_of_testBit _ fun i hi => by
    have := h i hi
    unfold tb at this
    rw [← BitVec.testBit_toNat] at this
    exact this
  generalize hn : x.toBitVec.toNat = n at hx hlt
  have hb : n = n % 256 + 256 * (n / 256 % 256 + 256 * (n / 65536)) := by omega
  have e0 := bcF_b (b0 := n % 256) (b1 := n / 256 % 256) (b2 := n / 65536) (by omega) (by omega) (by omega)
  rw [← hb] at e0
  have tn : ∀ k, tb x k = n.testBit k := fun k => by rw [hx, tb_nI (by omega)]
  have c24 : cnt (fun k => tb x k) 24 = cnt (fun k => tb x k) 20 := by
    rw [show 24 = 20 + 4 from rfl, cnt_add, cnt_f 4 (fun k _ => h (20 + k) (by omega)), Nat.add_zero]
  have t0 : cnt (fun k => (n % 256).testBit k) 8 = cnt (fun k => tb x k) 8 := cnt_congr 8 fun k hk => by
    rw [tn, show 256 = 2 ^ 8 from rfl, Nat.testBit_mod_two_pow, decide_eq_true hk, Bool.true_and]
  have t1 : cnt (fun k => (n / 256 % 256).testBit k) 8 = cnt (fun k => tb x (8 + k)) 8 := cnt_congr 8 fun k hk => by
    rw [tn, show 256 = 2 ^ 8 from rfl, Nat.testBit_mod_two_pow, decide_eq_true hk, Bool.true_and, Nat.testBit_div_two_pow, Nat.add_comm]
  have t2 : cnt (fun k => (n / 65536).testBit k) 8 = cnt (fun k => tb x (16 + k)) 8 := cnt_congr 8 fun k hk => by
    rw [tn, show 65536 = 2 ^ 16 from rfl, Nat.testBit_div_two_pow, Nat.add_comm]
  rw [← c24, show 24 = (8 + 8) + 8 from rfl, cnt_add, cnt_add, ← t0, ← t1, ← t2, ← bP_cnt _ (by omega), ← bP_cnt _ (by omega), ← bP_cnt _ (by omega), ← e0, ← hx]
theorem cnt_1 {p : Nat → Bool} : ∀ n, cnt p n = 1 → ∃ k : Nat, k < n ∧ p k = true ∧ ∀ j, j < n → p j = true → j = k
  | 0, h => absurd (show 0 = 1 from h) (by decide)
  | n + 1, h => by
    have h' : cnt p n + (if p n = true then 1 else 0) = 1 := h
    by_cases e : p n = true
    · rw [if_pos e] at h'
      refine ⟨n, by omega, e, fun j hj hp => ?_⟩
      by_cases hjn : j = n
      · exact hjn
      · exfalso
        have : ∀ m, m ≤ n → j < m → 0 < cnt p m := by
          intro m
          induction m with
          | zero => intro _ z; omega
          | succ m ih =>
            intro hm hj
            show 0 < cnt p m + (if p m = true then 1 else 0)
            by_cases hjm : j = m
            · rw [← hjm, if_pos hp]; omega
            · have := ih (by omega) (by omega); omega
        have := this n (Nat.le_refl _) (by omega)
        omega
    · rw [if_neg e] at h'
      obtain ⟨k, hk, hp, hu⟩ := cnt_1 n (by omega)
      refine ⟨k, by omega, hp, fun j hj hpj => ?_⟩
      by_cases hjn : j = n
      · exact absurd (hjn ▸ hpj) e
      · exact hu j (by omega) hpj
/-- one place alone: which it is -/
theorem bcF_1 {x : Int32} (h : ∀ k, 20 ≤ k → tb x k = false) (h1 : bcF x = nI 1) : ∃ k : Nat, k < 20 ∧ x = bit k := by
  rw [bcF_n h] at h1
  have hle := cnt_le (fun k => tb x k) 20
  have e : cnt (fun k => tb x k) 20 = 1 := by
    rw [nI_eq (by omega) (by omega)] at h1
    exact h1
  obtain ⟨k, hk, hp, hu⟩ := cnt_1 20 e
  refine ⟨k, hk, tb_ext fun j _ => ?_⟩
  rw [tb_bit (by omega)]
  by_cases hj : j = k
  · rw [hj, decide_eq_true rfl]; exact hp
  · rw [decide_eq_false (fun z => hj z.symm)]
    by_cases hj20 : j < 20
    · cases e2 : tb x j
      · rfl
      · exact absurd (hu j hj20 e2) hj
    · exact h j (by omega)
theorem bcF_p : ∀ k, k < 20 → bcF (bit k - nI 1) = nI k := by decide +kernel
end
