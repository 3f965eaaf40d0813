/-! SOUNDNESS of one instruction -/
theorem ldI_inv {k : Cont} {np : Nat} {loc stk : List Value} {s : Mem} {n : Nat} (h : ldI k np loc stk s n) : ∃ x, lget loc n = .int x ∧ k np loc (.int x :: stk) s := by
  unfold ldI at h; split at h
  · next x hx => exact ⟨x, hx, h⟩
  · exact h.elim
theorem ldL_inv {k : Cont} {np : Nat} {loc stk : List Value} {s : Mem} {n : Nat} (h : ldL k np loc stk s n) : ∃ x, lget loc n = .long x ∧ k np loc (.long x :: stk) s := by
  unfold ldL at h; split at h
  · next x hx => exact ⟨x, hx, h⟩
  · exact h.elim
theorem ldA_inv {k : Cont} {np : Nat} {loc stk : List Value} {s : Mem} {n : Nat} (h : ldA k np loc stk s n) : (∃ x, lget loc n = .ref x ∧ k np loc (.ref x :: stk) s) ∨ (lget loc n = .null ∧ k np loc (.null :: stk) s) := by
  unfold ldA at h; split at h
  · next x hx => exact Or.inl ⟨x, hx, h⟩
  · next hx => exact Or.inr ⟨hx, h⟩
  · exact h.elim
theorem stI_inv {k : Cont} {np : Nat} {loc stk : List Value} {s : Mem} {n : Nat} (h : stI k np loc stk s n) : ∃ x r, stk = .int x :: r ∧ k np (lst1F loc n (.int x)) r s := by
  unfold stI at h; split at h
  · next x r => rw [lst1K_F] at h; exact ⟨x, r, rfl, h⟩
  · exact h.elim
theorem stL_inv {k : Cont} {np : Nat} {loc stk : List Value} {s : Mem} {n : Nat} (h : stL k np loc stk s n) : ∃ x r, stk = .long x :: r ∧ k np (lsetF (lst1F loc n (.long x)) (n + 1) uV) r s := by
  unfold stL at h; split at h
  · next x r => rw [lst2K_F] at h; exact ⟨x, r, rfl, h⟩
  · exact h.elim
theorem stA_inv {k : Cont} {np : Nat} {loc stk : List Value} {s : Mem} {n : Nat} (h : stA k np loc stk s n) : (∃ x r, stk = .ref x :: r ∧ k np (lst1F loc n (.ref x)) r s) ∨ (∃ r, stk = .null :: r ∧ k np (lst1F loc n .null) r s) := by
  unfold stA at h; split at h
  · next x r => rw [lst1K_F] at h; exact Or.inl ⟨x, r, rfl, h⟩
  · next r => rw [lst1K_F] at h; exact Or.inr ⟨r, rfl, h⟩
  · exact h.elim
theorem ii_inv {k : Cont} {np : Nat} {loc stk : List Value} {s : Mem} {f : Int32 → Int32 → Int32} (h : ii k np loc stk s f) : ∃ x y r, stk = .int y :: .int x :: r ∧ k np loc (.int (f x y) :: r) s := by
  unfold ii at h; split at h
  · next y x r => exact ⟨x, y, r, rfl, h⟩
  · exact h.elim
theorem ll_inv {k : Cont} {np : Nat} {loc stk : List Value} {s : Mem} {f : Int64 → Int64 → Int64} (h : ll k np loc stk s f) : ∃ x y r, stk = .long y :: .long x :: r ∧ k np loc (.long (f x y) :: r) s := by
  unfold ll at h; split at h
  · next y x r => exact ⟨x, y, r, rfl, h⟩
  · exact h.elim
theorem bif_inv {b : Bool} {P : Prop} (h : bif b then P else False) : b = true ∧ P := by
  cases b
  · exact h.elim
  · exact ⟨rfl, h⟩
theorem bif_inv2 {b : Bool} {P P' : Prop} (h : bif b then P else P') : (b = true ∧ P) ∨ (b = false ∧ P') := by
  cases b
  · exact Or.inr ⟨rfl, h⟩
  · exact Or.inl ⟨rfl, h⟩
theorem ite_inv {c : Prop} [Decidable c] {P : Prop} (h : if c then P else False) : c ∧ P := by
  by_cases hc : c
  · rw [if_pos hc] at h; exact ⟨hc, h⟩
  · rw [if_neg hc] at h; exact h.elim
theorem iteN_inv {c : Prop} [Decidable c] {P : Prop} (h : if c then False else P) : ¬ c ∧ P := by
  by_cases hc : c
  · rw [if_pos hc] at h; exact h.elim
  · rw [if_neg hc] at h; exact ⟨hc, h⟩
def fvOk (s : Mem) (a j fk off : Nat) (v : Value) : Prop :=
  match fk with
  | 0 => v = .int (s a j)
  | 1 => v = .int (s a j)
  | 2 => v = if s a j = 0 then .null else .ref ((s a j).toNatClampNeg - 1)
  | _ => v = .ref (a + off)
theorem getF_inv {k : Cont} {np : Nat} {loc stk : List Value} {s : Mem} {e : Option (Nat × Nat × Nat × Nat)} (h : getF k np loc stk s e) : ∃ (ci j fk off a : Nat) (r : List Value) (v : Value), e = some (ci, j, fk, off) ∧ stk = .ref a :: r ∧ (shp a).1 = ci ∧ k np loc (v :: r) s ∧ fvOk s a j fk off v := by
  unfold getF at h
  split at h
  · exact h.elim
  · next ci j fk off =>
    split at h
    · next a r =>
      obtain ⟨h1, h2⟩ := bif_inv h
      have h1 := Nat.eq_of_beq_eq_true h1
      split at h2
      · exact ⟨_, _, _, _, a, r, _, rfl, rfl, h1, h2, rfl⟩
      · exact ⟨_, _, _, _, a, r, _, rfl, rfl, h1, h2, rfl⟩
      · by_cases hz : s a j = 0
        · rw [if_pos hz] at h2
          exact ⟨_, _, _, _, a, r, _, rfl, rfl, h1, h2, by simp [fvOk, hz]⟩
        · rw [if_neg hz] at h2
          exact ⟨_, _, _, _, a, r, _, rfl, rfl, h1, h2, by simp [fvOk, hz]⟩
      · next n1 n2 n3 =>
        refine ⟨_, _, _, _, a, r, _, rfl, rfl, h1, h2, ?_⟩
        unfold fvOk
        split
        · exact (n1 (by first | rfl | assumption)).elim
        · exact (n2 (by first | rfl | assumption)).elim
        · exact (n3 (by first | rfl | assumption)).elim
        · rfl
    · exact h.elim
theorem sl_fv {ad : Nat → Nat} {s : Mem} {ci a j fk off : Nat} {v : Value} (hf : fkd ci j = (fk, off)) (h : fvOk s a j fk off v) : slV ad s ci a j = tvV ad v := by
  unfold fvOk at h
  unfold slV
  rw [hf]
  split at h
  · rw [h]; rfl
  · rw [h]; rfl
  · rw [h]
    by_cases hz : s a j = 0
    · simp only [hz, if_true]; rfl
    · simp only [hz, if_false]; rfl
  · next n1 n2 n3 =>
    rw [h]
    split
    · exact (n1 (by first | rfl | assumption)).elim
    · exact (n2 (by first | rfl | assumption)).elim
    · exact (n3 (by first | rfl | assumption)).elim
    · rfl
/-- what a store writes, and the memory behind it -/
def pvOk (s s' : Mem) (a j fk : Nat) (v : Value) : Prop :=
  match fk with
  | 0 => ∃ x, v = .int x ∧ s' = upM s a j x
  | 1 => ∃ x, v = .int x ∧ x &&& 1 = x ∧ s' = upM s a j x
  | 2 => ∃ q : Nat, v = .ref q ∧ q < 2000 ∧ s' = upM s a j (Int32.ofNat (q + 1))
  | _ => False
theorem putF_inv {k : Cont} {np : Nat} {loc stk : List Value} {s : Mem} {e : Option (Nat × Nat × Nat × Nat)} (h : putF k np loc stk s e) : ∃ (ci j fk off a : Nat) (r : List Value) (v : Value) (s' : Mem), e = some (ci, j, fk, off) ∧ stk = v :: .ref a :: r ∧ (shp a).1 = ci ∧ k np loc r s' ∧ pvOk s s' a j fk v := by
  unfold putF at h
  split at h
  · exact h.elim
  · next ci j fk off =>
    split at h
    · split at h
      · next x a r =>
        obtain ⟨h1, h2⟩ := bif_inv h
        exact ⟨_, _, _, _, a, r, _, _, rfl, rfl, Nat.eq_of_beq_eq_true h1, h2, x, rfl, rfl⟩
      · exact h.elim
    · split at h
      · next x a r =>
        obtain ⟨h1, h2⟩ := bif_inv h
        obtain ⟨h2, h3⟩ := ite_inv h2
        exact ⟨_, _, _, _, a, r, _, _, rfl, rfl, Nat.eq_of_beq_eq_true h1, h3, x, rfl, h2, rfl⟩
      · exact h.elim
    · split at h
      · next q a r =>
        obtain ⟨h1, h2⟩ := bif_inv h
        obtain ⟨h2, h3⟩ := ite_inv h2
        exact ⟨_, _, _, _, a, r, _, _, rfl, rfl, Nat.eq_of_beq_eq_true h1, h3, q, rfl, h2, rfl⟩
      · exact h.elim
    · exact h.elim
theorem arL_inv {k : Cont} {np : Nat} {loc stk : List Value} {s : Mem} {kd : Nat} (h : arL k np loc stk s kd) : ∃ (i : Int32) (a : Nat) (r : List Value), stk = .int i :: .ref a :: r ∧ (shp a).1 = kd ∧ vp_in i (shp a).2 ∧ k np loc (.int (s a i.toNatClampNeg) :: r) s := by
  unfold arL at h; split at h
  · next i a r =>
    obtain ⟨h1, h2⟩ := bif_inv h
    obtain ⟨h2, h3⟩ := iteN_inv h2
    exact ⟨i, a, r, rfl, Nat.eq_of_beq_eq_true h1, h2, h3⟩
  · exact h.elim
theorem arB_inv {k : Cont} {np : Nat} {loc stk : List Value} {s : Mem} (h : arB k np loc stk s) : ∃ (i : Int32) (a : Nat) (r : List Value), stk = .int i :: .ref a :: r ∧ ((shp a).1 = 21 ∨ (shp a).1 = 22) ∧ vp_in i (shp a).2 ∧ k np loc (.int (s a i.toNatClampNeg) :: r) s := by
  unfold arB at h; split at h
  · next i a r =>
    obtain ⟨h1, h2⟩ := bif_inv h
    obtain ⟨h2, h3⟩ := iteN_inv h2
    refine ⟨i, a, r, rfl, ?_, h2, h3⟩
    rw [Bool.or_eq_true] at h1
    exact h1.imp Nat.eq_of_beq_eq_true Nat.eq_of_beq_eq_true
  · exact h.elim
theorem asI_inv {k : Cont} {np : Nat} {loc stk : List Value} {s : Mem} (h : asI k np loc stk s) : ∃ (x i : Int32) (a : Nat) (r : List Value), stk = .int x :: .int i :: .ref a :: r ∧ (shp a).1 = 20 ∧ a ≤ 999 ∧ vp_in i (shp a).2 ∧ k np loc r (upM s a i.toNatClampNeg x) := by
  unfold asI at h; split at h
  · next x i a r =>
    obtain ⟨h1, h2⟩ := bif_inv h
    obtain ⟨h2, h3⟩ := iteN_inv h2
    rw [Bool.and_eq_true] at h1
    exact ⟨x, i, a, r, rfl, Nat.eq_of_beq_eq_true h1.1, Nat.le_of_ble_eq_true h1.2, h2, h3⟩
  · exact h.elim
theorem asB_inv {k : Cont} {np : Nat} {loc stk : List Value} {s : Mem} (h : asB k np loc stk s) : ∃ (x i : Int32) (a : Nat) (r : List Value), stk = .int x :: .int i :: .ref a :: r ∧ vp_in i (shp a).2 ∧ (((shp a).1 = 21 ∧ k np loc r (upM s a i.toNatClampNeg x.toInt8.toInt32)) ∨ ((shp a).1 = 22 ∧ k np loc r (upM s a i.toNatClampNeg (x &&& 1)))) := by
  unfold asB at h; split at h
  · next x i a r =>
    rcases bif_inv2 h with ⟨h1, h2⟩ | ⟨-, h⟩
    · obtain ⟨h2, h3⟩ := iteN_inv h2
      exact ⟨x, i, a, r, rfl, h2, Or.inl ⟨Nat.eq_of_beq_eq_true h1, h3⟩⟩
    · obtain ⟨h1, h2⟩ := bif_inv h
      obtain ⟨h2, h3⟩ := iteN_inv h2
      exact ⟨x, i, a, r, rfl, h2, Or.inr ⟨Nat.eq_of_beq_eq_true h1, h3⟩⟩
  · exact h.elim
theorem arN_inv {k : Cont} {np : Nat} {loc stk : List Value} {s : Mem} (h : arN k np loc stk s) : ∃ (a : Nat) (r : List Value), stk = .ref a :: r ∧ 20 ≤ (shp a).1 ∧ (shp a).1 ≤ 24 ∧ k np loc (.int (Int32.ofNat (shp a).2) :: r) s := by
  unfold arN at h; split at h
  · next a r =>
    obtain ⟨h1, h2⟩ := bif_inv h
    rw [Bool.and_eq_true] at h1
    exact ⟨a, r, rfl, Nat.le_of_ble_eq_true h1.1, Nat.le_of_ble_eq_true h1.2, h2⟩
  · exact h.elim
theorem scL_inv {k : Cont} {np : Nat} {loc stk : List Value} {s : Mem} (h : scL k np loc stk s) : ∃ i r, stk = .int i :: .ref 1000 :: r ∧ vp_in i (s 1008 0).toNatClampNeg ∧ k np loc (.int (s 1000 i.toNatClampNeg) :: r) s := by
  unfold scL at h; split at h
  · next i a r => obtain ⟨h0, h⟩ := bif_inv h; obtain rfl := Nat.eq_of_beq_eq_true h0; obtain ⟨h1, h2⟩ := iteN_inv h; exact ⟨i, r, rfl, h1, h2⟩
  · exact h.elim
theorem scN_inv {k : Cont} {np : Nat} {loc stk : List Value} {s : Mem} (h : scN k np loc stk s) : ∃ r, stk = .ref 1000 :: r ∧ ¬ s 1008 0 < 0 ∧ k np loc (.int (s 1008 0) :: r) s := by
  unfold scN at h; split at h
  · next a r => obtain ⟨h0, h⟩ := bif_inv h; obtain rfl := Nat.eq_of_beq_eq_true h0; obtain ⟨h1, h2⟩ := iteN_inv h; exact ⟨r, rfl, h1, h2⟩
  · exact h.elim
theorem cpyP_inv {k : Cont} {np : Nat} {loc stk : List Value} {s : Mem} (h : cpyP k np loc stk s) : ∃ (n dp : Int32) (dst : Nat) (sp : Int32) (src : Nat) (r : List Value), stk = .int n :: .int dp :: .ref dst :: .int sp :: .ref src :: r ∧ ((shp src).1 = 20 ∧ (shp dst).1 = 20 ∧ dst ≤ 999 ∧ src ≤ 999 ∧ catL r ≤ 8) ∧ ¬ sp < 0 ∧ ¬ dp < 0 ∧ ¬ n < 0 ∧ sp.toNatClampNeg + n.toNatClampNeg ≤ (shp src).2 ∧ dp.toNatClampNeg + n.toNatClampNeg ≤ (shp dst).2 ∧ k np loc r (cpM s src sp.toNatClampNeg dst dp.toNatClampNeg n.toNatClampNeg) := by
  unfold cpyP at h; split at h
  · next n dp dst sp src r =>
    obtain ⟨h1, h2⟩ := bif_inv h
    obtain ⟨h2, h3⟩ := ite_inv h2
    simp only [Bool.and_eq_true] at h1
    exact ⟨n, dp, dst, sp, src, r, rfl, ⟨Nat.eq_of_beq_eq_true h1.1.1.1.1, Nat.eq_of_beq_eq_true h1.1.1.1.2, Nat.le_of_ble_eq_true h1.1.1.2, Nat.le_of_ble_eq_true h1.1.2, Nat.le_of_ble_eq_true h1.2⟩, h2.1, h2.2.1, h2.2.2.1, h2.2.2.2.1, h2.2.2.2.2, h3⟩
  · exact h.elim
theorem takK_inv {k : List Value → List Value → Prop} : ∀ {n : Nat} {st a : List Value}, takK n st a k → ∃ as r, as.length = n ∧ st = as.reverse ++ r ∧ k (as ++ a) r
  | 0, st, a, h => ⟨[], st, rfl, rfl, h⟩
  | n + 1, [], a, h => h.elim
  | n + 1, v :: st, a, h => by
    obtain ⟨as, r, h1, h2, h3⟩ := takK_inv (n := n) (st := st) (a := v :: a) h
    refine ⟨as ++ [v], r, by simp [h1], by simp [h2], ?_⟩
    simpa using h3
theorem catL_sum (ad : Nat → Nat) : ∀ r : List Value, ((r.map (tvV ad)).map fun v => v.category).sum = catL r
  | [] => rfl
  | v :: r => by
    simp only [List.map_cons, List.sum_cons, tv_cat, catL]
    rw [catL_sum ad r]
/-! the classes of the cells, by their numbers -/
theorem cl10_at {ci : Nat} (h : ci < 10) : cl10[ci]? = some (cnm ci, fTT ci, nfF ci) := by
  match ci, h with
  | 0, _ => rfl
  | 1, _ => rfl
  | 2, _ => rfl
  | 3, _ => rfl
  | 4, _ => rfl
  | 5, _ => rfl
  | 6, _ => rfl
  | 7, _ => rfl
  | 8, _ => rfl
  | 9, _ => rfl
theorem fW_at {ci : Nat} (h : ci < 10) : ∀ w ∈ u_ws (cnm ci) (fTT ci) (nfF ci), w ∈ gT := by
  match ci, h with
  | 0, _ => exact fW0_m
  | 1, _ => exact fW1_m
  | 2, _ => exact fW2_m
  | 3, _ => exact fW3_m
  | 4, _ => exact fW4_m
  | 5, _ => exact fW5_m
  | 6, _ => exact fW6_m
  | 7, _ => exact fW7_m
  | 8, _ => exact fW8_m
  | 9, _ => exact fW9_m
theorem fN_at {ci : Nat} (h : ci < 10) : ∀ a, a < nfF ci → ∀ b, b < nfF ci → a ≠ b → (fTT ci a).2.1 ≠ (fTT ci b).2.1 := by
  match ci, h with
  | 0, _ => exact fN0
  | 1, _ => exact fN1
  | 2, _ => exact fN2
  | 3, _ => exact fN3
  | 4, _ => exact fN4
  | 5, _ => exact fN5
  | 6, _ => exact fN6
  | 7, _ => exact fN7
  | 8, _ => exact fN8
  | 9, _ => exact fN9
theorem fP_at {ci : Nat} (h : ci < 10) : ∀ k, k < nfF ci → parseFieldDescriptor (fTT ci k).2.2.1 = some (fYY ci k) := by
  match ci, h with
  | 0, _ => exact fP0
  | 1, _ => exact fP1
  | 2, _ => exact fP2
  | 3, _ => exact fP3
  | 4, _ => exact fP4
  | 5, _ => exact fP5
  | 6, _ => exact fP6
  | 7, _ => exact fP7
  | 8, _ => exact fP8
  | 9, _ => exact fP9
theorem shp_obj {k ci : Nat} (h : (shp k).1 = ci) (hc : ci < 10) : k < 88 ∧ (shp k).2 = nfF ci := by
  have := okSh_all k
  simp only [okSh, Bool.and_eq_true, Bool.or_eq_true, Bool.not_eq_true'] at this
  rw [h] at this
  have h1 := this.1
  have hb : Nat.blt ci 10 = true := Nat.ble_eq_true_of_le hc
  rw [hb] at h1
  simp only [Bool.true_eq_false, false_or] at h1
  exact ⟨Nat.le_of_ble_eq_true h1.1, Nat.eq_of_beq_eq_true h1.2⟩
theorem shp_arr {k : Nat} (h : 21 ≤ (shp k).1) (hc : (shp k).1 ≤ 24) : k < 88 := by
  have := okSh_all k
  simp only [okSh, Bool.and_eq_true, Bool.or_eq_true, Bool.not_eq_true'] at this
  have h1 := this.2.1
  rw [show Nat.ble 21 (shp k).1 = true from Nat.ble_eq_true_of_le h, show Nat.ble (shp k).1 24 = true from Nat.ble_eq_true_of_le hc] at h1
  simp only [Bool.and_self, Bool.true_eq_false, false_or] at h1
  exact Nat.le_of_ble_eq_true h1
theorem shp_int {k : Nat} (h : (shp k).1 = 20) : k < 88 ∨ (1001 ≤ k ∧ k ≤ 1007) := by
  have := okSh_all k
  simp only [okSh, Bool.and_eq_true, Bool.or_eq_true, Bool.not_eq_true'] at this
  have h1 := this.2.2.1
  rw [h] at h1
  rcases h1 with h1 | h1 | h1
  · exact absurd h1 (by decide)
  · exact Or.inl (Nat.le_of_ble_eq_true h1)
  · exact Or.inr ⟨Nat.le_of_ble_eq_true h1.1, Nat.le_of_ble_eq_true h1.2⟩
theorem celV_obj {cA : Nat → ClassId} {ad : Nat → Nat} {s : Mem} {k ci : Nat} (h : (shp k).1 = ci) (hc : ci < 10) : celV cA ad s k = .inr (ci, (List.range (nfF ci)).map (slV ad s ci k)) := by
  rw [← (shp_obj h hc).2]
  unfold celV
  rw [h]
  split <;> first | omega | rfl
