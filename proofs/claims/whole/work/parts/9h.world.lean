/-! THE FIRST MEMORY: its cells, and what holds between calls (made by gen/world.py) -/
def adO (z : Nat) (adS : Nat → Nat) (k : Nat) : Nat := if k < 18 then z + k else if k < 33 then z + k + 23 else if k < 56 then z + k - 15 else if k = 56 then z + 87 else if k < 88 then z + k - 1 else adS k
theorem adO_inj (z : Nat) (adS : Nat → Nat) (i j : Nat) (hi : i < 88) (hj : j < 88) (h : adO z adS i = adO z adS j) : i = j := by
  unfold adO at h
  repeat' split at h
  all_goals omega
theorem adO_ge (z : Nat) (adS : Nat → Nat) (k : Nat) (h : k < 88) : z ≤ adO z adS k := by
  unfold adO
  repeat' split
  all_goals omega
theorem adO_S (z : Nat) (adS : Nat → Nat) (k : Nat) (h : 1000 ≤ k) : adO z adS k = adS k := by
  unfold adO
  rw [if_neg (by omega), if_neg (by omega), if_neg (by omega), if_neg (by omega), if_neg (by omega)]
def prm (k : Nat) : Nat := if k < 18 then k else if k < 33 then k + 23 else if k < 56 then k - 15 else k
def nwW (z : Nat) (cA : Nat → ClassId) : Nat → List It → va_W
  | _, [] => []
  | n, (kd, _, k, _, _, _) :: r => bif isA kd then (z + 1 + n, .inl (cA kd, k.toNat, .inl (fun _ => 0))) :: nwW z cA (n + 1) r else nwW z cA n r
def nwF (z : Nat) (ad : Nat → Nat) : Nat → List It → List Value → List Value
  | _, [], fs => fs
  | n, (kd, k, v, _, pl, _) :: r, fs => bif isA kd then nwF z ad (n + 1) r (fs.set k (.ref (z + 1 + n))) else bif Nat.beq kd 0 then nwF z ad n r (fs.set k (.int (Int32.ofInt v))) else nwF z ad n r (fs.set k (.ref (ad pl)))
theorem runW_eq (z : Nat) (cA : Nat → ClassId) : ∀ (its : List It) (w : va_W), runW z cA its w = w ++ nwW z cA w.length its
  | [], w => by rw [runW, nwW, List.append_nil]
  | (kd, k, v, i, pl, p) :: r, w => by
    rw [runW, runW_eq z cA r, nwW]
    cases h : isA kd
    · simp only [efW, h, cond_false]
    · simp only [efW, h, cond_true, List.append_assoc, List.length_append, List.length_cons, List.length_nil, List.cons_append, List.nil_append]
theorem runF_eq (z : Nat) (cA : Nat → ClassId) (ad : Nat → Nat) : ∀ (its : List It) (fs : List Value) (w : va_W), runF z cA ad its fs w = nwF z ad w.length its fs
  | [], fs, w => by rw [runF, nwF]
  | (kd, k, v, i, pl, p) :: r, fs, w => by
    rw [runF, runF_eq z cA ad r, nwF]
    cases h : isA kd
    · cases h0 : Nat.beq kd 0
      · simp only [efW, efF, h, h0, cond_false]
      · simp only [efW, efF, h, h0, cond_false, cond_true]
    · simp only [efW, efF, h, cond_true, List.length_append, List.length_cons, List.length_nil]
def Bn9 (cA : Nat → ClassId) (ad : Nat → Nat) (z : Nat) : va_W := (z, .inr (9, nwF z ad 4 its9b ((nwF z ad 0 its9a (dfl 9)).set 5 (.ref (z + 1))))) :: (nwW z cA 0 its9a ++ nwW z cA 4 its9b)
theorem nw9a_len (cA : Nat → ClassId) (z : Nat) : (nwW z cA 0 its9a).length = 4 := (rfl)
theorem Bk9_eq (cA : Nat → ClassId) (ad : Nat → Nat) (z : Nat) : Bk9 cA ad z = Bn9 cA ad z := by
  unfold Bk9 F9a W9a
  rw [runF_eq, runW_eq, runF_eq, runW_eq]
  simp only [List.length_nil, List.nil_append, nw9a_len]
  rfl
theorem Bn9_len (cA : Nat → ClassId) (ad : Nat → Nat) (q : Nat) : (Bn9 cA ad q).length = 31 := (rfl)
def allW (cA : Nat → ClassId) (ad : Nat → Nat) (z : Nat) : va_W := Bk8 cA ad z 5 ++ (Bn9 cA ad (z + 56) ++ [(z + 87, .inl (cA 23, 1, .inr (.inl (fun _ => 0))))])
theorem all_lo {cA : Nat → ClassId} {ad : Nat → Nat} {z j : Nat} {x : Nat × va_E} (hj : j < 56) (h : (Bk8 cA ad z 5)[j]? = some x) : (allW cA ad z)[j]? = some x := by
  unfold allW
  rw [List.getElem?_append_left (by rw [Bk8_len]; omega)]
  exact h
theorem all_hi {cA : Nat → ClassId} {ad : Nat → Nat} {z j : Nat} {x : Nat × va_E} (hj : j < 31) (h : (Bn9 cA ad (z + 56))[j]? = some x) : (allW cA ad z)[56 + j]? = some x := by
  unfold allW
  rw [List.getElem?_append_right (by rw [Bk8_len]; omega), Bk8_len, show 56 + j - (41 + 3 * 5) = j by omega, List.getElem?_append_left (by rw [Bn9_len]; omega)]
  exact h
theorem all_56 {cA : Nat → ClassId} {ad : Nat → Nat} {z : Nat} : (allW cA ad z)[87]? = some (z + 87, .inl (cA 23, 1, .inr (.inl (fun _ => 0)))) := by
  unfold allW
  rw [List.getElem?_append_right (by rw [Bk8_len]; omega), Bk8_len, List.getElem?_append_right (by rw [Bn9_len]; omega), Bn9_len]
  rfl
section WD
variable {D : va_G} {cA : Nat → ClassId} {z L : Nat} {adS : Nat → Nat} {xs : Nat → Int32} {H : Heap}
def nwG (z : Nat) (ad : Nat → Nat) (j : Nat) : Nat → List It → Value → Value
  | _, [], v => v
  | n, (kd, k, v, _, pl, _) :: r, x => bif isA kd then nwG z ad j (n + 1) r (bif Nat.beq k j then .ref (z + 1 + n) else x) else bif Nat.beq kd 0 then nwG z ad j n r (bif Nat.beq k j then .int (Int32.ofInt v) else x) else nwG z ad j n r (bif Nat.beq k j then .ref (ad pl) else x)
theorem set_G {fs : List Value} {k j : Nat} {v : Value} (hj : j < fs.length) : (fs.set k v).getD j .null = bif Nat.beq k j then v else fs.getD j .null := by
  rw [List.getD_eq_getElem?_getD, List.getD_eq_getElem?_getD]
  cases h : Nat.beq k j
  · rw [List.getElem?_set_ne (fun e => by subst e; rw [Nat.beq_refl] at h; cases h), cond_false]
  · have := Nat.eq_of_beq_eq_true h
    subst this
    rw [List.getElem?_set_self hj, cond_true]
    rfl
theorem nwF_len (z : Nat) (ad : Nat → Nat) : ∀ (its : List It) (n : Nat) (fs : List Value), (nwF z ad n its fs).length = fs.length
  | [], n, fs => by rw [nwF]
  | (kd, k, v, i, pl, p) :: r, n, fs => by
    rw [nwF]
    cases h : isA kd
    · cases h0 : Nat.beq kd 0
      · simp only [cond_false, nwF_len z ad r, List.length_set]
      · simp only [cond_false, cond_true, nwF_len z ad r, List.length_set]
    · simp only [cond_true, nwF_len z ad r, List.length_set]
theorem nwF_get (z : Nat) (ad : Nat → Nat) (j : Nat) : ∀ (its : List It) (n : Nat) (fs : List Value), j < fs.length → (nwF z ad n its fs).getD j .null = nwG z ad j n its (fs.getD j .null)
  | [], n, fs, _ => by rw [nwF, nwG]
  | (kd, k, v, i, pl, p) :: r, n, fs, hj => by
    rw [nwF, nwG]
    cases h : isA kd
    · cases h0 : Nat.beq kd 0
      · simp only [cond_false]
        rw [nwF_get z ad j r n _ (by rw [List.length_set]; exact hj), set_G hj]
      · simp only [cond_false, cond_true]
        rw [nwF_get z ad j r n _ (by rw [List.length_set]; exact hj), set_G hj]
    · simp only [cond_true]
      rw [nwF_get z ad j r (n + 1) _ (by rw [List.length_set]; exact hj), set_G hj]
def fv9 (z : Nat) (ad : Nat → Nat) (j : Nat) : Value := nwG z ad j 4 its9b (bif Nat.beq 5 j then .ref (z + 1) else nwG z ad j 0 its9a ((dfl 9).getD j .null))
theorem arr_congr {cI : ClassId} {n : Nat} {f f' : Nat → Value} (h : ∀ j, j < n → f j = f' j) : arrV cI n f = arrV cI n f' := by
  unfold arrV
  congr 2
  funext j
  exact h j.val j.isLt
theorem laws_at : ∀ j, j < 5 → lwF z 5 j = some (adO z adS (17 + 1 + 3 * j)) := by
  intro j hj
  obtain rfl | rfl | rfl | rfl | rfl : j = 0 ∨ j = 1 ∨ j = 2 ∨ j = 3 ∨ j = 4 := by omega
  all_goals rfl
theorem v9_0 : fv9 (z + 56) (adO z adS) 0 = slV (adO z adS) (g0 L xs) 9 57 0 := (rfl)
theorem v9_1 : fv9 (z + 56) (adO z adS) 1 = slV (adO z adS) (g0 L xs) 9 57 1 := (rfl)
theorem v9_2 : fv9 (z + 56) (adO z adS) 2 = slV (adO z adS) (g0 L xs) 9 57 2 := (rfl)
theorem v9_3 : fv9 (z + 56) (adO z adS) 3 = slV (adO z adS) (g0 L xs) 9 57 3 := (rfl)
theorem v9_4 : fv9 (z + 56) (adO z adS) 4 = slV (adO z adS) (g0 L xs) 9 57 4 := (rfl)
theorem v9_5 : fv9 (z + 56) (adO z adS) 5 = slV (adO z adS) (g0 L xs) 9 57 5 := (rfl)
theorem v9_6 : fv9 (z + 56) (adO z adS) 6 = slV (adO z adS) (g0 L xs) 9 57 6 := (rfl)
theorem v9_7 : fv9 (z + 56) (adO z adS) 7 = slV (adO z adS) (g0 L xs) 9 57 7 := (rfl)
theorem v9_8 : fv9 (z + 56) (adO z adS) 8 = slV (adO z adS) (g0 L xs) 9 57 8 := (rfl)
theorem v9_9 : fv9 (z + 56) (adO z adS) 9 = slV (adO z adS) (g0 L xs) 9 57 9 := (rfl)
theorem v9_10 : fv9 (z + 56) (adO z adS) 10 = slV (adO z adS) (g0 L xs) 9 57 10 := (rfl)
theorem v9_11 : fv9 (z + 56) (adO z adS) 11 = slV (adO z adS) (g0 L xs) 9 57 11 := (rfl)
theorem v9_12 : fv9 (z + 56) (adO z adS) 12 = slV (adO z adS) (g0 L xs) 9 57 12 := (rfl)
theorem v9_13 : fv9 (z + 56) (adO z adS) 13 = slV (adO z adS) (g0 L xs) 9 57 13 := (rfl)
theorem v9_14 : fv9 (z + 56) (adO z adS) 14 = slV (adO z adS) (g0 L xs) 9 57 14 := (rfl)
theorem v9_15 : fv9 (z + 56) (adO z adS) 15 = slV (adO z adS) (g0 L xs) 9 57 15 := (rfl)
theorem v9_16 : fv9 (z + 56) (adO z adS) 16 = slV (adO z adS) (g0 L xs) 9 57 16 := (rfl)
theorem v9_17 : fv9 (z + 56) (adO z adS) 17 = slV (adO z adS) (g0 L xs) 9 57 17 := (rfl)
theorem v9_18 : fv9 (z + 56) (adO z adS) 18 = slV (adO z adS) (g0 L xs) 9 57 18 := (rfl)
theorem v9_19 : fv9 (z + 56) (adO z adS) 19 = slV (adO z adS) (g0 L xs) 9 57 19 := (rfl)
theorem v9_20 : fv9 (z + 56) (adO z adS) 20 = slV (adO z adS) (g0 L xs) 9 57 20 := (rfl)
theorem v9_21 : fv9 (z + 56) (adO z adS) 21 = slV (adO z adS) (g0 L xs) 9 57 21 := (rfl)
theorem v9_22 : fv9 (z + 56) (adO z adS) 22 = slV (adO z adS) (g0 L xs) 9 57 22 := (rfl)
theorem v9_23 : fv9 (z + 56) (adO z adS) 23 = slV (adO z adS) (g0 L xs) 9 57 23 := (rfl)
theorem v9_24 : fv9 (z + 56) (adO z adS) 24 = slV (adO z adS) (g0 L xs) 9 57 24 := (rfl)
theorem v9_25 : fv9 (z + 56) (adO z adS) 25 = slV (adO z adS) (g0 L xs) 9 57 25 := (rfl)
theorem v9_26 : fv9 (z + 56) (adO z adS) 26 = slV (adO z adS) (g0 L xs) 9 57 26 := (rfl)
theorem v9_27 : fv9 (z + 56) (adO z adS) 27 = slV (adO z adS) (g0 L xs) 9 57 27 := (rfl)
theorem v9_28 : fv9 (z + 56) (adO z adS) 28 = slV (adO z adS) (g0 L xs) 9 57 28 := (rfl)
theorem v9_29 : fv9 (z + 56) (adO z adS) 29 = slV (adO z adS) (g0 L xs) 9 57 29 := (rfl)
theorem v9_30 : fv9 (z + 56) (adO z adS) 30 = slV (adO z adS) (g0 L xs) 9 57 30 := (rfl)
theorem v9_31 : fv9 (z + 56) (adO z adS) 31 = slV (adO z adS) (g0 L xs) 9 57 31 := (rfl)
theorem v9_32 : fv9 (z + 56) (adO z adS) 32 = slV (adO z adS) (g0 L xs) 9 57 32 := (rfl)
theorem v9_33 : fv9 (z + 56) (adO z adS) 33 = slV (adO z adS) (g0 L xs) 9 57 33 := (rfl)
theorem v9_34 : fv9 (z + 56) (adO z adS) 34 = slV (adO z adS) (g0 L xs) 9 57 34 := (rfl)
theorem v9_35 : fv9 (z + 56) (adO z adS) 35 = slV (adO z adS) (g0 L xs) 9 57 35 := (rfl)
theorem v9_36 : fv9 (z + 56) (adO z adS) 36 = slV (adO z adS) (g0 L xs) 9 57 36 := (rfl)
theorem v9_37 : fv9 (z + 56) (adO z adS) 37 = slV (adO z adS) (g0 L xs) 9 57 37 := (rfl)
theorem v9_38 : fv9 (z + 56) (adO z adS) 38 = slV (adO z adS) (g0 L xs) 9 57 38 := (rfl)
theorem v9_39 : fv9 (z + 56) (adO z adS) 39 = slV (adO z adS) (g0 L xs) 9 57 39 := (rfl)
theorem v9_40 : fv9 (z + 56) (adO z adS) 40 = slV (adO z adS) (g0 L xs) 9 57 40 := (rfl)
theorem v9_41 : fv9 (z + 56) (adO z adS) 41 = slV (adO z adS) (g0 L xs) 9 57 41 := (rfl)
theorem v9_42 : fv9 (z + 56) (adO z adS) 42 = slV (adO z adS) (g0 L xs) 9 57 42 := (rfl)
theorem v9_43 : fv9 (z + 56) (adO z adS) 43 = slV (adO z adS) (g0 L xs) 9 57 43 := (rfl)
theorem v9_44 : fv9 (z + 56) (adO z adS) 44 = slV (adO z adS) (g0 L xs) 9 57 44 := (rfl)
theorem v9_45 : fv9 (z + 56) (adO z adS) 45 = slV (adO z adS) (g0 L xs) 9 57 45 := (rfl)
theorem v9_46 : fv9 (z + 56) (adO z adS) 46 = slV (adO z adS) (g0 L xs) 9 57 46 := (rfl)
theorem v9_47 : fv9 (z + 56) (adO z adS) 47 = slV (adO z adS) (g0 L xs) 9 57 47 := (rfl)
theorem v9_48 : fv9 (z + 56) (adO z adS) 48 = slV (adO z adS) (g0 L xs) 9 57 48 := (rfl)
theorem v9_49 : fv9 (z + 56) (adO z adS) 49 = slV (adO z adS) (g0 L xs) 9 57 49 := (rfl)
theorem v9_50 : fv9 (z + 56) (adO z adS) 50 = slV (adO z adS) (g0 L xs) 9 57 50 := (rfl)
theorem v9_51 : fv9 (z + 56) (adO z adS) 51 = slV (adO z adS) (g0 L xs) 9 57 51 := (rfl)
theorem v9_52 : fv9 (z + 56) (adO z adS) 52 = slV (adO z adS) (g0 L xs) 9 57 52 := (rfl)
theorem v9_53 : fv9 (z + 56) (adO z adS) 53 = slV (adO z adS) (g0 L xs) 9 57 53 := (rfl)
theorem v9_54 : fv9 (z + 56) (adO z adS) 54 = slV (adO z adS) (g0 L xs) 9 57 54 := (rfl)
theorem v9_55 : fv9 (z + 56) (adO z adS) 55 = slV (adO z adS) (g0 L xs) 9 57 55 := (rfl)
theorem v9_56 : fv9 (z + 56) (adO z adS) 56 = slV (adO z adS) (g0 L xs) 9 57 56 := (rfl)
theorem v9_57 : fv9 (z + 56) (adO z adS) 57 = slV (adO z adS) (g0 L xs) 9 57 57 := (rfl)
theorem v9_all (j : Nat) (hj : j < 58) : fv9 (z + 56) (adO z adS) j = slV (adO z adS) (g0 L xs) 9 57 j := by
  by_cases h0 : j = 0
  · subst h0; exact v9_0
  by_cases h1 : j = 1
  · subst h1; exact v9_1
  by_cases h2 : j = 2
  · subst h2; exact v9_2
  by_cases h3 : j = 3
  · subst h3; exact v9_3
  by_cases h4 : j = 4
  · subst h4; exact v9_4
  by_cases h5 : j = 5
  · subst h5; exact v9_5
  by_cases h6 : j = 6
  · subst h6; exact v9_6
  by_cases h7 : j = 7
  · subst h7; exact v9_7
  by_cases h8 : j = 8
  · subst h8; exact v9_8
  by_cases h9 : j = 9
  · subst h9; exact v9_9
  by_cases h10 : j = 10
  · subst h10; exact v9_10
  by_cases h11 : j = 11
  · subst h11; exact v9_11
  by_cases h12 : j = 12
  · subst h12; exact v9_12
  by_cases h13 : j = 13
  · subst h13; exact v9_13
  by_cases h14 : j = 14
  · subst h14; exact v9_14
  by_cases h15 : j = 15
  · subst h15; exact v9_15
  by_cases h16 : j = 16
  · subst h16; exact v9_16
  by_cases h17 : j = 17
  · subst h17; exact v9_17
  by_cases h18 : j = 18
  · subst h18; exact v9_18
  by_cases h19 : j = 19
  · subst h19; exact v9_19
  by_cases h20 : j = 20
  · subst h20; exact v9_20
  by_cases h21 : j = 21
  · subst h21; exact v9_21
  by_cases h22 : j = 22
  · subst h22; exact v9_22
  by_cases h23 : j = 23
  · subst h23; exact v9_23
  by_cases h24 : j = 24
  · subst h24; exact v9_24
  by_cases h25 : j = 25
  · subst h25; exact v9_25
  by_cases h26 : j = 26
  · subst h26; exact v9_26
  by_cases h27 : j = 27
  · subst h27; exact v9_27
  by_cases h28 : j = 28
  · subst h28; exact v9_28
  by_cases h29 : j = 29
  · subst h29; exact v9_29
  by_cases h30 : j = 30
  · subst h30; exact v9_30
  by_cases h31 : j = 31
  · subst h31; exact v9_31
  by_cases h32 : j = 32
  · subst h32; exact v9_32
  by_cases h33 : j = 33
  · subst h33; exact v9_33
  by_cases h34 : j = 34
  · subst h34; exact v9_34
  by_cases h35 : j = 35
  · subst h35; exact v9_35
  by_cases h36 : j = 36
  · subst h36; exact v9_36
  by_cases h37 : j = 37
  · subst h37; exact v9_37
  by_cases h38 : j = 38
  · subst h38; exact v9_38
  by_cases h39 : j = 39
  · subst h39; exact v9_39
  by_cases h40 : j = 40
  · subst h40; exact v9_40
  by_cases h41 : j = 41
  · subst h41; exact v9_41
  by_cases h42 : j = 42
  · subst h42; exact v9_42
  by_cases h43 : j = 43
  · subst h43; exact v9_43
  by_cases h44 : j = 44
  · subst h44; exact v9_44
  by_cases h45 : j = 45
  · subst h45; exact v9_45
  by_cases h46 : j = 46
  · subst h46; exact v9_46
  by_cases h47 : j = 47
  · subst h47; exact v9_47
  by_cases h48 : j = 48
  · subst h48; exact v9_48
  by_cases h49 : j = 49
  · subst h49; exact v9_49
  by_cases h50 : j = 50
  · subst h50; exact v9_50
  by_cases h51 : j = 51
  · subst h51; exact v9_51
  by_cases h52 : j = 52
  · subst h52; exact v9_52
  by_cases h53 : j = 53
  · subst h53; exact v9_53
  by_cases h54 : j = 54
  · subst h54; exact v9_54
  by_cases h55 : j = 55
  · subst h55; exact v9_55
  by_cases h56 : j = 56
  · subst h56; exact v9_56
  by_cases h57 : j = 57
  · subst h57; exact v9_57
  omega
theorem ext_getD {A B : List Value} {n : Nat} (ha : A.length = n) (hb : B.length = n) (h : ∀ j, j < n → A.getD j .null = B.getD j .null) : A = B := by
  apply List.ext_getElem (ha.trans hb.symm)
  intro i h1 h2
  have := h i (by omega)
  rw [List.getD_eq_getElem?_getD, List.getD_eq_getElem?_getD, List.getElem?_eq_getElem h1, List.getElem?_eq_getElem h2] at this
  exact this
theorem rng_getD {f : Nat → Value} {n j : Nat} (hj : j < n) : ((List.range n).map f).getD j .null = f j := by
  rw [List.getD_eq_getElem?_getD, List.getElem?_map, List.getElem?_range hj]
  rfl
theorem F57g (zz : Nat) (ad : Nat → Nat) (f : Nat → Value) (A B : List It) (n : Nat) (fs : List Value) (hn : fs.length = n) (h : ∀ j, j < n → nwG zz ad j 4 B (bif Nat.beq 5 j then .ref (zz + 1) else nwG zz ad j 0 A (fs.getD j .null)) = f j) : nwF zz ad 4 B ((nwF zz ad 0 A fs).set 5 (.ref (zz + 1))) = (List.range n).map f := by
  refine ext_getD (n := n) (by rw [nwF_len, List.length_set, nwF_len, hn]) (by rw [List.length_map, List.length_range]) (fun j hj => ?_)
  rw [nwF_get _ _ _ _ _ _ (by rw [List.length_set, nwF_len, hn]; exact hj), set_G (by rw [nwF_len, hn]; exact hj), nwF_get _ _ _ _ _ _ (by rw [hn]; exact hj), rng_getD hj]
  exact h j hj
theorem F57 : nwF (z + 56) (adO z adS) 4 its9b ((nwF (z + 56) (adO z adS) 0 its9a (dfl 9)).set 5 (.ref (z + 56 + 1))) = (List.range (nfF 9)).map (slV (adO z adS) (g0 L xs) 9 57) :=
  F57g (z + 56) (adO z adS) (slV (adO z adS) (g0 L xs) 9 57) its9a its9b (nfF 9) (dfl 9) (dfl_len 9) (fun j hj => v9_all j hj)
theorem w_57 : (Bn9 cA (adO z adS) (z + 56))[0]? = some (adO z adS 57, celV cA (adO z adS) (g0 L xs) 57) := by
  unfold Bn9
  rw [List.getElem?_cons_zero, F57 (L := L) (xs := xs), celV_obj (ci := 9) rfl (by decide), show adO z adS 57 = z + 56 from rfl]
set_option maxRecDepth 100000 in
theorem w_0 : (Bk8 cA (adO z adS) z 5)[0]? = some (adO z adS 0, celV cA (adO z adS) (g0 L xs) 0) := (rfl)
set_option maxRecDepth 100000 in
theorem w_1 : (Bk8 cA (adO z adS) z 5)[1]? = some (adO z adS 1, celV cA (adO z adS) (g0 L xs) 1) := (rfl)
set_option maxRecDepth 100000 in
theorem w_2 : (Bk8 cA (adO z adS) z 5)[2]? = some (adO z adS 2, celV cA (adO z adS) (g0 L xs) 2) := (rfl)
set_option maxRecDepth 100000 in
theorem w_3 : (Bk8 cA (adO z adS) z 5)[3]? = some (adO z adS 3, celV cA (adO z adS) (g0 L xs) 3) := (rfl)
set_option maxRecDepth 100000 in
theorem w_4 : (Bk8 cA (adO z adS) z 5)[4]? = some (adO z adS 4, celV cA (adO z adS) (g0 L xs) 4) := (rfl)
set_option maxRecDepth 100000 in
theorem w_5 : (Bk8 cA (adO z adS) z 5)[5]? = some (adO z adS 5, celV cA (adO z adS) (g0 L xs) 5) := (rfl)
set_option maxRecDepth 100000 in
theorem w_6 : (Bk8 cA (adO z adS) z 5)[6]? = some (adO z adS 6, celV cA (adO z adS) (g0 L xs) 6) := (rfl)
set_option maxRecDepth 100000 in
theorem w_7 : (Bk8 cA (adO z adS) z 5)[7]? = some (adO z adS 7, celV cA (adO z adS) (g0 L xs) 7) := (rfl)
set_option maxRecDepth 100000 in
theorem w_8 : (Bk8 cA (adO z adS) z 5)[8]? = some (adO z adS 8, celV cA (adO z adS) (g0 L xs) 8) := (rfl)
set_option maxRecDepth 100000 in
theorem w_9 : (Bk8 cA (adO z adS) z 5)[9]? = some (adO z adS 9, celV cA (adO z adS) (g0 L xs) 9) := (rfl)
set_option maxRecDepth 100000 in
theorem w_10 : (Bk8 cA (adO z adS) z 5)[10]? = some (adO z adS 10, celV cA (adO z adS) (g0 L xs) 10) := (rfl)
set_option maxRecDepth 100000 in
theorem w_11 : (Bk8 cA (adO z adS) z 5)[11]? = some (adO z adS 11, celV cA (adO z adS) (g0 L xs) 11) := (rfl)
set_option maxRecDepth 100000 in
theorem w_12 : (Bk8 cA (adO z adS) z 5)[12]? = some (adO z adS 12, celV cA (adO z adS) (g0 L xs) 12) := (rfl)
set_option maxRecDepth 100000 in
theorem w_13 : (Bk8 cA (adO z adS) z 5)[13]? = some (adO z adS 13, celV cA (adO z adS) (g0 L xs) 13) := (rfl)
set_option maxRecDepth 100000 in
theorem w_14 : (Bk8 cA (adO z adS) z 5)[14]? = some (adO z adS 14, celV cA (adO z adS) (g0 L xs) 14) := (rfl)
set_option maxRecDepth 100000 in
theorem w_15 : (Bk8 cA (adO z adS) z 5)[15]? = some (adO z adS 15, celV cA (adO z adS) (g0 L xs) 15) := (rfl)
set_option maxRecDepth 100000 in
theorem w_16 : (Bk8 cA (adO z adS) z 5)[16]? = some (adO z adS 16, celV cA (adO z adS) (g0 L xs) 16) := (rfl)
set_option maxRecDepth 100000 in
theorem w_18 : (Bk8 cA (adO z adS) z 5)[41]? = some (adO z adS 18, celV cA (adO z adS) (g0 L xs) 18) := (rfl)
set_option maxRecDepth 100000 in
theorem w_19 : (Bk8 cA (adO z adS) z 5)[42]? = some (adO z adS 19, celV cA (adO z adS) (g0 L xs) 19) := (rfl)
set_option maxRecDepth 100000 in
theorem w_20 : (Bk8 cA (adO z adS) z 5)[43]? = some (adO z adS 20, celV cA (adO z adS) (g0 L xs) 20) := (rfl)
set_option maxRecDepth 100000 in
theorem w_21 : (Bk8 cA (adO z adS) z 5)[44]? = some (adO z adS 21, celV cA (adO z adS) (g0 L xs) 21) := (rfl)
set_option maxRecDepth 100000 in
theorem w_22 : (Bk8 cA (adO z adS) z 5)[45]? = some (adO z adS 22, celV cA (adO z adS) (g0 L xs) 22) := (rfl)
set_option maxRecDepth 100000 in
theorem w_23 : (Bk8 cA (adO z adS) z 5)[46]? = some (adO z adS 23, celV cA (adO z adS) (g0 L xs) 23) := (rfl)
set_option maxRecDepth 100000 in
theorem w_24 : (Bk8 cA (adO z adS) z 5)[47]? = some (adO z adS 24, celV cA (adO z adS) (g0 L xs) 24) := (rfl)
set_option maxRecDepth 100000 in
theorem w_25 : (Bk8 cA (adO z adS) z 5)[48]? = some (adO z adS 25, celV cA (adO z adS) (g0 L xs) 25) := (rfl)
set_option maxRecDepth 100000 in
theorem w_26 : (Bk8 cA (adO z adS) z 5)[49]? = some (adO z adS 26, celV cA (adO z adS) (g0 L xs) 26) := (rfl)
set_option maxRecDepth 100000 in
theorem w_27 : (Bk8 cA (adO z adS) z 5)[50]? = some (adO z adS 27, celV cA (adO z adS) (g0 L xs) 27) := (rfl)
set_option maxRecDepth 100000 in
theorem w_28 : (Bk8 cA (adO z adS) z 5)[51]? = some (adO z adS 28, celV cA (adO z adS) (g0 L xs) 28) := (rfl)
set_option maxRecDepth 100000 in
theorem w_29 : (Bk8 cA (adO z adS) z 5)[52]? = some (adO z adS 29, celV cA (adO z adS) (g0 L xs) 29) := (rfl)
set_option maxRecDepth 100000 in
theorem w_30 : (Bk8 cA (adO z adS) z 5)[53]? = some (adO z adS 30, celV cA (adO z adS) (g0 L xs) 30) := (rfl)
set_option maxRecDepth 100000 in
theorem w_31 : (Bk8 cA (adO z adS) z 5)[54]? = some (adO z adS 31, celV cA (adO z adS) (g0 L xs) 31) := (rfl)
set_option maxRecDepth 100000 in
theorem w_32 : (Bk8 cA (adO z adS) z 5)[55]? = some (adO z adS 32, celV cA (adO z adS) (g0 L xs) 32) := (rfl)
set_option maxRecDepth 100000 in
theorem w_33 : (Bk8 cA (adO z adS) z 5)[18]? = some (adO z adS 33, celV cA (adO z adS) (g0 L xs) 33) := (rfl)
set_option maxRecDepth 100000 in
theorem w_34 : (Bk8 cA (adO z adS) z 5)[19]? = some (adO z adS 34, celV cA (adO z adS) (g0 L xs) 34) := (rfl)
set_option maxRecDepth 100000 in
theorem w_35 : (Bk8 cA (adO z adS) z 5)[20]? = some (adO z adS 35, celV cA (adO z adS) (g0 L xs) 35) := (rfl)
set_option maxRecDepth 100000 in
theorem w_36 : (Bk8 cA (adO z adS) z 5)[21]? = some (adO z adS 36, celV cA (adO z adS) (g0 L xs) 36) := (rfl)
set_option maxRecDepth 100000 in
theorem w_37 : (Bk8 cA (adO z adS) z 5)[22]? = some (adO z adS 37, celV cA (adO z adS) (g0 L xs) 37) := (rfl)
set_option maxRecDepth 100000 in
theorem w_38 : (Bk8 cA (adO z adS) z 5)[23]? = some (adO z adS 38, celV cA (adO z adS) (g0 L xs) 38) := (rfl)
set_option maxRecDepth 100000 in
theorem w_39 : (Bk8 cA (adO z adS) z 5)[24]? = some (adO z adS 39, celV cA (adO z adS) (g0 L xs) 39) := (rfl)
set_option maxRecDepth 100000 in
theorem w_40 : (Bk8 cA (adO z adS) z 5)[25]? = some (adO z adS 40, celV cA (adO z adS) (g0 L xs) 40) := (rfl)
set_option maxRecDepth 100000 in
theorem w_41 : (Bk8 cA (adO z adS) z 5)[26]? = some (adO z adS 41, celV cA (adO z adS) (g0 L xs) 41) := (rfl)
set_option maxRecDepth 100000 in
theorem w_42 : (Bk8 cA (adO z adS) z 5)[27]? = some (adO z adS 42, celV cA (adO z adS) (g0 L xs) 42) := (rfl)
set_option maxRecDepth 100000 in
theorem w_43 : (Bk8 cA (adO z adS) z 5)[28]? = some (adO z adS 43, celV cA (adO z adS) (g0 L xs) 43) := (rfl)
set_option maxRecDepth 100000 in
theorem w_44 : (Bk8 cA (adO z adS) z 5)[29]? = some (adO z adS 44, celV cA (adO z adS) (g0 L xs) 44) := (rfl)
set_option maxRecDepth 100000 in
theorem w_45 : (Bk8 cA (adO z adS) z 5)[30]? = some (adO z adS 45, celV cA (adO z adS) (g0 L xs) 45) := (rfl)
set_option maxRecDepth 100000 in
theorem w_46 : (Bk8 cA (adO z adS) z 5)[31]? = some (adO z adS 46, celV cA (adO z adS) (g0 L xs) 46) := (rfl)
set_option maxRecDepth 100000 in
theorem w_47 : (Bk8 cA (adO z adS) z 5)[32]? = some (adO z adS 47, celV cA (adO z adS) (g0 L xs) 47) := (rfl)
set_option maxRecDepth 100000 in
theorem w_48 : (Bk8 cA (adO z adS) z 5)[33]? = some (adO z adS 48, celV cA (adO z adS) (g0 L xs) 48) := (rfl)
set_option maxRecDepth 100000 in
theorem w_49 : (Bk8 cA (adO z adS) z 5)[34]? = some (adO z adS 49, celV cA (adO z adS) (g0 L xs) 49) := (rfl)
set_option maxRecDepth 100000 in
theorem w_50 : (Bk8 cA (adO z adS) z 5)[35]? = some (adO z adS 50, celV cA (adO z adS) (g0 L xs) 50) := (rfl)
set_option maxRecDepth 100000 in
theorem w_51 : (Bk8 cA (adO z adS) z 5)[36]? = some (adO z adS 51, celV cA (adO z adS) (g0 L xs) 51) := (rfl)
set_option maxRecDepth 100000 in
theorem w_52 : (Bk8 cA (adO z adS) z 5)[37]? = some (adO z adS 52, celV cA (adO z adS) (g0 L xs) 52) := (rfl)
set_option maxRecDepth 100000 in
theorem w_53 : (Bk8 cA (adO z adS) z 5)[38]? = some (adO z adS 53, celV cA (adO z adS) (g0 L xs) 53) := (rfl)
set_option maxRecDepth 100000 in
theorem w_54 : (Bk8 cA (adO z adS) z 5)[39]? = some (adO z adS 54, celV cA (adO z adS) (g0 L xs) 54) := (rfl)
set_option maxRecDepth 100000 in
theorem w_55 : (Bk8 cA (adO z adS) z 5)[40]? = some (adO z adS 55, celV cA (adO z adS) (g0 L xs) 55) := (rfl)
set_option maxRecDepth 100000 in
theorem w_58 : (Bn9 cA (adO z adS) (z + 56))[1]? = some (adO z adS 58, celV cA (adO z adS) (g0 L xs) 58) := (rfl)
set_option maxRecDepth 100000 in
theorem w_59 : (Bn9 cA (adO z adS) (z + 56))[2]? = some (adO z adS 59, celV cA (adO z adS) (g0 L xs) 59) := (rfl)
set_option maxRecDepth 100000 in
theorem w_60 : (Bn9 cA (adO z adS) (z + 56))[3]? = some (adO z adS 60, celV cA (adO z adS) (g0 L xs) 60) := (rfl)
set_option maxRecDepth 100000 in
theorem w_61 : (Bn9 cA (adO z adS) (z + 56))[4]? = some (adO z adS 61, celV cA (adO z adS) (g0 L xs) 61) := (rfl)
set_option maxRecDepth 100000 in
theorem w_62 : (Bn9 cA (adO z adS) (z + 56))[5]? = some (adO z adS 62, celV cA (adO z adS) (g0 L xs) 62) := (rfl)
set_option maxRecDepth 100000 in
theorem w_63 : (Bn9 cA (adO z adS) (z + 56))[6]? = some (adO z adS 63, celV cA (adO z adS) (g0 L xs) 63) := (rfl)
set_option maxRecDepth 100000 in
theorem w_64 : (Bn9 cA (adO z adS) (z + 56))[7]? = some (adO z adS 64, celV cA (adO z adS) (g0 L xs) 64) := (rfl)
set_option maxRecDepth 100000 in
theorem w_65 : (Bn9 cA (adO z adS) (z + 56))[8]? = some (adO z adS 65, celV cA (adO z adS) (g0 L xs) 65) := (rfl)
set_option maxRecDepth 100000 in
theorem w_66 : (Bn9 cA (adO z adS) (z + 56))[9]? = some (adO z adS 66, celV cA (adO z adS) (g0 L xs) 66) := (rfl)
set_option maxRecDepth 100000 in
theorem w_67 : (Bn9 cA (adO z adS) (z + 56))[10]? = some (adO z adS 67, celV cA (adO z adS) (g0 L xs) 67) := (rfl)
set_option maxRecDepth 100000 in
theorem w_68 : (Bn9 cA (adO z adS) (z + 56))[11]? = some (adO z adS 68, celV cA (adO z adS) (g0 L xs) 68) := (rfl)
set_option maxRecDepth 100000 in
theorem w_69 : (Bn9 cA (adO z adS) (z + 56))[12]? = some (adO z adS 69, celV cA (adO z adS) (g0 L xs) 69) := (rfl)
set_option maxRecDepth 100000 in
theorem w_70 : (Bn9 cA (adO z adS) (z + 56))[13]? = some (adO z adS 70, celV cA (adO z adS) (g0 L xs) 70) := (rfl)
set_option maxRecDepth 100000 in
theorem w_71 : (Bn9 cA (adO z adS) (z + 56))[14]? = some (adO z adS 71, celV cA (adO z adS) (g0 L xs) 71) := (rfl)
set_option maxRecDepth 100000 in
theorem w_72 : (Bn9 cA (adO z adS) (z + 56))[15]? = some (adO z adS 72, celV cA (adO z adS) (g0 L xs) 72) := (rfl)
set_option maxRecDepth 100000 in
theorem w_73 : (Bn9 cA (adO z adS) (z + 56))[16]? = some (adO z adS 73, celV cA (adO z adS) (g0 L xs) 73) := (rfl)
set_option maxRecDepth 100000 in
theorem w_74 : (Bn9 cA (adO z adS) (z + 56))[17]? = some (adO z adS 74, celV cA (adO z adS) (g0 L xs) 74) := (rfl)
set_option maxRecDepth 100000 in
theorem w_75 : (Bn9 cA (adO z adS) (z + 56))[18]? = some (adO z adS 75, celV cA (adO z adS) (g0 L xs) 75) := (rfl)
set_option maxRecDepth 100000 in
theorem w_76 : (Bn9 cA (adO z adS) (z + 56))[19]? = some (adO z adS 76, celV cA (adO z adS) (g0 L xs) 76) := (rfl)
set_option maxRecDepth 100000 in
theorem w_77 : (Bn9 cA (adO z adS) (z + 56))[20]? = some (adO z adS 77, celV cA (adO z adS) (g0 L xs) 77) := (rfl)
set_option maxRecDepth 100000 in
theorem w_78 : (Bn9 cA (adO z adS) (z + 56))[21]? = some (adO z adS 78, celV cA (adO z adS) (g0 L xs) 78) := (rfl)
set_option maxRecDepth 100000 in
theorem w_79 : (Bn9 cA (adO z adS) (z + 56))[22]? = some (adO z adS 79, celV cA (adO z adS) (g0 L xs) 79) := (rfl)
set_option maxRecDepth 100000 in
theorem w_80 : (Bn9 cA (adO z adS) (z + 56))[23]? = some (adO z adS 80, celV cA (adO z adS) (g0 L xs) 80) := (rfl)
set_option maxRecDepth 100000 in
theorem w_81 : (Bn9 cA (adO z adS) (z + 56))[24]? = some (adO z adS 81, celV cA (adO z adS) (g0 L xs) 81) := (rfl)
set_option maxRecDepth 100000 in
theorem w_82 : (Bn9 cA (adO z adS) (z + 56))[25]? = some (adO z adS 82, celV cA (adO z adS) (g0 L xs) 82) := (rfl)
set_option maxRecDepth 100000 in
theorem w_83 : (Bn9 cA (adO z adS) (z + 56))[26]? = some (adO z adS 83, celV cA (adO z adS) (g0 L xs) 83) := (rfl)
set_option maxRecDepth 100000 in
theorem w_84 : (Bn9 cA (adO z adS) (z + 56))[27]? = some (adO z adS 84, celV cA (adO z adS) (g0 L xs) 84) := (rfl)
set_option maxRecDepth 100000 in
theorem w_85 : (Bn9 cA (adO z adS) (z + 56))[28]? = some (adO z adS 85, celV cA (adO z adS) (g0 L xs) 85) := (rfl)
set_option maxRecDepth 100000 in
theorem w_86 : (Bn9 cA (adO z adS) (z + 56))[29]? = some (adO z adS 86, celV cA (adO z adS) (g0 L xs) 86) := (rfl)
set_option maxRecDepth 100000 in
theorem w_87 : (Bn9 cA (adO z adS) (z + 56))[30]? = some (adO z adS 87, celV cA (adO z adS) (g0 L xs) 87) := (rfl)
theorem w_56 : (z + 87, (.inl (cA 23, 1, .inr (.inl (fun _ => 0))) : va_E)) = (adO z adS 56, celV cA (adO z adS) (g0 L xs) 56) := (rfl)
theorem w_17 : (Bk8 cA (adO z adS) z 5)[17]? = some (adO z adS 17, .inl (cA 24, 5, .inr (.inr (.inr (.inr (lwF z 5)))))) := (rfl)
theorem allW_P (hC : CN D z (allW cA (adO z adS) z) H) : va_P D cl10 (wsO cA (adO z adS) (g0 L xs)) H := by
  intro k q hk
  obtain ⟨hl, rfl⟩ := wsO_at hk
  clear hk
  by_cases h0 : k = 0
  · subst h0; exact hC.1 0 _ (all_lo (by decide) w_0)
  by_cases h1 : k = 1
  · subst h1; exact hC.1 1 _ (all_lo (by decide) w_1)
  by_cases h2 : k = 2
  · subst h2; exact hC.1 2 _ (all_lo (by decide) w_2)
  by_cases h3 : k = 3
  · subst h3; exact hC.1 3 _ (all_lo (by decide) w_3)
  by_cases h4 : k = 4
  · subst h4; exact hC.1 4 _ (all_lo (by decide) w_4)
  by_cases h5 : k = 5
  · subst h5; exact hC.1 5 _ (all_lo (by decide) w_5)
  by_cases h6 : k = 6
  · subst h6; exact hC.1 6 _ (all_lo (by decide) w_6)
  by_cases h7 : k = 7
  · subst h7; exact hC.1 7 _ (all_lo (by decide) w_7)
  by_cases h8 : k = 8
  · subst h8; exact hC.1 8 _ (all_lo (by decide) w_8)
  by_cases h9 : k = 9
  · subst h9; exact hC.1 9 _ (all_lo (by decide) w_9)
  by_cases h10 : k = 10
  · subst h10; exact hC.1 10 _ (all_lo (by decide) w_10)
  by_cases h11 : k = 11
  · subst h11; exact hC.1 11 _ (all_lo (by decide) w_11)
  by_cases h12 : k = 12
  · subst h12; exact hC.1 12 _ (all_lo (by decide) w_12)
  by_cases h13 : k = 13
  · subst h13; exact hC.1 13 _ (all_lo (by decide) w_13)
  by_cases h14 : k = 14
  · subst h14; exact hC.1 14 _ (all_lo (by decide) w_14)
  by_cases h15 : k = 15
  · subst h15; exact hC.1 15 _ (all_lo (by decide) w_15)
  by_cases h16 : k = 16
  · subst h16; exact hC.1 16 _ (all_lo (by decide) w_16)
  by_cases h17 : k = 17
  · subst h17
    have h := hC.1 17 _ (all_lo (by decide) w_17)
    have h : H[adO z adS 17]? = some (vp_cell (cA 24) (5, .inr (.inr (.inr (.inr (lwF z 5)))))) := h
    show H[adO z adS 17]? = some (vp_cell (cA 24) (5, .inr (.inr (.inr (.inr (fun i => some (adO z adS (17 + 1 + 3 * i))))))))
    rw [h, vp_cell_q, vp_cell_q]
    exact congrArg some (arr_congr fun j hj => by rw [laws_at (adS := adS) j hj])
  by_cases h18 : k = 18
  · subst h18; exact hC.1 41 _ (all_lo (by decide) w_18)
  by_cases h19 : k = 19
  · subst h19; exact hC.1 42 _ (all_lo (by decide) w_19)
  by_cases h20 : k = 20
  · subst h20; exact hC.1 43 _ (all_lo (by decide) w_20)
  by_cases h21 : k = 21
  · subst h21; exact hC.1 44 _ (all_lo (by decide) w_21)
  by_cases h22 : k = 22
  · subst h22; exact hC.1 45 _ (all_lo (by decide) w_22)
  by_cases h23 : k = 23
  · subst h23; exact hC.1 46 _ (all_lo (by decide) w_23)
  by_cases h24 : k = 24
  · subst h24; exact hC.1 47 _ (all_lo (by decide) w_24)
  by_cases h25 : k = 25
  · subst h25; exact hC.1 48 _ (all_lo (by decide) w_25)
  by_cases h26 : k = 26
  · subst h26; exact hC.1 49 _ (all_lo (by decide) w_26)
  by_cases h27 : k = 27
  · subst h27; exact hC.1 50 _ (all_lo (by decide) w_27)
  by_cases h28 : k = 28
  · subst h28; exact hC.1 51 _ (all_lo (by decide) w_28)
  by_cases h29 : k = 29
  · subst h29; exact hC.1 52 _ (all_lo (by decide) w_29)
  by_cases h30 : k = 30
  · subst h30; exact hC.1 53 _ (all_lo (by decide) w_30)
  by_cases h31 : k = 31
  · subst h31; exact hC.1 54 _ (all_lo (by decide) w_31)
  by_cases h32 : k = 32
  · subst h32; exact hC.1 55 _ (all_lo (by decide) w_32)
  by_cases h33 : k = 33
  · subst h33; exact hC.1 18 _ (all_lo (by decide) w_33)
  by_cases h34 : k = 34
  · subst h34; exact hC.1 19 _ (all_lo (by decide) w_34)
  by_cases h35 : k = 35
  · subst h35; exact hC.1 20 _ (all_lo (by decide) w_35)
  by_cases h36 : k = 36
  · subst h36; exact hC.1 21 _ (all_lo (by decide) w_36)
  by_cases h37 : k = 37
  · subst h37; exact hC.1 22 _ (all_lo (by decide) w_37)
  by_cases h38 : k = 38
  · subst h38; exact hC.1 23 _ (all_lo (by decide) w_38)
  by_cases h39 : k = 39
  · subst h39; exact hC.1 24 _ (all_lo (by decide) w_39)
  by_cases h40 : k = 40
  · subst h40; exact hC.1 25 _ (all_lo (by decide) w_40)
  by_cases h41 : k = 41
  · subst h41; exact hC.1 26 _ (all_lo (by decide) w_41)
  by_cases h42 : k = 42
  · subst h42; exact hC.1 27 _ (all_lo (by decide) w_42)
  by_cases h43 : k = 43
  · subst h43; exact hC.1 28 _ (all_lo (by decide) w_43)
  by_cases h44 : k = 44
  · subst h44; exact hC.1 29 _ (all_lo (by decide) w_44)
  by_cases h45 : k = 45
  · subst h45; exact hC.1 30 _ (all_lo (by decide) w_45)
  by_cases h46 : k = 46
  · subst h46; exact hC.1 31 _ (all_lo (by decide) w_46)
  by_cases h47 : k = 47
  · subst h47; exact hC.1 32 _ (all_lo (by decide) w_47)
  by_cases h48 : k = 48
  · subst h48; exact hC.1 33 _ (all_lo (by decide) w_48)
  by_cases h49 : k = 49
  · subst h49; exact hC.1 34 _ (all_lo (by decide) w_49)
  by_cases h50 : k = 50
  · subst h50; exact hC.1 35 _ (all_lo (by decide) w_50)
  by_cases h51 : k = 51
  · subst h51; exact hC.1 36 _ (all_lo (by decide) w_51)
  by_cases h52 : k = 52
  · subst h52; exact hC.1 37 _ (all_lo (by decide) w_52)
  by_cases h53 : k = 53
  · subst h53; exact hC.1 38 _ (all_lo (by decide) w_53)
  by_cases h54 : k = 54
  · subst h54; exact hC.1 39 _ (all_lo (by decide) w_54)
  by_cases h55 : k = 55
  · subst h55; exact hC.1 40 _ (all_lo (by decide) w_55)
  by_cases h56 : k = 56
  · subst h56; exact hC.1 87 _ (all_56.trans (congrArg some w_56))
  by_cases h57 : k = 57
  · subst h57; exact hC.1 (56 + 0) _ (all_hi (by decide) w_57)
  by_cases h58 : k = 58
  · subst h58; exact hC.1 (56 + 1) _ (all_hi (by decide) w_58)
  by_cases h59 : k = 59
  · subst h59; exact hC.1 (56 + 2) _ (all_hi (by decide) w_59)
  by_cases h60 : k = 60
  · subst h60; exact hC.1 (56 + 3) _ (all_hi (by decide) w_60)
  by_cases h61 : k = 61
  · subst h61; exact hC.1 (56 + 4) _ (all_hi (by decide) w_61)
  by_cases h62 : k = 62
  · subst h62; exact hC.1 (56 + 5) _ (all_hi (by decide) w_62)
  by_cases h63 : k = 63
  · subst h63; exact hC.1 (56 + 6) _ (all_hi (by decide) w_63)
  by_cases h64 : k = 64
  · subst h64; exact hC.1 (56 + 7) _ (all_hi (by decide) w_64)
  by_cases h65 : k = 65
  · subst h65; exact hC.1 (56 + 8) _ (all_hi (by decide) w_65)
  by_cases h66 : k = 66
  · subst h66; exact hC.1 (56 + 9) _ (all_hi (by decide) w_66)
  by_cases h67 : k = 67
  · subst h67; exact hC.1 (56 + 10) _ (all_hi (by decide) w_67)
  by_cases h68 : k = 68
  · subst h68; exact hC.1 (56 + 11) _ (all_hi (by decide) w_68)
  by_cases h69 : k = 69
  · subst h69; exact hC.1 (56 + 12) _ (all_hi (by decide) w_69)
  by_cases h70 : k = 70
  · subst h70; exact hC.1 (56 + 13) _ (all_hi (by decide) w_70)
  by_cases h71 : k = 71
  · subst h71; exact hC.1 (56 + 14) _ (all_hi (by decide) w_71)
  by_cases h72 : k = 72
  · subst h72; exact hC.1 (56 + 15) _ (all_hi (by decide) w_72)
  by_cases h73 : k = 73
  · subst h73; exact hC.1 (56 + 16) _ (all_hi (by decide) w_73)
  by_cases h74 : k = 74
  · subst h74; exact hC.1 (56 + 17) _ (all_hi (by decide) w_74)
  by_cases h75 : k = 75
  · subst h75; exact hC.1 (56 + 18) _ (all_hi (by decide) w_75)
  by_cases h76 : k = 76
  · subst h76; exact hC.1 (56 + 19) _ (all_hi (by decide) w_76)
  by_cases h77 : k = 77
  · subst h77; exact hC.1 (56 + 20) _ (all_hi (by decide) w_77)
  by_cases h78 : k = 78
  · subst h78; exact hC.1 (56 + 21) _ (all_hi (by decide) w_78)
  by_cases h79 : k = 79
  · subst h79; exact hC.1 (56 + 22) _ (all_hi (by decide) w_79)
  by_cases h80 : k = 80
  · subst h80; exact hC.1 (56 + 23) _ (all_hi (by decide) w_80)
  by_cases h81 : k = 81
  · subst h81; exact hC.1 (56 + 24) _ (all_hi (by decide) w_81)
  by_cases h82 : k = 82
  · subst h82; exact hC.1 (56 + 25) _ (all_hi (by decide) w_82)
  by_cases h83 : k = 83
  · subst h83; exact hC.1 (56 + 26) _ (all_hi (by decide) w_83)
  by_cases h84 : k = 84
  · subst h84; exact hC.1 (56 + 27) _ (all_hi (by decide) w_84)
  by_cases h85 : k = 85
  · subst h85; exact hC.1 (56 + 28) _ (all_hi (by decide) w_85)
  by_cases h86 : k = 86
  · subst h86; exact hC.1 (56 + 29) _ (all_hi (by decide) w_86)
  by_cases h87 : k = 87
  · subst h87; exact hC.1 (56 + 30) _ (all_hi (by decide) w_87)
  omega
abbrev gr0 : Gph := (0, 0, 0, fun _ => false, fun _ _ => 0)
theorem rel0 (L : Nat) (xs : Nat → Int32) : REL 3 gr0 (g0 L xs) := by
  have hz : ∀ k, ¬ k < gN gr0 := fun k => by show ¬ k < 0 * 0; omega
  have hs : ∀ k, ¬ k < gS gr0 := fun k => by show ¬ k < 0; omega
  refine REL_new (Or.inl rfl) ?_ rfl rfl ?_ (fun _ _ => rfl) ?_ rfl ?_ ?_ ?_ rfl rfl rfl rfl rfl rfl rfl rfl ?_
  · exact ⟨by decide, by decide, by decide, fun h => absurd h (by decide), fun _ => ⟨rfl, rfl⟩, fun k hk => absurd hk (hs k)⟩
  · refine ⟨rfl, rfl, rfl, fun k hk => ?_, fun k j hk _ => absurd hk (hs k), fun p side hp _ => absurd hp (hz p)⟩
    show tb (nI 0) k = _
    rw [tb_0, decide_eq_false (hz k), Bool.false_and]
  · exact ⟨rfl, rfl, rfl, fun k hk => absurd hk (hz k), fun k j hk _ => absurd hk (hs k)⟩
  · exact ⟨((fun _ => 0), 0), ⟨by decide, fun k hk => absurd hk (Nat.not_lt_zero k)⟩, rfl, rfl, fun k hk => absurd hk (Nat.not_lt_zero k), fun k hk => absurd hk (Nat.not_lt_zero k)⟩
  · exact ⟨0, by decide, rfl, rfl, fun i hi => absurd hi (Nat.not_lt_zero i), rfl, Or.inl rfl⟩
  · refine ⟨⟨0, false, 0, 0, ⟨rfl, by decide⟩, rfl, ⟨rfl, by decide⟩, ⟨rfl, by decide⟩, fun k hk => ?_⟩, fun k _ => rfl⟩
    rw [show g0 L xs 34 4 = nI 0 from rfl, tb_0] at hk
    exact absurd hk (by decide)
  · unfold STA
    exact ⟨⟨rfl, rfl, rfl, rfl⟩, ⟨rfl, rfl, rfl, rfl, rfl, rfl, rfl⟩, ⟨rfl, rfl, rfl, rfl, rfl, rfl, rfl⟩, ⟨rfl, rfl, rfl, rfl, rfl, rfl, rfl⟩, ⟨rfl, rfl, rfl, rfl, rfl, rfl, rfl⟩, ⟨rfl, rfl, rfl, rfl, rfl⟩, ⟨rfl, rfl, rfl, rfl, rfl⟩⟩
end WD
