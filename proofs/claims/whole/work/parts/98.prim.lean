/-! REAL CALLS: isAmong and placeOf where they are called; all calls that are not run in the smaller machine -/
def ok9 (c i : Nat) (e : Nat × Nat × Nat × Nat) : Bool := !(Nat.beq e.1 901 || Nat.beq e.1 902) || decide ((c, i, e) ∈ [(9, 178, (901, 2, 9, 2)), (9, 245, (902, 2, 9, 1))])
theorem ok9_0 : ∀ i e, cpm_0 i = some e → ok9 0 i e = true := chk cpm_0 124 (ok9 0) (fun i h => by unfold cpm_0; rw [h]; rfl) (by decide +kernel)
theorem ok9_1 : ∀ i e, cpm_1 i = some e → ok9 1 i e = true := chk cpm_1 80 (ok9 1) (fun i h => by unfold cpm_1; rw [h]; rfl) (by decide +kernel)
theorem ok9_2 : ∀ i e, cpm_2 i = some e → ok9 2 i e = true := chk cpm_2 156 (ok9 2) (fun i h => by unfold cpm_2; rw [h]; rfl) (by decide +kernel)
theorem ok9_3 : ∀ i e, cpm_3 i = some e → ok9 3 i e = true := chk cpm_3 77 (ok9 3) (fun i h => by unfold cpm_3; rw [h]; rfl) (by decide +kernel)
theorem ok9_4 : ∀ i e, cpm_4 i = some e → ok9 4 i e = true := chk cpm_4 67 (ok9 4) (fun i h => by unfold cpm_4; rw [h]; rfl) (by decide +kernel)
theorem ok9_5 : ∀ i e, cpm_5 i = some e → ok9 5 i e = true := chk cpm_5 56 (ok9 5) (fun i h => by unfold cpm_5; rw [h]; rfl) (by decide +kernel)
theorem ok9_6 : ∀ i e, cpm_6 i = some e → ok9 6 i e = true := chk cpm_6 52 (ok9 6) (fun i h => by unfold cpm_6; rw [h]; rfl) (by decide +kernel)
theorem ok9_7 : ∀ i e, cpm_7 i = some e → ok9 7 i e = true := chk cpm_7 55 (ok9 7) (fun i h => by unfold cpm_7; rw [h]; rfl) (by decide +kernel)
theorem ok9_8 : ∀ i e, cpm_8 i = some e → ok9 8 i e = true := chk cpm_8 308 (ok9 8) (fun i h => by unfold cpm_8; rw [h]; rfl) (by decide +kernel)
theorem ok9_9 : ∀ i e, cpm_9 i = some e → ok9 9 i e = true := chk cpm_9 453 (ok9 9) (fun i h => by unfold cpm_9; rw [h]; rfl) (by decide +kernel)
theorem ok9_10 : ∀ i e, cpm_10 i = some e → ok9 10 i e = true := chk cpm_10 91 (ok9 10) (fun i h => by unfold cpm_10; rw [h]; rfl) (by decide +kernel)
theorem ok9_11 : ∀ i e, cpm_11 i = some e → ok9 11 i e = true := chk cpm_11 163 (ok9 11) (fun i h => by unfold cpm_11; rw [h]; rfl) (by decide +kernel)
theorem ok9_all (c i : Nat) (e : Nat × Nat × Nat × Nat) (h : cpm c i = some e) : ok9 c i e = true := by
  unfold cpm at h
  exact nodeL h (fun ha => nodeL ha (fun haa => nodeL haa (fun haaa => leafL haaa (fun q hL => by subst q; exact ok9_0 i e hL)) (fun haaa => nodeL haaa (fun haaaa => leafL haaaa (fun q hL => by subst q; exact ok9_1 i e hL)) (fun haaaa => leafL haaaa (fun q hL => by subst q; exact ok9_2 i e hL)))) (fun haa => nodeL haa (fun haaa => leafL haaa (fun q hL => by subst q; exact ok9_3 i e hL)) (fun haaa => nodeL haaa (fun haaaa => leafL haaaa (fun q hL => by subst q; exact ok9_4 i e hL)) (fun haaaa => leafL haaaa (fun q hL => by subst q; exact ok9_5 i e hL))))) (fun ha => nodeL ha (fun haa => nodeL haa (fun haaa => leafL haaa (fun q hL => by subst q; exact ok9_6 i e hL)) (fun haaa => nodeL haaa (fun haaaa => leafL haaaa (fun q hL => by subst q; exact ok9_7 i e hL)) (fun haaaa => leafL haaaa (fun q hL => by subst q; exact ok9_8 i e hL)))) (fun haa => nodeL haa (fun haaa => leafL haaa (fun q hL => by subst q; exact ok9_9 i e hL)) (fun haaa => nodeL haaa (fun haaaa => leafL haaaa (fun q hL => by subst q; exact ok9_10 i e hL)) (fun haaaa => leafL haaaa (fun q hL => by subst q; exact ok9_11 i e hL)))))
theorem pP_901 {cl : Call} {as : List Value} {g : Mem} {q : Post} (h : primP cl 901 as g q) : ∃ i x, i < 4 ∧ as = [.ref (1010 + i), .int x] ∧ q (some (.int (if x ∈ strS (1010 + i) then 1 else 0))) g := by
  unfold primP at h
  simp only [show Nat.beq 901 900 = false from rfl, show Nat.beq 901 901 = true from rfl, cond_false, cond_true] at h
  split at h
  · next t x =>
    obtain ⟨⟨h0, h1⟩, h2⟩ := ite_inv h
    obtain ⟨i, rfl⟩ := Nat.le.dest h0
    exact ⟨i, x, Nat.lt_of_add_lt_add_left (n := 1010) (k := i) (m := 4) h1, rfl, h2⟩
  · exact h.elim
theorem pP_902 {cl : Call} {as : List Value} {g : Mem} {q : Post} (h : primP cl 902 as g q) : ∃ i x, i < 4 ∧ as = [.ref (1010 + i), .int x] ∧ q (some (.int (idxS x 0 (strS (1010 + i))))) g := by
  unfold primP at h
  simp only [show Nat.beq 902 900 = false from rfl, show Nat.beq 902 901 = false from rfl, show Nat.beq 902 902 = true from rfl, cond_false, cond_true] at h
  split at h
  · next t x =>
    obtain ⟨⟨h0, h1⟩, h2⟩ := ite_inv h
    obtain ⟨i, rfl⟩ := Nat.le.dest h0
    exact ⟨i, x, Nat.lt_of_add_lt_add_left (n := 1010) (k := i) (m := 4) h1, rfl, h2⟩
  · exact h.elim
section Snd
variable {p : Program} {l : Launch} {e : Env} {R : Room} {s : State} {m : MethodId} {args : Array Value} {below : List Frame} {meth : Method} {c : Code} {Q : State → Prop}
variable {D : va_G} {cA : Nat → ClassId} {ad : Nat → Nat} {A : Nat → Prop} {mm : Nat} {s0 : Mem} {nc ns : Nat}
variable {pc i : Nat} {loc : List Value} {g : Mem} {H : Heap} {locs : List Loc} {ls : Array Slot}
theorem pr_901 (hX : CX p m c s args D cA ad A mm s0) (hR : 12 ≤ R.frames ∧ 400 ≤ R.locals) (hN : nc ≤ R.cells ∧ ns ≤ R.slots) {cl : Call} {n ci rk : Nat} {as r : List Value} (he : cpm (pmeta mm).1 i = some (901, n, ci, rk)) (hd : decode (mnB mm) pc = .ok (.invokestatic i, 3)) (hcat : catL r ≤ 8)
    (h : primP cl 901 as g (bhQ rk (XJ p l e R s m args below meth c Q D cA ad A mm s0 nc ns) (pc + 3) loc r)) (hP : va_P D cl10 (wsO cA ad g) H) (hS : va_S A s.heap H locs) (hl : lv_has ls (pmeta mm).2.1 (lvp ad 0 loc)) (ha : agM g s0) : W p l e R s m args below meth c H locs nc ns Q (F0 m pc ls ((as.reverse ++ r).map (tvV ad))) := by
  obtain ⟨hx, hb, hml, hown, hts, hK, hRW, hinj, hAk, -⟩ := hX
  have ok := ok9_all _ _ _ he
  have ok : decide (((pmeta mm).1, i, (901, n, ci, rk)) ∈ [(9, 178, (901, 2, 9, 2)), (9, 245, (902, 2, 9, 1))]) = true := ok
  have ok := of_decide_eq_true ok
  simp only [List.mem_cons, Prod.mk.injEq, List.not_mem_nil, or_false] at ok
  obtain ⟨h1, rfl, rfl⟩ : (pmeta mm).1 = 9 ∧ i = 178 ∧ rk = 2 := by omega
  rw [h1] at hown
  obtain ⟨⟨adV, h7⟩, h8, h9⟩ := hRW.2.2.2.2.2
  have hT : TX (fun i => ad (1010 + i)) adV A s s.heap := ⟨h7, h8, h9⟩
  obtain ⟨i, x, hi, rfl, h0⟩ := pP_901 h
  show W p l e R s m args below meth c H locs nc ns Q (F0 m pc ls (.int x :: .ref (ad (1010 + i)) :: r.map (tvV ad)))
  refine va_calli (va_runS (As := [.ref (ad (1010 + i)), .int x]) (rest := r.map (tvV ad)) ⟨hx, hb, hml, hown, hts⟩ (c_amg l (fun i => ad (1010 + i)) adV i hi x) (cw_s (n := 2) hts (inG_mem (p := 1474) (by decide +kernel)) (inG_mem (p := 1475) (by decide +kernel)) (inG_mem (p := 94) (by decide +kernel)) g_amg (by decide +kernel) rfl rfl ⟨by show 8 + 1 ≤ R.frames; omega, by show 8 + (3 + 11) + 180 ≤ R.locals; omega⟩) ⟨PX_blind, PX_U hT hS⟩ rfl rfl hl.1 rfl (lv_room (by rw [catL_sum]; exact hcat)) hd hN) hS (fun _ _ h => h.elim) (fun _ h => h.elim) (fun r' u t H1 locs1 ht hvm hw hB hz1 hk1 hS1 => ?_)
  obtain rfl : r' = _ := hw
  have hP1 : va_P D cl10 (wsO cA ad g) H1 := hP.kept (fun k x hx => hk1 x.1 ((hP k x hx).lt) (fun h => h))
  have hE : tx_am x (List.drop 0 (bytTx.getD i [])) 0 = (if x ∈ strS (1010 + i) then 1 else 0) := by
    rw [tx_S i hi]; exact tx_amE x _ 0
  rw [hE]
  exact h0 H1 locs1 ls hP1 hS1 hl ha
theorem pr_902 (hX : CX p m c s args D cA ad A mm s0) (hR : 12 ≤ R.frames ∧ 400 ≤ R.locals) (hN : nc ≤ R.cells ∧ ns ≤ R.slots) {cl : Call} {n ci rk : Nat} {as r : List Value} (he : cpm (pmeta mm).1 i = some (902, n, ci, rk)) (hd : decode (mnB mm) pc = .ok (.invokestatic i, 3)) (hcat : catL r ≤ 8)
    (h : primP cl 902 as g (bhQ rk (XJ p l e R s m args below meth c Q D cA ad A mm s0 nc ns) (pc + 3) loc r)) (hP : va_P D cl10 (wsO cA ad g) H) (hS : va_S A s.heap H locs) (hl : lv_has ls (pmeta mm).2.1 (lvp ad 0 loc)) (ha : agM g s0) : W p l e R s m args below meth c H locs nc ns Q (F0 m pc ls ((as.reverse ++ r).map (tvV ad))) := by
  obtain ⟨hx, hb, hml, hown, hts, hK, hRW, hinj, hAk, -⟩ := hX
  have ok := ok9_all _ _ _ he
  have ok : decide (((pmeta mm).1, i, (902, n, ci, rk)) ∈ [(9, 178, (901, 2, 9, 2)), (9, 245, (902, 2, 9, 1))]) = true := ok
  have ok := of_decide_eq_true ok
  simp only [List.mem_cons, Prod.mk.injEq, List.not_mem_nil, or_false] at ok
  obtain ⟨h1, rfl, rfl⟩ : (pmeta mm).1 = 9 ∧ i = 245 ∧ rk = 1 := by omega
  rw [h1] at hown
  obtain ⟨⟨adV, h7⟩, h8, h9⟩ := hRW.2.2.2.2.2
  have hT : TX (fun i => ad (1010 + i)) adV A s s.heap := ⟨h7, h8, h9⟩
  obtain ⟨i, x, hi, rfl, h0⟩ := pP_902 h
  show W p l e R s m args below meth c H locs nc ns Q (F0 m pc ls (.int x :: .ref (ad (1010 + i)) :: r.map (tvV ad)))
  refine va_calli (va_runS (As := [.ref (ad (1010 + i)), .int x]) (rest := r.map (tvV ad)) ⟨hx, hb, hml, hown, hts⟩ (c_plc l (fun i => ad (1010 + i)) adV i hi x) (cw_s (n := 2) hts (inG_mem (p := 1392) (by decide +kernel)) (inG_mem (p := 1393) (by decide +kernel)) (inG_mem (p := 94) (by decide +kernel)) g_plc (by decide +kernel) rfl rfl ⟨by show 8 + 1 ≤ R.frames; omega, by show 8 + (3 + 11) + 180 ≤ R.locals; omega⟩) ⟨PX_blind, PX_U hT hS⟩ rfl rfl hl.1 rfl (lv_room (by rw [catL_sum]; exact hcat)) hd hN) hS (fun _ _ h => h.elim) (fun _ h => h.elim) (fun r' u t H1 locs1 ht hvm hw hB hz1 hk1 hS1 => ?_)
  obtain rfl : r' = _ := hw
  have hP1 : va_P D cl10 (wsO cA ad g) H1 := hP.kept (fun k x hx => hk1 x.1 ((hP k x hx).lt) (fun h => h))
  have hE : tx_pl x (List.drop 0 (bytTx.getD i [])) 0 = idxS x 0 (strS (1010 + i)) := by
    rw [tx_S i hi]; exact tx_plE x _ 0
  rw [hE]
  exact h0 H1 locs1 ls hP1 hS1 hl ha
theorem hp_all {d : Nat} (hX : CX p m c s args D cA ad A mm s0) (hR : (rmD (d + 2)).frames ≤ R.frames ∧ (rmD (d + 2)).locals ≤ R.locals) (hN : nc ≤ R.cells ∧ ns ≤ R.slots) : PrimOk p l e R s m args below meth c Q D cA ad A mm s0 nc ns (wp (d + 1)) := by
  intro pc i m' n ci rk as r loc g H locs ls h8 h9 he hd hn hcat h hP hS hl ha
  have hR1 : d + 2 + 10 ≤ R.frames := hR.1
  have hR2 : 40 * (d + 2) + 400 ≤ R.locals := hR.2
  unfold wp at h
  rw [Nat.ble_eq_true_of_le (show 900 ≤ m' by omega), cond_true] at h
  by_cases h91 : 910 ≤ m'
  · exact pr_math hX ⟨by omega, by omega⟩ hN h91 he hd hcat h hP hS hl ha
  · obtain rfl | rfl | rfl | rfl | rfl | rfl | rfl | rfl | rfl : m' = 901 ∨ m' = 902 ∨ m' = 903 ∨ m' = 904 ∨ m' = 905 ∨ m' = 906 ∨ m' = 907 ∨ m' = 908 ∨ m' = 909 := by omega
    · exact pr_901 hX ⟨by omega, by omega⟩ hN he hd hcat h hP hS hl ha
    · exact pr_902 hX ⟨by omega, by omega⟩ hN he hd hcat h hP hS hl ha
    all_goals exact h.elim
end Snd
theorem met_all {l : Launch} {D : va_G} {cA : Nat → ClassId} {ad : Nat → Nat} (hinj : ∀ i j, i < 88 → j < 88 → ad i = ad j → i = j) (d : Nat) : CallOk l D cA ad (rmD d) (wp d) :=
  met_ok hinj (fun _ _ _ _ _ _ _ _ _ _ _ _ _ _ _ _ _ hX hR hN => hp_all hX hR hN) d
