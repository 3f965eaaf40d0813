/-! REAL CALLS: max and min -/
theorem mt_cases {c i : Nat} {e : Nat × Nat × Nat × Nat} (h : cpm c i = some e) (h9 : 910 ≤ e.1) (h8 : e.1 ≠ 999) : ∃ z ∈ mthL, z.1 = c ∧ z.2.1 = i ∧ z.2.2.1 = e.1 ∧ e.2.1 = 2 ∧ e.2.2.2 = bif Nat.ble e.1 911 then 1 else 3 := by
  have ok := okMt_all _ _ _ h
  unfold okMt at ok
  simp only [Bool.or_eq_true, Bool.not_eq_true', Bool.and_eq_true, decide_eq_true_eq] at ok
  rcases ok with (ok | ok) | ⟨⟨z, hz, h1, h2, h3⟩, h4, h5⟩
  · rw [Nat.ble_eq_true_of_le h9] at ok; cases ok
  · exact absurd (Nat.eq_of_beq_eq_true ok) h8
  · exact ⟨z, hz, h1, h2, h3, h4, h5⟩
theorem mt_num : ∀ z ∈ mthL, z.2.2.1 = 910 ∨ z.2.2.1 = 911 ∨ z.2.2.1 = 912 ∨ z.2.2.1 = 913 := by decide
theorem mt_n910 : mnY 910 = Lib.Math.max.name := by decide +kernel
theorem mt_n911 : mnY 911 = Lib.Math.min.name := by decide +kernel
theorem mt_n912 : mnY 912 = Lib.MathLoose.max_long.x := by decide +kernel
theorem mt_n913 : mnY 913 = Lib.MathLoose.min_long.x := by decide +kernel
theorem mt_c910 : prog_18_method_65_code = Lib.Math.max.code := by decide +kernel
theorem mt_c911 : prog_18_method_69_code = Lib.Math.min.code := by decide +kernel
theorem mt_c912 : prog_18_method_66_code = Lib.MathLoose.max_long.code := by decide +kernel
theorem mt_c913 : prog_18_method_70_code = Lib.MathLoose.min_long.code := by decide +kernel
theorem pP_910 {cl : Call} {as : List Value} {g : Mem} {q : Post} (h : primP cl 910 as g q) : ∃ x y, as = [.int x, .int y] ∧ q (some (.int (if x < y then y else x))) g := by
  unfold primP at h
  simp only [show Nat.beq 910 900 = false from rfl, show Nat.beq 910 901 = false from rfl, show Nat.beq 910 902 = false from rfl, show Nat.beq 910 910 = true from rfl, cond_false, cond_true] at h
  split at h
  · next x y => exact ⟨x, y, rfl, h⟩
  · exact h.elim
theorem pP_911 {cl : Call} {as : List Value} {g : Mem} {q : Post} (h : primP cl 911 as g q) : ∃ x y, as = [.int x, .int y] ∧ q (some (.int (if y < x then y else x))) g := by
  unfold primP at h
  simp only [show Nat.beq 911 900 = false from rfl, show Nat.beq 911 901 = false from rfl, show Nat.beq 911 902 = false from rfl, show Nat.beq 911 910 = false from rfl, show Nat.beq 911 911 = true from rfl, cond_false, cond_true] at h
  split at h
  · next x y => exact ⟨x, y, rfl, h⟩
  · exact h.elim
theorem pP_912 {cl : Call} {as : List Value} {g : Mem} {q : Post} (h : primP cl 912 as g q) : ∃ x y, as = [.long x, .long y] ∧ q (some (.long (if x < y then y else x))) g := by
  unfold primP at h
  simp only [show Nat.beq 912 900 = false from rfl, show Nat.beq 912 901 = false from rfl, show Nat.beq 912 902 = false from rfl, show Nat.beq 912 910 = false from rfl, show Nat.beq 912 911 = false from rfl, show Nat.beq 912 912 = true from rfl, cond_false, cond_true] at h
  split at h
  · next x y => exact ⟨x, y, rfl, h⟩
  · exact h.elim
theorem pP_913 {cl : Call} {as : List Value} {g : Mem} {q : Post} (h : primP cl 913 as g q) : ∃ x y, as = [.long x, .long y] ∧ q (some (.long (if y < x then y else x))) g := by
  unfold primP at h
  simp only [show Nat.beq 913 900 = false from rfl, show Nat.beq 913 901 = false from rfl, show Nat.beq 913 902 = false from rfl, show Nat.beq 913 910 = false from rfl, show Nat.beq 913 911 = false from rfl, show Nat.beq 913 912 = false from rfl, show Nat.beq 913 913 = true from rfl, cond_false, cond_true] at h
  split at h
  · next x y => exact ⟨x, y, rfl, h⟩
  · exact h.elim
theorem mt_flip (x y : Int64) : (if x < y then y else x) = (if y < x then x else y) := by
  by_cases h : x < y
  · rw [if_pos h, if_neg (fun z => by rw [Int64.lt_iff_toInt_lt] at h z; omega)]
  · by_cases h' : y < x
    · rw [if_neg h, if_pos h']
    · rw [if_neg h, if_neg h']
      rw [Int64.lt_iff_toInt_lt] at h h'
      exact Int64.toInt_inj.mp (by omega)
section Snd
variable {p : Program} {l : Launch} {e : Env} {R : Room} {s : State} {m : MethodId} {args : Array Value} {below : List Frame} {meth : Method} {c : Code} {Q : State → Prop}
variable {D : va_G} {cA : Nat → ClassId} {ad : Nat → Nat} {A : Nat → Prop} {mm : Nat} {s0 : Mem} {nc ns : Nat}
variable {pc i : Nat} {loc : List Value} {g : Mem} {H : Heap} {locs : List Loc} {ls : Array Slot}
theorem pr_math (hX : CX p m c s args D cA ad A mm s0) (hR : 1 ≤ R.frames ∧ 40 ≤ R.locals) (hN : nc ≤ R.cells ∧ ns ≤ R.slots) {cl : Call} {m' n ci rk : Nat} {as r : List Value} (h9 : 910 ≤ m') (he : cpm (pmeta mm).1 i = some (m', n, ci, rk)) (hd : decode (mnB mm) pc = .ok (.invokestatic i, 3)) (hcat : catL r ≤ 8)
    (h : primP cl m' as g (bhQ rk (XJ p l e R s m args below meth c Q D cA ad A mm s0 nc ns) (pc + 3) loc r)) (hP : va_P D cl10 (wsO cA ad g) H) (hS : va_S A s.heap H locs) (hl : lv_has ls (pmeta mm).2.1 (lvp ad 0 loc)) (ha : agM g s0) : W p l e R s m args below meth c H locs nc ns Q (F0 m pc ls ((as.reverse ++ r).map (tvV ad))) := by
  obtain ⟨hx, hb, hml, hown, hts, hK, hRW, hinj, hAk, -⟩ := hX
  have hml' : c.maxLocals = ls.size := hml.trans hl.1.symm
  have h8 : m' ≠ 999 := by
    intro z; subst z; exact h
  obtain ⟨z, hz, z1, z2, z3, -, z5⟩ := mt_cases he h9 h8
  have hlk := List.all_eq_true.mp mthL_ok z hz
  rw [z1, z2, z3] at hlk
  have hlink := hts _ (inG_mem hlk)
  have hini := hts _ (inG_mem mth_ini)
  have hro : ((r.map (tvV ad)).map fun v => v.category).sum ≤ 8 := by rw [catL_sum]; exact hcat
  have hnum := mt_num z hz
  rw [z3] at hnum
  dsimp only at z5
  rcases hnum with rfl | rfl | rfl | rfl
  · obtain ⟨x, y, rfl, h⟩ := pP_910 h
    obtain rfl : rk = 1 := z5
    rw [mt_n910] at hlink
    have h1 := hts _ (inG_mem mth_910.1); rw [mt_n910] at h1
    have h2 := hts _ (inG_mem mth_910.2); rw [mt_n910, mt_c910] at h2
    exact va_mmax hx hb hml' hown hlink h1 hini h2 hR.1 (by show ((r.map (tvV ad)).map fun v => v.category).sum + _ ≤ _; omega) hN.1 hN.2 hd (h H locs ls hP hS hl ha)
  · obtain ⟨x, y, rfl, h⟩ := pP_911 h
    obtain rfl : rk = 1 := z5
    rw [mt_n911] at hlink
    have h1 := hts _ (inG_mem mth_911.1); rw [mt_n911] at h1
    have h2 := hts _ (inG_mem mth_911.2); rw [mt_n911, mt_c911] at h2
    exact va_mmin hx hb hml' hown hlink h1 hini h2 hR.1 (by show ((r.map (tvV ad)).map fun v => v.category).sum + _ ≤ _; omega) hN.1 hN.2 hd (h H locs ls hP hS hl ha)
  · obtain ⟨x, y, rfl, h⟩ := pP_912 h
    obtain rfl : rk = 3 := z5
    rw [mt_n912] at hlink
    have h1 := hts _ (inG_mem mth_912.1); rw [mt_n912] at h1
    have h2 := hts _ (inG_mem mth_912.2); rw [mt_n912, mt_c912] at h2
    have h : XJ p l e R s m args below meth c Q D cA ad A mm s0 nc ns (pc + 3) loc (.long (if x < y then y else x) :: r) g := h
    rw [mt_flip] at h
    exact va_mmax_long hx hb hml' hown hlink h1 hini h2 hR.1 (by show ((r.map (tvV ad)).map fun v => v.category).sum + _ ≤ _; omega) hN.1 hN.2 hd (h H locs ls hP hS hl ha)
  · obtain ⟨x, y, rfl, h⟩ := pP_913 h
    obtain rfl : rk = 3 := z5
    rw [mt_n913] at hlink
    have h1 := hts _ (inG_mem mth_913.1); rw [mt_n913] at h1
    have h2 := hts _ (inG_mem mth_913.2); rw [mt_n913, mt_c913] at h2
    exact va_mmin_long hx hb hml' hown hlink h1 hini h2 hR.1 (by show ((r.map (tvV ad)).map fun v => v.category).sum + _ ≤ _; omega) hN.1 hN.2 hd (h H locs ls hP hS hl ha)
end Snd
