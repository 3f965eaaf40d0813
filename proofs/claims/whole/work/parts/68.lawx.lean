/-! the class works a law's code off (made by gen/lawx.py) -/
section
def BE (env : EnvL) : Prop := ∀ i, bd (env i)
/-- the letters, as the class keeps them -/
def LtS (l : Nat) (env : EnvL) (s : Mem) : Prop := s l 3 = env 112 ∧ s l 4 = env 102 ∧ s l 5 = env 104 ∧ s l 6 = env 107 ∧ s l 7 = env 119
/-- code that lays v on the stack -/
def Run (l h : Nat) (cs : List Int32) (env : EnvL) (v : Int32) : Prop := ∀ (d i t nx z : Nat) (v4 : Value) (s : Mem) (K : Int32 → Mem → Prop), 4 ≤ d → (∀ j x, cs[j]? = some x → s (l + 1) (i + j) = x) → nx ≤ i → s l 1 = nI z → i + cs.length ≤ z → z ≤ 160 → t + h ≤ 18 → LtS l env s →
  (∀ s' v4, frm [l + 2] s s' → (∀ k, k < t → s' (l + 2) k = s (l + 2) k) → s' (l + 2) t = v → RnI d m_L_worth K 6 [.ref l, .int (nI (t + 1)), .int (nI nx), .int (nI (i + cs.length)), v4] [] s') →
  RnI d m_L_worth K 6 [.ref l, .int (nI t), .int (nI nx), .int (nI i), v4] [] s
def RE (h : Nat) (e : E) : Prop := 1 ≤ e.1.length ∧ 1 ≤ h ∧ ∀ l env, isL l → BE env → Run l h e.1 env (e.2 env)
theorem RE_mono {h h' : Nat} {e : E} (hh : h ≤ h') (he : RE h e) : RE h' e := ⟨he.1, Nat.le_trans he.2.1 hh, fun l env hl hE d i t nx z v4 s K hd hc hnx hz hlen hz2 ht => he.2.2 l env hl hE d i t nx z v4 s K hd hc hnx hz hlen hz2 (by omega)⟩
theorem Lt_f {l : Nat} {env : EnvL} {s t : Mem} (h : LtS l env s) (hf : frm [l + 2] s t) : LtS l env t := by
  unfold LtS at *
  rw [hf l (by simp)]
  exact h
theorem neg_ne {c k : Nat} (hc : c < 256) (hk : k < 256) (h : c ≠ k) : ¬ - nI c = - nI k := fun z => by
  have := congrArg (fun x => - x) z
  simp only [Int32.neg_neg] at this
  rw [nI_eq (by omega) (by omega)] at this
  exact h this
theorem neg_lt {c : Nat} (h0 : 0 < c) (hc : c < 256) : - nI c < 0 := by
  have key : ∀ c, c < 256 → 0 < c → decide (- nI c < 0) = true := by decide +kernel
  exact of_decide_eq_true (key c hc h0)
theorem c_letterW {d l c : Nat} {env : EnvL} {s : Mem} {K : Int32 → Mem → Prop} (hl : isL l) (hd : 1 ≤ d) (hc : ltr c = true) (h : LtS l env s) : wI (wp d) m_L_letterWorth [.ref l, .int (nI c)] s K = K (env c) s := by
  have hsh := isL_b hl
  obtain ⟨d, rfl⟩ : ∃ e, d = e + 1 := ⟨d - 1, by omega⟩
  obtain ⟨h1, h2, h3, h4, h5⟩ := h
  rw [e_L_letterWorth]
  simp only [hsh, cond_true, h1, h2, h3, h4, h5]
  rcases of_decide_eq_true hc with rfl | rfl | rfl | rfl | rfl
  · rw [if_neg (by decide), if_neg (by decide), if_neg (by decide), if_pos (by decide)]
  · rw [if_pos (by decide)]
  · rw [if_neg (by decide), if_pos (by decide)]
  · rw [if_neg (by decide), if_neg (by decide), if_pos (by decide)]
  · rw [if_neg (by decide), if_neg (by decide), if_neg (by decide), if_neg (by decide)]
theorem Run_num {v : Nat} (hv : v < 10000) : RE 1 ([nI v], fun _ => nI v) := by
  refine ⟨by simp, Nat.le_refl _, ?_⟩
  intro l env hl _ d i t nx z v4 s K hd hc hnx hz hlen hz2 ht hL hK
  have hsh := isL_b hl
  have h18 := isL_18 hl
  obtain ⟨h1, h2, h3⟩ := isL_s hl
  have ec : s (l + 1) i = nI v := hc 0 _ rfl
  have n59 : ¬ nI v = -59 := fun z => by
    have h := congrArg Int32.toInt z
    rw [n_i (by omega), show (-59 : Int32).toInt = -59 from by decide] at h
    omega
  have n63 : ¬ nI v = -63 := fun z => by
    have h := congrArg Int32.toInt z
    rw [n_i (by omega), show (-63 : Int32).toInt = -63 from by decide] at h
    omega
  have hlen' : i + 1 ≤ z := hlen
  have ht' : t + 1 ≤ 18 := ht
  obtain ⟨d, rfl⟩ : ∃ e, d = e + 1 := ⟨d - 1, by omega⟩
  rw [r_L_worth_6]
  simp only [hsh, cond_true]
  rw [hz, if_pos (show nI i < nI z by rw [nI_ltI (by omega) (by omega)]; omega), c_at (d := d) (by rw [h2]) (by rw [h2]; show i < 160; omega), ec, if_neg (show ¬ nI i < nI nx by rw [nI_ltI (by omega) (by omega)]; omega),
    if_neg n59, if_neg n63,
    if_neg (show ¬ nI v < 0 by rw [q0, nI_ltI (by omega) (by omega)]; omega), if_neg (show ¬ nI v < 0 by rw [q0, nI_ltI (by omega) (by omega)]; omega)]
  rw [c_put (d := d) (by rw [h3]) (by omega) (by rw [h3]; show t < 18; omega), show nI t + 1 = nI (t + 1) from nI_add t 1, show nI i + 1 = nI (i + 1) from nI_add i 1]
  exact hK _ _ (frm_u (by simp)) (fun k hk => up_pl (by omega)) up_at
theorem Run_ltr {c : Nat} (hc : ltr c = true) : RE 1 ([- nI c], fun env => env c) := by
  refine ⟨by simp, Nat.le_refl _, ?_⟩
  intro l env hl _ d i t nx z v4 s K hd hcd hnx hz hlen hz2 ht hL hK
  have hsh := isL_b hl
  have h18 := isL_18 hl
  obtain ⟨h1, h2, h3⟩ := isL_s hl
  have ec : s (l + 1) i = - nI c := hcd 0 _ rfl
  have hlen' : i + 1 ≤ z := hlen
  have ht' : t + 1 ≤ 18 := ht
  have hcc := of_decide_eq_true hc
  obtain ⟨d, rfl⟩ : ∃ e, d = e + 1 := ⟨d - 1, by omega⟩
  rw [r_L_worth_6]
  simp only [hsh, cond_true]
  rw [hz, if_pos (show nI i < nI z by rw [nI_ltI (by omega) (by omega)]; omega), c_at (d := d) (by rw [h2]) (by rw [h2]; show i < 160; omega), ec, if_neg (show ¬ nI i < nI nx by rw [nI_ltI (by omega) (by omega)]; omega),
    if_neg (show ¬ - nI c = -59 from neg_ne (k := 59) (by omega) (by omega) (by omega)), if_neg (show ¬ - nI c = -63 from neg_ne (k := 63) (by omega) (by omega) (by omega)), if_pos (neg_lt (by omega) (by omega)), Int32.neg_neg, c_isLetter (by omega) (by omega), hc, if_neg (show ¬ b01 true = 0 by decide), if_pos (neg_lt (by omega) (by omega)), c_letterW hl (by omega) hc hL,
    c_put (d := d) (by rw [h3]) (by omega) (by rw [h3]; show t < 18; omega), show nI t + 1 = nI (t + 1) from nI_add t 1, show nI i + 1 = nI (i + 1) from nI_add i 1]
  exact hK _ _ (frm_u (by simp)) (fun k hk => up_pl (by omega)) up_at
/-- what the class makes of two numbers and a sign -/
def JV (c : Nat) (x y : Int32) : Int32 := if c = 38 then x &&& y else if c = 124 then x ||| y else if csg c = true then cmV c x y else opV c x y
def jsg (c : Nat) : Bool := decide (c = 38 ∨ c = 124 ∨ c = 61 ∨ c = 60 ∨ c = 62 ∨ c = 42 ∨ c = 43 ∨ c = 45 ∨ c = 47)
theorem div64 {x y : Int32} (hx : bd x) (hy : ¬ y = 0) : (x / y).toInt64 = x.toInt64 / y.toInt64 := by
  have hy0 : y.toInt ≠ 0 := fun z => hy (Int32.toInt_inj.mp z)
  have hb : -1000000 ≤ x.toInt.tdiv y.toInt ∧ x.toInt.tdiv y.toInt ≤ 1000000 := by
    have h1 : (x.toInt.tdiv y.toInt).natAbs ≤ x.toInt.natAbs := by
      rw [Int.natAbs_tdiv]
      exact Nat.div_le_self _ _
    have h2 : x.toInt.natAbs ≤ 1000000 := by unfold bd at hx; omega
    omega
  refine Int64.toInt_inj.mp ?_
  rw [Int32.toInt_toInt64, Int32.toInt_div, Int64.toInt_div, Int32.toInt_toInt64, Int32.toInt_toInt64, Int.bmod_eq_of_le (by omega) (by omega), Int.bmod_eq_of_le (by omega) (by omega)]
theorem c_joined {d c : Nat} {x y : Int32} {s : Mem} {K : Int32 → Mem → Prop} (hd : 3 ≤ d) (hc : jsg c = true) (hx : bd x) : wI (wp d) m_L_joined [.int x, .int (nI c), .int y] s K = K (JV c x y) s := by
  obtain ⟨d, rfl⟩ : ∃ e, d = e + 1 := ⟨d - 1, by omega⟩
  rw [e_L_joined]
  rcases of_decide_eq_true hc with rfl | rfl | rfl | rfl | rfl | rfl | rfl | rfl | rfl

  · rw [if_pos (show nI 38 = 38 from rfl)]; rfl
  · rw [if_neg (show ¬ nI 124 = 38 by decide), if_neg (show ¬ nI 124 = 39 by decide), if_neg (show ¬ nI 124 = 40 by decide), if_neg (show ¬ nI 124 = 41 by decide), if_neg (show ¬ nI 124 = 42 by decide), if_neg (show ¬ nI 124 = 43 by decide), if_neg (show ¬ nI 124 = 44 by decide), if_neg (show ¬ nI 124 = 45 by decide), if_neg (show ¬ nI 124 = 46 by decide), if_neg (show ¬ nI 124 = 47 by decide), if_neg (show ¬ nI 124 = 48 by decide), if_neg (show ¬ nI 124 = 49 by decide), if_neg (show ¬ nI 124 = 50 by decide), if_neg (show ¬ nI 124 = 51 by decide), if_neg (show ¬ nI 124 = 52 by decide), if_neg (show ¬ nI 124 = 53 by decide), if_neg (show ¬ nI 124 = 54 by decide), if_neg (show ¬ nI 124 = 55 by decide), if_neg (show ¬ nI 124 = 56 by decide), if_neg (show ¬ nI 124 = 57 by decide), if_neg (show ¬ nI 124 = 58 by decide), if_neg (show ¬ nI 124 = 59 by decide), if_neg (show ¬ nI 124 = 60 by decide), if_neg (show ¬ nI 124 = 61 by decide), if_neg (show ¬ nI 124 = 62 by decide)]; rfl
  · rw [if_neg (show ¬ nI 61 = 38 by decide), if_neg (show ¬ nI 61 = 39 by decide), if_neg (show ¬ nI 61 = 40 by decide), if_neg (show ¬ nI 61 = 41 by decide), if_neg (show ¬ nI 61 = 42 by decide), if_neg (show ¬ nI 61 = 43 by decide), if_neg (show ¬ nI 61 = 44 by decide), if_neg (show ¬ nI 61 = 45 by decide), if_neg (show ¬ nI 61 = 46 by decide), if_neg (show ¬ nI 61 = 47 by decide), if_neg (show ¬ nI 61 = 48 by decide), if_neg (show ¬ nI 61 = 49 by decide), if_neg (show ¬ nI 61 = 50 by decide), if_neg (show ¬ nI 61 = 51 by decide), if_neg (show ¬ nI 61 = 52 by decide), if_neg (show ¬ nI 61 = 53 by decide), if_neg (show ¬ nI 61 = 54 by decide), if_neg (show ¬ nI 61 = 55 by decide), if_neg (show ¬ nI 61 = 56 by decide), if_neg (show ¬ nI 61 = 57 by decide), if_neg (show ¬ nI 61 = 58 by decide), if_neg (show ¬ nI 61 = 59 by decide), if_neg (show ¬ nI 61 = 60 by decide), if_pos (show nI 61 = 61 from rfl), b01_if (f := fun v => K v s)]; rfl
  · rw [if_neg (show ¬ nI 60 = 38 by decide), if_neg (show ¬ nI 60 = 39 by decide), if_neg (show ¬ nI 60 = 40 by decide), if_neg (show ¬ nI 60 = 41 by decide), if_neg (show ¬ nI 60 = 42 by decide), if_neg (show ¬ nI 60 = 43 by decide), if_neg (show ¬ nI 60 = 44 by decide), if_neg (show ¬ nI 60 = 45 by decide), if_neg (show ¬ nI 60 = 46 by decide), if_neg (show ¬ nI 60 = 47 by decide), if_neg (show ¬ nI 60 = 48 by decide), if_neg (show ¬ nI 60 = 49 by decide), if_neg (show ¬ nI 60 = 50 by decide), if_neg (show ¬ nI 60 = 51 by decide), if_neg (show ¬ nI 60 = 52 by decide), if_neg (show ¬ nI 60 = 53 by decide), if_neg (show ¬ nI 60 = 54 by decide), if_neg (show ¬ nI 60 = 55 by decide), if_neg (show ¬ nI 60 = 56 by decide), if_neg (show ¬ nI 60 = 57 by decide), if_neg (show ¬ nI 60 = 58 by decide), if_neg (show ¬ nI 60 = 59 by decide), if_pos (show nI 60 = 60 from rfl), b01_if (f := fun v => K v s)]; rfl
  · rw [if_neg (show ¬ nI 62 = 38 by decide), if_neg (show ¬ nI 62 = 39 by decide), if_neg (show ¬ nI 62 = 40 by decide), if_neg (show ¬ nI 62 = 41 by decide), if_neg (show ¬ nI 62 = 42 by decide), if_neg (show ¬ nI 62 = 43 by decide), if_neg (show ¬ nI 62 = 44 by decide), if_neg (show ¬ nI 62 = 45 by decide), if_neg (show ¬ nI 62 = 46 by decide), if_neg (show ¬ nI 62 = 47 by decide), if_neg (show ¬ nI 62 = 48 by decide), if_neg (show ¬ nI 62 = 49 by decide), if_neg (show ¬ nI 62 = 50 by decide), if_neg (show ¬ nI 62 = 51 by decide), if_neg (show ¬ nI 62 = 52 by decide), if_neg (show ¬ nI 62 = 53 by decide), if_neg (show ¬ nI 62 = 54 by decide), if_neg (show ¬ nI 62 = 55 by decide), if_neg (show ¬ nI 62 = 56 by decide), if_neg (show ¬ nI 62 = 57 by decide), if_neg (show ¬ nI 62 = 58 by decide), if_neg (show ¬ nI 62 = 59 by decide), if_neg (show ¬ nI 62 = 60 by decide), if_neg (show ¬ nI 62 = 61 by decide), if_pos (show nI 62 = 62 from rfl), b01_if (f := fun v => K v s)]; rfl
  · rw [if_neg (show ¬ nI 42 = 38 by decide), if_neg (show ¬ nI 42 = 39 by decide), if_neg (show ¬ nI 42 = 40 by decide), if_neg (show ¬ nI 42 = 41 by decide), if_pos (show nI 42 = 42 from rfl), c_held (by omega)]; rfl
  · rw [if_neg (show ¬ nI 43 = 38 by decide), if_neg (show ¬ nI 43 = 39 by decide), if_neg (show ¬ nI 43 = 40 by decide), if_neg (show ¬ nI 43 = 41 by decide), if_neg (show ¬ nI 43 = 42 by decide), if_pos (show nI 43 = 43 from rfl), c_held (by omega)]; rfl
  · rw [if_neg (show ¬ nI 45 = 38 by decide), if_neg (show ¬ nI 45 = 39 by decide), if_neg (show ¬ nI 45 = 40 by decide), if_neg (show ¬ nI 45 = 41 by decide), if_neg (show ¬ nI 45 = 42 by decide), if_neg (show ¬ nI 45 = 43 by decide), if_neg (show ¬ nI 45 = 44 by decide), if_pos (show nI 45 = 45 from rfl), c_held (by omega)]; rfl
  · rw [if_neg (show ¬ nI 47 = 38 by decide), if_neg (show ¬ nI 47 = 39 by decide), if_neg (show ¬ nI 47 = 40 by decide), if_neg (show ¬ nI 47 = 41 by decide), if_neg (show ¬ nI 47 = 42 by decide), if_neg (show ¬ nI 47 = 43 by decide), if_neg (show ¬ nI 47 = 44 by decide), if_neg (show ¬ nI 47 = 45 by decide), if_neg (show ¬ nI 47 = 46 by decide), if_pos (show nI 47 = 47 from rfl)]
    by_cases hy : y = 0
    · rw [if_pos hy]
      have : JV 47 x y = nI 0 := by
        unfold JV opV
        rw [if_neg (by decide), if_neg (by decide), if_neg (by decide), if_neg (by decide), if_neg (by decide), if_neg (by decide), if_pos hy]
      rw [this]; rfl
    · rw [if_neg hy, if_neg hy, c_held (by omega), div64 hx hy]
      have : JV 47 x y = hld (x.toInt64 / y.toInt64) := by
        unfold JV opV
        rw [if_neg (by decide), if_neg (by decide), if_neg (by decide), if_neg (by decide), if_neg (by decide), if_neg (by decide), if_neg hy]
      rw [this]
/-- two pieces and a sign -/
theorem Run_op {h : Nat} {a e : E} {c : Nat} (hc : jsg c = true) (ha : RE (h + 1) a) (he : RE h e) (hv : VB a.2) : RE (h + 1) (a.1 ++ e.1 ++ [- nI c], fun env => JV c (a.2 env) (e.2 env)) := by
  have he1 := he.1
  have hh1 := he.2.1
  refine ⟨by simp only [List.length_append, List.length_cons, List.length_nil]; omega, ha.2.1, ?_⟩
  intro l env hl hE d i t nx z v4 s K hd hcd hnx hz hlen hz2 ht hL hK
  have hsh := isL_b hl
  have h18 := isL_18 hl
  obtain ⟨h1, h2, h3⟩ := isL_s hl
  have hl1 : (a.1 ++ e.1 ++ [- nI c]).length = a.1.length + e.1.length + 1 := by simp only [List.length_append, List.length_cons, List.length_nil]
  rw [hl1] at hlen
  have hcc := of_decide_eq_true hc
  have nl : ltr c = false := decide_eq_false (by omega)
  refine ha.2.2 l env hl hE d i t nx z v4 s K hd (fun j x hj => ?_) hnx hz (by omega) hz2 (by omega) hL fun s1 v41 f1 k1 e1 => ?_
  · refine hcd j x ?_
    have hjl := (List.getElem?_eq_some_iff.mp hj).1
    rw [List.append_assoc, List.getElem?_append_left hjl]; exact hj
  refine he.2.2 l env hl hE d (i + a.1.length) (t + 1) nx z v41 s1 K hd (fun j x hj => ?_) (by omega) (by rw [f1 l (by simp)]; exact hz) (by omega) hz2 (by omega) (Lt_f hL f1) fun s2 v42 f2 k2 e2 => ?_
  · rw [f1 (l + 1) (by simp), Nat.add_assoc]
    refine hcd (a.1.length + j) x ?_
    have hjl := (List.getElem?_eq_some_iff.mp hj).1
    rw [List.append_assoc, List.getElem?_append_right (by omega), Nat.add_sub_cancel_left, List.getElem?_append_left hjl]; exact hj
  have f12 : frm [l + 2] s s2 := frm_t f1 f2
  have ec : s2 (l + 1) (i + a.1.length + e.1.length) = - nI c := by
    rw [f12 (l + 1) (by simp), Nat.add_assoc]
    refine hcd (a.1.length + e.1.length) _ ?_
    rw [List.getElem?_append_right (by rw [List.length_append]; omega), List.length_append, Nat.sub_self]
    rfl
  have et : s2 (l + 2) t = a.2 env := by rw [k2 t (by omega)]; exact e1
  obtain ⟨d, rfl⟩ : ∃ e, d = e + 1 := ⟨d - 1, by omega⟩
  rw [r_L_worth_6]
  simp only [hsh, cond_true]
  have m1e : ∀ n : Nat, nI (n + 1) + (-1) = nI n := pk_m1
  have s1e : ∀ n : Nat, nI (n + 1) - 1 = nI n := fun n => by rw [show (1 : Int32) = nI 1 from rfl, n_sub (by omega)]; rfl
  rw [f12 l (by simp), hz, if_pos (show nI (i + a.1.length + e.1.length) < nI z by rw [nI_ltI (by omega) (by omega)]; omega), c_at (d := d) (by rw [h2]) (by rw [h2]; show i + a.1.length + e.1.length < 160; omega), ec, if_neg (show ¬ nI (i + a.1.length + e.1.length) < nI nx by rw [nI_ltI (by omega) (by omega)]; omega),
    if_neg (show ¬ - nI c = -59 from neg_ne (k := 59) (by omega) (by omega) (by omega)), if_neg (show ¬ - nI c = -63 from neg_ne (k := 63) (by omega) (by omega) (by omega)), if_pos (neg_lt (by omega) (by omega)), Int32.neg_neg, c_isLetter (by omega) (by omega), nl, if_pos (show b01 false = 0 from rfl), if_neg (show ¬ - nI c = -33 from neg_ne (k := 33) (by omega) (by omega) (by omega)),
    m1e, s1e, c_at (d := d) (by rw [h3]) (by rw [h3]; show t < 18; omega), c_at (d := d) (by rw [h3]) (by rw [h3]; show t + 1 < 18; omega), et, e2, c_joined (by omega) hc (hv env hE), c_put (d := d) (by rw [h3]) (by omega) (by rw [h3]; show t < 18; omega), show nI (i + a.1.length + e.1.length) + 1 = nI (i + a.1.length + e.1.length + 1) from nI_add _ 1]
  have := hK (upM s2 (l + 2) t (JV c (a.2 env) (e.2 env))) (.int (- nI c)) (frm_t f12 (frm_u (by simp))) (fun k hk => by rw [up_pl (by omega), k2 k (by omega), k1 k hk]) up_at
  rw [hl1, show i + (a.1.length + e.1.length + 1) = i + a.1.length + e.1.length + 1 by omega] at this
  exact this
theorem Run_not {h : Nat} {e : E} (he : RE h e) : RE h (e.1 ++ [- nI 33], fun env => nI 1 - e.2 env) := by
  have hh1 := he.2.1
  refine ⟨by simp only [List.length_append, List.length_cons, List.length_nil]; omega, hh1, ?_⟩
  intro l env hl hE d i t nx z v4 s K hd hcd hnx hz hlen hz2 ht hL hK
  have hsh := isL_b hl
  have h18 := isL_18 hl
  obtain ⟨h1, h2, h3⟩ := isL_s hl
  have hl1 : (e.1 ++ [- nI 33]).length = e.1.length + 1 := by simp only [List.length_append, List.length_cons, List.length_nil]
  rw [hl1] at hlen
  refine he.2.2 l env hl hE d i t nx z v4 s K hd (fun j x hj => ?_) hnx hz (by omega) hz2 (by omega) hL fun s2 v42 f2 k2 e2 => ?_
  · refine hcd j x ?_
    have hjl := (List.getElem?_eq_some_iff.mp hj).1
    rw [List.getElem?_append_left hjl]; exact hj
  have ec : s2 (l + 1) (i + e.1.length) = - nI 33 := by
    rw [f2 (l + 1) (by simp)]
    refine hcd e.1.length _ ?_
    rw [List.getElem?_append_right (by omega), Nat.sub_self]
    rfl
  obtain ⟨d, rfl⟩ : ∃ e, d = e + 1 := ⟨d - 1, by omega⟩
  rw [r_L_worth_6]
  simp only [hsh, cond_true]
  have s1e : ∀ n : Nat, nI (n + 1) - 1 = nI n := fun n => by rw [show (1 : Int32) = nI 1 from rfl, n_sub (by omega)]; rfl
  rw [f2 l (by simp), hz, if_pos (show nI (i + e.1.length) < nI z by rw [nI_ltI (by omega) (by omega)]; omega), c_at (d := d) (by rw [h2]) (by rw [h2]; show i + e.1.length < 160; omega), ec, if_neg (show ¬ nI (i + e.1.length) < nI nx by rw [nI_ltI (by omega) (by omega)]; omega),
    if_neg (show ¬ - nI 33 = -59 by decide), if_neg (show ¬ - nI 33 = -63 by decide), if_pos (neg_lt (by omega) (by omega)), Int32.neg_neg, c_isLetter (by omega) (by omega), show ltr 33 = false from by decide, if_pos (show b01 false = 0 from rfl), if_pos (show - nI 33 = -33 from rfl),
    s1e, c_at (d := d) (by rw [h3]) (by rw [h3]; show t < 18; omega), e2, c_put (d := d) (by rw [h3]) (by omega) (by rw [h3]; show t < 18; omega), show nI (i + e.1.length) + 1 = nI (i + e.1.length + 1) from nI_add _ 1]
  have := hK (upM s2 (l + 2) t (nI 1 - e.2 env)) (.int (- nI 33)) (frm_t f2 (frm_u (by simp))) (fun k hk => by rw [up_pl (by omega), k2 k hk]) up_at
  rw [hl1, show i + (e.1.length + 1) = i + e.1.length + 1 by omega] at this
  exact this
/-- what is read: code that lays its worth on the stack -/
def GE {α : Type} (B : α → Prop) (r : Sum Nat (Nat × α)) : Prop := match r with
  | .inl _ => True
  | .inr x => B x.2
theorem bnd_E {α β : Type} {B : α → Prop} {B' : β → Prop} {r : Sum Nat (Nat × α)} {f : Nat → α → Sum Nat (Nat × β)} (h : GE B r) (hf : ∀ p e, B e → GE B' (f p e)) : GE B' (bnd r f) := by
  cases r with
  | inl e => exact trivial
  | inr x => exact hf _ _ h
theorem ned_E {β : Type} {B' : β → Prop} {T : Txt} {p x : Nat} {f : Nat → Sum Nat (Nat × β)} (hf : ∀ p, GE B' (f p)) : GE B' (ned T p x f) := by
  unfold ned
  split
  · exact hf _
  · exact trivial
theorem GE_w {α : Type} {B B' : α → Prop} {r : Sum Nat (Nat × α)} (hB : ∀ e, B e → B' e) (h : GE B r) : GE B' r := by
  cases r with
  | inl e => exact trivial
  | inr x => exact hB _ h
def RS (h : Nat) (e : E) : Prop := RE h e ∧ VB e.2
def RU (h : Nat) (e : E) : Prop := RE h e ∧ TB e.2
theorem RS_mono {h h' : Nat} {e : E} (hh : h ≤ h') (he : RS h e) : RS h' e := ⟨RE_mono hh he.1, he.2⟩
theorem RU_mono {h h' : Nat} {e : E} (hh : h ≤ h') (he : RU h e) : RU h' e := ⟨RE_mono hh he.1, he.2⟩
theorem TB_VB {v : EnvL → Int32} (h : TB v) : VB v := fun env _ => by
  rcases h env with e | e <;> (rw [e]; exact bd_n (by decide))
theorem rowL_E {T : Txt} {c1 c2 : Nat} {V : Nat → Int32 → Int32 → Int32} {pr : Nat → PR} {B B1 : E → Prop} (hJ : ∀ c, c = c1 ∨ c = c2 → ∀ a e : E, B a → B1 e → B (a.1 ++ e.1 ++ [- nI c], fun env => V c (a.2 env) (e.2 env))) (hs : ∀ p, GE B1 (pr p)) : ∀ f p a, B a → GE B (rowL T c1 c2 V pr f p a)
  | 0, _, _, h => h
  | f + 1, p, a, h => by
    unfold rowL
    split
    · rename_i hx
      refine bnd_E (hs _) fun p' e he => rowL_E hJ hs f p' _ (hJ _ ?_ a e h he)
      rcases hx with hx | hx
      · exact Or.inl (isS_lt hx).2
      · exact Or.inr (isS_lt hx).2
    · exact h
theorem rowP_E {T : Txt} {c1 c2 : Nat} {V : Nat → Int32 → Int32 → Int32} {pr : Nat → PR} {B B1 : E → Prop} (hJ : ∀ c, c = c1 ∨ c = c2 → ∀ a e : E, B a → B1 e → B (a.1 ++ e.1 ++ [- nI c], fun env => V c (a.2 env) (e.2 env))) (hB : ∀ e, B1 e → B e) (hs : ∀ p, GE B1 (pr p)) (p : Nat) : GE B (rowP T c1 c2 V pr p) := bnd_E (hs p) fun p' e he => rowL_E hJ hs _ _ _ (hB e he)
theorem RS_op {h c : Nat} (hc : c = 42 ∨ c = 47 ∨ c = 43 ∨ c = 45) (a e : E) (ha : RS (h + 1) a) (he : RS h e) : RS (h + 1) (a.1 ++ e.1 ++ [- nI c], fun env => opV c (a.2 env) (e.2 env)) := by
  refine ⟨?_, fun _ _ => opV_b⟩
  have e0 : (fun env => opV c (a.2 env) (e.2 env)) = fun env => JV c (a.2 env) (e.2 env) := by
    funext env
    unfold JV
    rw [if_neg (by omega), if_neg (by omega), if_neg (by rw [show csg c = false from decide_eq_false (by omega)]; decide)]
  rw [e0]
  exact Run_op (decide_eq_true (by omega)) ha.1 he.1 ha.2
theorem atomP_E {T : Txt} {h : Nat} (h1 : 1 ≤ h) {sub : Option (Nat → PR)} (hs : ∀ f, sub = some f → ∀ p, GE (RS h) (f p)) (p : Nat) : GE (RS h) (atomP T sub p) := by
  unfold atomP
  split
  · exact trivial
  · rename_i hlt
    split
    · rename_i hd
      have := numL_1 (T := T) (p := sk T p) (by omega) hd
      revert this
      cases numL T 4 (sk T p) 0 with
      | inl f => exact fun _ => trivial
      | inr x => exact fun ⟨_, _, c⟩ => ⟨RE_mono h1 (Run_num c), fun _ _ => bd_n (by omega)⟩
    · split
      · rename_i hl
        exact ⟨RE_mono h1 (Run_ltr hl), fun env he => he _⟩
      · split
        · cases sub with
          | none => exact trivial
          | some f => exact bnd_E (hs f rfl _) fun p' e he => ned_E fun p'' => he
        · exact trivial
theorem sumG_E {T : Txt} {h : Nat} (h1 : 1 ≤ h) {sub : Option (Nat → PR)} (hs : ∀ f, sub = some f → ∀ p, GE (RS h) (f p)) (p : Nat) : GE (RS (h + 2)) (sumG T sub p) :=
  rowP_E (B := RS (h + 2)) (B1 := RS (h + 1)) (fun _ hc => RS_op (by omega)) (fun _ he => RS_mono (by omega) he) (fun p => rowP_E (B := RS (h + 1)) (B1 := RS h) (fun _ hc => RS_op (by omega)) (fun _ he => RS_mono (by omega) he) (atomP_E h1 hs) p) p
theorem sumP_E {T : Txt} : ∀ k p, GE (RS (2 * k + 3)) (sumP T k p)
  | 0, p => sumG_E (h := 1) (by omega) (fun _ z => by simp at z) p
  | k + 1, p => sumG_E (h := 2 * k + 3) (by omega) (fun f z => by injection z with z; subst z; exact sumP_E k) p
theorem cmpP_E {T : Txt} {k p : Nat} {a : E} (ha : RS (2 * k + 3) a) : GE (RU (2 * k + 4)) (cmpP T (sumP T k) p a) := by
  unfold cmpP
  split
  · rename_i hx
    refine bnd_E (sumP_E k _) fun p' e he => ⟨?_, fun _ => cmV_b⟩
    have hc := of_decide_eq_true hx.2
    have e0 : (fun env => cmV (T.1 (sk T p)) (a.2 env) (e.2 env)) = fun env => JV (T.1 (sk T p)) (a.2 env) (e.2 env) := by
      funext env
      unfold JV
      rw [if_neg (by omega), if_neg (by omega), if_pos hx.2]
    rw [e0]
    exact Run_op (decide_eq_true (by omega)) (RE_mono (by omega) ha.1) he.1 ha.2
  · exact trivial
theorem RU_and {h : Nat} (c : Nat) (hc : c = 38 ∨ c = 38) (a e : E) (ha : RU (h + 1) a) (he : RU h e) : RU (h + 1) (a.1 ++ e.1 ++ [- nI c], fun env => andV c (a.2 env) (e.2 env)) := by
  obtain rfl : c = 38 := by omega
  exact ⟨Run_op (c := 38) (by decide) ha.1 he.1 (TB_VB ha.2), TB_and 38 _ _ ha.2 he.2⟩
theorem RU_or {h : Nat} (c : Nat) (hc : c = 124 ∨ c = 124) (a e : E) (ha : RU (h + 1) a) (he : RU h e) : RU (h + 1) (a.1 ++ e.1 ++ [- nI c], fun env => orV c (a.2 env) (e.2 env)) := by
  obtain rfl : c = 124 := by omega
  exact ⟨Run_op (c := 124) (by decide) ha.1 he.1 (TB_VB ha.2), TB_or 124 _ _ ha.2 he.2⟩
theorem partG_E {T : Txt} {h : Nat} {un : Nat → PR} (hs : ∀ p, GE (RU h) (un p)) (p : Nat) : GE (RU (h + 1)) (rowP T 38 38 andV un p) := rowP_E (B := RU (h + 1)) (B1 := RU h) RU_and (fun _ he => RU_mono (by omega) he) hs p
theorem condG_E {T : Txt} {h : Nat} {un : Nat → PR} (hs : ∀ p, GE (RU h) (un p)) (p : Nat) : GE (RU (h + 2)) (condG T un p) := rowP_E (B := RU (h + 2)) (B1 := RU (h + 1)) RU_or (fun _ he => RU_mono (by omega) he) (partG_E hs) p
theorem unitG_E {T : Txt} {k : Nat} {sub : Option (Nat → PR)} (hs : ∀ f, sub = some f → ∀ p, GE (RU (2 * k + 2)) (f p)) (p : Nat) : GE (RU (2 * k + 4)) (unitG T (sumP T k) sub p) := by
  unfold unitG
  split
  · cases sub with
    | none => exact trivial
    | some un =>
      refine bnd_E (hs un rfl _) fun p' e he => ⟨RE_mono (by omega) (Run_not he.1), fun env => ?_⟩
      show nI 1 - e.2 env = nI 0 ∨ nI 1 - e.2 env = nI 1
      rcases he.2 env with h | h <;> (rw [h]; decide)
  · split
    · cases sub with
      | none => exact trivial
      | some un => exact bnd_E (condG_E (hs un rfl) _) fun p' e he => ned_E fun p'' => he
    · exact bnd_E (sumP_E k _) fun p' e he => cmpP_E he
theorem unitP_E {T : Txt} : ∀ k p, GE (RU (2 * k + 4)) (unitP T k p)
  | 0, p => unitG_E (k := 0) (fun _ z => by simp at z) p
  | k + 1, p => unitG_E (k := k + 1) (fun f z => by injection z with z; subst z; exact unitP_E k) p
def RC (cl : Cl) : Prop := RS 18 cl.2 ∧ ∀ c, cl.1 = some c → RU 18 c
theorem clauP_E {T : Txt} (p : Nat) : GE RC (clauP T p) := by
  have th : ∀ (c : E) (p : Nat), RU 18 c → GE RC (ned T p 63 fun p7 => bnd (sumP T 6 p7) fun p8 e => .inr (p8, (some c, e))) := fun c p hc => ned_E fun p7 => bnd_E (sumP_E 6 p7) fun p8 e he => ⟨RS_mono (by decide) he, fun c' z => by injection z with z; subst z; exact hc⟩
  unfold clauP
  refine ned_E fun p1 => ned_E fun p2 => ?_
  split
  · exact bnd_E (condG_E (unitP_E 6) _) fun p3 c hc => th c p3 hc
  · refine bnd_E (sumP_E 6 _) fun p3 e he => ?_
    show GE RC (if sk T p3 < T.2 ∧ csg (T.1 (sk T p3)) = true then _ else _)
    split
    · exact bnd_E (cmpP_E he) fun p4 e4 h4 => bnd_E (rowL_E (B := RU 17) (B1 := RU 16) RU_and (unitP_E 6) _ _ _ (RU_mono (by decide) h4)) fun p5 e5 h5 => bnd_E (rowL_E (B := RU 18) (B1 := RU 17) RU_or (partG_E (h := 16) (unitP_E 6)) _ _ _ (RU_mono (by decide) h5)) fun p6 c hc => th c p6 hc
    · exact ⟨RS_mono (by decide) he, fun c z => by simp at z⟩
theorem lawL_E {T : Txt} : ∀ f p cs, (∀ cl, cl ∈ cs → RC cl) → ∀ cs', lawL T f p cs = .inr cs' → ∀ cl, cl ∈ cs' → RC cl
  | 0, _, _, _, _, z => by simp [lawL] at z
  | f + 1, p, cs, h, cs', z => by
    have hc := clauP_E (T := T) p
    have z' : (match clauP T p with
      | .inl e => .inl e
      | .inr x => if isS T (sk T x.1) 59 = true then lawL T f (sk T x.1 + 1) (cs ++ [x.2]) else if sk T x.1 < T.2 then .inl (sk T x.1) else .inr (cs ++ [x.2])) = (.inr cs' : Sum Nat (List Cl)) := z
    revert z' hc
    cases clauP T p with
    | inl e => intro _ z'; simp at z'
    | inr x =>
      intro hc z'
      have hall : ∀ cl, cl ∈ cs ++ [x.2] → RC cl := fun cl hcl => by
        rcases List.mem_append.mp hcl with hcl | hcl
        · exact h cl hcl
        · rw [List.mem_singleton.mp hcl]; exact hc
      have z2 : (if isS T (sk T x.1) 59 = true then lawL T f (sk T x.1 + 1) (cs ++ [x.2]) else if sk T x.1 < T.2 then .inl (sk T x.1) else .inr (cs ++ [x.2])) = (.inr cs' : Sum Nat (List Cl)) := z'
      by_cases h59 : isS T (sk T x.1) 59 = true
      · rw [if_pos h59] at z2
        exact lawL_E f _ _ hall cs' z2
      · rw [if_neg h59] at z2
        by_cases hlt : sk T x.1 < T.2
        · rw [if_pos hlt] at z2; simp at z2
        · rw [if_neg hlt] at z2
          injection z2 with z2
          subst z2
          exact hall
/-- entries that are jumped over -/
theorem x_skip {l : Nat} (hl : isL l) {d t nx z : Nat} {s : Mem} {K : Int32 → Mem → Prop} (hd : 1 ≤ d) (hz : s l 1 = nI z) (hnz : nx ≤ z) (hz2 : z ≤ 160) (hK : ∀ v4, RnI d m_L_worth K 6 [.ref l, .int (nI t), .int (nI nx), .int (nI nx), v4] [] s) :
    ∀ (n i : Nat) (v4 : Value), i + n = nx → RnI d m_L_worth K 6 [.ref l, .int (nI t), .int (nI nx), .int (nI i), v4] [] s := by
  have hsh := isL_b hl
  obtain ⟨h1, h2, h3⟩ := isL_s hl
  intro n
  induction n with
  | zero => intro i v4 hi; obtain rfl : i = nx := by omega
            exact hK v4
  | succ n ih =>
    intro i v4 hi
    obtain ⟨d, rfl⟩ : ∃ e, d = e + 1 := ⟨d - 1, by omega⟩
    rw [r_L_worth_6]
    simp only [hsh, cond_true]
    rw [hz, if_pos (show nI i < nI z by rw [nI_ltI (by omega) (by omega)]; omega), c_at (d := d) (by rw [h2]) (by rw [h2]; show i < 160; omega), if_pos (show nI i < nI nx by rw [nI_ltI (by omega) (by omega)]; omega), show nI i + 1 = nI (i + 1) from nI_add i 1]
    exact ih (i + 1) _ (by omega)
/-- a sum that is a clause's last -/
theorem x_last {l : Nat} (hl : isL l) {env : EnvL} (hE : BE env) {h : Nat} (hh : h ≤ 18) {e : E} (he : RE h e) {d i nx z : Nat} {v4 : Value} {s : Mem} {K : Int32 → Mem → Prop} (hd : 4 ≤ d) (hc : ∀ j x, (e.1 ++ [- nI 59])[j]? = some x → s (l + 1) (i + j) = x) (hnx : nx ≤ i) (hz : s l 1 = nI z) (hlen : i + e.1.length + 1 ≤ z) (hz2 : z ≤ 160) (hL : LtS l env s) (hK : ∀ s', frm [l + 2] s s' → K (e.2 env) s') :
    RnI d m_L_worth K 6 [.ref l, .int (nI 0), .int (nI nx), .int (nI i), v4] [] s := by
  have hsh := isL_b hl
  obtain ⟨h1, h2, h3⟩ := isL_s hl
  refine he.2.2 l env hl hE d i 0 nx z v4 s K hd (fun j x hj => ?_) hnx hz (by omega) hz2 (by omega) hL fun s2 v42 f2 k2 e2 => ?_
  · refine hc j x ?_
    have hjl := (List.getElem?_eq_some_iff.mp hj).1
    rw [List.getElem?_append_left hjl]; exact hj
  have ec : s2 (l + 1) (i + e.1.length) = - nI 59 := by
    rw [f2 (l + 1) (by simp)]
    refine hc e.1.length _ ?_
    rw [List.getElem?_append_right (by omega), Nat.sub_self]
    rfl
  obtain ⟨d, rfl⟩ : ∃ e, d = e + 1 := ⟨d - 1, by omega⟩
  rw [r_L_worth_6]
  simp only [hsh, cond_true]
  rw [f2 l (by simp), hz, if_pos (show nI (i + e.1.length) < nI z by rw [nI_ltI (by omega) (by omega)]; omega), c_at (d := d) (by rw [h2]) (by rw [h2]; show i + e.1.length < 160; omega), ec, if_neg (show ¬ nI (i + e.1.length) < nI nx by rw [nI_ltI (by omega) (by omega)]; omega),
    if_pos (show - nI 59 = -59 from rfl), show nI (0 + 1) - 1 = nI 0 from rfl, c_at (d := d) (by rw [h3]) (by rw [h3]; decide), e2]
  exact hK s2 f2
theorem x_worth {l : Nat} (hl : isL l) {env : EnvL} (hE : BE env) {d z : Nat} (hd : 4 ≤ d) (hz2 : z ≤ 160) : ∀ (cs : List Cl) (i nx : Nat) (v4 : Value) (s : Mem) (K : Int32 → Mem → Prop), (∀ cl, cl ∈ cs → RC cl) → s l 1 = nI z → i + (flL i cs).length = z → nx ≤ i → (∀ j x, (flL i cs)[j]? = some x → s (l + 1) (i + j) = x) → LtS l env s → (∀ s', frm [l + 2] s s' → K (lawV env cs) s') →
    RnI d m_L_worth K 6 [.ref l, .int (nI 0), .int (nI nx), .int (nI i), v4] [] s
  | [], i, nx, v4, s, K, _, hz, hlen, hnx, hc, hL, hK => by
    have hsh := isL_b hl
    have hlen' : i = z := hlen
    subst hlen'
    rw [r_L_worth_6]
    simp only [hsh, cond_true]
    rw [hz, if_neg (show ¬ nI i < nI i by rw [nI_ltI (by omega) (by omega)]; omega)]
    exact hK s frm_r
  | (none, e) :: r, i, nx, v4, s, K, hR, hz, hlen, hnx, hc, hL, hK => by
    have hl1 : (flL i ((none, e) :: r)) = (e.1 ++ [- nI 59]) ++ flL (i + (e.1 ++ [- nI 59]).length) r := rfl
    rw [hl1] at hlen hc
    simp only [List.length_append, List.length_cons, List.length_nil] at hlen
    have hre : RC (none, e) := hR _ (by simp)
    refine x_last (e := e) hl hE (Nat.le_refl 18) hre.1.1 hd (fun j x hj => hc j x ?_) hnx hz (by omega) hz2 hL hK
    have hjl := (List.getElem?_eq_some_iff.mp hj).1
    rw [List.getElem?_append_left hjl]; exact hj
  | (some c, e) :: r, i, nx, v4, s, K, hR, hz, hlen, hnx, hc, hL, hK => by
    have hsh := isL_b hl
    obtain ⟨h1, h2, h3⟩ := isL_s hl
    have hl1 : (flL i ((some c, e) :: r)) = ((c.1 ++ [- nI 63, nI (i + c.1.length + 2 + e.1.length + 1)]) ++ (e.1 ++ [- nI 59])) ++ flL (i + ((c.1 ++ [- nI 63, nI (i + c.1.length + 2 + e.1.length + 1)]) ++ (e.1 ++ [- nI 59])).length) r := rfl
    have hre : RC (some c, e) := hR _ (by simp)
    have hll : ((c.1 ++ [- nI 63, nI (i + c.1.length + 2 + e.1.length + 1)]) ++ (e.1 ++ [- nI 59])).length = c.1.length + 2 + e.1.length + 1 := by
      simp only [List.length_append, List.length_cons, List.length_nil]
      omega
    rw [hll] at hl1
    rw [hl1] at hlen hc
    rw [List.length_append, hll] at hlen
    refine (hre.2 c rfl).1.2.2 l env hl hE d i 0 nx z v4 s K hd (fun j x hj => ?_) hnx hz (by omega) hz2 (by omega) hL fun s2 v42 f2 k2 e2 => ?_
    · refine hc j x ?_
      have hjl := (List.getElem?_eq_some_iff.mp hj).1
      rw [List.append_assoc, List.append_assoc, List.getElem?_append_left hjl]; exact hj
    have ec : s2 (l + 1) (i + c.1.length) = - nI 63 := by
      rw [f2 (l + 1) (by simp)]
      refine hc c.1.length _ ?_
      rw [List.append_assoc, List.append_assoc, List.getElem?_append_right (by omega), Nat.sub_self]
      rfl
    have ej : s2 (l + 1) (i + c.1.length + 1) = nI (i + c.1.length + 2 + e.1.length + 1) := by
      rw [f2 (l + 1) (by simp), Nat.add_assoc]
      refine hc (c.1.length + 1) _ ?_
      rw [List.append_assoc, List.append_assoc, List.getElem?_append_right (by omega), Nat.add_sub_cancel_left]
      rfl
    have hcr : ∀ j x, (flL (i + (c.1.length + 2 + e.1.length + 1)) r)[j]? = some x → s2 (l + 1) (i + (c.1.length + 2 + e.1.length + 1) + j) = x := by
      intro j x hj
      rw [f2 (l + 1) (by simp), Nat.add_assoc]
      refine hc (c.1.length + 2 + e.1.length + 1 + j) x ?_
      rw [List.getElem?_append_right (by rw [hll]; omega), hll, Nat.add_sub_cancel_left]; exact hj
    have hz' : s2 l 1 = nI z := by rw [f2 l (by simp)]; exact hz
    obtain ⟨d, rfl⟩ : ∃ e, d = e + 1 := ⟨d - 1, by omega⟩
    rw [r_L_worth_6]
    simp only [hsh, cond_true]
    rw [hz', if_pos (show nI (i + c.1.length) < nI z by rw [nI_ltI (by omega) (by omega)]; omega), c_at (d := d) (by rw [h2]) (by rw [h2]; show i + c.1.length < 160; omega), ec, if_neg (show ¬ nI (i + c.1.length) < nI nx by rw [nI_ltI (by omega) (by omega)]; omega),
      if_neg (show ¬ - nI 63 = -59 by decide), if_pos (show - nI 63 = -63 from rfl), show nI (0 + 1) + (-1) = nI 0 from rfl, c_at (d := d) (by rw [h3]) (by rw [h3]; decide), e2]
    have e1 : nI (i + c.1.length) + 1 = nI (i + c.1.length + 1) := nI_add _ 1
    have e2' : nI (i + c.1.length) + 2 = nI (i + c.1.length + 2) := nI_add _ 2
    rw [e1, e2']
    by_cases h0 : c.2 env = nI 0
    · rw [if_pos (show c.2 env = 0 from h0), c_at (d := d) (by rw [h2]) (by rw [h2]; show i + c.1.length + 1 < 160; omega), ej]
      have elv : lawV env ((some c, e) :: r) = lawV env r := if_pos h0
      rw [elv] at hK
      refine x_skip hl (by omega) hz' (by omega) hz2 (fun v4 => ?_) (e.1.length + 2) _ _ (by omega)
      rw [show i + c.1.length + 2 + e.1.length + 1 = i + (c.1.length + 2 + e.1.length + 1) by omega]
      exact x_worth hl hE hd hz2 r (i + (c.1.length + 2 + e.1.length + 1)) _ _ s2 K (fun cl h => hR cl (List.mem_cons_of_mem _ h)) hz' (by omega) (by omega) hcr (Lt_f hL f2) (fun s' f' => hK s' (frm_t f2 f'))
    · rw [if_neg (show ¬ c.2 env = 0 from h0)]
      have elv : lawV env ((some c, e) :: r) = e.2 env := if_neg h0
      rw [elv] at hK
      refine x_skip hl (by omega) hz' (by omega) hz2 (fun v4 => ?_) 1 _ _ (by omega)
      refine x_last (e := e) hl hE (Nat.le_refl 18) hre.1.1 hd (fun j x hj => ?_) (by omega) hz' (by omega) hz2 (Lt_f hL f2) (fun s' f' => hK s' (frm_t f2 f'))
      rw [f2 (l + 1) (by simp), show i + c.1.length + 2 + j = i + (c.1.length + 2 + j) by omega]
      refine hc (c.1.length + 2 + j) x ?_
      have hjl := (List.getElem?_eq_some_iff.mp hj).1
      rw [List.append_assoc, List.getElem?_append_right (by simp only [List.length_append, List.length_cons, List.length_nil]; omega)]
      rw [show c.1.length + 2 + j - (c.1 ++ [- nI 63, nI (i + c.1.length + 2 + e.1.length + 1)]).length = j by simp only [List.length_append, List.length_cons, List.length_nil]; omega, List.getElem?_append_left hjl]
      exact hj
/-- the letters of a question -/
def envW (pw f h kd w : Nat) : EnvL := fun i => if i = 112 then nI pw else if i = 102 then nI f else if i = 104 then nI h else if i = 107 then nI kd else if i = 119 then nI w else nI 0
def lawW (cs : List Cl) : Wth := fun pw f h kd w => lawV (envW pw f h kd w) cs
theorem LwC_law {l : Nat} (hl : isL l) {cs : List Cl} (hR : ∀ cl, cl ∈ cs → RC cl) (hlen : (flL 0 cs).length ≤ 160) : LwC l (lawW cs) (CodeA l (flL 0 cs)) := by
  intro d s K pw f h kd w hpw hf hh hkd hw hP hK
  have hsh := isL_b hl
  rw [e_L_letters]
  simp only [hsh, cond_true]
  rw [e_L_worth]
  have f1 : frm [l, l + 2] s (upM (upM (upM (upM (upM s l 3 (nI pw)) l 4 (nI f)) l 5 (nI h)) l 6 (nI kd)) l 7 (nI w)) := frm_t (frm_u (by simp)) (frm_t (frm_u (by simp)) (frm_t (frm_u (by simp)) (frm_t (frm_u (by simp)) (frm_u (by simp)))))
  have z1 : (upM (upM (upM (upM (upM s l 3 (nI pw)) l 4 (nI f)) l 5 (nI h)) l 6 (nI kd)) l 7 (nI w)) l 1 = nI (flL 0 cs).length := by simp [upM]; exact hP.1
  have cd : ∀ j x, (flL 0 cs)[j]? = some x → (upM (upM (upM (upM (upM s l 3 (nI pw)) l 4 (nI f)) l 5 (nI h)) l 6 (nI kd)) l 7 (nI w)) (l + 1) j = x := fun j x hj => by
    rw [f1 (l + 1) (by simp)]; exact hP.2 j x hj
  refine x_worth hl (env := envW pw f h kd w) (fun i => ?_) (by omega) hlen cs 0 0 _ _ K hR z1 (by omega) (by omega) (fun j x hj => by rw [Nat.zero_add]; exact cd j x hj) ?_ fun s' f' => ?_
  · unfold envW
    repeat' split
    all_goals exact bd_n (by omega)
  · unfold LtS envW
    simp [upM]
  · refine hK s' (frm_t f1 (frm_w f' (by simp))) ⟨?_, fun j x hj => ?_⟩
    · rw [f' l (by simp)]; exact z1
    · rw [f' (l + 1) (by simp)]; exact cd j x hj
end
