/-! the worth of a law hangs on its five letters alone -/
section
variable {T : Txt}
def LE (v : EnvL → Int32) : Prop := ∀ env env' : EnvL, (∀ i, ltr i = true → env i = env' i) → v env = v env'
theorem LE_V (V : Nat → Int32 → Int32 → Int32) (c : Nat) (v w : EnvL → Int32) (hv : LE v) (hw : LE w) : LE (fun env => V c (v env) (w env)) := fun env env' he => by
  show V c (v env) (w env) = V c (v env') (w env')
  rw [hv env env' he, hw env env' he]
def GRl (T : Txt) (p : Nat) (r : Sum Nat (Nat × Cl)) : Prop := match r with
  | .inl f => f ≤ T.2
  | .inr x => p < x.1 ∧ x.1 ≤ T.2 ∧ (∀ z, (flC z x.2).length ≤ x.1 - p) ∧ LE x.2.2.2 ∧ ∀ c, x.2.1 = some c → LE c.2
theorem atomP_H {T : Txt} {sub : Option (Nat → PR)} (hs : ∀ f, sub = some f → ∀ p, p ≤ T.2 → GR T LE p (f p)) {p : Nat} (hp : p ≤ T.2) : GR T LE p (atomP T sub p) := by
  have h1 := sk_ge (T := T) (p := p)
  have h2 := sk_le hp
  unfold atomP
  split
  · exact h2
  · rename_i hlt
    split
    · rename_i hd
      have := numL_1 (T := T) (p := sk T p) (by omega) hd
      revert this
      cases numL T 4 (sk T p) 0 with
      | inl f => exact id
      | inr x => exact fun ⟨a, b, c⟩ => ⟨by show p < x.1; omega, b, by show 1 ≤ x.1 - p; omega, fun _ _ _ => rfl⟩
    · split
      · rename_i hlr
        exact ⟨by show p < sk T p + 1; omega, by show sk T p + 1 ≤ _; omega, by show 1 ≤ sk T p + 1 - p; omega, fun env env' he => he _ hlr⟩
      · split
        · cases sub with
          | none => exact h2
          | some f =>
            have := hs f rfl (sk T p + 1) (by omega)
            show GR T LE p (bnd (f (sk T p + 1)) _)
            revert this
            cases f (sk T p + 1) with
            | inl e => exact id
            | inr x =>
              intro ⟨a, b, c, v⟩
              show GR T LE p (ned T x.1 93 fun p'' => .inr (p'', x.2))
              have h3 := sk_ge (T := T) (p := x.1)
              have h4 := sk_le b
              unfold ned
              split
              · rename_i hx
                have := isS_lt hx
                exact ⟨by show p < sk T x.1 + 1; omega, by show sk T x.1 + 1 ≤ _; omega, by show x.2.1.length ≤ sk T x.1 + 1 - p; omega, v⟩
              · exact h4
        · exact h2
theorem sumG_H {T : Txt} {sub : Option (Nat → PR)} (hs : ∀ f, sub = some f → ∀ p, p ≤ T.2 → GR T LE p (f p)) : ∀ p, p ≤ T.2 → GR T LE p (sumG T sub p) := fun _ hp =>
  rowP_G (LE_V opV) (fun _ hp => rowP_G (LE_V opV) (fun _ hp => atomP_H hs hp) hp) hp
theorem sumP_H {T : Txt} : ∀ k p, p ≤ T.2 → GR T LE p (sumP T k p)
  | 0 => sumG_H (fun _ z => by simp at z)
  | k + 1 => sumG_H (fun f z p hp => by injection z with z; subst z; exact sumP_H k p hp)
theorem cmpP_H {T : Txt} {k p p0 : Nat} {a : E} (hp : p ≤ T.2) (h0 : p0 < p) (hl : a.1.length ≤ p - p0) (ha : LE a.2) : GR T LE p0 (cmpP T (sumP T k) p a) := by
  have h1 := sk_ge (T := T) (p := p)
  have h2 := sk_le hp
  unfold cmpP
  split
  · rename_i hx
    have := sumP_H (T := T) k (sk T p + 1) (by omega)
    revert this
    cases sumP T k (sk T p + 1) with
    | inl e => exact id
    | inr x =>
      intro ⟨a1, b1, c1, v1⟩
      refine ⟨by show p0 < x.1; omega, b1, ?_, LE_V cmV _ _ _ ha v1⟩
      simp only [List.length_append, List.length_cons, List.length_nil]
      omega
  · exact h2
theorem condG_H {T : Txt} {un : Nat → PR} (hs : ∀ p, p ≤ T.2 → GR T LE p (un p)) {p : Nat} (hp : p ≤ T.2) : GR T LE p (condG T un p) :=
  rowP_G (LE_V orV) (fun _ hp => rowP_G (LE_V andV) hs hp) hp
theorem unitG_H {T : Txt} {k : Nat} {sub : Option (Nat → PR)} (hs : ∀ f, sub = some f → ∀ p, p ≤ T.2 → GR T LE p (f p)) {p : Nat} (hp : p ≤ T.2) : GR T LE p (unitG T (sumP T k) sub p) := by
  have h1 := sk_ge (T := T) (p := p)
  have h2 := sk_le hp
  unfold unitG
  split
  · rename_i hx
    have hlt := isS_lt hx
    cases sub with
    | none => exact h2
    | some un =>
      have := hs un rfl (sk T p + 1) (by omega)
      show GR T LE p (bnd (un (sk T p + 1)) _)
      revert this
      cases un (sk T p + 1) with
      | inl e => exact id
      | inr x =>
        intro ⟨a1, b1, c1, v1⟩
        refine ⟨by show p < x.1; omega, b1, ?_, fun env env' he => ?_⟩
        · show (x.2.1 ++ [- nI 33]).length ≤ x.1 - p
          simp only [List.length_append, List.length_cons, List.length_nil]
          omega
        · show nI 1 - x.2.2 env = nI 1 - x.2.2 env'
          rw [v1 env env' he]
  · split
    · rename_i hx
      have hlt := isS_lt hx
      cases sub with
      | none => exact h2
      | some un =>
        have := condG_H (hs un rfl) (p := sk T p + 1) (by omega)
        show GR T LE p (bnd (condG T un (sk T p + 1)) _)
        revert this
        cases condG T un (sk T p + 1) with
        | inl e => exact id
        | inr x =>
          intro ⟨a1, b1, c1, v1⟩
          show GR T LE p (ned T x.1 41 fun p'' => .inr (p'', x.2))
          have h3 := sk_ge (T := T) (p := x.1)
          have h4 := sk_le b1
          unfold ned
          split
          · rename_i hx
            have := isS_lt hx
            exact ⟨by show p < sk T x.1 + 1; omega, by show sk T x.1 + 1 ≤ _; omega, by show x.2.1.length ≤ sk T x.1 + 1 - p; omega, v1⟩
          · exact h4
    · have := sumP_H (T := T) k (sk T p) h2
      revert this
      cases sumP T k (sk T p) with
      | inl e => exact id
      | inr x => exact fun ⟨a1, b1, c1, v1⟩ => cmpP_H b1 (by omega) (by omega) v1
theorem unitP_H {T : Txt} : ∀ k p, p ≤ T.2 → GR T LE p (unitP T k p)
  | 0, _, hp => unitG_H (fun _ z => by simp at z) hp
  | k + 1, _, hp => unitG_H (fun f z p hp => by injection z with z; subst z; exact unitP_H k p hp) hp
theorem partG_H {un : Nat → PR} (hG : ∀ p, p ≤ T.2 → GR T LE p (un p)) : ∀ p, p ≤ T.2 → GR T LE p (partG T un p) := fun _ hp => rowP_G (LE_V andV) hG hp
theorem thenP_H {p p0 : Nat} {c : E} (hp : p ≤ T.2) (h0 : p0 + 2 ≤ p) (hc : c.1.length + 2 ≤ p - p0) (hb : LE c.2) : GRl T p0 (ned T p 63 fun p7 => bnd (sumP T 6 p7) fun p8 e => .inr (p8, (some c, e))) := by
  have k1 := sk_ge (T := T) (p := p)
  have k2 := sk_le hp
  refine ned_G (GRl T p0) (fun hx => ?_) k2
  · have hlt := (isS_lt hx).1
    have := sumP_H (T := T) 6 (sk T p + 1) (by omega)
    show GRl T p0 (bnd (sumP T 6 (sk T p + 1)) fun p8 e => .inr (p8, (some c, e)))
    revert this
    cases sumP T 6 (sk T p + 1) with
    | inl e => exact id
    | inr x =>
      intro ⟨a1, b1, c1, v1⟩
      refine ⟨by show p0 < x.1; omega, b1, fun z => ?_, v1, fun c' hc' => by injection hc' with hc'; subst hc'; exact hb⟩
      show ((c.1 ++ [- nI 63, _]) ++ (x.2.1 ++ [- nI 59])).length ≤ x.1 - p0
      simp only [List.length_append, List.length_cons, List.length_nil]
      omega
theorem clauP_H {p : Nat} (hp : p ≤ T.2) : GRl T p (clauP T p) := by
  have k1 := sk_ge (T := T) (p := p)
  have k2 := sk_le hp
  unfold clauP
  refine ned_G (GRl T p) (fun hx => ?_) k2
  · have hl1 := (isS_lt hx).1
    have k3 := sk_ge (T := T) (p := sk T p + 1)
    have k3' := sk_le (T := T) (p := sk T p + 1) (by omega)
    refine ned_G (GRl T p) (fun hx2 => ?_) k3'
    · have hl2 := (isS_lt hx2).1
      generalize hp2 : sk T (sk T p + 1) + 1 = p2
      have k4 := sk_ge (T := T) (p := p2)
      have k5 := sk_le (T := T) (p := p2) (by omega)
      split
      · have := condG_H (T := T) (unitP_H 6) k5
        revert this
        cases condG T (unitP T 6) (sk T p2) with
        | inl e => exact id
        | inr x =>
          intro ⟨a1, b1, c1, v1⟩
          exact thenP_H b1 (by omega) (by omega) v1
      · have := sumP_H (T := T) 6 (sk T p2) k5
        revert this
        cases sumP T 6 (sk T p2) with
        | inl e => exact id
        | inr x =>
          intro ⟨a1, b1, c1, v1⟩
          have k6 := sk_ge (T := T) (p := x.1)
          have k7 := sk_le b1
          show GRl T p (if sk T x.1 < T.2 ∧ csg (T.1 (sk T x.1)) = true then _ else _)
          split
          · have := cmpP_H (T := T) (k := 6) (p := sk T x.1) (p0 := sk T p2) (a := x.2) k7 (by omega) (by omega) v1
            revert this
            cases cmpP T (sumP T 6) (sk T x.1) x.2 with
            | inl e => exact id
            | inr e6 =>
              intro ⟨r1, r2, r3, r4⟩
              have := rowL_G (T := T) (c1 := 38) (c2 := 38) (LE_V andV) (unitP_H 6) (p0 := sk T p2) (T.2 + 1) e6.1 e6.2 r2 (by omega) r3 r4
              show GRl T p (bnd (rowL T 38 38 andV (unitP T 6) (T.2 + 1) e6.1 e6.2) fun p5 e3 => bnd (rowL T 124 124 orV (partG T (unitP T 6)) (T.2 + 1) p5 e3) fun p6 c => ned T p6 63 fun p7 => bnd (sumP T 6 p7) fun p8 e => .inr (p8, (some c, e)))
              revert this
              cases rowL T 38 38 andV (unitP T 6) (T.2 + 1) e6.1 e6.2 with
              | inl e => exact id
              | inr e7 =>
                intro ⟨u1, u2, u3, u4⟩
                have := rowL_G (T := T) (c1 := 124) (c2 := 124) (LE_V orV) (partG_H (unitP_H 6)) (p0 := sk T p2) (T.2 + 1) e7.1 e7.2 u2 (by omega) u3 u4
                show GRl T p (bnd (rowL T 124 124 orV (partG T (unitP T 6)) (T.2 + 1) e7.1 e7.2) fun p6 c => ned T p6 63 fun p7 => bnd (sumP T 6 p7) fun p8 e => .inr (p8, (some c, e)))
                revert this
                cases rowL T 124 124 orV (partG T (unitP T 6)) (T.2 + 1) e7.1 e7.2 with
                | inl e => exact id
                | inr e8 =>
                  intro ⟨w1, w2, w3, w4⟩
                  exact thenP_H w2 (by omega) (by omega) w4
          · refine ⟨by show p < sk T x.1; omega, k7, fun z => ?_, v1, fun c' hc' => by simp at hc'⟩
            show (x.2.1 ++ [- nI 59]).length ≤ sk T x.1 - p
            simp only [List.length_append, List.length_cons, List.length_nil]
            omega
end
