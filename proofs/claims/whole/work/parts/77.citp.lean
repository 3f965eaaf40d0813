/-! cities' texts, read by a pure function -/
section
/-- rows, their lengths, streets, sources, items, whether dull was told, dull -/
abbrev RawC := Nat × (Nat → Nat) × (Nat → Nat → Bool) × Nat × (Nat → Nat → Nat) × Bool × Nat
def rR (r : RawC) : Nat := r.1
def rW (r : RawC) : Nat → Nat := r.2.1
def rT (r : RawC) : Nat → Nat → Bool := r.2.2.1
def rS (r : RawC) : Nat := r.2.2.2.1
def rI (r : RawC) : Nat → Nat → Nat := r.2.2.2.2.1
def rH (r : RawC) : Bool := r.2.2.2.2.2.1
def rD (r : RawC) : Nat := r.2.2.2.2.2.2
def grd (x : Nat) : Bool := decide (x = 46 ∨ x = 35)
def rowF (T : Txt) : Nat → Nat → Nat → (Nat → Bool) → Sum Nat (Nat × (Nat × (Nat → Bool)))
  | 0, p, len, f => if sk T p < T.2 ∧ grd (T.1 (sk T p)) = true then .inl (sk T p) else if len = 0 then .inl (sk T p) else .inr (sk T p, (len, f))
  | m + 1, p, len, f => if sk T p < T.2 ∧ grd (T.1 (sk T p)) = true then rowF T m (sk T p + 1) (len + 1) (fun k => if k = len then decide (T.1 (sk T p) = 46) else f k) else if len = 0 then .inl (sk T p) else .inr (sk T p, (len, f))
def itL (j : Nat) : Nat := if j = 0 then 107 else if j = 1 then 114 else if j = 2 then 99 else if j = 3 then 102 else if j = 4 then 117 else if j = 5 then 112 else 110
def itLo (j : Nat) : Nat := if j = 5 then 1 else 0
def itHi (j : Nat) : Nat := if j = 0 then 4 else if j = 1 then 3 else if j = 2 then 4 else if j = 3 then 23 else if j = 4 then 23 else if j = 5 then 9 else 50
def itU (j : Nat) : Nat := if j = 5 then 5 else if j = 6 then 1 else 0
/-- which item a letter tells: of a source (0 to 5), of noses (6) -/
def idx (src : Bool) (x : Nat) : Option Nat :=
  if src = true then (if x = 107 then some 0 else if x = 114 then some 1 else if x = 99 then some 2 else if x = 102 then some 3 else if x = 117 then some 4 else if x = 112 then some 5 else none)
  else (if x = 110 then some 6 else none)
def idxT (T : Txt) (src : Bool) (q : Nat) : Option Nat := if q < T.2 then idx src (T.1 q) else none
def itemsF (T : Txt) (src : Bool) : Nat → Nat → (Nat → Bool) → (Nat → Nat) → Sum Nat (Nat × (Nat → Nat))
  | 0, p, _, vals => (match idxT T src (sk T p) with
    | none => .inr (sk T p, vals)
    | some _ => .inl (sk T p))
  | m + 1, p, told, vals => (match idxT T src (sk T p) with
    | none => .inr (sk T p, vals)
    | some j => if told j = true then .inl (sk T p) else
        if sk T (sk T p + 1) < T.2 ∧ dg (T.1 (sk T (sk T p + 1))) = true then
          (match numL T 2 (sk T (sk T p + 1)) 0 with
          | .inl f => .inl f
          | .inr x => if x.2 < itLo j ∨ itHi j < x.2 then .inl (x.1 - 1) else itemsF T src m x.1 (fun k => if k = j then true else told k) (fun k => if k = j then x.2 else vals k))
        else .inl (sk T (sk T p + 1)))
def addRow (r : RawC) (x : Nat × (Nat → Bool)) : RawC := (rR r + 1, (fun k => if k = rR r then x.1 else rW r k), (fun k => if k = rR r then x.2 else rT r k), rS r, rI r, rH r, rD r)
def addSrc (r : RawC) (v : Nat → Nat) : RawC := (rR r, rW r, rT r, rS r + 1, (fun k => if k = rS r then v else rI r k), rH r, rD r)
def addDul (r : RawC) (v : Nat → Nat) : RawC := (rR r, rW r, rT r, rS r, rI r, true, v 6)
def clauC (T : Txt) (p : Nat) (r : RawC) : Sum Nat (Nat × RawC) :=
  if isS T (sk T p) 108 = true ∧ rR r < 4 then bnd (rowF T 5 (sk T p + 1) 0 (fun _ => false)) fun p' x => .inr (p', addRow r x)
  else if isS T (sk T p) 115 = true ∧ rS r < 6 then bnd (itemsF T true 6 (sk T p + 1) (fun _ => false) itU) fun p' v => .inr (p', addSrc r v)
  else if isS T (sk T p) 100 = true ∧ rH r = false then bnd (itemsF T false 1 (sk T p + 1) (fun _ => false) (fun _ => rD r)) fun p' v => .inr (p', addDul r v)
  else .inl (sk T p)
def whoC (r : RawC) : Bool := decide (0 < rR r ∧ 0 < rS r ∧ (∀ k, k < rR r → rW r k = rW r 0) ∧ ∀ k, k < rS r → rI r k 1 < rR r ∧ rI r k 2 < rW r 0 ∧ rT r (rI r k 1) (rI r k 2) = true)
def citL (T : Txt) : Nat → Nat → RawC → Sum Nat RawC
  | 0, p, _ => .inl p
  | f + 1, p, r => match clauC T p r with
    | .inl e => .inl e
    | .inr x => if isS T (sk T x.1) 59 = true then citL T f (sk T x.1 + 1) x.2 else if sk T x.1 < T.2 then .inl (sk T x.1) else if whoC x.2 = true then .inr x.2 else .inl T.2
def raw0 : RawC := (0, (fun _ => 0), (fun _ _ => false), 0, (fun _ j => itU j), false, 1)
def citP (T : Txt) : Sum Nat RawC := citL T (T.2 + 1) 0 raw0
def gph (r : RawC) : Gph := (rR r, rW r 0, rS r, (fun k => rT r (k / rW r 0) (k % rW r 0)), rI r)
/-- what is read keeps its bounds -/
def RawOk (r : RawC) : Prop := rR r ≤ 4 ∧ (∀ k, k < rR r → 1 ≤ rW r k ∧ rW r k ≤ 5) ∧ rS r ≤ 6 ∧ (∀ k j, k < rS r → j < 6 → rI r k j ≤ itHi j) ∧ rD r ≤ 50
theorem rowF_G {T : Txt} : ∀ m p len f, p ≤ T.2 → len + m = 5 → match rowF T m p len f with
    | .inl e => e ≤ T.2
    | .inr x => p ≤ x.1 ∧ x.1 ≤ T.2 ∧ sk T x.1 = x.1 ∧ 1 ≤ x.2.1 ∧ x.2.1 ≤ 5 := by
  intro m
  induction m with
  | zero =>
    intro p len f hp hm
    have h1 := sk_ge (T := T) (p := p)
    have h2 := sk_le hp
    by_cases hx : sk T p < T.2 ∧ grd (T.1 (sk T p)) = true
    · rw [show rowF T 0 p len f = .inl (sk T p) from if_pos hx]; exact h2
    · by_cases hl : len = 0
      · rw [show rowF T 0 p len f = .inl (sk T p) from (if_neg hx).trans (if_pos hl)]; exact h2
      · rw [show rowF T 0 p len f = .inr (sk T p, (len, f)) from (if_neg hx).trans (if_neg hl)]
        exact ⟨h1, h2, sk_sk, by show 1 ≤ len; omega, by show len ≤ 5; omega⟩
  | succ m ih =>
    intro p len f hp hm
    have h1 := sk_ge (T := T) (p := p)
    have h2 := sk_le hp
    by_cases hx : sk T p < T.2 ∧ grd (T.1 (sk T p)) = true
    · rw [show rowF T (m + 1) p len f = rowF T m (sk T p + 1) (len + 1) (fun k => if k = len then decide (T.1 (sk T p) = 46) else f k) from if_pos hx]
      have := ih (sk T p + 1) (len + 1) (fun k => if k = len then decide (T.1 (sk T p) = 46) else f k) (by omega) (by omega)
      revert this
      cases rowF T m (sk T p + 1) (len + 1) (fun k => if k = len then decide (T.1 (sk T p) = 46) else f k) with
      | inl e => exact id
      | inr x => exact fun ⟨a, b⟩ => ⟨by omega, b⟩
    · by_cases hl : len = 0
      · rw [show rowF T (m + 1) p len f = .inl (sk T p) from (if_neg hx).trans (if_pos hl)]; exact h2
      · rw [show rowF T (m + 1) p len f = .inr (sk T p, (len, f)) from (if_neg hx).trans (if_neg hl)]
        exact ⟨h1, h2, sk_sk, by show 1 ≤ len; omega, by show len ≤ 5; omega⟩
def ItG (T : Txt) (p : Nat) (r : Sum Nat (Nat × (Nat → Nat))) : Prop := match r with
  | .inl e => e ≤ T.2
  | .inr x => p ≤ x.1 ∧ x.1 ≤ T.2 ∧ sk T x.1 = x.1 ∧ ∀ j, j ≤ 6 → x.2 j ≤ itHi j
theorem itemsF_G {T : Txt} {src : Bool} : ∀ m p told vals, p ≤ T.2 → (∀ j, j ≤ 6 → vals j ≤ itHi j) → ItG T p (itemsF T src m p told vals) := by
  intro m
  induction m with
  | zero =>
    intro p told vals hp hv
    have h1 := sk_ge (T := T) (p := p)
    have h2 := sk_le hp
    unfold itemsF
    cases idxT T src (sk T p) with
    | none => exact ⟨h1, h2, sk_sk, hv⟩
    | some j => exact h2
  | succ m ih =>
    intro p told vals hp hv
    have h1 := sk_ge (T := T) (p := p)
    have h2 := sk_le hp
    unfold itemsF
    cases hi : idxT T src (sk T p) with
    | none => exact ⟨h1, h2, sk_sk, hv⟩
    | some j =>
      have hlt : sk T p < T.2 := by
        unfold idxT at hi
        by_cases z : sk T p < T.2
        · exact z
        · rw [if_neg z] at hi; simp at hi
      have h3 := sk_ge (T := T) (p := sk T p + 1)
      have h4 := sk_le (T := T) (p := sk T p + 1) (by omega)
      show ItG T p (if told j = true then _ else _)
      split
      · exact h2
      · split
        · rename_i hd
          have := numL_P (T := T) 2 (sk T (sk T p + 1)) 0 h4 (by decide) (by decide)
          revert this
          cases numL T 2 (sk T (sk T p + 1)) 0 with
          | inl e => exact id
          | inr x =>
            intro ⟨a, b, _⟩
            show ItG T p (if x.2 < itLo j ∨ itHi j < x.2 then _ else _)
            split
            · show x.1 - 1 ≤ T.2
              omega
            · have := ih x.1 (fun k => if k = j then true else told k) (fun k => if k = j then x.2 else vals k) b (fun k hk => by
                show (if k = j then x.2 else vals k) ≤ itHi k
                split
                · rename_i e; subst e; omega
                · exact hv k hk)
              revert this
              cases itemsF T src m x.1 (fun k => if k = j then true else told k) (fun k => if k = j then x.2 else vals k) with
              | inl e => exact id
              | inr y => exact fun ⟨a', b'⟩ => ⟨by show p ≤ y.1; omega, b'⟩
        · exact h4
def ClG (T : Txt) (p : Nat) (r : Sum Nat (Nat × RawC)) : Prop := match r with
  | .inl e => e ≤ T.2
  | .inr x => p < x.1 ∧ x.1 ≤ T.2 ∧ sk T x.1 = x.1 ∧ RawOk x.2
theorem clauC_G {T : Txt} {p : Nat} {r : RawC} (hp : p ≤ T.2) (hr : RawOk r) : ClG T p (clauC T p r) := by
  have h1 := sk_ge (T := T) (p := p)
  have h2 := sk_le hp
  obtain ⟨r1, r2, r3, r4, r5⟩ := hr
  unfold clauC
  split
  · rename_i hx
    have hlt := (isS_lt hx.1).1
    have := rowF_G (T := T) 5 (sk T p + 1) 0 (fun _ => false) (by omega) rfl
    revert this
    cases rowF T 5 (sk T p + 1) 0 (fun _ => false) with
    | inl e => exact id
    | inr x =>
      intro ⟨a, b, e, l1, l2⟩
      refine ⟨by show p < x.1; omega, b, e, ⟨by show rR r + 1 ≤ 4; omega, fun k hk => ?_, r3, r4, r5⟩⟩
      have hk' : k < rR r + 1 := hk
      show 1 ≤ (if k = rR r then x.2.1 else rW r k) ∧ (if k = rR r then x.2.1 else rW r k) ≤ 5
      split
      · exact ⟨l1, l2⟩
      · exact r2 k (by omega)
  · split
    · rename_i hx
      have hlt := (isS_lt hx.1).1
      have := itemsF_G (T := T) (src := true) 6 (sk T p + 1) (fun _ => false) itU (by omega) (by decide)
      revert this
      cases itemsF T true 6 (sk T p + 1) (fun _ => false) itU with
      | inl e => exact id
      | inr x =>
        intro ⟨a, b, e, hv⟩
        refine ⟨by show p < x.1; omega, b, e, ⟨r1, r2, by show rS r + 1 ≤ 6; omega, fun k j hk hj => ?_, r5⟩⟩
        have hk' : k < rS r + 1 := hk
        show (if k = rS r then x.2 else rI r k) j ≤ itHi j
        split
        · exact hv j (by omega)
        · exact r4 k j (by omega) hj
    · split
      · rename_i hx
        have hlt := (isS_lt hx.1).1
        have := itemsF_G (T := T) (src := false) 1 (sk T p + 1) (fun _ => false) (fun _ => rD r)
        have key : ∀ (m p : Nat) told (vals : Nat → Nat), p ≤ T.2 → vals 6 ≤ 50 → match itemsF T false m p told vals with
            | .inl e => e ≤ T.2
            | .inr x => p ≤ x.1 ∧ x.1 ≤ T.2 ∧ sk T x.1 = x.1 ∧ x.2 6 ≤ 50 := by
          intro m
          induction m with
          | zero =>
            intro p told vals hp hv
            have k1 := sk_ge (T := T) (p := p)
            have k2 := sk_le hp
            unfold itemsF
            cases idxT T false (sk T p) with
            | none => exact ⟨k1, k2, sk_sk, hv⟩
            | some j => exact k2
          | succ m ih =>
            intro p told vals hp hv
            have k1 := sk_ge (T := T) (p := p)
            have k2 := sk_le hp
            cases hi : idxT T false (sk T p) with
            | none =>
              rw [show itemsF T false (m + 1) p told vals = .inr (sk T p, vals) from by unfold itemsF; rw [hi]]
              exact ⟨k1, k2, sk_sk, hv⟩
            | some j =>
              have hlt2 : sk T p < T.2 := by
                unfold idxT at hi
                by_cases z : sk T p < T.2
                · exact z
                · rw [if_neg z] at hi; simp at hi
              have hj6 : j = 6 := by
                unfold idxT idx at hi
                rw [if_pos hlt2, if_neg (by decide)] at hi
                split at hi
                · injection hi with hi; exact hi.symm
                · simp at hi
              have k3 := sk_ge (T := T) (p := sk T p + 1)
              have k4 := sk_le (T := T) (p := sk T p + 1) (by omega)
              have e0 : itemsF T false (m + 1) p told vals = if told j = true then .inl (sk T p) else
                  if sk T (sk T p + 1) < T.2 ∧ dg (T.1 (sk T (sk T p + 1))) = true then
                    (match numL T 2 (sk T (sk T p + 1)) 0 with
                    | .inl f => .inl f
                    | .inr x => if x.2 < itLo j ∨ itHi j < x.2 then .inl (x.1 - 1) else itemsF T false m x.1 (fun k => if k = j then true else told k) (fun k => if k = j then x.2 else vals k))
                  else .inl (sk T (sk T p + 1)) := by
                conv => lhs; unfold itemsF
                rw [hi]
              rw [e0]
              by_cases ht : told j = true
              · rw [if_pos ht]; exact k2
              · rw [if_neg ht]
                by_cases hd : sk T (sk T p + 1) < T.2 ∧ dg (T.1 (sk T (sk T p + 1))) = true
                · rw [if_pos hd]
                  have := numL_P (T := T) 2 (sk T (sk T p + 1)) 0 k4 (by decide) (by decide)
                  revert this
                  cases numL T 2 (sk T (sk T p + 1)) 0 with
                  | inl e => exact id
                  | inr x =>
                    intro ⟨a, b, _⟩
                    by_cases hb : x.2 < itLo j ∨ itHi j < x.2
                    · show match (if x.2 < itLo j ∨ itHi j < x.2 then .inl (x.1 - 1) else itemsF T false m x.1 _ _) with | .inl e => e ≤ T.2 | .inr x => _
                      rw [if_pos hb]
                      show x.1 - 1 ≤ T.2
                      omega
                    · show match (if x.2 < itLo j ∨ itHi j < x.2 then .inl (x.1 - 1) else itemsF T false m x.1 (fun k => if k = j then true else told k) (fun k => if k = j then x.2 else vals k)) with | .inl e => e ≤ T.2 | .inr x => _
                      rw [if_neg hb]
                      have := ih x.1 (fun k => if k = j then true else told k) (fun k => if k = j then x.2 else vals k) b (by
                        subst hj6
                        show (if 6 = 6 then x.2 else vals 6) ≤ 50
                        rw [if_pos rfl]
                        have : itHi 6 = 50 := rfl
                        omega)
                      revert this
                      cases itemsF T false m x.1 (fun k => if k = j then true else told k) (fun k => if k = j then x.2 else vals k) with
                      | inl e => exact id
                      | inr y => exact fun ⟨a', b'⟩ => ⟨by omega, b'⟩
                · rw [if_neg hd]; exact k4
        have := key 1 (sk T p + 1) (fun _ => false) (fun _ => rD r) (by omega) r5
        revert this
        cases itemsF T false 1 (sk T p + 1) (fun _ => false) (fun _ => rD r) with
        | inl e => exact id
        | inr x => exact fun ⟨a, b, e, hv⟩ => ⟨by show p < x.1; omega, b, e, ⟨r1, r2, r3, r4, hv⟩⟩
      · exact h2
theorem gph_ok {r : RawC} (h : RawOk r) (hw : whoC r = true) : gOk (gph r) := by
  obtain ⟨r1, r2, r3, r4, r5⟩ := h
  obtain ⟨w1, w2, w3, w4⟩ := of_decide_eq_true hw
  have hW := r2 0 w1
  refine ⟨r1, hW.2, r3, fun _ => ⟨hW.1, w2, ?_⟩, fun z => absurd w1 (by show ¬ 0 < rR r; have : rR r = 0 := z; omega), fun k hk => ?_⟩
  · obtain ⟨a, b, e⟩ := w4 0 w2
    refine ⟨rI r 0 1 * rW r 0 + rI r 0 2, ?_, ?_⟩
    · show rI r 0 1 * rW r 0 + rI r 0 2 < rR r * rW r 0
      have : (rI r 0 1 + 1) * rW r 0 ≤ rR r * rW r 0 := Nat.mul_le_mul_right _ a
      rw [Nat.add_mul] at this
      omega
    · show rT r ((rI r 0 1 * rW r 0 + rI r 0 2) / rW r 0) ((rI r 0 1 * rW r 0 + rI r 0 2) % rW r 0) = true
      rw [Nat.mul_comm, Nat.mul_add_div hW.1, Nat.div_eq_of_lt b, Nat.add_zero, Nat.mul_add_mod, Nat.mod_eq_of_lt b]
      exact e
  · obtain ⟨a, b, e⟩ := w4 k hk
    have i0 := r4 k 0 hk (by decide)
    have i3 := r4 k 3 hk (by decide)
    have i4 := r4 k 4 hk (by decide)
    have i5 := r4 k 5 hk (by decide)
    refine ⟨i0, a, b, i3, i4, i5, ?_⟩
    show rT r ((rI r k 1 * rW r 0 + rI r k 2) / rW r 0) ((rI r k 1 * rW r 0 + rI r k 2) % rW r 0) = true
    rw [Nat.mul_comm, Nat.mul_add_div hW.1, Nat.div_eq_of_lt b, Nat.add_zero, Nat.mul_add_mod, Nat.mod_eq_of_lt b]
    exact e
end
