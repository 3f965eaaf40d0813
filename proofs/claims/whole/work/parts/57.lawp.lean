/-! laws' texts, read by a pure function: places, code, worth -/
section
/-- a text: its signs and how many -/
abbrev Txt := (Nat → Nat) × Nat
def TxOk (T : Txt) : Prop := T.2 ≤ 160 ∧ ∀ k, k < T.2 → 1 ≤ T.1 k ∧ T.1 k ≤ 255
def skF (T : Txt) : Nat → Nat → Nat
  | 0, p => p
  | f + 1, p => if p < T.2 ∧ T.1 p = 32 then skF T f (p + 1) else p
/-- behind the blanks -/
def sk (T : Txt) (p : Nat) : Nat := skF T (T.2 - p) p
/-- the sign there, -1 behind the last -/
def sg (T : Txt) (p : Nat) : Int32 := if p < T.2 then nI (T.1 p) else m1
def isS (T : Txt) (p x : Nat) : Bool := decide (p < T.2 ∧ T.1 p = x)
theorem sk_b {T : Txt} {p : Nat} (h : p < T.2) (h2 : T.1 p = 32) : sk T p = sk T (p + 1) := by
  unfold sk
  rw [show T.2 - p = (T.2 - (p + 1)) + 1 by omega]
  exact if_pos ⟨h, h2⟩
theorem sk_n {T : Txt} {p : Nat} (h : ¬ (p < T.2 ∧ T.1 p = 32)) : sk T p = p := by
  unfold sk
  cases e : T.2 - p with
  | zero => rfl
  | succ f => exact if_neg h
theorem skF_P {T : Txt} : ∀ f p, T.2 - p ≤ f → p ≤ skF T f p ∧ (p ≤ T.2 → skF T f p ≤ T.2) ∧ ¬ (skF T f p < T.2 ∧ T.1 (skF T f p) = 32)
  | 0, p, h => ⟨Nat.le_refl _, fun z => z, fun z => by have : p < T.2 := z.1; omega⟩
  | f + 1, p, h => by
    unfold skF
    split
    · rename_i e
      obtain ⟨a, b, c⟩ := skF_P (T := T) f (p + 1) (by omega)
      exact ⟨by omega, fun _ => b (by omega), c⟩
    · rename_i e
      exact ⟨Nat.le_refl _, fun z => z, e⟩
theorem sk_ge {T : Txt} {p : Nat} : p ≤ sk T p := (skF_P _ p (Nat.le_refl _)).1
theorem sk_le {T : Txt} {p : Nat} (h : p ≤ T.2) : sk T p ≤ T.2 := (skF_P _ p (Nat.le_refl _)).2.1 h
theorem sk_sk {T : Txt} {p : Nat} : sk T (sk T p) = sk T p := sk_n (skF_P _ p (Nat.le_refl _)).2.2
abbrev EnvL := Nat → Int32
/-- what a piece compiles to, and its worth -/
abbrev E := List Int32 × (EnvL → Int32)
abbrev PR := Sum Nat (Nat × E)
def bnd {α β : Type} (r : Sum Nat (Nat × α)) (f : Nat → α → Sum Nat (Nat × β)) : Sum Nat (Nat × β) := match r with
  | .inl e => .inl e
  | .inr x => f x.1 x.2
def ned {β : Type} (T : Txt) (p x : Nat) (f : Nat → Sum Nat (Nat × β)) : Sum Nat (Nat × β) := if isS T (sk T p) x = true then f (sk T p + 1) else .inl (sk T p)
def dg (x : Nat) : Bool := decide (48 ≤ x ∧ x ≤ 57)
def ltr (x : Nat) : Bool := decide (x = 112 ∨ x = 102 ∨ x = 104 ∨ x = 107 ∨ x = 119)
def csg (x : Nat) : Bool := decide (x = 61 ∨ x = 60 ∨ x = 62)
def numL (T : Txt) : Nat → Nat → Nat → Sum Nat (Nat × Nat)
  | 0, p, v => if p < T.2 ∧ dg (T.1 p) = true then .inl p else .inr (p, v)
  | k + 1, p, v => if p < T.2 ∧ dg (T.1 p) = true then numL T k (p + 1) (10 * v + T.1 p - 48) else .inr (p, v)
/-- held within the bound -/
def hld (v : Int64) : Int32 := (if (-1000000 : Int64) < (if v < 1000000 then v else 1000000) then (if v < 1000000 then v else 1000000) else -1000000).toInt32
def opV (c : Nat) (x y : Int32) : Int32 :=
  if c = 43 then hld (x.toInt64 + y.toInt64) else if c = 45 then hld (x.toInt64 - y.toInt64) else if c = 42 then hld (x.toInt64 * y.toInt64) else if y = 0 then nI 0 else hld (x.toInt64 / y.toInt64)
def cmV (c : Nat) (x y : Int32) : Int32 := if c = 61 then b01 (decide (x = y)) else if c = 60 then b01 (decide (x < y)) else b01 (decide (y < x))
def atomP (T : Txt) (sub : Option (Nat → PR)) (p : Nat) : PR :=
  if T.2 ≤ sk T p then .inl (sk T p)
  else if dg (T.1 (sk T p)) = true then bnd (numL T 4 (sk T p) 0) fun p' v => .inr (p', [nI v], fun _ => nI v)
  else if ltr (T.1 (sk T p)) = true then .inr (sk T p + 1, [- nI (T.1 (sk T p))], fun env => env (T.1 (sk T p)))
  else if T.1 (sk T p) = 91 then (match sub with
    | none => .inl (sk T p)
    | some f => bnd (f (sk T p + 1)) fun p' e => ned T p' 93 fun p'' => .inr (p'', e))
  else .inl (sk T p)
/-- a row of pieces with signs between: c1, c2 -/
def rowL (T : Txt) (c1 c2 : Nat) (V : Nat → Int32 → Int32 → Int32) (pr : Nat → PR) : Nat → Nat → E → PR
  | 0, p, a => .inr (sk T p, a)
  | f + 1, p, a => if isS T (sk T p) c1 = true ∨ isS T (sk T p) c2 = true then bnd (pr (sk T p + 1)) fun p' e => rowL T c1 c2 V pr f p' (a.1 ++ e.1 ++ [- nI (T.1 (sk T p))], fun env => V (T.1 (sk T p)) (a.2 env) (e.2 env)) else .inr (sk T p, a)
def rowP (T : Txt) (c1 c2 : Nat) (V : Nat → Int32 → Int32 → Int32) (pr : Nat → PR) (p : Nat) : PR := bnd (pr p) fun p' e => rowL T c1 c2 V pr (T.2 + 1) p' e
def termP (T : Txt) (sub : Option (Nat → PR)) : Nat → PR := rowP T 42 47 opV (atomP T sub)
def sumG (T : Txt) (sub : Option (Nat → PR)) : Nat → PR := rowP T 43 45 opV (termP T sub)
def sumP (T : Txt) : Nat → Nat → PR
  | 0 => sumG T none
  | k + 1 => sumG T (some (sumP T k))
/-- the comparison behind a sum -/
def cmpP (T : Txt) (sm : Nat → PR) (p : Nat) (a : E) : PR :=
  if sk T p < T.2 ∧ csg (T.1 (sk T p)) = true then bnd (sm (sk T p + 1)) fun p' e => .inr (p', a.1 ++ e.1 ++ [- nI (T.1 (sk T p))], fun env => cmV (T.1 (sk T p)) (a.2 env) (e.2 env)) else .inl (sk T p)
def andV (_ : Nat) (x y : Int32) : Int32 := x &&& y
def orV (_ : Nat) (x y : Int32) : Int32 := x ||| y
def partG (T : Txt) (un : Nat → PR) : Nat → PR := rowP T 38 38 andV un
def condG (T : Txt) (un : Nat → PR) : Nat → PR := rowP T 124 124 orV (partG T un)
def unitG (T : Txt) (sm : Nat → PR) (sub : Option (Nat → PR)) (p : Nat) : PR :=
  if isS T (sk T p) 33 = true then (match sub with
    | none => .inl (sk T p)
    | some un => bnd (un (sk T p + 1)) fun p' e => .inr (p', e.1 ++ [- nI 33], fun env => nI 1 - e.2 env))
  else if isS T (sk T p) 40 = true then (match sub with
    | none => .inl (sk T p)
    | some un => bnd (condG T un (sk T p + 1)) fun p' e => ned T p' 41 fun p'' => .inr (p'', e))
  else bnd (sm (sk T p)) fun p' e => cmpP T sm p' e
def unitP (T : Txt) : Nat → Nat → PR
  | 0 => unitG T (sumP T 0) none
  | k + 1 => unitG T (sumP T (k + 1)) (some (unitP T k))
abbrev Cl := Option E × E
def clauP (T : Txt) (p : Nat) : Sum Nat (Nat × Cl) :=
  ned T p 121 fun p1 => ned T p1 58 fun p2 =>
    if isS T (sk T p2) 33 = true ∨ isS T (sk T p2) 40 = true then
      bnd (condG T (unitP T 6) (sk T p2)) fun p3 c => ned T p3 63 fun p4 => bnd (sumP T 6 p4) fun p5 e => .inr (p5, (some c, e))
    else bnd (sumP T 6 (sk T p2)) fun p3 e1 =>
      if sk T p3 < T.2 ∧ csg (T.1 (sk T p3)) = true then
        bnd (cmpP T (sumP T 6) (sk T p3) e1) fun p4 e2 => bnd (rowL T 38 38 andV (unitP T 6) (T.2 + 1) p4 e2) fun p5 e3 => bnd (rowL T 124 124 orV (partG T (unitP T 6)) (T.2 + 1) p5 e3) fun p6 c =>
          ned T p6 63 fun p7 => bnd (sumP T 6 p7) fun p8 e => .inr (p8, (some c, e))
      else .inr (sk T p3, (none, e1))
def lawL (T : Txt) : Nat → Nat → List Cl → Sum Nat (List Cl)
  | 0, p, _ => .inl p
  | f + 1, p, cs => match clauP T p with
    | .inl e => .inl e
    | .inr x => if isS T (sk T x.1) 59 = true then lawL T f (sk T x.1 + 1) (cs ++ [x.2]) else if sk T x.1 < T.2 then .inl (sk T x.1) else .inr (cs ++ [x.2])
def lawP (T : Txt) : Sum Nat (List Cl) := lawL T (T.2 + 1) 0 []
/-- the worth of a law -/
def lawV (env : EnvL) : List Cl → Int32
  | [] => nI 0
  | (none, e) :: _ => e.2 env
  | (some c, e) :: r => if c.2 env = nI 0 then lawV env r else e.2 env
/-! how far it reads, how much code there is, how great the worth -/
def bd (x : Int32) : Prop := -1000000 ≤ x.toInt ∧ x.toInt ≤ 1000000
def VB (v : EnvL → Int32) : Prop := ∀ env, (∀ i, bd (env i)) → bd (v env)
def TB (v : EnvL → Int32) : Prop := ∀ env, v env = nI 0 ∨ v env = nI 1
/-- B: what its worth is like -/
def GR (T : Txt) (B : (EnvL → Int32) → Prop) (p : Nat) (r : PR) : Prop := match r with
  | .inl f => f ≤ T.2
  | .inr x => p < x.1 ∧ x.1 ≤ T.2 ∧ x.2.1.length ≤ x.1 - p ∧ B x.2.2
theorem bd_n {n : Nat} (h : n ≤ 1000000) : bd (nI n) := by
  unfold bd
  rw [n_i (by omega)]
  omega
theorem hld_b (v : Int64) : bd (hld v) := by
  have key : ∀ x : Int64, (-1000000 : Int64).toInt ≤ x.toInt → x.toInt ≤ (1000000 : Int64).toInt → bd x.toInt32 := by
    intro x h1 h2
    have e1 : (-1000000 : Int64).toInt = -1000000 := by decide
    have e2 : (1000000 : Int64).toInt = 1000000 := by decide
    rw [e1] at h1
    rw [e2] at h2
    unfold bd
    rw [Int64.toInt_toInt32, Int.bmod_eq_of_le (by omega) (by omega)]
    omega
  unfold hld
  by_cases h : v < 1000000
  · rw [if_pos h]
    split
    · rename_i h2
      exact key v (Int.le_of_lt (Int64.lt_iff_toInt_lt.mp h2)) (Int.le_of_lt (Int64.lt_iff_toInt_lt.mp h))
    · exact key _ (Int.le_refl _) (by decide)
  · rw [if_neg h, if_pos (by decide)]
    exact key _ (by decide) (Int.le_refl _)
theorem opV_b {c : Nat} {x y : Int32} : bd (opV c x y) := by
  unfold opV
  repeat' split
  · exact hld_b _
  · exact hld_b _
  · exact hld_b _
  · exact bd_n (by decide)
  · exact hld_b _
def NR (T : Txt) (p : Nat) (r : Sum Nat (Nat × Nat)) : Prop := match r with
  | .inl f => f ≤ T.2
  | .inr x => p ≤ x.1 ∧ x.1 ≤ T.2 ∧ x.2 < 10000
theorem NR_le {T : Txt} {p p' : Nat} {r : Sum Nat (Nat × Nat)} (h : NR T p' r) (hp : p ≤ p') : NR T p r := by
  cases r with
  | inl f => exact h
  | inr x => exact ⟨Nat.le_trans hp h.1, h.2.1, h.2.2⟩
theorem numL_P {T : Txt} : ∀ k p v, p ≤ T.2 → v < 10 ^ (4 - k) → k ≤ 4 → NR T p (numL T k p v)
  | 0, p, v, hp, hv, _ => by
    unfold numL
    split
    · exact hp
    · exact ⟨Nat.le_refl _, hp, hv⟩
  | k + 1, p, v, hp, hv, hk => by
    unfold numL
    have e10 : 10 ^ (4 - k) = 10 * 10 ^ (4 - (k + 1)) := by
      rw [show 4 - k = (4 - (k + 1)) + 1 by omega, Nat.pow_succ, Nat.mul_comm]
    split
    · rename_i h
      have hd := of_decide_eq_true h.2
      exact NR_le (numL_P (T := T) k (p + 1) (10 * v + T.1 p - 48) (by omega) (by omega) (by omega)) (by omega)
    · refine ⟨Nat.le_refl _, hp, ?_⟩
      have : 10 ^ (4 - (k + 1)) ≤ 10 ^ 4 := Nat.pow_le_pow_right (by decide) (by omega)
      show v < 10000
      omega
theorem numL_1 {T : Txt} {p : Nat} (hp : p < T.2) (h : dg (T.1 p) = true) : NR T (p + 1) (numL T 4 p 0) := by
  have hd := of_decide_eq_true h
  have e : numL T 4 p 0 = numL T 3 (p + 1) (10 * 0 + T.1 p - 48) := if_pos ⟨hp, h⟩
  rw [e]
  exact numL_P (T := T) 3 (p + 1) (10 * 0 + T.1 p - 48) (by omega) (by omega) (by omega)
theorem GR_le {T : Txt} {B : (EnvL → Int32) → Prop} {p p' : Nat} {r : PR} (h : GR T B p' r) (hp : p ≤ p') : GR T B p r := by
  cases r with
  | inl f => exact h
  | inr x => exact ⟨by have := h.1; omega, h.2.1, by have := h.2.2.1; omega, h.2.2.2⟩
theorem isS_lt {T : Txt} {q x : Nat} (h : isS T q x = true) : q < T.2 ∧ T.1 q = x := of_decide_eq_true h
theorem atomP_G {T : Txt} {sub : Option (Nat → PR)} (hs : ∀ f, sub = some f → ∀ p, p ≤ T.2 → GR T VB p (f p)) {p : Nat} (hp : p ≤ T.2) : GR T VB p (atomP T sub p) := by
  have h1 := sk_ge (T := T) (p := p)
  have h2 := sk_le hp
  unfold atomP
  split
  · exact h2
  · rename_i hlt
    split
    · rename_i hd
      have := numL_1 (T := T) (p := sk T p) (by omega) hd
      revert this
      cases numL T 4 (sk T p) 0 with
      | inl f => exact id
      | inr x => exact fun ⟨a, b, c⟩ => ⟨by show p < x.1; omega, b, by show 1 ≤ x.1 - p; omega, fun _ _ => bd_n (by omega)⟩
    · split
      · exact ⟨by show p < sk T p + 1; omega, by show sk T p + 1 ≤ _; omega, by show 1 ≤ sk T p + 1 - p; omega, fun env he => he _⟩
      · split
        · cases sub with
          | none => exact h2
          | some f =>
            have := hs f rfl (sk T p + 1) (by omega)
            show GR T VB p (bnd (f (sk T p + 1)) _)
            revert this
            cases f (sk T p + 1) with
            | inl e => exact id
            | inr x =>
              intro ⟨a, b, c, v⟩
              show GR T VB p (ned T x.1 93 fun p'' => .inr (p'', x.2))
              have h3 := sk_ge (T := T) (p := x.1)
              have h4 := sk_le b
              unfold ned
              split
              · rename_i hx
                have := isS_lt hx
                exact ⟨by show p < sk T x.1 + 1; omega, by show sk T x.1 + 1 ≤ _; omega, by show x.2.1.length ≤ sk T x.1 + 1 - p; omega, v⟩
              · exact h4
        · exact h2
theorem rowL_G {T : Txt} {c1 c2 : Nat} {V : Nat → Int32 → Int32 → Int32} {pr : Nat → PR} {B : (EnvL → Int32) → Prop} (hV : ∀ c v w, B v → B w → B (fun env => V c (v env) (w env))) (hs : ∀ p, p ≤ T.2 → GR T B p (pr p)) {p0 : Nat} : ∀ f p a, p ≤ T.2 → p0 < p → a.1.length ≤ p - p0 → B a.2 → GR T B p0 (rowL T c1 c2 V pr f p a)
  | 0, p, a, hp, h0, hl, hb => ⟨by have := sk_ge (T := T) (p := p); show p0 < sk T p; omega, sk_le hp, by have := sk_ge (T := T) (p := p); show a.1.length ≤ sk T p - p0; omega, hb⟩
  | f + 1, p, a, hp, h0, hl, hb => by
    have h1 := sk_ge (T := T) (p := p)
    have h2 := sk_le hp
    unfold rowL
    split
    · rename_i hx
      have hlt : sk T p < T.2 := by
        rcases hx with hx | hx
        · exact (isS_lt hx).1
        · exact (isS_lt hx).1
      have := hs (sk T p + 1) (by omega)
      revert this
      cases pr (sk T p + 1) with
      | inl e => exact id
      | inr x =>
        intro ⟨a1, b1, c1, v1⟩
        refine rowL_G hV hs f x.1 _ b1 (by omega) ?_ (hV _ _ _ hb v1)
        simp only [List.length_append, List.length_cons, List.length_nil]
        omega
    · exact ⟨by show p0 < sk T p; omega, h2, by show a.1.length ≤ sk T p - p0; omega, hb⟩
theorem rowP_G {T : Txt} {c1 c2 : Nat} {V : Nat → Int32 → Int32 → Int32} {pr : Nat → PR} {B : (EnvL → Int32) → Prop} (hV : ∀ c v w, B v → B w → B (fun env => V c (v env) (w env))) (hs : ∀ p, p ≤ T.2 → GR T B p (pr p)) {p : Nat} (hp : p ≤ T.2) : GR T B p (rowP T c1 c2 V pr p) := by
  unfold rowP
  have := hs p hp
  revert this
  cases pr p with
  | inl e => exact id
  | inr x => exact fun ⟨a, b, c, v⟩ => rowL_G hV hs _ _ _ b a c v
theorem sumG_G {T : Txt} {sub : Option (Nat → PR)} (hs : ∀ f, sub = some f → ∀ p, p ≤ T.2 → GR T VB p (f p)) : ∀ p, p ≤ T.2 → GR T VB p (sumG T sub p) := fun _ hp =>
  rowP_G (fun _ _ _ _ _ _ _ => opV_b) (fun _ hp => rowP_G (fun _ _ _ _ _ _ _ => opV_b) (fun _ hp => atomP_G hs hp) hp) hp
theorem sumP_G {T : Txt} : ∀ k p, p ≤ T.2 → GR T VB p (sumP T k p)
  | 0 => sumG_G (fun _ z => by simp at z)
  | k + 1 => sumG_G (fun f z p hp => by injection z with z; subst z; exact sumP_G k p hp)
theorem cmV_b {c : Nat} {x y : Int32} : cmV c x y = nI 0 ∨ cmV c x y = nI 1 := by
  have key : ∀ b : Bool, b01 b = nI 0 ∨ b01 b = nI 1 := by decide
  unfold cmV
  repeat' split
  all_goals exact key _
theorem cmpP_G {T : Txt} {k p p0 : Nat} {a : E} (hp : p ≤ T.2) (h0 : p0 < p) (hl : a.1.length ≤ p - p0) : GR T TB p0 (cmpP T (sumP T k) p a) := by
  have h1 := sk_ge (T := T) (p := p)
  have h2 := sk_le hp
  unfold cmpP
  split
  · rename_i hx
    have := sumP_G (T := T) k (sk T p + 1) (by omega)
    revert this
    cases sumP T k (sk T p + 1) with
    | inl e => exact id
    | inr x =>
      intro ⟨a1, b1, c1, v1⟩
      refine ⟨by show p0 < x.1; omega, b1, ?_, fun env => cmV_b⟩
      simp only [List.length_append, List.length_cons, List.length_nil]
      omega
  · exact h2
theorem TB_and (c : Nat) (v w : EnvL → Int32) (hv : TB v) (hw : TB w) : TB (fun env => andV c (v env) (w env)) := fun env => by
  show (v env &&& w env) = nI 0 ∨ (v env &&& w env) = nI 1
  rcases hv env with e | e <;> rcases hw env with e2 | e2 <;> (rw [e, e2]; decide)
theorem TB_or (c : Nat) (v w : EnvL → Int32) (hv : TB v) (hw : TB w) : TB (fun env => orV c (v env) (w env)) := fun env => by
  show (v env ||| w env) = nI 0 ∨ (v env ||| w env) = nI 1
  rcases hv env with e | e <;> rcases hw env with e2 | e2 <;> (rw [e, e2]; decide)
theorem condG_G {T : Txt} {un : Nat → PR} (hs : ∀ p, p ≤ T.2 → GR T TB p (un p)) {p : Nat} (hp : p ≤ T.2) : GR T TB p (condG T un p) :=
  rowP_G TB_or (fun _ hp => rowP_G TB_and hs hp) hp
theorem unitG_G {T : Txt} {k : Nat} {sub : Option (Nat → PR)} (hs : ∀ f, sub = some f → ∀ p, p ≤ T.2 → GR T TB p (f p)) {p : Nat} (hp : p ≤ T.2) : GR T TB p (unitG T (sumP T k) sub p) := by
  have h1 := sk_ge (T := T) (p := p)
  have h2 := sk_le hp
  unfold unitG
  split
  · rename_i hx
    have hlt := isS_lt hx
    cases sub with
    | none => exact h2
    | some un =>
      have := hs un rfl (sk T p + 1) (by omega)
      show GR T TB p (bnd (un (sk T p + 1)) _)
      revert this
      cases un (sk T p + 1) with
      | inl e => exact id
      | inr x =>
        intro ⟨a1, b1, c1, v1⟩
        refine ⟨by show p < x.1; omega, b1, ?_, fun env => ?_⟩
        · show (x.2.1 ++ [- nI 33]).length ≤ x.1 - p
          simp only [List.length_append, List.length_cons, List.length_nil]
          omega
        · show nI 1 - x.2.2 env = nI 0 ∨ nI 1 - x.2.2 env = nI 1
          rcases v1 env with e | e <;> (rw [e]; decide)
  · split
    · rename_i hx
      have hlt := isS_lt hx
      cases sub with
      | none => exact h2
      | some un =>
        have := condG_G (hs un rfl) (p := sk T p + 1) (by omega)
        show GR T TB p (bnd (condG T un (sk T p + 1)) _)
        revert this
        cases condG T un (sk T p + 1) with
        | inl e => exact id
        | inr x =>
          intro ⟨a1, b1, c1, v1⟩
          show GR T TB p (ned T x.1 41 fun p'' => .inr (p'', x.2))
          have h3 := sk_ge (T := T) (p := x.1)
          have h4 := sk_le b1
          unfold ned
          split
          · rename_i hx
            have := isS_lt hx
            exact ⟨by show p < sk T x.1 + 1; omega, by show sk T x.1 + 1 ≤ _; omega, by show x.2.1.length ≤ sk T x.1 + 1 - p; omega, v1⟩
          · exact h4
    · have := sumP_G (T := T) k (sk T p) h2
      revert this
      cases sumP T k (sk T p) with
      | inl e => exact id
      | inr x => exact fun ⟨a1, b1, c1, v1⟩ => cmpP_G b1 (by omega) (by omega)
theorem unitP_G {T : Txt} : ∀ k p, p ≤ T.2 → GR T TB p (unitP T k p)
  | 0, _, hp => unitG_G (fun _ z => by simp at z) hp
  | k + 1, _, hp => unitG_G (fun f z p hp => by injection z with z; subst z; exact unitP_G k p hp) hp
end
