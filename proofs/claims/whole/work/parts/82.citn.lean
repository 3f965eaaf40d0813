/-! the reference reads a city's text: items, clauses, the whole -/
section
variable {d : Nat} {T : Txt} {s : Mem}
def un (told : Nat → Bool) (j : Nat) : Nat := if told j = true then 0 else 1
/-- how many items are untold -/
def ut (src : Bool) (told : Nat → Bool) : Nat := if src = true then un told 0 + un told 1 + un told 2 + un told 3 + un told 4 + un told 5 else un told 6
theorem un_1 {told : Nat → Bool} {j : Nat} (h : told j = false) : un told j = 1 := if_neg (by rw [h]; decide)
theorem un_t {told : Nat → Bool} {j k : Nat} : un (fun k => if k = j then true else told k) k = if k = j then 0 else un told k := by
  unfold un
  by_cases e : k = j
  · rw [if_pos e, if_pos (by show (if k = j then true else told k) = true; rw [if_pos e])]
  · rw [if_neg e]
    show (if (if k = j then true else told k) = true then 0 else 1) = _
    rw [if_neg e]
theorem ut_step {src : Bool} {told : Nat → Bool} {j : Nat} (h : told j = false) (h1 : itA src ≤ j) (h2 : j ≤ itZ src) : ut src (fun k => if k = j then true else told k) + 1 = ut src told := by
  have e := un_1 h
  cases src
  · have : j = 6 := by have a : itA false = 6 := rfl
                       have b : itZ false = 6 := rfl
                       omega
    subst this
    show un (fun k => if k = 6 then true else told k) 6 + 1 = un told 6
    rw [un_t, if_pos rfl, e]
  · have hz : itZ true = 5 := rfl
    show un _ 0 + un _ 1 + un _ 2 + un _ 3 + un _ 4 + un _ 5 + 1 = un told 0 + un told 1 + un told 2 + un told 3 + un told 4 + un told 5
    simp only [un_t]
    rcases (show j = 0 ∨ j = 1 ∨ j = 2 ∨ j = 3 ∨ j = 4 ∨ j = 5 by omega) with rfl | rfl | rfl | rfl | rfl | rfl <;> simp <;> omega
theorem ut_zero {src : Bool} {told : Nat → Bool} {j : Nat} (h : ut src told = 0) (h1 : itA src ≤ j) (h2 : j ≤ itZ src) : told j = true := by
  cases e : told j
  · have := ut_step e h1 h2
    omega
  · rfl
theorem itemsF_none {src : Bool} {m p : Nat} {told : Nat → Bool} {vals : Nat → Nat} (h : idxT T src (sk T p) = none) : itemsF T src m p told vals = .inr (sk T p, vals) := by
  cases m <;> (unfold itemsF; rw [h])
theorem itemsF_told {src : Bool} {m p j : Nat} {told : Nat → Bool} {vals : Nat → Nat} (h : idxT T src (sk T p) = some j) (ht : told j = true) : itemsF T src m p told vals = .inl (sk T p) := by
  cases m
  · unfold itemsF; rw [h]
  · unfold itemsF; rw [h]
    exact if_pos ht
theorem itemsF_S {src : Bool} {m p j : Nat} {told : Nat → Bool} {vals : Nat → Nat} (h : idxT T src (sk T p) = some j) (ht : told j = false) : itemsF T src (m + 1) p told vals = match riR T (sk T p) (itLo j) (itHi j) with
    | .inl f => .inl f
    | .inr x => itemsF T src m x.1 (fun k => if k = j then true else told k) (fun k => if k = j then x.2 else vals k) := by
  have e0 : itemsF T src (m + 1) p told vals = if told j = true then .inl (sk T p) else
            if sk T (sk T p + 1) < T.2 ∧ dg (T.1 (sk T (sk T p + 1))) = true then
              (match numL T 2 (sk T (sk T p + 1)) 0 with
              | .inl f => .inl f
              | .inr x => if x.2 < itLo j ∨ itHi j < x.2 then .inl (x.1 - 1) else itemsF T src m x.1 (fun k => if k = j then true else told k) (fun k => if k = j then x.2 else vals k))
            else .inl (sk T (sk T p + 1)) := by
    conv => lhs; unfold itemsF
    rw [h]
    rfl
  rw [e0, if_neg (by rw [ht]; decide)]
  unfold riR
  by_cases hd : sk T (sk T p + 1) < T.2 ∧ dg (T.1 (sk T (sk T p + 1))) = true
  · rw [if_pos hd, if_pos hd]
    cases numL T 2 (sk T (sk T p + 1)) 0 with
    | inl f => rfl
    | inr x =>
      show (if x.2 < itLo j ∨ itHi j < x.2 then _ else _) = match (if x.2 < itLo j ∨ itHi j < x.2 then (Sum.inl (x.1 - 1) : Sum Nat (Nat × Nat)) else .inr x) with | .inl f => _ | .inr x => _
      by_cases hb : x.2 < itLo j ∨ itHi j < x.2
      · rw [if_pos hb, if_pos hb]
      · rw [if_neg hb, if_neg hb]
  · rw [if_neg hd, if_neg hd]
theorem riR_le {p lo hi : Nat} {x : Nat × Nat} (hp : p < T.2) (h : riR T p lo hi = .inr x) : x.1 ≤ T.2 := by
  unfold riR at h
  split at h
  · have := numL_P (T := T) 2 (sk T (p + 1)) 0 (sk_le (by omega)) (by decide) (by decide)
    revert h this
    cases numL T 2 (sk T (p + 1)) 0 with
    | inl f => intro h; simp at h
    | inr y =>
      intro h ⟨_, b, _⟩
      have h' : (if y.2 < lo ∨ hi < y.2 then (Sum.inl (y.1 - 1) : Sum Nat (Nat × Nat)) else .inr y) = .inr x := h
      split at h'
      · simp at h'
      · injection h' with h'; rw [← h']; exact b
  · simp at h
theorem riR_f {p lo hi f : Nat} (hp : p < T.2) (h : riR T p lo hi = .inl f) : f ≤ T.2 := by
  have k2 := sk_le (T := T) (p := p + 1) (by omega)
  unfold riR at h
  split at h
  · have := numL_P (T := T) 2 (sk T (p + 1)) 0 k2 (by decide) (by decide)
    revert h this
    cases numL T 2 (sk T (p + 1)) 0 with
    | inl e =>
      intro h b
      have h' : (Sum.inl e : Sum Nat (Nat × Nat)) = .inl f := h
      injection h' with h'
      have b' : e ≤ T.2 := b
      omega
    | inr y =>
      intro h ⟨_, b, _⟩
      have h' : (if y.2 < lo ∨ hi < y.2 then (Sum.inl (y.1 - 1) : Sum Nat (Nat × Nat)) else .inr y) = .inl f := h
      split at h'
      · injection h' with h'; omega
      · simp at h'
  · injection h with h
    omega
def scr (src : Bool) : Nat := if src = true then 1013 else 1012
def tg (src : Bool) : Nat := if src = true then 66 else 67
theorem mR_place {K : Int32 → Mem → Prop} (hT : TxOk T) (hd : 1 ≤ d) {src : Bool} {q : Nat} : wI (wp d) 902 [.ref (scr src), .int (sg T q)] s K = K (oI ((idxT T src q).map fun j => j - itA src)) s := by
  obtain ⟨d, rfl⟩ : ∃ e, d = e + 1 := ⟨d - 1, by omega⟩
  have e : wI (wp (d + 1)) 902 [.ref (scr src), .int (sg T q)] s K = K (idxS (sg T q) 0 (strS (scr src))) s := by cases src <;> rfl
  rw [e]
  congr 1
  unfold idxT
  by_cases hq : q < T.2
  · have hb := (hT.2 q hq).2
    rw [show sg T q = nI (T.1 q) from if_pos hq, if_pos hq]
    generalize T.1 q = x at hb
    have key : ∀ src : Bool, ∀ x, x < 256 → idxS (nI x) 0 (strS (scr src)) = oI ((idx src x).map fun j => j - itA src) := by decide +kernel
    exact key src x (by omega)
  · rw [show sg T q = m1 from if_neg hq, if_neg hq]
    cases src <;> rfl
def IKm (T : Txt) (b : Nat) (src : Bool) (r : Sum Nat (Nat × (Nat → Nat))) (s : Mem) (K : Mem → Prop) : Prop := match r with
  | .inl f => ∀ s', frN [tg src] [10, 11] s s' → s' 57 11 = nI f → K s'
  | .inr x => ∀ s' p, frN [tg src] [10] s s' → RCt T p s' → p ≤ T.2 → sk T p = x.1 → (∀ j, itA src ≤ j → j ≤ itZ src → s' (tg src) (b + (j - itA src)) = nI (x.2 j)) → (∀ k, (k < b ∨ b + (itZ src - itA src) < k) → s' (tg src) k = s (tg src) k) → K s'
theorem m_readItems (hT : TxOk T) {K : Mem → Prop} (hd : 5 ≤ d) {b : Nat} {src : Bool} {p : Nat} {v0 : Nat → Nat} (hg : RCt T p s) (hp : p ≤ T.2) (hb : b + (itZ src - itA src) < (shp (tg src)).2) (hv : ∀ j, itA src ≤ j → j ≤ itZ src → s (tg src) (b + (j - itA src)) = nI (v0 j)) (hK : IKm T b src (itemsF T src (itZ src + 1 - itA src) p (fun _ => false) v0) s K) :
    wV (wp d) m_M_readItems [.ref 57, .ref (tg src), .int (nI b), .ref (scr src), .int (b01 src)] s K := by
  have h160 := hT.1
  have hz6 : itZ src ≤ 6 := by cases src <;> decide
  have haz : itA src ≤ itZ src := by cases src <;> decide
  have htg : (shp (tg src)).1 = 20 ∧ tg src ≤ 999 ∧ tg src ≠ 57 ∧ (shp (tg src)).2 ≤ 36 := by cases src <;> decide
  have hf4 : ∀ {x y : Mem} {J : List Nat}, (∀ a, a ∈ J → a ∈ [10, 11, 27, 28, 29]) → frN [tg src] J x y → fR x y := fun hJ h => frN_w h (by cases src <;> simp [tg]) hJ
  obtain ⟨d, rfl⟩ : ∃ e, d = e + 1 := ⟨d - 1, by omega⟩
  have lp : ∀ (m p : Nat) (told : Nat → Bool) (vals : Nat → Nat) (i5 : Int32) (u : Mem), ut src told ≤ m → frN [tg src] [10] s u → RCt T (sk T p) u → p ≤ T.2 → (∀ j, itA src ≤ j → j ≤ itZ src → tb i5 (j - itA src) = told j) → (∀ j, itA src ≤ j → j ≤ itZ src → u (tg src) (b + (j - itA src)) = nI (vals j)) → (∀ k, (k < b ∨ b + (itZ src - itA src) < k) → u (tg src) k = s (tg src) k) → IKm T b src (itemsF T src m p told vals) s K →
      RnV d m_M_readItems K 13 [.ref 57, .ref (tg src), .int (nI b), .ref (scr src), .int (b01 src), .int i5, .int (oI ((idxT T src (sk T p)).map fun j => j - itA src))] [] u := by
    intro m
    induction m with
    | zero =>
      intro p told vals i5 u hm hf hg hp h5 hvv hout hK
      rw [r_M_readItems_13]
      cases hi : idxT T src (sk T p) with
      | none =>
        rw [itemsF_none hi] at hK
        rw [if_pos (show oI (Option.map (fun j => j - itA src) none) = -1 from rfl)]
        exact hK u (sk T p) hf hg (sk_le hp) sk_sk hvv hout
      | some j =>
        have g : itA src ≤ j ∧ j ≤ itZ src ∧ itL j = T.1 (sk T p) ∧ sk T p < T.2 := by
          unfold idxT at hi
          by_cases hlt : sk T p < T.2
          · rw [if_pos hlt] at hi
            have := idx_ge hi
            exact ⟨this.1, this.2.1, this.2.2, hlt⟩
          · rw [if_neg hlt] at hi; simp at hi
        have ht : told j = true := ut_zero (by omega) g.1 g.2.1
        rw [itemsF_told hi ht] at hK
        have ej : oI (Option.map (fun j => j - itA src) (some j)) = nI (j - itA src) := rfl
        rw [ej, if_neg (show ¬ nI (j - itA src) = -1 from fun z => by rw [n_m1, m1_eq (by omega)] at z; exact z), if_pos (show u 57 11 = -1 from hg.2.2)]
        obtain ⟨d, rfl⟩ : ∃ e, d = e + 1 := ⟨d - 1, by omega⟩
        rw [e_M_has, show (31 : Int32) = nI 31 from rfl, show (1 : Int32) = nI 1 from rfl, sh_b (by omega), h5 j g.1 g.2.1, ht, if_pos (show b01 true = nI 1 from rfl), if_neg (show ¬ nI 1 = 0 by decide)]
        exact mR_fails (by omega) hg fun s' f' e' => hK s' (frN_t (frN_w hf (fun _ z => z) (by simp)) (frN_w f' (by simp) (by simp))) e'
    | succ m ih =>
      intro p told vals i5 u hm hf hg hp h5 hvv hout hK
      rw [r_M_readItems_13]
      cases hi : idxT T src (sk T p) with
      | none =>
        rw [itemsF_none hi] at hK
        rw [if_pos (show oI (Option.map (fun j => j - itA src) none) = -1 from rfl)]
        exact hK u (sk T p) hf hg (sk_le hp) sk_sk hvv hout
      | some j =>
        have g : itA src ≤ j ∧ j ≤ itZ src ∧ itL j = T.1 (sk T p) ∧ sk T p < T.2 := by
          unfold idxT at hi
          by_cases hlt : sk T p < T.2
          · rw [if_pos hlt] at hi
            have := idx_ge hi
            exact ⟨this.1, this.2.1, this.2.2, hlt⟩
          · rw [if_neg hlt] at hi; simp at hi
        have ej : oI (Option.map (fun j => j - itA src) (some j)) = nI (j - itA src) := rfl
        have nm1 : ¬ nI (j - itA src) = -1 := fun z => by rw [n_m1, m1_eq (by omega)] at z; exact z
        obtain ⟨d, rfl⟩ : ∃ e, d = e + 1 := ⟨d - 1, by omega⟩
        rw [ej, if_neg nm1, if_pos (show u 57 11 = -1 from hg.2.2), e_M_has, show (31 : Int32) = nI 31 from rfl, show (1 : Int32) = nI 1 from rfl, sh_b (by omega), h5 j g.1 g.2.1]
        cases ht : told j with
        | true =>
          rw [itemsF_told hi ht] at hK
          rw [if_pos (show b01 true = nI 1 from rfl), if_neg (show ¬ nI 1 = 0 by decide)]
          exact mR_fails (by omega) hg fun s' f' e' => hK s' (frN_t (frN_w hf (fun _ z => z) (by simp)) (frN_w f' (by simp) (by simp))) e'
        | false =>
          rw [itemsF_S hi ht] at hK
          rw [if_neg (show ¬ b01 false = nI 1 by decide), if_pos (show (0 : Int32) = 0 from rfl)]
          have hlo : itLo j < 10000 := by unfold itLo; split <;> omega
          have hhi : itHi j < 10000 := by unfold itHi; repeat' split
                                          all_goals omega
          have hs := ut_step ht g.1 g.2.1
          have fin : wV (wp (d + 1)) m_M_readItem [.ref 57, .ref (tg src), .int (nI b + nI (j - itA src)), .int (nI (itLo j)), .int (nI (itHi j))] u (fun s89 => (if (s89 57 11) = (-1) then wI (wp (d + 1)) m_M_look [.ref 57] s89 (fun x102 s102 => wI (wp (d + 1)) 902 [.ref (scr src), .int x102] s102 (fun x105 s105 => RnV (d + 1) m_M_readItems K 13 [.ref 57, .ref (tg src), .int (nI b), .ref (scr src), .int (b01 src), .int (i5 ||| (nI 1 <<< (nI (j - itA src) &&& nI 31))), .int x105] [] s105)) else RnV (d + 1) m_M_readItems K 13 [.ref 57, .ref (tg src), .int (nI b), .ref (scr src), .int (b01 src), .int (i5 ||| (nI 1 <<< (nI (j - itA src) &&& nI 31))), .int (nI (j - itA src))] [] s89)) := by
            rw [nI_add]
            refine m_readItem hT (by omega) hg g.2.2.2 htg.1 htg.2.1 (by omega) hlo hhi ?_
            have hfe : ∀ f, riR T (sk T p) (itLo j) (itHi j) = .inl f → f ≤ T.2 := fun f hx => riR_f g.2.2.2 hx
            have hle : ∀ x, riR T (sk T p) (itLo j) (itHi j) = .inr x → x.1 ≤ T.2 := fun x hx => riR_le g.2.2.2 hx
            revert hK hle hfe
            cases riR T (sk T p) (itLo j) (itHi j) with
            | inl f =>
              intro hK hfe _ s1 f1 e1
              have hf2 := hfe f rfl
              have : ¬ s1 57 11 = -1 := fun z => by
                rw [e1, n_m1, m1_eq (by omega)] at z; exact z
              rw [if_neg this, r_M_readItems_13, if_neg nm1, if_neg this]
              exact hK s1 (frN_t (frN_w hf (fun _ z => z) (by simp)) (frN_w f1 (by simp) (by simp))) e1
            | inr x =>
              intro hK _ hle s1 f1 g1
              have hx := hle x rfl
              have fu : frN [tg src] [10] u (upM s1 (tg src) (b + (j - itA src)) (nI x.2)) := frN_t (frN_w f1 (by simp) (fun _ z => z)) (frN_u (by simp) htg.2.2.1)
              have g2 : RCt T x.1 (upM s1 (tg src) (b + (j - itA src)) (nI x.2)) := by
                refine ⟨RdS_C hg.1 (hf4 (by simp) fu), ?_, ?_⟩
                · rw [up_ce (fun z => htg.2.2.1 z.symm)]; exact g1.2.1
                · rw [up_ce (fun z => htg.2.2.1 z.symm)]; exact g1.2.2
              rw [if_pos (show upM s1 (tg src) (b + (j - itA src)) (nI x.2) 57 11 = -1 from g2.2.2)]
              refine mR_look hT (by omega) g2 hx fun s2 f2 g3 => ?_
              rw [mR_place hT (by omega)]
              have es : s2 (tg src) = upM s1 (tg src) (b + (j - itA src)) (nI x.2) (tg src) := f2.1 _ (by simp) htg.2.2.1
              have es1 : s1 (tg src) = u (tg src) := f1.1 _ (by simp) htg.2.2.1
              refine ih x.1 _ _ _ s2 (by omega) (frN_t hf (frN_t fu (frN_w f2 (by simp) (fun _ z => z)))) g3 hx (fun k h1 h2 => ?_) (fun k h1 h2 => ?_) (fun k hk => ?_) hK
              · show tb (i5 ||| bit (j - itA src)) (k - itA src) = _
                rw [tb_or, h5 k h1 h2, tb_bit (by omega)]
                by_cases e : k = j
                · rw [if_pos e, decide_eq_true (by omega), Bool.or_true]
                · rw [if_neg e, decide_eq_false (by omega), Bool.or_false]
              · rw [es]
                by_cases e : k = j
                · rw [e, up_at, if_pos rfl]
                · rw [up_pl (by omega), if_neg e, es1]; exact hvv k h1 h2
              · rw [es, up_pl (by omega), es1]; exact hout k hk
          have e0 : b01 src = 0 ↔ src = false := by cases src <;> decide
          cases src with
          | false =>
            have : j = 6 := by have a := g.1; have c := g.2.1; have a2 : itA false = 6 := rfl; have c2 : itZ false = 6 := rfl; omega
            subst this
            rw [if_pos (show b01 false = 0 from rfl), if_pos (show b01 false = 0 from rfl)]
            exact fin
          | true =>
            have hz : itZ true = 5 := rfl
            have ha : itA true = 0 := rfl
            rw [if_neg (show ¬ b01 true = 0 by decide)]
            have hm : ∀ (K' : Int32 → Mem → Prop), wI (wp (d + 1)) m_M_mostOf [.int (nI (j - itA true))] u K' = K' (nI (itHi j)) u := by
              intro K'
              rw [e_M_mostOf, ha, Nat.sub_zero]
              rcases (show j = 0 ∨ j = 1 ∨ j = 2 ∨ j = 3 ∨ j = 4 ∨ j = 5 by omega) with rfl | rfl | rfl | rfl | rfl | rfl <;> rfl
            by_cases e5 : j = 5
            · have hlo5 : itLo j = 1 := if_pos e5
              rw [if_pos (show nI (j - itA true) = 5 by rw [e5]; rfl), if_neg (show ¬ b01 true = 0 by decide), hm]
              rw [hlo5] at fin
              exact fin
            · have hlo5 : itLo j = 0 := if_neg e5
              rw [if_neg (show ¬ nI (j - itA true) = 5 by rw [q5, nI_eq (by omega) (by omega)]; omega), if_neg (show ¬ b01 true = 0 by decide), hm]
              rw [hlo5] at fin
              exact fin
  rw [e_M_readItems]
  refine mR_look hT (by omega) hg hp fun s1 f1 g1 => ?_
  rw [mR_place hT (by omega)]
  have es1 : s1 (tg src) = s (tg src) := f1.1 _ (by simp) htg.2.2.1
  exact lp (itZ src + 1 - itA src) p (fun _ => false) v0 _ s1 (by cases src <;> decide) (frN_w f1 (by simp) (fun _ z => z)) g1 hp (fun _ _ _ => tb_0) (by rw [es1]; exact hv) (fun _ _ => by rw [es1]) hK
end
