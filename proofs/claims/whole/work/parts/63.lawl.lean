/-! the class reads a law -/
section
variable {d : Nat} {T : Txt} {s : Mem} {l : Nat}
def GRc (T : Txt) (p : Nat) (r : Sum Nat (Nat × Cl)) : Prop := match r with
  | .inl f => f ≤ T.2
  | .inr x => p < x.1 ∧ x.1 ≤ T.2 ∧ (∀ z, (flC z x.2).length ≤ x.1 - p) ∧ VB x.2.2.2 ∧ ∀ c, x.2.1 = some c → TB c.2
theorem ned_G {α : Type} (P : Sum Nat (Nat × α) → Prop) {p x : Nat} {f : Nat → Sum Nat (Nat × α)} (h1 : isS T (sk T p) x = true → P (f (sk T p + 1))) (h0 : P (.inl (sk T p))) : P (ned T p x f) := by
  unfold ned
  split
  · rename_i h; exact h1 h
  · exact h0
theorem thenP_G {p p0 : Nat} {c : E} (hp : p ≤ T.2) (h0 : p0 + 2 ≤ p) (hc : c.1.length + 2 ≤ p - p0) (hb : TB c.2) : GRc T p0 (ned T p 63 fun p7 => bnd (sumP T 6 p7) fun p8 e => .inr (p8, (some c, e))) := by
  have k1 := sk_ge (T := T) (p := p)
  have k2 := sk_le hp
  refine ned_G (GRc T p0) (fun hx => ?_) k2
  · have hlt := (isS_lt hx).1
    have := sumP_G (T := T) 6 (sk T p + 1) (by omega)
    show GRc T p0 (bnd (sumP T 6 (sk T p + 1)) fun p8 e => .inr (p8, (some c, e)))
    revert this
    cases sumP T 6 (sk T p + 1) with
    | inl e => exact id
    | inr x =>
      intro ⟨a1, b1, c1, v1⟩
      refine ⟨by show p0 < x.1; omega, b1, fun z => ?_, v1, fun c' hc' => by injection hc' with hc'; subst hc'; exact hb⟩
      show ((c.1 ++ [- nI 63, _]) ++ (x.2.1 ++ [- nI 59])).length ≤ x.1 - p0
      simp only [List.length_append, List.length_cons, List.length_nil]
      omega
theorem clauP_G {p : Nat} (hp : p ≤ T.2) : GRc T p (clauP T p) := by
  have k1 := sk_ge (T := T) (p := p)
  have k2 := sk_le hp
  unfold clauP
  refine ned_G (GRc T p) (fun hx => ?_) k2
  · have hl1 := (isS_lt hx).1
    have k3 := sk_ge (T := T) (p := sk T p + 1)
    have k3' := sk_le (T := T) (p := sk T p + 1) (by omega)
    refine ned_G (GRc T p) (fun hx2 => ?_) k3'
    · have hl2 := (isS_lt hx2).1
      generalize hp2 : sk T (sk T p + 1) + 1 = p2
      have k4 := sk_ge (T := T) (p := p2)
      have k5 := sk_le (T := T) (p := p2) (by omega)
      split
      · have := condG_G (T := T) (unitP_G 6) k5
        revert this
        cases condG T (unitP T 6) (sk T p2) with
        | inl e => exact id
        | inr x =>
          intro ⟨a1, b1, c1, v1⟩
          exact thenP_G b1 (by omega) (by omega) v1
      · have := sumP_G (T := T) 6 (sk T p2) k5
        revert this
        cases sumP T 6 (sk T p2) with
        | inl e => exact id
        | inr x =>
          intro ⟨a1, b1, c1, v1⟩
          have k6 := sk_ge (T := T) (p := x.1)
          have k7 := sk_le b1
          show GRc T p (if sk T x.1 < T.2 ∧ csg (T.1 (sk T x.1)) = true then _ else _)
          split
          · have := cmpP_G (T := T) (k := 6) (p := sk T x.1) (p0 := sk T p2) (a := x.2) k7 (by omega) (by omega)
            revert this
            cases cmpP T (sumP T 6) (sk T x.1) x.2 with
            | inl e => exact id
            | inr e6 =>
              intro ⟨r1, r2, r3, r4⟩
              have := rowL_G (T := T) (c1 := 38) (c2 := 38) TB_and (unitP_G 6) (p0 := sk T p2) (T.2 + 1) e6.1 e6.2 r2 (by omega) r3 r4
              show GRc T p (bnd (rowL T 38 38 andV (unitP T 6) (T.2 + 1) e6.1 e6.2) fun p5 e3 => bnd (rowL T 124 124 orV (partG T (unitP T 6)) (T.2 + 1) p5 e3) fun p6 c => ned T p6 63 fun p7 => bnd (sumP T 6 p7) fun p8 e => .inr (p8, (some c, e)))
              revert this
              cases rowL T 38 38 andV (unitP T 6) (T.2 + 1) e6.1 e6.2 with
              | inl e => exact id
              | inr e7 =>
                intro ⟨u1, u2, u3, u4⟩
                have := rowL_G (T := T) (c1 := 124) (c2 := 124) TB_or (partG_G (unitP_G 6)) (p0 := sk T p2) (T.2 + 1) e7.1 e7.2 u2 (by omega) u3 u4
                show GRc T p (bnd (rowL T 124 124 orV (partG T (unitP T 6)) (T.2 + 1) e7.1 e7.2) fun p6 c => ned T p6 63 fun p7 => bnd (sumP T 6 p7) fun p8 e => .inr (p8, (some c, e)))
                revert this
                cases rowL T 124 124 orV (partG T (unitP T 6)) (T.2 + 1) e7.1 e7.2 with
                | inl e => exact id
                | inr e8 =>
                  intro ⟨w1, w2, w3, w4⟩
                  exact thenP_G w2 (by omega) (by omega) w4
          · refine ⟨by show p < sk T x.1; omega, k7, fun z => ?_, v1, fun c' hc' => by simp at hc'⟩
            show (x.2.1 ++ [- nI 59]).length ≤ sk T x.1 - p
            simp only [List.length_append, List.length_cons, List.length_nil]
            omega
def LKl (T : Txt) (l : Nat) (r : Sum Nat (List Cl)) (s : Mem) (K : Int32 → Mem → Prop) : Prop := match r with
  | .inl f => ∀ s', frm [1, l, l + 1] s s' → TB2 T l f s' → K (nI 0) s'
  | .inr cs => ∀ s' p, frm [1, l, l + 1] s s' → TG T l p (flL 0 cs) s' → K (nI 1) s'
theorem c_isRight {K : Int32 → Mem → Prop} (hd : 1 ≤ d) {p : Nat} (hg : TpG T p s) : wI (wp d) m_T_isRight [.ref 1] s K = K (nI 1) s := by
  obtain ⟨d, rfl⟩ : ∃ e, d = e + 1 := ⟨d - 1, by omega⟩
  rw [e_T_isRight, hg.2.2.1, if_pos (show m1 = -1 from rfl)]
  rfl
theorem b_isRight {K : Int32 → Mem → Prop} (hT : TxOk T) (hd : 1 ≤ d) {f : Nat} (hg : TpB T f s) : wI (wp d) m_T_isRight [.ref 1] s K = K (nI 0) s := by
  have h160 := hT.1
  have := hg.2.2.2.1
  obtain ⟨d, rfl⟩ : ∃ e, d = e + 1 := ⟨d - 1, by omega⟩
  rw [e_T_isRight, hg.2.2.1, if_neg (show ¬ nI f = -1 from fun z => by rw [n_m1, m1_eq (by omega)] at z; exact z)]
  rfl
theorem c_readLaw_l (hT : TxOk T) (hl : isL l) {d : Nat} (hd : 46 ≤ d) {s : Mem} {K : Int32 → Mem → Prop} : ∀ (f p : Nat) (cs : List Cl) (i : Nat) (t : Mem), T.2 - p < f → i ≤ p → p ≤ T.2 → TG T l p (flL 0 cs) t → (flL 0 cs).length ≤ p → frm [1, l, l + 1] s t → LKl T l (lawL T f p cs) s K →
    RnI d m_G_readLaw K 12 [.ref 1, .ref l, .int (nI 1), .int (nI i)] [] t := by
  have h160 := hT.1
  have h18 := isL_18 hl
  intro f
  induction f with
  | zero => intro p cs i t h; omega
  | succ f ih =>
    intro p cs i t hf hi hp hg hC hfr hK
    rw [r_G_readLaw_12, if_neg (show ¬ nI 1 = 0 by decide), if_neg (show ¬ (160 : Int32) < nI i by rw [q160, nI_ltI (by omega) (by omega)]; omega)]
    have e1 : nI i + 1 = nI (i + 1) := nI_add i 1
    refine c_clause hT hl hd hg hC hp ?_
    have hgr := clauP_G (T := T) hp
    have hK' : LKl T l (match clauP T p with
      | .inl e => .inl e
      | .inr x => if isS T (sk T x.1) 59 = true then lawL T f (sk T x.1 + 1) (cs ++ [x.2]) else if sk T x.1 < T.2 then .inl (sk T x.1) else .inr (cs ++ [x.2])) s K := hK
    revert hK' hgr
    cases clauP T p with
    | inl e =>
      intro _ hK' s1 f1 g1
      refine b_take hT (by omega) (x := 59) (by decide) g1.1 fun s2 f2 g2 => ?_
      rw [r_G_readLaw_12, if_pos (show nI 0 = 0 from rfl)]
      refine b_next hT (by omega) g2 fun s3 f3 g3 => ?_
      rw [if_pos (show m1 = -1 from rfl), b_isRight hT (by omega) g3, if_pos (by decide)]
      exact hK' s3 (frm_t hfr (frm_t f1 (frm_t (frm_w f2 (by simp)) (frm_w f3 (by simp))))) ⟨g3, by rw [f3 l (by simp; omega), f2 l (by simp; omega)]; exact g1.2⟩
    | inr x =>
      intro ⟨q1, q2, q3, _, _⟩ hK' s1 f1 g1
      have hK2 : LKl T l (if isS T (sk T x.1) 59 = true then lawL T f (sk T x.1 + 1) (cs ++ [x.2]) else if sk T x.1 < T.2 then .inl (sk T x.1) else .inr (cs ++ [x.2])) s K := hK'
      have k1 := sk_ge (T := T) (p := x.1)
      have k2 := sk_le q2
      have ec : flL 0 cs ++ flC (flL 0 cs).length x.2 = flL 0 (cs ++ [x.2]) := by rw [flL_app, Nat.zero_add]
      rw [ec] at g1
      have hlen : (flL 0 (cs ++ [x.2])).length ≤ x.1 := by
        rw [← ec, List.length_append]
        have := q3 (flL 0 cs).length
        omega
      refine c_take hT (by omega) (x := 59) (by decide) g1.1 q2 (fun hx s2 f2 g2 => ?_) (fun hx s2 f2 g2 => ?_)
      · have hlt := (isS_lt hx).1
        rw [if_pos hx] at hK2
        rw [e1]
        exact ih (sk T x.1 + 1) (cs ++ [x.2]) (i + 1) s2 (by omega) (by omega) (by omega) ⟨g2, CodeA_f (by simp; omega) (by simp; omega) f2 g1.2⟩ (by omega) (frm_t hfr (frm_t f1 (frm_w f2 (by simp)))) hK2
      · rw [if_neg (by rw [hx]; decide)] at hK2
        rw [r_G_readLaw_12, if_pos (show nI 0 = 0 from rfl)]
        refine c_next hT (by omega) g2 k2 fun s3 f3 g3 => ?_
        rw [sk_sk] at g3 ⊢
        have c3 : CodeA l (flL 0 (cs ++ [x.2])) s3 := CodeA_f (by simp; omega) (by simp; omega) f3 (CodeA_f (by simp; omega) (by simp; omega) f2 g1.2)
        have fr3 : frm [1, l, l + 1] s s3 := frm_t hfr (frm_t f1 (frm_t (frm_w f2 (by simp)) (frm_w f3 (by simp))))
        by_cases hlt : sk T x.1 < T.2
        · rw [if_pos hlt] at hK2
          have hb := (hT.2 _ hlt).2
          rw [show sg T (sk T x.1) = nI (T.1 (sk T x.1)) from if_pos hlt, if_neg (show ¬ nI (T.1 (sk T x.1)) = -1 from fun z => by rw [n_m1, m1_eq (by omega)] at z; exact z)]
          refine c_refuse hT (by omega) g3 k2 fun s4 f4 g4 => ?_
          rw [b_isRight hT (by omega) g4, if_pos (by decide)]
          exact hK2 s4 (frm_t fr3 (frm_w f4 (by simp))) ⟨g4, (flL 0 (cs ++ [x.2])).length, by omega, by rw [f4 l (by simp; omega)]; exact c3.1⟩
        · rw [if_neg hlt] at hK2
          rw [show sg T (sk T x.1) = m1 from if_neg hlt, if_pos (show m1 = -1 from rfl), c_isRight (by omega) g3, if_pos (by decide)]
          exact hK2 s3 _ fr3 ⟨g3, c3⟩
theorem c_readLaw (hT : TxOk T) (hl : isL l) {d : Nat} (hd : 47 ≤ d) {s : Mem} {K : Int32 → Mem → Prop} (hn : s 1 1 = nI T.2) (hb : ∀ k, k < T.2 → s 2 k = nI (T.1 k)) (hK : LKl T l (lawP T) s K) : wI (wp d) m_G_readLaw [.ref 1, .ref l] s K := by
  have h18 := isL_18 hl
  have hsh := isL_b hl
  obtain ⟨d, rfl⟩ : ∃ e, d = e + 1 := ⟨d - 1, by omega⟩
  rw [e_G_readLaw, hsh]
  obtain ⟨d, rfl⟩ : ∃ e, d = e + 1 := ⟨d - 1, by omega⟩
  rw [e_L_clear, hsh, e_T_begin]
  have f1 : frm [1, l, l + 1] s (upM (upM (upM s l 1 0) 1 2 0) 1 3 (-1)) := frm_t (frm_u (by simp)) (frm_t (frm_u (by simp)) (frm_u (by simp)))
  refine c_readLaw_l hT hl (by omega) (T.2 + 1) 0 [] 0 _ (by omega) (by omega) (by omega) ⟨⟨?_, ?_, up_at, ?_⟩, ?_, ?_⟩ (by show 0 ≤ 0; omega) f1 hK
  · rw [up_pl (by decide), up_pl (by decide), up_ce (by omega)]; exact hn
  · rw [up_pl (by decide), up_at]; rfl
  · intro k hk
    rw [up_ce (by decide), up_ce (by decide), up_ce (by omega)]; exact hb k hk
  · rw [up_ce (by omega), up_ce (by omega), up_at]; rfl
  · intro j x hj
    exact absurd hj (by simp [flL])
end
