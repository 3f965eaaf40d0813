/-! the class reads items, clauses -/
section
variable {d c : Nat} {T : Txt} {s : Mem}
/-- first and last item -/
def itA (src : Bool) : Nat := if src = true then 0 else 6
def itZ (src : Bool) : Nat := if src = true then 5 else 6
theorem idx_ge {src : Bool} {x j : Nat} (h : idx src x = some j) : itA src ≤ j ∧ j ≤ itZ src ∧ itL j = x := by
  cases src
  · unfold idx at h
    rw [if_neg (by decide)] at h
    split at h
    · rename_i e; injection h with h; subst h; subst e; exact ⟨by decide, by decide, rfl⟩
    · simp at h
  · unfold idx at h
    rw [if_pos rfl] at h
    repeat' split at h
    all_goals first
      | (rename_i e; injection h with h; subst h; subst e; exact ⟨by decide, by decide, rfl⟩)
      | (simp at h)
theorem idx_none {src : Bool} {x j : Nat} (h : idx src x = none) (h1 : itA src ≤ j) (h2 : j ≤ itZ src) : itL j ≠ x := by
  intro e
  subst e
  cases src
  · have : j = 6 := by unfold itA at h1; unfold itZ at h2; simp at h1 h2; omega
    subst this
    revert h
    decide
  · have h2' : j ≤ 5 := h2
    rcases (show j = 0 ∨ j = 1 ∨ j = 2 ∨ j = 3 ∨ j = 4 ∨ j = 5 by omega) with rfl | rfl | rfl | rfl | rfl | rfl <;> (revert h; decide)
theorem itL_inj {j k : Nat} (hj : j ≤ 6) (hk : k ≤ 6) (h : itL j = itL k) : j = k := by
  have key : ∀ j, j ≤ 6 → ∀ k, k ≤ 6 → itL j = itL k → j = k := by decide
  exact key j hj k hk h
theorem itL_lt {j : Nat} : itL j < 256 ∧ 0 < itL j := by
  unfold itL
  repeat' split
  all_goals exact ⟨by decide, by decide⟩
theorem c_itemOf {K : Int32 → Mem → Prop} (hT : TxOk T) (hd : 2 ≤ d) (hst : STA s) {src : Bool} {q : Nat} : wI (wp d) m_C_itemOf [.int (sg T q), .int (nI (itA src)), .int (nI (itZ src))] s K = K (oI (idxT T src q)) s := by
  obtain ⟨d, rfl⟩ : ∃ e, d = e + 2 := ⟨d - 2, by omega⟩
  have hz6 : itZ src ≤ 6 := by cases src <;> decide
  have haz : itA src ≤ itZ src := by cases src <;> decide
  have lp : ∀ (n j : Nat) (v1 : Value), j + n = itZ src + 1 → itA src ≤ j → (∀ j', idxT T src q = some j' → j ≤ j') → RnI (d + 1) m_C_itemOf K 2 [.int (sg T q), v1, .int (nI (itZ src)), .int (nI j)] [] s = K (oI (idxT T src q)) s := by
    intro n
    induction n with
    | zero =>
      intro j v1 hj ha h
      rw [r_C_itemOf_2, if_pos (show nI (itZ src) < nI j by rw [nI_ltI (by omega) (by omega)]; omega)]
      cases hi : idxT T src q with
      | none => rfl
      | some j' =>
        have := h j' hi
        unfold idxT at hi
        split at hi
        · have := idx_ge hi; omega
        · simp at hi
    | succ n ih =>
      intro j v1 hj ha h
      have hL := itL_lt (j := j)
      rw [r_C_itemOf_2, if_neg (show ¬ nI (itZ src) < nI j by rw [nI_ltI (by omega) (by omega)]; omega), c_at (d := d) (show (shp 1002).1 = 20 from rfl) (show j < 7 by omega), sta_L hst (by omega), show nI j + 1 = nI (j + 1) from nI_add j 1]
      by_cases e : nI (itL j) = sg T q
      · rw [if_pos e]
        have hq : isS T q (itL j) = true := by
          have := sg_e (T := T) hT (q := q) hL.1
          rw [← this]; exact e.symm
        obtain ⟨hq1, hq2⟩ := isS_lt hq
        have : idxT T src q = some j := by
          cases hi : idxT T src q with
          | none =>
            unfold idxT at hi
            rw [if_pos hq1] at hi
            exact absurd hq2.symm (idx_none hi ha (by omega))
          | some j' =>
            unfold idxT at hi
            rw [if_pos hq1] at hi
            have g := idx_ge hi
            rw [itL_inj (j := j') (k := j) (by omega) (by omega) (by rw [g.2.2, hq2])]
        rw [this]
        rfl
      · rw [if_neg e]
        refine ih (j + 1) _ (by omega) (by omega) fun j' hi => ?_
        have h1 := h j' hi
        by_cases ej : j' = j
        · exfalso
          subst ej
          unfold idxT at hi
          split at hi
          · rename_i hq1
            have g := idx_ge hi
            refine e ?_
            rw [show sg T q = nI (T.1 q) from if_pos hq1, g.2.2]
          · simp at hi
        · omega
  rw [e_C_itemOf]
  exact lp (itZ src + 1 - itA src) (itA src) _ (by omega) (Nat.le_refl _) fun j' hi => by
    unfold idxT at hi
    split at hi
    · exact (idx_ge hi).1
    · simp at hi
/-- what reading items ends with; cl the clause -/
def IK (T : Txt) (c cl : Nat) (src : Bool) (r : Sum Nat (Nat × (Nat → Nat))) (s : Mem) (K : Mem → Prop) : Prop := match r with
  | .inl f => ∀ s', frm [1, c + 3] s s' → FB T f s' → K s'
  | .inr x => ∀ s' p, frm [1, c + 3] s s' → TpG T p s' → p ≤ T.2 → sk T p = x.1 → (∀ j, itA src ≤ j → j ≤ itZ src → s' (c + 3) (7 * cl + j) = nI (x.2 j)) → (∀ k, (k < 7 * cl + itA src ∨ 7 * cl + itZ src < k) → s' (c + 3) k = s (c + 3) k) → K s'
theorem c_readItems (hT : TxOk T) (hcc : isC c) (hst : STA s) {K : Mem → Prop} (hd : 5 ≤ d) {cl : Nat} (hcl : cl ≤ 6) {src : Bool} {p : Nat} {v0 : Nat → Nat} (hg : TpG T p s) (hp : p ≤ T.2) (hv : ∀ j, itA src ≤ j → j ≤ itZ src → s (c + 3) (7 * cl + j) = nI (v0 j)) (hK : IK T c cl src (itemsF T src (itZ src + 1 - itA src) p (fun _ => false) v0) s K) :
    wV (wp d) m_C_readItems [.ref c, .ref 1, .int (nI cl), .int (nI (itA src)), .int (nI (itZ src))] s K := by
  have h160 := hT.1
  have hL := C_le hcc
  have c3 : 3 ≤ c := by rcases hcc with rfl | rfl <;> omega
  have hb := C_b hcc
  have h3 := C_s3 hcc
  have hz6 : itZ src ≤ 6 := by cases src <;> decide
  have haz : itA src ≤ itZ src := by cases src <;> decide
  obtain ⟨d, rfl⟩ : ∃ e, d = e + 1 := ⟨d - 1, by omega⟩
  have lp : ∀ (m p : Nat) (told : Nat → Bool) (vals : Nat → Nat) (i5 : Int32) (i6 : Nat) (v7 : Value) (u : Mem), i6 + m = itZ src + 1 → frm [1, c + 3] s u → TpG T p u → p ≤ T.2 → (∀ k, k < 32 → tb i5 k = told k) → (∀ j, itA src ≤ j → j ≤ itZ src → u (c + 3) (7 * cl + j) = nI (vals j)) → (∀ k, (k < 7 * cl + itA src ∨ 7 * cl + itZ src < k) → u (c + 3) k = s (c + 3) k) → IK T c cl src (itemsF T src m p told vals) s K →
      RnV d m_C_readItems K 6 [.ref c, .ref 1, .int (nI cl), .int (nI (itA src)), .int (nI (itZ src)), .int i5, .int (nI i6), v7] [] u := by
    intro m
    induction m with
    | zero =>
      intro p told vals i5 i6 v7 u hm hf hg hp h5 hvv hout hK
      have k1 := sk_ge (T := T) (p := p)
      have k2 := sk_le hp
      rw [r_C_readItems_6, if_pos (show nI (itZ src) < nI i6 by rw [nI_ltI (by omega) (by omega)]; omega)]
      cases hi : idxT T src (sk T p) with
      | none =>
        rw [show itemsF T src 0 p told vals = .inr (sk T p, vals) from by unfold itemsF; rw [hi]] at hK
        exact hK u p hf hg hp rfl hvv hout
      | some j =>
        rw [show itemsF T src 0 p told vals = .inl (sk T p) from by unfold itemsF; rw [hi]] at hK
        unfold idxT at hi
        by_cases hlt : sk T p < T.2
        · rw [if_pos hlt] at hi
          have g := idx_ge hi
          refine hK u hf (Or.inr ⟨p, hg, hp, rfl, hlt, fun e => ?_⟩)
          rw [e] at g
          have : ∀ j, j ≤ 6 → itL j ≠ 59 := by decide
          exact this j (by omega) g.2.2
        · rw [if_neg hlt] at hi; simp at hi
    | succ m ih =>
      intro p told vals i5 i6 v7 u hm hf hg hp h5 hvv hout hK
      have k1 := sk_ge (T := T) (p := p)
      have k2 := sk_le hp
      have stu : STA u := STA_f hst hf (fun a z => by simp only [List.mem_cons, List.not_mem_nil, or_false] at z; omega)
      rw [r_C_readItems_6, if_neg (show ¬ nI (itZ src) < nI i6 by rw [nI_ltI (by omega) (by omega)]; omega)]
      refine c_next hT (by omega) hg hp fun u1 f1 g1 => ?_
      have st1 : STA u1 := STA_f stu f1 (fun a z => by simp only [List.mem_cons, List.not_mem_nil, or_false] at z; omega)
      have e3 : u1 (c + 3) = u (c + 3) := f1 (c + 3) (by simp only [List.mem_cons, List.not_mem_nil, or_false]; omega)
      have hf1 : frm [1, c + 3] s u1 := frm_t hf (frm_w f1 (by simp))
      rw [c_itemOf hT (by omega) st1]
      cases hi : idxT T src (sk T p) with
      | none =>
        rw [show itemsF T src (m + 1) p told vals = .inr (sk T p, vals) from by unfold itemsF; rw [hi]] at hK
        rw [if_pos (show oI none = -1 from rfl)]
        exact hK u1 (sk T p) hf1 g1 k2 sk_sk (by rw [e3]; exact hvv) (by rw [e3]; exact hout)
      | some j =>
        have e0 : itemsF T src (m + 1) p told vals = if told j = true then .inl (sk T p) else
            if sk T (sk T p + 1) < T.2 ∧ dg (T.1 (sk T (sk T p + 1))) = true then
              (match numL T 2 (sk T (sk T p + 1)) 0 with
              | .inl f => .inl f
              | .inr x => if x.2 < itLo j ∨ itHi j < x.2 then .inl (x.1 - 1) else itemsF T src m x.1 (fun k => if k = j then true else told k) (fun k => if k = j then x.2 else vals k))
            else .inl (sk T (sk T p + 1)) := by
          conv => lhs; unfold itemsF
          rw [hi]
          rfl
        have hlt : sk T p < T.2 := by
          unfold idxT at hi
          by_cases z : sk T p < T.2
          · exact z
          · rw [if_neg z] at hi; simp at hi
        have g : itA src ≤ j ∧ j ≤ itZ src ∧ itL j = T.1 (sk T p) := by
          unfold idxT at hi
          rw [if_pos hlt] at hi
          exact idx_ge hi
        have ej : oI (some j) = nI j := rfl
        rw [e0] at hK
        rw [if_neg (show ¬ oI (some j) = -1 from fun z => by rw [n_m1, ej, m1_eq (by omega)] at z; exact z), ej, show (31 : Int32) = nI 31 from rfl, show (1 : Int32) = nI 1 from rfl, sh_b (by omega), h5 j (by omega)]
        by_cases ht : told j = true
        · rw [if_pos ht] at hK
          rw [ht, if_neg (show ¬ b01 true = 0 by decide)]
          refine hK u1 hf1 (Or.inr ⟨sk T p, g1, k2, sk_sk, hlt, fun e => ?_⟩)
          rw [e] at g
          have : ∀ j, j ≤ 6 → itL j ≠ 59 := by decide
          exact this j (by omega) g.2.2
        · rw [if_neg ht] at hK
          rw [Bool.eq_false_iff.mpr ht, if_pos (show b01 false = 0 from rfl)]
          have k3 := sk_ge (T := T) (p := sk T p + 1)
          have k4 := sk_le (T := T) (p := sk T p + 1) (by omega)
          refine c_pass hT (by omega) g1 hlt fun u2 f2 g2 => ?_
          have st2 : STA u2 := STA_f st1 f2 (fun a z => by simp only [List.mem_cons, List.not_mem_nil, or_false] at z; omega)
          have hf2 : frm [1, c + 3] s u2 := frm_t hf1 (frm_w f2 (by simp))
          have e32 : u2 (c + 3) = u (c + 3) := by rw [f2 (c + 3) (by simp only [List.mem_cons, List.not_mem_nil, or_false]; omega), e3]
          rw [hb]
          simp only [cond_true]
          obtain ⟨d, rfl⟩ : ∃ e, d = e + 1 := ⟨d - 1, by omega⟩
          rw [c_at (d := d) (show (shp 1003).1 = 20 from rfl) (show j < 7 by omega), sta_lo st2 (by omega), c_at (d := d) (show (shp 1004).1 = 20 from rfl) (show j < 7 by omega), sta_hi st2 (by omega)]
          have hlo : itLo j < 10000 := by unfold itLo; split <;> omega
          have hhi : itHi j < 10000 := by unfold itHi; repeat' split
                                          all_goals omega
          have ebit : nI 1 <<< (nI j &&& nI 31) = bit j := rfl
          -- behind a fault in the number
          have bad : ∀ (f : Nat) (y : Int32) (w : Mem), frm [1] u2 w → TpB T f w → (∀ s', frm [1, c + 3] s s' → FB T f s' → K s') → wV (wp (d + 1)) m_X_put [.ref (c + 3), .int ((nI cl * 7) + nI j), .int y] w (fun s87 => RnV (d + 1) m_C_readItems K 6 [.ref c, .ref 1, .int (nI cl), .int (nI (itA src)), .int (nI (itZ src)), .int (i5 ||| (nI 1 <<< (nI j &&& nI 31))), .int (nI i6 + nI 1), .int (nI j)] [] s87) := by
            intro f y w fw gw hK
            refine c_putany (by omega) (by rw [h3]) (by omega) fun w1 f1' => ?_
            have gw1 : TpB T f w1 := TpB_f (by simp) (by simp only [List.mem_cons, List.not_mem_nil, or_false]; omega) f1' gw
            have hfw : frm [1, c + 3] s w1 := frm_t hf2 (frm_t (frm_w fw (by simp)) (frm_w f1' (by simp)))
            rw [r_C_readItems_6]
            split
            · exact hK w1 hfw (Or.inl gw1)
            · refine b_next hT (by omega) gw1 fun w2 f2' g2' => ?_
              have stw2 : STA w2 := STA_f (STA_f (STA_f st2 fw (fun a z => by simp only [List.mem_cons, List.not_mem_nil, or_false] at z; omega)) f1' (fun a z => by simp only [List.mem_cons, List.not_mem_nil, or_false] at z; omega)) f2' (fun a z => by simp only [List.mem_cons, List.not_mem_nil, or_false] at z; omega)
              have := c_itemOf (d := d + 1) (K := fun x20 s20 => (if x20 = (-1) then K s20 else (if (((i5 ||| (nI 1 <<< (nI j &&& nI 31))) >>> (x20 &&& 31)) &&& 1) = 0 then wV (wp (d + 1)) m_T_pass [.ref 1] s20 (fun s52 => (bif Nat.beq (shp c).1 2 then wI (wp (d + 1)) m_X_at [.ref 1003, .int x20] s52 (fun x73 s73 => wI (wp (d + 1)) m_X_at [.ref 1004, .int x20] s73 (fun x81 s81 => wI (wp (d + 1)) m_T_number [.ref 1, .int 2, .int x73, .int x81] s81 (fun x84 s84 => wV (wp (d + 1)) m_X_put [.ref (c + 3), .int ((nI cl * 7) + x20), .int x84] s84 (fun s87 => RnV (d + 1) m_C_readItems K 6 [.ref c, .ref 1, .int (nI cl), .int (nI (itA src)), .int (nI (itZ src)), .int ((i5 ||| (nI 1 <<< (nI j &&& nI 31))) ||| ((1 : Int32) <<< (x20 &&& 31))), .int ((nI i6 + nI 1) + 1), .int x20] [] s87)))) else False)) else K s20))) hT (by omega) stw2 (src := src) (q := T.2)
              rw [show sg T T.2 = m1 from if_neg (Nat.lt_irrefl _), show idxT T src T.2 = none from if_neg (Nat.lt_irrefl _)] at this
              rw [this, if_pos (show oI none = -1 from rfl)]
              exact hK w2 (frm_t hfw (frm_w f2' (by simp))) (Or.inl g2')
          by_cases hd2 : sk T (sk T p + 1) < T.2 ∧ dg (T.1 (sk T (sk T p + 1))) = true
          · rw [if_pos hd2] at hK
            have hn := numL_P (T := T) 2 (sk T (sk T p + 1)) 0 k4 (by decide) (by decide)
            refine c_number (k := 2) hT (by omega) hlo hhi (by decide) g2 hd2.1 hd2.2 ?_
            revert hK hn
            cases numL T 2 (sk T (sk T p + 1)) 0 with
            | inl f =>
              intro hK _ y w fw gw
              exact bad f y w fw gw hK
            | inr x =>
              intro hK ⟨n1, n2, n3⟩
              have hK' : IK T c cl src (if x.2 < itLo j ∨ itHi j < x.2 then .inl (x.1 - 1) else itemsF T src m x.1 (fun k => if k = j then true else told k) (fun k => if k = j then x.2 else vals k)) s K := hK
              show if x.2 < itLo j ∨ itHi j < x.2 then _ else _
              by_cases hbd : x.2 < itLo j ∨ itHi j < x.2
              · rw [if_pos hbd] at hK' ⊢
                intro y w fw gw
                exact bad (x.1 - 1) y w fw gw hK'
              · rw [if_neg hbd] at hK' ⊢
                intro w fw gw
                have ew : w (c + 3) = u (c + 3) := by rw [fw (c + 3) (by simp only [List.mem_cons, List.not_mem_nil, or_false]; omega), e32]
                rw [show (7 : Int32) = nI 7 from rfl, pk_mul, nI_add, show cl * 7 + j = 7 * cl + j by omega, c_put (d := d) (by rw [h3]) (by omega) (by rw [h3]; show 7 * cl + j < 49; omega), ebit, show nI i6 + nI 1 = nI (i6 + 1) from nI_add i6 1]
                refine ih x.1 _ _ _ (i6 + 1) _ _ (by omega) (frm_t hf2 (frm_t (frm_w fw (by simp)) (frm_u (by simp)))) ?_ n2 (fun k hk => ?_) (fun j' h1 h2 => ?_) (fun k hk => ?_) hK'
                · exact TpG_f (L := [c + 3]) (by simp) (by simp only [List.mem_cons, List.not_mem_nil, or_false]; omega) (frm_u (by simp)) gw
                · rw [tb_or, h5 k hk, tb_bit (by omega)]
                  by_cases e : k = j
                  · rw [if_pos e, decide_eq_true e.symm, Bool.or_true]
                  · rw [if_neg e, decide_eq_false (fun z => e z.symm), Bool.or_false]
                · by_cases e : j' = j
                  · rw [e, up_at, if_pos rfl]
                  · rw [up_pl (by omega), if_neg e, ew]; exact hvv j' h1 h2
                · rw [up_pl (by omega), ew]; exact hout k hk
          · rw [if_neg hd2] at hK
            obtain ⟨d, rfl⟩ : ∃ e, d = e + 1 := ⟨d - 1, by omega⟩
            rw [show (2 : Int32) = nI 2 from rfl, e_T_number]
            refine c_next hT (by omega) g2 (by omega) fun w fw gw => ?_
            have ndg : (decide (sk T (sk T p + 1) < T.2) && dg (T.1 (sk T (sk T p + 1)))) = false := by
              cases h : (decide (sk T (sk T p + 1) < T.2) && dg (T.1 (sk T (sk T p + 1))))
              · rfl
              · exact absurd (by have := Bool.and_eq_true_iff.mp h; exact ⟨of_decide_eq_true this.1, this.2⟩) hd2
            have fin : ∀ w2, frm [1] w w2 → TpB T (sk T (sk T p + 1)) w2 → wV (wp (d + 2)) m_X_put [.ref (c + 3), .int ((nI cl * 7) + nI j), .int (nI (itLo j))] w2 (fun s87 => RnV (d + 2) m_C_readItems K 6 [.ref c, .ref 1, .int (nI cl), .int (nI (itA src)), .int (nI (itZ src)), .int (i5 ||| (nI 1 <<< (nI j &&& nI 31))), .int (nI i6 + nI 1), .int (nI j)] [] s87) := fun w2 fw2 gw2 => bad _ _ w2 (frm_t fw fw2) gw2 hK
            by_cases hlt2 : sk T (sk T p + 1) < T.2
            · have hbt := (hT.2 _ hlt2).2
              rw [decide_eq_true hlt2, Bool.true_and] at ndg
              rw [show sg T (sk T (sk T p + 1)) = nI (T.1 (sk T (sk T p + 1))) from if_pos hlt2, c_isDigit (by omega) (by omega), ndg, if_pos (show b01 false = 0 from rfl)]
              exact c_refuse hT (by omega) gw k4 fun w2 fw2 gw2 => fin w2 fw2 gw2
            · rw [show sg T (sk T (sk T p + 1)) = m1 from if_neg hlt2, b_isDigit (by omega), if_pos (show nI 0 = 0 from rfl)]
              exact c_refuse hT (by omega) gw k4 fun w2 fw2 gw2 => fin w2 fw2 gw2
  rw [e_C_readItems]
  exact lp (itZ src + 1 - itA src) p (fun _ => false) v0 _ (itA src) _ s (by omega) frm_r hg hp (fun k _ => tb_0) hv (fun _ _ => rfl) hK
end
