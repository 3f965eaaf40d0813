/-! the class's Grammar: clauses and laws -/
section
variable {d : Nat} {T : Txt} {s : Mem} {l : Nat}
/-- a clause's code, put at z -/
def flC (z : Nat) (cl : Cl) : List Int32 := match cl.1 with
  | none => cl.2.1 ++ [- nI 59]
  | some c => (c.1 ++ [- nI 63, nI (z + c.1.length + 2 + cl.2.1.length + 1)]) ++ (cl.2.1 ++ [- nI 59])
def flL : Nat → List Cl → List Int32
  | _, [] => []
  | z, cl :: r => flC z cl ++ flL (z + (flC z cl).length) r
theorem flL_app : ∀ (z : Nat) (cs : List Cl) (x : Cl), flL z (cs ++ [x]) = flL z cs ++ flC (z + (flL z cs).length) x
  | z, [], x => by
    show flC z x ++ [] = [] ++ flC (z + 0) x
    rw [List.append_nil]; rfl
  | z, cl :: r, x => by
    show flC z cl ++ flL (z + (flC z cl).length) (r ++ [x]) = (flC z cl ++ flL (z + (flC z cl).length) r) ++ flC (z + (flC z cl ++ flL (z + (flC z cl).length) r).length) x
    rw [flL_app, List.append_assoc, List.length_append, Nat.add_assoc]
def LKc (T : Txt) (l : Nat) (C : List Int32) (r : Sum Nat (Nat × Cl)) (s : Mem) (K : Mem → Prop) : Prop := match r with
  | .inl f => ∀ s', frm [1, l, l + 1] s s' → TB2 T l f s' → K s'
  | .inr x => ∀ s', frm [1, l, l + 1] s s' → TG T l x.1 (C ++ flC C.length x.2) s' → K s'
theorem LKc_f {C : List Int32} {r : Sum Nat (Nat × Cl)} {t : Mem} {K : Mem → Prop} (h : LKc T l C r s K) (hf : frm [1, l, l + 1] s t) : LKc T l C r t K := by
  cases r with
  | inl f => exact fun s' f' g' => h s' (frm_t hf f') g'
  | inr x => exact fun s' f' g' => h s' (frm_t hf f') g'
theorem set_mid (B : List Int32) (x y v : Int32) : ∀ A : List Int32, ((A ++ [x, y]) ++ B).set (A.length + 1) v = (A ++ [x, v]) ++ B
  | [] => rfl
  | a :: A => congrArg (a :: ·) (set_mid B x y v A)
theorem c_putany {K : Mem → Prop} (hd : 1 ≤ d) {a : Nat} (ha : (shp a).1 = 20) (hle : a ≤ 999) {x v : Int32} (hK : ∀ s', frm [a] s s' → K s') : wV (wp d) m_X_put [.ref a, .int x, .int v] s K := by
  obtain ⟨d, rfl⟩ : ∃ e, d = e + 1 := ⟨d - 1, by omega⟩
  by_cases h : x < 0
  · rw [e_X_put, if_pos h]
    exact hK s frm_r
  · have hx : ∃ k : Nat, k < 2 ^ 31 ∧ x = nI k := by
      rw [q0, Int32.lt_iff_toInt_lt, n_i (by omega)] at h
      have := Int32.toInt_lt x
      exact ⟨x.toInt.toNat, by omega, Int32.toInt_inj.mp (by rw [n_i (by omega)]; omega)⟩
    obtain ⟨k, hk, rfl⟩ := hx
    have hs := shp_le a
    by_cases h2 : k < (shp a).2
    · rw [c_put (d := d) ha hle h2]
      exact hK _ (frm_u (by simp))
    · rw [e_X_put, if_neg h, ha, if_neg (show ¬ nI k < Int32.ofNat (shp a).2 by rw [n_of, nI_ltI (by omega) (by omega)]; exact h2)]
      simp only [show (Nat.ble 20 20 && Nat.ble 20 24) = true from rfl, cond_true]
      exact hK s frm_r
theorem c_addJump {K : Int32 → Mem → Prop} (hl : isL l) (hd : 3 ≤ d) {C : List Int32} (hc : CodeA l C s) (hlen : C.length + 2 ≤ 160) (hK : ∀ s', frm [l, l + 1] s s' → CodeA l (C ++ [- nI 63, nI 0]) s' → K (nI (C.length + 1)) s') : wI (wp d) m_L_addJump [.ref l] s K := by
  have hsh := isL_b hl
  obtain ⟨d, rfl⟩ : ∃ e, d = e + 1 := ⟨d - 1, by omega⟩
  rw [e_L_addJump, hsh]
  refine c_add hl (by omega) hc (by omega) fun s1 f1 g1 => ?_
  refine c_add hl (by omega) g1 (by rw [List.length_append]; show C.length + 1 < 160; omega) fun s2 f2 g2 => ?_
  rw [show ∀ x : Prop, (bif true then x else False) = x from fun _ => rfl, g2.1]
  rw [List.append_assoc] at g2
  have e : nI ((C ++ [-63]) ++ [0]).length - 1 = nI (C.length + 1) := by
    rw [List.length_append, List.length_append]
    show nI (C.length + 1 + 1) - 1 = _
    rw [q1, n_sub (by omega)]
    rfl
  rw [e]
  exact hK s2 (frm_t f1 f2) g2
theorem b_addJump {K : Int32 → Mem → Prop} (hl : isL l) (hd : 3 ≤ d) {f : Nat} (hg : TB2 T l f s) (hK : ∀ x s', frm [l, l + 1] s s' → TB2 T l f s' → K x s') : wI (wp d) m_L_addJump [.ref l] s K := by
  have hsh := isL_b hl
  obtain ⟨d, rfl⟩ : ∃ e, d = e + 1 := ⟨d - 1, by omega⟩
  rw [e_L_addJump, hsh]
  refine b_add hl (by omega) hg fun s1 f1 g1 => ?_
  refine b_add hl (by omega) g1 fun s2 f2 g2 => ?_
  exact hK _ s2 (frm_t f1 f2) g2
theorem c_jump {K : Mem → Prop} (hl : isL l) (hd : 2 ≤ d) {C : List Int32} {j : Nat} (hc : CodeA l C s) (hj : j < C.length) (hlen : C.length ≤ 160) (hK : ∀ s', frm [l, l + 1] s s' → CodeA l (C.set j (nI C.length)) s' → K s') : wV (wp d) m_L_jumpToHere [.ref l, .int (nI j)] s K := by
  obtain ⟨h1, h2, h3⟩ := isL_s hl
  have h18 := isL_18 hl
  have hsh := isL_b hl
  obtain ⟨d, rfl⟩ : ∃ e, d = e + 2 := ⟨d - 2, by omega⟩
  rw [e_L_jumpToHere, hsh, hc.1, c_put (d := d) (by rw [h2]) (by omega) (by rw [h2]; show j < 160; omega)]
  refine hK _ (frm_u (by simp)) ⟨?_, ?_⟩
  · rw [up_ce (by omega), List.length_set]; exact hc.1
  · intro i y hi
    by_cases e : i = j
    · subst e
      rw [up_at]
      rw [List.getElem?_set_self hj] at hi
      injection hi
    · rw [up_pl e]
      rw [List.getElem?_set_ne (fun z => e z.symm)] at hi
      exact hc.2 i y hi
/-- behind a condition -/
theorem c_then {K : Mem → Prop} (hT : TxOk T) (hl : isL l) (hd : 25 ≤ d) {C : List Int32} {c : E} {p : Nat} (hg : TG T l p (C ++ c.1) s) (hC : C.length + c.1.length + 2 ≤ p) (hp : p ≤ T.2) (hK : LKc T l C (ned T p 63 fun p7 => bnd (sumP T 6 p7) fun p8 e => .inr (p8, (some c, e))) s K) :
    wV (wp d) m_T_need [.ref 1, .int 63] s (fun s91 => wI (wp d) m_L_addJump [.ref l] s91 (fun x95 s95 => wV (wp d) m_G_readSum [.ref 1, .ref l, .int 0] s95 (fun s103 => wV (wp d) m_L_add [.ref l, .int (-59)] s103 (fun s109 => wV (wp d) m_L_jumpToHere [.ref l, .int x95] s109 (fun s115 => K s115))))) := by
  have h160 := hT.1
  have h18 := isL_18 hl
  have hsh := isL_b hl
  have k1 := sk_ge (T := T) (p := p)
  obtain ⟨_, h2, _⟩ := isL_s hl
  have bad : ∀ (f : Nat) (x : Int32) (t : Mem), frm [1, l, l + 1] s t → TB2 T l f t → (∀ s', frm [1, l, l + 1] s s' → TB2 T l f s' → K s') → wV (wp d) m_L_add [.ref l, .int (-59)] t (fun s109 => wV (wp d) m_L_jumpToHere [.ref l, .int x] s109 (fun s115 => K s115)) := by
    intro f x t hf hg hK
    refine b_add hl (by omega) hg fun s1 f1 g1 => ?_
    obtain ⟨d, rfl⟩ : ∃ e, d = e + 1 := ⟨d - 1, by omega⟩
    show wV (wp (d + 1)) m_L_jumpToHere [.ref l, .int x] s1 (fun s115 => K s115)
    rw [e_L_jumpToHere, hsh]
    refine c_putany (by omega) (by rw [h2]) (by omega) fun s2 f2 => ?_
    have fr : frm [1, l, l + 1] s s2 := frm_t hf (frm_t (frm_w f1 (by simp)) (frm_w f2 (by simp)))
    exact hK s2 fr ⟨TpB_f (by simp; omega) (by simp; omega) f2 g1.1, by rw [f2 l (by simp)]; exact g1.2⟩
  refine c_need hT (by omega) (x := 63) (by decide) hg.1 hp (fun hx s1 f1 g1 => ?_) (fun hx s1 f1 g1 => ?_)
  · have hlt := (isS_lt hx).1
    have er : ned T p 63 (fun p7 => (bnd (sumP T 6 p7) fun p8 e => .inr (p8, (some c, e)) : Sum Nat (Nat × Cl))) = (bnd (sumP T 6 (sk T p + 1)) fun p8 e => .inr (p8, (some c, e))) := if_pos hx
    rw [er] at hK
    have c1 : CodeA l (C ++ c.1) s1 := CodeA_f (by simp; omega) (by simp; omega) f1 hg.2
    refine c_addJump hl (by omega) c1 (by rw [List.length_append]; omega) fun s2 f2 g2 => ?_
    have t2 : TpG T (sk T p + 1) s2 := TpG_f (by simp; omega) (by simp; omega) f2 g1
    have fr2 : frm [1, l, l + 1] s s2 := frm_t (frm_w f1 (by simp)) (frm_w f2 (by simp))
    refine c_sums hT hl 6 (by omega) d ((C ++ c.1) ++ [- nI 63, nI 0]) (sk T p + 1) s2 _ (by omega) ⟨t2, g2⟩ (by simp only [List.length_append, List.length_cons, List.length_nil]; omega) (by omega) ?_
    have hgr := sumP_G (T := T) 6 (sk T p + 1) (by omega)
    revert hK hgr
    cases sumP T 6 (sk T p + 1) with
    | inl e =>
      intro hK _ s3 f3 g3
      exact bad e _ s3 (frm_t fr2 f3) g3 hK
    | inr e =>
      intro hK ⟨q1, q2, q3, _⟩ s3 f3 g3
      have hlen : (C ++ c.1 ++ [- nI 63, nI 0] ++ e.2.1).length < 160 := by
        simp only [List.length_append, List.length_cons, List.length_nil]
        omega
      refine c_add hl (by omega) g3.2 hlen ?_
      intro s4 f4 g4
      show wV (wp d) m_L_jumpToHere _ s4 (fun s115 => K s115)
      refine c_jump hl (by omega) g4 (by simp only [List.length_append, List.length_cons, List.length_nil]; omega) (by simp only [List.length_append, List.length_cons, List.length_nil]; omega) fun s5 f5 g5 => ?_
      have t5 : TpG T e.1 s5 := TpG_f (by simp; omega) (by simp; omega) f5 (TpG_f (by simp; omega) (by simp; omega) f4 g3.1)
      refine hK s5 (frm_t fr2 (frm_t f3 (frm_t (frm_w f4 (by simp)) (frm_w f5 (by simp))))) ⟨t5, ?_⟩
      rw [List.append_assoc _ e.2.1, set_mid] at g5
      have el : ((C ++ c.1) ++ [- nI 63, nI 0] ++ (e.2.1 ++ [-59])).length = C.length + c.1.length + 2 + e.2.1.length + 1 := by
        simp only [List.length_append, List.length_cons, List.length_nil]
        omega
      rw [el] at g5
      have e2 : C ++ flC C.length (some c, e.2) = C ++ c.1 ++ [- nI 63, nI (C.length + c.1.length + 2 + e.2.1.length + 1)] ++ (e.2.1 ++ [-59]) := by
        show C ++ ((c.1 ++ [- nI 63, nI (C.length + c.1.length + 2 + e.2.1.length + 1)]) ++ (e.2.1 ++ [- nI 59])) = _
        simp only [List.append_assoc]
        rfl
      show CodeA l (C ++ flC C.length (some c, e.2)) s5
      rw [e2]
      exact g5
  · have er : ned T p 63 (fun p7 => (bnd (sumP T 6 p7) fun p8 e => .inr (p8, (some c, e)) : Sum Nat (Nat × Cl))) = .inl (sk T p) := if_neg (by rw [hx]; decide)
    rw [er] at hK
    have g1' : TB2 T l (sk T p) s1 := ⟨g1, (C ++ c.1).length, by rw [List.length_append]; omega, by rw [f1 l (by simp; omega)]; exact hg.2.1⟩
    refine b_addJump hl (by omega) g1' fun x s2 f2 g2 => ?_
    refine b_sum hT hl d (sk T p) _ s2 _ (by omega) g2 fun s3 f3 g3 => ?_
    exact bad (sk T p) _ s3 (frm_t (frm_w f1 (by simp)) (frm_t (frm_w f2 (by simp)) f3)) g3 hK
theorem b_then {K : Mem → Prop} (hT : TxOk T) (hl : isL l) (hd : 25 ≤ d) {f : Nat} (hg : TB2 T l f s) (hK : ∀ s', frm [1, l, l + 1] s s' → TB2 T l f s' → K s') :
    wV (wp d) m_T_need [.ref 1, .int 63] s (fun s91 => wI (wp d) m_L_addJump [.ref l] s91 (fun x95 s95 => wV (wp d) m_G_readSum [.ref 1, .ref l, .int 0] s95 (fun s103 => wV (wp d) m_L_add [.ref l, .int (-59)] s103 (fun s109 => wV (wp d) m_L_jumpToHere [.ref l, .int x95] s109 (fun s115 => K s115))))) := by
  have h18 := isL_18 hl
  have hsh := isL_b hl
  obtain ⟨_, h2, _⟩ := isL_s hl
  refine b_need hT (by omega) (x := 63) (by decide) hg.1 fun s1 f1 g1 => ?_
  refine b_addJump hl (by omega) ⟨g1, by rw [f1 l (by simp; omega)]; exact hg.2⟩ fun x s2 f2 g2 => ?_
  refine b_sum hT hl d f _ s2 _ (by omega) g2 fun s3 f3 g3 => ?_
  show wV (wp d) m_L_add [.ref l, .int (-59)] s3 _
  refine b_add hl (by omega) g3 fun s4 f4 g4 => ?_
  obtain ⟨d, rfl⟩ : ∃ e, d = e + 1 := ⟨d - 1, by omega⟩
  show wV (wp (d + 1)) m_L_jumpToHere [.ref l, .int x] s4 (fun s115 => K s115)
  rw [e_L_jumpToHere, hsh]
  refine c_putany (by omega) (by rw [h2]) (by omega) fun s5 f5 => ?_
  exact hK s5 (frm_t (frm_w f1 (by simp)) (frm_t (frm_w f2 (by simp)) (frm_t f3 (frm_t (frm_w f4 (by simp)) (frm_w f5 (by simp)))))) ⟨TpB_f (by simp; omega) (by simp; omega) f5 g4.1, by rw [f5 l (by simp)]; exact g4.2⟩
/-- the rest of a clause, behind y: -/
def restC (d l : Nat) (K : Mem → Prop) (x13 : Int32) (s13 : Mem) : Prop := (if x13 = 33 then wV (wp d) m_G_readCondition [.ref 1, .ref l, .int 0] s13 (fun s42 => wV (wp d) m_T_need [.ref 1, .int 63] s42 (fun s91 => (bif Nat.beq (shp l).1 3 then wI (wp d) m_L_addJump [.ref l] s91 (fun x95 s95 => wV (wp d) m_G_readSum [.ref 1, .ref l, .int 0] s95 (fun s103 => (bif Nat.beq (shp l).1 3 then wV (wp d) m_L_add [.ref l, .int (-59)] s103 (fun s109 => (bif Nat.beq (shp l).1 3 then wV (wp d) m_L_jumpToHere [.ref l, .int x95] s109 (fun s115 => K s115) else False)) else False))) else False))) else (if x13 = 40 then wV (wp d) m_G_readCondition [.ref 1, .ref l, .int 0] s13 (fun s42 => wV (wp d) m_T_need [.ref 1, .int 63] s42 (fun s91 => (bif Nat.beq (shp l).1 3 then wI (wp d) m_L_addJump [.ref l] s91 (fun x95 s95 => wV (wp d) m_G_readSum [.ref 1, .ref l, .int 0] s95 (fun s103 => (bif Nat.beq (shp l).1 3 then wV (wp d) m_L_add [.ref l, .int (-59)] s103 (fun s109 => (bif Nat.beq (shp l).1 3 then wV (wp d) m_L_jumpToHere [.ref l, .int x95] s109 (fun s115 => K s115) else False)) else False))) else False))) else wV (wp d) m_G_readSum [.ref 1, .ref l, .int 0] s13 (fun s51 => wI (wp d) m_T_next [.ref 1] s51 (fun x55 s55 => wI (wp d) m_G_isComparison [.int x55] s55 (fun x58 s58 => (if x58 = 0 then (if x58 = 0 then (bif Nat.beq (shp l).1 3 then wV (wp d) m_L_add [.ref l, .int (-59)] s58 (fun s124 => K s124) else False) else wV (wp d) m_T_need [.ref 1, .int 63] s58 (fun s91 => (bif Nat.beq (shp l).1 3 then wI (wp d) m_L_addJump [.ref l] s91 (fun x95 s95 => wV (wp d) m_G_readSum [.ref 1, .ref l, .int 0] s95 (fun s103 => (bif Nat.beq (shp l).1 3 then wV (wp d) m_L_add [.ref l, .int (-59)] s103 (fun s109 => (bif Nat.beq (shp l).1 3 then wV (wp d) m_L_jumpToHere [.ref l, .int x95] s109 (fun s115 => K s115) else False)) else False))) else False))) else wV (wp d) m_G_readComparison [.ref 1, .ref l, .int 0] s58 (fun s69 => wV (wp d) m_G_readUnitsOn [.ref 1, .ref l, .int 0] s69 (fun s75 => wV (wp d) m_G_readTruthsOn [.ref 1, .ref l, .int 0] s75 (fun s81 => (if x58 = 0 then (bif Nat.beq (shp l).1 3 then wV (wp d) m_L_add [.ref l, .int (-59)] s81 (fun s124 => K s124) else False) else wV (wp d) m_T_need [.ref 1, .int 63] s81 (fun s91 => (bif Nat.beq (shp l).1 3 then wI (wp d) m_L_addJump [.ref l] s91 (fun x95 s95 => wV (wp d) m_G_readSum [.ref 1, .ref l, .int 0] s95 (fun s103 => (bif Nat.beq (shp l).1 3 then wV (wp d) m_L_add [.ref l, .int (-59)] s103 (fun s109 => (bif Nat.beq (shp l).1 3 then wV (wp d) m_L_jumpToHere [.ref l, .int x95] s109 (fun s115 => K s115) else False)) else False))) else False))))))))))))
theorem b_restC {K : Mem → Prop} (hT : TxOk T) (hl : isL l) (hd : 10 ≤ d) {f : Nat} (hg : TB2 T l f s) (hK : ∀ s', frm [1, l, l + 1] s s' → TB2 T l f s' → K s') : wI (wp d) m_T_next [.ref 1] s (fun x13 s13 => restC d l K x13 s13) := by
  have h18 := isL_18 hl
  have hsh := isL_b hl
  refine b_next hT (by omega) hg.1 fun s1 f1 g1 => ?_
  unfold restC
  simp only [hsh, cond_true]
  rw [if_neg (show ¬ m1 = 33 by decide), if_neg (show ¬ m1 = 40 by decide)]
  refine b_sum hT hl d f _ s1 _ (by omega) ⟨g1, by rw [f1 l (by simp; omega)]; exact hg.2⟩ fun s2 f2 g2 => ?_
  refine b_next hT (by omega) g2.1 fun s3 f3 g3 => ?_
  rw [b_isCmp (by omega), if_pos (show nI 0 = 0 from rfl), if_pos (show nI 0 = 0 from rfl)]
  refine b_add hl (by omega) ⟨g3, by rw [f3 l (by simp; omega)]; exact g2.2⟩ fun s4 f4 g4 => ?_
  exact hK s4 (frm_t (frm_w f1 (by simp)) (frm_t f2 (frm_t (frm_w f3 (by simp)) (frm_w f4 (by simp))))) g4
theorem c_clause (hT : TxOk T) (hl : isL l) {d : Nat} (hd : 46 ≤ d) {C : List Int32} {p : Nat} {s : Mem} {K : Mem → Prop} (hg : TG T l p C s) (hC : C.length ≤ p) (hp : p ≤ T.2) (hK : LKc T l C (clauP T p) s K) : wV (wp d) m_G_readClause [.ref 1, .ref l] s K := by
  have h160 := hT.1
  have h18 := isL_18 hl
  have hsh := isL_b hl
  obtain ⟨d, rfl⟩ : ∃ e, d = e + 1 := ⟨d - 1, by omega⟩
  have k1 := sk_ge (T := T) (p := p)
  have k2 := sk_le hp
  have e0 : wV (wp (d + 1)) m_G_readClause [.ref 1, .ref l] s K = wV (wp d) m_T_need [.ref 1, .int 121] s (fun s3 => wV (wp d) m_T_need [.ref 1, .int 58] s3 (fun s9 => wI (wp d) m_T_next [.ref 1] s9 (fun x13 s13 => restC d l K x13 s13))) := e_G_readClause d l s K
  rw [e0]
  have U6 : CR T l m_G_readUnit 39 0 (unitP T 6) := c_units hT hl 6 (by omega)
  have S6 : CR T l m_G_readSum 25 0 (sumP T 6) := c_sums hT hl 6 (by omega)
  have O6 : CR T l m_G_readCondition 42 0 (condG T (unitP T 6)) := c_cond hT hl (by omega) U6 (unitP_G 6)
  refine c_need hT (by omega) (x := 121) (by decide) hg.1 hp (fun hx s1 f1 g1 => ?_) (fun hx s1 f1 g1 => ?_)
  · have hl1 := (isS_lt hx).1
    have er : ∀ f : Nat → Sum Nat (Nat × Cl), ned T p 121 f = f (sk T p + 1) := fun _ => if_pos hx
    unfold clauP at hK
    rw [er] at hK
    have c1 : CodeA l C s1 := CodeA_f (by simp; omega) (by simp; omega) f1 hg.2
    have fr1 : frm [1, l, l + 1] s s1 := frm_w f1 (by simp)
    have k3 := sk_ge (T := T) (p := sk T p + 1)
    refine c_need hT (by omega) (x := 58) (by decide) g1 (by omega) (fun hx2 s2 f2 g2 => ?_) (fun hx2 s2 f2 g2 => ?_)
    · have hl2 := (isS_lt hx2).1
      have er2 : ∀ f : Nat → Sum Nat (Nat × Cl), ned T (sk T p + 1) 58 f = f (sk T (sk T p + 1) + 1) := fun _ => if_pos hx2
      rw [er2] at hK
      have c2 : CodeA l C s2 := CodeA_f (by simp; omega) (by simp; omega) f2 c1
      have fr2 : frm [1, l, l + 1] s s2 := frm_t fr1 (frm_w f2 (by simp))
      generalize hp2 : sk T (sk T p + 1) + 1 = p2 at hK g2
      have hp2n : p2 ≤ T.2 := by omega
      have k4 := sk_ge (T := T) (p := p2)
      have k5 := sk_le hp2n
      refine c_next hT (by omega) g2 hp2n fun s3 f3 g3 => ?_
      have c3 : CodeA l C s3 := CodeA_f (by simp; omega) (by simp; omega) f3 c2
      have fr3 : frm [1, l, l + 1] s s3 := frm_t fr2 (frm_w f3 (by simp))
      unfold restC
      simp only [hsh, cond_true]
      have cond : LKc T l C (bnd (condG T (unitP T 6) (sk T p2)) fun p3 c => ned T p3 63 fun p4 => bnd (sumP T 6 p4) fun p5 e => .inr (p5, (some c, e))) s K → wV (wp d) m_G_readCondition [.ref 1, .ref l, .int 0] s3 (fun s42 => wV (wp d) m_T_need [.ref 1, .int 63] s42 (fun s91 => wI (wp d) m_L_addJump [.ref l] s91 (fun x95 s95 => wV (wp d) m_G_readSum [.ref 1, .ref l, .int 0] s95 (fun s103 => wV (wp d) m_L_add [.ref l, .int (-59)] s103 (fun s109 => wV (wp d) m_L_jumpToHere [.ref l, .int x95] s109 (fun s115 => K s115)))))) := by
        intro hK
        refine O6 d C (sk T p2) s3 _ (by omega) ⟨g3, c3⟩ (by omega) k5 ?_
        have hgr := condG_G (T := T) (unitP_G 6) k5
        revert hK hgr
        cases condG T (unitP T 6) (sk T p2) with
        | inl e =>
          intro hK _ s4 f4 g4
          exact b_then hT hl (by omega) g4 fun s5 f5 g5 => hK s5 (frm_t fr3 (frm_t f4 f5)) g5
        | inr e =>
          intro hK ⟨q1, q2, q3, _⟩ s4 f4 g4
          have hK2 : LKc T l C (ned T e.1 63 fun p4 => bnd (sumP T 6 p4) fun p5 e' => .inr (p5, (some e.2, e'))) s K := hK
          exact c_then hT hl (by omega) g4 (by omega) q2 (LKc_f hK2 (frm_t fr3 f4))
      by_cases h33 : isS T (sk T p2) 33 = true
      · rw [if_pos (show sg T (sk T p2) = 33 from sgp hT (by decide) h33)]
        rw [if_pos (Or.inl h33)] at hK
        exact cond hK
      · rw [if_neg (show ¬ sg T (sk T p2) = 33 from sgn hT (by decide) h33)]
        by_cases h40 : isS T (sk T p2) 40 = true
        · rw [if_pos (show sg T (sk T p2) = 40 from sgp hT (by decide) h40)]
          rw [if_pos (Or.inr h40)] at hK
          exact cond hK
        · rw [if_neg (show ¬ sg T (sk T p2) = 40 from sgn hT (by decide) h40)]
          rw [if_neg (fun z => z.elim h33 h40)] at hK
          refine S6 d C (sk T p2) s3 _ (by omega) ⟨g3, c3⟩ (by omega) k5 ?_
          have hgr := sumP_G (T := T) 6 (sk T p2) k5
          revert hK hgr
          cases sumP T 6 (sk T p2) with
          | inl e =>
            intro hK _ s4 f4 g4
            refine b_next hT (by omega) g4.1 fun s5 f5 g5 => ?_
            rw [b_isCmp (by omega), if_pos (show nI 0 = 0 from rfl), if_pos (show nI 0 = 0 from rfl)]
            refine b_add hl (by omega) ⟨g5, by rw [f5 l (by simp; omega)]; exact g4.2⟩ fun s6 f6 g6 => ?_
            exact hK s6 (frm_t fr3 (frm_t f4 (frm_t (frm_w f5 (by simp)) (frm_w f6 (by simp))))) g6
          | inr e =>
            intro hK ⟨q1, q2, q3, _⟩ s4 f4 g4
            have k6 := sk_ge (T := T) (p := e.1)
            have k7 := sk_le q2
            have fr4 := frm_t fr3 f4
            have hK2 : LKc T l C (if sk T e.1 < T.2 ∧ csg (T.1 (sk T e.1)) = true then bnd (cmpP T (sumP T 6) (sk T e.1) e.2) fun p4 e2 => bnd (rowL T 38 38 andV (unitP T 6) (T.2 + 1) p4 e2) fun p5 e3 => bnd (rowL T 124 124 orV (partG T (unitP T 6)) (T.2 + 1) p5 e3) fun p6 c => ned T p6 63 fun p7 => bnd (sumP T 6 p7) fun p8 e => .inr (p8, (some c, e)) else .inr (sk T e.1, (none, e.2))) s K := hK
            refine c_next hT (by omega) g4.1 q2 fun s5 f5 g5 => ?_
            have c5 : CodeA l (C ++ e.2.1) s5 := CodeA_f (by simp; omega) (by simp; omega) f5 g4.2
            have fr5 := frm_t fr4 (frm_w (L' := [1, l, l + 1]) f5 (by simp))
            have own : (¬ (sk T e.1 < T.2 ∧ csg (T.1 (sk T e.1)) = true)) → wV (wp d) m_L_add [.ref l, .int (-59)] s5 (fun s124 => K s124) := by
              intro hn
              rw [if_neg hn] at hK2
              refine c_add hl (by omega) c5 (by rw [List.length_append]; omega) fun s6 f6 g6 => ?_
              refine hK2 s6 (frm_t fr5 (frm_w f6 (by simp))) ⟨TpG_f (by simp; omega) (by simp; omega) f6 g5, ?_⟩
              show CodeA l (C ++ (e.2.1 ++ [- nI 59])) s6
              rw [← List.append_assoc]
              exact g6
            by_cases hlt : sk T e.1 < T.2
            · have hb := (hT.2 _ hlt).2
              rw [show sg T (sk T e.1) = nI (T.1 (sk T e.1)) from if_pos hlt, c_isCmp (by omega) (by omega), ifb]
              by_cases hc : csg (T.1 (sk T e.1)) = true
              · rw [if_pos ⟨hlt, hc⟩] at hK2
                rw [if_pos hc]
                have ne : ¬ b01 (csg (T.1 (sk T e.1))) = 0 := by rw [hc]; decide
                refine c_cmp hT hl (by omega) S6 (sumP_G 6) (by omega) ⟨g5, c5⟩ (by omega) k7 ?_
                have hgr := cmpP_G (T := T) (k := 6) (p := sk T e.1) (p0 := sk T p2) (a := e.2) k7 (by omega) (by omega)
                revert hK2 hgr
                cases cmpP T (sumP T 6) (sk T e.1) e.2 with
                | inl e6 =>
                  intro hK2 _ s6 f6 g6
                  refine b_unitsOn hT hl d e6 _ s6 _ (by omega) g6 fun s7 f7 g7 => ?_
                  refine b_truthsOn hT hl d e6 _ s7 _ (by omega) g7 fun s8 f8 g8 => ?_
                  rw [if_neg ne]
                  exact b_then hT hl (by omega) g8 fun s9 f9 g9 => hK2 s9 (frm_t fr5 (frm_t f6 (frm_t f7 (frm_t f8 f9)))) g9
                | inr e6 =>
                  intro hK2 ⟨r1, r2, r3, r4⟩ s6 f6 g6
                  obtain ⟨d, rfl⟩ : ∃ e, d = e + 1 := ⟨d - 1, by omega⟩
                  rw [e_G_readUnitsOn]
                  have hK3 : LKc T l C (bnd (rowL T 38 38 andV (unitP T 6) (T.2 + 1) e6.1 e6.2) fun p5 e3 => bnd (rowL T 124 124 orV (partG T (unitP T 6)) (T.2 + 1) p5 e3) fun p6 c => ned T p6 63 fun p7 => bnd (sumP T 6 p7) fun p8 e => .inr (p8, (some c, e))) s K := hK2
                  refine c_unitsOn_l hT hl U6 (unitP_G 6) (by omega) (by omega) (T.2 + 1) e6.1 e6.2 0 s6 (by omega) (by omega) g6 (by omega) r2 frm_r ?_
                  have hgr := rowL_G (T := T) (c1 := 38) (c2 := 38) TB_and (unitP_G 6) (p0 := sk T p2) (T.2 + 1) e6.1 e6.2 r2 (by omega) r3 r4
                  revert hK3 hgr
                  cases rowL T 38 38 andV (unitP T 6) (T.2 + 1) e6.1 e6.2 with
                  | inl e7 =>
                    intro hK3 _ s7 f7 g7
                    refine b_truthsOn hT hl _ e7 _ s7 _ (by omega) g7 fun s8 f8 g8 => ?_
                    rw [if_neg ne]
                    exact b_then hT hl (by omega) g8 fun s9 f9 g9 => hK3 s9 (frm_t fr5 (frm_t f6 (frm_t f7 (frm_t f8 f9)))) g9
                  | inr e7 =>
                    intro hK3 ⟨u1, u2, u3, u4⟩ s7 f7 g7
                    rw [e_G_readTruthsOn]
                    have hK4 : LKc T l C (bnd (rowL T 124 124 orV (partG T (unitP T 6)) (T.2 + 1) e7.1 e7.2) fun p6 c => ned T p6 63 fun p7 => bnd (sumP T 6 p7) fun p8 e => .inr (p8, (some c, e))) s K := hK3
                    refine c_truthsOn_l hT hl rfl U6 (unitP_G 6) (partG_G (unitP_G 6)) (by omega) (by omega) (T.2 + 1) e7.1 e7.2 0 s7 (by omega) (by omega) g7 (by omega) u2 frm_r ?_
                    have hgr := rowL_G (T := T) (c1 := 124) (c2 := 124) TB_or (partG_G (unitP_G 6)) (p0 := sk T p2) (T.2 + 1) e7.1 e7.2 u2 (by omega) u3 u4
                    revert hK4 hgr
                    cases rowL T 124 124 orV (partG T (unitP T 6)) (T.2 + 1) e7.1 e7.2 with
                    | inl e8 =>
                      intro hK4 _ s8 f8 g8
                      rw [if_neg ne]
                      exact b_then hT hl (by omega) g8 fun s9 f9 g9 => hK4 s9 (frm_t fr5 (frm_t f6 (frm_t f7 (frm_t f8 f9)))) g9
                    | inr e8 =>
                      intro hK4 ⟨w1, w2, w3, w4⟩ s8 f8 g8
                      rw [if_neg ne]
                      have hK5 : LKc T l C (ned T e8.1 63 fun p7 => bnd (sumP T 6 p7) fun p8 e => .inr (p8, (some e8.2, e))) s K := hK4
                      exact c_then hT hl (by omega) g8 (by omega) w2 (LKc_f hK5 (frm_t fr5 (frm_t f6 (frm_t f7 f8))))
              · rw [if_neg hc]
                rw [if_pos (show b01 (csg (T.1 (sk T e.1))) = 0 by rw [Bool.eq_false_iff.mpr hc]; rfl)]
                exact own fun z => hc z.2
            · rw [show sg T (sk T e.1) = m1 from if_neg hlt, b_isCmp (by omega), if_pos (show nI 0 = 0 from rfl), if_pos (show nI 0 = 0 from rfl)]
              exact own fun z => hlt z.1
    · have er2 : ∀ f : Nat → Sum Nat (Nat × Cl), ned T (sk T p + 1) 58 f = .inl (sk T (sk T p + 1)) := fun _ => if_neg (by rw [hx2]; decide)
      rw [er2] at hK
      refine b_restC hT hl (by omega) ⟨g2, C.length, by omega, by rw [f2 l (by simp; omega)]; exact c1.1⟩ fun s3 f3 g3 => ?_
      exact hK s3 (frm_t fr1 (frm_t (frm_w f2 (by simp)) f3)) g3
  · have er : clauP T p = .inl (sk T p) := if_neg (by rw [hx]; decide)
    rw [er] at hK
    refine b_need hT (by omega) (x := 58) (by decide) g1 fun s2 f2 g2 => ?_
    refine b_restC hT hl (by omega) ⟨g2, C.length, by omega, by rw [f2 l (by simp; omega), f1 l (by simp; omega)]; exact hg.2.1⟩ fun s3 f3 g3 => ?_
    exact hK s3 (frm_t (frm_w f1 (by simp)) (frm_t (frm_w f2 (by simp)) f3)) g3
end
