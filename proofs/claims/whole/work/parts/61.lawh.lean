/-! the class's Grammar: comparisons, units, conditions (made by gen/lawh.py) -/
section
variable {d : Nat} {T : Txt} {s : Mem} {l : Nat}
theorem b_cmp (hT : TxOk T) (hl : isL l) : BR T l m_G_readComparison 3 := by
  intro d f x s K hd hg hK
  have h18 := isL_18 hl
  obtain ⟨d, rfl⟩ : ∃ e, d = e + 1 := ⟨d - 1, by omega⟩
  rw [e_G_readComparison]
  refine b_next hT (by omega) hg.1 fun s1 f1 g1 => ?_
  rw [b_isCmp (by omega), if_pos (show nI 0 = 0 from rfl)]
  refine b_refuse hT (by omega) g1 (hK s1 (frm_w f1 (by simp)) ⟨g1, by rw [f1 l (by simp; omega)]; exact hg.2⟩)
theorem b_unit (hT : TxOk T) (hl : isL l) : BR T l m_G_readUnit 6 := by
  intro d f x s K hd hg hK
  have h18 := isL_18 hl
  obtain ⟨d, rfl⟩ : ∃ e, d = e + 1 := ⟨d - 1, by omega⟩
  rw [e_G_readUnit]
  refine b_next hT (by omega) hg.1 fun s1 f1 g1 => ?_
  rw [if_neg (show ¬ m1 = 33 by decide), if_neg (show ¬ m1 = 40 by decide)]
  refine b_sum hT hl d f x s1 _ (by omega) ⟨g1, by rw [f1 l (by simp; omega)]; exact hg.2⟩ fun s2 f2 g2 => ?_
  refine b_cmp hT hl d f x s2 _ (by omega) g2 fun s3 f3 g3 => ?_
  exact hK s3 (frm_t (frm_w f1 (by simp)) (frm_t f2 f3)) g3
theorem c_cmp (hT : TxOk T) (hl : isL l) {D : Nat} (hD : 3 ≤ D) {x : Int32} {sm : Nat → PR} (hS : CR T l m_G_readSum D x sm) (hG : ∀ p, p ≤ T.2 → GR T VB p (sm p)) {d : Nat} (hd : D + 1 ≤ d) {C : List Int32} {a : E} {p : Nat} {s : Mem} {K : Mem → Prop} (hg : TG T l p (C ++ a.1) s) (hC : C.length + a.1.length ≤ p) (hp : p ≤ T.2) (hK : LK T l C (cmpP T sm p a) s K) :
    wV (wp d) m_G_readComparison [.ref 1, .ref l, .int x] s K := by
  have h160 := hT.1
  have h18 := isL_18 hl
  have hsh := isL_b hl
  obtain ⟨d, rfl⟩ : ∃ e, d = e + 1 := ⟨d - 1, by omega⟩
  have k1 := sk_ge (T := T) (p := p)
  have k2 := sk_le hp
  rw [e_G_readComparison]
  refine c_next hT (by omega) hg.1 hp fun s1 f1 g1 => ?_
  have c1 : CodeA l (C ++ a.1) s1 := CodeA_f (by simp; omega) (by simp; omega) f1 hg.2
  have fr1 : frm [1, l, l + 1] s s1 := frm_w f1 (by simp)
  have bad : cmpP T sm p a = .inl (sk T p) → wV (wp d) m_T_refuse [.ref 1] s1 (fun s13 => K s13) := by
    intro er
    rw [er] at hK
    refine c_refuse hT (by omega) g1 k2 fun s2 f2 g2 => ?_
    exact hK s2 (frm_t fr1 (frm_w f2 (by simp))) ⟨g2, (C ++ a.1).length, by rw [List.length_append]; omega, by rw [f2 l (by simp; omega)]; exact c1.1⟩
  by_cases hlt : sk T p < T.2
  · have hb := (hT.2 (sk T p) hlt).2
    rw [show sg T (sk T p) = nI (T.1 (sk T p)) from if_pos hlt, c_isCmp (by omega) (by omega), ifb]
    by_cases hc : csg (T.1 (sk T p)) = true
    · rw [if_pos hc]
      have er : cmpP T sm p a = bnd (sm (sk T p + 1)) fun p' e => .inr (p', a.1 ++ e.1 ++ [- nI (T.1 (sk T p))], fun env => cmV (T.1 (sk T p)) (a.2 env) (e.2 env)) := if_pos ⟨hlt, hc⟩
      rw [er] at hK
      refine c_pass hT (by omega) g1 hlt fun s2 f2 g2 => ?_
      have fr2 := frm_t fr1 (frm_w (L' := [1, l, l + 1]) f2 (by simp))
      refine hS d (C ++ a.1) (sk T p + 1) s2 _ (by omega) ⟨g2, CodeA_f (by simp; omega) (by simp; omega) f2 c1⟩ (by rw [List.length_append]; omega) (by omega) ?_
      have hgr := hG (sk T p + 1) (by omega)
      revert hK hgr
      cases sm (sk T p + 1) with
      | inl e =>
        intro hK _ s3 f3 g3
        rw [hsh]
        refine b_add hl (by omega) g3 fun s4 f4 g4 => ?_
        exact hK s4 (frm_t fr2 (frm_t f3 (frm_w f4 (by simp)))) g4
      | inr e =>
        intro hK ⟨q1, q2, q3, _⟩ s3 f3 g3
        rw [hsh]
        refine c_add hl (by omega) g3.2 (by simp only [List.length_append]; omega) fun s4 f4 g4 => ?_
        refine hK s4 (frm_t fr2 (frm_t f3 (frm_w f4 (by simp)))) ⟨TpG_f (by simp; omega) (by simp; omega) f4 g3.1, ?_⟩
        simpa only [List.append_assoc] using g4
    · rw [if_neg hc]
      exact bad (if_neg fun z => hc z.2)
  · rw [show sg T (sk T p) = m1 from if_neg hlt, b_isCmp (by omega), if_pos (show nI 0 = 0 from rfl)]
    exact bad (if_neg fun z => hlt z.1)

theorem b_unitsOn (hT : TxOk T) (hl : isL l) : BR T l m_G_readUnitsOn 5 := by
  intro d f x s K hd hg hK
  have h18 := isL_18 hl
  obtain ⟨d, rfl⟩ : ∃ e, d = e + 1 := ⟨d - 1, by omega⟩
  rw [e_G_readUnitsOn, r_G_readUnitsOn_2, if_pos (by decide)]
  refine b_take hT (by omega) (x := 38) (by decide) hg.1 fun s1 f1 g1 => ?_
  rw [if_pos (show nI 0 = 0 from rfl)]
  exact hK s1 (frm_w f1 (by simp)) ⟨g1, by rw [f1 l (by simp; omega)]; exact hg.2⟩
theorem c_unitsOn_l (hT : TxOk T) (hl : isL l) {D : Nat} {x : Int32} {pr : Nat → PR} {B : (EnvL → Int32) → Prop} (hA : CR T l m_G_readUnit D x pr) (hG : ∀ p, p ≤ T.2 → GR T B p (pr p)) {d : Nat} (hd : D ≤ d) (hd2 : 6 ≤ d) {C : List Int32} {s : Mem} {K : Mem → Prop} :
    ∀ (f p : Nat) (a : E) (i : Nat) (t : Mem), T.2 - p < f → i ≤ p → TG T l p (C ++ a.1) t → C.length + a.1.length ≤ p → p ≤ T.2 → frm [1, l, l + 1] s t → LK T l C (rowL T 38 38 andV pr f p a) s K →
    RnV d m_G_readUnitsOn K 2 [.ref 1, .ref l, .int x, .int (nI i)] [] t := by
  have h160 := hT.1
  have h18 := isL_18 hl
  have hsh := isL_b hl
  intro f
  induction f with
  | zero => intro p a i t h; omega
  | succ f ih =>
    intro p a i t hf hi hg hC hp hfr hK
    have k1 := sk_ge (T := T) (p := p)
    have k2 := sk_le hp
    rw [r_G_readUnitsOn_2]
    by_cases hi2 : i < 160
    · rw [if_pos (show nI i < 160 by rw [q160, nI_ltI (by omega) (by omega)]; omega)]
      refine c_take hT (by omega) (x := 38) (by decide) hg.1 hp (fun hx s1 f1 g1 => ?_) (fun hx s1 f1 g1 => ?_)
      · have hlt := (isS_lt hx).1
        have e38 := (isS_lt hx).2
        have er : rowL T 38 38 andV pr (f + 1) p a = bnd (pr (sk T p + 1)) fun p' e => rowL T 38 38 andV pr f p' (a.1 ++ e.1 ++ [- nI (T.1 (sk T p))], fun env => andV (T.1 (sk T p)) (a.2 env) (e.2 env)) := if_pos (Or.inl hx)
        rw [er] at hK
        rw [if_neg (show ¬ nI 1 = 0 by decide)]
        have g1' : TG T l (sk T p + 1) (C ++ a.1) s1 := ⟨g1, CodeA_f (by simp; omega) (by simp; omega) f1 hg.2⟩
        have hfr1 : frm [1, l, l + 1] s s1 := frm_t hfr (frm_w f1 (by simp))
        refine hA d (C ++ a.1) (sk T p + 1) s1 _ hd g1' (by rw [List.length_append]; omega) (by omega) ?_
        have hgr := hG (sk T p + 1) (by omega)
        revert hK hgr
        cases pr (sk T p + 1) with
        | inl e =>
          intro hK _ s2 f2 g2
          rw [hsh]
          refine b_add hl (by omega) g2 fun s3 f3 g3 => ?_
          rw [r_G_readUnitsOn_2]
          have fin : ∀ s', frm [1, l, l + 1] s s' → TB2 T l e s' → K s' := hK
          split
          · refine b_take hT (by omega) (x := 38) (by decide) g3.1 fun s4 f4 g4 => ?_
            rw [if_pos (show nI 0 = 0 from rfl)]
            exact fin s4 (frm_t hfr1 (frm_t f2 (frm_t (frm_w f3 (by simp)) (frm_w f4 (by simp))))) ⟨g4, by rw [f4 l (by simp; omega)]; exact g3.2⟩
          · exact fin s3 (frm_t hfr1 (frm_t f2 (frm_w f3 (by simp)))) g3
        | inr e =>
          intro hK ⟨q1, q2, q3, _⟩ s2 f2 g2
          rw [hsh]
          refine c_add hl (by omega) g2.2 (by simp only [List.length_append]; omega) fun s3 f3 g3 => ?_
          have t3 : TpG T e.1 s3 := TpG_f (by simp; omega) (by simp; omega) f3 g2.1
          rw [show nI i + 1 = nI (i + 1) from nI_add i 1]
          refine ih e.1 _ (i + 1) s3 (by omega) (by omega) ⟨t3, ?_⟩ ?_ q2 (frm_t hfr1 (frm_t f2 (frm_w f3 (by simp)))) hK
          · rw [show (-38 : Int32) = - nI (T.1 (sk T p)) by rw [e38]; rfl] at g3
            simpa only [List.append_assoc] using g3
          · simp only [List.length_append, List.length_cons, List.length_nil]
            omega
      · have er : rowL T 38 38 andV pr (f + 1) p a = .inr (sk T p, a) := if_neg (by rw [hx]; decide)
        rw [er] at hK
        rw [if_pos (show nI 0 = 0 from rfl)]
        exact hK s1 (frm_t hfr (frm_w f1 (by simp))) ⟨g1, CodeA_f (by simp; omega) (by simp; omega) f1 hg.2⟩
    · have ep : sk T p = p := by omega
      have er : rowL T 38 38 andV pr (f + 1) p a = .inr (sk T p, a) := if_neg (fun z => by
        rcases z with z | z
        · have := (isS_lt z).1; omega
        · have := (isS_lt z).1; omega)
      rw [er] at hK
      rw [if_neg (show ¬ nI i < 160 by rw [q160, nI_ltI (by omega) (by omega)]; omega)]
      refine hK t hfr ?_
      rw [ep]
      exact hg

/-- a unit and those that are joined to it by & -/
theorem c_part (hT : TxOk T) (hl : isL l) {D : Nat} {x : Int32} {un : Nat → PR} (hA : CR T l m_G_readUnit D x un) (hG : ∀ p, p ≤ T.2 → GR T TB p (un p)) {d : Nat} (hd : D + 1 ≤ d) (hd2 : 7 ≤ d) {C : List Int32} {p : Nat} {s : Mem} {K : Mem → Prop} (hg : TG T l p C s) (hC : C.length ≤ p) (hp : p ≤ T.2) (hK : LK T l C (partG T un p) s K) :
    wV (wp d) m_G_readUnit [.ref 1, .ref l, .int x] s (fun s3 => wV (wp d) m_G_readUnitsOn [.ref 1, .ref l, .int x] s3 K) := by
  refine hA d C p s _ (by omega) hg hC hp ?_
  have hgr := hG p hp
  have hK' : LK T l C (bnd (un p) fun p' e => rowL T 38 38 andV un (T.2 + 1) p' e) s K := hK
  revert hK' hgr
  cases un p with
  | inl e =>
    intro _ hK' s1 f1 g1
    exact b_unitsOn hT hl d e x s1 _ (by omega) g1 fun s2 f2 g2 => hK' s2 (frm_t f1 f2) g2
  | inr e =>
    intro ⟨q1, q2, q3, _⟩ hK' s1 f1 g1
    obtain ⟨d, rfl⟩ : ∃ e, d = e + 1 := ⟨d - 1, by omega⟩
    rw [e_G_readUnitsOn]
    exact c_unitsOn_l hT hl hA hG (by omega) (by omega) (T.2 + 1) e.1 e.2 0 s1 (by omega) (by omega) g1 (by omega) q2 f1 hK'

theorem b_truthsOn (hT : TxOk T) (hl : isL l) : BR T l m_G_readTruthsOn 5 := by
  intro d f x s K hd hg hK
  have h18 := isL_18 hl
  obtain ⟨d, rfl⟩ : ∃ e, d = e + 1 := ⟨d - 1, by omega⟩
  rw [e_G_readTruthsOn, r_G_readTruthsOn_2, if_pos (by decide)]
  refine b_take hT (by omega) (x := 124) (by decide) hg.1 fun s1 f1 g1 => ?_
  rw [if_pos (show nI 0 = 0 from rfl)]
  exact hK s1 (frm_w f1 (by simp)) ⟨g1, by rw [f1 l (by simp; omega)]; exact hg.2⟩
theorem c_truthsOn_l (hT : TxOk T) (hl : isL l) {D : Nat} {x : Int32} {pr : Nat → PR} {B : (EnvL → Int32) → Prop} {un : Nat → PR} (hpr : pr = partG T un) (hA : CR T l m_G_readUnit D x un) (hU : ∀ p, p ≤ T.2 → GR T TB p (un p)) (hG : ∀ p, p ≤ T.2 → GR T B p (pr p)) {d : Nat} (hd : D + 1 ≤ d) (hd2 : 7 ≤ d) {C : List Int32} {s : Mem} {K : Mem → Prop} :
    ∀ (f p : Nat) (a : E) (i : Nat) (t : Mem), T.2 - p < f → i ≤ p → TG T l p (C ++ a.1) t → C.length + a.1.length ≤ p → p ≤ T.2 → frm [1, l, l + 1] s t → LK T l C (rowL T 124 124 orV pr f p a) s K →
    RnV d m_G_readTruthsOn K 2 [.ref 1, .ref l, .int x, .int (nI i)] [] t := by
  have h160 := hT.1
  have h18 := isL_18 hl
  have hsh := isL_b hl
  intro f
  induction f with
  | zero => intro p a i t h; omega
  | succ f ih =>
    intro p a i t hf hi hg hC hp hfr hK
    have k1 := sk_ge (T := T) (p := p)
    have k2 := sk_le hp
    rw [r_G_readTruthsOn_2]
    by_cases hi2 : i < 160
    · rw [if_pos (show nI i < 160 by rw [q160, nI_ltI (by omega) (by omega)]; omega)]
      refine c_take hT (by omega) (x := 124) (by decide) hg.1 hp (fun hx s1 f1 g1 => ?_) (fun hx s1 f1 g1 => ?_)
      · have hlt := (isS_lt hx).1
        have e38 := (isS_lt hx).2
        have er : rowL T 124 124 orV pr (f + 1) p a = bnd (pr (sk T p + 1)) fun p' e => rowL T 124 124 orV pr f p' (a.1 ++ e.1 ++ [- nI (T.1 (sk T p))], fun env => orV (T.1 (sk T p)) (a.2 env) (e.2 env)) := if_pos (Or.inl hx)
        rw [er] at hK
        rw [if_neg (show ¬ nI 1 = 0 by decide)]
        have g1' : TG T l (sk T p + 1) (C ++ a.1) s1 := ⟨g1, CodeA_f (by simp; omega) (by simp; omega) f1 hg.2⟩
        have hfr1 : frm [1, l, l + 1] s s1 := frm_t hfr (frm_w f1 (by simp))
        refine c_part hT hl hA hU (by omega) (by omega) g1' (by rw [List.length_append]; omega) (by omega) ?_
        rw [← hpr]
        have hgr := hG (sk T p + 1) (by omega)
        revert hK hgr
        cases pr (sk T p + 1) with
        | inl e =>
          intro hK _ s2 f2 g2
          rw [hsh]
          refine b_add hl (by omega) g2 fun s3 f3 g3 => ?_
          rw [r_G_readTruthsOn_2]
          have fin : ∀ s', frm [1, l, l + 1] s s' → TB2 T l e s' → K s' := hK
          split
          · refine b_take hT (by omega) (x := 124) (by decide) g3.1 fun s4 f4 g4 => ?_
            rw [if_pos (show nI 0 = 0 from rfl)]
            exact fin s4 (frm_t hfr1 (frm_t f2 (frm_t (frm_w f3 (by simp)) (frm_w f4 (by simp))))) ⟨g4, by rw [f4 l (by simp; omega)]; exact g3.2⟩
          · exact fin s3 (frm_t hfr1 (frm_t f2 (frm_w f3 (by simp)))) g3
        | inr e =>
          intro hK ⟨q1, q2, q3, _⟩ s2 f2 g2
          rw [hsh]
          refine c_add hl (by omega) g2.2 (by simp only [List.length_append]; omega) fun s3 f3 g3 => ?_
          have t3 : TpG T e.1 s3 := TpG_f (by simp; omega) (by simp; omega) f3 g2.1
          rw [show nI i + 1 = nI (i + 1) from nI_add i 1]
          refine ih e.1 _ (i + 1) s3 (by omega) (by omega) ⟨t3, ?_⟩ ?_ q2 (frm_t hfr1 (frm_t f2 (frm_w f3 (by simp)))) hK
          · rw [show (-124 : Int32) = - nI (T.1 (sk T p)) by rw [e38]; rfl] at g3
            simpa only [List.append_assoc] using g3
          · simp only [List.length_append, List.length_cons, List.length_nil]
            omega
      · have er : rowL T 124 124 orV pr (f + 1) p a = .inr (sk T p, a) := if_neg (by rw [hx]; decide)
        rw [er] at hK
        rw [if_pos (show nI 0 = 0 from rfl)]
        exact hK s1 (frm_t hfr (frm_w f1 (by simp))) ⟨g1, CodeA_f (by simp; omega) (by simp; omega) f1 hg.2⟩
    · have ep : sk T p = p := by omega
      have er : rowL T 124 124 orV pr (f + 1) p a = .inr (sk T p, a) := if_neg (fun z => by
        rcases z with z | z
        · have := (isS_lt z).1; omega
        · have := (isS_lt z).1; omega)
      rw [er] at hK
      rw [if_neg (show ¬ nI i < 160 by rw [q160, nI_ltI (by omega) (by omega)]; omega)]
      refine hK t hfr ?_
      rw [ep]
      exact hg

theorem partG_G {un : Nat → PR} (hG : ∀ p, p ≤ T.2 → GR T TB p (un p)) : ∀ p, p ≤ T.2 → GR T TB p (partG T un p) := fun _ hp => rowP_G TB_and hG hp
theorem c_cond (hT : TxOk T) (hl : isL l) {D : Nat} (hD : 6 ≤ D) {x : Int32} {un : Nat → PR} (hA : CR T l m_G_readUnit D x un) (hG : ∀ p, p ≤ T.2 → GR T TB p (un p)) : CR T l m_G_readCondition (D + 3) x (condG T un) := by
  intro d C p s K hd hg hC hp hK
  obtain ⟨d, rfl⟩ : ∃ e, d = e + 1 := ⟨d - 1, by omega⟩
  rw [e_G_readCondition]
  refine c_part hT hl hA hG (by omega) (by omega) hg hC hp ?_
  have hgr := partG_G hG p hp
  have hK' : LK T l C (bnd (partG T un p) fun p' e => rowL T 124 124 orV (partG T un) (T.2 + 1) p' e) s K := hK
  revert hK' hgr
  cases partG T un p with
  | inl e =>
    intro _ hK' s1 f1 g1
    exact b_truthsOn hT hl d e x s1 _ (by omega) g1 fun s2 f2 g2 => hK' s2 (frm_t f1 f2) g2
  | inr e =>
    intro ⟨q1, q2, q3, _⟩ hK' s1 f1 g1
    obtain ⟨d, rfl⟩ : ∃ e, d = e + 1 := ⟨d - 1, by omega⟩
    rw [e_G_readTruthsOn]
    exact c_truthsOn_l hT hl rfl hA hG (partG_G hG) (by omega) (by omega) (T.2 + 1) e.1 e.2 0 s1 (by omega) (by omega) g1 (by omega) q2 f1 hK'
theorem b_cond (hT : TxOk T) (hl : isL l) : BR T l m_G_readCondition 7 := by
  intro d f x s K hd hg hK
  obtain ⟨d, rfl⟩ : ∃ e, d = e + 1 := ⟨d - 1, by omega⟩
  rw [e_G_readCondition]
  refine b_unit hT hl d f x s _ (by omega) hg fun s1 f1 g1 => ?_
  refine b_unitsOn hT hl d f x s1 _ (by omega) g1 fun s2 f2 g2 => ?_
  refine b_truthsOn hT hl d f x s2 _ (by omega) g2 fun s3 f3 g3 => ?_
  exact hK s3 (frm_t f1 (frm_t f2 f3)) g3
theorem c_unit (hT : TxOk T) (hl : isL l) {D : Nat} (hD : 7 ≤ D) {x : Int32} {sm : Nat → PR} (hS : CR T l m_G_readSum D x sm) (hGs : ∀ p, p ≤ T.2 → GR T VB p (sm p)) {sub : Option (Nat → PR)} (hx : match sub with
      | none => ¬ x < 6
      | some un => x < 6 ∧ CR T l m_G_readUnit D (x + 1) un ∧ CR T l m_G_readCondition D (x + 1) (condG T un) ∧ ∀ p, p ≤ T.2 → GR T TB p (un p)) : CR T l m_G_readUnit (D + 2) x (unitG T sm sub) := by
  intro d C p s K hd hg hC hp hK
  have h160 := hT.1
  have h18 := isL_18 hl
  have hsh := isL_b hl
  obtain ⟨d, rfl⟩ : ∃ e, d = e + 1 := ⟨d - 1, by omega⟩
  have k1 := sk_ge (T := T) (p := p)
  have k2 := sk_le hp
  rw [e_G_readUnit]
  refine c_next hT (by omega) hg.1 hp fun s1 f1 g1 => ?_
  have c1 : CodeA l C s1 := CodeA_f (by simp; omega) (by simp; omega) f1 hg.2
  have fr1 : frm [1, l, l + 1] s s1 := frm_w f1 (by simp)
  have ref : LK T l C (.inl (sk T p)) s K → wV (wp d) m_T_refuse [.ref 1] s1 (fun s37 => K s37) := by
    intro hK
    refine c_refuse hT (by omega) g1 k2 fun s2 f2 g2 => ?_
    exact hK s2 (frm_t fr1 (frm_w f2 (by simp))) ⟨g2, C.length, by omega, by rw [f2 l (by simp; omega)]; exact c1.1⟩
  by_cases h33 : isS T (sk T p) 33 = true
  · have hlt := (isS_lt h33).1
    have e33 : sg T (sk T p) = 33 := sgp hT (by decide) h33
    rw [if_pos e33]
    have er : unitG T sm sub p = _ := if_pos h33
    rw [er] at hK
    cases sub with
    | none =>
      rw [if_neg hx]
      exact ref hK
    | some un =>
      obtain ⟨hx1, hx2, _, hx4⟩ := hx
      rw [if_pos hx1]
      refine c_pass hT (by omega) g1 hlt fun s2 f2 g2 => ?_
      rw [if_pos e33]
      have fr2 := frm_t fr1 (frm_w (L' := [1, l, l + 1]) f2 (by simp))
      refine hx2 d C (sk T p + 1) s2 _ (by omega) ⟨g2, CodeA_f (by simp; omega) (by simp; omega) f2 c1⟩ (by omega) (by omega) ?_
      have hK' : LK T l C (bnd (un (sk T p + 1)) fun p' e => .inr (p', e.1 ++ [- nI 33], fun env => nI 1 - e.2 env)) s K := hK
      have hgr := hx4 (sk T p + 1) (by omega)
      revert hK' hgr
      cases un (sk T p + 1) with
      | inl e =>
        intro hK' _ s3 f3 g3
        rw [hsh]
        refine b_add hl (by omega) g3 fun s4 f4 g4 => ?_
        exact hK' s4 (frm_t fr2 (frm_t f3 (frm_w f4 (by simp)))) g4
      | inr e =>
        intro hK' ⟨q1, q2, q3, _⟩ s3 f3 g3
        rw [hsh]
        refine c_add hl (by omega) g3.2 (by rw [List.length_append]; omega) fun s4 f4 g4 => ?_
        refine hK' s4 (frm_t fr2 (frm_t f3 (frm_w f4 (by simp)))) ⟨TpG_f (by simp; omega) (by simp; omega) f4 g3.1, ?_⟩
        rw [List.append_assoc] at g4
        exact g4
  · have n33 : ¬ sg T (sk T p) = 33 := sgn hT (by decide) h33
    have er : unitG T sm sub p = _ := if_neg h33
    rw [er] at hK
    rw [if_neg n33]
    by_cases h40 : isS T (sk T p) 40 = true
    · have hlt := (isS_lt h40).1
      have e40 : sg T (sk T p) = 40 := sgp hT (by decide) h40
      rw [if_pos e40]
      rw [if_pos h40] at hK
      cases sub with
      | none =>
        rw [if_neg hx]
        exact ref hK
      | some un =>
        obtain ⟨hx1, _, hx3, hx4⟩ := hx
        rw [if_pos hx1]
        refine c_pass hT (by omega) g1 hlt fun s2 f2 g2 => ?_
        rw [if_neg n33]
        have fr2 := frm_t fr1 (frm_w (L' := [1, l, l + 1]) f2 (by simp))
        refine hx3 d C (sk T p + 1) s2 _ (by omega) ⟨g2, CodeA_f (by simp; omega) (by simp; omega) f2 c1⟩ (by omega) (by omega) ?_
        have hK' : LK T l C (bnd (condG T un (sk T p + 1)) fun p' e => ned T p' 41 fun p'' => .inr (p'', e)) s K := hK
        have hgr := condG_G hx4 (p := sk T p + 1) (by omega)
        revert hK' hgr
        cases condG T un (sk T p + 1) with
        | inl e =>
          intro hK' _ s3 f3 g3
          refine b_need hT (by omega) (x := 41) (by decide) g3.1 fun s4 f4 g4 => ?_
          exact hK' s4 (frm_t fr2 (frm_t f3 (frm_w f4 (by simp)))) ⟨g4, by rw [f4 l (by simp; omega)]; exact g3.2⟩
        | inr e =>
          intro hK' ⟨q1, hp3, q3, _⟩ s3 f3 g3
          have hK2 : LK T l C (ned T e.1 41 fun p'' => .inr (p'', e.2)) s K := hK'
          refine c_need hT (by omega) (x := 41) (by decide) g3.1 hp3 (fun h93 s4 f4 g4 => ?_) (fun h93 s4 f4 g4 => ?_)
          · have e2 : ned T e.1 41 (fun p'' => (Sum.inr (p'', e.2) : PR)) = .inr (sk T e.1 + 1, e.2) := if_pos h93
            rw [e2] at hK2
            exact hK2 s4 (frm_t fr2 (frm_t f3 (frm_w f4 (by simp)))) ⟨g4, CodeA_f (by simp; omega) (by simp; omega) f4 g3.2⟩
          · have e2 : ned T e.1 41 (fun p'' => (Sum.inr (p'', e.2) : PR)) = .inl (sk T e.1) := if_neg (by rw [h93]; decide)
            rw [e2] at hK2
            exact hK2 s4 (frm_t fr2 (frm_t f3 (frm_w f4 (by simp)))) ⟨g4, (C ++ e.2.1).length, by rw [List.length_append]; omega, by rw [f4 l (by simp; omega)]; exact g3.2.1⟩
    · rw [if_neg (show ¬ sg T (sk T p) = 40 from sgn hT (by decide) h40)]
      rw [if_neg h40] at hK
      refine hS d C (sk T p) s1 _ (by omega) ⟨g1, c1⟩ (by omega) k2 ?_
      have hgr := hGs (sk T p) k2
      revert hK hgr
      cases sm (sk T p) with
      | inl e =>
        intro hK _ s2 f2 g2
        exact b_cmp hT hl d e x s2 _ (by omega) g2 fun s3 f3 g3 => hK s3 (frm_t fr1 (frm_t f2 f3)) g3
      | inr e =>
        intro hK ⟨q1, q2, q3, _⟩ s2 f2 g2
        have hK2 : LK T l C (cmpP T sm e.1 e.2) s K := hK
        exact c_cmp hT hl (by omega) hS hGs (by omega) g2 (by omega) q2 (LK_f hK2 (frm_t fr1 f2))
/-- sums, by how many brackets may still be opened -/
theorem c_sums (hT : TxOk T) (hl : isL l) : ∀ k, k ≤ 6 → CR T l m_G_readSum (7 + 3 * k) (nI (6 - k)) (sumP T k)
  | 0, _ => c_sum hT hl (by omega) (c_term hT hl (by omega) (c_atom hT hl (D := 4) (by omega) (sub := none) (show ¬ nI 6 < 6 by decide)) (fun _ hp => atomP_G (fun _ z => by simp at z) hp)) (fun _ hp => rowP_G (fun _ _ _ _ _ _ _ => opV_b) (fun _ hp => atomP_G (fun _ z => by simp at z) hp) hp)
  | k + 1, hk => by
    have ih := c_sums hT hl k (by omega)
    have hx : nI (6 - (k + 1)) < 6 ∧ CR T l m_G_readSum (7 + 3 * k) (nI (6 - (k + 1)) + 1) (sumP T k) ∧ ∀ p, p ≤ T.2 → GR T VB p (sumP T k p) := by
      refine ⟨by rw [q6, nI_ltI (by omega) (by omega)]; omega, ?_, sumP_G k⟩
      rw [show nI (6 - (k + 1)) + 1 = nI (6 - k) by rw [show (1 : Int32) = nI 1 from rfl, nI_add]; congr 1; omega]
      exact ih
    have ga : ∀ p, p ≤ T.2 → GR T VB p (atomP T (some (sumP T k)) p) := fun _ hp => atomP_G (fun f z p hp => by injection z with z; subst z; exact sumP_G k p hp) hp
    exact CR_D (c_sum hT hl (by omega) (c_term hT hl (by omega) (c_atom hT hl (D := 7 + 3 * k) (by omega) (sub := some (sumP T k)) hx) ga) (fun _ hp => rowP_G (fun _ _ _ _ _ _ _ => opV_b) ga hp)) (by omega)
theorem c_units (hT : TxOk T) (hl : isL l) : ∀ k, k ≤ 6 → CR T l m_G_readUnit (9 + 5 * k) (nI (6 - k)) (unitP T k)
  | 0, _ => c_unit hT hl (by omega) (c_sums hT hl 0 (by omega)) (sumP_G 0) (sub := none) (show ¬ nI 6 < 6 by decide)
  | k + 1, hk => by
    have ih := c_units hT hl k (by omega)
    have e1 : nI (6 - (k + 1)) + 1 = nI (6 - k) := by rw [show (1 : Int32) = nI 1 from rfl, nI_add]; congr 1; omega
    have hx : nI (6 - (k + 1)) < 6 ∧ CR T l m_G_readUnit (12 + 5 * k) (nI (6 - (k + 1)) + 1) (unitP T k) ∧ CR T l m_G_readCondition (12 + 5 * k) (nI (6 - (k + 1)) + 1) (condG T (unitP T k)) ∧ ∀ p, p ≤ T.2 → GR T TB p (unitP T k p) := by
      refine ⟨by rw [q6, nI_ltI (by omega) (by omega)]; omega, ?_, ?_, unitP_G k⟩
      · rw [e1]; exact CR_D ih (by omega)
      · rw [e1]; exact CR_D (c_cond hT hl (by omega) ih (unitP_G k)) (by omega)
    exact CR_D (c_unit hT hl (D := 12 + 5 * k) (by omega) (CR_D (c_sums hT hl (k + 1) hk) (by omega)) (sumP_G (k + 1)) (sub := some (unitP T k)) hx) (by omega)
end
