/-! the reference reads conditions, clauses, laws -/
section
variable {d : Nat} {T : Txt} {s : Mem} {tc off : Nat}
def Pb (v : Int32) : Prop := v = nI 0 ∨ v = nI 1
theorem Pb_1 {v : Int32} (h : Pb v) : v &&& 1 = v := by rcases h with rfl | rfl <;> decide
theorem m_isSign {K : Int32 → Mem → Prop} (hd : 1 ≤ d) {x : Nat} (hx : x < 256) : wI (wp d) m_M_isSign [.int (nI x)] s K = K (b01 (csg x)) s := by
  obtain ⟨d, rfl⟩ : ∃ e, d = e + 1 := ⟨d - 1, by omega⟩
  rw [e_M_isSign]
  simp (disch := omega) only [↓n_m1, ↓n_hid, q0, q1, q2, q3, q4, q5, q6, q7, q8, q9, q10, q11, q12, q13, q14, q15, q16, q17, q18, q19, q20, q21, q22, q23, q24, q25, q26, q27, q28, q29, q30, q31, q32, q33, q34, q35, q36, q37, q38, q39, q40, q41, q42, q43, q44, q45, q46, q47, q48, q49, q50, q51, q52, q53, q54, q55, q56, q57, q58, q59, q61, q62, q63, q64, q66, q67, q68, q69, q70, q71, q91, q93, q99, q100, q102, q104, q107, q108, q112, q114, q115, q119, q121, q124, q160, q200, q255, q640, q999, q1000, q2000, q4096, n_of, nI_ltI, nI_leI, nI_eq, nI_clamp, nI_add, pk_mul, n_sub, m1_eq, m1_eq2, m1_lt, m1_lt2, gdN, Nat.not_lt_zero, false_or, if_true, if_false, if_pos, if_neg, cond_true, cond_false, beq_self, and_self, true_and, and_true, not_true_eq_false, not_false_eq_true, ne_eq, show (60 : Int32) = nI 60 from rfl]
  unfold csg
  by_cases h1 : x = 61
  · rw [if_pos h1, decide_eq_true (by omega)]; rfl
  rw [if_neg h1]
  by_cases h2 : x = 60
  · rw [if_pos h2, decide_eq_true (by omega)]; rfl
  rw [if_neg h2]
  by_cases h3 : x = 62
  · rw [if_pos h3, decide_eq_true (by omega)]; rfl
  rw [if_neg h3, decide_eq_false (by omega)]; rfl
theorem mb_isSign {K : Int32 → Mem → Prop} (hd : 1 ≤ d) : wI (wp d) m_M_isSign [.int m1] s K = K (nI 0) s := by
  obtain ⟨d, rfl⟩ : ∃ e, d = e + 1 := ⟨d - 1, by omega⟩
  rw [e_M_isSign, if_neg (by decide), if_neg (by decide), if_neg (by decide)]
  rfl
theorem b01_if {α : Type} {p : Prop} [Decidable p] (f : Int32 → α) : (if p then f 1 else f 0) = f (b01 (decide p)) := by
  by_cases h : p
  · rw [if_pos h, decide_eq_true h]; rfl
  · rw [if_neg h, decide_eq_false h]; rfl
theorem RM_look {dp p : Nat} {t : Mem} (hg : RM T tc off dp p s) (f1 : frN [] [10] s t) (e1 : t 57 10 = nI (sk T p)) : RM T tc off dp (sk T p) t :=
  ⟨RdS_f hg.1 (frN_w f1 (by simp) (by simp)), e1, by rw [f1.2 11 (by decide)]; exact hg.2.2.1, by rw [f1.2 12 (by decide)]; exact hg.2.2.2⟩
theorem RM_up {dp p : Nat} (hg : RM T tc off dp p s) : RM T tc off dp (p + 1) (upM s 57 10 (s 57 10 + 1)) :=
  ⟨RdS_f hg.1 (frN_v (by simp)), by rw [up_at, hg.2.1]; exact nI_add _ 1, by rw [up_pl (by decide)]; exact hg.2.2.1, by rw [up_pl (by decide)]; exact hg.2.2.2⟩
/-- behind a sum: the comparison -/
theorem m_cmpK (hT : TxOk T) {D : Nat} (hD : 2 ≤ D) {dp : Nat} {sm : Nat → PR} (hS : MR T tc off m_M_sum D dp [] (fun _ => True) sm) (hd : D ≤ d) {p : Nat} {a : E} {t : Mem} {K : Int32 → Mem → Prop} (hg : RM T tc off dp p t) (hf : fM s t) (hp : p ≤ T.2) (hG : ∀ p, p ≤ T.2 → GR T VB p (sm p)) (hK : MK T tc off dp Pb (cmpP T sm p a) s K) {x9 : Int32} (hx9 : x9 = a.2 (s 61)) :
    wI (wp d) m_M_look [.ref 57] t (fun x24 s24 => wI (wp d) m_M_isSign [.int x24] s24 (fun x31 s31 => (if x31 = 0 then wI (wp d) m_M_fails [.ref 57] s31 (fun x38 s38 => (if (x38 : Int32) &&& 1 = x38 then K x38 s38 else False)) else wI (wp d) m_M_sum [.ref 57] (upM s31 57 10 ((s31 57 10) + 1)) (fun x53 s53 => (if x24 = 61 then (if x9 = x53 then K 1 s53 else K 0 s53) else (if x24 = 60 then (if x9 < x53 then K 1 s53 else K 0 s53) else (if x53 < x9 then K 1 s53 else K 0 s53))))))) := by
  have h160 := hT.1
  subst hx9
  have k1 := sk_ge (T := T) (p := p)
  have k2 := sk_le hp
  refine m_look hT (by omega) hg.1 hg.2.1 hp fun s1 f1 e1 => ?_
  have r1 := RM_look hg f1 e1
  have fm1 : fM s s1 := frN_t hf (frN_w f1 (by simp) (by simp))
  have bad : cmpP T sm p a = .inl (sk T p) → wI (wp d) m_M_fails [.ref 57] s1 (fun x38 s38 => (if (x38 : Int32) &&& 1 = x38 then K x38 s38 else False)) := by
    intro er
    rw [er] at hK
    rw [m_fails (by omega) r1.2.2.1, if_pos (by decide)]
    exact hK _ _ (Or.inl rfl) (frN_t fm1 (frN_v (by simp))) (by rw [up_at, e1])
  by_cases hlt : sk T p < T.2
  · have hb := (hT.2 _ hlt).2
    rw [show sg T (sk T p) = nI (T.1 (sk T p)) from if_pos hlt, m_isSign (by omega) (by omega), ifb]
    by_cases hc : csg (T.1 (sk T p)) = true
    · have hcc := of_decide_eq_true hc
      rw [if_pos hc]
      have er : cmpP T sm p a = bnd (sm (sk T p + 1)) fun p' e => .inr (p', a.1 ++ e.1 ++ [- nI (T.1 (sk T p))], fun env => cmV (T.1 (sk T p)) (a.2 env) (e.2 env)) := if_pos ⟨hlt, hc⟩
      rw [er] at hK
      have f2 : fM s (upM s1 57 10 (s1 57 10 + 1)) := frN_t fm1 (frN_v (by simp))
      refine hS d (sk T p + 1) _ _ hd (RM_up r1) (by omega) ?_
      have hgr := hG (sk T p + 1) (by omega)
      revert hK hgr
      cases sm (sk T p + 1) with
      | inl e =>
        intro hK he v s3 _ f3 e3
        have fin : ∀ x, Pb x → K x s3 := fun x hx => hK x s3 hx (frN_t f2 f3) e3
        repeat' split
        all_goals first | exact fin 1 (Or.inr rfl) | exact fin 0 (Or.inl rfl)
      | inr e =>
        intro hK ⟨q1, q2, q3, _⟩ s3 f3 r3
        have e61 : (upM s1 57 10 (s1 57 10 + 1)) 61 = s 61 := f2.1 61 (by simp) (by decide)
        rw [e61]
        have hK' : K (cmV (T.1 (sk T p)) (a.2 (s 61)) (e.2.2 (s 61))) s3 := hK s3 (frN_t f2 f3) r3
        unfold cmV at hK'
        rw [b01_if (f := fun v => K v s3), b01_if (f := fun v => K v s3), b01_if (f := fun v => K v s3)]
        rcases hcc with h | h | h
        · rw [h] at hK' ⊢
          rw [if_pos rfl] at hK'
          rw [if_pos (show nI 61 = 61 from rfl)]
          exact hK'
        · rw [h] at hK' ⊢
          rw [if_neg (by decide), if_pos rfl] at hK'
          rw [if_neg (show ¬ nI 60 = 61 by decide), if_pos (show nI 60 = 60 from rfl)]
          exact hK'
        · rw [h] at hK' ⊢
          rw [if_neg (by decide), if_neg (by decide)] at hK'
          rw [if_neg (show ¬ nI 62 = 61 by decide), if_neg (show ¬ nI 62 = 60 by decide)]
          exact hK'
    · rw [if_neg hc]
      exact bad (if_neg fun z => hc z.2)
  · rw [show sg T (sk T p) = m1 from if_neg hlt, mb_isSign (by omega), if_pos (show nI 0 = 0 from rfl)]
    exact bad (if_neg fun z => hlt z.1)
theorem m_cmp1 (hT : TxOk T) {D : Nat} (hD : 2 ≤ D) {dp : Nat} {sm : Nat → PR} (hS : MR T tc off m_M_sum D dp [] (fun _ => True) sm) (hG : ∀ p, p ≤ T.2 → GR T VB p (sm p)) (hd : D + 1 ≤ d) {p : Nat} {a : E} {K : Int32 → Mem → Prop} (hg : RM T tc off dp p s) (hp : p ≤ T.2) (hK : MK T tc off dp Pb (cmpP T sm p a) s K) : wI (wp d) m_M_compares [.ref 57, .int 1, .int (a.2 (s 61))] s K := by
  obtain ⟨d, rfl⟩ : ∃ e, d = e + 1 := ⟨d - 1, by omega⟩
  rw [e_M_compares, if_neg (by decide), if_pos (show s 57 11 = -1 from hg.2.2.1)]
  exact m_cmpK hT hD hS (by omega) hg frN_r hp hG hK rfl
theorem m_cmp0 (hT : TxOk T) {D : Nat} (hD : 2 ≤ D) {dp : Nat} {sm : Nat → PR} (hS : MR T tc off m_M_sum D dp [] (fun _ => True) sm) (hG : ∀ p, p ≤ T.2 → GR T VB p (sm p)) : MR T tc off m_M_compares (D + 1) dp [.int 0, .int 0] Pb (fun p => bnd (sm p) fun p' e => cmpP T sm p' e) := by
  intro d p s K hd hg hp hK
  have h160 := hT.1
  obtain ⟨d, rfl⟩ : ∃ e, d = e + 1 := ⟨d - 1, by omega⟩
  rw [e_M_compares, if_pos rfl]
  refine hS d p s _ (by omega) hg hp ?_
  have hgr := hG p hp
  have hK' : MK T tc off dp Pb (bnd (sm p) fun p' e => cmpP T sm p' e) s K := hK
  revert hK' hgr
  cases sm p with
  | inl e =>
    intro he hK' v s1 _ f1 e1
    rw [if_neg (show ¬ s1 57 11 = -1 from f_m1 (show e ≤ 160 from Nat.le_trans he h160) e1)]
    exact hK' _ s1 (Or.inl rfl) f1 e1
  | inr e =>
    intro ⟨q1, q2, q3, _⟩ hK' s1 f1 r1
    rw [if_pos (show s1 57 11 = -1 from r1.2.2.1)]
    exact m_cmpK hT hD hS (by omega) r1 f1 q2 hG hK' rfl
/-- the row of units joined by & -/
theorem m_part_l (hT : TxOk T) {D : Nat} {dp : Nat} {un : Nat → PR} (hA : MR T tc off m_M_unit D dp [] Pb un) (hG : ∀ p, p ≤ T.2 → GR T TB p (un p)) {d : Nat} (hd : D ≤ d) (hd2 : 2 ≤ d) {s : Mem} {K : Int32 → Mem → Prop} :
    ∀ (f p : Nat) (a : E) (v1 v2 v4 : Value) (t : Mem), T.2 - p < f → p ≤ T.2 → TB a.2 → RM T tc off dp p t → fM s t → MK T tc off dp Pb (rowL T 38 38 andV un f p a) s K →
    RnI d m_M_part K 18 [.ref 57, v1, v2, .int (a.2 (s 61)), v4] [] t := by
  have h160 := hT.1
  intro f
  induction f with
  | zero => intro p a v1 v2 v4 t h; omega
  | succ f ih =>
    intro p a v1 v2 v4 t hf hp ha hg hfr hK
    have k1 := sk_ge (T := T) (p := p)
    have k2 := sk_le hp
    rw [r_M_part_18, if_pos (show t 57 11 = -1 from hg.2.2.1)]
    refine m_look hT (by omega) hg.1 hg.2.1 hp fun s1 f1 e1 => ?_
    have r1 := RM_look hg f1 e1
    have fm1 : fM s s1 := frN_t hfr (frN_w f1 (by simp) (by simp))
    by_cases hx : isS T (sk T p) 38 = true
    · have hlt := (isS_lt hx).1
      have er : rowL T 38 38 andV un (f + 1) p a = bnd (un (sk T p + 1)) fun p' e => rowL T 38 38 andV un f p' (a.1 ++ e.1 ++ [- nI (T.1 (sk T p))], fun env => andV (T.1 (sk T p)) (a.2 env) (e.2 env)) := if_pos (Or.inl hx)
      rw [er] at hK
      rw [if_pos (show sg T (sk T p) = 38 from sgp hT (by decide) hx)]
      have f2 : fM s (upM s1 57 10 (s1 57 10 + 1)) := frN_t fm1 (frN_v (by simp))
      refine hA d (sk T p + 1) _ _ hd (RM_up r1) (by omega) ?_
      have hgr := hG (sk T p + 1) (by omega)
      revert hK hgr
      cases un (sk T p + 1) with
      | inl e =>
        intro hK he v s3 _ f3 e3
        have fin : ∀ (x : Int32) (v4 : Value), Pb x → RnI d m_M_part K 18 [.ref 57, uV, uV, .int x, v4] [] s3 := by
          intro x v4 hx
          rw [r_M_part_18, if_neg (show ¬ s3 57 11 = -1 from f_m1 (show e ≤ 160 from Nat.le_trans he h160) e3), if_pos (Pb_1 hx)]
          exact hK x s3 hx (frN_t f2 f3) e3
        repeat' split
        all_goals first | exact fin 0 _ (Or.inl rfl) | exact fin 1 _ (Or.inr rfl)
      | inr e =>
        intro hK ⟨q1, q2, q3, q4⟩ s3 f3 r3
        have e61 : (upM s1 57 10 (s1 57 10 + 1)) 61 = s 61 := f2.1 61 (by simp) (by decide)
        rw [e61]
        have nx : ∀ v4 : Value, RnI d m_M_part K 18 [.ref 57, uV, uV, .int (a.2 (s 61) &&& e.2.2 (s 61)), v4] [] s3 := fun v4 =>
          ih e.1 (a.1 ++ e.2.1 ++ [- nI (T.1 (sk T p))], fun env => andV (T.1 (sk T p)) (a.2 env) (e.2.2 env)) _ _ _ s3 (by omega) q2 (TB_and (T.1 (sk T p)) _ _ ha q4) r3 (frN_t f2 f3) hK
        rcases ha (s 61) with h1 | h1
        · rw [h1] at nx ⊢
          rw [if_pos (show nI 0 = 0 from rfl)]
          have : nI 0 &&& e.2.2 (s 61) = 0 := by rcases q4 (s 61) with h2 | h2 <;> (rw [h2]; decide)
          rw [this] at nx
          exact nx _
        · rw [h1] at nx ⊢
          rw [if_neg (show ¬ nI 1 = 0 by decide)]
          rcases q4 (s 61) with h2 | h2
          · rw [h2] at nx ⊢
            rw [if_pos (show nI 0 = 0 from rfl)]
            exact nx _
          · rw [h2] at nx ⊢
            rw [if_neg (show ¬ nI 1 = 0 by decide)]
            exact nx _
    · have er : rowL T 38 38 andV un (f + 1) p a = .inr (sk T p, a) := if_neg (fun z => z.elim hx hx)
      rw [er] at hK
      rw [if_neg (show ¬ sg T (sk T p) = 38 from sgn hT (by decide) hx), if_pos (Pb_1 (ha (s 61)))]
      exact hK s1 fm1 r1
theorem m_part0 (hT : TxOk T) {D : Nat} (hD : 2 ≤ D) {dp : Nat} {un : Nat → PR} (hA : MR T tc off m_M_unit D dp [] Pb un) (hG : ∀ p, p ≤ T.2 → GR T TB p (un p)) : MR T tc off m_M_part (D + 1) dp [.int 0, .int 0] Pb (partG T un) := by
  intro d p s K hd hg hp hK
  have h160 := hT.1
  obtain ⟨d, rfl⟩ : ∃ e, d = e + 1 := ⟨d - 1, by omega⟩
  rw [e_M_part, if_pos rfl]
  refine hA d p s _ (by omega) hg hp ?_
  have hgr := hG p hp
  have hK' : MK T tc off dp Pb (bnd (un p) fun p' e => rowL T 38 38 andV un (T.2 + 1) p' e) s K := hK
  revert hK' hgr
  cases un p with
  | inl e =>
    intro he hK' v s1 hv f1 e1
    rw [r_M_part_18, if_neg (show ¬ s1 57 11 = -1 from f_m1 (show e ≤ 160 from Nat.le_trans he h160) e1), if_pos (Pb_1 hv)]
    exact hK' v s1 hv f1 e1
  | inr e =>
    intro ⟨q1, q2, q3, q4⟩ hK' s1 f1 r1
    exact m_part_l hT hA hG (by omega) (by omega) (T.2 + 1) e.1 e.2 _ _ _ s1 (by omega) q2 q4 r1 f1 hK'
theorem m_part1 (hT : TxOk T) {D k : Nat} (hD : 3 ≤ D) {dp : Nat} {un : Nat → PR} (hA : MR T tc off m_M_unit D dp [] Pb un) (hG : ∀ p, p ≤ T.2 → GR T TB p (un p)) (hS : MR T tc off m_M_sum (D - 1) dp [] (fun _ => True) (sumP T k)) (hd : D + 1 ≤ d) {p : Nat} {a : E} {K : Int32 → Mem → Prop} (hg : RM T tc off dp p s) (hp : p ≤ T.2) (hK : MK T tc off dp Pb (bnd (cmpP T (sumP T k) p a) fun p4 e2 => rowL T 38 38 andV un (T.2 + 1) p4 e2) s K) : wI (wp d) m_M_part [.ref 57, .int 1, .int (a.2 (s 61))] s K := by
  have h160 := hT.1
  obtain ⟨d, rfl⟩ : ∃ e, d = e + 1 := ⟨d - 1, by omega⟩
  rw [e_M_part, if_neg (by decide)]
  refine m_cmp1 hT (by omega) hS (sumP_G k) (by omega) hg hp ?_
  have hgr := cmpP_G (T := T) (k := k) (p := p + 1) (p0 := p) (a := ([], a.2))
  have hgr2 : (match cmpP T (sumP T k) p a with
    | .inl f => f ≤ T.2
    | .inr x => x.1 ≤ T.2 ∧ TB x.2.2) := by
    have j1 := sk_ge (T := T) (p := p)
    have j2 := sk_le hp
    by_cases hc : sk T p < T.2 ∧ csg (T.1 (sk T p)) = true
    · rw [show cmpP T (sumP T k) p a = _ from if_pos hc]
      have := sumP_G (T := T) k (sk T p + 1) (by omega)
      revert this
      cases sumP T k (sk T p + 1) with
      | inl e => exact id
      | inr x => exact fun ⟨_, b, _, _⟩ => ⟨b, fun env => cmV_b⟩
    · rw [show cmpP T (sumP T k) p a = _ from if_neg hc]
      exact j2
  revert hK hgr2
  cases cmpP T (sumP T k) p a with
  | inl e =>
    intro hK he v s1 hv f1 e1
    rw [r_M_part_18, if_neg (show ¬ s1 57 11 = -1 from f_m1 (show e ≤ 160 from Nat.le_trans he h160) e1), if_pos (Pb_1 hv)]
    exact hK v s1 hv f1 e1
  | inr e =>
    intro hK ⟨q2, q4⟩ s1 f1 r1
    exact m_part_l hT hA hG (by omega) (by omega) (T.2 + 1) e.1 e.2 _ _ _ s1 (by omega) q2 q4 r1 f1 hK
theorem m_cond_l (hT : TxOk T) {D : Nat} {dp : Nat} {pr : Nat → PR} (hA : MR T tc off m_M_part D dp [.int 0, .int 0] Pb pr) (hG : ∀ p, p ≤ T.2 → GR T TB p (pr p)) {d : Nat} (hd : D ≤ d) (hd2 : 2 ≤ d) {s : Mem} {K : Int32 → Mem → Prop} :
    ∀ (f p : Nat) (a : E) (v1 v2 v4 : Value) (t : Mem), T.2 - p < f → p ≤ T.2 → TB a.2 → RM T tc off dp p t → fM s t → MK T tc off dp Pb (rowL T 124 124 orV pr f p a) s K →
    RnI d m_M_condition K 7 [.ref 57, v1, v2, .int (a.2 (s 61)), v4] [] t := by
  have h160 := hT.1
  intro f
  induction f with
  | zero => intro p a v1 v2 v4 t h; omega
  | succ f ih =>
    intro p a v1 v2 v4 t hf hp ha hg hfr hK
    have k1 := sk_ge (T := T) (p := p)
    have k2 := sk_le hp
    rw [r_M_condition_7, if_pos (show t 57 11 = -1 from hg.2.2.1)]
    refine m_look hT (by omega) hg.1 hg.2.1 hp fun s1 f1 e1 => ?_
    have r1 := RM_look hg f1 e1
    have fm1 : fM s s1 := frN_t hfr (frN_w f1 (by simp) (by simp))
    by_cases hx : isS T (sk T p) 124 = true
    · have hlt := (isS_lt hx).1
      have er : rowL T 124 124 orV pr (f + 1) p a = bnd (pr (sk T p + 1)) fun p' e => rowL T 124 124 orV pr f p' (a.1 ++ e.1 ++ [- nI (T.1 (sk T p))], fun env => orV (T.1 (sk T p)) (a.2 env) (e.2 env)) := if_pos (Or.inl hx)
      rw [er] at hK
      rw [if_pos (show sg T (sk T p) = 124 from sgp hT (by decide) hx)]
      have f2 : fM s (upM s1 57 10 (s1 57 10 + 1)) := frN_t fm1 (frN_v (by simp))
      refine hA d (sk T p + 1) _ _ hd (RM_up r1) (by omega) ?_
      have hgr := hG (sk T p + 1) (by omega)
      revert hK hgr
      cases pr (sk T p + 1) with
      | inl e =>
        intro hK he v s3 _ f3 e3
        have fin : ∀ (x : Int32) (v4 : Value), Pb x → RnI d m_M_condition K 7 [.ref 57, uV, uV, .int x, v4] [] s3 := by
          intro x v4 hx
          rw [r_M_condition_7, if_neg (show ¬ s3 57 11 = -1 from f_m1 (show e ≤ 160 from Nat.le_trans he h160) e3), if_pos (Pb_1 hx)]
          exact hK x s3 hx (frN_t f2 f3) e3
        repeat' split
        all_goals first | exact fin 0 _ (Or.inl rfl) | exact fin 1 _ (Or.inr rfl)
      | inr e =>
        intro hK ⟨q1, q2, q3, q4⟩ s3 f3 r3
        have e61 : (upM s1 57 10 (s1 57 10 + 1)) 61 = s 61 := f2.1 61 (by simp) (by decide)
        rw [e61]
        have nx : ∀ v4 : Value, RnI d m_M_condition K 7 [.ref 57, uV, uV, .int (a.2 (s 61) ||| e.2.2 (s 61)), v4] [] s3 := fun v4 =>
          ih e.1 (a.1 ++ e.2.1 ++ [- nI (T.1 (sk T p))], fun env => orV (T.1 (sk T p)) (a.2 env) (e.2.2 env)) _ _ _ s3 (by omega) q2 (TB_or (T.1 (sk T p)) _ _ ha q4) r3 (frN_t f2 f3) hK
        rcases ha (s 61) with h1 | h1
        · rw [h1] at nx ⊢
          rw [if_pos (show nI 0 = 0 from rfl)]
          rcases q4 (s 61) with h2 | h2
          · rw [h2] at nx ⊢
            rw [if_pos (show nI 0 = 0 from rfl)]
            exact nx _
          · rw [h2] at nx ⊢
            rw [if_neg (show ¬ nI 1 = 0 by decide)]
            exact nx _
        · rw [h1] at nx ⊢
          rw [if_neg (show ¬ nI 1 = 0 by decide)]
          have : nI 1 ||| e.2.2 (s 61) = 1 := by rcases q4 (s 61) with h2 | h2 <;> (rw [h2]; decide)
          rw [this] at nx
          exact nx _
    · have er : rowL T 124 124 orV pr (f + 1) p a = .inr (sk T p, a) := if_neg (fun z => z.elim hx hx)
      rw [er] at hK
      rw [if_neg (show ¬ sg T (sk T p) = 124 from sgn hT (by decide) hx), if_pos (Pb_1 (ha (s 61)))]
      exact hK s1 fm1 r1
theorem m_cond0 (hT : TxOk T) {D : Nat} (hD : 2 ≤ D) {dp : Nat} {un : Nat → PR} (hA : MR T tc off m_M_unit D dp [] Pb un) (hG : ∀ p, p ≤ T.2 → GR T TB p (un p)) : MR T tc off m_M_condition (D + 2) dp [.int 0, .int 0] Pb (condG T un) := by
  intro d p s K hd hg hp hK
  have h160 := hT.1
  obtain ⟨d, rfl⟩ : ∃ e, d = e + 1 := ⟨d - 1, by omega⟩
  have hP := m_part0 hT hD hA hG
  rw [e_M_condition]
  refine hP d p s _ (by omega) hg hp ?_
  have hgr := partG_G hG p hp
  have hK' : MK T tc off dp Pb (bnd (partG T un p) fun p' e => rowL T 124 124 orV (partG T un) (T.2 + 1) p' e) s K := hK
  revert hK' hgr
  cases partG T un p with
  | inl e =>
    intro he hK' v s1 hv f1 e1
    rw [r_M_condition_7, if_neg (show ¬ s1 57 11 = -1 from f_m1 (show e ≤ 160 from Nat.le_trans he h160) e1), if_pos (Pb_1 hv)]
    exact hK' v s1 hv f1 e1
  | inr e =>
    intro ⟨q1, q2, q3, q4⟩ hK' s1 f1 r1
    exact m_cond_l hT hP (partG_G hG) (by omega) (by omega) (T.2 + 1) e.1 e.2 _ _ _ s1 (by omega) q2 q4 r1 f1 hK'
theorem m_cond1 (hT : TxOk T) {D k : Nat} (hD : 3 ≤ D) {dp : Nat} {un : Nat → PR} (hA : MR T tc off m_M_unit D dp [] Pb un) (hG : ∀ p, p ≤ T.2 → GR T TB p (un p)) (hS : MR T tc off m_M_sum (D - 1) dp [] (fun _ => True) (sumP T k)) (hd : D + 2 ≤ d) {p : Nat} {a : E} {K : Int32 → Mem → Prop} (hg : RM T tc off dp p s) (hp : p ≤ T.2) (hK : MK T tc off dp Pb (bnd (cmpP T (sumP T k) p a) fun p4 e2 => bnd (rowL T 38 38 andV un (T.2 + 1) p4 e2) fun p5 e3 => rowL T 124 124 orV (partG T un) (T.2 + 1) p5 e3) s K) : wI (wp d) m_M_condition [.ref 57, .int 1, .int (a.2 (s 61))] s K := by
  have h160 := hT.1
  obtain ⟨d, rfl⟩ : ∃ e, d = e + 1 := ⟨d - 1, by omega⟩
  have hP := m_part0 hT (by omega) hA hG
  rw [e_M_condition]
  refine m_part1 hT hD hA hG hS (by omega) hg hp ?_
  have hgr2 : (match (bnd (cmpP T (sumP T k) p a) fun p4 e2 => rowL T 38 38 andV un (T.2 + 1) p4 e2) with
    | .inl f => f ≤ T.2
    | .inr x => x.1 ≤ T.2 ∧ TB x.2.2) := by
    have j1 := sk_ge (T := T) (p := p)
    have j2 := sk_le hp
    by_cases hc : sk T p < T.2 ∧ csg (T.1 (sk T p)) = true
    · rw [show cmpP T (sumP T k) p a = _ from if_pos hc]
      have := sumP_G (T := T) k (sk T p + 1) (by omega)
      revert this
      cases sumP T k (sk T p + 1) with
      | inl e => exact id
      | inr x =>
        intro ⟨b0, b, b2, _⟩
        have := rowL_G (T := T) (c1 := 38) (c2 := 38) TB_and hG (p0 := 0) (T.2 + 1) x.1 ([], fun env => cmV (T.1 (sk T p)) (a.2 env) (x.2.2 env)) b (by omega) (by show 0 ≤ _; omega) (fun env => cmV_b)
        have key : ∀ f p (c c' : List Int32) v, (match rowL T 38 38 andV un f p (c, v) with
            | .inl f => f ≤ T.2
            | .inr x => x.1 ≤ T.2 ∧ TB x.2.2) → (match rowL T 38 38 andV un f p (c', v) with
            | .inl f => f ≤ T.2
            | .inr x => x.1 ≤ T.2 ∧ TB x.2.2) := by
          intro f
          induction f with
          | zero => intro p c c' v h; exact h
          | succ f ihf =>
            intro p c c' v h
            unfold rowL at h ⊢
            by_cases hx : isS T (sk T p) 38 = true ∨ isS T (sk T p) 38 = true
            · rw [if_pos hx] at h ⊢
              revert h
              cases un (sk T p + 1) with
              | inl e => exact id
              | inr y => exact fun h => ihf y.1 _ _ _ h
            · rw [if_neg hx] at h ⊢
              exact h
        refine key _ _ [] _ _ ?_
        revert this
        cases rowL T 38 38 andV un (T.2 + 1) x.1 ([], fun env => cmV (T.1 (sk T p)) (a.2 env) (x.2.2 env)) with
        | inl e => exact id
        | inr y => exact fun ⟨_, b, _, v⟩ => ⟨b, v⟩
    · rw [show cmpP T (sumP T k) p a = _ from if_neg hc]
      exact j2
  have hK' : MK T tc off dp Pb (bnd (bnd (cmpP T (sumP T k) p a) fun p4 e2 => rowL T 38 38 andV un (T.2 + 1) p4 e2) fun p5 e3 => rowL T 124 124 orV (partG T un) (T.2 + 1) p5 e3) s K := by
    revert hK
    cases cmpP T (sumP T k) p a with
    | inl e => exact id
    | inr e => exact id
  revert hK' hgr2
  cases (bnd (cmpP T (sumP T k) p a) fun p4 e2 => rowL T 38 38 andV un (T.2 + 1) p4 e2) with
  | inl e =>
    intro he hK v s1 hv f1 e1
    rw [r_M_condition_7, if_neg (show ¬ s1 57 11 = -1 from f_m1 (show e ≤ 160 from Nat.le_trans he h160) e1), if_pos (Pb_1 hv)]
    exact hK v s1 hv f1 e1
  | inr e =>
    intro ⟨q2, q4⟩ hK s1 f1 r1
    exact m_cond_l hT hP (partG_G hG) (by omega) (by omega) (T.2 + 1) e.1 e.2 _ _ _ s1 (by omega) q2 q4 r1 f1 hK
theorem m_unit (hT : TxOk T) {D k : Nat} (hD : 2 ≤ D) {dp : Nat} (hS : MR T tc off m_M_sum D dp [] (fun _ => True) (sumP T k)) {sub : Option (Nat → PR)} (hx : match sub with
      | none => dp = 6
      | some un => dp < 6 ∧ MR T tc off m_M_unit (D + 1) (dp + 1) [] Pb un ∧ MR T tc off m_M_condition (D + 1) (dp + 1) [.int 0, .int 0] Pb (condG T un) ∧ ∀ p, p ≤ T.2 → GR T TB p (un p)) : MR T tc off m_M_unit (D + 2) dp [] Pb (unitG T (sumP T k) sub) := by
  intro d p s K hd hg hp hK
  have h160 := hT.1
  obtain ⟨d, rfl⟩ : ∃ e, d = e + 1 := ⟨d - 1, by omega⟩
  have k1 := sk_ge (T := T) (p := p)
  have k2 := sk_le hp
  rw [e_M_unit]
  refine m_look hT (by omega) hg.1 hg.2.1 hp fun s1 f1 e1 => ?_
  have r1 := RM_look hg f1 e1
  have fm1 : fM s s1 := frN_w f1 (by simp) (by simp)
  by_cases h33 : isS T (sk T p) 33 = true
  · have hlt := (isS_lt h33).1
    rw [if_pos (show sg T (sk T p) = 33 from sgp hT (by decide) h33)]
    have er : unitG T (sumP T k) sub p = _ := if_pos h33
    rw [er] at hK
    cases sub with
    | none =>
      have hx' : dp = 6 := hx
      subst hx'
      refine m_goesIn0 (by omega) r1 fun s2 f2 e2 => ?_
      rw [if_pos (show nI 0 = 0 from rfl)]
      exact hK _ _ (Or.inl rfl) (frN_t fm1 f2) e2
    | some un =>
      obtain ⟨hx1, hx2, _, hx4⟩ := hx
      refine m_goesIn1 (by omega) hx1 r1 fun s2 f2 r2 => ?_
      rw [if_neg (show ¬ nI 1 = 0 by decide)]
      have fm2 := frN_t fm1 f2
      refine hx2 d (sk T p + 1) s2 _ (by omega) r2 (by omega) ?_
      have hgr := hx4 (sk T p + 1) (by omega)
      have hK' : MK T tc off dp Pb (bnd (un (sk T p + 1)) fun p' e => .inr (p', e.1 ++ [- nI 33], fun env => nI 1 - e.2 env)) s K := hK
      revert hK' hgr
      cases un (sk T p + 1) with
      | inl e =>
        intro he hK' v s3 hv f3 e3
        have f4 : fM s (upM s3 57 12 (s3 57 12 - 1)) := frN_t (frN_t fm2 f3) (frN_v (by simp))
        split
        · exact hK' _ _ (Or.inr rfl) f4 (by rw [up_pl (by decide)]; exact e3)
        · exact hK' _ _ (Or.inl rfl) f4 (by rw [up_pl (by decide)]; exact e3)
      | inr e =>
        intro ⟨q1, q2, q3, q4⟩ hK' s3 f3 r3
        have f4 : fM s (upM s3 57 12 (s3 57 12 - 1)) := frN_t (frN_t fm2 f3) (frN_v (by simp))
        have e61 : s2 61 = s 61 := fm2.1 61 (by simp) (by decide)
        have r4 : RM T tc off dp e.1 (upM s3 57 12 (s3 57 12 - 1)) := ⟨RdS_f hg.1 f4, by rw [up_pl (by decide)]; exact r3.2.1, by rw [up_pl (by decide)]; exact r3.2.2.1, by rw [up_at, r3.2.2.2, show (1 : Int32) = nI 1 from rfl, n_sub (by omega)]; rfl⟩
        have fin : K (nI 1 - e.2.2 (s 61)) (upM s3 57 12 (s3 57 12 - 1)) := hK' _ f4 r4
        rw [e61]
        rcases q4 (s 61) with h | h
        · rw [h] at fin ⊢
          rw [if_pos (show nI 0 = 0 from rfl)]
          exact fin
        · rw [h] at fin ⊢
          rw [if_neg (show ¬ nI 1 = 0 by decide)]
          exact fin
  · have er : unitG T (sumP T k) sub p = _ := if_neg h33
    rw [er] at hK
    rw [if_neg (show ¬ sg T (sk T p) = 33 from sgn hT (by decide) h33)]
    by_cases h40 : isS T (sk T p) 40 = true
    · have hlt := (isS_lt h40).1
      rw [if_pos (show sg T (sk T p) = 40 from sgp hT (by decide) h40)]
      rw [if_pos h40] at hK
      cases sub with
      | none =>
        have hx' : dp = 6 := hx
        subst hx'
        refine m_goesIn0 (by omega) r1 fun s2 f2 e2 => ?_
        rw [if_pos (show nI 0 = 0 from rfl)]
        exact hK _ _ (Or.inl rfl) (frN_t fm1 f2) e2
      | some un =>
        obtain ⟨hx1, _, hx3, hx4⟩ := hx
        refine m_goesIn1 (by omega) hx1 r1 fun s2 f2 r2 => ?_
        rw [if_neg (show ¬ nI 1 = 0 by decide)]
        have fm2 := frN_t fm1 f2
        refine hx3 d (sk T p + 1) s2 _ (by omega) r2 (by omega) ?_
        have hgr := condG_G hx4 (p := sk T p + 1) (by omega)
        have hK' : MK T tc off dp Pb (bnd (condG T un (sk T p + 1)) fun p' e => ned T p' 41 fun p'' => .inr (p'', e)) s K := hK
        revert hK' hgr
        cases condG T un (sk T p + 1) with
        | inl e =>
          intro he hK' v s3 hv f3 e3
          rw [mb_takes (by omega) (f_m1 (show e ≤ 160 from Nat.le_trans he h160) e3), if_pos (show nI 0 = 0 from rfl)]
          exact hK' _ _ (Or.inl rfl) (frN_t fm2 f3) e3
        | inr e =>
          intro ⟨q1, q2, q3, q4⟩ hK' s3 f3 r3
          have hK2 : MK T tc off dp Pb (ned T e.1 41 fun p'' => .inr (p'', e.2)) s K := hK'
          have fm3 := frN_t fm2 f3
          have e61 : s2 61 = s 61 := fm2.1 61 (by simp) (by decide)
          rw [e61]
          refine m_takes hT (by omega) (x := 41) (by decide) r3 q2 (fun hh s4 f4 r4 => ?_) (fun hh s4 f4 e4 => ?_)
          · have e2 : ned T e.1 41 (fun p'' => (Sum.inr (p'', e.2) : PR)) = .inr (sk T e.1 + 1, e.2) := if_pos hh
            rw [e2] at hK2
            rw [if_neg (show ¬ nI 1 = 0 by decide), if_pos (Pb_1 (q4 (s 61)))]
            have f5 : fM s (upM s4 57 12 (s4 57 12 - 1)) := frN_t (frN_t fm3 f4) (frN_v (by simp))
            exact hK2 _ f5 ⟨RdS_f hg.1 f5, by rw [up_pl (by decide)]; exact r4.2.1, by rw [up_pl (by decide)]; exact r4.2.2.1, by rw [up_at, r4.2.2.2, show (1 : Int32) = nI 1 from rfl, n_sub (by omega)]; rfl⟩
          · have e2 : ned T e.1 41 (fun p'' => (Sum.inr (p'', e.2) : PR)) = .inl (sk T e.1) := if_neg (by rw [hh]; decide)
            rw [e2] at hK2
            rw [if_pos (show nI 0 = 0 from rfl)]
            exact hK2 _ _ (Or.inl rfl) (frN_t fm3 f4) e4
    · rw [if_neg (show ¬ sg T (sk T p) = 40 from sgn hT (by decide) h40)]
      rw [if_neg h40] at hK
      refine m_cmp0 hT hD hS (sumP_G k) d (sk T p) s1 _ (by omega) r1 k2 ?_
      have hK2 : MK T tc off dp Pb (bnd (sumP T k (sk T p)) fun p' e => cmpP T (sumP T k) p' e) s1 K := MK_f hK fm1
      have hb : (match (bnd (sumP T k (sk T p)) fun p' e => cmpP T (sumP T k) p' e) with
        | .inl _ => True
        | .inr x => TB x.2.2) := by
        cases sumP T k (sk T p) with
        | inl e => exact trivial
        | inr x =>
          show (match cmpP T (sumP T k) x.1 x.2 with | .inl _ => True | .inr x => TB x.2.2)
          by_cases hc : sk T x.1 < T.2 ∧ csg (T.1 (sk T x.1)) = true
          · rw [show cmpP T (sumP T k) x.1 x.2 = _ from if_pos hc]
            cases sumP T k (sk T x.1 + 1) with
            | inl e => exact trivial
            | inr y => exact fun env => cmV_b
          · rw [show cmpP T (sumP T k) x.1 x.2 = _ from if_neg hc]
            exact trivial
      revert hK2 hb
      show _ → _ → MK T tc off dp Pb (bnd (sumP T k (sk T p)) fun p' e => cmpP T (sumP T k) p' e) s1 _
      cases (bnd (sumP T k (sk T p)) fun p' e => cmpP T (sumP T k) p' e) with
      | inl e =>
        intro hK2 _ v s2 hv f2 e2
        rw [if_pos (Pb_1 hv)]
        exact hK2 v s2 hv f2 e2
      | inr x =>
        intro hK2 hb s2 f2 r2
        rw [if_pos (Pb_1 (hb (s1 61)))]
        exact hK2 s2 f2 r2
theorem m_units (hT : TxOk T) : ∀ k, k ≤ 6 → MR T tc off m_M_unit (7 + 3 * k) (6 - k) [] Pb (unitP T k)
  | 0, _ => m_unit hT (D := 5) (by omega) (m_sums hT 0 (by omega)) (sub := none) rfl
  | k + 1, hk => by
    have ih := m_units hT k (by omega)
    have hx : 6 - (k + 1) < 6 ∧ MR T tc off m_M_unit (5 + 3 * (k + 1) + 1) (6 - (k + 1) + 1) [] Pb (unitP T k) ∧ MR T tc off m_M_condition (5 + 3 * (k + 1) + 1) (6 - (k + 1) + 1) [.int 0, .int 0] Pb (condG T (unitP T k)) ∧ ∀ p, p ≤ T.2 → GR T TB p (unitP T k p) := by
      rw [show 6 - (k + 1) + 1 = 6 - k by omega]
      exact ⟨by omega, MR_D ih (by omega), MR_D (m_cond0 hT (by omega) ih (unitP_G k)) (by omega), unitP_G k⟩
    exact MR_D (m_unit hT (D := 5 + 3 * (k + 1)) (by omega) (m_sums hT (k + 1) hk) (sub := some (unitP T k)) hx) (by omega)
end
