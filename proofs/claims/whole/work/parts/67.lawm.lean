/-! the reference reads laws -/
section
variable {d : Nat} {T : Txt} {s : Mem} {tc off : Nat}
abbrev fL (s t : Mem) : Prop := frN [] [10, 11, 12, 14, 17] s t
theorem fM_L {t : Mem} (h : fM s t) : fL s t := frN_w h (by simp) (by simp)
/-- what a clause says -/
def clV (env : EnvL) (cl : Cl) : Option Int32 := match cl.1 with
  | none => some (cl.2.2 env)
  | some c => if c.2 env = nI 0 then none else some (cl.2.2 env)
def orO (a b : Option Int32) : Option Int32 := match a with
  | none => b
  | some v => some v
def FS (o : Option Int32) (s : Mem) : Prop := match o with
  | none => s 57 17 = nI 0 ∧ s 57 14 = nI 0
  | some v => s 57 17 = nI 1 ∧ s 57 14 = v
theorem FS_f {o : Option Int32} {t : Mem} (h : FS o s) (hf : fM s t) : FS o t := by
  unfold FS at *
  rw [hf.2 17 (by decide), hf.2 14 (by decide)]
  exact h
theorem RdS_L {t : Mem} (h : RdS T tc off s) (hf : fL s t) : RdS T tc off t := by
  obtain ⟨h1, h2, h3, h4, h5⟩ := h
  have ne : tc ≠ 57 := by rcases h1 with ⟨rfl, _⟩ | ⟨rfl, _⟩ <;> decide
  refine ⟨h1, ?_, ?_, ?_, ?_⟩
  · rw [hf.2 5 (by decide)]; exact h2
  · rw [hf.2 8 (by decide)]; exact h3
  · rw [hf.2 9 (by decide)]; exact h4
  · intro j hj; rw [hf.1 tc (by simp) ne]; exact h5 j hj
def MKc (T : Txt) (tc off : Nat) (o : Option Int32) (r : Sum Nat (Nat × Cl)) (s : Mem) (K : Mem → Prop) : Prop := match r with
  | .inl f => ∀ s', fL s s' → s' 57 11 = nI f → K s'
  | .inr x => ∀ s', fL s s' → RM T tc off 0 x.1 s' → FS (orO o (clV (s 61) x.2)) s' → K s'
theorem m_label {K : Int32 → Mem → Prop} (hd : 1 ≤ d) {x : Nat} (hx : x < 256) : wI (wp d) 901 [.ref 1010, .int (nI x)] s K = K (b01 (decide (x = 121))) s := by
  obtain ⟨d, rfl⟩ : ∃ e, d = e + 1 := ⟨d - 1, by omega⟩
  have e : wI (wp (d + 1)) 901 [.ref 1010, .int (nI x)] s K = K (if nI x ∈ [nI 121] then 1 else 0) s := rfl
  rw [e]
  simp only [List.mem_cons, List.not_mem_nil, or_false]
  simp (disch := omega) only [↓n_m1, ↓n_hid, q0, q1, q2, q3, q4, q5, q6, q7, q8, q9, q10, q11, q12, q13, q14, q15, q16, q17, q18, q19, q20, q21, q22, q23, q24, q25, q26, q27, q28, q29, q30, q31, q32, q33, q34, q35, q36, q37, q38, q39, q40, q41, q42, q43, q44, q45, q46, q47, q48, q49, q50, q51, q52, q53, q54, q55, q56, q57, q58, q59, q61, q62, q63, q64, q66, q67, q68, q69, q70, q71, q91, q93, q99, q100, q102, q104, q107, q108, q112, q114, q115, q119, q121, q124, q160, q200, q255, q640, q999, q1000, q2000, q4096, n_of, nI_ltI, nI_leI, nI_eq, nI_clamp, nI_add, pk_mul, n_sub, m1_eq, m1_eq2, m1_lt, m1_lt2, gdN, Nat.not_lt_zero, false_or, if_true, if_false, if_pos, if_neg, cond_true, cond_false, beq_self, and_self, true_and, and_true, not_true_eq_false, not_false_eq_true, ne_eq]
  unfold b01
  congr 1
  by_cases h : x = 121
  · rw [if_pos h, decide_eq_true h]; rfl
  · rw [if_neg h, decide_eq_false h]; rfl
theorem mb_label {K : Int32 → Mem → Prop} (hd : 1 ≤ d) : wI (wp d) 901 [.ref 1010, .int m1] s K = K (nI 0) s := by
  obtain ⟨d, rfl⟩ : ∃ e, d = e + 1 := ⟨d - 1, by omega⟩
  have e : wI (wp (d + 1)) 901 [.ref 1010, .int m1] s K = K (if m1 ∈ [nI 121] then 1 else 0) s := rfl
  rw [e, if_neg (by decide)]
  rfl
/-- the clause's end: whether its worth is taken -/
theorem m_ends {K : Mem → Prop} {o : Option Int32} {p : Nat} {t : Mem} (hr : RM T tc off 0 p t) (h13 : t 57 13 = nI 121) (hF : FS o t) {env : EnvL} {cl : Cl} {x67 x82 : Int32} (h2 : x82 = cl.2.2 env) (h1 : clV env cl = if x67 = nI 0 then none else some x82)
    (hf : fL s t) (hK : ∀ s', fL s s' → RM T tc off 0 p s' → FS (orO o (clV env cl)) s' → K s') :
    (if (t 57 11) = (-1) then (if (t 57 17) = 0 then (if nI 121 = (t 57 13) then (if x67 = 0 then K t else K (upM (upM t 57 17 1) 57 14 x82)) else K t) else K t) else K t) := by
  rw [if_pos (show t 57 11 = -1 from hr.2.2.1), h13, if_pos rfl]
  cases o with
  | some v =>
    have hF' : t 57 17 = nI 1 ∧ t 57 14 = v := hF
    rw [if_neg (show ¬ t 57 17 = 0 by rw [hF'.1]; decide)]
    exact hK t hf hr hF
  | none =>
    have hF' : t 57 17 = nI 0 ∧ t 57 14 = nI 0 := hF
    rw [if_pos (show t 57 17 = 0 from hF'.1)]
    by_cases hc : x67 = nI 0
    · rw [if_pos (show x67 = 0 from hc)]
      rw [if_pos hc] at h1
      refine hK t hf hr ?_
      rw [h1]
      exact hF
    · rw [if_neg (show ¬ x67 = 0 from hc)]
      rw [if_neg hc] at h1
      have f2 : fL s (upM (upM t 57 17 1) 57 14 x82) := frN_t hf (frN_t (frN_v (by simp)) (frN_v (by simp)))
      refine hK _ f2 ⟨RdS_L hr.1 (frN_t (frN_v (by simp)) (frN_v (by simp))), by rw [up_pl (by decide), up_pl (by decide)]; exact hr.2.1, by rw [up_pl (by decide), up_pl (by decide)]; exact hr.2.2.1, by rw [up_pl (by decide), up_pl (by decide)]; exact hr.2.2.2⟩ ?_
      rw [h1]
      exact ⟨by rw [up_pl (by decide), up_at]; rfl, up_at⟩
/-- behind a condition -/
theorem m_then (hT : TxOk T) {K : Mem → Prop} (hd : 27 ≤ d) {o : Option Int32} {p : Nat} {c : E} {t : Mem} (hr : RM T tc off 0 p t) (hp : p ≤ T.2) (h13 : t 57 13 = nI 121) (hF : FS o t) (hf : fL s t) {x67 : Int32} (hx : x67 = c.2 (s 61)) (hK : MKc T tc off o (ned T p 63 fun p7 => bnd (sumP T 6 p7) fun p8 e => .inr (p8, (some c, e))) s K) :
    wI (wp d) m_M_takes [.ref 57, .int 63] t (fun x74 s74 => (if x74 = 0 then K s74 else wI (wp d) m_M_sum [.ref 57] s74 (fun x82 s82 => (if (s82 57 11) = (-1) then (if (s82 57 17) = 0 then (if nI 121 = (s82 57 13) then (if x67 = 0 then K s82 else K (upM (upM s82 57 17 1) 57 14 x82)) else K s82) else K s82) else K s82)))) := by
  have h160 := hT.1
  refine m_takes hT (by omega) (x := 63) (by decide) hr hp (fun hh s4 f4 r4 => ?_) (fun hh s4 f4 e4 => ?_)
  · have er : ned T p 63 (fun p7 => (bnd (sumP T 6 p7) fun p8 e => .inr (p8, (some c, e)) : Sum Nat (Nat × Cl))) = (bnd (sumP T 6 (sk T p + 1)) fun p8 e => .inr (p8, (some c, e))) := if_pos hh
    have hlt := (isS_lt hh).1
    rw [er] at hK
    rw [if_neg (show ¬ nI 1 = 0 by decide)]
    have fl4 := frN_t hf (fM_L f4)
    refine m_sums hT 6 (by omega) d (sk T p + 1) s4 _ (by omega) r4 (by omega) ?_
    have hgr := sumP_G (T := T) 6 (sk T p + 1) (by omega)
    revert hK hgr
    cases sumP T 6 (sk T p + 1) with
    | inl e =>
      intro hK he v s5 _ f5 e5
      rw [if_neg (show ¬ s5 57 11 = -1 from f_m1 (show e ≤ 160 from Nat.le_trans he h160) e5)]
      exact hK s5 (frN_t fl4 (fM_L f5)) e5
    | inr e =>
      intro hK ⟨q1, q2, q3, _⟩ s5 f5 r5
      have e61 : s4 61 = s 61 := fl4.1 61 (by simp) (by decide)
      rw [e61]
      have f45 : fM t s5 := frN_t f4 f5
      refine m_ends (s := s) (env := s 61) (cl := (some c, e.2)) r5 (by rw [f45.2 13 (by decide)]; exact h13) (FS_f hF f45) rfl (by rw [hx]; rfl) (frN_t fl4 (fM_L f5)) hK
  · have er : ned T p 63 (fun p7 => (bnd (sumP T 6 p7) fun p8 e => .inr (p8, (some c, e)) : Sum Nat (Nat × Cl))) = .inl (sk T p) := if_neg (by rw [hh]; decide)
    rw [er] at hK
    rw [if_pos (show nI 0 = 0 from rfl)]
    exact hK s4 (frN_t hf (fM_L f4)) e4
theorem m_clause (hT : TxOk T) {K : Mem → Prop} (hd : 28 ≤ d) {o : Option Int32} {p : Nat} (hr : RM T tc off 0 p s) (hp : p ≤ T.2) (h13 : s 57 13 = nI 121) (hF : FS o s) (hK : MKc T tc off o (clauP T p) s K) : wV (wp d) m_M_clause [.ref 57] s K := by
  have h160 := hT.1
  obtain ⟨d, rfl⟩ : ∃ e, d = e + 1 := ⟨d - 1, by omega⟩
  have k1 := sk_ge (T := T) (p := p)
  have k2 := sk_le hp
  have U6 : MR T tc off m_M_unit 25 0 [] Pb (unitP T 6) := m_units hT 6 (by omega)
  have S6 : MR T tc off m_M_sum 23 0 [] (fun _ => True) (sumP T 6) := m_sums hT 6 (by omega)
  rw [e_M_clause]
  refine m_look hT (by omega) hr.1 hr.2.1 hp fun s1 f1 e1 => ?_
  have r1 := RM_look hr f1 e1
  have fm1 : fM s s1 := frN_w f1 (by simp) (by simp)
  have nol : isS T (sk T p) 121 = false → wI (wp d) m_M_fails [.ref 57] s1 (fun x15 s15 => K s15) := by
    intro hx
    have er : clauP T p = .inl (sk T p) := if_neg (by rw [hx]; decide)
    rw [er] at hK
    rw [m_fails (by omega) r1.2.2.1]
    exact hK _ (fM_L (frN_t fm1 (frN_v (by simp)))) (by rw [up_at, e1])
  by_cases hlt : sk T p < T.2
  · have hb := (hT.2 _ hlt).2
    rw [show sg T (sk T p) = nI (T.1 (sk T p)) from if_pos hlt, m_label (by omega) (by omega), ifb]
    by_cases h121 : T.1 (sk T p) = 121
    · have hx : isS T (sk T p) 121 = true := decide_eq_true ⟨hlt, h121⟩
      have er : ∀ f : Nat → Sum Nat (Nat × Cl), ned T p 121 f = f (sk T p + 1) := fun _ => if_pos hx
      unfold clauP at hK
      rw [er] at hK
      rw [decide_eq_true h121, if_pos rfl, h121]
      have f2 : fM s (upM s1 57 10 (s1 57 10 + 1)) := frN_t fm1 (frN_v (by simp))
      refine m_takes hT (by omega) (x := 58) (by decide) (RM_up r1) (by omega) (fun hx2 s3 f3 r3 => ?_) (fun hx2 s3 f3 e3 => ?_)
      · have hl2 := (isS_lt hx2).1
        have er2 : ∀ f : Nat → Sum Nat (Nat × Cl), ned T (sk T p + 1) 58 f = f (sk T (sk T p + 1) + 1) := fun _ => if_pos hx2
        rw [er2] at hK
        rw [if_neg (show ¬ nI 1 = 0 by decide)]
        generalize hp2 : sk T (sk T p + 1) + 1 = p2 at hK r3
        have hp2n : p2 ≤ T.2 := by omega
        have k4 := sk_ge (T := T) (p := p2)
        have k5 := sk_le hp2n
        have fm3 := frN_t f2 f3
        refine m_look hT (by omega) r3.1 r3.2.1 hp2n fun s4 f4 e4 => ?_
        have r4 := RM_look r3 f4 e4
        have fm4 : fM s s4 := frN_t fm3 (frN_w f4 (by simp) (by simp))
        have h13' : ∀ {t : Mem}, fM s t → t 57 13 = nI 121 := fun hf => by rw [hf.2 13 (by decide)]; exact h13
        have cond : MKc T tc off o (bnd (condG T (unitP T 6) (sk T p2)) fun p3 c => ned T p3 63 fun p4 => bnd (sumP T 6 p4) fun p5 e => .inr (p5, (some c, e))) s K → wI (wp d) m_M_condition [.ref 57, .int 0, .int 0] s4 (fun x67 s67 => wI (wp d) m_M_takes [.ref 57, .int 63] s67 (fun x74 s74 => (if x74 = 0 then K s74 else wI (wp d) m_M_sum [.ref 57] s74 (fun x82 s82 => (if (s82 57 11) = (-1) then (if (s82 57 17) = 0 then (if nI 121 = (s82 57 13) then (if x67 = 0 then K s82 else K (upM (upM s82 57 17 1) 57 14 x82)) else K s82) else K s82) else K s82))))) := by
          intro hK
          refine m_cond0 hT (by omega) U6 (unitP_G 6) d (sk T p2) s4 _ (by omega) r4 k5 ?_
          have hgr := condG_G (T := T) (unitP_G 6) k5
          revert hK hgr
          cases condG T (unitP T 6) (sk T p2) with
          | inl e =>
            intro hK he v s5 _ f5 e5
            rw [mb_takes (by omega) (f_m1 (show e ≤ 160 from Nat.le_trans he h160) e5), if_pos (show nI 0 = 0 from rfl)]
            exact hK s5 (fM_L (frN_t fm4 f5)) e5
          | inr e =>
            intro hK ⟨q1, q2, q3, _⟩ s5 f5 r5
            have fm5 := frN_t fm4 f5
            have e61 : s4 61 = s 61 := fm4.1 61 (by simp) (by decide)
            exact m_then (s := s) hT (by omega) r5 q2 (h13' fm5) (FS_f hF fm5) (fM_L fm5) (by rw [e61]) hK
        by_cases h33 : isS T (sk T p2) 33 = true
        · rw [if_pos (show sg T (sk T p2) = 33 from sgp hT (by decide) h33)]
          rw [if_pos (Or.inl h33)] at hK
          exact cond hK
        · rw [if_neg (show ¬ sg T (sk T p2) = 33 from sgn hT (by decide) h33)]
          by_cases h40 : isS T (sk T p2) 40 = true
          · rw [if_pos (show sg T (sk T p2) = 40 from sgp hT (by decide) h40)]
            rw [if_pos (Or.inr h40)] at hK
            exact cond hK
          · rw [if_neg (show ¬ sg T (sk T p2) = 40 from sgn hT (by decide) h40)]
            rw [if_neg (fun z => z.elim h33 h40)] at hK
            refine S6 d (sk T p2) s4 _ (by omega) r4 k5 ?_
            have hgr := sumP_G (T := T) 6 (sk T p2) k5
            revert hK hgr
            cases sumP T 6 (sk T p2) with
            | inl e =>
              intro hK he v s5 _ f5 e5
              have ne := f_m1 (show e ≤ 160 from Nat.le_trans he h160) e5
              rw [if_neg (show ¬ s5 57 11 = -1 from ne), if_neg (show ¬ s5 57 11 = -1 from ne)]
              exact hK s5 (fM_L (frN_t fm4 f5)) e5
            | inr e =>
              intro hK ⟨q1, q2, q3, q4⟩ s5 f5 r5
              have fm5 := frN_t fm4 f5
              have e61 : s4 61 = s 61 := fm4.1 61 (by simp) (by decide)
              rw [e61, if_pos (show s5 57 11 = -1 from r5.2.2.1)]
              have k6 := sk_ge (T := T) (p := e.1)
              have k7 := sk_le q2
              have hK2 : MKc T tc off o (if sk T e.1 < T.2 ∧ csg (T.1 (sk T e.1)) = true then bnd (cmpP T (sumP T 6) (sk T e.1) e.2) fun p4 e2 => bnd (rowL T 38 38 andV (unitP T 6) (T.2 + 1) p4 e2) fun p5 e3 => bnd (rowL T 124 124 orV (partG T (unitP T 6)) (T.2 + 1) p5 e3) fun p6 c => ned T p6 63 fun p7 => bnd (sumP T 6 p7) fun p8 e => .inr (p8, (some c, e)) else .inr (sk T e.1, (none, e.2))) s K := hK
              refine m_look hT (by omega) r5.1 r5.2.1 q2 fun s6 f6 e6 => ?_
              have r6 := RM_look r5 f6 e6
              have fm6 : fM s s6 := frN_t fm5 (frN_w f6 (by simp) (by simp))
              have own : (¬ (sk T e.1 < T.2 ∧ csg (T.1 (sk T e.1)) = true)) → (if (s6 57 11) = (-1) then (if (s6 57 17) = 0 then (if nI 121 = (s6 57 13) then K (upM (upM s6 57 17 1) 57 14 (e.2.2 (s 61))) else K s6) else K s6) else K s6) := by
                intro hn
                rw [if_neg hn] at hK2
                have := m_ends (s := s) (env := s 61) (cl := (none, e.2)) (x67 := nI 1) r6 (h13' fm6) (FS_f hF fm6) rfl (by rw [if_neg (by decide)]; rfl) (fM_L fm6) hK2
                rw [show (if nI 1 = 0 then K s6 else K (upM (upM s6 57 17 1) 57 14 (e.2.2 (s 61)))) = K (upM (upM s6 57 17 1) 57 14 (e.2.2 (s 61))) from if_neg (by decide)] at this
                exact this
              by_cases hlt2 : sk T e.1 < T.2
              · have hb2 := (hT.2 _ hlt2).2
                rw [show sg T (sk T e.1) = nI (T.1 (sk T e.1)) from if_pos hlt2, m_isSign (by omega) (by omega), ifb]
                by_cases hc : csg (T.1 (sk T e.1)) = true
                · rw [if_pos ⟨hlt2, hc⟩] at hK2
                  rw [if_pos hc]
                  have e616 : s6 61 = s 61 := fm6.1 61 (by simp) (by decide)
                  rw [← e616]
                  refine m_cond1 hT (D := 25) (k := 6) (by omega) U6 (unitP_G 6) (MR_D S6 (by omega)) (by omega) r6 k7 ?_
                  have hgr := cmpP_G (T := T) (k := 6) (p := sk T e.1) (p0 := sk T p2) (a := e.2) k7 (by omega) (by omega)
                  revert hK2 hgr
                  cases cmpP T (sumP T 6) (sk T e.1) e.2 with
                  | inl a =>
                    intro hK2 he v s7 _ f7 e7
                    rw [mb_takes (by omega) (f_m1 (show a ≤ 160 from Nat.le_trans he h160) e7), if_pos (show nI 0 = 0 from rfl)]
                    exact hK2 s7 (fM_L (frN_t fm6 f7)) e7
                  | inr a =>
                    intro hK2 ⟨w1, w2, w3, w4⟩
                    have hgr := rowL_G (T := T) (c1 := 38) (c2 := 38) TB_and (unitP_G 6) (p0 := sk T p2) (T.2 + 1) a.1 a.2 w2 (by omega) w3 w4
                    have hK3 : MKc T tc off o (bnd (rowL T 38 38 andV (unitP T 6) (T.2 + 1) a.1 a.2) fun p5 e3 => bnd (rowL T 124 124 orV (partG T (unitP T 6)) (T.2 + 1) p5 e3) fun p6 c => ned T p6 63 fun p7 => bnd (sumP T 6 p7) fun p8 e => .inr (p8, (some c, e))) s K := hK2
                    show MK T tc off 0 Pb (bnd (rowL T 38 38 andV (unitP T 6) (T.2 + 1) a.1 a.2) fun p5 e3 => rowL T 124 124 orV (partG T (unitP T 6)) (T.2 + 1) p5 e3) s6 _
                    revert hK3 hgr
                    cases rowL T 38 38 andV (unitP T 6) (T.2 + 1) a.1 a.2 with
                    | inl b =>
                      intro he hK3 v s7 _ f7 e7
                      rw [mb_takes (by omega) (f_m1 (show b ≤ 160 from Nat.le_trans he h160) e7), if_pos (show nI 0 = 0 from rfl)]
                      exact hK3 s7 (fM_L (frN_t fm6 f7)) e7
                    | inr b =>
                      intro ⟨u1, u2, u3, u4⟩ hK3
                      have hgr := rowL_G (T := T) (c1 := 124) (c2 := 124) TB_or (partG_G (unitP_G 6)) (p0 := sk T p2) (T.2 + 1) b.1 b.2 u2 (by omega) u3 u4
                      have hK4 : MKc T tc off o (bnd (rowL T 124 124 orV (partG T (unitP T 6)) (T.2 + 1) b.1 b.2) fun p6 c => ned T p6 63 fun p7 => bnd (sumP T 6 p7) fun p8 e => .inr (p8, (some c, e))) s K := hK3
                      show MK T tc off 0 Pb (rowL T 124 124 orV (partG T (unitP T 6)) (T.2 + 1) b.1 b.2) s6 _
                      revert hK4 hgr
                      cases rowL T 124 124 orV (partG T (unitP T 6)) (T.2 + 1) b.1 b.2 with
                      | inl c =>
                        intro he hK4 v s7 _ f7 e7
                        rw [mb_takes (by omega) (f_m1 (show c ≤ 160 from Nat.le_trans he h160) e7), if_pos (show nI 0 = 0 from rfl)]
                        exact hK4 s7 (fM_L (frN_t fm6 f7)) e7
                      | inr c =>
                        intro ⟨z1, z2, z3, z4⟩ hK4 s7 f7 r7
                        have fm7 := frN_t fm6 f7
                        exact m_then (s := s) hT (by omega) r7 z2 (h13' fm7) (FS_f hF fm7) (fM_L fm7) (by rw [e616]) hK4
                · rw [if_neg hc]
                  exact own fun z => hc z.2
              · rw [show sg T (sk T e.1) = m1 from if_neg hlt2, mb_isSign (by omega), if_pos (show nI 0 = 0 from rfl)]
                exact own fun z => hlt2 z.1
      · have er2 : ∀ f : Nat → Sum Nat (Nat × Cl), ned T (sk T p + 1) 58 f = .inl (sk T (sk T p + 1)) := fun _ => if_neg (by rw [hx2]; decide)
        rw [er2] at hK
        rw [if_pos (show nI 0 = 0 from rfl)]
        exact hK s3 (fM_L (frN_t f2 f3)) e3
    · rw [decide_eq_false h121, if_neg (by decide)]
      exact nol (decide_eq_false fun z => h121 z.2)
  · rw [show sg T (sk T p) = m1 from if_neg hlt, mb_label (by omega), if_pos (show nI 0 = 0 from rfl)]
    exact nol (decide_eq_false fun z => hlt z.1)
def fvo (env : EnvL) (o : Option Int32) (cs : List Cl) : Option Int32 := cs.foldl (fun o c => orO o (clV env c)) o
theorem fvo_some (env : EnvL) (v : Int32) : ∀ cs, fvo env (some v) cs = some v
  | [] => rfl
  | _ :: r => fvo_some env v r
theorem lawV_e (env : EnvL) : ∀ cs, lawV env cs = match fvo env none cs with
    | none => nI 0
    | some v => v
  | [] => rfl
  | (none, e) :: r => by
    show e.2 env = match fvo env (some (e.2 env)) r with | none => nI 0 | some v => v
    rw [fvo_some]
  | (some c, e) :: r => by
    show (if c.2 env = nI 0 then lawV env r else e.2 env) = match fvo env (if c.2 env = nI 0 then none else some (e.2 env)) r with | none => nI 0 | some v => v
    by_cases h : c.2 env = nI 0
    · rw [if_pos h, if_pos h]; exact lawV_e env r
    · rw [if_neg h, if_neg h, fvo_some]
def MKl (r : Sum Nat (List Cl)) (s : Mem) (K : Mem → Prop) : Prop := match r with
  | .inl f => ∀ s', frN [] JL s s' → s' 57 11 = nI f → K s'
  | .inr cs => ∀ s', frN [] JL s s' → s' 57 11 = m1 → s' 57 14 = lawV (s 61) cs → K s'
theorem m_goThrough_l (hT : TxOk T) {K : Mem → Prop} {d : Nat} (hd : 28 ≤ d) {s : Mem} : ∀ (f p : Nat) (cs : List Cl) (v1 v2 v3 : Value) (t : Mem), T.2 - p < f → p ≤ T.2 → RM T tc off 0 p t → t 57 13 = nI 121 → FS (fvo (s 61) none cs) t → frN [] JL s t → MKl (lawL T f p cs) s K →
    wV (wp d) m_M_clause [.ref 57] t (fun s29 => RnV d m_M_goThrough K 32 [.ref 57, v1, v2, v3] [] s29) := by
  have h160 := hT.1
  intro f
  induction f with
  | zero => intro p cs v1 v2 v3 t h; omega
  | succ f ih =>
    intro p cs v1 v2 v3 t hf hp hr h13 hF hfr hK
    refine m_clause hT hd hr hp h13 hF ?_
    have hgr := clauP_G (T := T) hp
    have hK' : MKl (match clauP T p with
      | .inl e => .inl e
      | .inr x => if isS T (sk T x.1) 59 = true then lawL T f (sk T x.1 + 1) (cs ++ [x.2]) else if sk T x.1 < T.2 then .inl (sk T x.1) else .inr (cs ++ [x.2])) s K := hK
    revert hK' hgr
    cases clauP T p with
    | inl e =>
      intro he hK' s1 f1 e1
      have ne := f_m1 (show e ≤ 160 from Nat.le_trans he h160) e1
      rw [r_M_goThrough_32, if_neg (show ¬ s1 57 11 = -1 from ne), if_neg (show ¬ s1 57 11 = -1 from ne)]
      exact hK' s1 (frN_t hfr (frN_w f1 (by simp) (by simp))) e1
    | inr x =>
      intro ⟨q1, q2, _, _, _⟩ hK' s1 f1 r1 F1
      have hK2 : MKl (if isS T (sk T x.1) 59 = true then lawL T f (sk T x.1 + 1) (cs ++ [x.2]) else if sk T x.1 < T.2 then .inl (sk T x.1) else .inr (cs ++ [x.2])) s K := hK'
      have k1 := sk_ge (T := T) (p := x.1)
      have k2 := sk_le q2
      have e61 : t 61 = s 61 := hfr.1 61 (by simp) (by decide)
      rw [e61] at F1
      have F1' : FS (fvo (s 61) none (cs ++ [x.2])) s1 := by
        unfold fvo
        rw [List.foldl_append]
        exact F1
      rw [r_M_goThrough_32, if_pos (show s1 57 11 = -1 from r1.2.2.1)]
      refine m_look hT (by omega) r1.1 r1.2.1 q2 fun s2 f2 e2 => ?_
      have r2 := RM_look r1 f2 e2
      have fr2 : frN [] JL s s2 := frN_t hfr (frN_t (frN_w f1 (by simp) (by simp)) (frN_w f2 (by simp) (by simp)))
      have F2 := FS_f F1' (frN_w f2 (by simp) (by simp))
      by_cases hx : isS T (sk T x.1) 59 = true
      · have hlt := (isS_lt hx).1
        rw [if_pos hx] at hK2
        rw [if_pos (show sg T (sk T x.1) = 59 from sgp hT (by decide) hx)]
        refine ih (sk T x.1 + 1) (cs ++ [x.2]) _ _ _ _ (by omega) (by omega) (RM_up r2) ?_ (FS_f F2 (frN_v (by simp))) (frN_t fr2 (frN_v (by simp))) hK2
        rw [up_pl (by decide), f2.2 13 (by decide), f1.2 13 (by decide)]
        exact h13
      · rw [if_neg hx] at hK2
        rw [if_neg (show ¬ sg T (sk T x.1) = 59 from sgn hT (by decide) hx), if_pos (show s2 57 11 = -1 from r2.2.2.1)]
        refine m_look hT (by omega) r2.1 r2.2.1 k2 fun s3 f3 e3 => ?_
        rw [sk_sk] at e3 ⊢
        have fr3 : frN [] JL s s3 := frN_t fr2 (frN_w f3 (by simp) (by simp))
        by_cases hlt : sk T x.1 < T.2
        · rw [if_pos hlt] at hK2
          have hb := (hT.2 _ hlt).2
          rw [show sg T (sk T x.1) = nI (T.1 (sk T x.1)) from if_pos hlt, if_neg (show ¬ nI (T.1 (sk T x.1)) = -1 from fun z => by rw [n_m1, m1_eq (by omega)] at z; exact z), m_fails (by omega) (by rw [f3.2 11 (by decide)]; exact r2.2.2.1)]
          exact hK2 _ (frN_t fr3 (frN_v (by simp))) (by rw [up_at, e3])
        · rw [if_neg hlt] at hK2
          rw [show sg T (sk T x.1) = m1 from if_neg hlt, if_pos (show m1 = -1 from rfl)]
          refine hK2 s3 fr3 (by rw [f3.2 11 (by decide)]; exact r2.2.2.1) ?_
          have F3 := FS_f F2 (t := s3) (frN_w f3 (by simp) (by simp))
          rw [lawV_e]
          cases h : fvo (s 61) none (cs ++ [x.2]) with
          | none => rw [h] at F3; exact F3.2
          | some v => rw [h] at F3; exact F3.2
theorem m_goThrough (hT : TxOk T) {K : Mem → Prop} (hd : 29 ≤ d) (hc : (tc = 58 ∧ off = 0) ∨ (tc = 59 ∧ ∃ i : Nat, i < 4 ∧ off = 160 * i)) (hb : ∀ j, j < T.2 → s tc (off + j) = byI (T.1 j)) (hK : MKl (lawP T) s K) :
    wV (wp d) m_M_goThrough [.ref 57, .ref tc, .int (nI off), .int (nI T.2)] s K := by
  have h160 := hT.1
  have htc : tc < 2000 ∧ tc ≠ 57 := by rcases hc with ⟨rfl, _⟩ | ⟨rfl, _⟩ <;> exact ⟨by decide, by decide⟩
  obtain ⟨d, rfl⟩ : ∃ e, d = e + 1 := ⟨d - 1, by omega⟩
  rw [e_M_goThrough]
  obtain ⟨d, rfl⟩ : ∃ e, d = e + 1 := ⟨d - 1, by omega⟩
  rw [e_M_opens, if_pos htc.1]
  have fr : frN [] JL s (upM (upM (upM (upM (upM (upM (upM (upM (upM s 57 5 (Int32.ofNat (tc + 1))) 57 8 (nI off)) 57 9 (nI T.2)) 57 10 0) 57 11 (-1)) 57 13 121) 57 12 0) 57 17 0) 57 14 0) :=
    frN_t (frN_v (by simp)) (frN_t (frN_v (by simp)) (frN_t (frN_v (by simp)) (frN_t (frN_v (by simp)) (frN_t (frN_v (by simp)) (frN_t (frN_v (by simp)) (frN_t (frN_v (by simp)) (frN_t (frN_v (by simp)) (frN_v (by simp)))))))))
  refine m_goThrough_l hT (by omega) (T.2 + 1) 0 [] _ _ _ _ (by omega) (by omega) ⟨⟨hc, ?_, ?_, ?_, ?_⟩, ?_, ?_, ?_⟩ ?_ ⟨?_, up_at⟩ fr hK
  · simp [upM, n_of]
  · simp [upM]
  · simp [upM]
  · intro j hj
    rw [fr.1 tc (by simp) htc.2]; exact hb j hj
  · simp [upM]; rfl
  · simp [upM]; rfl
  · simp [upM]; rfl
  · simp [upM]; rfl
  · simp [upM]; rfl
end
