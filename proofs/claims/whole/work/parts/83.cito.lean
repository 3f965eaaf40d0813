/-! the reference reads a city's text: clauses, the whole -/
section
variable {d : Nat} {T : Txt} {s : Mem}
theorem DM_10 {r : RawC} (h : DM r s) {x : Int32} : DM r (upM s 57 10 x) := by
  unfold DM at *
  rw [up_pl (by decide), up_pl (by decide), up_pl (by decide), up_ce (show 64 ≠ 57 by decide), up_ce (show 63 ≠ 57 by decide), up_ce (show 66 ≠ 57 by decide), up_ce (show 67 ≠ 57 by decide)]
  exact h
theorem DM_f {t : Mem} {r : RawC} (h : DM r s) (hf : frN [] [10] s t) : DM r t := by
  unfold DM at *
  rw [hf.2 27 (by decide), hf.2 28 (by decide), hf.2 29 (by decide), hf.1 64 (by decide) (by decide), hf.1 63 (by decide) (by decide), hf.1 66 (by decide) (by decide), hf.1 67 (by decide) (by decide)]
  exact h
theorem m_readClause (hT : TxOk T) {K : Mem → Prop} (hd : 7 ≤ d) {r : RawC} {p : Nat} (hg : RCt T p s) (hp : p ≤ T.2) (hD : DM r s) (hr : RawOk r) (hK : CKm T (clauC T p r) s K) : wV (wp d) m_M_readClause [.ref 57] s K := by
  have h160 := hT.1
  obtain ⟨d, rfl⟩ : ∃ e, d = e + 1 := ⟨d - 1, by omega⟩
  have k1 := sk_ge (T := T) (p := p)
  have k2 := sk_le hp
  rw [e_M_readClause]
  refine mR_look hT (by omega) hg hp fun s1 f1 g1 => ?_
  have D1 : DM r s1 := DM_f hD f1
  have F1 : fR s s1 := frN_w f1 (by simp) (by simp)
  have key : ∀ x, x < 256 → (sg T (sk T p) = nI x) = (isS T (sk T p) x = true) := fun x hx => sg_e hT hx
  have ref : clauC T p r = .inl (sk T p) → wI (wp d) m_M_fails [.ref 57] s1 (fun x58 s58 => K s58) := by
    intro e
    rw [e] at hK
    exact mR_fails (by omega) g1 fun s2 f2 g2 => hK s2 (frN_t F1 (frN_w f2 (by simp) (by simp))) g2
  have r1 := hr.1
  have r3 := hr.2.2.1
  have g2 : RCt T (sk T p + 1) (upM s1 57 10 (s1 57 10 + 1)) := RCt_10 g1 (by rw [g1.2.1]; exact nI_add _ 1)
  have D2 : DM r (upM s1 57 10 (s1 57 10 + 1)) := DM_10 D1
  have F2 : fR s (upM s1 57 10 (s1 57 10 + 1)) := frN_t F1 (frN_v (by simp))
  by_cases z1 : isS T (sk T p) 108 = true
  · have e1 := (isS_lt z1).2
    have y1 : sg T (sk T p) = 108 := (key 108 (by decide)).mpr z1
    rw [if_pos y1]
    by_cases hR : rR r < 4
    · rw [if_pos (show s1 57 27 < 4 by rw [D1.1, show (4 : Int32) = nI 4 from rfl, nI_ltI (by omega) (by omega)]; exact hR), if_pos y1]
      refine m_readRow hT (by omega) g2 (by have := (isS_lt z1).1; omega) D2 hr hR ?_
      rw [show clauC T p r = bnd (rowF T 5 (sk T p + 1) 0 (fun _ => false)) fun p' x => .inr (p', addRow r x) from if_pos ⟨z1, hR⟩] at hK
      exact CKm_w hK F2
    · rw [if_neg (show ¬ s1 57 27 < 4 by rw [D1.1, show (4 : Int32) = nI 4 from rfl, nI_ltI (by omega) (by omega)]; exact hR)]
      have n2 : ¬ isS T (sk T p) 115 = true := fun z => by have := (isS_lt z).2; omega
      have n3 : ¬ isS T (sk T p) 100 = true := fun z => by have := (isS_lt z).2; omega
      rw [if_neg (show ¬ sg T (sk T p) = 115 from fun z => n2 ((key 115 (by decide)).mp z)), if_neg (show ¬ sg T (sk T p) = 100 from fun z => n3 ((key 100 (by decide)).mp z))]
      exact ref ((if_neg (fun z => hR z.2)).trans ((if_neg (fun z => n2 z.1)).trans (if_neg (fun z => n3 z.1))))
  have y1 : ¬ sg T (sk T p) = 108 := fun z => z1 ((key 108 (by decide)).mp z)
  rw [if_neg y1]
  by_cases z2 : isS T (sk T p) 115 = true
  · have e1 := (isS_lt z2).2
    have n3 : ¬ isS T (sk T p) 100 = true := fun z => by have := (isS_lt z).2; omega
    have y3 : ¬ sg T (sk T p) = 100 := fun z => n3 ((key 100 (by decide)).mp z)
    rw [if_pos (show sg T (sk T p) = 115 from (key 115 (by decide)).mpr z2)]
    by_cases hS : rS r < 6
    · rw [if_pos (show s1 57 28 < 6 by rw [D1.2.1, q6, nI_ltI (by omega) (by omega)]; exact hS), if_neg y1, if_neg y3]
      rw [show clauC T p r = bnd (itemsF T true 6 (sk T p + 1) (fun _ => false) itU) fun p' v => .inr (p', addSrc r v) from (if_neg (fun z => z1 z.1)).trans (if_pos ⟨z2, hS⟩)] at hK
      obtain ⟨d0, d2, d3, dr, di, dd⟩ := D2
      have e28 : s1 57 28 = nI (rS r) := D1.2.1
      rw [show 6 * s1 57 28 = nI (6 * rS r) by rw [e28, q6, pk_mul], show (0 : Int32) = nI 0 from rfl]
      have hq : sk T p + 1 ≤ T.2 := by have := (isS_lt z2).1; omega
      -- the usual items first
      have lp : ∀ (n i : Nat) (u : Mem) (v1 v2 : Value), i + n = 6 → frN [66] [] (upM s1 57 10 (s1 57 10 + 1)) u → (∀ j, j < i → u 66 (6 * rS r + j) = nI (itU j)) → (∀ k, k < 6 * rS r → u 66 k = upM s1 57 10 (s1 57 10 + 1) 66 k) → RnV d m_M_readClause K 120 [.ref 57, v1, v2, .int (nI (6 * rS r)), .int (nI i)] [] u := by
        intro n
        induction n with
        | zero =>
          intro i u v1 v2 hi hf hu ho
          obtain rfl : i = 6 := by omega
          rw [r_M_readClause_120, if_neg (show ¬ nI 6 < 6 by decide)]
          have eu28 : u 57 28 = nI (rS r) := by rw [hf.2 28 (by decide), up_pl (by decide)]; exact e28
          have fu : fR (upM s1 57 10 (s1 57 10 + 1)) (upM u 57 28 (u 57 28 + 1)) := frN_t (frN_w hf (by simp) (by simp)) (frN_v (by simp))
          have g3 : RCt T (sk T p + 1) (upM u 57 28 (u 57 28 + 1)) := by
            refine ⟨RdS_C g2.1 fu, ?_, ?_⟩
            · rw [up_pl (by decide), hf.2 10 (by decide)]; exact g2.2.1
            · rw [up_pl (by decide), hf.2 11 (by decide)]; exact g2.2.2
          refine m_readItems (src := true) (b := 6 * rS r) (v0 := itU) hT (by omega) g3 hq (by show 6 * rS r + 5 < 36; omega) (fun j _ hj => ?_) ?_
          · show upM u 57 28 _ 66 (6 * rS r + (j - 0)) = _
            rw [up_ce (by decide)]
            exact hu j (by have : itZ true = 5 := rfl; omega)
          · show IKm T (6 * rS r) true (itemsF T true 6 (sk T p + 1) (fun _ => false) itU) _ _
            revert hK
            cases itemsF T true 6 (sk T p + 1) (fun _ => false) itU with
            | inl f =>
              intro hK s3 f3 g4
              exact hK s3 (frN_t F2 (frN_t fu (frN_w f3 (by simp [tg]) (by simp)))) g4
            | inr x =>
              intro hK s3 q f3 g4 hq2 hsk hv hout
              have iA : itA true = 0 := rfl
              have iZ : itZ true = 5 := rfl
              have itg : tg true = 66 := rfl
              rw [iA, iZ, itg] at hv hout
              rw [itg] at f3
              refine hK s3 q (frN_t F2 (frN_t fu (frN_w f3 (by simp) (by simp)))) g4 hq2 hsk ⟨?_, ?_, ?_, fun k hk => ?_, fun k j hk hj => ?_, ?_⟩
              · rw [f3.2 27 (by decide), up_pl (by decide), hf.2 27 (by decide)]; exact d0
              · rw [f3.2 28 (by decide), up_at, eu28]; exact nI_add _ 1
              · rw [f3.2 29 (by decide), up_pl (by decide), hf.2 29 (by decide)]; exact d3
              · rw [f3.1 64 (by decide) (by decide), f3.1 63 (by decide) (by decide), up_ce (by decide), up_ce (by decide), hf.1 64 (by decide) (by decide), hf.1 63 (by decide) (by decide)]; exact dr k hk
              · have hk' : k < rS r + 1 := hk
                show _ = nI ((if k = rS r then x.2 else rI r k) j)
                by_cases e : k = rS r
                · rw [if_pos e, e]
                  have := hv j (by omega) (by omega)
                  rw [Nat.sub_zero] at this
                  exact this
                · rw [if_neg e, hout _ (by omega), up_ce (by decide), ho _ (by omega)]; exact di k j (by omega) hj
              · rw [f3.1 67 (by decide) (by decide), up_ce (by decide), hf.1 67 (by decide) (by decide)]; exact dd
        | succ n ih =>
          intro i u v1 v2 hi hf hu ho
          have go : ∀ x : Int32, x = nI (itU i) → RnV d m_M_readClause K 120 [.ref 57, uV, uV, .int (nI (6 * rS r)), .int (nI (i + 1))] [] (upM u 66 (6 * rS r + i) x) := by
            intro x hx
            refine ih (i + 1) _ _ _ (by omega) (frN_t hf (frN_u (by simp) (by decide))) (fun j hj => ?_) (fun k hk => ?_)
            · by_cases e : j = i
              · rw [e, up_at]; exact hx
              · rw [up_pl (by omega)]; exact hu j (by omega)
            · rw [up_pl (by omega)]; exact ho k hk
          rw [r_M_readClause_120]
          by_cases e5 : i = 5
          · simp (disch := omega) only [↓n_m1, ↓n_hid, q0, q1, q2, q3, q4, q5, q6, q7, q8, q9, q10, q11, q12, q13, q14, q15, q16, q17, q18, q19, q20, q21, q22, q23, q24, q25, q26, q27, q28, q29, q30, q31, q32, q33, q34, q35, q36, q37, q38, q39, q40, q41, q42, q43, q44, q45, q46, q47, q48, q49, q50, q51, q52, q53, q54, q55, q56, q57, q58, q59, q61, q62, q63, q64, q66, q67, q68, q69, q70, q71, q91, q93, q99, q100, q102, q104, q107, q108, q112, q114, q115, q119, q121, q124, q160, q200, q255, q640, q999, q1000, q2000, q4096, n_of, nI_ltI, nI_leI, nI_eq, nI_clamp, nI_add, pk_mul, n_sub, m1_eq, m1_eq2, m1_lt, m1_lt2, gdN, Nat.not_lt_zero, false_or, if_true, if_false, if_pos, if_neg, cond_true, cond_false, beq_self, and_self, true_and, and_true, not_true_eq_false, not_false_eq_true, ne_eq]
            exact go _ (by rw [e5]; rfl)
          · simp (disch := omega) only [↓n_m1, ↓n_hid, q0, q1, q2, q3, q4, q5, q6, q7, q8, q9, q10, q11, q12, q13, q14, q15, q16, q17, q18, q19, q20, q21, q22, q23, q24, q25, q26, q27, q28, q29, q30, q31, q32, q33, q34, q35, q36, q37, q38, q39, q40, q41, q42, q43, q44, q45, q46, q47, q48, q49, q50, q51, q52, q53, q54, q55, q56, q57, q58, q59, q61, q62, q63, q64, q66, q67, q68, q69, q70, q71, q91, q93, q99, q100, q102, q104, q107, q108, q112, q114, q115, q119, q121, q124, q160, q200, q255, q640, q999, q1000, q2000, q4096, n_of, nI_ltI, nI_leI, nI_eq, nI_clamp, nI_add, pk_mul, n_sub, m1_eq, m1_eq2, m1_lt, m1_lt2, gdN, Nat.not_lt_zero, false_or, if_true, if_false, if_pos, if_neg, cond_true, cond_false, beq_self, and_self, true_and, and_true, not_true_eq_false, not_false_eq_true, ne_eq]
            exact go _ (by rw [show itU i = 0 by unfold itU; rw [if_neg e5, if_neg (by omega)]])
      exact lp 6 0 _ _ _ rfl frN_r (fun j hj => absurd hj (Nat.not_lt_zero j)) (fun _ _ => rfl)
    · rw [if_neg (show ¬ s1 57 28 < 6 by rw [D1.2.1, q6, nI_ltI (by omega) (by omega)]; exact hS), if_neg y3]
      exact ref ((if_neg (fun z => z1 z.1)).trans ((if_neg (fun z => hS z.2)).trans (if_neg (fun z => n3 z.1))))
  rw [if_neg (show ¬ sg T (sk T p) = 115 from fun z => z2 ((key 115 (by decide)).mp z))]
  by_cases z3 : isS T (sk T p) 100 = true
  · have y3 : sg T (sk T p) = 100 := (key 100 (by decide)).mpr z3
    rw [if_pos y3]
    by_cases hH : rH r = false
    · rw [if_pos (show s1 57 29 = 0 by rw [D1.2.2.1, hH]; rfl), if_neg y1, if_pos y3]
      rw [show clauC T p r = bnd (itemsF T false 1 (sk T p + 1) (fun _ => false) (fun _ => rD r)) fun p' v => .inr (p', addDul r v) from (if_neg (fun z => z1 z.1)).trans ((if_neg (fun z => z2 z.1)).trans (if_pos ⟨z3, hH⟩))] at hK
      obtain ⟨d0, d2, d3, dr, di, dd⟩ := D2
      have fu : fR (upM s1 57 10 (s1 57 10 + 1)) (upM (upM s1 57 10 (s1 57 10 + 1)) 57 29 1) := frN_v (by simp)
      have g3 : RCt T (sk T p + 1) (upM (upM s1 57 10 (s1 57 10 + 1)) 57 29 1) := by
        refine ⟨RdS_C g2.1 fu, ?_, ?_⟩
        · rw [up_pl (by decide)]; exact g2.2.1
        · rw [up_pl (by decide)]; exact g2.2.2
      refine m_readItems (src := false) (b := 0) (v0 := fun _ => rD r) hT (by omega) g3 (by have := (isS_lt z3).1; omega) (by decide) (fun j h1 h2 => ?_) ?_
      · have a : itA false = 6 := rfl
        have b : itZ false = 6 := rfl
        have : j = 6 := by omega
        subst this
        show upM _ 57 29 1 67 (0 + (6 - 6)) = _
        rw [up_ce (by decide)]
        exact dd
      · show IKm T 0 false (itemsF T false 1 (sk T p + 1) (fun _ => false) (fun _ => rD r)) _ _
        revert hK
        cases itemsF T false 1 (sk T p + 1) (fun _ => false) (fun _ => rD r) with
        | inl f =>
          intro hK s3 f3 g4
          exact hK s3 (frN_t F2 (frN_t fu (frN_w f3 (by simp [tg]) (by simp)))) g4
        | inr x =>
          intro hK s3 q f3 g4 hq2 hsk hv hout
          have itg : tg false = 67 := rfl
          rw [itg] at hv f3
          refine hK s3 q (frN_t F2 (frN_t fu (frN_w f3 (by simp) (by simp)))) g4 hq2 hsk ⟨?_, ?_, ?_, fun k hk => ?_, fun k j hk hj => ?_, ?_⟩
          · rw [f3.2 27 (by decide), up_pl (by decide)]; exact d0
          · rw [f3.2 28 (by decide), up_pl (by decide)]; exact d2
          · rw [f3.2 29 (by decide), up_at]; rfl
          · rw [f3.1 64 (by decide) (by decide), f3.1 63 (by decide) (by decide), up_ce (by decide), up_ce (by decide)]; exact dr k hk
          · rw [f3.1 66 (by decide) (by decide), up_ce (by decide)]; exact di k j hk hj
          · exact hv 6 (by decide) (by decide)
    · rw [if_neg (show ¬ s1 57 29 = 0 by rw [D1.2.2.1]; cases h : rH r; exact absurd h hH; decide)]
      exact ref ((if_neg (fun z => z1 z.1)).trans ((if_neg (fun z => z2 z.1)).trans (if_neg (fun z => hH z.2))))
  rw [if_neg (show ¬ sg T (sk T p) = 100 from fun z => z3 ((key 100 (by decide)).mp z))]
  exact ref ((if_neg (fun z => z1 z.1)).trans ((if_neg (fun z => z2 z.1)).trans (if_neg (fun z => z3 z.1))))
theorem m_isWhole {K : Int32 → Mem → Prop} (hd : 2 ≤ d) {r : RawC} (hD : DM r s) (hr : RawOk r) : wI (wp d) m_M_isWhole [.ref 57] s K = K (b01 (whoC r)) s := by
  obtain ⟨d0, d2, d3, dr, di, dd⟩ := hD
  obtain ⟨r1, r2, r3, r4, r5⟩ := hr
  obtain ⟨d, rfl⟩ : ∃ e, d = e + 1 := ⟨d - 1, by omega⟩
  rw [e_M_isWhole, d0, d2]
  by_cases z : rR r = 0
  · rw [if_pos (show nI (rR r) = 0 by rw [z]; rfl), show whoC r = false from decide_eq_false fun h => by omega]; rfl
  rw [if_neg (show ¬ nI (rR r) = 0 by rw [q0, nI_eq (by omega) (by omega)]; exact z)]
  by_cases zs : rS r = 0
  · rw [if_pos (show nI (rS r) = 0 by rw [zs]; rfl), show whoC r = false from decide_eq_false fun h => by omega]; rfl
  rw [if_neg (show ¬ nI (rS r) = 0 by rw [q0, nI_eq (by omega) (by omega)]; exact zs)]
  have hW := r2 0 (by omega)
  have lS : (∀ k, k < rR r → rW r k = rW r 0) → ∀ (n i : Nat) (v1 v2 : Value), i + n = rS r → (∀ k, k < i → rI r k 1 < rR r ∧ rI r k 2 < rW r 0 ∧ rT r (rI r k 1) (rI r k 2) = true) → RnI d m_M_isWhole K 51 [.ref 57, .int (nI i), v1, v2] [] s = K (b01 (whoC r)) s := by
    intro hw n
    induction n with
    | zero =>
      intro i v1 v2 hi hs
      rw [r_M_isWhole_51, d2, if_neg (show ¬ nI i < nI (rS r) by rw [nI_ltI (by omega) (by omega)]; omega), show whoC r = true from decide_eq_true ⟨by omega, by omega, hw, fun k hk => hs k (by omega)⟩]
      rfl
    | succ n ih =>
      intro i v1 v2 hi hs
      have i1 := r4 i 1 (by omega) (by decide)
      have i2 := r4 i 2 (by omega) (by decide)
      have hi1 : itHi 1 = 3 := rfl
      have hi2 : itHi 2 = 4 := rfl
      have bad : ¬ (rI r i 1 < rR r ∧ rI r i 2 < rW r 0 ∧ rT r (rI r i 1) (rI r i 2) = true) → K 0 s = K (b01 (whoC r)) s := by
        intro h
        rw [show whoC r = false from decide_eq_false fun h2 => h (h2.2.2.2 i (by omega))]; rfl
      rw [r_M_isWhole_51, d2, d0]
      simp (disch := omega) only [↓n_m1, ↓n_hid, q0, q1, q2, q3, q4, q5, q6, q7, q8, q9, q10, q11, q12, q13, q14, q15, q16, q17, q18, q19, q20, q21, q22, q23, q24, q25, q26, q27, q28, q29, q30, q31, q32, q33, q34, q35, q36, q37, q38, q39, q40, q41, q42, q43, q44, q45, q46, q47, q48, q49, q50, q51, q52, q53, q54, q55, q56, q57, q58, q59, q61, q62, q63, q64, q66, q67, q68, q69, q70, q71, q91, q93, q99, q100, q102, q104, q107, q108, q112, q114, q115, q119, q121, q124, q160, q200, q255, q640, q999, q1000, q2000, q4096, n_of, nI_ltI, nI_leI, nI_eq, nI_clamp, nI_add, pk_mul, n_sub, m1_eq, m1_eq2, m1_lt, m1_lt2, gdN, Nat.not_lt_zero, false_or, if_true, if_false, if_pos, if_neg, cond_true, cond_false, beq_self, and_self, true_and, and_true, not_true_eq_false, not_false_eq_true, ne_eq, di i 1 (by omega) (by decide), di i 2 (by omega) (by decide), (dr 0 (by omega)).1]
      by_cases c1 : rI r i 1 < rR r
      · by_cases c2 : rI r i 2 < rW r 0
        · rw [if_pos c1, if_pos c2]
          have := (dr (rI r i 1) c1).2 (rI r i 2) (by rw [hw _ c1]; exact c2)
          simp (disch := omega) only [↓n_m1, ↓n_hid, q0, q1, q2, q3, q4, q5, q6, q7, q8, q9, q10, q11, q12, q13, q14, q15, q16, q17, q18, q19, q20, q21, q22, q23, q24, q25, q26, q27, q28, q29, q30, q31, q32, q33, q34, q35, q36, q37, q38, q39, q40, q41, q42, q43, q44, q45, q46, q47, q48, q49, q50, q51, q52, q53, q54, q55, q56, q57, q58, q59, q61, q62, q63, q64, q66, q67, q68, q69, q70, q71, q91, q93, q99, q100, q102, q104, q107, q108, q112, q114, q115, q119, q121, q124, q160, q200, q255, q640, q999, q1000, q2000, q4096, n_of, nI_ltI, nI_leI, nI_eq, nI_clamp, nI_add, pk_mul, n_sub, m1_eq, m1_eq2, m1_lt, m1_lt2, gdN, Nat.not_lt_zero, false_or, if_true, if_false, if_pos, if_neg, cond_true, cond_false, beq_self, and_self, true_and, and_true, not_true_eq_false, not_false_eq_true, ne_eq, this, b01_0]
          by_cases c3 : rT r (rI r i 1) (rI r i 2) = true
          · rw [if_neg (by rw [c3]; decide)]
            refine ih (i + 1) _ _ (by omega) fun k hk => ?_
            by_cases e : k = i
            · rw [e]; exact ⟨c1, c2, c3⟩
            · exact hs k (by omega)
          · rw [if_pos (by cases h : rT r (rI r i 1) (rI r i 2); rfl; exact absurd h c3)]
            exact bad fun h => c3 h.2.2
        · rw [if_pos c1, if_neg c2]
          exact bad fun h => c2 h.2.1
      · rw [if_neg c1]
        exact bad fun h => c1 h.1
  have lR : ∀ (n i : Nat) (v1 v2 : Value), i + n = rR r → 1 ≤ i → (∀ k, k < i → rW r k = rW r 0) → RnI d m_M_isWhole K 18 [.ref 57, .int (nI i), v1, v2] [] s = K (b01 (whoC r)) s := by
    intro n
    induction n with
    | zero =>
      intro i v1 v2 hi h1 hw
      obtain rfl : i = rR r := by omega
      rw [r_M_isWhole_18, d0, if_neg (show ¬ nI (rR r) < nI (rR r) by rw [nI_ltI (by omega) (by omega)]; omega)]
      exact lS hw (rS r) 0 _ _ (by omega) (fun k hk => absurd hk (Nat.not_lt_zero k))
    | succ n ih =>
      intro i v1 v2 hi h1 hw
      have hWi := r2 i (by omega)
      rw [r_M_isWhole_18, d0]
      simp (disch := omega) only [↓n_m1, ↓n_hid, q0, q1, q2, q3, q4, q5, q6, q7, q8, q9, q10, q11, q12, q13, q14, q15, q16, q17, q18, q19, q20, q21, q22, q23, q24, q25, q26, q27, q28, q29, q30, q31, q32, q33, q34, q35, q36, q37, q38, q39, q40, q41, q42, q43, q44, q45, q46, q47, q48, q49, q50, q51, q52, q53, q54, q55, q56, q57, q58, q59, q61, q62, q63, q64, q66, q67, q68, q69, q70, q71, q91, q93, q99, q100, q102, q104, q107, q108, q112, q114, q115, q119, q121, q124, q160, q200, q255, q640, q999, q1000, q2000, q4096, n_of, nI_ltI, nI_leI, nI_eq, nI_clamp, nI_add, pk_mul, n_sub, m1_eq, m1_eq2, m1_lt, m1_lt2, gdN, Nat.not_lt_zero, false_or, if_true, if_false, if_pos, if_neg, cond_true, cond_false, beq_self, and_self, true_and, and_true, not_true_eq_false, not_false_eq_true, ne_eq, (dr 0 (by omega)).1, (dr i (by omega)).1]
      by_cases e : rW r i = rW r 0
      · rw [if_pos e]
        refine ih (i + 1) _ _ (by omega) (by omega) fun k hk => ?_
        by_cases ek : k = i
        · rw [ek]; exact e
        · exact hw k (by omega)
      · rw [if_neg e, show whoC r = false from decide_eq_false fun h => e (h.2.2.1 i (by omega))]; rfl
  exact lR (rR r - 1) 1 _ _ (by omega) (by omega) (fun k hk => by rw [show k = 0 by omega])
abbrev fQ (s t : Mem) : Prop := frN [63, 64, 66, 67] [5, 8, 9, 10, 11, 27, 28, 29] s t
def CTm (T : Txt) (r : Sum Nat RawC) (s : Mem) (K : Mem → Prop) : Prop := match r with
  | .inl f => ∀ s', fQ s s' → s' 57 11 = nI f → K s'
  | .inr x => ∀ s', fQ s s' → s' 57 11 = m1 → DM x s' → RawOk x → whoC x = true → K s'
theorem m_readCity_l (hT : TxOk T) (hd : 8 ≤ d) {K : Mem → Prop} : ∀ (f p : Nat) (r : RawC) (t : Mem), T.2 - p < f → p ≤ T.2 → RCt T p t → DM r t → RawOk r → fQ s t → CTm T (citL T f p r) s K → RnV d m_M_readCity K 58 [.ref 57, .int (nI 1)] [] t := by
  have h160 := hT.1
  intro f
  induction f with
  | zero => intro p r t h; omega
  | succ f ih =>
    intro p r t hf hp hg hD hr hfr hK
    rw [r_M_readCity_58, if_neg (show ¬ nI 1 = 0 by decide), if_pos (show t 57 11 = -1 from hg.2.2)]
    refine m_readClause hT (by omega) hg hp hD hr ?_
    have hgr := clauC_G (T := T) hp hr
    have hK' : CTm T (match clauC T p r with
      | .inl e => .inl e
      | .inr x => if isS T (sk T x.1) 59 = true then citL T f (sk T x.1 + 1) x.2 else if sk T x.1 < T.2 then .inl (sk T x.1) else if whoC x.2 = true then .inr x.2 else .inl T.2) s K := hK
    revert hK' hgr
    cases clauC T p r with
    | inl e =>
      intro he hK' s1 f1 g1
      have he' : e ≤ T.2 := he
      have n1 : ¬ s1 57 11 = -1 := fun z => by rw [g1, n_m1, m1_eq (by omega)] at z; exact z
      rw [if_neg n1, r_M_readCity_58, if_pos (show (0 : Int32) = 0 from rfl), if_neg n1]
      exact hK' s1 (frN_t hfr (frN_w f1 (fun _ z => z) (by simp))) g1
    | inr x =>
      intro ⟨q1, q2, q3, q4⟩ hK' s1 p1 f1 g1 hp1 hsk D1
      have hK2 : CTm T (if isS T (sk T x.1) 59 = true then citL T f (sk T x.1 + 1) x.2 else if sk T x.1 < T.2 then .inl (sk T x.1) else if whoC x.2 = true then .inr x.2 else .inl T.2) s K := hK'
      have k1 := sk_ge (T := T) (p := x.1)
      have k2 := sk_le q2
      have ex : sk T p1 = sk T x.1 := by rw [q3]; exact hsk
      rw [if_pos (show s1 57 11 = -1 from g1.2.2)]
      refine mR_look hT (by omega) g1 hp1 fun s2 f2 g2 => ?_
      rw [ex] at g2 ⊢
      have D2 := DM_f D1 f2
      have fr2 : fQ s s2 := frN_t hfr (frN_t (frN_w f1 (fun _ z => z) (by simp)) (frN_w f2 (by simp) (by simp)))
      by_cases hx : isS T (sk T x.1) 59 = true
      · have hlt := (isS_lt hx).1
        rw [if_pos hx] at hK2
        rw [if_pos (show sg T (sk T x.1) = 59 from sgp hT (x := 59) (by decide) hx)]
        exact ih (sk T x.1 + 1) x.2 _ (by omega) (by omega) (RCt_10 g2 (by rw [g2.2.1]; exact nI_add _ 1)) (DM_10 D2) q4 (frN_t fr2 (frN_v (by simp))) hK2
      · rw [if_neg hx] at hK2
        rw [if_neg (show ¬ sg T (sk T x.1) = 59 from sgn hT (x := 59) (by decide) hx), r_M_readCity_58, if_pos (show (0 : Int32) = 0 from rfl), if_pos (show s2 57 11 = -1 from g2.2.2)]
        refine mR_look hT (by omega) g2 k2 fun s3 f3 g3 => ?_
        rw [sk_sk] at g3 ⊢
        have D3 := DM_f D2 f3
        have fr3 : fQ s s3 := frN_t fr2 (frN_w f3 (by simp) (by simp))
        by_cases hlt : sk T x.1 < T.2
        · rw [if_pos hlt] at hK2
          have hb := (hT.2 _ hlt).2
          rw [show sg T (sk T x.1) = nI (T.1 (sk T x.1)) from if_pos hlt, if_neg (show ¬ nI (T.1 (sk T x.1)) = -1 from fun z => by rw [n_m1, m1_eq (by omega)] at z; exact z)]
          exact mR_fails (by omega) g3 fun s4 f4 e4 => hK2 s4 (frN_t fr3 (frN_w f4 (by simp) (by simp))) e4
        · rw [if_neg hlt] at hK2
          have eT : sk T x.1 = T.2 := by omega
          rw [show sg T (sk T x.1) = m1 from if_neg hlt, if_pos (show m1 = -1 from rfl), m_isWhole (by omega) D3 q4, ifb]
          by_cases hw : whoC x.2 = true
          · rw [if_pos hw] at hK2 ⊢
            exact hK2 s3 fr3 g3.2.2 D3 q4 hw
          · rw [if_neg hw] at hK2 ⊢
            rw [eT] at g3
            exact mR_fails (by omega) g3 fun s4 f4 e4 => hK2 s4 (frN_t fr3 (frN_w f4 (by simp) (by simp))) e4
theorem raw0_ok : RawOk raw0 := ⟨by decide, fun k hk => absurd hk (Nat.not_lt_zero k), by decide, fun k j hk => absurd hk (Nat.not_lt_zero k), by decide⟩
theorem m_readCity (hT : TxOk T) (hd : 9 ≤ d) {K : Mem → Prop} (hn : s 57 6 = nI T.2) (hb : ∀ j, j < T.2 → s 58 j = byI (T.1 j)) (hK : CTm T (citP T) s K) : wV (wp d) m_M_readCity [.ref 57] s K := by
  obtain ⟨d, rfl⟩ : ∃ e, d = e + 2 := ⟨d - 2, by omega⟩
  rw [e_M_readCity, e_M_opens, if_pos (by decide), hn]
  have lp : ∀ (n i : Nat) (t : Mem), i + n = 20 → fQ s t → RCt T 0 t → DM raw0 t → RnV (d + 1) m_M_readCity K 37 [.ref 57, .int (nI i)] [] t := by
    intro n
    induction n with
    | zero =>
      intro i t hi hf hg hD
      obtain rfl : i = 20 := by omega
      rw [r_M_readCity_37, if_neg (show ¬ nI 20 < 20 by decide)]
      exact m_readCity_l hT (by omega) (T.2 + 1) 0 raw0 t (by omega) (by omega) hg hD raw0_ok hf hK
    | succ n ih =>
      intro i t hi hf hg hD
      rw [r_M_readCity_37]
      simp (disch := omega) only [↓n_m1, ↓n_hid, q0, q1, q2, q3, q4, q5, q6, q7, q8, q9, q10, q11, q12, q13, q14, q15, q16, q17, q18, q19, q20, q21, q22, q23, q24, q25, q26, q27, q28, q29, q30, q31, q32, q33, q34, q35, q36, q37, q38, q39, q40, q41, q42, q43, q44, q45, q46, q47, q48, q49, q50, q51, q52, q53, q54, q55, q56, q57, q58, q59, q61, q62, q63, q64, q66, q67, q68, q69, q70, q71, q91, q93, q99, q100, q102, q104, q107, q108, q112, q114, q115, q119, q121, q124, q160, q200, q255, q640, q999, q1000, q2000, q4096, n_of, nI_ltI, nI_leI, nI_eq, nI_clamp, nI_add, pk_mul, n_sub, m1_eq, m1_eq2, m1_lt, m1_lt2, gdN, Nat.not_lt_zero, false_or, if_true, if_false, if_pos, if_neg, cond_true, cond_false, beq_self, and_self, true_and, and_true, not_true_eq_false, not_false_eq_true, ne_eq]
      refine ih (i + 1) _ (by omega) (frN_t hf (frN_u (by simp) (by decide))) ⟨RdS_C hg.1 (frN_u (by simp) (by decide)), ?_, ?_⟩ ⟨?_, ?_, ?_, fun k hk => absurd hk (Nat.not_lt_zero k), fun k j hk => absurd hk (Nat.not_lt_zero k), ?_⟩
      · rw [up_ce (by decide)]; exact hg.2.1
      · rw [up_ce (by decide)]; exact hg.2.2
      · rw [up_ce (by decide)]; exact hD.1
      · rw [up_ce (by decide)]; exact hD.2.1
      · rw [up_ce (by decide)]; exact hD.2.2.1
      · rw [up_ce (by decide)]; exact hD.2.2.2.2.2
  refine lp 20 0 _ rfl ?_ ⟨⟨Or.inl ⟨rfl, rfl⟩, ?_, ?_, ?_, fun j hj => ?_⟩, ?_, ?_⟩ ⟨?_, ?_, ?_, fun k hk => absurd hk (Nat.not_lt_zero k), fun k j hk => absurd hk (Nat.not_lt_zero k), ?_⟩
  · exact frN_t (frN_v (by simp)) (frN_t (frN_v (by simp)) (frN_t (frN_v (by simp)) (frN_t (frN_v (by simp)) (frN_t (frN_v (by simp)) (frN_t (frN_v (by simp)) (frN_t (frN_v (by simp)) (frN_t (frN_v (by simp)) (frN_u (by simp) (by decide)))))))))
  · rw [up_ce (by decide), up_pl (by decide), up_pl (by decide), up_pl (by decide), up_pl (by decide), up_pl (by decide), up_pl (by decide), up_pl (by decide), up_at]; rfl
  · rw [up_ce (by decide), up_pl (by decide), up_pl (by decide), up_pl (by decide), up_pl (by decide), up_pl (by decide), up_pl (by decide), up_at]; rfl
  · rw [up_ce (by decide), up_pl (by decide), up_pl (by decide), up_pl (by decide), up_pl (by decide), up_pl (by decide), up_at]
  · rw [up_ce (by decide), up_ce (by decide), up_ce (by decide), up_ce (by decide), up_ce (by decide), up_ce (by decide), up_ce (by decide), up_ce (by decide), up_ce (by decide), Nat.zero_add]; exact hb j hj
  · rw [up_ce (by decide), up_pl (by decide), up_pl (by decide), up_pl (by decide), up_pl (by decide), up_at]; rfl
  · rw [up_ce (by decide), up_pl (by decide), up_pl (by decide), up_pl (by decide), up_at]; rfl
  · rw [up_ce (by decide), up_pl (by decide), up_pl (by decide), up_at]; rfl
  · rw [up_ce (by decide), up_pl (by decide), up_at]; rfl
  · rw [up_ce (by decide), up_at]; rfl
  · rw [up_at]; rfl
end
