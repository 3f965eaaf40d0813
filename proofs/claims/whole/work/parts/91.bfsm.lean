/-! the reference's search -/
section
variable {d : Nat} {g : Gph} {s : Mem}
def NM (g : Gph) (s : Mem) : Prop := ∀ k, k < gN g → s 77 k = nI (num g k)
theorem m_goesAll {K : Int32 → Mem → Prop} (hd : 4 ≤ d) (hg : gOk g) (hc : CityM g s) (hn : NM g s) (hN : num g (gN g) ≤ 12) {set side : Nat} (h1 : 1 ≤ side) (h5 : side < 5) : wI (wp d) m_M_goesAll [.ref 57, .int (nI set), .int (nI side)] s K = K (mvI g (nI set) side) s := by
  have h20 := gN_le hg
  obtain ⟨d, rfl⟩ : ∃ e, d = e + 4 := ⟨d - 4, by omega⟩
  have lp : ∀ (n i : Nat) (y : Int32), i + n = gN g → RnI (d + 3) m_M_goesAll K 5 [.ref 57, .int (nI set), .int (nI side), .int y, .int (nI i)] [] s = K (itr (orH (fun k => gst g k && tb (nI set) (num g k)) (fun k => num g (bes g k side))) n i y) s := by
    intro n
    induction n with
    | zero =>
      intro i y hi
      obtain rfl : i = gN g := by omega
      rw [r_M_goesAll_5, m_cells (d := d + 2) hc, if_neg (show ¬ nI (gN g) < nI (gN g) by rw [nI_ltI (by omega) (by omega)]; omega)]
      rfl
    | succ n ih =>
      intro i y hi
      have hni : num g i ≤ 12 := Nat.le_trans (num_mono (by omega)) hN
      rw [r_M_goesAll_5, m_cells (d := d + 2) hc]
      simp (disch := omega) only [↓n_m1, ↓n_hid, q0, q1, q2, q3, q4, q5, q6, q7, q8, q9, q10, q11, q12, q13, q14, q15, q16, q17, q18, q19, q20, q21, q22, q23, q24, q25, q26, q27, q28, q29, q30, q31, q32, q33, q34, q35, q36, q37, q38, q39, q40, q41, q42, q43, q44, q45, q46, q47, q48, q49, q50, q51, q52, q53, q54, q55, q56, q57, q58, q59, q61, q62, q63, q64, q66, q67, q68, q69, q70, q71, q91, q93, q99, q100, q102, q104, q107, q108, q112, q114, q115, q119, q121, q124, q160, q200, q255, q640, q999, q1000, q2000, q4096, n_of, nI_ltI, nI_leI, nI_eq, nI_clamp, nI_add, pk_mul, n_sub, m1_eq, m1_eq2, m1_lt, m1_lt2, gdN, Nat.not_lt_zero, false_or, if_true, if_false, if_pos, if_neg, cond_true, cond_false, beq_self, and_self, true_and, and_true, not_true_eq_false, not_false_eq_true, ne_eq, hc.2.2.2.1 i (by omega), b01_0, hn i (by omega)]
      show _ = K (itr _ n (i + 1) (if (gst g i && tb (nI set) (num g i)) = true then y ||| bit (num g (bes g i side)) else y)) s
      cases hs : gst g i with
      | false =>
        rw [if_pos rfl, Bool.false_and, if_neg (by decide)]
        exact ih (i + 1) _ (by omega)
      | true =>
        have hb := bes_lt (g := g) (show i < gN g by omega) side
        have hnb : num g (bes g i side) ≤ 12 := Nat.le_trans (num_mono (by omega)) hN
        rw [if_neg (by decide), Bool.true_and, m_has (d := d + 2) (by omega)]
        cases ht : tb (nI set) (num g i) with
        | false =>
          rw [if_pos (show b01 false = nI 0 from rfl), if_neg (by decide)]
          exact ih (i + 1) _ (by omega)
        | true =>
          rw [if_neg (show ¬ b01 true = nI 0 by decide), if_pos rfl, m_stays (d := d + 1) hg hc (by omega) ⟨h1, h5⟩]
          simp (disch := omega) only [↓n_m1, ↓n_hid, q0, q1, q2, q3, q4, q5, q6, q7, q8, q9, q10, q11, q12, q13, q14, q15, q16, q17, q18, q19, q20, q21, q22, q23, q24, q25, q26, q27, q28, q29, q30, q31, q32, q33, q34, q35, q36, q37, q38, q39, q40, q41, q42, q43, q44, q45, q46, q47, q48, q49, q50, q51, q52, q53, q54, q55, q56, q57, q58, q59, q61, q62, q63, q64, q66, q67, q68, q69, q70, q71, q91, q93, q99, q100, q102, q104, q107, q108, q112, q114, q115, q119, q121, q124, q160, q200, q255, q640, q999, q1000, q2000, q4096, n_of, nI_ltI, nI_leI, nI_eq, nI_clamp, nI_add, pk_mul, n_sub, m1_eq, m1_eq2, m1_lt, m1_lt2, gdN, Nat.not_lt_zero, false_or, if_true, if_false, if_pos, if_neg, cond_true, cond_false, beq_self, and_self, true_and, and_true, not_true_eq_false, not_false_eq_true, ne_eq, hn _ hb]
          exact ih (i + 1) _ (by omega)
  rw [e_M_goesAll, show (0 : Int32) = nI 0 from rfl]
  exact lp (gN g) 0 (nI 0) (by omega)
theorem m_among51 {K : Int32 → Mem → Prop} (hd : 2 ≤ d) (hg : gOk g) (hc : CityM g s) (hn : NM g s) {x : Int32} (hx : ∀ e, tb x e = true → e < gN g ∧ gst g e = true) : wI (wp d) m_M_among [.ref 57, .int x] s K = K (pkI g x) s := by
  have h20 := gN_le hg
  obtain ⟨d, rfl⟩ : ∃ e, d = e + 2 := ⟨d - 2, by omega⟩
  have lp : ∀ (n i : Nat) (y : Int32), i + n = gN g → RnI (d + 1) m_M_among K 4 [.ref 57, .int x, .int y, .int (nI i)] [] s = K (itr (orH (fun k => gst g k && tb x k) (num g)) n i y) s := by
    intro n
    induction n with
    | zero =>
      intro i y hi
      obtain rfl : i = gN g := by omega
      rw [r_M_among_4, m_cells (d := d) hc, if_neg (show ¬ nI (gN g) < nI (gN g) by rw [nI_ltI (by omega) (by omega)]; omega)]
      rfl
    | succ n ih =>
      intro i y hi
      rw [r_M_among_4, m_cells (d := d) hc, if_pos (show nI i < nI (gN g) by rw [nI_ltI (by omega) (by omega)]; omega), m_has (d := d) (by omega)]
      show _ = K (itr _ n (i + 1) (if (gst g i && tb x i) = true then y ||| bit (num g i) else y)) s
      cases ht : tb x i with
      | false =>
        rw [if_pos (show b01 false = 0 from rfl), Bool.and_false, if_neg (by decide), show nI i + 1 = nI (i + 1) from nI_add i 1]
        exact ih (i + 1) _ (by omega)
      | true =>
        rw [(hx i ht).2, Bool.true_and, if_pos rfl, if_neg (show ¬ b01 true = 0 by decide)]
        simp (disch := omega) only [↓n_m1, ↓n_hid, q0, q1, q2, q3, q4, q5, q6, q7, q8, q9, q10, q11, q12, q13, q14, q15, q16, q17, q18, q19, q20, q21, q22, q23, q24, q25, q26, q27, q28, q29, q30, q31, q32, q33, q34, q35, q36, q37, q38, q39, q40, q41, q42, q43, q44, q45, q46, q47, q48, q49, q50, q51, q52, q53, q54, q55, q56, q57, q58, q59, q61, q62, q63, q64, q66, q67, q68, q69, q70, q71, q91, q93, q99, q100, q102, q104, q107, q108, q112, q114, q115, q119, q121, q124, q160, q200, q255, q640, q999, q1000, q2000, q4096, n_of, nI_ltI, nI_leI, nI_eq, nI_clamp, nI_add, pk_mul, n_sub, m1_eq, m1_eq2, m1_lt, m1_lt2, gdN, Nat.not_lt_zero, false_or, if_true, if_false, if_pos, if_neg, cond_true, cond_false, beq_self, and_self, true_and, and_true, not_true_eq_false, not_false_eq_true, ne_eq, hn i (by omega)]
        exact ih (i + 1) _ (by omega)
  rw [e_M_among, show (0 : Int32) = nI 0 from rfl]
  exact lp (gN g) 0 (nI 0) (by omega)
def r78 (v : Nat) : Int32 := if v = 0 then m1 else nI (v - 1)
def BM (B st : Nat) (b : BS) (s : Mem) : Prop := (∀ x, x < B → s 78 x = r78 (bR b x)) ∧ (∀ x, x < B → bR b x ≠ 0 → x ≠ st → s 79 x = nI (bF b x)) ∧ ∀ i, i < bM b → s 80 i = nI (bQ b i)
theorem r78_m {v : Nat} (hv : v ≤ 4096) : (r78 v = m1) = (v = 0) := by
  unfold r78
  by_cases e : v = 0
  · rw [if_pos e]; exact propext ⟨fun _ => e, fun _ => rfl⟩
  · rw [if_neg e]
    refine propext ⟨fun z => ?_, fun z => absurd z e⟩
    rw [m1_eq (by omega)] at z
    exact z.elim
theorem CityM_4 {t : Mem} (h : CityM g s) (hf : frN [77, 78, 79, 80] [] s t) : CityM g t := CityM_N hf (by simp) (by simp) h
theorem m_search_l (hg : gOk g) (hN : num g (gN g) ≤ 12) (hc : CityM g s) (hn0 : NM g s) {st goal what : Nat} (hgoal : goal < 2 ^ num g (gN g)) (hwh : what ≤ 1) (hd : 4 ≤ d) {TOT : BS} {K : Int32 → Mem → Prop}
    (hK : ∀ s', frN [78, 79, 80] [] s s' → K (bRes goal what TOT) s') :
    ∀ (f n : Nat) (b : BS) (t : Mem) (v1 v3 v4 v5 v9 v10 v11 : Value), 2 ^ num g (gN g) + 1 ≤ f + n → n ≤ bM b → BI (2 ^ num g (gN g)) st b → BM (2 ^ num g (gN g)) st b t → bR b goal = 0 → frN [78, 79, 80] [] s t → TOT = bAll (mv g) goal f n b → RnI d m_M_sure K 176 [.ref 57, v1, .int (nI what), v3, v4, v5, .int (nI goal), .int (nI (bM b)), .int (nI n), v9, v10, v11] [] t := by
  have hB : 2 ^ num g (gN g) ≤ 4096 := Nat.le_trans (Nat.pow_le_pow_right (by decide) hN) (by decide)
  intro f
  induction f with
  | zero =>
    intro n b t v1 v3 v4 v5 v9 v10 v11 hf hn hI
    have := BI_B hI
    omega
  | succ f ih =>
    intro n b t v1 v3 v4 v5 v9 v10 v11 hf hn hI hC hg0 hfr hall
    have hm := BI_B hI
    rw [r_M_sure_176]
    by_cases h1 : n < bM b
    · obtain ⟨hqB, hqR⟩ := hI.2.2.2.1 n h1
      have hqs : n ≠ 0 → bQ b n ≠ st := fun h => hI.2.2.2.2.2.2 n (by omega) h1
      rw [show bAll (mv g) goal (f + 1) n b = bAll (mv g) goal f (n + 1) (bRow (mv g) n (bQ b n) 4 1 b) from if_pos ⟨h1, hg0⟩] at hall
      simp (disch := omega) only [↓n_m1, ↓n_hid, q0, q1, q2, q3, q4, q5, q6, q7, q8, q9, q10, q11, q12, q13, q14, q15, q16, q17, q18, q19, q20, q21, q22, q23, q24, q25, q26, q27, q28, q29, q30, q31, q32, q33, q34, q35, q36, q37, q38, q39, q40, q41, q42, q43, q44, q45, q46, q47, q48, q49, q50, q51, q52, q53, q54, q55, q56, q57, q58, q59, q61, q62, q63, q64, q66, q67, q68, q69, q70, q71, q91, q93, q99, q100, q102, q104, q107, q108, q112, q114, q115, q119, q121, q124, q160, q200, q255, q640, q999, q1000, q2000, q4096, n_of, nI_ltI, nI_leI, nI_eq, nI_clamp, nI_add, pk_mul, n_sub, m1_eq, m1_eq2, m1_lt, m1_lt2, gdN, Nat.not_lt_zero, false_or, if_true, if_false, if_pos, if_neg, cond_true, cond_false, beq_self, and_self, true_and, and_true, not_true_eq_false, not_false_eq_true, ne_eq, hC.2.2 n h1]
      generalize hset : bQ b n = set at *
      have row : ∀ (k side : Nat) (b' : BS) (u : Mem) (w1 w3 w4 w5 w11 : Value), side + k = 5 → 1 ≤ side → BI (2 ^ num g (gN g)) st b' → BM (2 ^ num g (gN g)) st b' u → bR b' goal = 0 → frN [78, 79, 80] [] s u → bR b' set ≠ 0 → n < bM b' → TOT = bAll (mv g) goal f (n + 1) (bRow (mv g) n set k side b') → RnI d m_M_sure K 195 [.ref 57, w1, .int (nI what), w3, w4, w5, .int (nI goal), .int (nI (bM b')), .int (nI n), .int (nI set), .int (nI side), w11] [] u := by
        intro k
        induction k with
        | zero =>
          intro side b' u w1 w3 w4 w5 w11 hs h1s hI' hC' hg0' hfr' hqR' hn' hall'
          obtain rfl : side = 5 := by omega
          rw [r_M_sure_195, if_neg (show ¬ nI 5 < 5 by decide), show nI n + 1 = nI (n + 1) from nI_add n 1]
          exact ih (n + 1) b' u _ _ _ _ _ _ _ (by omega) (by omega) hI' hC' hg0' hfr' hall'
        | succ k ihk =>
          intro side b' u w1 w3 w4 w5 w11 hs h1s hI' hC' hg0' hfr' hqR' hn' hall'
          have hm' := BI_B hI'
          obtain ⟨e1, e2⟩ := mv_ok hN set side
          have hcu : CityM g u := CityM_N hfr' (by simp) (by simp) hc
          have hnu : NM g u := by
            intro k hk
            rw [hfr'.1 77 (by decide) (by decide)]; exact hn0 k hk
          rw [r_M_sure_195, if_pos (show nI side < 5 by rw [q5, nI_ltI (by omega) (by omega)]; omega), m_goesAll hd hg hcu hnu hN h1s (by omega), e1]
          generalize hmx : mv g set side = x at *
          have hx : x < 4096 := by omega
          have hs4 : set < 4096 := by omega
          have hRx := hI'.2.2.1 x
          have hRs := hI'.2.2.1 set
          have e78s : u 78 set = nI (bR b' set - 1) := by
            rw [hC'.1 set hqB]; exact if_neg hqR'
          by_cases h0 : bR b' x = 0
          · have hlt := BI_lt hI' e2 h0
            have eone : bOne (mv g) n set side b' = bNew n set side x b' := by
              unfold bOne
              rw [hmx, if_pos h0]
            have ne : set ≠ x := fun z => hqR' (z ▸ h0)
            have hall2 : TOT = bAll (mv g) goal f (n + 1) (bRow (mv g) n set k (side + 1) (bNew n set side x b')) := by
              rw [hall']
              show bAll (mv g) goal f (n + 1) (bRow (mv g) n set k (side + 1) (bOne (mv g) n set side b')) = _
              rw [eone]
            have e78x : u 78 x = m1 := by rw [hC'.1 x e2, h0]; rfl
            have hsub : bR b' set - 1 + 1 = bR b' set := by omega
            -- at the goal, or on
            have fin : ∀ (y : Int32), y = nI (if n = 0 then side else bF b' set) → x = goal → (what = 0 → K (nI (bR b' set)) (upM (upM u 78 x (nI (bR b' set))) 79 x y)) ∧ (what ≠ 0 → K y (upM (upM u 78 x (nI (bR b' set))) 79 x y)) := by
              intro y hy hxg
              have hr : bR (bNew n set side x b') goal = bR b' set + 1 := if_pos hxg.symm
              have hfg : bF (bNew n set side x b') goal = (if n = 0 then side else bF b' set) := if_pos hxg.symm
              have kr := keep_row (M := mv g) (n := n) (set := set) (x := goal) k (side + 1) (bNew n set side x b') (by rw [hr]; omega)
              have hst := bAll_stop (M := mv g) (goal := goal) f (n + 1) (bRow (mv g) n set k (side + 1) (bNew n set side x b')) (by rw [kr.1, hr]; omega)
              have hT : TOT = bRow (mv g) n set k (side + 1) (bNew n set side x b') := hall2.trans hst
              have fu : frN [78, 79, 80] [] s (upM (upM u 78 x (nI (bR b' set))) 79 x y) := frN_t hfr' (frN_t (frN_u (by simp) (by decide)) (frN_u (by simp) (by decide)))
              have hk := hK _ fu
              unfold bRes at hk
              rw [hT, kr.1, hr, kr.2, hfg, if_neg (by omega)] at hk
              refine ⟨fun hw => ?_, fun hw => ?_⟩
              · rw [if_pos hw] at hk; exact hk
              · rw [if_neg hw, ← hy] at hk; exact hk
            have go : ∀ (y : Int32) (w1 w3 w4 w5 w11 : Value), y = nI (if n = 0 then side else bF b' set) → x ≠ goal → RnI d m_M_sure K 195 [.ref 57, w1, .int (nI what), w3, w4, w5, .int (nI goal), .int (nI (bM b' + 1)), .int (nI n), .int (nI set), .int (nI (side + 1)), w11] [] (upM (upM (upM u 78 x (nI (bR b' set))) 79 x y) 80 (bM b') (nI x)) := by
              intro y w1 w3 w4 w5 w11 hy hxg
              refine ihk (side + 1) (bNew n set side x b') _ _ _ _ _ _ (by omega) (by omega) (BI_new hI' e2 h0) ⟨fun z hz => ?_, fun z hz hr hzs => ?_, fun i hi => ?_⟩ ?_ (frN_t hfr' (frN_t (frN_u (by simp) (by decide)) (frN_t (frN_u (by simp) (by decide)) (frN_u (by simp) (by decide))))) ?_ ?_ hall2
              · rw [up_ce (show 78 ≠ 80 by decide), up_ce (show 78 ≠ 79 by decide)]
                show _ = r78 (if z = x then bR b' set + 1 else bR b' z)
                by_cases e : z = x
                · rw [if_pos e, e, up_at]; exact (if_neg (by omega)).symm
                · rw [if_neg e, up_pl e]; exact hC'.1 z hz
              · rw [up_ce (show 79 ≠ 80 by decide)]
                have hr' : (if z = x then bR b' set + 1 else bR b' z) ≠ 0 := hr
                show _ = nI (if z = x then (if n = 0 then side else bF b' set) else bF b' z)
                by_cases e : z = x
                · rw [if_pos e, e, up_at]; exact hy
                · rw [if_neg e] at hr' ⊢
                  rw [up_pl e, up_ce (by decide)]; exact hC'.2.1 z hz hr' hzs
              · have hi' : i < bM b' + 1 := hi
                show _ = nI (if i = bM b' then x else bQ b' i)
                by_cases e : i = bM b'
                · rw [if_pos e, e, up_at]
                · rw [if_neg e, up_pl e, up_ce (by decide), up_ce (by decide)]; exact hC'.2.2 i (by omega)
              · show (if goal = x then _ else bR b' goal) = 0
                rw [if_neg (fun z => hxg z.symm)]; exact hg0'
              · show (if set = x then _ else bR b' set) ≠ 0
                rw [if_neg ne]; exact hqR'
              · show n < bM b' + 1
                omega
            have e78p : u 78 set + nI 1 = nI (bR b' set) := by rw [e78s, nI_add, hsub]
            simp (disch := omega) only [↓n_m1, ↓n_hid, q0, q1, q2, q3, q4, q5, q6, q7, q8, q9, q10, q11, q12, q13, q14, q15, q16, q17, q18, q19, q20, q21, q22, q23, q24, q25, q26, q27, q28, q29, q30, q31, q32, q33, q34, q35, q36, q37, q38, q39, q40, q41, q42, q43, q44, q45, q46, q47, q48, q49, q50, q51, q52, q53, q54, q55, q56, q57, q58, q59, q61, q62, q63, q64, q66, q67, q68, q69, q70, q71, q91, q93, q99, q100, q102, q104, q107, q108, q112, q114, q115, q119, q121, q124, q160, q200, q255, q640, q999, q1000, q2000, q4096, n_of, nI_ltI, nI_leI, nI_eq, nI_clamp, nI_add, pk_mul, n_sub, m1_eq, m1_eq2, m1_lt, m1_lt2, gdN, Nat.not_lt_zero, false_or, if_true, if_false, if_pos, if_neg, cond_true, cond_false, beq_self, and_self, true_and, and_true, not_true_eq_false, not_false_eq_true, ne_eq, e78x, e78p]
            by_cases hn0' : n = 0
            · rw [if_pos hn0']
              by_cases hxg : x = goal
              · obtain ⟨fa, fb⟩ := fin (nI side) (by rw [if_pos hn0']) hxg
                rw [if_pos hxg]
                by_cases hw : what = 0
                · rw [if_pos hw, up_at]; exact fa hw
                · rw [if_neg hw, up_at]; exact fb hw
              · rw [if_neg hxg]
                exact go _ _ _ _ _ _ (by rw [if_pos hn0']) hxg
            · have e79 : u 79 set = nI (bF b' set) := hC'.2.1 set hqB hqR' (hqs hn0')
              rw [if_neg hn0', e79]
              by_cases hxg : x = goal
              · obtain ⟨fa, fb⟩ := fin (nI (bF b' set)) (by rw [if_neg hn0']) hxg
                rw [if_pos hxg]
                by_cases hw : what = 0
                · rw [if_pos hw, up_at]; exact fa hw
                · rw [if_neg hw, up_at]; exact fb hw
              · rw [if_neg hxg]
                exact go _ _ _ _ _ _ (by rw [if_neg hn0']) hxg
          · have eone : bOne (mv g) n set side b' = b' := by
              unfold bOne
              rw [hmx, if_neg h0]
            have hall2 : TOT = bAll (mv g) goal f (n + 1) (bRow (mv g) n set k (side + 1) b') := by
              rw [hall']
              show bAll (mv g) goal f (n + 1) (bRow (mv g) n set k (side + 1) (bOne (mv g) n set side b')) = _
              rw [eone]
            have e78x : ¬ u 78 x = m1 := by
              rw [hC'.1 x e2, r78_m (by omega)]; exact h0
            simp (disch := omega) only [↓n_m1, ↓n_hid, q0, q1, q2, q3, q4, q5, q6, q7, q8, q9, q10, q11, q12, q13, q14, q15, q16, q17, q18, q19, q20, q21, q22, q23, q24, q25, q26, q27, q28, q29, q30, q31, q32, q33, q34, q35, q36, q37, q38, q39, q40, q41, q42, q43, q44, q45, q46, q47, q48, q49, q50, q51, q52, q53, q54, q55, q56, q57, q58, q59, q61, q62, q63, q64, q66, q67, q68, q69, q70, q71, q91, q93, q99, q100, q102, q104, q107, q108, q112, q114, q115, q119, q121, q124, q160, q200, q255, q640, q999, q1000, q2000, q4096, n_of, nI_ltI, nI_leI, nI_eq, nI_clamp, nI_add, pk_mul, n_sub, m1_eq, m1_eq2, m1_lt, m1_lt2, gdN, Nat.not_lt_zero, false_or, if_true, if_false, if_pos, if_neg, cond_true, cond_false, beq_self, and_self, true_and, and_true, not_true_eq_false, not_false_eq_true, ne_eq]
            exact ihk (side + 1) b' u _ _ _ _ _ (by omega) (by omega) hI' hC' hg0' hfr' hqR' hn' hall2
      exact row 4 1 b t _ _ _ _ _ rfl (by omega) hI hC hg0 hfr hqR h1 hall
    · rw [if_neg (show ¬ nI n < nI (bM b) by rw [nI_ltI (by omega) (by omega)]; exact h1)]
      rw [show bAll (mv g) goal (f + 1) n b = b from if_neg (fun z => h1 z.1)] at hall
      have := hK t hfr
      rw [hall] at this
      unfold bRes at this
      rw [if_pos hg0] at this
      exact this
end
