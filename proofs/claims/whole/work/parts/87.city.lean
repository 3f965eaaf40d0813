/-! text(0): the cities change places -/
section
variable {d c : Nat} {g : Gph} {T : Txt} {s : Mem}
theorem CityC_a {t : Mem} (h : CityC c g s) (e0 : t c = s c) (e3 : t (c + 3) = s (c + 3)) (e4 : t (c + 4) = s (c + 4)) : CityC c g t := by
  unfold CityC at *
  rw [e0, e3, e4]
  exact h
theorem tb_low {S k : Nat} (hS : S ≤ 6) (h : tb (((1 : Int32) <<< (nI S &&& 31)) - 1) k = true) : k < S := by
  have hp : 2 ^ S ≤ 64 := Nat.le_trans (Nat.pow_le_pow_right (by decide) hS) (by decide)
  have hp1 : 1 ≤ 2 ^ S := Nat.one_le_two_pow
  rw [shS hS, show (1 : Int32) = nI 1 from rfl, n_sub hp1, tb_nI (by omega), Nat.testBit_two_pow_sub_one] at h
  exact of_decide_eq_true h
theorem L_text0 {K : Int32 → Int32 → Mem → Prop} (h : REL c g s) (hK : ∀ v s' c' g', REL c' g' s' → K v v s') :
    wI (wp (d + 50)) m_X_text [.ref 0, .int 0] s (fun v s1 => wI (wp (d + 50)) m_M_text [.ref 57, .int 0] s1 (fun v' s2 => K v v' s2)) := by
  obtain ⟨T, hT, t1, t2, t3, t4⟩ := rl_tap h
  have h160 := hT.1
  have hcc := rl_isC h
  have hco := isC_o hcc
  have e : ∀ {u : Mem}, fT (13 - c) s u → u 57 = s 57 ∧ u 58 = s 58 ∧ u 2 = s 2 ∧ u 0 = s 0 := fun f => by
    refine ⟨f 57 ?_, f 58 ?_, f 2 ?_, f 0 ?_⟩ <;> (simp only [List.mem_cons, List.not_mem_nil, or_false]; rcases hcc with rfl | rfl <;> omega)
  have n01 : ¬ (0 : Int32) = 1 := by decide
  rw [e_X_text, if_pos rfl]
  refine x_read0 h hT t1 t3 ?_
  cases hl : citP T with
  | inl f =>
    intro u fu gu
    obtain ⟨e57, e58, e2, e0⟩ := e fu
    have hf := gu.2.2.2.1
    rw [if_pos (show nI 0 = 0 from rfl), e_M_text, mi1 (d := d + 48), decide_eq_true (by decide), ifb, if_pos rfl, if_neg n01]
    refine m_fault0 hT (by rw [up_pl (by decide), e57]; exact t2) (fun j hj => by rw [up_ce (by decide), e58]; exact t4 j hj) ?_
    rw [hl]
    intro w fw
    rw [if_neg (show ¬ nI f = -1 from fun z => by rw [n_m1, m1_eq (by omega)] at z; exact z)]
    have fw2 : frN [63, 64, 66, 67] [0, 5, 8, 9, 10, 11, 27, 28, 29] u w := frN_t (frN_v (by simp)) fw
    refine hK _ w c g (REL_D h (frN_t (frN_w (frN_f (J := []) fu (by simp only [List.mem_cons, List.not_mem_nil, or_false]; rcases hcc with rfl | rfl <;> omega)) (fun a z => by simp only [List.mem_cons, List.not_mem_nil, or_false] at z ⊢; omega) (by simp)) (frN_w fw2 (fun a z => by simp only [List.mem_cons, List.not_mem_nil, or_false] at z ⊢; omega) (fun _ z => z))) ⟨T, hT, ?_, ?_, fun k hk => ?_, fun k hk => ?_⟩)
    · rw [fw2.1 1 (by decide) (by decide)]; exact gu.1
    · rw [fw2.2 6 (by decide), e57]; exact t2
    · rw [fw2.1 2 (by decide) (by decide), e2]; exact t3 k hk
    · rw [fw2.1 58 (by decide) (by decide), e58]; exact t4 k hk
  | inr x =>
    intro u p fu gu ro wo cc z6 e48
    obtain ⟨e57, e58, e2, e0⟩ := e fu
    have hgo := gph_ok ro wo
    have hS : rS x ≤ 6 := ro.2.2.1
    have u1 : u 0 1 = nI (c + 1) := by rw [e0]; exact rl_ref h
    have u2' : u 0 2 = nI (13 - c + 1) := by rw [e0]; exact rl_ref2 h
    have c16 : c ≤ 10 := by rcases hcc with rfl | rfl <;> omega
    rw [if_neg (show ¬ nI 1 = 0 by decide), e_X_beginCity, u1, u2', if_neg (show ¬ nI (c + 1) = 0 by rw [q0, nI_eq (by omega) (by omega)]; omega), if_neg (show ¬ nI (13 - c + 1) = 0 by rw [q0, nI_eq (by omega) (by omega)]; omega), crefc hcc, crefc hco, if_pos (by omega), if_pos (by omega), e_T_cut, c_min (d := d + 46), c_max (d := d + 46)]
    have em : ∀ y : Int32, y = nI T.2 → (if (0 : Int32) < (if (0 : Int32) < y then 0 else y) then (if (0 : Int32) < y then 0 else y) else 0) = nI 0 := by
      intro y hy
      rw [hy]
      by_cases hh : 0 < T.2
      · rw [if_pos (show (0 : Int32) < nI T.2 by rw [q0, nI_ltI (by omega) (by omega)]; exact hh)]; decide
      · rw [show T.2 = 0 by omega]; decide
    rw [em _ (by rw [up_ce (by decide), up_ce (by decide)]; exact gu.1)]
    generalize hu2 : upM (upM (upM u 0 1 (Int32.ofNat (13 - c + 1))) 0 2 (Int32.ofNat (c + 1))) 1 1 (nI 0) = u2
    have fu2 : frm [0, 1] u u2 := by rw [← hu2]; exact frm_t (frm_u (by simp)) (frm_t (frm_u (by simp)) (frm_u (by simp)))
    have a01 : u2 0 1 = nI (13 - c + 1) := by rw [← hu2, up_ce (by decide), up_pl (by decide), up_at]; rfl
    have a02 : u2 0 2 = nI (c + 1) := by rw [← hu2, up_ce (by decide), up_at]; rfl
    have a0j : ∀ j, j ≠ 1 → j ≠ 2 → u2 0 j = s 0 j := fun j h1 h2 => by rw [← hu2, up_ce (by decide), up_pl h2, up_pl h1, e0]
    have a11 : u2 1 1 = nI 0 := by rw [← hu2, up_at]
    have cu : ∀ a, 13 - c ≤ a → a ≤ 13 - c + 6 → u2 a = u a := fun a h1 h2 => fu2 a (by simp only [List.mem_cons, List.not_mem_nil, or_false]; omega)
    have b01' : (upM u2 0 5 (-1)) 0 1 = nI (13 - c + 1) := by rw [up_pl (by decide)]; exact a01
    have cc3 : CityC (13 - c) (gph x) (upM u2 0 5 (-1)) := CityC_a cc (by rw [up_ce (by omega)]; exact cu _ (by omega) (by omega)) (by rw [up_ce (by omega)]; exact cu _ (by omega) (by omega)) (by rw [up_ce (by omega)]; exact cu _ (by omega) (by omega))
    rw [a01, cref hco, crefc hco, e_C_dullness, C_b hco]
    simp only [cond_true]
    rw [e_C_item, C_b hco]
    simp only [cond_true]
    rw [show (6 : Int32) * 7 + 6 = nI 48 by decide, c_at (d := d + 45) (by rw [C_s3 hco]) (by rw [C_s3 hco]; decide), up_ce (show 13 - c + 3 ≠ 0 by omega), cu (13 - c + 3) (by omega) (by omega), e48, b01', cref hco, crefc hco, c_sourceCount (d := d + 47) hco cc3]
    rw [show gS (gph x) = rS x from rfl, e_W_begin]
    refine c_fill (by omega) (by decide) (by decide) fun u4 f4 z4 => ?_
    have hz4 : ∀ k, k < 5 → u4 34 k = nI 0 := fun k hk => z4 k hk
    rw [show (3 : Int32) = nI 3 from rfl, c_put (d := d + 46) (by decide) (by decide) (by decide), show (4 : Int32) = nI 4 from rfl, c_put (d := d + 46) (by decide) (by decide) (by decide), e_S_clear, e_N_clear]
    generalize hsv : ((1 : Int32) <<< (nI (rS x) &&& 31)) - 1 = sv
    generalize hu5 : upM (upM (upM (upM (upM (upM u4 34 3 (nI (rD x))) 34 4 sv) 33 2 0) 33 4 0) 42 2 0) 45 4 0 = u5
    have f5 : frm [33, 34, 42, 45] (upM u2 0 5 (-1)) u5 := by
      rw [← hu5]
      exact frm_t (frm_w f4 (by simp)) (frm_t (frm_u (by simp)) (frm_t (frm_u (by simp)) (frm_t (frm_u (by simp)) (frm_t (frm_u (by simp)) (frm_t (frm_u (by simp)) (frm_u (by simp)))))))
    have k0 : u5 0 = (upM u2 0 5 (-1)) 0 := f5 0 (by simp)
    have cc5 : CityC (13 - c) (gph x) u5 := CityC_a cc3 (f5 _ (by simp only [List.mem_cons, List.not_mem_nil, or_false]; omega)) (f5 _ (by simp only [List.mem_cons, List.not_mem_nil, or_false]; omega)) (f5 _ (by simp only [List.mem_cons, List.not_mem_nil, or_false]; omega))
    rw [show u5 0 1 = nI (13 - c + 1) by rw [k0]; exact b01', cref hco, crefc hco, c_streetSet (d := d + 47) hco, c_bitCount (d := d + 47), streets_cnt hgo cc5]
    -- the reference
    have f05 : frm [0, 1, 33, 34, 42, 45] u u5 := frm_t (frm_w fu2 (by simp)) (frm_t (frm_u (by simp)) (frm_w f5 (by simp)))
    have v57 : u5 57 = s 57 := by rw [f05 57 (by decide)]; exact e57
    have v58 : u5 58 = s 58 := by rw [f05 58 (by decide)]; exact e58
    rw [e_M_text, mi1 (d := d + 48), decide_eq_true (by decide), ifb, if_pos rfl, if_neg n01]
    refine m_fault0 hT (by rw [up_pl (by decide), v57]; exact t2) (fun j hj => by rw [up_ce (by decide), v58]; exact t4 j hj) ?_
    rw [hl]
    intro w fw hD _ _
    have fw2 : frN [63, 64, 66, 67] [0, 5, 8, 9, 10, 11, 27, 28, 29] u5 w := frN_t (frN_v (by simp)) fw
    obtain ⟨d0, d2, d3, dr, di, dd⟩ := hD
    have w1 : 0 < rR x := (of_decide_eq_true wo).1
    rw [if_pos (show m1 = -1 from rfl), if_neg n01, d0, d2, (dr 0 w1).1, show (0 : Int32) = nI 0 from rfl]
    generalize hw' : upM (upM (upM (upM w 57 6 (nI 0)) 57 24 (nI (rR x))) 57 25 (nI (rW x 0))) 57 26 (nI (rS x)) = w'
    have fw' : frN [] [6, 24, 25, 26] w w' := by rw [← hw']; exact frN_t (frN_v (by simp)) (frN_t (frN_v (by simp)) (frN_t (frN_v (by simp)) (frN_v (by simp))))
    have D' : DM x w' := by
      unfold DM
      rw [fw'.2 27 (by decide), fw'.2 28 (by decide), fw'.2 29 (by decide), fw'.1 64 (by decide) (by decide), fw'.1 63 (by decide) (by decide), fw'.1 66 (by decide) (by decide), fw'.1 67 (by decide) (by decide)]
      exact ⟨d0, d2, d3, dr, di, dd⟩
    refine m_layCity (d := d + 46) D' ro wo (by rw [← hw', up_pl (by decide), up_pl (by decide), up_at]) (by rw [← hw', up_pl (by decide), up_at]) (by rw [← hw', up_at]) fun t ft hcm e32 ⟨m0, m1', m2, m3, m4⟩ e42 e55 e35 e57' => ?_
    have g5 : frN [62, 63, 64, 65, 66, 67, 68] [0, 5, 6, 8, 9, 10, 11, 24, 25, 26, 27, 28, 29, 32, 35, 42, 55, 57] u5 t := frN_t (frN_w fw2 (by simp) (by simp)) (frN_t (frN_w fw' (by simp) (by simp)) (frN_w ft (by simp) (by simp)))
    have gs : frN [0, 1, 33, 34, 42, 45, 62, 63, 64, 65, 66, 67, 68, 13 - c, 13 - c + 1, 13 - c + 2, 13 - c + 3, 13 - c + 4, 13 - c + 6] [0, 5, 6, 8, 9, 10, 11, 24, 25, 26, 27, 28, 29, 32, 35, 42, 55, 57] s t := frN_t (frN_w (frN_f (J := []) fu (by simp only [List.mem_cons, List.not_mem_nil, or_false]; rcases hcc with rfl | rfl <;> omega)) (fun a z => by simp only [List.mem_cons, List.not_mem_nil, or_false] at z ⊢; omega) (by simp)) (frN_t (frN_w (frN_f (J := []) f05 (by simp)) (fun a z => by simp only [List.mem_cons, List.not_mem_nil, or_false] at z ⊢; omega) (by simp)) (frN_w g5 (fun a z => by simp only [List.mem_cons, List.not_mem_nil, or_false] at z ⊢; omega) (fun _ z => z)))
    have tc : ∀ a, 13 - c ≤ a → a ≤ 13 - c + 6 → t a = u a := fun a h1 h2 => by
      rw [g5.1 a (by simp only [List.mem_cons, List.not_mem_nil, or_false]; omega) (by omega), f05 a (by simp only [List.mem_cons, List.not_mem_nil, or_false]; omega)]
    have t0 : t 0 = (upM u2 0 5 (-1)) 0 := by rw [g5.1 0 (by simp) (by decide)]; exact k0
    have t34 : ∀ k, t 34 k = u5 34 k := fun k => by rw [g5.1 34 (by simp) (by decide)]
    have n0 : t 34 0 = nI 0 := by rw [t34, ← hu5]; simp [upM]; exact hz4 0 (by decide)
    have n1 : t 34 1 = nI 0 := by rw [t34, ← hu5]; simp [upM]; exact hz4 1 (by decide)
    have n2 : t 34 2 = nI 0 := by rw [t34, ← hu5]; simp [upM]; exact hz4 2 (by decide)
    have n3 : t 34 3 = nI (rD x) := by rw [t34, ← hu5]; simp [upM]
    have n4 : t 34 4 = sv := by rw [t34, ← hu5]; simp [upM]
    obtain ⟨nl, l1, l2, l3, l4, l5, l6⟩ := rl_laws h
    refine hK _ t (13 - c) (gph x) (REL_new hco hgo ?_ ?_ ?_ ?_ hcm ?_ ?_ ?_ ?_ ?_ e35 ?_ e57' ?_ e42 ?_ e55 ?_)
    · rw [t0]; exact b01'
    · rw [t0, up_pl (by decide), a02]
      rcases hcc with rfl | rfl <;> rfl
    · exact CityC_a cc (tc _ (by omega) (by omega)) (tc _ (by omega) (by omega)) (tc _ (by omega) (by omega))
    · intro k hk; rw [tc _ (by omega) (by omega)]; exact z6 k hk
    · rw [gs.2 33 (by decide)]; exact h.2.1.2.2
    · refine ⟨(T.1, 0), ⟨Nat.zero_le _, fun k hk => absurd hk (Nat.not_lt_zero k)⟩, ?_, ?_, fun k hk => absurd hk (Nat.not_lt_zero k), fun k hk => absurd hk (Nat.not_lt_zero k)⟩
      · rw [g5.1 1 (by simp) (by decide), f5 1 (by simp), up_ce (by decide)]; exact a11
      · rw [ft.2 6 (by decide), ← hw', up_pl (by decide), up_pl (by decide), up_pl (by decide), up_at]
    · refine ⟨nl, l1, ?_, ?_, fun i hi => LawR_n (by omega) (l4 i hi) gs ⟨fun a z => ?_, ?_, ?_⟩, ?_, Or.inl ?_⟩
      · rw [t0, up_pl (by decide), a0j 4 (by decide) (by decide)]; exact l2
      · rw [gs.2 7 (by decide)]; exact l3
      · simp only [List.mem_cons, List.not_mem_nil, or_false] at z
        rcases hcc with rfl | rfl <;> omega
      · simp only [List.mem_cons, List.not_mem_nil, or_false]; omega
      · simp only [List.mem_cons, List.not_mem_nil, or_false]; omega
      · rw [e32, t0, up_at]; rfl
      · rw [t0, up_at]; rfl
    · refine ⟨⟨0, false, 0, rD x, ⟨n0, by decide⟩, n1, ⟨n2, by decide⟩, ⟨n3, ro.2.2.2.2⟩, fun k hk => ?_⟩, fun k hk => ?_⟩
      · rw [n4, ← hsv] at hk
        exact tb_low hS hk
      · rcases (show k = 0 ∨ k = 1 ∨ k = 2 ∨ k = 3 ∨ k = 4 by omega) with rfl | rfl | rfl | rfl | rfl
        · rw [m0, n0]
        · rw [m1', n1]
        · rw [m2, n2]
        · rw [m3, n3]
        · rw [m4, n4, hsv]
    · rw [g5.1 33 (by simp) (by decide), ← hu5]; simp [upM]; rfl
    · rw [g5.1 33 (by simp) (by decide), ← hu5]; simp [upM]; rfl
    · rw [g5.1 42 (by simp) (by decide), ← hu5]; simp [upM]; rfl
    · rw [g5.1 45 (by simp) (by decide), ← hu5]; simp [upM]; rfl
    · have st := rl_sta h
      have ea : ∀ a, 1001 ≤ a → t a = s a := fun a ha => gs.1 a (by simp only [List.mem_cons, List.not_mem_nil, or_false]; omega) (by omega)
      unfold STA at *
      rw [ea 1001 (by omega), ea 1002 (by omega), ea 1003 (by omega), ea 1004 (by omega), ea 1005 (by omega), ea 1006 (by omega), ea 1007 (by omega)]
      exact st
theorem L_fault {K : Int32 → Int32 → Mem → Prop} (h : REL c g s) {x : Int32} (hK : ∀ v s', REL c g s' → K v v s') :
    wI (wp (d + 50)) m_X_fault [.ref 0, .int x] s (fun v s1 => wI (wp (d + 50)) m_M_fault [.ref 57, .int x] s1 (fun v' s2 => K v v' s2)) := by
  by_cases x0 : x = 0
  · subst x0; exact L_fault0 h hK
  by_cases x1 : x = 1
  · subst x1; exact L_fault1 h hK
  have no : ¬ (0 ≤ x.toInt ∧ x.toInt ≤ 1) := fun z => by
    obtain ⟨q, hq, rfl⟩ := inN (n := 1) z (by decide)
    rcases (show q = 0 ∨ q = 1 by omega) with rfl | rfl
    · exact x0 rfl
    · exact x1 rfl
  rw [e_X_fault, if_neg x0, if_neg x1, e_M_fault, mi1 (d := d + 48), decide_eq_false no, ifb, if_neg (by decide)]
  exact hK _ _ (REL_thr h (x := nI 0))
theorem L_text {K : Int32 → Int32 → Mem → Prop} (h : REL c g s) {x : Int32} (hK : ∀ v s' c' g', REL c' g' s' → K v v s') :
    wI (wp (d + 50)) m_X_text [.ref 0, .int x] s (fun v s1 => wI (wp (d + 50)) m_M_text [.ref 57, .int x] s1 (fun v' s2 => K v v' s2)) := by
  by_cases x0 : x = 0
  · subst x0; exact L_text0 h hK
  by_cases x1 : x = 1
  · subst x1; exact L_text1 h fun v s' h' => hK v s' c g h'
  have no : ¬ (0 ≤ x.toInt ∧ x.toInt ≤ 1) := fun z => by
    obtain ⟨q, hq, rfl⟩ := inN (n := 1) z (by decide)
    rcases (show q = 0 ∨ q = 1 by omega) with rfl | rfl
    · exact x0 rfl
    · exact x1 rfl
  rw [e_X_text, if_neg x0, if_neg x1, e_M_text, mi1 (d := d + 48), decide_eq_false no, ifb, if_neg (by decide)]
  exact hK _ _ c g (REL_thr h (x := nI 0))
end
