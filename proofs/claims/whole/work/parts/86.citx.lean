/-! fault(0), text(0) -/
section
variable {d c : Nat} {g : Gph} {T : Txt} {s : Mem}
theorem REL_new (hcc : isC c) (hg : gOk g) (h1 : s 0 1 = nI (c + 1)) (h2 : s 0 2 = nI (14 - c)) (hc : CityC c g s) (h6 : ∀ k, k < 20 → s (c + 6) k = nI 0) (hm : CityM g s) (h33 : s 57 33 = nI 0) (ht : TapR s) (hl : LawsR s) (hn : NowR g s) (a1 : s 33 2 = nI 0) (a2 : s 57 35 = nI 0) (i1 : s 33 4 = nI 0) (i2 : s 57 57 = nI 0) (t1 : s 42 2 = nI 0) (t2 : s 57 42 = nI 0) (n1 : s 45 4 = nI 0) (n2 : s 57 55 = nI 0) (hst : STA s) : REL c g s := by
  have h20 := gN_le hg
  refine ⟨⟨hcc, hg, h1, h2⟩, ⟨⟨hc, fun w a hw ha z => absurd z (by rw [h6 a (by omega), nI_eq (by omega) (by omega)]; omega)⟩, hm, h33⟩, ht, hl, hn, ⟨0, by decide, a1, a2, fun i hi => absurd hi (Nat.not_lt_zero i)⟩, ⟨false, i1, i2, fun z => by simp at z⟩, ⟨0, fun _ => 0, fun _ => nI 0, by decide, fun i hi => absurd hi (Nat.not_lt_zero i), ⟨t1, fun i hi => absurd hi (Nat.not_lt_zero i)⟩, ⟨t2, fun i hi => absurd hi (Nat.not_lt_zero i)⟩, fun _ => rfl⟩, ⟨(0, fun _ => 0, fun _ => 0, fun _ => 0, fun _ => false), ⟨by decide, fun i hi => absurd hi (Nat.not_lt_zero i)⟩, ⟨n1, fun i hi => absurd hi (Nat.not_lt_zero i)⟩, ⟨n2, fun i hi => absurd hi (Nat.not_lt_zero i)⟩⟩, hst⟩
theorem isC_o (h : isC c) : isC (13 - c) := by rcases h with rfl | rfl; exact Or.inr rfl; exact Or.inl rfl
theorem rl_ref2 (h : REL c g s) : s 0 2 = nI (13 - c + 1) := by
  have hcc := rl_isC h
  have e : s 0 2 = nI (14 - c) := h.1.2.2.2
  rw [e]
  rcases hcc with rfl | rfl <;> rfl
abbrev dR (c : Nat) : List Nat := [1, 13 - c, 13 - c + 1, 13 - c + 2, 13 - c + 3, 13 - c + 4, 13 - c + 6, 63, 64, 66, 67]
/-- a draft is no part of what holds -/
theorem REL_D {t : Mem} (h : REL c g s) (hf : frN (dR c) [0, 5, 8, 9, 10, 11, 27, 28, 29] s t) (ht : TapR t) : REL c g t := by
  have hcc := rl_isC h
  have no : ∀ a, (c ≤ a ∧ a ≤ c + 6) ∨ a = 0 ∨ a = 2 ∨ (17 ≤ a ∧ a ≤ 62) ∨ a = 65 ∨ 68 ≤ a → a ∉ dR c := fun a ha z => by
    simp only [List.mem_cons, List.not_mem_nil, or_false] at z
    rcases hcc with rfl | rfl <;> omega
  have e : ∀ a, (c ≤ a ∧ a ≤ c + 6) ∨ a = 0 ∨ a = 2 ∨ (17 ≤ a ∧ a ≤ 56) ∨ (58 ≤ a ∧ a ≤ 62) ∨ a = 65 ∨ 68 ≤ a → t a = s a := fun a ha => hf.1 a (no a (by omega)) (by rcases hcc with rfl | rfl <;> omega)
  have hlw := rl_laws h
  have hn := rl_now h
  have ha := rl_act h
  have hi := rl_img h
  have htr := rl_tr h
  have hnt := rl_nt h
  have n18 : ∀ a, a ∈ dR c → ¬ (18 ≤ a ∧ a ≤ 32) := fun a z => by
    simp only [List.mem_cons, List.not_mem_nil, or_false] at z
    rcases hcc with rfl | rfl <;> omega
  obtain ⟨⟨a1, a2, a3, a4⟩, ⟨b1, b2, b3⟩, _, _, _, _, _, _, _, c8⟩ := h
  refine ⟨⟨a1, a2, by rw [e 0 (by omega)]; exact a3, by rw [e 0 (by omega)]; exact a4⟩, ⟨?_, ?_, by rw [hf.2 33 (by decide)]; exact b3⟩, ht, LawsR_n hlw hf ⟨no _ (by omega), n18, no _ (by omega), no _ (by omega)⟩ (by decide), NowR_n hn hf ⟨no _ (by omega), no _ (by omega)⟩, ActR_n ha hf ⟨no _ (by omega), no _ (by omega), no _ (by omega)⟩ (by decide), ImgR_n hi hf ⟨no _ (by omega), no _ (by omega), no _ (by omega)⟩ (by decide), TrR_n htr hf ⟨no _ (by omega), no _ (by omega), no _ (by omega), no _ (by omega), no _ (by omega)⟩ (by decide), NtR_n hnt hf ⟨no _ (by omega), no _ (by omega), no _ (by omega), no _ (by omega), no _ (by omega), no _ (by omega), no _ (by omega), no _ (by omega), no _ (by omega)⟩ (by decide), ?_⟩
  · unfold CityF CityC FarC at *
    rw [e c (by omega), e (c + 3) (by omega), e (c + 4) (by omega), e (c + 5) (by omega), e (c + 6) (by omega)]
    exact b1
  · unfold CityM at *
    rw [hf.2 24 (by decide), hf.2 25 (by decide), hf.2 26 (by decide), e 62 (by omega), e 65 (by omega)]
    exact b2
  · unfold STA at *
    rw [e 1001 (by omega), e 1002 (by omega), e 1003 (by omega), e 1004 (by omega), e 1005 (by omega), e 1006 (by omega), e 1007 (by omega)]
    exact c8
theorem x_read0 {K : Int32 → Mem → Prop} (h : REL c g s) (hT : TxOk T) (t1 : s 1 1 = nI T.2) (t3 : ∀ k, k < T.2 → s 2 k = nI (T.1 k)) (hK : CTc T (13 - c) (citP T) s K) : wI (wp (d + 49)) m_X_read [.ref 0, .int 0] s K := by
  have hcc := rl_isC h
  have hco := isC_o hcc
  rw [e_X_read, if_pos rfl, rl_ref2 h, cref hco, crefc hco]
  refine c_readFrom hT hco (rl_sta h) (by omega) t1 t3 ?_
  revert hK
  cases citP T with
  | inl f =>
    intro hK s' f' g'
    rw [if_pos (by decide)]
    exact hK s' f' g'
  | inr x =>
    intro hK s' p f' g' r' w' c' z' e'
    rw [if_pos (by decide)]
    exact hK s' p f' g' r' w' c' z' e'
/-- the reference's reading -/
theorem m_fault0 {KK : Int32 → Mem → Prop} {u : Mem} (hT : TxOk T) (h6 : u 57 6 = nI T.2) (hb : ∀ j, j < T.2 → u 58 j = byI (T.1 j)) (hK : match citP T with
    | .inl f => ∀ w, frN [63, 64, 66, 67] [0, 5, 8, 9, 10, 11, 27, 28, 29] u w → KK (nI f) w
    | .inr x => ∀ w, frN [63, 64, 66, 67] [0, 5, 8, 9, 10, 11, 27, 28, 29] u w → DM x w → RawOk x → whoC x = true → KK m1 w) : wI (wp (d + 49)) m_M_fault [.ref 57, .int 0] u KK := by
  rw [e_M_fault, mi1 (d := d + 47), decide_eq_true (by decide), ifb, if_pos rfl, if_pos rfl]
  refine m_readCity hT (by omega) (by rw [up_pl (by decide)]; exact h6) (fun j hj => by rw [up_ce (by decide)]; exact hb j hj) ?_
  have fw : ∀ {w : Mem}, fQ (upM u 57 0 0) w → frN [63, 64, 66, 67] [0, 5, 8, 9, 10, 11, 27, 28, 29] u w := fun f => frN_t (frN_v (by simp)) (frN_w f (fun _ z => z) (fun _ z => List.mem_cons_of_mem _ z))
  revert hK
  cases citP T with
  | inl f =>
    intro hK w f' e
    rw [e]
    exact hK w (fw f')
  | inr x =>
    intro hK w f' e hD hr hw
    rw [e]
    exact hK w (fw f') hD hr hw
theorem L_fault0 {K : Int32 → Int32 → Mem → Prop} (h : REL c g s) (hK : ∀ v s', REL c g s' → K v v s') :
    wI (wp (d + 50)) m_X_fault [.ref 0, .int 0] s (fun v s1 => wI (wp (d + 50)) m_M_fault [.ref 57, .int 0] s1 (fun v' s2 => K v v' s2)) := by
  obtain ⟨T, hT, t1, t2, t3, t4⟩ := rl_tap h
  have hcc := rl_isC h
  have e : ∀ {u : Mem}, fT (13 - c) s u → u 57 = s 57 ∧ u 58 = s 58 ∧ u 2 = s 2 := fun f => by
    refine ⟨f 57 ?_, f 58 ?_, f 2 ?_⟩ <;> (simp only [List.mem_cons, List.not_mem_nil, or_false]; rcases hcc with rfl | rfl <;> omega)
  have mM : ∀ (u : Mem) (v : Int32), fT (13 - c) s u → u 1 1 = nI T.2 → (match citP T with
      | .inl f => v = nI f
      | .inr _ => v = m1) → wI (wp (d + 50)) m_M_fault [.ref 57, .int 0] u (fun v' s2 => K v v' s2) := by
    intro u v fu e11 hv
    obtain ⟨e57, e58, e2⟩ := e fu
    have tapR : ∀ w, frN [63, 64, 66, 67] [0, 5, 8, 9, 10, 11, 27, 28, 29] u w → REL c g w := fun w fw => by
      refine REL_D h (frN_t (frN_w (frN_f (J := []) fu (by simp only [List.mem_cons, List.not_mem_nil, or_false]; rcases hcc with rfl | rfl <;> omega)) (fun a z => by simp only [List.mem_cons, List.not_mem_nil, or_false] at z ⊢; omega) (by simp)) (frN_w fw (fun a z => by simp only [List.mem_cons, List.not_mem_nil, or_false] at z ⊢; omega) (fun _ z => z))) ⟨T, hT, ?_, ?_, fun k hk => ?_, fun k hk => ?_⟩
      · rw [fw.1 1 (by decide) (by decide)]; exact e11
      · rw [fw.2 6 (by decide), e57]; exact t2
      · rw [fw.1 2 (by decide) (by decide), e2]; exact t3 k hk
      · rw [fw.1 58 (by decide) (by decide), e58]; exact t4 k hk
    refine m_fault0 (d := d + 1) hT (by rw [e57]; exact t2) (fun j hj => by rw [e58]; exact t4 j hj) ?_
    revert hv
    cases citP T with
    | inl f =>
      intro hv w fw
      rw [hv]
      exact hK _ _ (tapR w fw)
    | inr x =>
      intro hv w fw _ _ _
      rw [hv]
      exact hK _ _ (tapR w fw)
  rw [e_X_fault, if_pos rfl]
  refine x_read0 h hT t1 t3 ?_
  cases hl : citP T with
  | inl f =>
    intro u fu gu
    rw [e_T_firstWrong, gu.2.2.1]
    exact mM u _ fu gu.1 (by rw [hl])
  | inr x =>
    intro u p fu gu _ _ _ _ _
    rw [e_T_firstWrong, gu.2.2.1]
    exact mM u _ fu gu.1 (by rw [hl])
/-- the reference takes a city over -/
theorem m_layCity {K : Int32 → Mem → Prop} {x : RawC} {w : Mem} (hD : DM x w) (hr : RawOk x) (hw : whoC x = true) (h24 : w 57 24 = nI (rR x)) (h25 : w 57 25 = nI (rW x 0)) (h26 : w 57 26 = nI (rS x)) {v1 v2 v4 : Value}
    (hK : ∀ t, frN [62, 65, 68] [32, 42, 55, 35, 57] w t → CityM (gph x) t → t 57 32 = m1 → (t 68 0 = nI 0 ∧ t 68 1 = nI 0 ∧ t 68 2 = nI 0 ∧ t 68 3 = nI (rD x) ∧ t 68 4 = ((1 : Int32) <<< (nI (rS x) &&& 31)) - 1) → t 57 42 = nI 0 → t 57 55 = nI 0 → t 57 35 = nI 0 → t 57 57 = nI 0 → K (nI (cnt (gst (gph x)) (gN (gph x)))) t) : RnI (d + 3) m_M_text K 143 [.ref 57, v1, v2, .int (nI 0), v4] [] w := by
  obtain ⟨d0, d2, d3, dr, di, dd⟩ := hD
  have hgo := gph_ok hr hw
  obtain ⟨r1, r2, r3, r4, r5⟩ := hr
  obtain ⟨w1, w2, w3, w4⟩ := of_decide_eq_true hw
  have hW := r2 0 w1
  -- the sources
  have l4 : ∀ (n i : Nat) (t : Mem) (v1 v2 v4 : Value), i + n = 36 → frN [62, 65] [] w t → (∀ k, k < gN (gph x) → t 62 k = b01 (gst (gph x) k)) → (∀ k, k < i → t 65 k = w 66 k) → RnI (d + 3) m_M_text K 223 [.ref 57, v1, v2, .int (nI i), v4] [] t := by
    intro n
    induction n with
    | zero =>
      intro i t v1 v2 v4 hi hf h62 h65
      obtain rfl : i = 36 := by omega
      rw [r_M_text_223, if_neg (show ¬ nI 36 < 36 by decide), hf.2 26 (by decide), h26, hf.1 67 (by decide) (by decide), dd]
      generalize hu : (upM (upM (upM (upM (upM (upM (upM (upM (upM (upM t 57 32 (-1)) 68 0 0) 68 1 0) 68 2 0) 68 3 (nI (rD x))) 68 4 (((1 : Int32) <<< (nI (rS x) &&& 31)) - 1)) 57 42 0) 57 55 0) 57 35 0) 57 57 0) = u
      have fu : frN [68] [32, 42, 55, 35, 57] t u := by
        rw [← hu]
        exact frN_t (frN_v (by simp)) (frN_t (frN_u (by simp) (by decide)) (frN_t (frN_u (by simp) (by decide)) (frN_t (frN_u (by simp) (by decide)) (frN_t (frN_u (by simp) (by decide)) (frN_t (frN_u (by simp) (by decide)) (frN_t (frN_v (by simp)) (frN_t (frN_v (by simp)) (frN_t (frN_v (by simp)) (frN_v (by simp))))))))))
      have hcm : CityM (gph x) u := by
        refine ⟨?_, ?_, ?_, fun k hk => ?_, fun k j hk hj => ?_⟩
        · rw [fu.2 24 (by decide), hf.2 24 (by decide)]; exact h24
        · rw [fu.2 25 (by decide), hf.2 25 (by decide)]; exact h25
        · rw [fu.2 26 (by decide), hf.2 26 (by decide)]; exact h26
        · rw [fu.1 62 (by decide) (by decide)]; exact h62 k hk
        · have hk' : k < rS x := hk
          rw [fu.1 65 (by decide) (by decide), h65 _ (by omega)]; exact di k j hk hj
      rw [m_streetMany (d := d) hgo hcm]
      refine hK u (frN_t (frN_w hf (by simp) (by simp)) (frN_w fu (by simp) (fun _ z => z))) hcm ?_ ⟨?_, ?_, ?_, ?_, ?_⟩ ?_ ?_ ?_ ?_ <;> (rw [← hu]; simp [upM]; try rfl)
    | succ n ih =>
      intro i t v1 v2 v4 hi hf h62 h65
      rw [r_M_text_223]
      simp (disch := omega) only [↓n_m1, ↓n_hid, q0, q1, q2, q3, q4, q5, q6, q7, q8, q9, q10, q11, q12, q13, q14, q15, q16, q17, q18, q19, q20, q21, q22, q23, q24, q25, q26, q27, q28, q29, q30, q31, q32, q33, q34, q35, q36, q37, q38, q39, q40, q41, q42, q43, q44, q45, q46, q47, q48, q49, q50, q51, q52, q53, q54, q55, q56, q57, q58, q59, q61, q62, q63, q64, q66, q67, q68, q69, q70, q71, q91, q93, q99, q100, q102, q104, q107, q108, q112, q114, q115, q119, q121, q124, q160, q200, q255, q640, q999, q1000, q2000, q4096, n_of, nI_ltI, nI_leI, nI_eq, nI_clamp, nI_add, pk_mul, n_sub, m1_eq, m1_eq2, m1_lt, m1_lt2, gdN, Nat.not_lt_zero, false_or, if_true, if_false, if_pos, if_neg, cond_true, cond_false, beq_self, and_self, true_and, and_true, not_true_eq_false, not_false_eq_true, ne_eq]
      refine ih (i + 1) _ _ _ _ (by omega) (frN_t hf (frN_u (by simp) (by decide))) (fun k hk => by rw [up_ce (by decide)]; exact h62 k hk) fun k hk => ?_
      by_cases e : k = i
      · rw [e, up_at, hf.1 66 (by decide) (by decide)]
      · rw [up_pl e]; exact h65 k (by omega)
  -- the streets
  have l3 : ∀ (r : Nat), r < rR x → (∀ (t : Mem) (v1 v2 v4 : Value), frN [62] [] w t → (∀ k, k < (r + 1) * rW x 0 → t 62 k = b01 (gst (gph x) k)) → RnI (d + 3) m_M_text K 164 [.ref 57, v1, v2, .int (nI (r + 1)), v4] [] t) →
      ∀ (n i : Nat) (t : Mem) (v1 v2 : Value), i + n = rW x 0 → frN [62] [] w t → (∀ k, k < r * rW x 0 + i → t 62 k = b01 (gst (gph x) k)) → RnI (d + 3) m_M_text K 175 [.ref 57, v1, v2, .int (nI r), .int (nI i)] [] t := by
    intro r hr hnext n
    have hrW : r * rW x 0 ≤ 15 := mul_le20 (show r ≤ 3 by omega) hW.2
    induction n with
    | zero =>
      intro i t v1 v2 hi hf h62
      obtain rfl : i = rW x 0 := by omega
      rw [r_M_text_175, hf.2 25 (by decide), h25, if_neg (show ¬ nI (rW x 0) < nI (rW x 0) by rw [nI_ltI (by omega) (by omega)]; omega), show nI r + 1 = nI (r + 1) from nI_add r 1]
      exact hnext t _ _ _ hf fun k hk => h62 k (by rw [Nat.add_mul] at hk; omega)
    | succ n ih =>
      intro i t v1 v2 hi hf h62
      have e63 : t 63 (5 * r + i) = b01 (rT x r i) := by
        rw [hf.1 63 (by decide) (by decide)]
        exact (dr r hr).2 i (by rw [w3 r hr]; omega)
      have hm : rW x 0 * r + i = r * rW x 0 + i := by rw [Nat.mul_comm]
      rw [r_M_text_175, hf.2 25 (by decide), h25]
      simp (disch := omega) only [↓n_m1, ↓n_hid, q0, q1, q2, q3, q4, q5, q6, q7, q8, q9, q10, q11, q12, q13, q14, q15, q16, q17, q18, q19, q20, q21, q22, q23, q24, q25, q26, q27, q28, q29, q30, q31, q32, q33, q34, q35, q36, q37, q38, q39, q40, q41, q42, q43, q44, q45, q46, q47, q48, q49, q50, q51, q52, q53, q54, q55, q56, q57, q58, q59, q61, q62, q63, q64, q66, q67, q68, q69, q70, q71, q91, q93, q99, q100, q102, q104, q107, q108, q112, q114, q115, q119, q121, q124, q160, q200, q255, q640, q999, q1000, q2000, q4096, n_of, nI_ltI, nI_leI, nI_eq, nI_clamp, nI_add, pk_mul, n_sub, m1_eq, m1_eq2, m1_lt, m1_lt2, gdN, Nat.not_lt_zero, false_or, if_true, if_false, if_pos, if_neg, cond_true, cond_false, beq_self, and_self, true_and, and_true, not_true_eq_false, not_false_eq_true, ne_eq, e63]
      rw [hm]
      refine ih (i + 1) _ _ _ (by omega) (frN_t hf (frN_u (by simp) (by decide))) fun k hk => ?_
      by_cases e : k = r * rW x 0 + i
      · rw [e, up_at]
        have hi2 : i < rW x 0 := by omega
        show _ = b01 (rT x ((r * rW x 0 + i) / rW x 0) ((r * rW x 0 + i) % rW x 0))
        rw [(dm_of hi2).1, (dm_of hi2).2]
        cases rT x r i <;> decide
      · rw [up_pl e]; exact h62 k (by omega)
  have l2 : ∀ (n i : Nat) (t : Mem) (v1 v2 v4 : Value), i + n = rR x → frN [62] [] w t → (∀ k, k < i * rW x 0 → t 62 k = b01 (gst (gph x) k)) → RnI (d + 3) m_M_text K 164 [.ref 57, v1, v2, .int (nI i), v4] [] t := by
    intro n
    induction n with
    | zero =>
      intro i t v1 v2 v4 hi hf h62
      obtain rfl : i = rR x := by omega
      rw [r_M_text_164, hf.2 24 (by decide), h24, if_neg (show ¬ nI (rR x) < nI (rR x) by rw [nI_ltI (by omega) (by omega)]; omega), show (0 : Int32) = nI 0 from rfl]
      exact l4 36 0 t _ _ _ rfl (frN_w hf (by simp) (by simp)) h62 (fun k hk => absurd hk (Nat.not_lt_zero k))
    | succ n ih =>
      intro i t v1 v2 v4 hi hf h62
      rw [r_M_text_164, hf.2 24 (by decide), h24, if_pos (show nI i < nI (rR x) by rw [nI_ltI (by omega) (by omega)]; omega), show (0 : Int32) = nI 0 from rfl]
      exact l3 i (by omega) (fun t' v1 v2 v4 hf' h' => ih (i + 1) t' _ _ _ (by omega) hf' h') (rW x 0) 0 t _ _ (by omega) hf fun k hk => h62 k hk
  have l1 : ∀ (n i : Nat) (t : Mem) (v1 v2 v4 : Value), i + n = 20 → frN [62] [] w t → RnI (d + 3) m_M_text K 143 [.ref 57, v1, v2, .int (nI i), v4] [] t := by
    intro n
    induction n with
    | zero =>
      intro i t v1 v2 v4 hi hf
      obtain rfl : i = 20 := by omega
      rw [r_M_text_143, if_neg (show ¬ nI 20 < 20 by decide), show (0 : Int32) = nI 0 from rfl]
      exact l2 (rR x) 0 t _ _ _ (by omega) hf (fun k hk => by rw [Nat.zero_mul] at hk; exact absurd hk (Nat.not_lt_zero k))
    | succ n ih =>
      intro i t v1 v2 v4 hi hf
      rw [r_M_text_143]
      simp (disch := omega) only [↓n_m1, ↓n_hid, q0, q1, q2, q3, q4, q5, q6, q7, q8, q9, q10, q11, q12, q13, q14, q15, q16, q17, q18, q19, q20, q21, q22, q23, q24, q25, q26, q27, q28, q29, q30, q31, q32, q33, q34, q35, q36, q37, q38, q39, q40, q41, q42, q43, q44, q45, q46, q47, q48, q49, q50, q51, q52, q53, q54, q55, q56, q57, q58, q59, q61, q62, q63, q64, q66, q67, q68, q69, q70, q71, q91, q93, q99, q100, q102, q104, q107, q108, q112, q114, q115, q119, q121, q124, q160, q200, q255, q640, q999, q1000, q2000, q4096, n_of, nI_ltI, nI_leI, nI_eq, nI_clamp, nI_add, pk_mul, n_sub, m1_eq, m1_eq2, m1_lt, m1_lt2, gdN, Nat.not_lt_zero, false_or, if_true, if_false, if_pos, if_neg, cond_true, cond_false, beq_self, and_self, true_and, and_true, not_true_eq_false, not_false_eq_true, ne_eq]
      exact ih (i + 1) _ _ _ _ (by omega) (frN_t hf (frN_u (by simp) (by decide)))
  exact l1 20 0 w _ _ _ rfl frN_r
end
