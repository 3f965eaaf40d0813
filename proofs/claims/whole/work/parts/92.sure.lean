/-! sure() -/
section
variable {d c : Nat} {g : Gph} {W : Wth} {P Q : Mem → Prop} {lv : Value} {Ll : List Nat} {w : Nat} {rn : Bool} {dl hr : Nat} {o : Int32} {s : Mem}
theorem q_nowsX {K : Int32 → Mem → Prop} (h : QQ c g W P Q lv Ll w rn dl hr o s) {t : Nat} {sd : Nat → Nat} {bt : Nat → Int32} (ht : t ≤ 12) (hsd : ∀ i, i < t → sd i < 5) (hM : TrM t sd bt s)
    (hK : ∀ s', fr c Ll s s' → QQ c g W P Q lv Ll w rn dl hr o s' → s' 77 = s 77 → K (fits g (brI g W (hr % 24) rn w dl o none) bt sd t true) s') :
    wI (wp (d + 36)) m_M_nowsOf [.ref 57, .int (b01 false)] s K := by
  have hg := qq_gOk h
  rw [e_M_nowsOf]
  refine q_layNow (d := d) h ?_
  intro s3 f hh3 hS hB hfine
  have e75 : s3 75 = s 75 ∧ s3 76 = s 76 := ⟨f.1 75 (scA_no (qq_isC h) (HlC_L (qq_hl h)) (by omega)) (by decide), f.1 76 (scA_no (qq_isC h) (HlC_L (qq_hl h)) (by omega)) (by decide)⟩
  refine Eq.mpr (m_nowsOf_l (d := d + 30) hg (qq_cm hh3) ht hsd (by unfold TrM at *; rw [e75.1, e75.2, f.2 42 (by decide)]; exact hM) (gN g) 0 _ _ (by omega)) ?_
  have ev : itr (fitB g (s3 73) bt sd t (! false)) (gN g) 0 (nI 0) = fits g (brI g W (hr % 24) rn w dl o none) bt sd t true := fits_e (br := s3 73) hB
  exact (congrArg (fun v => K v s3) ev).mpr (hK s3 f hh3 (hfine 77 (by decide) (by decide)))
theorem pk_z : pkI g (nI 0) = nI 0 := by
  refine tb_ext fun e _ => ?_
  rw [tb_0]
  exact orH_hi (N := 0) (by decide) (fun k hk hp => by
    have := (Bool.and_eq_true_iff.mp hp).2
    rw [tb_0] at this
    simp at this) (Nat.zero_le e)
/-- what is answered, by those who may be here -/
def suV (g : Gph) (p q : Nat) (nows : Int32) : Int32 := if nows = nI 0 then m1 else bRes (2 ^ num g p) q (bAll (mv g) (2 ^ num g p) (2 ^ num g (gN g) + 1) 0 (b0 (pk g nows)))
theorem m_sure_l {K : Int32 → Mem → Prop} (h : QQ c g W P Q lv Ll w rn dl hr o s) {t : Nat} {sd : Nat → Nat} {bt : Nat → Int32} (ht : t ≤ 12) (hsd : ∀ i, i < t → sd i < 5) (hM : TrM t sd bt s) (hN : num g (gN g) ≤ 12) {p q : Nat} (hp : p < gN g) (hps : gst g p = true) (hq : q ≤ 1)
    (hK : ∀ s', fr c Ll s s' → QQ c g W P Q lv Ll w rn dl hr o s' → K (suV g p q (fits g (brI g W (hr % 24) rn w dl o none) bt sd t true)) s') {v1 v6 v7 v8 v9 v10 v11 : Value} :
    RnI (d + 49) m_M_sure K 47 [.ref 57, v1, .int (nI q), .int (nI p), .int (nI 0), .int (nI 0), v6, v7, v8, v9, v10, v11] [] s := by
  have hg := qq_gOk h
  have h20 := gN_le hg
  have hcc := qq_isC h
  have hL := HlC_L (qq_hl h)
  have hB : 2 ^ num g (gN g) ≤ 4096 := Nat.le_trans (Nat.pow_le_pow_right (by decide) hN) (by decide)
  have hpn := num_lt hp hps
  have hgoal : 2 ^ num g p < 2 ^ num g (gN g) := Nat.pow_lt_pow_right (by decide) hpn
  have sc : ∀ {L : List Nat}, (∀ a, a ∈ L → 77 ≤ a ∧ a ≤ 80) → ∀ {u v : Mem}, QQ c g W P Q lv Ll w rn dl hr o u → frN L [] u v → fr c Ll u v ∧ QQ c g W P Q lv Ll w rn dl hr o v := by
    intro L hl u v hu hf
    exact QQ_m hu hf (fun a z => by have := hl a z; omega) (fun a z => scA_m (by have := hl a z; omega)) (by simp) (by rw [hf.2 33 (by simp)]; exact qq_x33 hu)
  -- the numbers
  have lp : ∀ (n i : Nat) (u : Mem) (v1 v6 v7 v8 v9 v10 v11 : Value), i + n = gN g → frN [77] [] s u → (∀ k, k < i → u 77 k = nI (num g k)) → RnI (d + 49) m_M_sure K 47 [.ref 57, v1, .int (nI q), .int (nI p), .int (nI (num g i)), .int (nI i), v6, v7, v8, v9, v10, v11] [] u := by
    intro n
    induction n with
    | zero =>
      intro i u v1 v6 v7 v8 v9 v10 v11 hi hf hu
      obtain rfl : i = gN g := by omega
      obtain ⟨f1, h1⟩ := sc (L := [77]) (by simp) h hf
      rw [r_M_sure_47, m_cells (d := d + 48) (qq_cm h1), if_neg (show ¬ nI (gN g) < nI (gN g) by rw [nI_ltI (by omega) (by omega)]; omega)]
      refine q_nowsX (d := d + 13) h1 ht hsd (TrM_n hcc hL f1 hM) ?_
      intro s2 f2 h2 e77
      have n2 : NM g s2 := fun k hk => by rw [e77]; exact hu k hk
      have f12 := fr_t f1 f2
      generalize hnows : fits g (brI g W (hr % 24) rn w dl o none) bt sd t true = nows at hK ⊢
      have hsub : ∀ e, tb nows e = true → e < gN g ∧ gst g e = true := fun e he => fits_st (g := g) hg (by rw [hnows]; exact he)
      rw [m_among51 (by omega) hg (qq_cm h2) n2 hsub]
      unfold suV at hK
      by_cases hz : nows = nI 0
      · rw [if_pos hz] at hK
        rw [hz, pk_z, if_pos (show nI 0 = 0 from rfl)]
        exact hK s2 f12 h2
      · rw [if_neg hz] at hK
        have hp0 := pk_0 hN hsub hz
        obtain ⟨hk1, hk2⟩ := pk_ok hN nows
        rw [hk1] at hp0
        have egoal : (1 : Int32) <<< (s2 77 p &&& 31) = nI (2 ^ num g p) := by rw [n2 p hp]; exact bit_n _ (by omega)
        rw [hk1, if_neg (show ¬ nI (pk g nows) = 0 from hp0)]
        rw [show (nI p).toNatClampNeg = p from nI_clamp (by omega), egoal, if_neg (show ¬ (nI p < 0 ∨ 20 ≤ p) by rw [q0, nI_ltI (by omega) (by omega)]; omega)]
        by_cases hsg : pk g nows = 2 ^ num g p
        · rw [if_pos (by rw [hsg])]
          have hr1 : bR (b0 (pk g nows)) (2 ^ num g p) = 1 := if_pos hsg.symm
          have := hK s2 f12 h2
          rw [bAll_stop _ _ _ (by rw [hr1]; decide)] at this
          unfold bRes at this
          rw [hr1, if_neg (by decide)] at this
          by_cases hq0 : q = 0
          · rw [if_pos hq0] at this; exact this
          · rw [if_neg hq0] at this; exact this
        · rw [if_neg (show ¬ nI (pk g nows) = nI (2 ^ num g p) by rw [nI_eq (by omega) (by omega)]; exact hsg)]
          -- nothing reached yet
          have l2 : ∀ (m j : Nat) (u : Mem) (v1 v3 v8 v9 v10 v11 : Value), j + m = 2 ^ num g (gN g) → frN [78] [] s2 u → (∀ x, x < j → u 78 x = m1) → RnI (d + 49) m_M_sure K 131 [.ref 57, v1, .int (nI q), v3, .int (nI (num g (gN g))), .int (nI (pk g nows)), .int (nI (2 ^ num g p)), .int (nI j), v8, v9, v10, v11] [] u := by
            intro m
            induction m with
            | zero =>
              intro j u v1 v3 v8 v9 v10 v11 hj hf hu
              obtain rfl : j = 2 ^ num g (gN g) := by omega
              rw [r_M_sure_131, show (1 : Int32) <<< (nI (num g (gN g)) &&& 31) = nI (2 ^ num g (gN g)) from bit_n _ (by omega), if_neg (show ¬ nI (2 ^ num g (gN g)) < nI (2 ^ num g (gN g)) by rw [nI_ltI (by omega) (by omega)]; omega), show (nI (pk g nows)).toNatClampNeg = pk g nows from nI_clamp (by omega), if_neg (show ¬ (nI (pk g nows) < 0 ∨ 4096 ≤ pk g nows) by rw [q0, nI_ltI (by omega) (by omega)]; omega), show (1 : Int32) = nI 1 from rfl, show (0 : Int32) = nI 0 from rfl]
              have fu : frN [78, 79, 80] [] s2 (upM (upM u 78 (pk g nows) (nI 0)) 80 0 (nI (pk g nows))) := frN_t (frN_w hf (by simp) (by simp)) (frN_t (frN_u (by simp) (by decide)) (frN_u (by simp) (by decide)))
              obtain ⟨f3, h3⟩ := sc (L := [78, 79, 80]) (by simp) h2 fu
              refine m_search_l (s := upM (upM u 78 (pk g nows) (nI 0)) 80 0 (nI (pk g nows))) (st := pk g nows) (goal := 2 ^ num g p) (what := q) (TOT := bAll (mv g) (2 ^ num g p) (2 ^ num g (gN g) + 1) 0 (b0 (pk g nows))) hg hN (qq_cm h3) (fun k hk => by rw [fu.1 77 (by decide) (by decide)]; exact n2 k hk) hgoal hq (by omega) ?_ (2 ^ num g (gN g) + 1) 0 (b0 (pk g nows)) _ _ _ _ _ _ _ _ (by omega) (by omega) (BI_0 hk2) ⟨fun x hx => ?_, fun x hx hr hxs => ?_, fun i hi => ?_⟩ (if_neg (fun z => hsg z.symm)) frN_r rfl
              · intro s' f'
                obtain ⟨f4, h4⟩ := sc (L := [78, 79, 80]) (by simp) h3 f'
                exact hK s' (fr_t f12 (fr_t f3 f4)) h4
              · rw [up_ce (show 78 ≠ 80 by decide)]
                show _ = r78 (if x = pk g nows then 1 else 0)
                by_cases e : x = pk g nows
                · rw [if_pos e, e, up_at]; rfl
                · rw [if_neg e, up_pl e]; exact hu x hx
              · have hr' : (if x = pk g nows then 1 else 0) ≠ 0 := hr
                exact absurd (if_neg hxs) hr'
              · have hi' : i < 1 := hi
                obtain rfl : i = 0 := by omega
                rw [up_at]; rfl
            | succ m ihm =>
              intro j u v1 v3 v8 v9 v10 v11 hj hf hu
              rw [r_M_sure_131, show (1 : Int32) <<< (nI (num g (gN g)) &&& 31) = nI (2 ^ num g (gN g)) from bit_n _ (by omega), if_pos (show nI j < nI (2 ^ num g (gN g)) by rw [nI_ltI (by omega) (by omega)]; omega), show (nI j).toNatClampNeg = j from nI_clamp (by omega), if_neg (show ¬ (nI j < 0 ∨ 4096 ≤ j) by rw [q0, nI_ltI (by omega) (by omega)]; omega), show nI j + 1 = nI (j + 1) from nI_add j 1]
              refine ihm (j + 1) _ _ _ _ _ _ _ (by omega) (frN_t hf (frN_u (by simp) (by decide))) fun x hx => ?_
              by_cases e : x = j
              · rw [e, up_at]; rfl
              · rw [up_pl e]; exact hu x (by omega)
          exact l2 (2 ^ num g (gN g)) 0 s2 _ _ _ _ _ _ (by omega) frN_r fun x hx => absurd hx (Nat.not_lt_zero x)
    | succ n ih =>
      intro i u v1 v6 v7 v8 v9 v10 v11 hi hf hu
      obtain ⟨f1, h1⟩ := sc (L := [77]) (by simp) h hf
      have go : ∀ (y : Nat) (v1 v6 v7 v8 v9 v10 v11 : Value), y = num g (i + 1) → RnI (d + 49) m_M_sure K 47 [.ref 57, v1, .int (nI q), .int (nI p), .int (nI y), .int (nI (i + 1)), v6, v7, v8, v9, v10, v11] [] (upM u 77 i (nI (num g i))) := by
        intro y v1 v6 v7 v8 v9 v10 v11 hy
        rw [hy]
        refine ih (i + 1) _ _ _ _ _ _ _ _ (by omega) (frN_t hf (frN_u (by simp) (by decide))) fun k hk => ?_
        by_cases e : k = i
        · rw [e, up_at]
        · rw [up_pl e]; exact hu k (by omega)
      rw [r_M_sure_47, m_cells (d := d + 48) (qq_cm h1)]
      simp (disch := omega) only [↓n_m1, ↓n_hid, q0, q1, q2, q3, q4, q5, q6, q7, q8, q9, q10, q11, q12, q13, q14, q15, q16, q17, q18, q19, q20, q21, q22, q23, q24, q25, q26, q27, q28, q29, q30, q31, q32, q33, q34, q35, q36, q37, q38, q39, q40, q41, q42, q43, q44, q45, q46, q47, q48, q49, q50, q51, q52, q53, q54, q55, q56, q57, q58, q59, q61, q62, q63, q64, q66, q67, q68, q69, q70, q71, q91, q93, q99, q100, q102, q104, q107, q108, q112, q114, q115, q119, q121, q124, q160, q200, q255, q640, q999, q1000, q2000, q4096, n_of, nI_ltI, nI_leI, nI_eq, nI_clamp, nI_add, pk_mul, n_sub, m1_eq, m1_eq2, m1_lt, m1_lt2, gdN, Nat.not_lt_zero, false_or, if_true, if_false, if_pos, if_neg, cond_true, cond_false, beq_self, and_self, true_and, and_true, not_true_eq_false, not_false_eq_true, ne_eq, (qq_cm h1).2.2.2.1 i (by omega), b01_0]
      cases hs : gst g i with
      | false =>
        rw [if_pos rfl]
        exact go _ _ _ _ _ _ _ _ (by rw [num_S, if_neg (by rw [hs]; decide)])
      | true =>
        rw [if_neg (by decide)]
        exact go _ _ _ _ _ _ _ _ (by rw [num_S, if_pos hs])
  exact lp (gN g) 0 s _ _ _ _ _ _ _ (by omega) frN_r fun k hk => absurd hk (Nat.not_lt_zero k)
theorem f_sure {K : Int32 → Int32 → Mem → Prop} (h : QQ c g W P Q lv Ll w rn dl hr o s) {t : Nat} {sd : Nat → Nat} {bt : Nat → Int32} (ht : t ≤ 12) (hsd : ∀ i, i < t → sd i < 5) (hC : TrC t sd bt s) (hM : TrM t sd bt s) {x y : Int32} (hK : ∀ v s', fr c Ll s s' → QQ c g W P Q lv Ll w rn dl hr o s' → K v v s') :
    wI (wp (d + 50)) m_X_sure [.ref 0, .int x, .int y] s (fun v s1 => wI (wp (d + 50)) m_M_sure [.ref 57, .int x, .int y] s1 (fun v' s2 => K v v' s2)) := by
  have hg := qq_gOk h
  have h20 := gN_le hg
  have hcc := qq_isC h
  have hL := HlC_L (qq_hl h)
  have h16 := C_le hcc
  have hnum : num g (gN g) = cnt (gst g) (gN g) := rfl
  have hn20 : num g (gN g) ≤ 20 := Nat.le_trans (cnt_le _ _) h20
  rw [e_X_sure, qq_ref h, cref hcc, crefc hcc, c_streetOf (d := d + 46) hcc hg (qq_cf h).1]
  obtain ⟨t1, t2⟩ := q_thr h (x := nI 0)
  cases hst : stc g x with
  | none =>
    rw [if_pos (show oI none = -1 from rfl), e_M_sure, show (0 : Int32) = nI 0 from rfl, m_streetAt (d := d + 47) hg (qq_cm t2), hst, if_pos (show oI none = -1 from rfl)]
    exact hK _ _ t1 t2
  | some p =>
    obtain ⟨hp, hps⟩ := stc_some hst
    have ep : oI (some p) = nI p := rfl
    have np : ¬ oI (some p) = -1 := fun z => by rw [ep, n_m1, m1_eq (by omega)] at z; exact z
    rw [if_neg np]
    by_cases hy : 0 ≤ y.toInt ∧ y.toInt ≤ 1
    · obtain ⟨q, hq1, rfl⟩ := inN (n := 1) hy (by decide)
      have dec : decide (0 ≤ (nI q).toInt ∧ (nI q).toInt ≤ 1) = true := decide_eq_true hy
      -- the reference
      have mM : ∀ (u : Mem) (v : Int32), fr c Ll s u → QQ c g W P Q lv Ll w rn dl hr o u → (v = if num g (gN g) ≤ 12 then suV g p q (fits g (brI g W (hr % 24) rn w dl o none) bt sd t true) else -1000000) → wI (wp (d + 50)) m_M_sure [.ref 57, .int x, .int (nI q)] u (fun v' s2 => K v v' s2) := by
        intro u v fu hu hv
        obtain ⟨u1, u2⟩ := q_thr hu (x := nI 0)
        rw [e_M_sure, show (0 : Int32) = nI 0 from rfl, m_streetAt (d := d + 47) hg (qq_cm u2), hst, if_neg np, show (0 : Int64) = 0 from rfl, mi1 (d := d + 48), dec, if_neg (show ¬ b01 true = nI 0 by decide), m_streetMany (d := d + 46) hg (qq_cm u2)]
        by_cases hN : num g (gN g) ≤ 12
        · rw [if_pos hN] at hv
          rw [if_neg (show ¬ (12 : Int32) < nI (cnt (gst g) (gN g)) by rw [show (12 : Int32) = nI 12 from rfl, nI_ltI (by omega) (by omega)]; omega)]
          refine m_sure_l u2 ht hsd (TrM_n hcc hL (fr_t fu u1) hM) hN hp hps hq1 ?_
          intro s' f' h'
          rw [hv]
          exact hK _ s' (fr_t fu (fr_t u1 f')) h'
        · rw [if_neg hN] at hv
          rw [if_pos (show (12 : Int32) < nI (cnt (gst g) (gN g)) by rw [show (12 : Int32) = nI 12 from rfl, nI_ltI (by omega) (by omega)]; omega), hv]
          exact hK _ _ (fr_t fu u1) u2
      -- the class
      have body : wI (wp (d + 49)) m_C_streetSet [.ref c] s (fun x29 s29 => wI (wp (d + 49)) m_J_bitCount [.int x29] s29 (fun x32 s32 => (if (12 : Int32) < x32 then (fun v s1 => wI (wp (d + 50)) m_M_sure [.ref 57, .int x, .int (nI q)] s1 (fun v' s2 => K v v' s2)) (-1000000) s32 else wI (wp (d + 49)) m_W_now [.ref 33, .int 0] s32 (fun x49 s49 => wV (wp (d + 49)) m_X_blow [.ref 0, .int x49] s49 (fun s52 => wI (wp (d + 49)) m_X_walked [.ref 0, .int 1] s52 (fun x57 s57 => (if x57 = 0 then (fun v s1 => wI (wp (d + 50)) m_M_sure [.ref 57, .int x, .int (nI q)] s1 (fun v' s2 => K v v' s2)) (-1) s57 else (if (s57 0 1) = 0 then wI (wp (d + 49)) m_B_gather [.ref 51, .null, .int x57, .int (nI p)] s57 (fun x78 s78 => (if x78 = 0 then (fun v s1 => wI (wp (d + 50)) m_M_sure [.ref 57, .int x, .int (nI q)] s1 (fun v' s2 => K v v' s2)) (-1) s78 else (if nI q = 0 then wI (wp (d + 49)) m_B_stepCount [.ref 51] s78 (fun x94 s94 => (fun v s1 => wI (wp (d + 50)) m_M_sure [.ref 57, .int x, .int (nI q)] s1 (fun v' s2 => K v v' s2)) x94 s94) else wI (wp (d + 49)) m_B_firstStep [.ref 51] s78 (fun x104 s104 => (fun v s1 => wI (wp (d + 50)) m_M_sure [.ref 57, .int x, .int (nI q)] s1 (fun v' s2 => K v v' s2)) x104 s104)))) else wI (wp (d + 49)) m_B_gather [.ref 51, .ref ((s57 0 1).toNatClampNeg - 1), .int x57, .int (nI p)] s57 (fun x78 s78 => (if x78 = 0 then (fun v s1 => wI (wp (d + 50)) m_M_sure [.ref 57, .int x, .int (nI q)] s1 (fun v' s2 => K v v' s2)) (-1) s78 else (if nI q = 0 then wI (wp (d + 49)) m_B_stepCount [.ref 51] s78 (fun x94 s94 => (fun v s1 => wI (wp (d + 50)) m_M_sure [.ref 57, .int x, .int (nI q)] s1 (fun v' s2 => K v v' s2)) x94 s94) else wI (wp (d + 49)) m_B_firstStep [.ref 51] s78 (fun x104 s104 => (fun v s1 => wI (wp (d + 50)) m_M_sure [.ref 57, .int x, .int (nI q)] s1 (fun v' s2 => K v v' s2)) x104 s104)))))))))))) := by
        rw [c_streetSet (d := d + 48) hcc, c_bitCount (d := d + 48), streets_cnt hg (qq_cf h).1]
        by_cases hN : num g (gN g) ≤ 12
        · rw [if_neg (show ¬ (12 : Int32) < nI (cnt (gst g) (gN g)) by rw [show (12 : Int32) = nI 12 from rfl, nI_ltI (by omega) (by omega)]; omega)]
          refine q_walk (d := d + 40) h ht hsd hC true ?_
          intro s2 f2 h2
          have hmM := mM
          simp only [if_pos hN] at hmM
          generalize hnows : fits g (brI g W (hr % 24) rn w dl o none) bt sd t true = nows at hmM ⊢
          unfold suV at hmM
          by_cases hz : nows = nI 0
          · rw [if_pos (show nows = 0 from hz)]
            exact hmM s2 (-1) f2 h2 (by rw [if_pos hz]; rfl)
          · rw [if_neg (show ¬ nows = 0 from hz), qq_ref h2, cref2 hcc, crefc hcc]
            have hB : 2 ^ num g (gN g) ≤ 4096 := Nat.le_trans (Nat.pow_le_pow_right (by decide) hN) (by decide)
            have hgl : 2 ^ num g p < 4096 := Nat.lt_of_lt_of_le (Nat.pow_lt_pow_right (by decide) (num_lt hp hps)) hB
            generalize hb : bAll (mv g) (2 ^ num g p) (2 ^ num g (gN g) + 1) 0 (b0 (pk g nows)) = b at hmM
            refine c_gather hcc hg (qq_cf h2).1 hN (by omega) hp hps hb.symm (fun e s3 f3 => ?_) (fun e hle hF s3 f3 h6 => ?_)
            · obtain ⟨f3', h3⟩ := QQ_c h2 f3 (by simp)
              have f23 := fr_t f2 f3'
              rw [if_pos (show (0 : Int32) = 0 from rfl)]
              refine hmM s3 (-1) f23 h3 ?_
              rw [if_neg hz]
              unfold bRes
              rw [if_pos e]; rfl
            · obtain ⟨f3', h3⟩ := QQ_c h2 f3 (by simp)
              have f23 := fr_t f2 f3'
              rw [if_neg (show ¬ (1 : Int32) = 0 by decide)]
              by_cases hq0 : q = 0
              · rw [if_pos (show nI q = 0 by rw [hq0]; rfl), e_B_stepCount, h6, en_st hgl hle hF]
                refine hmM s3 _ f23 h3 ?_
                rw [if_neg hz]
                unfold bRes
                rw [if_neg e, if_pos hq0]
              · rw [if_neg (show ¬ nI q = 0 by rw [q0, nI_eq (by omega) (by omega)]; exact hq0), e_B_firstStep, h6, en_fs hgl hle hF]
                refine hmM s3 _ f23 h3 ?_
                rw [if_neg hz]
                unfold bRes
                rw [if_neg e, if_neg hq0]
        · rw [if_pos (show (12 : Int32) < nI (cnt (gst g) (gN g)) by rw [show (12 : Int32) = nI 12 from rfl, nI_ltI (by omega) (by omega)]; omega)]
          exact mM s (-1000000) frN_r h (by rw [if_neg hN])
      rw [qq_ref h, cref hcc, crefc hcc, ep]
      by_cases hq0 : nI q = 0
      · rw [if_pos hq0]
        exact body
      · have hq1' : nI q = 1 := by
          rcases (show q = 0 ∨ q = 1 by omega) with rfl | rfl
          · exact absurd rfl hq0
          · rfl
        rw [if_neg hq0, if_pos hq1']
        exact body
    · have y0 : ¬ y = 0 := fun z => hy (by rw [z]; decide)
      have y1 : ¬ y = 1 := fun z => hy (by rw [z]; decide)
      rw [if_neg y0, if_neg y1, e_M_sure, show (0 : Int32) = nI 0 from rfl, m_streetAt (d := d + 47) hg (qq_cm t2), hst, if_neg np, mi1 (d := d + 48), decide_eq_false hy, if_pos (show b01 false = nI 0 from rfl)]
      exact hK _ _ t1 t2
end
