/-! hours by draws -/
section
variable {d c : Nat} {g : Gph} {s t : Mem}
abbrev HS := Nat × (Nat → Nat → Int32) × (Nat → Int32) × Int64
def nd (x : Int64) : Int64 := (x * 6364136223846793005) + 1442695040888963407
def sh33 (x : Int64) : Int64 := (Int64.toUInt64 x >>> ((33 : Int32).toInt64.toUInt64 &&& Int64.toUInt64 63)).toInt64
def dr5 (x : Int64) : Int32 := (sh33 x - sh33 x / 5 * 5 : Int64).toInt32
def dr4 (x : Int64) : Int32 := if (lg_cmp (sh33 x - sh33 x / 4 * 4) 0) = 0 then nI 1 else nI 0
theorem nd_f (x : Int64) : (x * 6364136223846793005) + 1442695040888963407 = nd x := (rfl)
theorem sh_f (x : Int64) : (Int64.toUInt64 x >>> ((33 : Int32).toInt64.toUInt64 &&& Int64.toUInt64 63)).toInt64 = sh33 x := (rfl)
theorem d5_f (x : Int64) : (sh33 x - sh33 x / 5 * 5 : Int64).toInt32 = dr5 x := (rfl)
theorem dr4_1 {x : Int64} (h : (lg_cmp (sh33 x - sh33 x / 4 * 4) 0) = 0) : dr4 x = nI 1 := by unfold dr4; exact if_pos h
theorem dr4_0 {x : Int64} (h : ¬ (lg_cmp (sh33 x - sh33 x / 4 * 4) 0) = 0) : dr4 x = nI 0 := by unfold dr4; exact if_neg h
def nwS (h : HS) (k : Nat) : Int32 := if k = 2 then h.2.2.1 2 + 1 else if k = 0 then dr5 (nd h.2.2.2) else if k = 1 then dr4 (nd (nd h.2.2.2)) else h.2.2.1 k
theorem nwS_0 (h : HS) : nwS h 0 = dr5 (nd h.2.2.2) := by unfold nwS; rw [if_neg (by decide), if_pos rfl]
theorem nwS_1 (h : HS) : nwS h 1 = dr4 (nd (nd h.2.2.2)) := by unfold nwS; rw [if_neg (by decide), if_neg (by decide), if_pos rfl]
theorem nwS_2 (h : HS) : nwS h 2 = h.2.2.1 2 + 1 := by unfold nwS; rw [if_pos rfl]
theorem nwS_3 (h : HS) {k : Nat} (h0 : k ≠ 0) (h1 : k ≠ 1) (h2 : k ≠ 2) : nwS h k = h.2.2.1 k := by unfold nwS; rw [if_neg h2, if_neg h0, if_neg h1]
def hit : Nat → HS → HS
  | 0, h => h
  | n + 1, h => hit n (pshN h.1, pshB h.1 h.2.1 h.2.2.1, nwS h, nd (nd h.2.2.2))
theorem sh33_n (x : Int64) : ∃ k : Nat, k < 2 ^ 31 ∧ sh33 x = lN k := by
  have e : (Int64.toUInt64 x >>> ((33 : Int32).toInt64.toUInt64 &&& Int64.toUInt64 63)).toNat = (Int64.toUInt64 x).toNat / 2 ^ 33 := by
    rw [UInt64.toNat_shiftRight, show ((33 : Int32).toInt64.toUInt64 &&& Int64.toUInt64 63).toNat % 64 = 33 from by decide, Nat.shiftRight_eq_div_pow]
  refine ⟨(Int64.toUInt64 x).toNat / 2 ^ 33, ?_, ?_⟩
  · have := (Int64.toUInt64 x).toNat_lt
    omega
  · unfold sh33
    generalize (Int64.toUInt64 x >>> ((33 : Int32).toInt64.toUInt64 &&& Int64.toUInt64 63)) = u at e
    rw [← e]
    refine Int64.toBitVec_inj.mp ?_
    show u.toBitVec = BitVec.ofNat 64 u.toBitVec.toNat
    refine BitVec.eq_of_toNat_eq ?_
    rw [BitVec.toNat_ofNat, Nat.mod_eq_of_lt u.toBitVec.isLt]
theorem dr5_n (x : Int64) : ∃ w : Nat, w < 5 ∧ dr5 x = nI w := by
  obtain ⟨k, hk, e⟩ := sh33_n x
  refine ⟨k % 5, Nat.mod_lt _ (by decide), ?_⟩
  unfold dr5
  rw [e, show (5 : Int64) = lN 5 from rfl, pk_lRem (by omega) (by decide) (by decide), lN_i]
theorem dr4_b (x : Int64) : ∃ b : Bool, dr4 x = b01 b := by
  unfold dr4
  split
  · exact ⟨true, rfl⟩
  · exact ⟨false, rfl⟩
def HV (g : Gph) (h : HS) (hr : Nat) : Prop := h.1 ≤ 40 ∧ (∀ i, i < h.1 → V5 g (h.2.1 i)) ∧ V5 g h.2.2.1 ∧ h.2.2.1 2 = nI hr
theorem HV_S {h : HS} {hr : Nat} (hv : HV g h hr) (hh : hr + 1 ≤ 999) : HV g (pshN h.1, pshB h.1 h.2.1 h.2.2.1, nwS h, nd (nd h.2.2.2)) (hr + 1) := by
  obtain ⟨h1, h2, h3, h4⟩ := hv
  have e2 : nwS h 2 = nI (hr + 1) := by rw [nwS_2, h4]; exact nI_add hr 1
  refine ⟨pshN_le h1, fun i hi => psh_V h2 h3 hi, ?_, e2⟩
  obtain ⟨w, rn, hr', dl, a0, a1, a2, a3, a4⟩ := h3
  obtain ⟨w', hw', ew⟩ := dr5_n (nd h.2.2.2)
  obtain ⟨b, eb⟩ := dr4_b (nd (nd h.2.2.2))
  refine ⟨w', b, hr + 1, dl, ⟨?_, hw'⟩, ?_, ⟨e2, hh⟩, ?_, fun k hk => a4 k ?_⟩
  · show nwS h 0 = _
    rw [nwS_0]; exact ew
  · show nwS h 1 = _
    rw [nwS_1]; exact eb
  · show nwS h 3 = _ ∧ _
    rw [nwS_3 h (by decide) (by decide) (by decide)]; exact a3
  · have hk' : tb (nwS h 4) k = true := hk
    rw [nwS_3 h (by decide) (by decide) (by decide)] at hk'
    exact hk'
theorem HV_it : ∀ {n : Nat} {h : HS} {hr : Nat}, HV g h hr → hr + n ≤ 999 → HV g (hit n h) (hr + n)
  | 0, _, _, hv, _ => hv
  | n + 1, h, hr, hv, hh => by
    have := HV_it (n := n) (HV_S hv (by omega)) (by omega)
    rw [show hr + 1 + n = hr + (n + 1) by omega] at this
    exact this
def CS (h : HS) (t : Mem) : Prop := t 33 2 = nI h.1 ∧ (∀ i k, i < h.1 → k < 5 → t 35 (5 * i + k) = h.2.1 i k) ∧ ∀ k, k < 5 → t 34 k = h.2.2.1 k
def MS (h : HS) (t : Mem) : Prop := t 57 35 = nI h.1 ∧ (∀ i k, i < h.1 → k < 5 → t 70 (5 * i + k) = h.2.1 i k) ∧ ∀ k, k < 5 → t 68 k = h.2.2.1 k
theorem c_goBy {K : Mem → Prop} {m : Nat} (hm : m ≤ 24) (hd : 3 ≤ d) : ∀ (q i : Nat) (h : HS) (hr : Nat) (v2 v3 v5 : Value) (t : Mem), i + q = m → HV g h hr → hr + q ≤ 999 → CS h t → frm [33, 34, 35] s t → t 33 4 = s 33 4 →
    (∀ t, CS (hit q h) t → frm [33, 34, 35] s t → t 33 4 = s 33 4 → K t) → RnV d m_W_goBy K 6 [.ref 33, .int (nI m), v2, v3, .long h.2.2.2, v5, .int (nI i)] [] t := by
  obtain ⟨d, rfl⟩ : ∃ e, d = e + 3 := ⟨d - 3, by omega⟩
  intro q
  induction q with
  | zero =>
    intro i h hr v2 v3 v5 t hi hv hh hc hf e4 hK
    obtain rfl : i = m := by omega
    rw [r_W_goBy_6, if_neg (show ¬ nI i < nI i by rw [nI_ltI (by omega) (by omega)]; omega)]
    exact hK t hc hf e4
  | succ q ih =>
    intro i h hr v2 v3 v5 t hi hv hh hc hf e4 hK
    rw [r_W_goBy_6, if_pos (show nI i < nI m by rw [nI_ltI (by omega) (by omega)]; omega)]
    refine c_keep (by omega) hv.1 hc.1 fun s1 f1 e2 e4' e35 => ?_
    have e35' : ∀ i k, i < pshN h.1 → k < 5 → s1 35 (5 * i + k) = pshB h.1 h.2.1 h.2.2.1 i k := fun i k hi hk => by
      rw [e35 i k hi hk]
      exact psh_e hc.2.1 hc.2.2 hi hk
    have e34 : s1 34 = t 34 := f1 34 (by simp)
    rw [show (2 : Int32) = nI 2 from rfl, c_now (d := d + 1) (by omega), e34, hc.2.2 2 (by decide), c_put (d := d + 2) (show (shp 34).1 = 20 from rfl) (by decide) (show 2 < 5 by decide), e_W_nextDraw]
    simp only [nd_f, sh_f, d5_f]
    rw [show (0 : Int32) = nI 0 from rfl, c_put (d := d + 2) (show (shp 34).1 = 20 from rfl) (by decide) (show 0 < 5 by decide), e_W_nextDraw]
    simp only [nd_f, sh_f, d5_f]
    have fin : ∀ (v : Int32) (v2 v3 v5 : Value), v = dr4 (nd (nd h.2.2.2)) → RnV (d + 3) m_W_goBy K 6 [.ref 33, .int (nI m), v2, v3, .long (nd (nd h.2.2.2)), v5, .int (nI (i + 1))] [] (upM (upM (upM s1 34 2 (h.2.2.1 2 + 1)) 34 0 (dr5 (nd h.2.2.2))) 34 1 v) := by
      intro v v2 v3 v5 hv'
      refine ih (i + 1) (pshN h.1, pshB h.1 h.2.1 h.2.2.1, nwS h, nd (nd h.2.2.2)) (hr + 1) _ _ _ _ (by omega) (HV_S hv (by omega)) (by omega) ⟨?_, fun j k hj hk => ?_, fun k hk => ?_⟩ (frm_t hf (frm_t (frm_w f1 (by simp)) (frm_t (frm_u (by simp)) (frm_t (frm_u (by simp)) (frm_u (by simp)))))) ?_ hK
      · rw [up_ce (by decide), up_ce (by decide), up_ce (by decide)]; exact e2
      · rw [up_ce (by decide), up_ce (by decide), up_ce (by decide)]; exact e35' j k hj hk
      · show _ = nwS h k
        rcases (show k = 0 ∨ k = 1 ∨ k = 2 ∨ k = 3 ∨ k = 4 by omega) with rfl | rfl | rfl | rfl | rfl
        · rw [up_pl (by decide), up_at, nwS_0]
        · rw [up_at, nwS_1]; exact hv'
        · rw [up_pl (by decide), up_pl (by decide), up_at, nwS_2]
        · rw [up_pl (by decide), up_pl (by decide), up_pl (by decide), e34, hc.2.2 3 (by decide), nwS_3 h (by decide) (by decide) (by decide)]
        · rw [up_pl (by decide), up_pl (by decide), up_pl (by decide), e34, hc.2.2 4 (by decide), nwS_3 h (by decide) (by decide) (by decide)]
      · rw [up_ce (by decide), up_ce (by decide), up_ce (by decide), e4']; exact e4
    have ei : nI i + 1 = nI (i + 1) := nI_add i 1
    by_cases hz : (lg_cmp (sh33 (nd (nd h.2.2.2)) - sh33 (nd (nd h.2.2.2)) / 4 * 4) 0) = nI 0
    · rw [if_pos hz, show (1 : Int32) = nI 1 from rfl, c_put (d := d + 2) (show (shp 34).1 = 20 from rfl) (by decide) (show 1 < 5 by decide), ← show (1 : Int32) = nI 1 from rfl, ei]
      exact fin _ _ _ _ (dr4_1 (hz.trans q0.symm)).symm
    · rw [if_neg hz, show (1 : Int32) = nI 1 from rfl, c_put (d := d + 2) (show (shp 34).1 = 20 from rfl) (by decide) (show 1 < 5 by decide), ← show (1 : Int32) = nI 1 from rfl, ei]
      exact fin _ _ _ _ (dr4_0 (fun z => hz (z.trans q0))).symm
theorem m_goBy {K : Int32 → Mem → Prop} {m : Nat} (hm : m ≤ 24) (hd : 1 ≤ d) : ∀ (q i : Nat) (h : HS) (hr : Nat) (v2 v3 v5 : Value) (t : Mem), i + q = m → HV g h hr → hr + q ≤ 999 → MS h t → frN [68, 70] [0, 35] s t →
    (∀ t, MS (hit q h) t → frN [68, 70] [0, 35] s t → K ((hit q h).2.2.1 2) t) → RnI d m_M_hours K 46 [.ref 57, .int (nI m), v2, v3, .long h.2.2.2, v5, .int (nI i)] [] t := by
  intro q
  induction q with
  | zero =>
    intro i h hr v2 v3 v5 t hi hv hh hc hf hK
    obtain rfl : i = m := by omega
    rw [r_M_hours_46, if_neg (show ¬ nI i < nI i by rw [nI_ltI (by omega) (by omega)]; omega), hc.2.2 2 (by decide)]
    exact hK t hc hf
  | succ q ih =>
    intro i h hr v2 v3 v5 t hi hv hh hc hf hK
    rw [r_M_hours_46, if_pos (show nI i < nI m by rw [nI_ltI (by omega) (by omega)]; omega)]
    refine m_keep hd hv.1 hc.1 fun s1 f1 e2 e35 => ?_
    have e35' : ∀ i k, i < pshN h.1 → k < 5 → s1 70 (5 * i + k) = pshB h.1 h.2.1 h.2.2.1 i k := fun i k hi hk => by
      rw [e35 i k hi hk]
      exact psh_e hc.2.1 hc.2.2 hi hk
    have e68 : s1 68 = t 68 := f1.1 68 (by decide) (by decide)
    rw [r_M_hours_78, r_M_hours_106, e68, hc.2.2 2 (by decide)]
    simp only [nd_f, sh_f, d5_f]
    have ei : nI i + 1 = nI (i + 1) := nI_add i 1
    rw [ei]
    have fin : ∀ (v : Int32) (v2 v3 v5 : Value), v = dr4 (nd (nd h.2.2.2)) → RnI d m_M_hours K 46 [.ref 57, .int (nI m), v2, v3, .long (nd (nd h.2.2.2)), v5, .int (nI (i + 1))] [] (upM (upM (upM s1 68 2 (h.2.2.1 2 + 1)) 68 0 (dr5 (nd h.2.2.2))) 68 1 v) := by
      intro v v2 v3 v5 hv'
      refine ih (i + 1) (pshN h.1, pshB h.1 h.2.1 h.2.2.1, nwS h, nd (nd h.2.2.2)) (hr + 1) _ _ _ _ (by omega) (HV_S hv (by omega)) (by omega) ⟨?_, fun j k hj hk => ?_, fun k hk => ?_⟩ (frN_t hf (frN_t (frN_w f1 (by simp) (by simp)) (frN_t (frN_u (by simp) (by decide)) (frN_t (frN_u (by simp) (by decide)) (frN_u (by simp) (by decide)))))) hK
      · rw [up_ce (by decide), up_ce (by decide), up_ce (by decide)]; exact e2
      · rw [up_ce (by decide), up_ce (by decide), up_ce (by decide)]; exact e35' j k hj hk
      · show _ = nwS h k
        rcases (show k = 0 ∨ k = 1 ∨ k = 2 ∨ k = 3 ∨ k = 4 by omega) with rfl | rfl | rfl | rfl | rfl
        · rw [up_pl (by decide), up_at, nwS_0]
        · rw [up_at, nwS_1]; exact hv'
        · rw [up_pl (by decide), up_pl (by decide), up_at, nwS_2]
        · rw [up_pl (by decide), up_pl (by decide), up_pl (by decide), e68, hc.2.2 3 (by decide), nwS_3 h (by decide) (by decide) (by decide)]
        · rw [up_pl (by decide), up_pl (by decide), up_pl (by decide), e68, hc.2.2 4 (by decide), nwS_3 h (by decide) (by decide) (by decide)]
    by_cases hz : (lg_cmp (sh33 (nd (nd h.2.2.2)) - sh33 (nd (nd h.2.2.2)) / 4 * 4) 0) = 0
    · rw [if_pos hz]
      exact fin _ _ _ _ (dr4_1 hz).symm
    · rw [if_neg hz]
      exact fin _ _ _ _ (dr4_0 hz).symm
theorem mi24 {K : Int32 → Mem → Prop} {z : Int32} : wI (wp (d + 1)) m_M_isIn [.long z.toInt64, .long 1, .long 24] s K = K (b01 (decide (1 ≤ z.toInt ∧ z.toInt ≤ 24))) s := by
  have h1 : (1 : Int64).toInt = 1 := by decide
  have h24 : (24 : Int64).toInt = 24 := by decide
  have c1 : (lg_cmp z.toInt64 1 < 0) = (z.toInt < 1) := by
    unfold lg_cmp
    refine propext ⟨fun w => ?_, fun w => ?_⟩
    · by_cases g1 : z.toInt64 > 1
      · rw [if_pos g1] at w; exact absurd w (by decide)
      · have g1' : ¬ (1 : Int64).toInt < z.toInt64.toInt := fun w => g1 (Int64.lt_iff_toInt_lt.mpr w)
        rw [h1, Int32.toInt_toInt64] at g1'
        rw [if_neg g1] at w
        by_cases g2 : z.toInt64 = 1
        · rw [if_pos g2] at w; exact absurd w (by decide)
        · have : z.toInt ≠ 1 := fun w => g2 (Int64.toInt_inj.mp (by rw [Int32.toInt_toInt64, h1, w]))
          omega
    · rw [if_neg (fun g1 => by have := Int64.lt_iff_toInt_lt.mp g1; rw [h1, Int32.toInt_toInt64] at this; omega), if_neg (fun g2 => by have := congrArg Int64.toInt g2; rw [h1, Int32.toInt_toInt64] at this; omega)]
      decide
  have c2 : ((0 : Int32) < lg_cmp z.toInt64 24) = ((24 : Int) < z.toInt) := by
    unfold lg_cmp
    refine propext ⟨fun w => ?_, fun w => ?_⟩
    · by_cases g1 : z.toInt64 > 24
      · have := Int64.lt_iff_toInt_lt.mp g1
        rw [h24, Int32.toInt_toInt64] at this
        exact this
      · rw [if_neg g1] at w
        split at w
        · exact absurd w (by decide)
        · exact absurd w (by decide)
    · rw [if_pos (show z.toInt64 > 24 from Int64.lt_iff_toInt_lt.mpr (by rw [h24, Int32.toInt_toInt64]; exact w))]
      decide
  rw [e_M_isIn]
  simp only [c1, c2]
  by_cases g1 : z.toInt < 1
  · rw [if_pos g1, decide_eq_false (by omega)]; rfl
  · rw [if_neg g1]
    by_cases g2 : (24 : Int) < z.toInt
    · rw [if_pos g2, decide_eq_false (by omega)]; rfl
    · rw [if_neg g2, decide_eq_true (by omega)]; rfl
theorem L_hours {K : Int32 → Int32 → Mem → Prop} (h : REL c g s) {x : Int32} {y : Int64} (hK : ∀ v s', REL c g s' → K v v s') :
    wI (wp (d + 50)) m_X_hours [.ref 0, .int x, .long y] s (fun v s1 => wI (wp (d + 50)) m_M_hours [.ref 57, .int x, .long y] s1 (fun v' s2 => K v v' s2)) := by
  have hcc := rl_isC h
  have ht := REL_thr h (x := nI 0)
  obtain ⟨n, hn, h33, h57, hB⟩ := rl_act h
  obtain ⟨⟨w, rn, hr, dl, v0, v1, v2, v3, v4⟩, h68⟩ := rl_now h
  rw [e_X_hours, rl_ref h, cref hcc, crefc hcc, r_there (d := d + 48) h, ifb]
  by_cases hR : 0 < gR g
  · have e0 : ∀ u : Mem, u 57 24 = s 57 24 → ¬ u 57 24 = 0 := fun u e => by rw [e]; exact fun z => (r_r0 h).mp z hR
    rw [decide_eq_true hR, if_pos rfl]
    by_cases hx : 1 ≤ x.toInt ∧ x.toInt ≤ 24
    · obtain ⟨m, hm, rfl⟩ := inN (x := x) (n := 24) ⟨by omega, hx.2⟩ (by decide)
      have hm1 : 1 ≤ m := by rw [n_i (by omega)] at hx; omega
      rw [if_neg (show ¬ nI m < 1 by rw [q1, nI_ltI (by omega) (by omega)]; omega), if_neg (show ¬ (24 : Int32) < nI m by rw [q24, nI_ltI (by omega) (by omega)]; omega), show (2 : Int32) = nI 2 from rfl, c_now (d := d + 47) (by omega), v2.1, nI_add]
      by_cases h999 : 999 < hr + m
      · rw [if_pos (show (999 : Int32) < nI (hr + m) by rw [q999, nI_ltI (by omega) (by omega)]; omega), e_M_hours, if_neg (e0 s rfl), mi24 (d := d + 48), decide_eq_true hx, ifb, if_pos rfl, up_ce (by decide), h68 2 (by decide), v2.1, nI_add, if_pos (show (999 : Int32) < nI (hr + m) by rw [q999, nI_ltI (by omega) (by omega)]; omega)]
        exact hK _ _ ht
      · rw [if_neg (show ¬ (999 : Int32) < nI (hr + m) by rw [q999, nI_ltI (by omega) (by omega)]; omega), e_W_goBy]
        have hv : HV g (n, (fun i k => s 35 (5 * i + k)), s 34, y) hr := ⟨hn, fun i hi => (hB i hi).1, ⟨w, rn, hr, dl, v0, v1, v2, v3, v4⟩, v2.1⟩
        refine c_goBy (s := s) (g := g) hm (by omega) m 0 (n, (fun i k => s 35 (5 * i + k)), s 34, y) hr _ _ _ s (by omega) hv (by omega) ⟨h33, fun _ _ _ _ => rfl, fun _ _ => rfl⟩ frm_r rfl fun u hu fu e4 => ?_
        rw [c_now (d := d + 47) (by omega), hu.2.2 2 (by decide), e_M_hours, if_neg (e0 u (by rw [fu 57 (by simp)])), mi24 (d := d + 48), decide_eq_true hx, ifb, if_pos rfl, up_ce (by decide), fu 68 (by simp), h68 2 (by decide), v2.1, nI_add, if_neg (show ¬ (999 : Int32) < nI (hr + m) by rw [q999, nI_ltI (by omega) (by omega)]; omega)]
        refine m_goBy (s := u) (g := g) hm (by omega) m 0 (n, (fun i k => s 35 (5 * i + k)), s 34, y) hr _ _ _ _ (by omega) hv (by omega) ⟨?_, fun i k hi hk => ?_, fun k hk => ?_⟩ (frN_v (by simp)) fun v hv' fv => ?_
        · rw [up_pl (by decide), fu 57 (by simp)]; exact h57
        · rw [up_ce (by decide), fu 70 (by simp)]; exact (hB i hi).2 k hk
        · rw [up_ce (by decide), fu 68 (by simp)]; exact h68 k hk
        have hit' := HV_it (n := m) hv (by omega)
        have fr : frN [33, 34, 35, 68, 70] [0, 35] s v := frN_t (frN_w (frN_f (J := []) fu (by simp)) (by simp) (by simp)) (frN_w fv (by simp) (by simp))
        refine hK _ _ (REL_acts h fr (n := (hit m (n, (fun i k => s 35 (5 * i + k)), s 34, y)).1) (B := (hit m (n, (fun i k => s 35 (5 * i + k)), s 34, y)).2.1) (nw := (hit m (n, (fun i k => s 35 (5 * i + k)), s 34, y)).2.2.1) hit'.1 ?_ ?_ (fun i k hi hk => ?_) hv'.1 hv'.2.1 (fun k hk => ?_) hv'.2.2 hit'.2.1 hit'.2.2.1)
        · rw [fv.1 33 (by decide) (by decide)]; exact hu.1
        · rw [fv.1 33 (by decide) (by decide)]; exact e4
        · rw [fv.1 35 (by decide) (by decide)]; exact hu.2.1 i k hi hk
        · rw [fv.1 34 (by decide) (by decide)]; exact hu.2.2 k hk
    · have mx : wI (wp (d + 50)) m_M_hours [.ref 57, .int x, .long y] s (fun v' s2 => K (-1) v' s2) := by
        rw [e_M_hours, if_neg (e0 s rfl), mi24 (d := d + 48), decide_eq_false hx, ifb, if_neg (by decide)]
        exact hK _ _ ht
      by_cases h1 : x < 1
      · rw [if_pos h1]; exact mx
      · rw [if_neg h1, if_pos (show (24 : Int32) < x by
          rw [q1, Int32.lt_iff_toInt_lt, n_i (by omega)] at h1
          rw [q24, Int32.lt_iff_toInt_lt, n_i (by omega)]
          omega)]
        exact mx
  · rw [decide_eq_false hR, if_neg (by decide), e_M_hours, if_pos (show s 57 24 = 0 from (r_r0 h).mpr hR)]
    exact hK _ _ ht
end
