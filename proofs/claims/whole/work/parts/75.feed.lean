/-! feed -/
section
variable {d c : Nat} {g : Gph} {s t : Mem}
/-- a byte of an int -/
def bq (x : Int32) (k : Nat) : Nat := (x.toBitVec.toNat / 2 ^ k) % 2 ^ 8
theorem bq_lt {x : Int32} {k : Nat} : bq x k < 256 := Nat.mod_lt _ (by decide)
theorem bq_c {x : Int32} {k : Nat} (hs : (((nI k).toUInt32 &&& Int32.toUInt32 31).toBitVec % 32).toNat = k) : (((x).toUInt32 >>> ((nI k).toUInt32 &&& Int32.toUInt32 31)).toInt32) &&& 255 = nI (bq x k) := by
  rw [pk_and _ 8 (by decide), pk_ushr x (nI k) k hs]
  rfl
theorem bq_m {x : Int32} {k : Nat} (hk : k ≤ 24) : (x >>> (nI k &&& 31)) &&& 255 = nI (bq x k) := by
  refine tb_ext fun j hj => ?_
  rw [tb_and, show (255 : Int32) = nI 255 from rfl, tb_nI (by decide), tb_nI (Nat.lt_trans bq_lt (by decide))]
  unfold bq
  rw [Nat.testBit_mod_two_pow, Nat.testBit_div_two_pow, show 255 = 2 ^ 8 - 1 from rfl, Nat.testBit_two_pow_sub_one]
  by_cases h8 : j < 8
  · rw [decide_eq_true h8, Bool.and_true, Bool.true_and]
    unfold tb
    rw [show (31 : Int32) = nI 31 from rfl, Int32.toBitVec_shiftRight, BitVec.sshiftRight_eq', sm32 k (by omega), BitVec.getLsbD_sshiftRight, decide_eq_false (by omega), Bool.not_false, Bool.true_and, if_pos (by omega), ← BitVec.testBit_toNat, Nat.add_comm]
  · rw [decide_eq_false h8, Bool.and_false, Bool.false_and]
theorem byI_t {y : Int32} {b : Nat} (h : y &&& 255 = nI b) (hb : b < 256) : (y.toInt8.toInt32 : Int32).toInt8.toInt32 = byI b := by
  have e1 : y.toInt8 = (nI b).toInt8 := by
    rw [← h]
    refine Int8.toBitVec_inj.mp ?_
    rw [Int32.toBitVec_toInt8, Int32.toBitVec_toInt8, Int32.toBitVec_and]
    refine BitVec.eq_of_getLsbD_eq fun i hi => ?_
    rw [BitVec.getLsbD_signExtend, BitVec.getLsbD_signExtend, if_pos (show i < 32 by omega), if_pos (show i < 32 by omega), BitVec.getLsbD_and]
    have : ∀ i, i < 8 → (255 : Int32).toBitVec.getLsbD i = true := by decide
    rw [this i hi, Bool.and_true]
  unfold byI
  rw [e1, Int8.toInt8_toInt32]
theorem byI_id {b : Nat} : (byI b).toInt8.toInt32 = byI b := by
  unfold byI
  rw [Int8.toInt8_toInt32]
def ap1 (T : Txt) (b : Nat) : Txt := if b = 0 then T else ((fun k => if k = T.2 then b else T.1 k), T.2 + 1)
def apx (T : Txt) (x : Int32) : Txt := ap1 (ap1 (ap1 (ap1 T (bq x 24)) (bq x 16)) (bq x 8)) (bq x 0)
def n01 (b : Nat) : Nat := if b = 0 then 0 else 1
def cnx (x : Int32) : Nat := n01 (bq x 24) + n01 (bq x 16) + n01 (bq x 8) + n01 (bq x 0)
theorem ap1_2 (T : Txt) (b : Nat) : (ap1 T b).2 = T.2 + n01 b := by
  unfold ap1 n01
  split <;> rfl
theorem apx_2 (T : Txt) (x : Int32) : (apx T x).2 = T.2 + cnx x := by
  unfold apx cnx
  rw [ap1_2, ap1_2, ap1_2, ap1_2]
  omega
theorem cnx_le (x : Int32) : cnx x ≤ 4 := by
  have : ∀ b, n01 b ≤ 1 := fun b => by unfold n01; split <;> omega
  unfold cnx
  have h1 := this (bq x 24)
  have h2 := this (bq x 16)
  have h3 := this (bq x 8)
  have h4 := this (bq x 0)
  omega
theorem ap1_ok {T : Txt} {b : Nat} (h : ∀ k, k < T.2 → 1 ≤ T.1 k ∧ T.1 k ≤ 255) (hb : b < 256) : ∀ k, k < (ap1 T b).2 → 1 ≤ (ap1 T b).1 k ∧ (ap1 T b).1 k ≤ 255 := by
  unfold ap1
  split
  · exact h
  · intro k hk
    have hk' : k < T.2 + 1 := hk
    show 1 ≤ (if k = T.2 then b else T.1 k) ∧ (if k = T.2 then b else T.1 k) ≤ 255
    split
    · omega
    · exact h k (by omega)
theorem apx_ok {T : Txt} {x : Int32} (h : ∀ k, k < T.2 → 1 ≤ T.1 k ∧ T.1 k ≤ 255) : ∀ k, k < (apx T x).2 → 1 ≤ (apx T x).1 k ∧ (apx T x).1 k ≤ 255 :=
  ap1_ok (ap1_ok (ap1_ok (ap1_ok h bq_lt) bq_lt) bq_lt) bq_lt
def CT (T : Txt) (s : Mem) : Prop := s 1 1 = nI T.2 ∧ ∀ k, k < T.2 → s 2 k = nI (T.1 k)
def MT (T : Txt) (s : Mem) : Prop := s 57 6 = nI T.2 ∧ ∀ k, k < T.2 → s 58 k = byI (T.1 k)
theorem c_bytesIn {K : Int32 → Mem → Prop} (hd : 1 ≤ d) {x : Int32} : wI (wp d) m_T_bytesIn [.int x] s K = K (nI (cnx x)) s := by
  obtain ⟨d, rfl⟩ : ∃ e, d = e + 1 := ⟨d - 1, by omega⟩
  have st : ∀ (k v : Nat), (((nI k).toUInt32 &&& Int32.toUInt32 31).toBitVec % 32).toNat = k → ¬ nI k < 0 → RnI d m_T_bytesIn K 5 [.int x, .int (nI v), .int (nI k)] [] s = RnI d m_T_bytesIn K 5 [.int x, .int (nI (v + n01 (bq x k))), .int (nI k + (-8))] [] s := by
    intro k v hs hn
    rw [r_T_bytesIn_5, if_neg hn, bq_c hs]
    unfold n01
    by_cases hb : bq x k = 0
    · rw [hb, if_pos (show nI 0 = 0 from rfl), if_pos rfl, Nat.add_zero]
    · have := bq_lt (x := x) (k := k)
      rw [if_neg (show ¬ nI (bq x k) = 0 by rw [q0, nI_eq (by omega) (by omega)]; exact hb), if_neg hb, show nI v + 1 = nI (v + 1) from nI_add v 1]
  rw [e_T_bytesIn, show (0 : Int32) = nI 0 from rfl, show (24 : Int32) = nI 24 from rfl, st 24 0 (by decide) (by decide), show nI 24 + (-8) = nI 16 from rfl, st 16 _ (by decide) (by decide), show nI 16 + (-8) = nI 8 from rfl, st 8 _ (by decide) (by decide), show nI 8 + (-8) = nI 0 from rfl, st 0 _ (by decide) (by decide), r_T_bytesIn_5, if_pos (show nI 0 + (-8) < 0 by decide)]
  unfold cnx
  rw [Nat.zero_add]
theorem m_bytesIn {K : Int32 → Mem → Prop} (hd : 1 ≤ d) {x : Int32} : wI (wp d) m_M_bytesIn [.int x] s K = K (nI (cnx x)) s := by
  obtain ⟨d, rfl⟩ : ∃ e, d = e + 1 := ⟨d - 1, by omega⟩
  have st : ∀ (k v : Nat), k ≤ 24 → ¬ nI k < 0 → RnI d m_M_bytesIn K 5 [.int x, .int (nI v), .int (nI k)] [] s = RnI d m_M_bytesIn K 5 [.int x, .int (nI (v + n01 (bq x k))), .int (nI k + (-8))] [] s := by
    intro k v hs hn
    rw [r_M_bytesIn_5, if_neg hn, bq_m hs]
    unfold n01
    by_cases hb : bq x k = 0
    · rw [hb, if_pos (show nI 0 = 0 from rfl), if_pos rfl, show nI v + 0 = nI (v + 0) from nI_add v 0]
    · have := bq_lt (x := x) (k := k)
      rw [if_neg (show ¬ nI (bq x k) = 0 by rw [q0, nI_eq (by omega) (by omega)]; exact hb), if_neg hb, show nI v + 1 = nI (v + 1) from nI_add v 1]
  rw [e_M_bytesIn, show (0 : Int32) = nI 0 from rfl, show (24 : Int32) = nI 24 from rfl, st 24 0 (by decide) (by decide), show nI 24 + (-8) = nI 16 from rfl, st 16 _ (by decide) (by decide), show nI 16 + (-8) = nI 8 from rfl, st 8 _ (by decide) (by decide), show nI 8 + (-8) = nI 0 from rfl, st 0 _ (by decide) (by decide), r_M_bytesIn_5, if_pos (show nI 0 + (-8) < 0 by decide)]
  unfold cnx
  rw [Nat.zero_add]
theorem c_addT {K : Mem → Prop} (hd : 2 ≤ d) {T : Txt} {x : Int32} (h : CT T s) (hl : T.2 + cnx x ≤ 160) (hK : ∀ s', frm [1, 2] s s' → CT (apx T x) s' → K s') : wV (wp d) m_T_add [.ref 1, .int x] s K := by
  obtain ⟨d, rfl⟩ : ∃ e, d = e + 2 := ⟨d - 2, by omega⟩
  have st : ∀ (k : Nat) (T : Txt) (u : Mem) (v3 : Value), (((nI k).toUInt32 &&& Int32.toUInt32 31).toBitVec % 32).toNat = k → ¬ nI k < 0 → CT T u → T.2 + n01 (bq x k) ≤ 160 → (∀ u' v3, frm [1, 2] u u' → CT (ap1 T (bq x k)) u' → RnV (d + 1) m_T_add K 3 [.ref 1, .int x, .int (nI k + (-8)), v3] [] u') → RnV (d + 1) m_T_add K 3 [.ref 1, .int x, .int (nI k), v3] [] u := by
    intro k T u v3 hs hn hc hl hN
    rw [r_T_add_3, if_neg hn, bq_c hs]
    unfold n01 at hl
    unfold ap1 at hN
    by_cases hb : bq x k = 0
    · rw [if_pos hb] at hN
      rw [hb, if_pos (show nI 0 = 0 from rfl)]
      exact hN u _ frm_r hc
    · have := bq_lt (x := x) (k := k)
      rw [if_neg hb] at hl hN
      rw [if_neg (show ¬ nI (bq x k) = 0 by rw [q0, nI_eq (by omega) (by omega)]; exact hb), hc.1, if_pos (show nI T.2 < 160 by rw [q160, nI_ltI (by omega) (by omega)]; omega), c_put (d := d) (show (shp 2).1 = 20 from rfl) (by decide) (show T.2 < 160 by omega), up_ce (show 1 ≠ 2 by decide), hc.1, show nI T.2 + 1 = nI (T.2 + 1) from nI_add _ 1]
      refine hN _ _ (frm_t (frm_u (by simp)) (frm_u (by simp))) ⟨up_at, fun j hj => ?_⟩
      have hj' : j < T.2 + 1 := hj
      show _ = nI (if j = T.2 then bq x k else T.1 j)
      by_cases e : j = T.2
      · rw [if_pos e, up_ce (show 2 ≠ 1 by decide), e, up_at]
      · rw [if_neg e, up_ce (show 2 ≠ 1 by decide), up_pl e]; exact hc.2 j (by omega)
  unfold cnx at hl
  rw [e_T_add, show (24 : Int32) = nI 24 from rfl]
  refine st 24 T s _ (by decide) (by decide) h (by omega) fun u1 v f1 c1 => ?_
  rw [show nI 24 + (-8) = nI 16 from rfl]
  refine st 16 _ u1 _ (by decide) (by decide) c1 (by rw [ap1_2]; omega) fun u2 v f2 c2 => ?_
  rw [show nI 16 + (-8) = nI 8 from rfl]
  refine st 8 _ u2 _ (by decide) (by decide) c2 (by rw [ap1_2, ap1_2]; omega) fun u3 v f3 c3 => ?_
  rw [show nI 8 + (-8) = nI 0 from rfl]
  refine st 0 _ u3 _ (by decide) (by decide) c3 (by rw [ap1_2, ap1_2, ap1_2]; omega) fun u4 v f4 c4 => ?_
  rw [r_T_add_3, if_pos (show nI 0 + (-8) < 0 by decide)]
  exact hK u4 (frm_t f1 (frm_t f2 (frm_t f3 f4))) c4
theorem m_putT {K : Mem → Prop} (hd : 1 ≤ d) {T : Txt} {x : Int32} (h : MT T s) (hl : T.2 + cnx x ≤ 160) (hK : ∀ s', frN [58] [6] s s' → MT (apx T x) s' → K s') : wV (wp d) m_M_put [.ref 57, .int x] s K := by
  obtain ⟨d, rfl⟩ : ∃ e, d = e + 1 := ⟨d - 1, by omega⟩
  have st : ∀ (k : Nat) (T : Txt) (u : Mem), k ≤ 24 → ¬ nI k < 0 → MT T u → T.2 + n01 (bq x k) ≤ 160 → (∀ u', frN [58] [6] u u' → MT (ap1 T (bq x k)) u' → RnV d m_M_put K 3 [.ref 57, .int x, .int (nI k + (-8))] [] u') → RnV d m_M_put K 3 [.ref 57, .int x, .int (nI k)] [] u := by
    intro k T u hs hn hc hl hN
    rw [r_M_put_3, if_neg hn, bq_m hs]
    unfold n01 at hl
    unfold ap1 at hN
    by_cases hb : bq x k = 0
    · rw [if_pos hb] at hN
      rw [hb, if_pos (show nI 0 = 0 from rfl)]
      exact hN u frN_r hc
    · have := bq_lt (x := x) (k := k)
      rw [if_neg hb] at hl hN
      rw [if_neg (show ¬ nI (bq x k) = 0 by rw [q0, nI_eq (by omega) (by omega)]; exact hb), hc.1, nI_clamp (by omega), if_neg (show ¬ (nI T.2 < 0 ∨ 160 ≤ T.2) by rw [q0, nI_ltI (by omega) (by omega)]; omega), show nI T.2 + 1 = nI (T.2 + 1) from nI_add _ 1, byI_t (bq_m hs) bq_lt]
      refine hN _ (frN_t (frN_u (by simp) (by decide)) (frN_v (by simp))) ⟨up_at, fun j hj => ?_⟩
      have hj' : j < T.2 + 1 := hj
      show _ = byI (if j = T.2 then bq x k else T.1 j)
      by_cases e : j = T.2
      · rw [if_pos e, up_ce (show 58 ≠ 57 by decide), e, up_at]
      · rw [if_neg e, up_ce (show 58 ≠ 57 by decide), up_pl e]; exact hc.2 j (by omega)
  unfold cnx at hl
  rw [e_M_put, show (24 : Int32) = nI 24 from rfl]
  refine st 24 T s (by decide) (by decide) h (by omega) fun u1 f1 c1 => ?_
  rw [show nI 24 + (-8) = nI 16 from rfl]
  refine st 16 _ u1 (by decide) (by decide) c1 (by rw [ap1_2]; omega) fun u2 f2 c2 => ?_
  rw [show nI 16 + (-8) = nI 8 from rfl]
  refine st 8 _ u2 (by decide) (by decide) c2 (by rw [ap1_2, ap1_2]; omega) fun u3 f3 c3 => ?_
  rw [show nI 8 + (-8) = nI 0 from rfl]
  refine st 0 _ u3 (by decide) (by decide) c3 (by rw [ap1_2, ap1_2, ap1_2]; omega) fun u4 f4 c4 => ?_
  rw [r_M_put_3, if_pos (show nI 0 + (-8) < 0 by decide)]
  exact hK u4 (frN_t f1 (frN_t f2 (frN_t f3 f4))) c4
theorem L_feed {K : Int32 → Int32 → Mem → Prop} (h : REL c g s) {x1 x2 x3 x4 x5 : Int32} (hK : ∀ v s', REL c g s' → K v v s') :
    wI (wp (d + 50)) m_X_feed [.ref 0, .int x1, .int x2, .int x3, .int x4, .int x5] s (fun v s1 => wI (wp (d + 50)) m_M_feed [.ref 57, .int x1, .int x2, .int x3, .int x4, .int x5] s1 (fun v' s2 => K v v' s2)) := by
  have ht : REL c g (upM s 57 0 0) := REL_thr h (x := nI 0)
  obtain ⟨T, hT, t1, t2, t3, t4⟩ := rl_tap h
  have h160 := hT.1
  have b1 := cnx_le x1
  have b2 := cnx_le x2
  have b3 := cnx_le x3
  have b4 := cnx_le x4
  have b5 := cnx_le x5
  rw [e_X_feed, c_bytesIn (by omega), c_bytesIn (by omega), c_bytesIn (by omega), c_bytesIn (by omega), c_bytesIn (by omega), e_T_size, t1]
  have cm : ∀ (u : Mem), u 57 6 = nI T.2 → ∀ v : Int32, wI (wp (d + 50)) m_M_feed [.ref 57, .int x1, .int x2, .int x3, .int x4, .int x5] u (fun v' s2 => K v v' s2) = (if 160 < T.2 + cnx x1 + cnx x2 + cnx x3 + cnx x4 + cnx x5 then K v m1 (upM u 57 0 0) else wV (wp (d + 49)) m_M_put [.ref 57, .int x1] (upM u 57 0 0) (fun s46 => wV (wp (d + 49)) m_M_put [.ref 57, .int x2] s46 (fun s51 => wV (wp (d + 49)) m_M_put [.ref 57, .int x3] s51 (fun s56 => wV (wp (d + 49)) m_M_put [.ref 57, .int x4] s56 (fun s62 => wV (wp (d + 49)) m_M_put [.ref 57, .int x5] s62 (fun s68 => K v (s68 57 6) s68)))))) := by
    intro u e6 v
    rw [e_M_feed, m_bytesIn (by omega), m_bytesIn (by omega), m_bytesIn (by omega), m_bytesIn (by omega), m_bytesIn (by omega), e6, nI_add, nI_add, nI_add, nI_add, nI_add]
    by_cases hb : 160 < T.2 + cnx x1 + cnx x2 + cnx x3 + cnx x4 + cnx x5
    · rw [if_pos (show (160 : Int32) < nI (T.2 + cnx x1 + cnx x2 + cnx x3 + cnx x4 + cnx x5) by rw [q160, nI_ltI (by omega) (by omega)]; exact hb), if_pos hb]; rfl
    · rw [if_neg (show ¬ (160 : Int32) < nI (T.2 + cnx x1 + cnx x2 + cnx x3 + cnx x4 + cnx x5) by rw [q160, nI_ltI (by omega) (by omega)]; exact hb), if_neg hb]
  rw [nI_add, nI_add, nI_add, nI_add, nI_add]
  by_cases hb : 160 < T.2 + cnx x1 + cnx x2 + cnx x3 + cnx x4 + cnx x5
  · rw [if_pos (show (160 : Int32) < nI (T.2 + (cnx x1 + cnx x2 + cnx x3 + cnx x4 + cnx x5)) by rw [q160, nI_ltI (by omega) (by omega)]; omega), cm s t2, if_pos hb]
    exact hK _ _ ht
  · rw [if_neg (show ¬ (160 : Int32) < nI (T.2 + (cnx x1 + cnx x2 + cnx x3 + cnx x4 + cnx x5)) by rw [q160, nI_ltI (by omega) (by omega)]; omega)]
    refine c_addT (by omega) ⟨t1, t3⟩ (by omega) fun u1 f1 c1 => ?_
    refine c_addT (by omega) c1 (by rw [apx_2]; omega) fun u2 f2 c2 => ?_
    refine c_addT (by omega) c2 (by rw [apx_2, apx_2]; omega) fun u3 f3 c3 => ?_
    refine c_addT (by omega) c3 (by rw [apx_2, apx_2, apx_2]; omega) fun u4 f4 c4 => ?_
    refine c_addT (by omega) c4 (by rw [apx_2, apx_2, apx_2, apx_2]; omega) fun u5 f5 c5 => ?_
    have f : frm [1, 2] s u5 := frm_t f1 (frm_t f2 (frm_t f3 (frm_t f4 f5)))
    have e57 : u5 57 = s 57 := f 57 (by simp)
    have e58 : u5 58 = s 58 := f 58 (by simp)
    rw [e_T_size, cm u5 (by rw [e57]; exact t2), if_neg hb]
    refine m_putT (by omega) (T := T) ⟨by rw [up_pl (by decide), e57]; exact t2, fun k hk => by rw [up_ce (by decide), e58]; exact t4 k hk⟩ (by omega) fun w1 g1 d1 => ?_
    refine m_putT (by omega) d1 (by rw [apx_2]; omega) fun w2 g2 d2 => ?_
    refine m_putT (by omega) d2 (by rw [apx_2, apx_2]; omega) fun w3 g3 d3 => ?_
    refine m_putT (by omega) d3 (by rw [apx_2, apx_2, apx_2]; omega) fun w4 g4 d4 => ?_
    refine m_putT (by omega) d4 (by rw [apx_2, apx_2, apx_2, apx_2]; omega) fun w5 g5 d5 => ?_
    have gg : frN [58] [0, 6] u5 w5 := frN_t (frN_v (by simp)) (frN_w (frN_t g1 (frN_t g2 (frN_t g3 (frN_t g4 g5)))) (by simp) (by simp))
    have fr : frN [1, 2, 58] [0, 6] s w5 := frN_t (frN_w (frN_f (J := []) f (by simp)) (by simp) (by simp)) (frN_w gg (by simp) (by simp))
    rw [c5.1, d5.1]
    refine hK _ _ (REL_Ta h fr ⟨apx (apx (apx (apx (apx T x1) x2) x3) x4) x5, ⟨by rw [apx_2, apx_2, apx_2, apx_2, apx_2]; omega, apx_ok (apx_ok (apx_ok (apx_ok (apx_ok hT.2))))⟩, ?_, d5.1, fun k hk => ?_, d5.2⟩)
    · rw [gg.1 1 (by decide) (by decide)]; exact c5.1
    · rw [gg.1 2 (by decide) (by decide)]; exact c5.2 k hk
end
