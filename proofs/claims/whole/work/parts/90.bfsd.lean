/-! the class's search, its loops -/
section
variable {d c : Nat} {g : Gph} {s : Mem}
/-- an entry of the queue: the set, its first step, its steps -/
def enN (b : BS) (x : Nat) : Nat := x + 4096 * bF b x + 32768 * (bR b x - 1)
def BC (b : BS) (s : Mem) : Prop := s 51 4 = nI (bM b) ∧ (∀ x, x < 4096 → tb (s 55 (x / 32)) (x % 32) = ! decide (bR b x = 0)) ∧ ∀ i, i < bM b → s 54 i = nI (enN b (bQ b i))
/-- first steps are small; what is reached lies in the queue -/
def BX (b : BS) : Prop := (∀ x, bF b x < 8) ∧ ∀ x, bR b x ≠ 0 → ∃ i : Nat, i < bM b ∧ bQ b i = x
theorem BX_0 {st : Nat} : BX (b0 st) := by
  refine ⟨fun _ => (by decide : 0 < 8), fun x hx => ⟨0, (by decide : 0 < 1), ?_⟩⟩
  have hx' : (if x = st then 1 else 0) ≠ 0 := hx
  show st = x
  by_cases e : x = st
  · exact e.symm
  · exact absurd (if_neg e) hx'
theorem BX_new {n set side x : Nat} {b : BS} (h : BX b) (hs : side < 5) : BX (bNew n set side x b) := by
  refine ⟨fun y => ?_, fun y hy => ?_⟩
  · show upN (bF b) x (if n = 0 then side else bF b set) y < 8
    unfold upN
    have h1 := h.1 set
    have h2 := h.1 y
    split
    · split
      · omega
      · exact h1
    · exact h2
  · have hy' : (if y = x then bR b set + 1 else bR b y) ≠ 0 := hy
    by_cases e : y = x
    · exact ⟨bM b, Nat.lt_succ_self _, (if_pos rfl).trans e.symm⟩
    · rw [if_neg e] at hy'
      obtain ⟨i, hi, hq⟩ := h.2 y hy'
      exact ⟨i, Nat.lt_succ_of_lt hi, (if_neg (show ¬ i = bM b by omega)).trans hq⟩
theorem BI_B {B st : Nat} {b : BS} (h : BI B st b) : bM b ≤ B := by
  have := cnt_le (fun x => ! decide (bR b x = 0)) B
  rw [h.2.1] at this
  exact this
theorem nI_or {a b : Nat} (ha : a < 2 ^ 32) (hb : b < 2 ^ 32) : nI a ||| nI b = nI (a ||| b) := tb_ext fun k _ => by
  rw [tb_or, tb_nI ha, tb_nI hb, tb_nI (Nat.or_lt_two_pow ha hb), Nat.testBit_or]
theorem ent_or {x f r : Nat} (hx : x < 4096) (hf : f < 8) (hr : r ≤ 4096) : (nI x ||| (nI f <<< ((12 : Int32) &&& 31))) ||| (nI r <<< ((15 : Int32) &&& 31)) = nI (x + 4096 * f + 32768 * r) := by
  have e1 : x ||| f * 2 ^ 12 = x + 4096 * f := by
    have := Nat.two_pow_add_eq_or_of_lt (i := 12) (b := x) hx f
    rw [Nat.or_comm, Nat.mul_comm f, ← this]; omega
  have e2 : (x + 4096 * f) ||| r * 2 ^ 15 = x + 4096 * f + 32768 * r := by
    have := Nat.two_pow_add_eq_or_of_lt (i := 15) (b := x + 4096 * f) (by omega) r
    rw [Nat.or_comm, Nat.mul_comm r, ← this]; omega
  rw [pk_shlN (n := f) _ 12 (by decide) (by omega), pk_shlN (n := r) _ 15 (by decide) (by omega), nI_or (by omega) (by omega), e1, nI_or (by omega) (by omega), e2]
theorem en_lt {b : BS} {x : Nat} (hx : x < 4096) (hr : bR b x ≤ 4096) (hf : bF b x < 8) : enN b x < 2 ^ 31 := by
  unfold enN; omega
theorem en_st {b : BS} {x : Nat} (hx : x < 4096) (hr : bR b x ≤ 4096) (hf : bF b x < 8) : nI (enN b x) >>> ((15 : Int32) &&& 31) = nI (bR b x - 1) := by
  rw [pk_shrN (en_lt hx hr hf) _ 15 (by decide)]
  congr 1
  unfold enN; omega
theorem en_fs {b : BS} {x : Nat} (hx : x < 4096) (hr : bR b x ≤ 4096) (hf : bF b x < 8) : (nI (enN b x) >>> ((12 : Int32) &&& 31)) &&& 7 = nI (bF b x) := by
  have := en_lt hx hr hf
  rw [pk_shrN this _ 12 (by decide), pk_andN (by omega) 3 (by decide)]
  congr 1
  unfold enN; omega
theorem en_set {b : BS} {x : Nat} (hx : x < 4096) (hr : bR b x ≤ 4096) (hf : bF b x < 8) : nI (enN b x) &&& 4095 = nI x := by
  have := en_lt hx hr hf
  rw [pk_andN (by omega) 12 (by decide)]
  congr 1
  unfold enN; omega
theorem and_b0 {y : Int32} {k : Nat} (hk : k < 32) (h : tb y k = false) : y &&& bit k = 0 := tb_ext fun j _ => by
  rw [tb_and, tb_bit hk, show (0 : Int32) = nI 0 from rfl, tb_0]
  by_cases e : k = j
  · subst e; rw [h, Bool.false_and]
  · rw [decide_eq_false e, Bool.and_false]
theorem and_b1 {y : Int32} {k : Nat} (hk : k < 32) (h : tb y k = true) : ¬ y &&& bit k = 0 := fun z => by
  have := tb_and y (bit k) k
  rw [z, h, tb_bit hk, decide_eq_true rfl, show (0 : Int32) = nI 0 from rfl, tb_0] at this
  simp at this
/-- reach() -/
theorem c_reach {K : Mem → Prop} (hd : 2 ≤ d) {x f r : Nat} {b : BS} {t : Mem} (hx : x < 4096) (hf : f < 8) (hr : r ≤ 4096) (hm : bR b x = 0 → bM b < 4096) (hC : BC b t) (h1 : bR b x ≠ 0 → K t)
    (h0 : bR b x = 0 → ∀ s', frm [51, 54, 55] t s' → (∀ j, j ≠ 4 → s' 51 j = t 51 j) → s' 51 4 = nI (bM b + 1) → (∀ y, y < 4096 → tb (s' 55 (y / 32)) (y % 32) = (decide (y = x) || ! decide (bR b y = 0))) → (∀ i, i < bM b → s' 54 i = t 54 i) → s' 54 (bM b) = nI (x + 4096 * f + 32768 * r) → K s') :
    wV (wp d) m_B_reach [.ref 51, .int (nI x), .int (nI f), .int (nI r)] t K := by
  obtain ⟨d, rfl⟩ : ∃ e, d = e + 2 := ⟨d - 2, by omega⟩
  rw [e_B_reach, show (32 : Int32) = nI 32 from rfl, pk_rem (by omega) (by decide) (by decide), pk_div (by omega) (by decide) (by decide), c_at (d := d) (by decide) (show x / 32 < 128 by omega), show (1 : Int32) <<< (nI (x % 32) &&& 31) = bit (x % 32) from rfl]
  by_cases e : bR b x = 0
  · have ht : tb (t 55 (x / 32)) (x % 32) = false := by rw [hC.2.1 x hx, decide_eq_true e]; rfl
    have hm' := hm e
    rw [if_pos (and_b0 (by omega) ht), c_put (d := d) (by decide) (by decide) (show x / 32 < 128 by omega), up_ce (show 51 ≠ 55 by decide), hC.1, ent_or hx hf hr, c_put (d := d) (by decide) (by decide) (show bM b < 4096 from hm'), up_ce (show 51 ≠ 54 by decide), up_ce (show 51 ≠ 55 by decide), hC.1, show nI (bM b) + 1 = nI (bM b + 1) from nI_add _ 1]
    refine h0 e _ (frm_t (frm_u (by simp)) (frm_t (frm_u (by simp)) (frm_u (by simp)))) (fun j hj => by rw [up_pl hj, up_ce (by decide), up_ce (by decide)]) up_at (fun y hy => ?_) (fun i hi => ?_) ?_
    · rw [up_ce (show 55 ≠ 51 by decide), up_ce (show 55 ≠ 54 by decide)]
      by_cases e2 : y / 32 = x / 32
      · have e3 : decide (x % 32 = y % 32) = decide (y = x) := by
          by_cases z : y = x
          · rw [decide_eq_true z, decide_eq_true (by rw [z])]
          · rw [decide_eq_false z, decide_eq_false (by omega)]
        rw [e2, up_at, tb_or, tb_bit (by omega), e3, ← e2, hC.2.1 y hy, Bool.or_comm]
      · rw [up_pl e2, hC.2.1 y hy, decide_eq_false (show ¬ y = x from fun z => e2 (by rw [z])), Bool.false_or]
    · rw [up_ce (show 54 ≠ 51 by decide), up_pl (by omega), up_ce (show 54 ≠ 55 by decide)]
    · rw [up_ce (show 54 ≠ 51 by decide), up_at]
  · have ht : tb (t 55 (x / 32)) (x % 32) = true := by rw [hC.2.1 x hx, decide_eq_false e]; rfl
    rw [if_neg (and_b1 (by omega) ht)]
    exact h1 e
theorem c_gather_l (hg : gOk g) (hN : num g (gN g) ≤ 12) {st goal : Nat} (hgoal : goal < 4096) (hd : 3 ≤ d) {TOT : BS} {K : Int32 → Mem → Prop}
    (hK0 : bR TOT goal = 0 → ∀ s', frm [51, 54, 55] s s' → K 0 s')
    (hK1 : bR TOT goal ≠ 0 → bR TOT goal ≤ 4096 → bF TOT goal < 8 → ∀ s', frm [51, 54, 55] s s' → s' 51 6 = nI (enN TOT goal) → K 1 s') :
    ∀ (f n : Nat) (b : BS) (t : Mem) (v1 v2 v3 v6 v7 : Value), 2 ^ num g (gN g) + 1 ≤ f + n → n ≤ bM b → BI (2 ^ num g (gN g)) st b → BX b → (∀ i, i < n → bQ b i ≠ goal) → BC b t → NC g t → frm [51, 54, 55] s t → (bR b goal = 0 → TOT = bAll (mv g) goal f n b) → (bR b goal ≠ 0 → bR TOT goal = bR b goal ∧ bF TOT goal = bF b goal) → RnI d m_B_gather K 43 [.ref 51, v1, v2, v3, .int (nI goal), .int (nI n), v6, v7] [] t := by
  have hB : 2 ^ num g (gN g) ≤ 4096 := Nat.le_trans (Nat.pow_le_pow_right (by decide) hN) (by decide)
  intro f
  induction f with
  | zero =>
    intro n b t v1 v2 v3 v6 v7 hf hn hI
    have := BI_B hI
    omega
  | succ f ih =>
    intro n b t v1 v2 v3 v6 v7 hf hn hI hX hG hC hNC hfr hT0 hT1
    have hm := BI_B hI
    obtain ⟨d, rfl⟩ : ∃ e, d = e + 1 := ⟨d - 1, by omega⟩
    rw [r_B_gather_43, hC.1]
    by_cases h1 : n < bM b
    · obtain ⟨hqB, hqR⟩ := hI.2.2.2.1 n h1
      have hRq := hI.2.2.1 (bQ b n)
      have hFq := hX.1 (bQ b n)
      rw [if_pos (show nI n < nI (bM b) by rw [nI_ltI (by omega) (by omega)]; exact h1), if_pos (show nI n < 4096 by rw [show (4096 : Int32) = nI 4096 from rfl, nI_ltI (by omega) (by omega)]; omega), c_at (d := d) (by decide) (show n < 4096 by omega), hC.2.2 n h1, en_set (by omega) (by omega) hFq]
      by_cases h2 : bQ b n = goal
      · rw [if_pos (by rw [h2])]
        have hr : bR b goal ≠ 0 := h2 ▸ hqR
        obtain ⟨t1, t2⟩ := hT1 hr
        have hRg := hI.2.2.1 goal
        have hFg := hX.1 goal
        refine hK1 (by rw [t1]; exact hr) (by rw [t1]; omega) (by rw [t2]; exact hFg) _ (frm_t hfr (frm_u (by simp))) ?_
        rw [up_at, h2]
        unfold enN
        rw [t1, t2]
      · rw [if_neg (show ¬ nI (bQ b n) = nI goal by rw [nI_eq (by omega) (by omega)]; exact h2)]
        have row : ∀ (k side : Nat) (b' : BS) (u : Mem) (w1 w2 w3 : Value), side + k = 5 → 1 ≤ side → BI (2 ^ num g (gN g)) st b' → BX b' → (∀ i, i < n + 1 → bQ b' i ≠ goal) → BC b' u → NC g u → u 51 6 = nI (enN b' (bQ b n)) → frm [51, 54, 55] s u → bR b' (bQ b n) ≠ 0 → n < bM b' → bRow (mv g) n (bQ b n) k side b' = bRow (mv g) n (bQ b n) 4 1 b → RnI (d + 1) m_B_gather K 95 [.ref 51, w1, w2, w3, .int (nI goal), .int (nI n), .int (nI (bQ b n)), .int (nI side)] [] u := by
          intro k
          induction k with
          | zero =>
            intro side b' u w1 w2 w3 hs h1s hI' hX' hG' hC' hNC' h6' hfr' hqR' hn' hrow
            obtain rfl : side = 5 := by omega
            rw [r_B_gather_95, if_neg (show ¬ nI 5 < 5 by decide), show nI n + 1 = nI (n + 1) from nI_add n 1]
            have hb' : b' = bRow (mv g) n (bQ b n) 4 1 b := hrow
            have hstep : bR b goal = 0 → TOT = bAll (mv g) goal f (n + 1) b' := fun hz => by
              rw [hT0 hz, hb']
              exact if_pos ⟨h1, hz⟩
            refine ih (n + 1) b' u _ _ _ _ _ (by omega) (by omega) hI' hX' hG' hC' hNC' hfr' (fun z => ?_) (fun z => ?_)
            · refine hstep (Classical.byContradiction fun y => ?_)
              have := (keep_row (M := mv g) (n := n) (set := bQ b n) 4 1 b y).1
              rw [← hb', z] at this
              exact y this.symm
            · by_cases hz : bR b goal = 0
              · rw [hstep hz, bAll_stop f (n + 1) b' z]
                exact ⟨rfl, rfl⟩
              · have kr := keep_row (M := mv g) (n := n) (set := bQ b n) 4 1 b hz
                rw [← hb'] at kr
                obtain ⟨t1, t2⟩ := hT1 hz
                exact ⟨t1.trans kr.1.symm, t2.trans kr.2.symm⟩
          | succ k ihk =>
            intro side b' u w1 w2 w3 hs h1s hI' hX' hG' hC' hNC' h6' hfr' hqR' hn' hrow
            have hm' := BI_B hI'
            obtain ⟨e1, e2⟩ := mv_ok hN (bQ b n) side
            have hRq' := hI'.2.2.1 (bQ b n)
            have hFq' := hX'.1 (bQ b n)
            have est : nI (enN b' (bQ b n)) >>> ((15 : Int32) &&& 31) + 1 = nI (bR b' (bQ b n)) := by
              rw [en_st (by omega) (by omega) hFq', show (1 : Int32) = nI 1 from rfl, nI_add]
              congr 1
              omega
            have efs := en_fs (b := b') (x := bQ b n) (by omega) (by omega) hFq'
            have fin : ∀ fs : Nat, fs < 8 → fs = (if n = 0 then side else bF b' (bQ b n)) → wV (wp (d + 1)) m_B_reach [.ref 51, .int (nI (mv g (bQ b n) side)), .int (nI fs), .int (nI (bR b' (bQ b n)))] u (fun s130 => RnI (d + 1) m_B_gather K 95 [.ref 51, uV, uV, uV, .int (nI goal), .int (nI n), .int (nI (bQ b n)), .int (nI (side + 1))] [] s130) := by
              intro fs hfs hfe
              refine c_reach (by omega) (x := mv g (bQ b n) side) (by omega) hfs (by omega) (fun h0 => Nat.lt_of_lt_of_le (BI_lt hI' e2 h0) hB) hC' (fun h0 => ?_) (fun h0 s' f' p' m' b1 q1 q2 => ?_)
              · have eone : bOne (mv g) n (bQ b n) side b' = b' := if_neg h0
                have hrow2 : bRow (mv g) n (bQ b n) k (side + 1) b' = bRow (mv g) n (bQ b n) 4 1 b := by
                  rw [← hrow]
                  show _ = bRow (mv g) n (bQ b n) k (side + 1) (bOne (mv g) n (bQ b n) side b')
                  rw [eone]
                exact ihk (side + 1) b' u _ _ _ (by omega) (by omega) hI' hX' hG' hC' hNC' h6' hfr' hqR' hn' hrow2
              · have eone : bOne (mv g) n (bQ b n) side b' = bNew n (bQ b n) side (mv g (bQ b n) side) b' := if_pos h0
                have ne : bQ b n ≠ mv g (bQ b n) side := fun z => hqR' (z ▸ h0)
                have hrow2 : bRow (mv g) n (bQ b n) k (side + 1) (bNew n (bQ b n) side (mv g (bQ b n) side) b') = bRow (mv g) n (bQ b n) 4 1 b := by
                  rw [← hrow]
                  show _ = bRow (mv g) n (bQ b n) k (side + 1) (bOne (mv g) n (bQ b n) side b')
                  rw [eone]
                generalize mv g (bQ b n) side = x at *
                have enE : ∀ y, y ≠ x → enN (bNew n (bQ b n) side x b') y = enN b' y := fun y hy => by
                  show y + 4096 * (if y = x then _ else bF b' y) + 32768 * ((if y = x then _ else bR b' y) - 1) = _
                  rw [if_neg hy, if_neg hy]
                  rfl
                refine ihk (side + 1) (bNew n (bQ b n) side x b') s' _ _ _ (by omega) (by omega) (BI_new hI' e2 h0) (BX_new hX' (by omega)) (fun i hi => ?_) ⟨m', fun y hy => ?_, fun i hi => ?_⟩ (NC_f hNC' f' (by decide) (p' 2 (by decide))) (by rw [p' 6 (by decide), h6', enE _ ne]) (frm_t hfr' f') ?_ ?_ hrow2
                · show (if i = bM b' then x else bQ b' i) ≠ goal
                  rw [if_neg (by omega)]
                  exact hG' i hi
                · rw [b1 y hy]
                  show _ = ! decide ((if y = x then bR b' (bQ b n) + 1 else bR b' y) = 0)
                  by_cases e : y = x
                  · rw [if_pos e, decide_eq_true e, decide_eq_false (show ¬ bR b' (bQ b n) + 1 = 0 by omega)]; rfl
                  · rw [if_neg e, decide_eq_false e, Bool.false_or]
                · have hi' : i < bM b' + 1 := hi
                  by_cases e : i = bM b'
                  · have eq : bQ (bNew n (bQ b n) side x b') i = x := if_pos e
                    rw [eq, e, q2]
                    show _ = nI (x + 4096 * (if x = x then (if n = 0 then side else bF b' (bQ b n)) else bF b' x) + 32768 * ((if x = x then bR b' (bQ b n) + 1 else bR b' x) - 1))
                    rw [if_pos rfl, if_pos rfl, ← hfe, Nat.add_sub_cancel]
                  · have eq : bQ (bNew n (bQ b n) side x b') i = bQ b' i := if_neg e
                    have ne2 : bQ b' i ≠ x := fun z => (hI'.2.2.2.1 i (by omega)).2 (by rw [z]; exact h0)
                    rw [q1 i (by omega), hC'.2.2 i (by omega), eq, enE _ ne2]
                · show (if bQ b n = x then _ else bR b' (bQ b n)) ≠ 0
                  rw [if_neg ne]; exact hqR'
                · show n < bM b' + 1
                  omega
            rw [r_B_gather_95, if_pos (show nI side < 5 by rw [q5, nI_ltI (by omega) (by omega)]; omega), c_moved (by omega) hg hNC' hN h1s (by omega), e1, show nI side + 1 = nI (side + 1) from nI_add side 1]
            by_cases hn0 : n = 0
            · rw [if_pos (show nI n = 0 by rw [hn0]; rfl), e_B_stepCount, h6', est]
              exact fin side (by omega) (by rw [if_pos hn0])
            · rw [if_neg (show ¬ nI n = 0 by rw [q0, nI_eq (by omega) (by omega)]; exact hn0), e_B_firstStep, h6', efs, e_B_stepCount, h6', est]
              exact fin _ hFq' (by rw [if_neg hn0])
        have fu : frm [51] t (upM t 51 6 (nI (enN b (bQ b n)))) := frm_u (by simp)
        refine row 4 1 b _ _ _ _ rfl (by omega) hI hX (fun i hi => ?_) ⟨by rw [up_pl (by decide)]; exact hC.1, fun x hx => by rw [up_ce (by decide)]; exact hC.2.1 x hx, fun i hi => by rw [up_ce (by decide)]; exact hC.2.2 i hi⟩ (NC_f hNC fu (by decide) (by rw [up_pl (by decide)])) up_at (frm_t hfr (frm_w fu (by simp))) hqR h1 rfl
        by_cases e : i = n
        · rw [e]; exact h2
        · exact hG i (by omega)
    · rw [if_neg (show ¬ nI n < nI (bM b) by rw [nI_ltI (by omega) (by omega)]; exact h1)]
      have hz : bR b goal = 0 := Classical.byContradiction fun z => by
        obtain ⟨i, hi, e⟩ := hX.2 goal z
        exact hG i (by omega) e
      have h := hT0 hz
      rw [show bAll (mv g) goal (f + 1) n b = b from if_neg fun z => h1 z.1] at h
      exact hK0 (by rw [h]; exact hz) t hfr
/-- the set of one street -/
theorem pk_one {p : Nat} (hp : p < gN g) (hs : gst g p = true) (h20 : gN g ≤ 20) (hN : num g (gN g) ≤ 12) : pkI g (bit p) = nI (2 ^ num g p) := by
  have hpn := num_lt hp hs
  rw [← bit_n _ (by omega)]
  refine tb_ext fun e _ => ?_
  rw [tb_bit (by omega)]
  by_cases he : num g p = e
  · rw [decide_eq_true he, ← he]
    exact orH_in (p := fun k => gst g k && tb (bit p) k) (h := num g) (k := p) (by rw [hs, tb_bit (by omega), decide_eq_true rfl]; rfl) (by omega) hp
  · rw [decide_eq_false he]
    exact itr_P (f := orH (fun k => gst g k && tb (bit p) k) (num g)) (P := fun _ x => tb x e = false) (n := gN g) (i := 0) (a := nI 0) tb_0 (fun k a _ hk ha => by
      unfold orH
      by_cases hq : (gst g k && tb (bit p) k) = true
      · have h2 := (Bool.and_eq_true_iff.mp hq).2
        rw [tb_bit (by omega)] at h2
        have h3 := of_decide_eq_true h2
        subst h3
        rw [if_pos hq, tb_or, ha, tb_bit (by omega), decide_eq_false he]; rfl
      · rw [if_neg hq]; exact ha)
/-- gather() -/
theorem c_gather (hcc : isC c) (hg : gOk g) (hc : CityC c g s) (hN : num g (gN g) ≤ 12) (hd : 5 ≤ d) {p : Nat} (hp : p < gN g) (hs : gst g p = true) {x : Int32} {TOT : BS} (hT : TOT = bAll (mv g) (2 ^ num g p) (2 ^ num g (gN g) + 1) 0 (b0 (pk g x))) {K : Int32 → Mem → Prop}
    (hK0 : bR TOT (2 ^ num g p) = 0 → ∀ s', frm [51, 52, 53, 54, 55] s s' → K 0 s')
    (hK1 : bR TOT (2 ^ num g p) ≠ 0 → bR TOT (2 ^ num g p) ≤ 4096 → bF TOT (2 ^ num g p) < 8 → ∀ s', frm [51, 52, 53, 54, 55] s s' → s' 51 6 = nI (enN TOT (2 ^ num g p)) → K 1 s') :
    wI (wp d) m_B_gather [.ref 51, .ref c, .int x, .int (nI p)] s K := by
  have h20 := gN_le hg
  have hL := C_le hcc
  have hB : 2 ^ num g (gN g) ≤ 4096 := Nat.le_trans (Nat.pow_le_pow_right (by decide) hN) (by decide)
  have hpn := num_lt hp hs
  have hgoal : 2 ^ num g p < 4096 := Nat.lt_of_lt_of_le (Nat.pow_lt_pow_right (by decide) hpn) hB
  obtain ⟨hk1, hk2⟩ := pk_ok hN x
  obtain ⟨d, rfl⟩ : ∃ e, d = e + 2 := ⟨d - 2, by omega⟩
  have cO : ∀ {u v : Mem} {L : List Nat}, CityC c g u → frm L u v → (∀ a, a ∈ L → 51 ≤ a) → CityC c g v := fun h hf hl => CityC_a h (hf c (fun z => by have := hl _ z; omega)) (hf (c + 3) (fun z => by have := hl _ z; omega)) (hf (c + 4) (fun z => by have := hl _ z; omega))
  rw [e_B_gather]
  refine c_number51 (by omega) hcc hg hc hN fun s1 f1 n1 => ?_
  refine c_fill (by omega) (by decide) (by decide) fun s3 f3 z3 => ?_
  have z3' : ∀ k, k < 128 → s3 55 k = nI 0 := fun k hk => z3 k hk
  have f4 : frm [51] s3 (upM s3 51 4 (nI 0)) := frm_u (by simp)
  have f34 : frm [51, 55] s1 (upM s3 51 4 (nI 0)) := frm_t (frm_w f3 (by simp)) (frm_w f4 (by simp))
  have c4 : CityC c g (upM s3 51 4 (nI 0)) := cO (cO hc f1 (by simp)) f34 (by simp)
  have n4 : NC g (upM s3 51 4 (nI 0)) := NC_f n1 f34 (by decide) (by rw [up_pl (by decide), f3 51 (by decide)])
  rw [show (0 : Int32) = nI 0 from rfl, c_packed (by omega) hcc hg c4 n4, hk1]
  refine c_reach (b := (0, (fun _ => 0), (fun _ => 0), (fun _ => 0))) (by omega) (x := pk g x) (f := 0) (r := 0) (by omega) (by decide) (by decide) (fun _ => (by decide : 0 < 4096)) ⟨up_at, fun y hy => ?_, fun i hi => absurd hi (Nat.not_lt_zero i)⟩ (fun z => absurd rfl z) (fun _ s5 f5 p5 m5 b5 _ q5' => ?_)
  · rw [up_ce (by decide), z3' _ (by omega), tb_0]; rfl
  have f45 : frm [51, 54, 55] s1 s5 := frm_t (frm_w f34 (by simp)) f5
  have n5 : NC g s5 := NC_f n4 f5 (by decide) (p5 2 (by decide))
  have c5 : CityC c g s5 := cO c4 f5 (by simp)
  rw [show (1 : Int32) <<< (nI p &&& 31) = bit p from rfl, c_packed (by omega) hcc hg c5 n5, pk_one hp hs h20 hN]
  refine c_gather_l (s := s5) hg hN (st := pk g x) (goal := 2 ^ num g p) hgoal (by omega) (TOT := TOT) (fun z s' f' => hK0 z s' ?_) (fun z z2 z3 s' f' h6 => hK1 z z2 z3 s' ?_ h6) (2 ^ num g (gN g) + 1) 0 (b0 (pk g x)) s5 _ _ _ _ _ (by omega) (by omega) (BI_0 hk2) BX_0 (fun i hi => absurd hi (Nat.not_lt_zero i)) ⟨m5, fun y hy => ?_, fun i hi => ?_⟩ n5 frm_r (fun _ => hT) (fun z => ?_)
  · exact frm_t (frm_w f1 (by simp)) (frm_t (frm_w f45 (by simp)) (frm_w f' (by simp)))
  · exact frm_t (frm_w f1 (by simp)) (frm_t (frm_w f45 (by simp)) (frm_w f' (by simp)))
  · rw [b5 y hy]
    have eb : bR (b0 (pk g x)) y = if y = pk g x then 1 else 0 := rfl
    by_cases e : y = pk g x
    · rw [decide_eq_true e, decide_eq_false (show ¬ bR (b0 (pk g x)) y = 0 by rw [eb, if_pos e]; decide)]; rfl
    · rw [decide_eq_false e, decide_eq_true (show bR (b0 (pk g x)) y = 0 by rw [eb, if_neg e])]; rfl
  · have hi' : i < 1 := hi
    obtain rfl : i = 0 := by omega
    have q : s5 54 0 = nI (pk g x + 4096 * 0 + 32768 * 0) := q5'
    rw [q]
    show _ = nI (pk g x + 4096 * 0 + 32768 * ((if pk g x = pk g x then 1 else 0) - 1))
    rw [if_pos rfl]
  · rw [hT, bAll_stop _ _ _ z]
    exact ⟨rfl, rfl⟩
end
