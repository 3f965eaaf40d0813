/-! the class's search, its loops -/
section
variable {d c : Nat} {g : Gph} {s : Mem}
def BC (b : BS) (s : Mem) : Prop := (∀ x, x < 4096 → s 55 x = nI (bR b x)) ∧ (∀ x, x < 4096 → bR b x ≠ 0 → s 56 x = nI (bF b x)) ∧ ∀ i, i < bM b → s 54 i = nI (bQ b i)
theorem BI_B {B st : Nat} {b : BS} (h : BI B st b) : bM b ≤ B := by
  have := cnt_le (fun x => ! decide (bR b x = 0)) B
  rw [h.2.1] at this
  exact this
theorem c_gather_l (hg : gOk g) (hN : num g (gN g) ≤ 12) {st goal : Nat} (hgoal : goal < 4096) (hd : 3 ≤ d) {K : Int32 → Mem → Prop}
    (hK : ∀ s' b, frm [51, 54, 55, 56] s s' → BI (2 ^ num g (gN g)) st b → BC b s' → s' 51 6 = nI goal → b = bAll (mv g) goal (2 ^ num g (gN g) + 1) 0 (b0 st) → K (b01 (! decide (bR b goal = 0))) s') :
    ∀ (f n : Nat) (b : BS) (t : Mem) (v1 v2 v3 v4 v7 v8 v9 : Value), 2 ^ num g (gN g) + 1 ≤ f + n → n ≤ bM b → BI (2 ^ num g (gN g)) st b → BC b t → NC g t → t 51 6 = nI goal → frm [51, 54, 55, 56] s t → bAll (mv g) goal (2 ^ num g (gN g) + 1) 0 (b0 st) = bAll (mv g) goal f n b → RnI d m_B_gather K 71 [.ref 51, v1, v2, v3, v4, .int (nI (bM b)), .int (nI n), v7, v8, v9] [] t := by
  have hB : 2 ^ num g (gN g) ≤ 4096 := Nat.le_trans (Nat.pow_le_pow_right (by decide) hN) (by decide)
  intro f
  induction f with
  | zero =>
    intro n b t v1 v2 v3 v4 v7 v8 v9 hf hn hI
    have := BI_B hI
    omega
  | succ f ih =>
    intro n b t v1 v2 v3 v4 v7 v8 v9 hf hn hI hC hNC h6 hfr hall
    have hm := BI_B hI
    have hRg := hI.2.2.1 goal
    obtain ⟨d, rfl⟩ : ∃ e, d = e + 1 := ⟨d - 1, by omega⟩
    have e55 : t 55 goal = nI (bR b goal) := hC.1 goal hgoal
    -- the answer
    have fin : ¬ (n < bM b ∧ bR b goal = 0) → wI (wp (d + 1)) m_X_at [.ref 55, .int (t 51 6)] t (fun x224 s224 => (if x224 = 0 then K 0 s224 else K 1 s224)) := by
      intro hstop
      rw [show bAll (mv g) goal (f + 1) n b = b from if_neg hstop] at hall
      have := hK t b hfr hI hC h6 hall.symm
      rw [h6, c_at (d := d) (by decide) (show goal < 4096 from hgoal), e55]
      by_cases e : bR b goal = 0
      · rw [decide_eq_true e] at this
        rw [if_pos (by rw [e]; rfl)]
        exact this
      · rw [decide_eq_false e] at this
        rw [if_neg (show ¬ nI (bR b goal) = 0 by rw [q0, nI_eq (by omega) (by omega)]; exact e)]
        exact this
    rw [r_B_gather_71]
    by_cases h1 : n < bM b
    · rw [if_pos (show nI n < nI (bM b) by rw [nI_ltI (by omega) (by omega)]; exact h1), if_pos (show nI n < 4096 by rw [show (4096 : Int32) = nI 4096 from rfl, nI_ltI (by omega) (by omega)]; omega)]
      by_cases h2 : bR b goal = 0
      · rw [h6, c_at (d := d) (by decide) (show goal < 4096 from hgoal), e55, if_pos (by rw [h2]; rfl), c_at (d := d) (by decide) (show n < 4096 by omega), hC.2.2 n h1, show (1 : Int32) = nI 1 from rfl]
        obtain ⟨hqB, hqR⟩ := hI.2.2.2.1 n h1
        rw [show bAll (mv g) goal (f + 1) n b = bAll (mv g) goal f (n + 1) (bRow (mv g) n (bQ b n) 4 1 b) from if_pos ⟨h1, h2⟩] at hall
        -- a row
        have row : ∀ (k side : Nat) (b' : BS) (u : Mem) (w1 w2 w3 w4 w9 : Value), side + k = 5 → 1 ≤ side → BI (2 ^ num g (gN g)) st b' → BC b' u → NC g u → u 51 6 = nI goal → frm [51, 54, 55, 56] s u → bR b' (bQ b n) ≠ 0 → n < bM b' → bRow (mv g) n (bQ b n) k side b' = bRow (mv g) n (bQ b n) 4 1 b → RnI (d + 1) m_B_gather K 114 [.ref 51, w1, w2, w3, w4, .int (nI (bM b')), .int (nI n), .int (nI (bQ b n)), .int (nI side), w9] [] u := by
          intro k
          induction k with
          | zero =>
            intro side b' u w1 w2 w3 w4 w9 hs h1s hI' hC' hNC' h6' hfr' hqR' hn' hrow
            obtain rfl : side = 5 := by omega
            rw [r_B_gather_114, if_neg (show ¬ nI 5 < 5 by decide), show nI n + 1 = nI (n + 1) from nI_add n 1]
            have hrow' : b' = bRow (mv g) n (bQ b n) 4 1 b := hrow
            rw [← hrow'] at hall
            exact ih (n + 1) b' u _ _ _ _ _ _ _ (by omega) (by omega) hI' hC' hNC' h6' hfr' hall
          | succ k ihk =>
            intro side b' u w1 w2 w3 w4 w9 hs h1s hI' hC' hNC' h6' hfr' hqR' hn' hrow
            have hm' := BI_B hI'
            obtain ⟨e1, e2⟩ := mv_ok hN (bQ b n) side
            have hx : mv g (bQ b n) side < 4096 := by omega
            have hRx := hI'.2.2.1 (mv g (bQ b n) side)
            rw [r_B_gather_114, if_pos (show nI side < 5 by rw [q5, nI_ltI (by omega) (by omega)]; omega), c_moved (by omega) hg hNC' hN h1s (by omega), e1, c_at (d := d) (by decide) (show mv g (bQ b n) side < 4096 from hx), hC'.1 _ hx, show nI side + 1 = nI (side + 1) from nI_add side 1]
            by_cases h0 : bR b' (mv g (bQ b n) side) = 0
            · have hlt := BI_lt hI' e2 h0
              have eone : bOne (mv g) n (bQ b n) side b' = bNew n (bQ b n) side (mv g (bQ b n) side) b' := if_pos h0
              have hrow2 : bRow (mv g) n (bQ b n) k (side + 1) (bNew n (bQ b n) side (mv g (bQ b n) side) b') = bRow (mv g) n (bQ b n) 4 1 b := by
                rw [← eone]; exact hrow
              have ne : bQ b n ≠ mv g (bQ b n) side := fun z => hqR' (z ▸ h0)
              rw [if_pos (by rw [h0]; rfl), c_at (d := d) (by decide) (show bQ b n < 4096 by omega), hC'.1 _ (by omega), show nI (bR b' (bQ b n)) + 1 = nI (bR b' (bQ b n) + 1) from nI_add _ 1, c_put (d := d) (by decide) (by decide) (show mv g (bQ b n) side < 4096 from hx)]
              have go : ∀ (y : Int32) (w1 w2 w3 w4 w9 : Value), y = nI (if n = 0 then side else bF b' (bQ b n)) → wV (wp (d + 1)) m_X_put [.ref 56, .int (nI (mv g (bQ b n) side)), .int y] (upM u 55 (mv g (bQ b n) side) (nI (bR b' (bQ b n) + 1))) (fun s187 => wV (wp (d + 1)) m_X_put [.ref 54, .int (nI (bM b')), .int (nI (mv g (bQ b n) side))] s187 (fun s198 => RnI (d + 1) m_B_gather K 114 [.ref 51, w1, w2, w3, w4, .int (nI (bM b') + 1), .int (nI n), .int (nI (bQ b n)), .int (nI (side + 1)), w9] [] s198)) := by
                intro y w1 w2 w3 w4 w9 hy
                rw [c_put (d := d) (by decide) (by decide) (show mv g (bQ b n) side < 4096 from hx), c_put (d := d) (by decide) (by decide) (show bM b' < 4096 by omega), show nI (bM b') + 1 = nI (bM b' + 1) from nI_add _ 1]
                have hfu : frm [54, 55, 56] u (upM (upM (upM u 55 (mv g (bQ b n) side) (nI (bR b' (bQ b n) + 1))) 56 (mv g (bQ b n) side) y) 54 (bM b') (nI (mv g (bQ b n) side))) := frm_t (frm_u (by simp)) (frm_t (frm_u (by simp)) (frm_u (by simp)))
                refine ihk (side + 1) (bNew n (bQ b n) side (mv g (bQ b n) side) b') _ _ _ _ _ _ (by omega) (by omega) (BI_new hI' e2 h0) ⟨fun x hx' => ?_, fun x hx' hr => ?_, fun i hi => ?_⟩ (NC_f hNC' hfu (by decide) (by rw [hfu 51 (by decide)])) (by rw [hfu 51 (by decide)]; exact h6') (frm_t hfr' (frm_w hfu (by simp))) ?_ ?_ hrow2
                · rw [up_ce (show 55 ≠ 54 by decide), up_ce (show 55 ≠ 56 by decide)]
                  show _ = nI (if x = mv g (bQ b n) side then bR b' (bQ b n) + 1 else bR b' x)
                  by_cases e : x = mv g (bQ b n) side
                  · rw [if_pos e, e, up_at]
                  · rw [if_neg e, up_pl e]; exact hC'.1 x hx'
                · rw [up_ce (show 56 ≠ 54 by decide)]
                  have hr' : (if x = mv g (bQ b n) side then bR b' (bQ b n) + 1 else bR b' x) ≠ 0 := hr
                  show _ = nI (if x = mv g (bQ b n) side then (if n = 0 then side else bF b' (bQ b n)) else bF b' x)
                  by_cases e : x = mv g (bQ b n) side
                  · rw [if_pos e, e, up_at]; exact hy
                  · rw [if_neg e] at hr' ⊢
                    rw [up_pl e, up_ce (by decide)]; exact hC'.2.1 x hx' hr'
                · have hi' : i < bM b' + 1 := hi
                  show _ = nI (if i = bM b' then mv g (bQ b n) side else bQ b' i)
                  by_cases e : i = bM b'
                  · rw [if_pos e, e, up_at]
                  · rw [if_neg e, up_pl e, up_ce (by decide), up_ce (by decide)]; exact hC'.2.2 i (by omega)
                · show (if bQ b n = mv g (bQ b n) side then _ else bR b' (bQ b n)) ≠ 0
                  rw [if_neg ne]; exact hqR'
                · show n < bM b' + 1
                  omega
              by_cases hn0 : n = 0
              · rw [if_pos (show nI n = 0 by rw [hn0]; rfl)]
                exact go _ _ _ _ _ _ (by rw [if_pos hn0])
              · rw [if_neg (show ¬ nI n = 0 by rw [q0, nI_eq (by omega) (by omega)]; exact hn0), c_at (d := d) (by decide) (show bQ b n < 4096 by omega), up_ce (show 56 ≠ 55 by decide), hC'.2.1 _ (by omega) hqR']
                exact go _ _ _ _ _ _ (by rw [if_neg hn0])
            · have eone : bOne (mv g) n (bQ b n) side b' = b' := if_neg h0
              have hrow2 : bRow (mv g) n (bQ b n) k (side + 1) b' = bRow (mv g) n (bQ b n) 4 1 b := by
                rw [← hrow]
                show _ = bRow (mv g) n (bQ b n) k (side + 1) (bOne (mv g) n (bQ b n) side b')
                rw [eone]
              rw [if_neg (show ¬ nI (bR b' (mv g (bQ b n) side)) = 0 by rw [q0, nI_eq (by omega) (by omega)]; exact h0)]
              exact ihk (side + 1) b' u _ _ _ _ _ (by omega) (by omega) hI' hC' hNC' h6' hfr' hqR' hn' hrow2
        exact row 4 1 b t _ _ _ _ _ rfl (by omega) hI hC hNC h6 hfr hqR h1 rfl
      · have := fin fun z => h2 z.2
        rw [h6, c_at (d := d) (by decide) (show goal < 4096 from hgoal), e55, if_neg (show ¬ nI (bR b goal) = 0 by rw [q0, nI_eq (by omega) (by omega)]; exact h2)]
        exact this
    · rw [if_neg (show ¬ nI n < nI (bM b) by rw [nI_ltI (by omega) (by omega)]; exact h1)]
      exact fin fun z => h1 z.1
/-- gather() -/
theorem c_gather (hcc : isC c) (hg : gOk g) (hc : CityC c g s) (hN : num g (gN g) ≤ 12) (hd : 5 ≤ d) {p : Nat} (hp : p < gN g) (hs : gst g p = true) {x : Int32} {K : Int32 → Mem → Prop}
    (hK : ∀ s' b, frm [51, 52, 53, 54, 55, 56] s s' → BI (2 ^ num g (gN g)) (pk g x) b → BC b s' → s' 51 6 = nI (2 ^ num g p) → b = bAll (mv g) (2 ^ num g p) (2 ^ num g (gN g) + 1) 0 (b0 (pk g x)) → K (b01 (! decide (bR b (2 ^ num g p) = 0))) s') :
    wI (wp d) m_B_gather [.ref 51, .ref c, .int x, .int (nI p)] s K := by
  have h20 := gN_le hg
  have hL := C_le hcc
  have hB : 2 ^ num g (gN g) ≤ 4096 := Nat.le_trans (Nat.pow_le_pow_right (by decide) hN) (by decide)
  have hpn := num_lt hp hs
  have hgoal : 2 ^ num g p < 4096 := Nat.lt_of_lt_of_le (Nat.pow_lt_pow_right (by decide) hpn) hB
  obtain ⟨hk1, hk2⟩ := pk_ok hN x
  obtain ⟨d, rfl⟩ : ∃ e, d = e + 2 := ⟨d - 2, by omega⟩
  rw [e_B_gather]
  refine c_number51 (by omega) hcc hg hc hN fun s1 f1 n1 => ?_
  have c1 : CityC c g s1 := CityC_a hc (f1 c (by simp only [List.mem_cons, List.not_mem_nil, or_false]; omega)) (f1 (c + 3) (by simp only [List.mem_cons, List.not_mem_nil, or_false]; omega)) (f1 (c + 4) (by simp only [List.mem_cons, List.not_mem_nil, or_false]; omega))
  rw [c_at (d := d) (by decide) (show p < 20 by omega), n1.2.1 p hp hs, show (1 : Int32) <<< (nI (num g p) &&& 31) = nI (2 ^ num g p) from bit_n _ (by omega)]
  have f2 : frm [51] s1 (upM s1 51 6 (nI (2 ^ num g p))) := frm_u (by simp)
  have n2 : NC g (upM s1 51 6 (nI (2 ^ num g p))) := NC_f n1 f2 (by decide) (by rw [up_pl (by decide)])
  have c2 : CityC c g (upM s1 51 6 (nI (2 ^ num g p))) := CityC_a c1 (up_ce (by omega)) (up_ce (by omega)) (up_ce (by omega))
  rw [c_packed (by omega) hcc hg c2 n2, hk1]
  refine c_fill (by omega) (by decide) (by decide) fun s3 f3 z3 => ?_
  have z3' : ∀ k, k < 4096 → s3 55 k = nI 0 := fun k hk => z3 k hk
  rw [c_put (d := d) (by decide) (by decide) (show pk g x < 4096 by omega), c_put (d := d) (by decide) (by decide) (show pk g x < 4096 by omega), show (0 : Int32) = nI 0 from rfl, c_put (d := d) (by decide) (by decide) (show 0 < 4096 by omega), show (1 : Int32) = nI 1 from rfl]
  have f4 : frm [54, 55, 56] s3 (upM (upM (upM s3 55 (pk g x) (nI 1)) 56 (pk g x) (nI 0)) 54 0 (nI (pk g x))) := frm_t (frm_u (by simp)) (frm_t (frm_u (by simp)) (frm_u (by simp)))
  have f34 : frm [54, 55, 56] (upM s1 51 6 (nI (2 ^ num g p))) (upM (upM (upM s3 55 (pk g x) (nI 1)) 56 (pk g x) (nI 0)) 54 0 (nI (pk g x))) := frm_t (frm_w f3 (by simp)) f4
  refine c_gather_l (s := upM s1 51 6 (nI (2 ^ num g p))) hg hN (st := pk g x) (goal := 2 ^ num g p) hgoal (by omega) ?_ (2 ^ num g (gN g) + 1) 0 (b0 (pk g x)) _ _ _ _ _ _ _ _ (by omega) (by omega) (BI_0 hk2) ⟨fun y hy => ?_, fun y hy hr => ?_, fun i hi => ?_⟩ (NC_f n2 f34 (by decide) (by rw [f34 51 (by decide)])) (by rw [f34 51 (by decide), up_at]) (frm_w f34 (by simp)) rfl
  · intro s' b hf hI hC h6 hb
    exact hK s' b (frm_t (frm_w f1 (by simp)) (frm_t (frm_w f2 (by simp)) (frm_w hf (by simp)))) hI hC h6 hb
  · rw [up_ce (show 55 ≠ 54 by decide), up_ce (show 55 ≠ 56 by decide)]
    show _ = nI (if y = pk g x then 1 else 0)
    by_cases e : y = pk g x
    · rw [if_pos e, e, up_at]
    · rw [if_neg e, up_pl e]; exact z3' y hy
  · have hr' : (if y = pk g x then 1 else 0) ≠ 0 := hr
    have e : y = pk g x := Classical.byContradiction fun e => hr' (if_neg e)
    rw [up_ce (show 56 ≠ 54 by decide), e, up_at]
    rfl
  · have hi' : i < 1 := hi
    obtain rfl : i = 0 := by omega
    rw [up_at]
    rfl
end
