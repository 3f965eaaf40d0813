/-! the class's search -/
section
variable {d c : Nat} {g : Gph} {s : Mem}
def NC (g : Gph) (s : Mem) : Prop := s 51 2 = nI (num g (gN g)) ∧ (∀ k, k < gN g → gst g k = true → s 52 k = nI (num g k)) ∧ ∀ k, k < gN g → gst g k = true → ∀ side, 1 ≤ side → side < 5 → s 53 (5 * num g k + side) = nI (num g (bes g k side))
theorem NC_f {t : Mem} {L : List Nat} (h : NC g s) (hf : frm L s t) (hL : 52 ∉ L ∧ 53 ∉ L) (h2 : t 51 2 = s 51 2) : NC g t := by
  unfold NC at *
  rw [h2, hf 52 hL.1, hf 53 hL.2]
  exact h
theorem num_inj {a b : Nat} (ha : gst g a = true) (hb : gst g b = true) (h : num g a = num g b) : a = b := by
  rcases Nat.lt_trichotomy a b with z | z | z
  · have := num_lt z ha; omega
  · exact z
  · have := num_lt z hb; omega
theorem num_sur : ∀ {n i : Nat}, i < num g n → ∃ k, k < n ∧ gst g k = true ∧ num g k = i
  | 0, i, h => absurd h (Nat.not_lt_zero i)
  | n + 1, i, h => by
    rw [num_S] at h
    by_cases hs : gst g n = true
    · rw [if_pos hs] at h
      by_cases e : i = num g n
      · exact ⟨n, by omega, hs, e.symm⟩
      · obtain ⟨k, a, b⟩ := num_sur (n := n) (i := i) (by omega)
        exact ⟨k, by omega, b⟩
    · rw [if_neg hs] at h
      obtain ⟨k, a, b⟩ := num_sur (n := n) (i := i) h
      exact ⟨k, by omega, b⟩
theorem c_number51 {K : Mem → Prop} (hd : 4 ≤ d) (hcc : isC c) (hg : gOk g) (hc : CityC c g s) (hN : num g (gN g) ≤ 12) (hK : ∀ s', frm [51, 52, 53] s s' → NC g s' → K s') : wV (wp d) m_B_number [.ref 51, .ref c] s K := by
  have h20 := gN_le hg
  have hL := C_le hcc
  have hb := C_b hcc
  obtain ⟨d, rfl⟩ : ∃ e, d = e + 4 := ⟨d - 4, by omega⟩
  have cty : ∀ {t : Mem}, frm [51, 52, 53] s t → CityC c g t := fun f => CityC_a hc (f c (by simp only [List.mem_cons, List.not_mem_nil, or_false]; omega)) (f (c + 3) (by simp only [List.mem_cons, List.not_mem_nil, or_false]; omega)) (f (c + 4) (by simp only [List.mem_cons, List.not_mem_nil, or_false]; omega))
  have hb5 : ∀ k, k < gN g → num g k ≤ 12 := fun k hk => Nat.le_trans (num_mono (by omega)) hN
  -- where steps lead
  have l2 : ∀ (n i : Nat) (t : Mem) (v : Value), i + n = gN g → frm [51, 52, 53] s t → t 51 2 = nI (num g (gN g)) → (∀ k, k < gN g → gst g k = true → t 52 k = nI (num g k)) → (∀ k, k < i → gst g k = true → ∀ side, 1 ≤ side → side < 5 → t 53 (5 * num g k + side) = nI (num g (bes g k side))) → RnV (d + 3) m_B_number K 53 [.ref 51, .ref c, .int (nI i), v] [] t := by
    intro n
    induction n with
    | zero =>
      intro i t v hi hf h1 h2 h3
      obtain rfl : i = gN g := by omega
      rw [r_B_number_53, hb]
      simp only [cond_true]
      rw [c_cells (d := d + 2) hcc (cty hf), if_neg (show ¬ nI (gN g) < nI (gN g) by rw [nI_ltI (by omega) (by omega)]; omega)]
      exact hK t hf ⟨h1, h2, h3⟩
    | succ n ih =>
      intro i t v hi hf h1 h2 h3
      rw [r_B_number_53, hb]
      simp only [cond_true]
      rw [c_cells (d := d + 2) hcc (cty hf), if_pos (show nI i < nI (gN g) by rw [nI_ltI (by omega) (by omega)]; omega), show (1 : Int32) = nI 1 from rfl]
      by_cases hs : gst g i = true
      · have hni := num_lt (g := g) (show i < gN g by omega) hs
        have l1 : ∀ (m j : Nat) (u : Mem), j + m = 5 → 1 ≤ j → frm [51, 52, 53] s u → u 51 2 = nI (num g (gN g)) → (∀ k, k < gN g → gst g k = true → u 52 k = nI (num g k)) → (∀ k, gst g k = true → ∀ side, 1 ≤ side → (k < i ∧ side < 5) ∨ (k = i ∧ side < j) → u 53 (5 * num g k + side) = nI (num g (bes g k side))) → RnV (d + 3) m_B_number K 63 [.ref 51, .ref c, .int (nI i), .int (nI j)] [] u := by
          intro m
          induction m with
          | zero =>
            intro j u hj hj1 hf h1 h2 h3
            obtain rfl : j = 5 := by omega
            rw [r_B_number_63, hb]
            simp only [cond_true]
            rw [c_isStreet (d := d + 2) hcc hg (cty hf) (by omega), ifb, if_pos hs, if_neg (show ¬ nI 5 < 5 by decide), show nI i + 1 = nI (i + 1) from nI_add i 1]
            refine ih (i + 1) u _ (by omega) hf h1 h2 fun k hk hks side hs1 hs5 => h3 k hks side hs1 (by omega)
          | succ m ihm =>
            intro j u hj hj1 hf h1 h2 h3
            have hbi : bes g i j < gN g := bes_lt (by omega) j
            rw [r_B_number_63, hb]
            simp only [cond_true]
            rw [c_isStreet (d := d + 2) hcc hg (cty hf) (by omega), ifb, if_pos hs, if_pos (show nI j < 5 by rw [q5, nI_ltI (by omega) (by omega)]; omega), c_at (d := d + 2) (by decide) (show i < 20 by omega), c_go (d := d + 1) hcc hg (cty hf) (by omega) (by omega), c_at (d := d + 2) (by decide) (show bes g i j < 20 by omega), h2 i (by omega) hs, h2 _ hbi (bes_st hs j), show (5 : Int32) = nI 5 from rfl, pk_mul, nI_add, show num g i * 5 + j = 5 * num g i + j by omega, c_put (d := d + 2) (by decide) (by decide) (show 5 * num g i + j < 60 by omega), show nI j + 1 = nI (j + 1) from nI_add j 1]
            refine ihm (j + 1) _ (by omega) (by omega) (frm_t hf (frm_u (by simp))) (by rw [up_ce (by decide)]; exact h1) (fun k hk hks => by rw [up_ce (by decide)]; exact h2 k hk hks) fun k hks side hs1 hcase => ?_
            by_cases e : 5 * num g k + side = 5 * num g i + j
            · have hn : num g k = num g i := by omega
              have hk : k = i := num_inj hks hs hn
              have hsj : side = j := by omega
              rw [e, up_at, hk, hsj]
            · rw [up_pl e]
              refine h3 k hks side hs1 ?_
              rcases hcase with z | ⟨z1, z2⟩
              · exact Or.inl z
              · refine Or.inr ⟨z1, ?_⟩
                rcases Nat.lt_or_ge side j with y | y
                · exact y
                · exact absurd (by rw [z1, show side = j by omega]) e
        exact l1 4 1 t rfl (by omega) hf h1 h2 fun k hks side hs1 hcase => h3 k (by omega) hks side hs1 (by omega)
      · rw [r_B_number_63, hb]
        simp only [cond_true]
        rw [c_isStreet (d := d + 2) hcc hg (cty hf) (by omega), ifb, if_neg hs, show nI i + 1 = nI (i + 1) from nI_add i 1]
        refine ih (i + 1) t _ (by omega) hf h1 h2 fun k hk hks => ?_
        by_cases e : k = i
        · exact absurd (e ▸ hks) hs
        · exact h3 k (by omega) hks
  -- the numbers
  have l1 : ∀ (n i : Nat) (t : Mem) (v : Value), i + n = gN g → frm [51, 52, 53] s t → t 51 2 = nI (num g i) → (∀ k, k < i → gst g k = true → t 52 k = nI (num g k)) → RnV (d + 3) m_B_number K 7 [.ref 51, .ref c, .int (nI i), v] [] t := by
    intro n
    induction n with
    | zero =>
      intro i t v hi hf h1 h2
      obtain rfl : i = gN g := by omega
      rw [r_B_number_7, hb]
      simp only [cond_true]
      rw [c_cells (d := d + 2) hcc (cty hf), if_neg (show ¬ nI (gN g) < nI (gN g) by rw [nI_ltI (by omega) (by omega)]; omega), show (0 : Int32) = nI 0 from rfl]
      exact l2 (gN g) 0 t _ (by omega) hf h1 h2 fun k hk => absurd hk (Nat.not_lt_zero k)
    | succ n ih =>
      intro i t v hi hf h1 h2
      rw [r_B_number_7, hb]
      simp only [cond_true]
      rw [c_cells (d := d + 2) hcc (cty hf), if_pos (show nI i < nI (gN g) by rw [nI_ltI (by omega) (by omega)]; omega), c_isStreet (d := d + 2) hcc hg (cty hf) (by omega), ifb, show nI i + 1 = nI (i + 1) from nI_add i 1]
      by_cases hs : gst g i = true
      · rw [if_pos hs, c_put (d := d + 2) (by decide) (by decide) (show i < 20 by omega), up_ce (show 51 ≠ 52 by decide), h1, show nI (num g i) + 1 = nI (num g i + 1) from nI_add _ 1]
        refine ih (i + 1) _ _ (by omega) (frm_t hf (frm_t (frm_u (by simp)) (frm_u (by simp)))) (by rw [up_at, num_S, if_pos hs]) fun k hk hks => ?_
        rw [up_ce (by decide)]
        by_cases e : k = i
        · rw [e, up_at]
        · rw [up_pl e]; exact h2 k (by omega) hks
      · rw [if_neg hs]
        refine ih (i + 1) t _ (by omega) hf (by rw [num_S, if_neg hs]; exact h1) fun k hk hks => ?_
        by_cases e : k = i
        · exact absurd (e ▸ hks) hs
        · exact h2 k (by omega) hks
  rw [e_B_number, show (0 : Int32) = nI 0 from rfl]
  exact l1 (gN g) 0 _ _ (by omega) (frm_u (by simp)) (by rw [up_at]; rfl) fun k hk => absurd hk (Nat.not_lt_zero k)
theorem c_packed {K : Int32 → Mem → Prop} (hd : 3 ≤ d) (hcc : isC c) (hg : gOk g) (hc : CityC c g s) (hn : NC g s) {x : Int32} : wI (wp d) m_B_packed [.ref 51, .ref c, .int x] s K = K (pkI g x) s := by
  have h20 := gN_le hg
  have hb := C_b hcc
  obtain ⟨d, rfl⟩ : ∃ e, d = e + 3 := ⟨d - 3, by omega⟩
  have lp : ∀ (n i : Nat) (y : Int32), i + n = gN g → RnI (d + 2) m_B_packed K 5 [.ref 51, .ref c, .int x, .int y, .int (nI i)] [] s = K (itr (orH (fun k => gst g k && tb x k) (num g)) n i y) s := by
    intro n
    induction n with
    | zero =>
      intro i y hi
      obtain rfl : i = gN g := by omega
      rw [r_B_packed_5, hb]
      simp only [cond_true]
      rw [c_cells (d := d + 1) hcc hc, if_neg (show ¬ nI (gN g) < nI (gN g) by rw [nI_ltI (by omega) (by omega)]; omega)]
      rfl
    | succ n ih =>
      intro i y hi
      rw [r_B_packed_5, hb]
      simp only [cond_true]
      rw [c_cells (d := d + 1) hcc hc, if_pos (show nI i < nI (gN g) by rw [nI_ltI (by omega) (by omega)]; omega), c_isStreet (d := d + 1) hcc hg hc (by omega), ifb, show nI i + 1 = nI (i + 1) from nI_add i 1, show (31 : Int32) = nI 31 from rfl, show ((x >>> (nI i &&& nI 31)) &&& 1) = b01 (tb x i) from sh_b (by omega), ifb]
      show _ = K (itr _ n (i + 1) (if (gst g i && tb x i) = true then y ||| bit (num g i) else y)) s
      by_cases hs : gst g i = true
      · rw [if_pos hs, hs, Bool.true_and]
        by_cases ht : tb x i = true
        · rw [if_pos ht, if_pos ht, c_at (d := d + 1) (by decide) (show i < 20 by omega), hn.2.1 i (by omega) hs]
          exact ih (i + 1) _ (by omega)
        · rw [if_neg ht, if_neg ht]
          exact ih (i + 1) _ (by omega)
      · rw [if_neg hs, if_neg (show ¬ (gst g i && tb x i) = true from fun z => hs (Bool.and_eq_true_iff.mp z).1)]
        exact ih (i + 1) _ (by omega)
  rw [e_B_packed, show (0 : Int32) = nI 0 from rfl]
  exact lp (gN g) 0 (nI 0) (by omega)
theorem c_moved {K : Int32 → Mem → Prop} (hd : 2 ≤ d) (hg : gOk g) (hn : NC g s) (hN : num g (gN g) ≤ 12) {set side : Nat} (h1 : 1 ≤ side) (h5 : side < 5) : wI (wp d) m_B_moved [.ref 51, .int (nI set), .int (nI side)] s K = K (mvI g (nI set) side) s := by
  have h20 := gN_le hg
  obtain ⟨d, rfl⟩ : ∃ e, d = e + 2 := ⟨d - 2, by omega⟩
  have hL : ∀ k, k < gN g → gst g k = true → cd (s 53 (5 * num g k + side)) = num g (bes g k side) := by
    intro k hk hs
    have := num_lt (g := g) (bes_lt hk side) (bes_st hs side)
    unfold cd
    rw [hn.2.2 k hk hs side h1 h5, nI_clamp (by omega)]
  have lp : ∀ (n i : Nat) (y : Int32), i + n = num g (gN g) → RnI (d + 1) m_B_moved K 5 [.ref 51, .int (nI set), .int (nI side), .int y, .int (nI i)] [] s = K (itr (orH (fun i => tb (nI set) i) (fun i => cd (s 53 (5 * i + side)))) n i y) s := by
    intro n
    induction n with
    | zero =>
      intro i y hi
      rw [r_B_moved_5, hn.1, if_neg (show ¬ nI i < nI (num g (gN g)) by rw [nI_ltI (by omega) (by omega)]; omega)]
      rfl
    | succ n ih =>
      intro i y hi
      rw [r_B_moved_5, hn.1, if_pos (show nI i < nI (num g (gN g)) by rw [nI_ltI (by omega) (by omega)]; omega), show nI i + 1 = nI (i + 1) from nI_add i 1, show (31 : Int32) = nI 31 from rfl, show ((nI set >>> (nI i &&& nI 31)) &&& 1) = b01 (tb (nI set) i) from sh_b (by omega), ifb]
      show _ = K (itr _ n (i + 1) (if tb (nI set) i = true then y ||| bit (cd (s 53 (5 * i + side))) else y)) s
      by_cases ht : tb (nI set) i = true
      · obtain ⟨k, hk, hks, hki⟩ := num_sur (g := g) (n := gN g) (i := i) (by omega)
        have e53 : s 53 (5 * i + side) = nI (cd (s 53 (5 * i + side))) := by
          rw [← hki, hL k hk hks, hn.2.2 k hk hks side h1 h5]
        rw [if_pos ht, if_pos ht, show (5 : Int32) = nI 5 from rfl, pk_mul, nI_add, show i * 5 + side = 5 * i + side by omega, c_at (d := d) (by decide) (show 5 * i + side < 60 by omega), e53]
        have := ih (i + 1) (y ||| bit (cd (s 53 (5 * i + side)))) (by omega)
        rw [← e53]
        rw [← this]
        show RnI _ _ _ _ [.ref 51, .int (nI set), .int (nI side), .int (y ||| ((1 : Int32) <<< (s 53 (5 * i + side) &&& nI 31))), _] _ _ = _
        rw [e53]
        have e2 : cd (nI (cd (s 53 (5 * i + side)))) = cd (s 53 (5 * i + side)) := by rw [← e53]
        rw [e2]
        rfl
      · rw [if_neg ht, if_neg ht]
        exact ih (i + 1) _ (by omega)
  rw [e_B_moved, show (0 : Int32) = nI 0 from rfl, lp (num g (gN g)) 0 (nI 0) (by omega)]
  unfold mvI
  rw [mv_num (L := fun i => cd (s 53 (5 * i + side))) hL (gN g) (Nat.le_refl _)]
end
