section
variable {d c : Nat} {g : Gph}
theorem ahd_S {nt : Nts} {m : Nat} (h : 0 < m) : ahd g nt m = alw g nt m &&& spr g (ahd g nt (m - 1)) := by
  obtain ⟨j, rfl⟩ : ∃ j, m = j + 1 := ⟨m - 1, by omega⟩
  rfl
theorem c_weigh {K : Mem → Prop} (hcc : isC c) (hg : gOk g) {s : Mem} (hc : CityF c g s) {nt : Nts} (hn : NtOk g nt) (hN : NtC nt s)
    (hK : ∀ s', frm [c + 5, c + 6, 50] s s' → CityF c g s' → (∀ m, m ≤ 30 → s' 50 m = ahd g nt m &&& bhd g nt (30 - m)) → K s') : wV (wp (d + 10)) m_N_weigh [.ref 45, .ref c] s K := by
  have h20 := gN_le hg
  have hL := C_le hcc
  have hNt : ∀ {t : Mem}, frm [c + 5, c + 6, 50] s t → NtC nt t := fun hf => NtC_f (by simp; omega) (by simp; omega) (by simp; omega) (by simp; omega) (by simp; omega) hf hN
  have f50 : ∀ {t : Mem} {k : Nat} {x : Int32}, CityF c g t → CityF c g (upM t 50 k x) := fun h => CityF_f (L := [50]) (by simp; omega) (by simp; omega) (by simp; omega) (by simp; omega) (by simp; omega) (frm_u (by simp)) h
  have n50 : 50 ∉ [c + 5, c + 6] := by simp; omega
  -- back
  have back : ∀ (n j : Nat) (t : Mem), j + n = 30 → frm [c + 5, c + 6, 50] s t → CityF c g t → (∀ m, m ≤ 30 → t 50 m = if m < 30 - j then ahd g nt m else ahd g nt m &&& bhd g nt (30 - m)) → ∀ w, w = (if j = 30 then m1 else nI (29 - j)) →
      RnV (d + 9) m_N_weigh K 51 [.ref 45, .ref c, .int (cns g nt j), .int w] [] t := by
    intro n
    induction n with
    | zero =>
      intro j t hj hf hct ht w hw
      obtain rfl : j = 30 := by omega
      rw [if_pos rfl] at hw
      subst hw
      rw [r_N_weigh_51]
      simp only [q0, m1_neg, if_true]
      refine hK t hf hct fun m hm => ?_
      rw [ht m hm, if_neg (by omega)]
    | succ n ih =>
      intro j t hj hf hct ht w hw
      rw [if_neg (by omega)] at hw
      subst hw
      have hcn : cns g nt (j + 1) = spr g (cns g nt j) &&& ahd g nt (30 - (j + 1)) := rfl
      have e29 : 30 - (j + 1) = 29 - j := by omega
      have h50 : t 50 (29 - j) = ahd g nt (29 - j) := by
        rw [ht _ (by omega), if_pos (by omega)]
      rw [r_N_weigh_51]
      simp (disch := omega) only [↓n_m1, ↓n_hid, q0, q1, q2, q3, q4, q5, q6, q7, q8, q9, q10, q11, q12, q13, q14, q15, q16, q17, q18, q19, q20, q21, q22, q23, q24, q25, q26, q27, q28, q29, q30, q31, q32, q33, q34, q35, q36, q37, q38, q39, q40, q41, q42, q43, q44, q45, q46, q47, q48, q49, q50, q51, q52, q53, q54, q55, q56, q57, q58, q59, q61, q62, q63, q64, q66, q67, q68, q69, q70, q71, q91, q93, q99, q100, q102, q104, q107, q108, q112, q114, q115, q119, q121, q124, q160, q200, q255, q640, q999, q1000, q2000, q4096, n_of, nI_ltI, nI_leI, nI_eq, nI_clamp, nI_add, pk_mul, n_sub, m1_eq, m1_eq2, m1_lt, m1_lt2, gdN, Nat.not_lt_zero, false_or, if_true, if_false, if_pos, if_neg, cond_true, cond_false, beq_self, and_self, true_and, and_true, not_true_eq_false, not_false_eq_true, ne_eq, C_b hcc]
      rw [c_spread (d := d + 5) hcc hg hct.1, c_at (show (shp 50).1 = 20 from rfl) (show 29 - j < (shp 50).2 by show _ < 31; omega), h50, c_put (show (shp 50).1 = 20 from rfl) (show 50 ≤ 999 by decide) (show 29 - j < (shp 50).2 by show _ < 31; omega), ← e29, ← hcn]
      refine ih (j + 1) _ (by omega) (frm_t hf (frm_u (by simp))) (f50 hct) (fun m hm => ?_) _ ?_
      · by_cases e : m = 30 - (j + 1)
        · rw [e, up_at, if_neg (by omega), cns_e hg (j + 1) (by omega)]
          congr 2
          omega
        · rw [up_pl e, ht m hm]
          by_cases e2 : m < 30 - (j + 1)
          · rw [if_pos e2, if_pos (by omega)]
          · rw [if_neg e2, if_neg (by omega)]
      · by_cases e : j + 1 = 30
        · rw [if_pos e, e]; decide
        · rw [if_neg e]
          obtain ⟨r, hr⟩ : ∃ r, 30 - (j + 1) = r + 1 := ⟨28 - j, by omega⟩
          rw [hr, n_pm]
          congr 1
          omega
  -- forward
  have fwd : ∀ (n i : Nat) (t : Mem) (y : Int32), i + n = 31 → frm [c + 5, c + 6, 50] s t → CityF c g t → (∀ m, m < i → t 50 m = ahd g nt m) → (i = 0 → y = s c 4) → (0 < i → y = ahd g nt (i - 1)) →
      RnV (d + 9) m_N_weigh K 7 [.ref 45, .ref c, .int y, .int (nI i)] [] t := by
    intro n
    induction n with
    | zero =>
      intro i t y hi hf hct ht h0 h1
      obtain rfl : i = 31 := by omega
      rw [r_N_weigh_7]
      simp (disch := omega) only [↓n_m1, ↓n_hid, q0, q1, q2, q3, q4, q5, q6, q7, q8, q9, q10, q11, q12, q13, q14, q15, q16, q17, q18, q19, q20, q21, q22, q23, q24, q25, q26, q27, q28, q29, q30, q31, q32, q33, q34, q35, q36, q37, q38, q39, q40, q41, q42, q43, q44, q45, q46, q47, q48, q49, q50, q51, q52, q53, q54, q55, q56, q57, q58, q59, q61, q62, q63, q64, q66, q67, q68, q69, q70, q71, q91, q93, q99, q100, q102, q104, q107, q108, q112, q114, q115, q119, q121, q124, q160, q200, q255, q640, q999, q1000, q2000, q4096, n_of, nI_ltI, nI_leI, nI_eq, nI_clamp, nI_add, pk_mul, n_sub, m1_eq, m1_eq2, m1_lt, m1_lt2, gdN, Nat.not_lt_zero, false_or, if_true, if_false, if_pos, if_neg, cond_true, cond_false, beq_self, and_self, true_and, and_true, not_true_eq_false, not_false_eq_true, ne_eq]
      rw [h1 (by omega)]
      refine back 30 0 t rfl hf hct (fun m hm => ?_) _ (by rw [if_neg (by omega)])
      by_cases e : m < 30
      · rw [if_pos (by omega)]; exact ht m (by omega)
      · obtain rfl : m = 30 := by omega
        rw [if_neg (by omega), ht 30 (by omega)]
        have := cns_e hg (nt := nt) 0 (by omega)
        exact this
    | succ n ih =>
      intro i t y hi hf hct ht h0 h1
      have nx : ∀ u, frm [c + 5, c + 6] t u → CityF c g u → RnV (d + 9) m_N_weigh K 7 [.ref 45, .ref c, .int (ahd g nt i), .int (nI (i + 1))] [] (upM u 50 i (ahd g nt i)) := by
        intro u hfu hcu
        refine ih (i + 1) _ _ (by omega) (frm_t hf (frm_t (frm_w hfu (by simp)) (frm_u (by simp)))) (f50 hcu) (fun m hm => ?_) (fun z => by omega) (fun _ => by rw [Nat.add_sub_cancel])
        by_cases e : m = i
        · rw [e, up_at]
        · rw [up_pl e, hfu 50 n50]; exact ht m (by omega)
      rw [r_N_weigh_7]
      simp (disch := omega) only [↓n_m1, ↓n_hid, q0, q1, q2, q3, q4, q5, q6, q7, q8, q9, q10, q11, q12, q13, q14, q15, q16, q17, q18, q19, q20, q21, q22, q23, q24, q25, q26, q27, q28, q29, q30, q31, q32, q33, q34, q35, q36, q37, q38, q39, q40, q41, q42, q43, q44, q45, q46, q47, q48, q49, q50, q51, q52, q53, q54, q55, q56, q57, q58, q59, q61, q62, q63, q64, q66, q67, q68, q69, q70, q71, q91, q93, q99, q100, q102, q104, q107, q108, q112, q114, q115, q119, q121, q124, q160, q200, q255, q640, q999, q1000, q2000, q4096, n_of, nI_ltI, nI_leI, nI_eq, nI_clamp, nI_add, pk_mul, n_sub, m1_eq, m1_eq2, m1_lt, m1_lt2, gdN, Nat.not_lt_zero, false_or, if_true, if_false, if_pos, if_neg, cond_true, cond_false, beq_self, and_self, true_and, and_true, not_true_eq_false, not_false_eq_true, ne_eq, C_b hcc]
      by_cases e : i = 0
      · simp only [e, if_true]
        rw [e] at nx ht
        have hy : y = s c 4 := h0 e
        have hyS : inS g y := by
          intro k hk
          by_cases hk32 : k < 32
          · rw [hy, hc.1.2.2.2.1 k hk32, Bool.and_eq_true, decide_eq_true_eq] at hk
            exact hk
          · rw [tb_hi (by omega)] at hk; simp at hk
        refine c_noted (d := d + 1) hcc hg hct hn (hNt hf) (by omega) hyS ?_
        intro u hfu hcu
        have ea : alw g nt 0 &&& y = ahd g nt 0 := tb_ext fun k hk => by
          rw [tb_and, hy, hc.1.2.2.2.1 k hk]
          show _ = tb (alw g nt 0) k
          rw [tb_alw hg]
          cases decide (k < gN g) <;> cases gst g k <;> simp
        rw [ea, c_put (show (shp 50).1 = 20 from rfl) (show 50 ≤ 999 by decide) (show 0 < (shp 50).2 by decide)]
        exact nx u hfu hcu
      · simp only [e, if_false]
        have hy : y = ahd g nt (i - 1) := h1 (by omega)
        rw [c_spread (d := d + 5) hcc hg hct.1]
        refine c_noted (d := d + 1) hcc hg hct hn (hNt hf) (by omega) (inS_spr hg (by rw [hy]; exact inS_ahd hg _)) ?_
        intro u hfu hcu
        rw [hy, ← ahd_S (by omega), c_put (show (shp 50).1 = 20 from rfl) (show 50 ≤ 999 by decide) (show i < (shp 50).2 by show _ < 31; omega)]
        exact nx u hfu hcu
  rw [e_N_weigh, C_b hcc, cond_true, c_streetSet (d := d + 8) hcc, q0]
  exact fwd 31 0 s _ rfl frm_r hc (fun m hm => by omega) (fun _ => rfl) (fun z => by omega)
theorem c_cans {K : Int32 → Mem → Prop} {s : Mem} {m : Nat} (hm : m ≤ 30) : wI (wp (d + 2)) m_N_cans [.ref 45, .int (nI m)] s K = K (s 50 m) s := by
  rw [e_N_cans, c_at (show (shp 50).1 = 20 from rfl) (show m < (shp 50).2 by show _ < 31; omega)]
theorem NtM_f {L : List Nat} {nt : Nts} {s t : Mem} (h5 : 57 ∉ L) (h6 : 81 ∉ L) (h7 : 82 ∉ L) (h8 : 83 ∉ L) (h9 : 86 ∉ L) (hf : frm L s t) (h : NtM nt s) : NtM nt t := by
  unfold NtM at *
  rw [hf 57 h5, hf 81 h6, hf 82 h7, hf 83 h8, hf 86 h9]
  exact h
theorem m_allowedIn {K : Int32 → Mem → Prop} (hg : gOk g) {s : Mem} (hc : CityM g s) {nt : Nts} (hn : NtOk g nt) (hN : NtM nt s) {m : Nat} (hm : m ≤ 30) (hK : ∀ s', frm [71] s s' → K (alw g nt m) s') : wI (wp (d + 4)) m_M_allowedIn [.ref 57, .int (nI m)] s K := by
  have h20 := gN_le hg
  have n12 := hn.1
  -- by the notes
  have lp2 : ∀ (n i : Nat) (t : Mem) (x : Int32) (v4 : Value), i + n = nt.1 → frm [71] s t → (∀ k, k < 32 → tb x k = (decide (k < gN g) && (gst g k && allB (ntB g nt m k) i))) → RnI (d + 3) m_M_allowedIn K 39 [.ref 57, .int (nI m), .int x, .int (nI i), v4] [] t := by
    intro n
    induction n with
    | zero =>
      intro i t x v4 hi hf hx
      obtain rfl : i = nt.1 := by omega
      rw [r_M_allowedIn_39, (NtM_f (by simp) (by simp) (by simp) (by simp) (by simp) hf hN).1]
      simp (disch := omega) only [↓n_m1, ↓n_hid, q0, q1, q2, q3, q4, q5, q6, q7, q8, q9, q10, q11, q12, q13, q14, q15, q16, q17, q18, q19, q20, q21, q22, q23, q24, q25, q26, q27, q28, q29, q30, q31, q32, q33, q34, q35, q36, q37, q38, q39, q40, q41, q42, q43, q44, q45, q46, q47, q48, q49, q50, q51, q52, q53, q54, q55, q56, q57, q58, q59, q61, q62, q63, q64, q66, q67, q68, q69, q70, q71, q91, q93, q99, q100, q102, q104, q107, q108, q112, q114, q115, q119, q121, q124, q160, q200, q255, q640, q999, q1000, q2000, q4096, n_of, nI_ltI, nI_leI, nI_eq, nI_clamp, nI_add, pk_mul, n_sub, m1_eq, m1_eq2, m1_lt, m1_lt2, gdN, Nat.not_lt_zero, false_or, if_true, if_false, if_pos, if_neg, cond_true, cond_false, beq_self, and_self, true_and, and_true, not_true_eq_false, not_false_eq_true, ne_eq]
      have e : x = alw g nt m := tb_ext fun k hk => by
        rw [hx k hk, tb_alw hg]; rfl
      rw [e]
      exact hK t hf
    | succ n ih =>
      intro i t x v4 hi hf hx
      have hNt : NtM nt t := NtM_f (by simp) (by simp) (by simp) (by simp) (by simp) hf hN
      have hi1 := hNt.2 i (by omega)
      have hi2 := hn.2 i (by omega)
      rw [r_M_allowedIn_39, hNt.1]
      simp (disch := omega) only [↓n_m1, ↓n_hid, q0, q1, q2, q3, q4, q5, q6, q7, q8, q9, q10, q11, q12, q13, q14, q15, q16, q17, q18, q19, q20, q21, q22, q23, q24, q25, q26, q27, q28, q29, q30, q31, q32, q33, q34, q35, q36, q37, q38, q39, q40, q41, q42, q43, q44, q45, q46, q47, q48, q49, q50, q51, q52, q53, q54, q55, q56, q57, q58, q59, q61, q62, q63, q64, q66, q67, q68, q69, q70, q71, q91, q93, q99, q100, q102, q104, q107, q108, q112, q114, q115, q119, q121, q124, q160, q200, q255, q640, q999, q1000, q2000, q4096, n_of, nI_ltI, nI_leI, nI_eq, nI_clamp, nI_add, pk_mul, n_sub, m1_eq, m1_eq2, m1_lt, m1_lt2, gdN, Nat.not_lt_zero, false_or, if_true, if_false, if_pos, if_neg, cond_true, cond_false, beq_self, and_self, true_and, and_true, not_true_eq_false, not_false_eq_true, ne_eq, hi1.1]
      by_cases hmi : nt.2.1 i = m
      · simp only [hmi, if_true, hi1.2.1]
        refine m_layFar (d := d + 1) hg (CityM_f (by decide) (by decide) (by decide) hf hc) (by omega) hi2.2.1 ?_
        intro u hfu hfar
        have hNu : NtM nt u := NtM_f (by simp) (by simp) (by simp) (by simp) (by simp) (frm_t hf hfu) hN
        have hcu : CityM g u := CityM_f (by decide) (by decide) (by decide) (frm_t hf hfu) hc
        have hiu := hNu.2 i (by omega)
        have inner : ∀ (q j : Nat) (z : Int32), j + q = gN g → (∀ k, k < 32 → tb z k = (tb x k && (decide (k < j) && ntB g nt m k i || ! decide (k < j)))) → RnI (d + 3) m_M_allowedIn K 74 [.ref 57, .int (nI m), .int z, .int (nI i), .int (nI j)] [] u := by
          intro q
          induction q with
          | zero =>
            intro j z hj hz
            obtain rfl : j = gN g := by omega
            rw [r_M_allowedIn_74, m_cells hcu]
            simp (disch := omega) only [↓n_m1, ↓n_hid, q0, q1, q2, q3, q4, q5, q6, q7, q8, q9, q10, q11, q12, q13, q14, q15, q16, q17, q18, q19, q20, q21, q22, q23, q24, q25, q26, q27, q28, q29, q30, q31, q32, q33, q34, q35, q36, q37, q38, q39, q40, q41, q42, q43, q44, q45, q46, q47, q48, q49, q50, q51, q52, q53, q54, q55, q56, q57, q58, q59, q61, q62, q63, q64, q66, q67, q68, q69, q70, q71, q91, q93, q99, q100, q102, q104, q107, q108, q112, q114, q115, q119, q121, q124, q160, q200, q255, q640, q999, q1000, q2000, q4096, n_of, nI_ltI, nI_leI, nI_eq, nI_clamp, nI_add, pk_mul, n_sub, m1_eq, m1_eq2, m1_lt, m1_lt2, gdN, Nat.not_lt_zero, false_or, if_true, if_false, if_pos, if_neg, cond_true, cond_false, beq_self, and_self, true_and, and_true, not_true_eq_false, not_false_eq_true, ne_eq]
            refine ih (i + 1) u z _ (by omega) (frm_t hf hfu) fun k hk => ?_
            rw [hz k hk, hx k hk]
            show _ = (_ && (_ && (allB (ntB g nt m k) i && ntB g nt m k i)))
            cases decide (k < gN g) <;> simp [Bool.and_assoc]
          | succ q ihq =>
            intro j z hj hz
            have h57 := far_b (w := 0) hg hi2.2.1 20 j
            have e57 : farS g 0 (nt.2.2.1 i) 20 j = farG g 0 (nt.2.2.1 i) j := rfl
            rw [e57] at h57
            have stay : ntB g nt m j i = true → RnI (d + 3) m_M_allowedIn K 74 [.ref 57, .int (nI m), .int z, .int (nI i), .int (nI (j + 1))] [] u := by
              intro hb
              refine ihq (j + 1) z (by omega) fun k hk => ?_
              rw [hz k hk]
              by_cases e : k = j
              · rw [e, hb]; simp
              · have e2 : decide (k < j + 1) = decide (k < j) := decide_eq_decide.mpr (by omega)
                rw [e2]
            have off : ntB g nt m j i = false → RnI (d + 3) m_M_allowedIn K 74 [.ref 57, .int (nI m), .int (z &&& (bit j ^^^ m1)), .int (nI i), .int (nI (j + 1))] [] u := by
              intro hb
              refine ihq (j + 1) _ (by omega) fun k hk => ?_
              rw [tb_and, tb_xor, tb_m1 hk, tb_bit (by omega), hz k hk]
              by_cases e : k = j
              · rw [e, hb]; simp
              · have e2 : decide (k < j + 1) = decide (k < j) := decide_eq_decide.mpr (by omega)
                rw [e2, decide_eq_false (show ¬ j = k from fun z => e z.symm)]
                simp
            rw [r_M_allowedIn_74, m_cells hcu]
            simp (disch := omega) only [↓n_m1, ↓n_hid, q0, q1, q2, q3, q4, q5, q6, q7, q8, q9, q10, q11, q12, q13, q14, q15, q16, q17, q18, q19, q20, q21, q22, q23, q24, q25, q26, q27, q28, q29, q30, q31, q32, q33, q34, q35, q36, q37, q38, q39, q40, q41, q42, q43, q44, q45, q46, q47, q48, q49, q50, q51, q52, q53, q54, q55, q56, q57, q58, q59, q61, q62, q63, q64, q66, q67, q68, q69, q70, q71, q91, q93, q99, q100, q102, q104, q107, q108, q112, q114, q115, q119, q121, q124, q160, q200, q255, q640, q999, q1000, q2000, q4096, n_of, nI_ltI, nI_leI, nI_eq, nI_clamp, nI_add, pk_mul, n_sub, m1_eq, m1_eq2, m1_lt, m1_lt2, gdN, Nat.not_lt_zero, false_or, if_true, if_false, if_pos, if_neg, cond_true, cond_false, beq_self, and_self, true_and, and_true, not_true_eq_false, not_false_eq_true, ne_eq, hiu.2.2.1, hiu.2.2.2, hfar j (by omega), bit_e]
            have hnt : ntB g nt m j i = (decide (farG g 0 (nt.2.2.1 i) j ≤ 2 * nt.2.2.2.1 i) == nt.2.2.2.2 i) := by
              unfold ntB
              rw [decide_eq_true hmi]
              rfl
            have e0 : (nI 0 = b01 (nt.2.2.2.2 i)) = (nt.2.2.2.2 i = false) := by rw [← b01_0]; exact propext eq_comm
            have e1 : (nI 1 = b01 (nt.2.2.2.2 i)) = (nt.2.2.2.2 i = true) := by rw [← b01_1]; exact propext eq_comm
            simp only [e0, e1]
            by_cases hle : 2 * nt.2.2.2.1 i < farG g 0 (nt.2.2.1 i) j
            · rw [decide_eq_false (by omega)] at hnt
              simp only [hle, if_true]
              cases his : nt.2.2.2.2 i with
              | false => simp only [if_true]; exact stay (by rw [hnt, his]; rfl)
              | true => simp only [Bool.true_eq_false, if_false]; exact off (by rw [hnt, his]; rfl)
            · rw [decide_eq_true (by omega)] at hnt
              simp only [hle, if_false]
              cases his : nt.2.2.2.2 i with
              | true => simp only [if_true]; exact stay (by rw [hnt, his]; rfl)
              | false => simp only [Bool.false_eq_true, if_false]; exact off (by rw [hnt, his]; rfl)
        refine inner (gN g) 0 x (by omega) fun k hk => ?_
        simp
      · simp only [hmi, if_false]
        refine ih (i + 1) t x _ (by omega) hf fun k hk => ?_
        rw [hx k hk]
        show _ = (_ && (_ && (allB (ntB g nt m k) i && ntB g nt m k i)))
        unfold ntB
        rw [decide_eq_false hmi]
        simp
  -- the streets
  have lp1 : ∀ (n i : Nat) (v4 : Value), i + n = gN g → RnI (d + 3) m_M_allowedIn K 4 [.ref 57, .int (nI m), .int (bits (gst g) i), .int (nI i), v4] [] s := by
    intro n
    induction n with
    | zero =>
      intro i v4 hi
      obtain rfl : i = gN g := by omega
      rw [r_M_allowedIn_4, m_cells hc]
      simp (disch := omega) only [↓n_m1, ↓n_hid, q0, q1, q2, q3, q4, q5, q6, q7, q8, q9, q10, q11, q12, q13, q14, q15, q16, q17, q18, q19, q20, q21, q22, q23, q24, q25, q26, q27, q28, q29, q30, q31, q32, q33, q34, q35, q36, q37, q38, q39, q40, q41, q42, q43, q44, q45, q46, q47, q48, q49, q50, q51, q52, q53, q54, q55, q56, q57, q58, q59, q61, q62, q63, q64, q66, q67, q68, q69, q70, q71, q91, q93, q99, q100, q102, q104, q107, q108, q112, q114, q115, q119, q121, q124, q160, q200, q255, q640, q999, q1000, q2000, q4096, n_of, nI_ltI, nI_leI, nI_eq, nI_clamp, nI_add, pk_mul, n_sub, m1_eq, m1_eq2, m1_lt, m1_lt2, gdN, Nat.not_lt_zero, false_or, if_true, if_false, if_pos, if_neg, cond_true, cond_false, beq_self, and_self, true_and, and_true, not_true_eq_false, not_false_eq_true, ne_eq]
      refine lp2 nt.1 0 s _ _ (by omega) frm_r fun k hk => ?_
      rw [tb_bits (by omega)]
      show _ = (_ && (_ && true))
      rw [Bool.and_true]
    | succ n ih =>
      intro i v4 hi
      have nx := ih (i + 1) uV (by omega)
      rw [bits_S] at nx
      rw [r_M_allowedIn_4, m_cells hc]
      simp (disch := omega) only [↓n_m1, ↓n_hid, q0, q1, q2, q3, q4, q5, q6, q7, q8, q9, q10, q11, q12, q13, q14, q15, q16, q17, q18, q19, q20, q21, q22, q23, q24, q25, q26, q27, q28, q29, q30, q31, q32, q33, q34, q35, q36, q37, q38, q39, q40, q41, q42, q43, q44, q45, q46, q47, q48, q49, q50, q51, q52, q53, q54, q55, q56, q57, q58, q59, q61, q62, q63, q64, q66, q67, q68, q69, q70, q71, q91, q93, q99, q100, q102, q104, q107, q108, q112, q114, q115, q119, q121, q124, q160, q200, q255, q640, q999, q1000, q2000, q4096, n_of, nI_ltI, nI_leI, nI_eq, nI_clamp, nI_add, pk_mul, n_sub, m1_eq, m1_eq2, m1_lt, m1_lt2, gdN, Nat.not_lt_zero, false_or, if_true, if_false, if_pos, if_neg, cond_true, cond_false, beq_self, and_self, true_and, and_true, not_true_eq_false, not_false_eq_true, ne_eq, hc.2.2.2.1 i (by omega), b01_0, bit_e]
      cases hst : gst g i with
      | false =>
        rw [hst, if_neg (by simp)] at nx
        simp only [if_true]
        have e : bits (gst g) i ||| nI 0 = bits (gst g) i := tb_ext fun k _ => by rw [tb_or, tb_0, Bool.or_false]
        rw [e]
        exact nx
      | true =>
        rw [hst, if_pos rfl] at nx
        simp only [Bool.true_eq_false, if_false]
        exact nx
  rw [e_M_allowedIn, q0]
  exact lp1 (gN g) 0 _ (by omega)
theorem m_layThief {K : Mem → Prop} (hg : gOk g) {s : Mem} (hc : CityM g s) {nt : Nts} (hn : NtOk g nt) (hN : NtM nt s)
    (hK : ∀ s', frm [71, 84, 85] s s' → (∀ m, m ≤ 30 → s' 84 m = ahd g nt m) → (∀ m, m ≤ 30 → s' 85 m = bhd g nt (30 - m)) → K s') : wV (wp (d + 6)) m_M_layThief [.ref 57] s K := by
  have h20 := gN_le hg
  have am1 : ∀ x : Int32, x &&& m1 = x := fun x => tb_ext fun k hk => by rw [tb_and, tb_m1 hk, Bool.and_true]
  have hcf : ∀ {t : Mem}, frm [71, 84, 85] s t → CityM g t := fun hf => CityM_f (by decide) (by decide) (by decide) hf hc
  have hNf : ∀ {t : Mem}, frm [71, 84, 85] s t → NtM nt t := fun hf => NtM_f (by simp) (by simp) (by simp) (by simp) (by simp) hf hN
  have back : ∀ (n j : Nat) (t : Mem), j + n = 31 → frm [71, 84, 85] s t → (∀ m, m ≤ 30 → t 84 m = ahd g nt m) → (∀ m, m ≤ 30 → 31 - j ≤ m → t 85 m = bhd g nt (30 - m)) → ∀ w, w = (if j = 31 then m1 else nI (30 - j)) → RnV (d + 5) m_M_layThief K 49 [.ref 57, .int w] [] t := by
    intro n
    induction n with
    | zero =>
      intro j t hj hf h1 h2 w hw
      obtain rfl : j = 31 := by omega
      rw [if_pos rfl] at hw
      subst hw
      rw [r_M_layThief_49]
      simp only [q0, m1_neg, if_true]
      exact hK t hf h1 fun m hm => h2 m hm (by omega)
    | succ n ih =>
      intro j t hj hf h1 h2 w hw
      rw [if_neg (by omega)] at hw
      subst hw
      have nx : ∀ u, frm [71] t u → ∀ w, w = (if j + 1 = 31 then m1 else nI (30 - (j + 1))) → RnV (d + 5) m_M_layThief K 49 [.ref 57, .int w] [] (upM u 85 (30 - j) (bhd g nt j)) := by
        intro u hfu w hw
        refine ih (j + 1) _ (by omega) (frm_t hf (frm_t (frm_w hfu (by simp)) (frm_u (by simp)))) (fun m hm => ?_) (fun m hm hm2 => ?_) w hw
        · rw [up_ce (by decide), hfu 84 (by decide)]; exact h1 m hm
        · by_cases e : m = 30 - j
          · rw [e, up_at]
            congr 1
            omega
          · rw [up_pl e, hfu 85 (by decide)]; exact h2 m hm (by omega)
      have hw2 : nI (30 - j) + m1 = (if j + 1 = 31 then m1 else nI (30 - (j + 1))) := by
        by_cases e : j + 1 = 31
        · rw [if_pos e, show 30 - j = 0 by omega, n_0m]
        · rw [if_neg e]
          obtain ⟨r, hr⟩ : ∃ r, 30 - j = r + 1 := ⟨29 - j, by omega⟩
          rw [hr, n_pm]
          congr 1
          omega
      rw [r_M_layThief_49]
      simp (disch := omega) only [↓n_m1, ↓n_hid, q0, q1, q2, q3, q4, q5, q6, q7, q8, q9, q10, q11, q12, q13, q14, q15, q16, q17, q18, q19, q20, q21, q22, q23, q24, q25, q26, q27, q28, q29, q30, q31, q32, q33, q34, q35, q36, q37, q38, q39, q40, q41, q42, q43, q44, q45, q46, q47, q48, q49, q50, q51, q52, q53, q54, q55, q56, q57, q58, q59, q61, q62, q63, q64, q66, q67, q68, q69, q70, q71, q91, q93, q99, q100, q102, q104, q107, q108, q112, q114, q115, q119, q121, q124, q160, q200, q255, q640, q999, q1000, q2000, q4096, n_of, nI_ltI, nI_leI, nI_eq, nI_clamp, nI_add, pk_mul, n_sub, m1_eq, m1_eq2, m1_lt, m1_lt2, gdN, Nat.not_lt_zero, false_or, if_true, if_false, if_pos, if_neg, cond_true, cond_false, beq_self, and_self, true_and, and_true, not_true_eq_false, not_false_eq_true, ne_eq]
      refine m_allowedIn (d := d + 1) hg (hcf hf) hn (hNf hf) (by omega) ?_
      intro u hfu
      have hfu' : frm [71, 84, 85] s u := frm_t hf (frm_w hfu (by simp))
      by_cases e : j = 0
      · subst e
        simp (disch := omega) only [↓n_m1, ↓n_hid, q0, q1, q2, q3, q4, q5, q6, q7, q8, q9, q10, q11, q12, q13, q14, q15, q16, q17, q18, q19, q20, q21, q22, q23, q24, q25, q26, q27, q28, q29, q30, q31, q32, q33, q34, q35, q36, q37, q38, q39, q40, q41, q42, q43, q44, q45, q46, q47, q48, q49, q50, q51, q52, q53, q54, q55, q56, q57, q58, q59, q61, q62, q63, q64, q66, q67, q68, q69, q70, q71, q91, q93, q99, q100, q102, q104, q107, q108, q112, q114, q115, q119, q121, q124, q160, q200, q255, q640, q999, q1000, q2000, q4096, n_of, nI_ltI, nI_leI, nI_eq, nI_clamp, nI_add, pk_mul, n_sub, m1_eq, m1_eq2, m1_lt, m1_lt2, gdN, Nat.not_lt_zero, false_or, if_true, if_false, if_pos, if_neg, cond_true, cond_false, beq_self, and_self, true_and, and_true, not_true_eq_false, not_false_eq_true, ne_eq, am1]
        exact nx u hfu _ hw2
      · have e2 : ¬ 30 - j = 30 := by omega
        have h85 : u 85 (30 - j + 1) = bhd g nt (j - 1) := by
          rw [hfu 85 (by decide), h2 _ (by omega) (by omega)]
          congr 1
          omega
        have eb : alw g nt (30 - j) &&& spr g (bhd g nt (j - 1)) = bhd g nt j := by
          obtain ⟨r, rfl⟩ : ∃ r, j = r + 1 := ⟨j - 1, by omega⟩
          rfl
        simp (disch := omega) only [↓n_m1, ↓n_hid, q0, q1, q2, q3, q4, q5, q6, q7, q8, q9, q10, q11, q12, q13, q14, q15, q16, q17, q18, q19, q20, q21, q22, q23, q24, q25, q26, q27, q28, q29, q30, q31, q32, q33, q34, q35, q36, q37, q38, q39, q40, q41, q42, q43, q44, q45, q46, q47, q48, q49, q50, q51, q52, q53, q54, q55, q56, q57, q58, q59, q61, q62, q63, q64, q66, q67, q68, q69, q70, q71, q91, q93, q99, q100, q102, q104, q107, q108, q112, q114, q115, q119, q121, q124, q160, q200, q255, q640, q999, q1000, q2000, q4096, n_of, nI_ltI, nI_leI, nI_eq, nI_clamp, nI_add, pk_mul, n_sub, m1_eq, m1_eq2, m1_lt, m1_lt2, gdN, Nat.not_lt_zero, false_or, if_true, if_false, if_pos, if_neg, cond_true, cond_false, beq_self, and_self, true_and, and_true, not_true_eq_false, not_false_eq_true, ne_eq, e2, h85]
        rw [m_goesOn (d := d + 1) hg (hcf hfu'), eb]
        exact nx u hfu _ hw2
  have fwd : ∀ (n i : Nat) (t : Mem), i + n = 31 → frm [71, 84, 85] s t → (∀ m, m < i → t 84 m = ahd g nt m) → RnV (d + 5) m_M_layThief K 2 [.ref 57, .int (nI i)] [] t := by
    intro n
    induction n with
    | zero =>
      intro i t hi hf h1
      obtain rfl : i = 31 := by omega
      rw [r_M_layThief_2]
      simp (disch := omega) only [↓n_m1, ↓n_hid, q0, q1, q2, q3, q4, q5, q6, q7, q8, q9, q10, q11, q12, q13, q14, q15, q16, q17, q18, q19, q20, q21, q22, q23, q24, q25, q26, q27, q28, q29, q30, q31, q32, q33, q34, q35, q36, q37, q38, q39, q40, q41, q42, q43, q44, q45, q46, q47, q48, q49, q50, q51, q52, q53, q54, q55, q56, q57, q58, q59, q61, q62, q63, q64, q66, q67, q68, q69, q70, q71, q91, q93, q99, q100, q102, q104, q107, q108, q112, q114, q115, q119, q121, q124, q160, q200, q255, q640, q999, q1000, q2000, q4096, n_of, nI_ltI, nI_leI, nI_eq, nI_clamp, nI_add, pk_mul, n_sub, m1_eq, m1_eq2, m1_lt, m1_lt2, gdN, Nat.not_lt_zero, false_or, if_true, if_false, if_pos, if_neg, cond_true, cond_false, beq_self, and_self, true_and, and_true, not_true_eq_false, not_false_eq_true, ne_eq]
      exact back 31 0 t rfl hf (fun m hm => h1 m (by omega)) (fun m hm hm2 => by omega) _ (by rw [if_neg (by omega)])
    | succ n ih =>
      intro i t hi hf h1
      have nx : ∀ u, frm [71] t u → RnV (d + 5) m_M_layThief K 2 [.ref 57, .int (nI (i + 1))] [] (upM u 84 i (ahd g nt i)) := by
        intro u hfu
        refine ih (i + 1) _ (by omega) (frm_t hf (frm_t (frm_w hfu (by simp)) (frm_u (by simp)))) (fun m hm => ?_)
        by_cases e : m = i
        · rw [e, up_at]
        · rw [up_pl e, hfu 84 (by decide)]; exact h1 m (by omega)
      rw [r_M_layThief_2]
      simp (disch := omega) only [↓n_m1, ↓n_hid, q0, q1, q2, q3, q4, q5, q6, q7, q8, q9, q10, q11, q12, q13, q14, q15, q16, q17, q18, q19, q20, q21, q22, q23, q24, q25, q26, q27, q28, q29, q30, q31, q32, q33, q34, q35, q36, q37, q38, q39, q40, q41, q42, q43, q44, q45, q46, q47, q48, q49, q50, q51, q52, q53, q54, q55, q56, q57, q58, q59, q61, q62, q63, q64, q66, q67, q68, q69, q70, q71, q91, q93, q99, q100, q102, q104, q107, q108, q112, q114, q115, q119, q121, q124, q160, q200, q255, q640, q999, q1000, q2000, q4096, n_of, nI_ltI, nI_leI, nI_eq, nI_clamp, nI_add, pk_mul, n_sub, m1_eq, m1_eq2, m1_lt, m1_lt2, gdN, Nat.not_lt_zero, false_or, if_true, if_false, if_pos, if_neg, cond_true, cond_false, beq_self, and_self, true_and, and_true, not_true_eq_false, not_false_eq_true, ne_eq]
      refine m_allowedIn (d := d + 1) hg (hcf hf) hn (hNf hf) (by omega) ?_
      intro u hfu
      have hfu' : frm [71, 84, 85] s u := frm_t hf (frm_w hfu (by simp))
      by_cases e : i = 0
      · subst e
        simp (disch := omega) only [↓n_m1, ↓n_hid, q0, q1, q2, q3, q4, q5, q6, q7, q8, q9, q10, q11, q12, q13, q14, q15, q16, q17, q18, q19, q20, q21, q22, q23, q24, q25, q26, q27, q28, q29, q30, q31, q32, q33, q34, q35, q36, q37, q38, q39, q40, q41, q42, q43, q44, q45, q46, q47, q48, q49, q50, q51, q52, q53, q54, q55, q56, q57, q58, q59, q61, q62, q63, q64, q66, q67, q68, q69, q70, q71, q91, q93, q99, q100, q102, q104, q107, q108, q112, q114, q115, q119, q121, q124, q160, q200, q255, q640, q999, q1000, q2000, q4096, n_of, nI_ltI, nI_leI, nI_eq, nI_clamp, nI_add, pk_mul, n_sub, m1_eq, m1_eq2, m1_lt, m1_lt2, gdN, Nat.not_lt_zero, false_or, if_true, if_false, if_pos, if_neg, cond_true, cond_false, beq_self, and_self, true_and, and_true, not_true_eq_false, not_false_eq_true, ne_eq, am1]
        exact nx u hfu
      · have h84 : u 84 (i - 1) = ahd g nt (i - 1) := by
          rw [hfu 84 (by decide), h1 _ (by omega)]
        simp (disch := omega) only [↓n_m1, ↓n_hid, q0, q1, q2, q3, q4, q5, q6, q7, q8, q9, q10, q11, q12, q13, q14, q15, q16, q17, q18, q19, q20, q21, q22, q23, q24, q25, q26, q27, q28, q29, q30, q31, q32, q33, q34, q35, q36, q37, q38, q39, q40, q41, q42, q43, q44, q45, q46, q47, q48, q49, q50, q51, q52, q53, q54, q55, q56, q57, q58, q59, q61, q62, q63, q64, q66, q67, q68, q69, q70, q71, q91, q93, q99, q100, q102, q104, q107, q108, q112, q114, q115, q119, q121, q124, q160, q200, q255, q640, q999, q1000, q2000, q4096, n_of, nI_ltI, nI_leI, nI_eq, nI_clamp, nI_add, pk_mul, n_sub, m1_eq, m1_eq2, m1_lt, m1_lt2, gdN, Nat.not_lt_zero, false_or, if_true, if_false, if_pos, if_neg, cond_true, cond_false, beq_self, and_self, true_and, and_true, not_true_eq_false, not_false_eq_true, ne_eq, e, h84]
        rw [m_goesOn (d := d + 1) hg (hcf hfu'), ← ahd_S (by omega)]
        exact nx u hfu
  rw [e_M_layThief, q0]
  exact fwd 31 0 s rfl frm_r (fun m hm => by omega)
end
