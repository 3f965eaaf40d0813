/-! calls that change something, in lock step -/
section
variable {d c : Nat} {g : Gph} {s t : Mem} {L J : List Nat}
theorem REL_B (h : REL c g s) (hf : frN L J s t) (h0 : t 0 1 = s 0 1 ∧ t 0 2 = s 0 2) (hL : ∀ a, a ∈ L → ¬ (3 ≤ a ∧ a ≤ 16) ∧ a ≠ 62 ∧ a ≠ 65 ∧ ¬ (1001 ≤ a ∧ a ≤ 1007)) (hJ : 24 ∉ J ∧ 25 ∉ J ∧ 26 ∉ J ∧ 33 ∉ J)
    (c1 : TapR t) (c2 : LawsR t) (c3 : NowR g t) (c4 : ActR g t) (c5 : ImgR g t) (c6 : TrR g t) (c7 : NtR g t) : REL c g t := by
  obtain ⟨⟨a1, a2, a3, a4⟩, ⟨b1, b2, b3⟩, _, _, _, _, _, _, _, c8⟩ := h
  have h16 := C_le a1
  have c3' : 3 ≤ c := by rcases a1 with rfl | rfl <;> omega
  have e : ∀ a, (3 ≤ a ∧ a ≤ 16) ∨ a = 62 ∨ a = 65 ∨ (1001 ≤ a ∧ a ≤ 1007) → t a = s a := fun a ha => hf.1 a (fun z => by have := hL a z; omega) (by omega)
  refine ⟨⟨a1, a2, by rw [h0.1]; exact a3, by rw [h0.2]; exact a4⟩, ⟨?_, ?_, by rw [hf.2 33 hJ.2.2.2]; exact b3⟩, c1, c2, c3, c4, c5, c6, c7, ?_⟩
  · unfold CityF CityC FarC at *
    rw [e c (by omega), e (c + 3) (by omega), e (c + 4) (by omega), e (c + 5) (by omega), e (c + 6) (by omega)]
    exact b1
  · unfold CityM at *
    rw [hf.2 24 hJ.1, hf.2 25 hJ.2.1, hf.2 26 hJ.2.2.1, e 62 (by omega), e 65 (by omega)]
    exact b2
  · unfold STA at *
    rw [e 1001 (by omega), e 1002 (by omega), e 1003 (by omega), e 1004 (by omega), e 1005 (by omega), e 1006 (by omega), e 1007 (by omega)]
    exact c8
theorem TapR_n (h : TapR s) (hf : frN L J s t) (hL : 1 ∉ L ∧ 2 ∉ L ∧ 58 ∉ L) (hJ : 6 ∉ J) : TapR t := by
  unfold TapR at *
  rw [hf.1 1 hL.1 (by decide), hf.1 2 hL.2.1 (by decide), hf.1 58 hL.2.2 (by decide), hf.2 6 hJ]
  exact h
theorem LawR_n {i : Nat} (hi : i < 5) (h : LawR i s) (hf : frN L J s t) (hL : (∀ a, a ∈ L → ¬ (18 ≤ a ∧ a ≤ 32)) ∧ 59 ∉ L ∧ 60 ∉ L) : LawR i t := by
  unfold LawR CodeA at *
  rw [hf.1 59 hL.2.1 (by decide), hf.1 60 hL.2.2 (by decide), hf.1 (18 + 3 * i) (fun z => by have := hL.1 _ z; omega) (by omega), hf.1 (18 + 3 * i + 1) (fun z => by have := hL.1 _ z; omega) (by omega)]
  exact h
theorem LawsR_n (h : LawsR s) (hf : frN L J s t) (hL : 0 ∉ L ∧ (∀ a, a ∈ L → ¬ (18 ≤ a ∧ a ≤ 32)) ∧ 59 ∉ L ∧ 60 ∉ L) (hJ : 7 ∉ J ∧ 32 ∉ J) : LawsR t := by
  obtain ⟨nl, h1, h2, h3, h4, h5, h6⟩ := h
  refine ⟨nl, h1, by rw [hf.1 0 hL.1 (by decide)]; exact h2, by rw [hf.2 7 hJ.1]; exact h3, fun i hi => LawR_n (by omega) (h4 i hi) hf hL.2, by rw [hf.2 32 hJ.2, hf.1 0 hL.1 (by decide)]; exact h5, by rw [hf.1 0 hL.1 (by decide)]; exact h6⟩
theorem NowR_n (h : NowR g s) (hf : frN L J s t) (hL : 34 ∉ L ∧ 68 ∉ L) : NowR g t := by
  unfold NowR at *
  rw [hf.1 34 hL.1 (by decide), hf.1 68 hL.2 (by decide)]
  exact h
theorem ActR_n (h : ActR g s) (hf : frN L J s t) (hL : 33 ∉ L ∧ 35 ∉ L ∧ 70 ∉ L) (hJ : 35 ∉ J) : ActR g t := by
  unfold ActR at *
  rw [hf.1 33 hL.1 (by decide), hf.1 35 hL.2.1 (by decide), hf.1 70 hL.2.2 (by decide), hf.2 35 hJ]
  exact h
theorem ImgR_n (h : ImgR g s) (hf : frN L J s t) (hL : 33 ∉ L ∧ 36 ∉ L ∧ 87 ∉ L) (hJ : 57 ∉ J) : ImgR g t := by
  unfold ImgR at *
  rw [hf.1 33 hL.1 (by decide), hf.1 36 hL.2.1 (by decide), hf.1 87 hL.2.2 (by decide), hf.2 57 hJ]
  exact h
theorem TrR_n (h : TrR g s) (hf : frN L J s t) (hL : 42 ∉ L ∧ 43 ∉ L ∧ 44 ∉ L ∧ 75 ∉ L ∧ 76 ∉ L) (hJ : 42 ∉ J) : TrR g t := by
  unfold TrR TrC TrM at *
  rw [hf.1 42 hL.1 (by decide), hf.1 43 hL.2.1 (by decide), hf.1 44 hL.2.2.1 (by decide), hf.1 75 hL.2.2.2.1 (by decide), hf.1 76 hL.2.2.2.2 (by decide), hf.2 42 hJ]
  exact h
theorem NtR_n (h : NtR g s) (hf : frN L J s t) (hL : 45 ∉ L ∧ 46 ∉ L ∧ 47 ∉ L ∧ 48 ∉ L ∧ 49 ∉ L ∧ 81 ∉ L ∧ 82 ∉ L ∧ 83 ∉ L ∧ 86 ∉ L) (hJ : 55 ∉ J) : NtR g t := by
  unfold NtR NtC NtM at *
  rw [hf.1 45 hL.1 (by decide), hf.1 46 hL.2.1 (by decide), hf.1 47 hL.2.2.1 (by decide), hf.1 48 hL.2.2.2.1 (by decide), hf.1 49 hL.2.2.2.2.1 (by decide), hf.1 81 hL.2.2.2.2.2.1 (by decide), hf.1 82 hL.2.2.2.2.2.2.1 (by decide), hf.1 83 hL.2.2.2.2.2.2.2.1 (by decide), hf.1 86 hL.2.2.2.2.2.2.2.2 (by decide), hf.2 55 hJ]
  exact h
theorem rl_isC (h : REL c g s) : isC c := h.1.1
theorem rl_gOk (h : REL c g s) : gOk g := h.1.2.1
theorem rl_ref (h : REL c g s) : s 0 1 = nI (c + 1) := h.1.2.2.1
theorem rl_cf (h : REL c g s) : CityF c g s := h.2.1.1
theorem rl_cm (h : REL c g s) : CityM g s := h.2.1.2.1
theorem rl_tap (h : REL c g s) : TapR s := h.2.2.1
theorem rl_laws (h : REL c g s) : LawsR s := h.2.2.2.1
theorem rl_now (h : REL c g s) : NowR g s := h.2.2.2.2.1
theorem rl_act (h : REL c g s) : ActR g s := h.2.2.2.2.2.1
theorem rl_img (h : REL c g s) : ImgR g s := h.2.2.2.2.2.2.1
theorem rl_tr (h : REL c g s) : TrR g s := h.2.2.2.2.2.2.2.1
theorem rl_nt (h : REL c g s) : NtR g s := h.2.2.2.2.2.2.2.2.1
theorem rl_sta (h : REL c g s) : STA s := h.2.2.2.2.2.2.2.2.2
/-- nothing but scratch fields of the reference -/
theorem REL_thr (h : REL c g s) {x : Int32} : REL c g (upM s 57 0 x) := by
  have hf : frN [] [0] s (upM s 57 0 x) := frN_v (by simp)
  exact REL_B h hf ⟨by rw [up_ce (by decide)], by rw [up_ce (by decide)]⟩ (by decide) (by decide) (TapR_n (rl_tap h) hf (by decide) (by decide)) (LawsR_n (rl_laws h) hf (by decide) (by decide)) (NowR_n (rl_now h) hf (by decide)) (ActR_n (rl_act h) hf (by decide) (by decide)) (ImgR_n (rl_img h) hf (by decide) (by decide)) (TrR_n (rl_tr h) hf (by decide) (by decide)) (NtR_n (rl_nt h) hf (by decide) (by decide))
theorem r_there {K : Int32 → Mem → Prop} (h : REL c g s) : wI (wp (d + 1)) m_C_isThere [.ref c] s K = K (b01 (decide (0 < gR g))) s := c_isThere (rl_isC h) (rl_gOk h) (rl_cf h).1
theorem r_r0 (h : REL c g s) : ((s 57 24) = nI 0) = (¬ 0 < gR g) := by
  have := (rl_gOk h).1
  rw [(rl_cm h).1]
  simp (disch := omega) only [↓n_m1, ↓n_hid, q0, q1, q2, q3, q4, q5, q6, q7, q8, q9, q10, q11, q12, q13, q14, q15, q16, q17, q18, q19, q20, q21, q22, q23, q24, q25, q26, q27, q28, q29, q30, q31, q32, q33, q34, q35, q36, q37, q38, q39, q40, q41, q42, q43, q44, q45, q46, q47, q48, q49, q50, q51, q52, q53, q54, q55, q56, q57, q58, q59, q61, q62, q63, q64, q66, q67, q68, q69, q70, q71, q91, q93, q99, q100, q102, q104, q107, q108, q112, q114, q115, q119, q121, q124, q160, q200, q255, q640, q999, q1000, q2000, q4096, n_of, nI_ltI, nI_leI, nI_eq, nI_clamp, nI_add, pk_mul, n_sub, m1_eq, m1_eq2, m1_lt, m1_lt2, gdN, Nat.not_lt_zero, false_or, if_true, if_false, if_pos, if_neg, cond_true, cond_false, beq_self, and_self, true_and, and_true, not_true_eq_false, not_false_eq_true, ne_eq]
  exact propext ⟨fun z => by omega, fun z => by omega⟩
/-- the weather's part -/
theorem REL_W (h : REL c g s) (hf : frN [33, 34, 35, 36, 68, 70, 87] [0, 35, 57] s t) (c3 : NowR g t) (c4 : ActR g t) (c5 : ImgR g t) : REL c g t :=
  REL_B h hf ⟨by rw [hf.1 0 (by decide) (by decide)], by rw [hf.1 0 (by decide) (by decide)]⟩ (by decide) (by decide) (TapR_n (rl_tap h) hf (by decide) (by decide)) (LawsR_n (rl_laws h) hf (by decide) (by decide)) c3 c4 c5 (TrR_n (rl_tr h) hf (by decide) (by decide)) (NtR_n (rl_nt h) hf (by decide) (by decide))
theorem V5_e {f f' : Nat → Int32} (h : V5 g f) (e : ∀ k, k < 5 → f' k = f k) : V5 g f' := by
  unfold V5 at *
  rw [e 0 (by decide), e 1 (by decide), e 2 (by decide), e 3 (by decide), e 4 (by decide)]
  exact h
/-! law -/
theorem L_law {K : Int32 → Int32 → Mem → Prop} (h : REL c g s) {x : Int32} (hK : ∀ v s', REL c g s' → K v v s') :
    wI (wp (d + 50)) m_X_law [.ref 0, .int x] s (fun v s1 => wI (wp (d + 50)) m_M_law [.ref 57, .int x] s1 (fun v' s2 => K v v' s2)) := by
  have hcc := rl_isC h
  have ht := REL_thr h (x := nI 0)
  obtain ⟨nl, n1, n2, n3, n4, n5, n6⟩ := rl_laws h
  have set : ∀ y : Int32, (y = m1 ∨ ∃ i : Nat, i < nl ∧ y = nI i) → REL c g (upM (upM (upM s 0 5 y) 57 0 (nI 0)) 57 32 y) := by
    intro y hy
    have hf : frN [0] [0, 32] s (upM (upM (upM s 0 5 y) 57 0 (nI 0)) 57 32 y) := frN_t (frN_u (by simp) (by decide)) (frN_t (frN_v (by simp)) (frN_v (by simp)))
    refine REL_B h hf ⟨by simp [upM], by simp [upM]⟩ (by decide) (by decide) (TapR_n (rl_tap h) hf (by decide) (by decide)) ⟨nl, n1, by simp [upM]; exact n2, by simp [upM]; exact n3, fun i hi => LawR_n (by omega) (n4 i hi) hf (by decide), by simp [upM], by simp [upM]; exact hy⟩ (NowR_n (rl_now h) hf (by decide)) (ActR_n (rl_act h) hf (by decide) (by decide)) (ImgR_n (rl_img h) hf (by decide) (by decide)) (TrR_n (rl_tr h) hf (by decide) (by decide)) (NtR_n (rl_nt h) hf (by decide) (by decide))
  rw [e_X_law, rl_ref h, cref hcc, crefc hcc, r_there (d := d + 48) h, ifb]
  by_cases hR : 0 < gR g
  · rw [decide_eq_true hR, if_pos rfl, n2]
    have cm : ∀ {u : Mem} (v : Int32) (y : Int32), u 57 24 = s 57 24 → u 57 7 = nI nl → wI (wp (d + 50)) m_M_law [.ref 57, .int y] u (fun v' s2 => K v v' s2) = (if y = m1 then K v (nI 1) (upM (upM u 57 0 (nI 0)) 57 32 y) else if 0 ≤ y.toInt ∧ y.toInt < nl then K v (nI 1) (upM (upM u 57 0 (nI 0)) 57 32 y) else K v (nI 0) (upM u 57 0 (nI 0))) := by
      intro u v y e24 e7
      have e0 : ¬ u 57 24 = 0 := by rw [e24]; exact fun z => (r_r0 h).mp z hR
      rw [e_M_law, if_neg e0, e7]
      by_cases h1 : y = m1
      · rw [if_pos h1, if_pos (show y = -1 from h1)]; rfl
      · rw [if_neg h1, if_neg (show ¬ y = -1 from h1), e_M_isIn]
        have c0 : (lg_cmp y.toInt64 0 < 0) = (y.toInt < 0) := by
          have hb : (0 : Int64).toInt = 0 := by decide
          unfold lg_cmp
          refine propext ⟨fun z => ?_, fun z => ?_⟩
          · by_cases g1 : y.toInt64 > 0
            · rw [if_pos g1] at z; exact absurd z (by decide)
            · have g1' : ¬ (0 : Int64).toInt < y.toInt64.toInt := fun z => g1 (Int64.lt_iff_toInt_lt.mpr z)
              rw [hb, Int32.toInt_toInt64] at g1'
              rw [if_neg g1] at z
              by_cases g2 : y.toInt64 = 0
              · rw [if_pos g2] at z; exact absurd z (by decide)
              · have : y.toInt ≠ 0 := fun w => g2 (Int64.toInt_inj.mp (by rw [Int32.toInt_toInt64, hb, w]))
                omega
          · rw [if_neg (fun g1 => by have := Int64.lt_iff_toInt_lt.mp g1; rw [hb, Int32.toInt_toInt64] at this; omega), if_neg (fun g2 => by have := congrArg Int64.toInt g2; rw [hb, Int32.toInt_toInt64] at this; omega)]
            decide
        have hbn : ((nI nl - 1 : Int32).toInt64).toInt = (nl : Int) - 1 := by
          rw [Int32.toInt_toInt64, show (1 : Int32) = nI 1 from rfl, pk_sub_toInt (by omega) (by omega)]
          rfl
        have c2 : ((0 : Int32) < lg_cmp y.toInt64 ((nI nl - 1 : Int32).toInt64)) = ((nl : Int) - 1 < y.toInt) := by
          unfold lg_cmp
          refine propext ⟨fun z => ?_, fun z => ?_⟩
          · by_cases g1 : y.toInt64 > (nI nl - 1 : Int32).toInt64
            · have := Int64.lt_iff_toInt_lt.mp g1
              rw [hbn, Int32.toInt_toInt64] at this
              exact this
            · rw [if_neg g1] at z
              split at z
              · exact absurd z (by decide)
              · exact absurd z (by decide)
          · rw [if_pos (show y.toInt64 > (nI nl - 1 : Int32).toInt64 from Int64.lt_iff_toInt_lt.mpr (by rw [hbn, Int32.toInt_toInt64]; exact z))]
            decide
        simp only [c0, c2]
        by_cases h2 : 0 ≤ y.toInt ∧ y.toInt < nl
        · rw [if_pos h2, if_neg (by omega), if_neg (by omega), if_neg (by decide)]; rfl
        · rw [if_neg h2]
          by_cases h3 : y.toInt < 0
          · rw [if_pos h3, if_pos trivial]; rfl
          · rw [if_neg h3, if_pos (by omega), if_pos trivial]; rfl
    have m1i : m1.toInt = -1 := m1_toInt
    by_cases h1 : x < -1
    · rw [if_pos h1, cm (u := s) 0 x rfl n3]
      have h1' : x.toInt < -1 := by
        rw [Int32.lt_iff_toInt_lt] at h1
        have : (-1 : Int32).toInt = -1 := by decide
        omega
      rw [if_neg (fun z => by rw [z] at h1'; omega), if_neg (by omega)]
      exact hK _ _ ht
    · rw [if_neg h1]
      have h1' : -1 ≤ x.toInt := by
        rw [Int32.lt_iff_toInt_lt] at h1
        have : (-1 : Int32).toInt = -1 := by decide
        omega
      by_cases h2 : x < nI nl
      · rw [if_pos h2, cm (u := upM s 0 5 x) 1 x (by rw [up_ce (by decide)]) (by rw [up_ce (by decide)]; exact n3)]
        have h2' : x.toInt < nl := by
          rw [Int32.lt_iff_toInt_lt, n_i (by omega)] at h2
          exact h2
        by_cases h3 : x = m1
        · rw [if_pos h3]
          exact hK _ _ (set x (Or.inl h3))
        · have h4 : x.toInt ≠ -1 := fun z => h3 (Int32.toInt_inj.mp (by rw [z, m1i]))
          rw [if_neg h3, if_pos ⟨by omega, h2'⟩]
          refine hK _ _ (set x (Or.inr ⟨x.toInt.toNat, by omega, Int32.toInt_inj.mp ?_⟩))
          rw [n_i (by omega)]; omega
      · rw [if_neg h2, cm (u := s) 0 x rfl n3]
        have h2' : ¬ x.toInt < nl := by
          rw [Int32.lt_iff_toInt_lt, n_i (by omega)] at h2
          exact h2
        rw [if_neg (fun z => by rw [z] at h2'; omega), if_neg (by omega)]
        exact hK _ _ ht
  · rw [decide_eq_false hR, if_neg (by decide), e_M_law, if_pos (show s 57 24 = 0 from (r_r0 h).mpr hR)]
    exact hK _ _ ht
/-! acts -/
/-- one act more: how many, and what they were -/
def pshN (n : Nat) : Nat := if n = 40 then 40 else n + 1
def pshB (n : Nat) (B : Nat → Nat → Int32) (nw : Nat → Int32) (i k : Nat) : Int32 := if n = 40 then (if i < 39 then B (i + 1) k else nw k) else (if i < n then B i k else nw k)
theorem c_keep {K : Mem → Prop} (hd : 2 ≤ d) {n : Nat} (hn : n ≤ 40) (h33 : s 33 2 = nI n) (hK : ∀ s', frm [33, 35] s s' → s' 33 2 = nI (pshN n) → s' 33 4 = s 33 4 → (∀ i k, i < pshN n → k < 5 → s' 35 (5 * i + k) = pshB n (fun i k => s 35 (5 * i + k)) (s 34) i k) → K s') : wV (wp d) m_W_keepBefore [.ref 33] s K := by
  obtain ⟨d, rfl⟩ : ∃ e, d = e + 2 := ⟨d - 2, by omega⟩
  have lp : ∀ (u : Mem) (m : Nat), m < 40 → frm [33, 35] s u → u 33 2 = nI m → u 33 4 = s 33 4 → (∀ s', frm [33, 35] s s' → s' 33 2 = nI (m + 1) → s' 33 4 = s 33 4 → (∀ j, j < 5 * m → s' 35 j = u 35 j) → (∀ k, k < 5 → s' 35 (5 * m + k) = s 34 k) → K s') →
      ∀ (q i : Nat) (t : Mem), i + q = 5 → frm [33, 35] s t → t 33 = u 33 → (∀ j, j < 5 * m → t 35 j = u 35 j) → (∀ k, k < i → t 35 (5 * m + k) = s 34 k) → RnV (d + 1) m_W_keepBefore K 33 [.ref 33, .int (nI i)] [] t := by
    intro u m hm hu h2 h4 hK q
    induction q with
    | zero =>
      intro i t hi hf e33 hlo hhi
      obtain rfl : i = 5 := by omega
      rw [r_W_keepBefore_33, e33, h2]
      simp (disch := omega) only [↓n_m1, ↓n_hid, q0, q1, q2, q3, q4, q5, q6, q7, q8, q9, q10, q11, q12, q13, q14, q15, q16, q17, q18, q19, q20, q21, q22, q23, q24, q25, q26, q27, q28, q29, q30, q31, q32, q33, q34, q35, q36, q37, q38, q39, q40, q41, q42, q43, q44, q45, q46, q47, q48, q49, q50, q51, q52, q53, q54, q55, q56, q57, q58, q59, q61, q62, q63, q64, q66, q67, q68, q69, q70, q71, q91, q93, q99, q100, q102, q104, q107, q108, q112, q114, q115, q119, q121, q124, q160, q200, q255, q640, q999, q1000, q2000, q4096, n_of, nI_ltI, nI_leI, nI_eq, nI_clamp, nI_add, pk_mul, n_sub, m1_eq, m1_eq2, m1_lt, m1_lt2, gdN, Nat.not_lt_zero, false_or, if_true, if_false, if_pos, if_neg, cond_true, cond_false, beq_self, and_self, true_and, and_true, not_true_eq_false, not_false_eq_true, ne_eq]
      refine hK _ (frm_t hf (frm_u (by simp))) up_at ?_ (fun j hj => ?_) (fun k hk => ?_)
      · rw [up_pl (by decide), e33]; exact h4
      · rw [up_ce (by decide)]; exact hlo j hj
      · rw [up_ce (by decide)]; exact hhi k hk
    | succ q ih =>
      intro i t hi hf e33 hlo hhi
      rw [r_W_keepBefore_33, e33, h2]
      simp (disch := omega) only [↓n_m1, ↓n_hid, q0, q1, q2, q3, q4, q5, q6, q7, q8, q9, q10, q11, q12, q13, q14, q15, q16, q17, q18, q19, q20, q21, q22, q23, q24, q25, q26, q27, q28, q29, q30, q31, q32, q33, q34, q35, q36, q37, q38, q39, q40, q41, q42, q43, q44, q45, q46, q47, q48, q49, q50, q51, q52, q53, q54, q55, q56, q57, q58, q59, q61, q62, q63, q64, q66, q67, q68, q69, q70, q71, q91, q93, q99, q100, q102, q104, q107, q108, q112, q114, q115, q119, q121, q124, q160, q200, q255, q640, q999, q1000, q2000, q4096, n_of, nI_ltI, nI_leI, nI_eq, nI_clamp, nI_add, pk_mul, n_sub, m1_eq, m1_eq2, m1_lt, m1_lt2, gdN, Nat.not_lt_zero, false_or, if_true, if_false, if_pos, if_neg, cond_true, cond_false, beq_self, and_self, true_and, and_true, not_true_eq_false, not_false_eq_true, ne_eq]
      rw [c_at (d := d) (show (shp 34).1 = 20 from rfl) (show i < 5 by omega)]
      rw [c_put (d := d) (show (shp 35).1 = 20 from rfl) (by decide) (show m * 5 + i < 200 by omega), show m * 5 + i = 5 * m + i by omega, hf 34 (by simp)]
      refine ih (i + 1) _ (by omega) (frm_t hf (frm_u (by simp))) (by rw [up_ce (by decide)]; exact e33) (fun j hj => ?_) (fun k hk => ?_)
      · rw [up_pl (by omega)]; exact hlo j hj
      · by_cases e : k = i
        · rw [e, up_at]
        · rw [up_pl (by omega)]; exact hhi k (by omega)
  rw [e_W_keepBefore, h33]
  by_cases h40 : n = 40
  · subst h40
    rw [if_neg (show ¬ nI 40 < 40 by decide)]
    have f1 : frm [33, 35] s (upM (cpM s 35 5 35 0 195) 33 2 39) := frm_t (frm_c (by simp)) (frm_u (by simp))
    refine lp (upM (cpM s 35 5 35 0 195) 33 2 39) 39 (by decide) f1 up_at (by rw [up_pl (by decide)]; rfl) (fun s' f' e2 e4 hlo hhi => ?_) 5 0 _ rfl f1 rfl (fun _ _ => rfl) (fun k hk => by omega)
    refine hK s' f' e2 e4 fun i k hi hk => ?_
    have hi' : i < 40 := hi
    by_cases h39 : i < 39
    · rw [hlo _ (by omega), up_ce (by decide)]
      show (if 35 = 35 then (if 0 ≤ 5 * i + k ∧ 5 * i + k < 0 + 195 then s 35 (5 + (5 * i + k - 0)) else s 35 (5 * i + k)) else s 35 (5 * i + k)) = pshB 40 _ _ i k
      rw [if_pos rfl, if_pos (by omega)]
      unfold pshB
      rw [if_pos rfl, if_pos h39]
      congr 1
      omega
    · have : i = 39 := by omega
      subst this
      rw [hhi k hk]
      unfold pshB
      rw [if_pos rfl, if_neg (by decide)]
  · rw [if_pos (show nI n < 40 by rw [q40, nI_ltI (by omega) (by omega)]; omega)]
    refine lp s n (by omega) frm_r h33 rfl (fun s' f' e2 e4 hlo hhi => ?_) 5 0 s rfl frm_r rfl (fun _ _ => rfl) (fun k hk => by omega)
    have ep : pshN n = n + 1 := if_neg h40
    refine hK s' f' (by rw [ep]; exact e2) e4 fun i k hi hk => ?_
    rw [ep] at hi
    unfold pshB
    rw [if_neg h40]
    by_cases hin : i < n
    · rw [if_pos hin, hlo _ (by omega)]
    · rw [if_neg hin]
      have : i = n := by omega
      subst this
      exact hhi k hk
theorem m_keep {K : Mem → Prop} (hd : 1 ≤ d) {n : Nat} (hn : n ≤ 40) (h33 : s 57 35 = nI n) (hK : ∀ s', frN [70] [35] s s' → s' 57 35 = nI (pshN n) → (∀ i k, i < pshN n → k < 5 → s' 70 (5 * i + k) = pshB n (fun i k => s 70 (5 * i + k)) (s 68) i k) → K s') : wV (wp d) m_M_remember [.ref 57] s K := by
  obtain ⟨d, rfl⟩ : ∃ e, d = e + 1 := ⟨d - 1, by omega⟩
  have lp : ∀ (u : Mem) (m : Nat), m < 40 → frN [70] [35] s u → u 57 35 = nI m → (∀ s', frN [70] [35] s s' → s' 57 35 = nI (m + 1) → (∀ j, j < 5 * m → s' 70 j = u 70 j) → (∀ k, k < 5 → s' 70 (5 * m + k) = s 68 k) → K s') →
      ∀ (q i : Nat) (t : Mem), i + q = 5 → frN [70] [35] s t → t 57 35 = nI m → (∀ j, j < 5 * m → t 70 j = u 70 j) → (∀ k, k < i → t 70 (5 * m + k) = s 68 k) → RnV d m_M_remember K 50 [.ref 57, .int (nI i)] [] t := by
    intro u m hm hu h2 hK q
    induction q with
    | zero =>
      intro i t hi hf e33 hlo hhi
      obtain rfl : i = 5 := by omega
      rw [r_M_remember_50, e33]
      simp (disch := omega) only [↓n_m1, ↓n_hid, q0, q1, q2, q3, q4, q5, q6, q7, q8, q9, q10, q11, q12, q13, q14, q15, q16, q17, q18, q19, q20, q21, q22, q23, q24, q25, q26, q27, q28, q29, q30, q31, q32, q33, q34, q35, q36, q37, q38, q39, q40, q41, q42, q43, q44, q45, q46, q47, q48, q49, q50, q51, q52, q53, q54, q55, q56, q57, q58, q59, q61, q62, q63, q64, q66, q67, q68, q69, q70, q71, q91, q93, q99, q100, q102, q104, q107, q108, q112, q114, q115, q119, q121, q124, q160, q200, q255, q640, q999, q1000, q2000, q4096, n_of, nI_ltI, nI_leI, nI_eq, nI_clamp, nI_add, pk_mul, n_sub, m1_eq, m1_eq2, m1_lt, m1_lt2, gdN, Nat.not_lt_zero, false_or, if_true, if_false, if_pos, if_neg, cond_true, cond_false, beq_self, and_self, true_and, and_true, not_true_eq_false, not_false_eq_true, ne_eq]
      refine hK _ (frN_t hf (frN_v (by simp))) up_at (fun j hj => ?_) (fun k hk => ?_)
      · rw [up_ce (by decide)]; exact hlo j hj
      · rw [up_ce (by decide)]; exact hhi k hk
    | succ q ih =>
      intro i t hi hf e33 hlo hhi
      rw [r_M_remember_50, e33]
      simp (disch := omega) only [↓n_m1, ↓n_hid, q0, q1, q2, q3, q4, q5, q6, q7, q8, q9, q10, q11, q12, q13, q14, q15, q16, q17, q18, q19, q20, q21, q22, q23, q24, q25, q26, q27, q28, q29, q30, q31, q32, q33, q34, q35, q36, q37, q38, q39, q40, q41, q42, q43, q44, q45, q46, q47, q48, q49, q50, q51, q52, q53, q54, q55, q56, q57, q58, q59, q61, q62, q63, q64, q66, q67, q68, q69, q70, q71, q91, q93, q99, q100, q102, q104, q107, q108, q112, q114, q115, q119, q121, q124, q160, q200, q255, q640, q999, q1000, q2000, q4096, n_of, nI_ltI, nI_leI, nI_eq, nI_clamp, nI_add, pk_mul, n_sub, m1_eq, m1_eq2, m1_lt, m1_lt2, gdN, Nat.not_lt_zero, false_or, if_true, if_false, if_pos, if_neg, cond_true, cond_false, beq_self, and_self, true_and, and_true, not_true_eq_false, not_false_eq_true, ne_eq]
      rw [hf.1 68 (by decide) (by decide)]
      refine ih (i + 1) _ (by omega) (frN_t hf (frN_u (by simp) (by decide))) (by rw [up_ce (by decide)]; exact e33) (fun j hj => ?_) (fun k hk => ?_)
      · rw [up_pl (by omega)]; exact hlo j hj
      · by_cases e : k = i
        · rw [e, up_at]
        · rw [up_pl (by omega)]; exact hhi k (by omega)
  rw [e_M_remember, h33]
  by_cases h40 : n = 40
  · subst h40
    rw [if_pos (show nI 40 = 40 from rfl)]
    have sh : ∀ (q i : Nat) (t : Mem), i + q = 195 → frN [70] [35] s t → t 57 35 = nI 40 → (∀ j, j < i → t 70 j = s 70 (j + 5)) → (∀ j, i ≤ j → t 70 j = s 70 j) → (∀ t, frN [70] [35] s t → t 57 35 = nI 39 → (∀ j, j < 195 → t 70 j = s 70 (j + 5)) → RnV d m_M_remember K 50 [.ref 57, .int (nI 0)] [] t) → RnV d m_M_remember K 11 [.ref 57, .int (nI i)] [] t := by
      intro q
      induction q with
      | zero =>
        intro i t hi hf e33 hlo hhi hN
        obtain rfl : i = 195 := by omega
        rw [r_M_remember_11, e33]
        simp (disch := omega) only [↓n_m1, ↓n_hid, q0, q1, q2, q3, q4, q5, q6, q7, q8, q9, q10, q11, q12, q13, q14, q15, q16, q17, q18, q19, q20, q21, q22, q23, q24, q25, q26, q27, q28, q29, q30, q31, q32, q33, q34, q35, q36, q37, q38, q39, q40, q41, q42, q43, q44, q45, q46, q47, q48, q49, q50, q51, q52, q53, q54, q55, q56, q57, q58, q59, q61, q62, q63, q64, q66, q67, q68, q69, q70, q71, q91, q93, q99, q100, q102, q104, q107, q108, q112, q114, q115, q119, q121, q124, q160, q200, q255, q640, q999, q1000, q2000, q4096, n_of, nI_ltI, nI_leI, nI_eq, nI_clamp, nI_add, pk_mul, n_sub, m1_eq, m1_eq2, m1_lt, m1_lt2, gdN, Nat.not_lt_zero, false_or, if_true, if_false, if_pos, if_neg, cond_true, cond_false, beq_self, and_self, true_and, and_true, not_true_eq_false, not_false_eq_true, ne_eq, show (195 : Int32) = nI 195 from rfl]
        refine hN _ (frN_t hf (frN_v (by simp))) up_at fun j hj => ?_
        rw [up_ce (by decide)]; exact hlo j hj
      | succ q ih =>
        intro i t hi hf e33 hlo hhi hN
        rw [r_M_remember_11, e33]
        simp (disch := omega) only [↓n_m1, ↓n_hid, q0, q1, q2, q3, q4, q5, q6, q7, q8, q9, q10, q11, q12, q13, q14, q15, q16, q17, q18, q19, q20, q21, q22, q23, q24, q25, q26, q27, q28, q29, q30, q31, q32, q33, q34, q35, q36, q37, q38, q39, q40, q41, q42, q43, q44, q45, q46, q47, q48, q49, q50, q51, q52, q53, q54, q55, q56, q57, q58, q59, q61, q62, q63, q64, q66, q67, q68, q69, q70, q71, q91, q93, q99, q100, q102, q104, q107, q108, q112, q114, q115, q119, q121, q124, q160, q200, q255, q640, q999, q1000, q2000, q4096, n_of, nI_ltI, nI_leI, nI_eq, nI_clamp, nI_add, pk_mul, n_sub, m1_eq, m1_eq2, m1_lt, m1_lt2, gdN, Nat.not_lt_zero, false_or, if_true, if_false, if_pos, if_neg, cond_true, cond_false, beq_self, and_self, true_and, and_true, not_true_eq_false, not_false_eq_true, ne_eq, show (195 : Int32) = nI 195 from rfl]
        rw [hhi (i + 5) (by omega)]
        refine ih (i + 1) _ (by omega) (frN_t hf (frN_u (by simp) (by decide))) (by rw [up_ce (by decide)]; exact e33) (fun j hj => ?_) (fun j hj => ?_) hN
        · by_cases e : j = i
          · rw [e, up_at]
          · rw [up_pl e]; exact hlo j (by omega)
        · rw [up_pl (by omega)]; exact hhi j (by omega)
    refine sh 195 0 s rfl frN_r h33 (fun j hj => by omega) (fun _ _ => rfl) fun u hu e39 hsh => ?_
    refine lp u 39 (by decide) hu e39 (fun s' f' e2 hlo hhi => ?_) 5 0 u rfl hu e39 (fun _ _ => rfl) (fun k hk => by omega)
    refine hK s' f' e2 fun i k hi hk => ?_
    have hi' : i < 40 := hi
    unfold pshB
    rw [if_pos rfl]
    by_cases h39 : i < 39
    · rw [if_pos h39, hlo _ (by omega), hsh _ (by omega)]
      congr 1
      omega
    · have : i = 39 := by omega
      subst this
      rw [if_neg (by decide), hhi k hk]
  · rw [if_neg (show ¬ nI n = 40 by rw [q40, nI_eq (by omega) (by omega)]; exact h40)]
    refine lp s n (by omega) frN_r h33 (fun s' f' e2 hlo hhi => ?_) 5 0 s rfl frN_r h33 (fun _ _ => rfl) (fun k hk => by omega)
    have ep : pshN n = n + 1 := if_neg h40
    refine hK s' f' (by rw [ep]; exact e2) fun i k hi hk => ?_
    rw [ep] at hi
    unfold pshB
    rw [if_neg h40]
    by_cases hin : i < n
    · rw [if_pos hin, hlo _ (by omega)]
    · rw [if_neg hin]
      have : i = n := by omega
      subst this
      exact hhi k hk
end
