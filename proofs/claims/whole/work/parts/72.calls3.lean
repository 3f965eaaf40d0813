/-! open, undo, image, back -/
section
variable {d c : Nat} {g : Gph} {s t : Mem}
theorem op_off {o : Int32} {i : Nat} (hi : i < 6) : (tb o i = false → o &&& (bit i ^^^ m1) = o) ∧ (tb o i = true → o &&& (bit i ^^^ m1) = o ^^^ bit i) := by
  refine ⟨fun h => tb_ext fun k hk => ?_, fun h => tb_ext fun k hk => ?_⟩
  · rw [tb_and, tb_xor, tb_bit (by omega), tb_m1 hk]
    by_cases e : i = k
    · rw [← e, h, decide_eq_true rfl]; rfl
    · rw [decide_eq_false e]; cases tb o k <;> rfl
  · rw [tb_and, tb_xor, tb_xor, tb_bit (by omega), tb_m1 hk]
    by_cases e : i = k
    · rw [← e, h, decide_eq_true rfl]; rfl
    · rw [decide_eq_false e]; cases tb o k <;> rfl
theorem op_on {o : Int32} {i : Nat} (hi : i < 6) : (tb o i = true → (o &&& (bit i ^^^ m1)) ||| bit i = o) ∧ (tb o i = false → (o &&& (bit i ^^^ m1)) ||| bit i = o ^^^ bit i) := by
  refine ⟨fun h => tb_ext fun k hk => ?_, fun h => tb_ext fun k hk => ?_⟩
  · rw [tb_or, tb_and, tb_xor, tb_bit (by omega), tb_m1 hk]
    by_cases e : i = k
    · rw [← e, h, decide_eq_true rfl]; rfl
    · rw [decide_eq_false e]; cases tb o k <;> rfl
  · rw [tb_or, tb_and, tb_xor, tb_xor, tb_bit (by omega), tb_m1 hk]
    by_cases e : i = k
    · rw [← e, h, decide_eq_true rfl]; rfl
    · rw [decide_eq_false e]; cases tb o k <;> rfl
theorem V5_open {f : Nat → Int32} (h : V5 g f) {i : Nat} (hi : i < gS g) (hS : gS g ≤ 6) : V5 g (up5 f 4 (f 4 ^^^ bit i)) := by
  obtain ⟨w, rn, hr, dl, h0, h1, h2, h3, h4⟩ := h
  refine ⟨w, rn, hr, dl, h0, h1, h2, h3, fun k hk => ?_⟩
  have hk' : tb (f 4 ^^^ bit i) k = true := hk
  rw [tb_xor, tb_bit (by omega)] at hk'
  by_cases e : i = k
  · omega
  · rw [decide_eq_false e, Bool.xor_false] at hk'
    exact h4 k hk'
theorem L_open {K : Int32 → Int32 → Mem → Prop} (h : REL c g s) {x : Int32} {b : Bool} (hK : ∀ v s', REL c g s' → K v v s') :
    wI (wp (d + 50)) m_X_open [.ref 0, .int x, .int (b01 b)] s (fun v s1 => wI (wp (d + 50)) m_M_open [.ref 57, .int x, .int (b01 b)] s1 (fun v' s2 => K v v' s2)) := by
  have hcc := rl_isC h
  have hg := rl_gOk h
  have hS := hg.2.2.1
  have ht := REL_thr h (x := nI 0)
  obtain ⟨n, hn, h33, h57, hB⟩ := rl_act h
  have bad : ¬ (¬ x < 0 ∧ x < nI (gS g)) → wI (wp (d + 50)) m_M_open [.ref 57, .int x, .int (b01 b)] s (fun v' s2 => K 0 v' s2) := by
    intro hn
    rw [e_M_open, m_isSource (d := d + 48) hg (rl_cm (show REL c g (upM s 57 0 0) from ht)), ifb, decide_eq_false hn, if_neg (by decide)]
    exact hK _ _ ht
  rw [e_X_open]
  by_cases h0 : x < 0
  · rw [if_pos h0]
    exact bad fun z => z.1 h0
  · rw [if_neg h0, rl_ref h, cref hcc, crefc hcc, c_sourceCount (d := d + 48) hcc (rl_cf h).1]
    by_cases h1 : x < nI (gS g)
    · rw [if_pos h1]
      have hx : ∃ i : Nat, i < gS g ∧ x = nI i := by
        rw [q0, Int32.lt_iff_toInt_lt, n_i (by omega)] at h0
        rw [Int32.lt_iff_toInt_lt, n_i (by omega)] at h1
        exact ⟨x.toInt.toNat, by omega, Int32.toInt_inj.mp (by rw [n_i (by omega)]; omega)⟩
      obtain ⟨i, hi, rfl⟩ := hx
      rw [show (4 : Int32) = nI 4 from rfl, c_now (d := d + 47) (by omega), show (1 : Int32) <<< (nI i &&& 31) = bit i from rfl, show (-1 : Int32) = m1 from rfl]
      have hsrc : decide (¬ nI i < 0 ∧ nI i < nI (gS g)) = true := decide_eq_true ⟨h0, h1⟩
      -- both act, or neither
      have main : ∀ v : Int32, (tb (s 34 4) i = b → v = s 34 4) → (tb (s 34 4) i = ! b → v = s 34 4 ^^^ bit i) → wI (wp (d + 49)) m_W_act [.ref 33, .int (nI 4), .int v] s (fun x53 s53 => (if (x53 : Int32) &&& 1 = x53 then wI (wp (d + 50)) m_M_open [.ref 57, .int (nI i), .int (b01 b)] s53 (fun v' s2 => K x53 v' s2) else False)) := by
        intro v hv1 hv2
        have o68 : ∀ {u : Mem} {y : Int32}, u 68 = s 68 → (upM u 57 0 y) 68 4 = s 34 4 := fun e => by rw [up_ce (by decide), e, (rl_now h).2 4 (by decide)]
        have mM : ∀ (u : Mem) (x53 : Int32), CityM g (upM u 57 0 (nI 0)) → u 68 = s 68 → wI (wp (d + 50)) m_M_open [.ref 57, .int (nI i), .int (b01 b)] u (fun v' s2 => K x53 v' s2) = (if b01 (tb (s 34 4) i) = b01 b then K x53 (nI 0) (upM u 57 0 (nI 0)) else wV (wp (d + 49)) m_M_remember [.ref 57] (upM u 57 0 (nI 0)) (fun s30 => K x53 (nI 1) (upM s30 68 4 ((s30 68 4) ^^^ bit i)))) := by
          intro u x53 hcm e68
          rw [e_M_open, m_isSource (d := d + 48) hg (show CityM g (upM u 57 0 0) from hcm), ifb, hsrc, if_pos rfl, o68 e68, m_has (d := d + 48) (by omega)]
          rfl
        have bb : (b01 (tb (s 34 4) i) = b01 b) = (tb (s 34 4) i = b) := by
          cases tb (s 34 4) i <;> cases b <;> simp [b01] <;> decide
        refine c_act (by omega) (by omega) hn h33 (fun e => ?_) (fun e s1 f1 e2 e4 e35 e34 => ?_)
        · have hb : tb (s 34 4) i = b := by
            cases h2 : tb (s 34 4) i <;> cases b
            · rfl
            · exfalso
              have hv := hv2 (by rw [h2]; rfl)
              rw [hv] at e
              have := congrArg (fun z => tb z i) e
              simp only [tb_xor, tb_bit (show i < 32 by omega), decide_true] at this
              rw [h2] at this
              exact absurd this (by decide)
            · exfalso
              have hv := hv2 (by rw [h2]; rfl)
              rw [hv] at e
              have := congrArg (fun z => tb z i) e
              simp only [tb_xor, tb_bit (show i < 32 by omega), decide_true] at this
              rw [h2] at this
              exact absurd this (by decide)
            · rfl
          rw [if_pos (by decide), mM s _ (rl_cm ht) rfl, if_pos (by rw [bb]; exact hb)]
          exact hK _ _ ht
        · have hb : ¬ tb (s 34 4) i = b := fun z => e (hv1 z).symm
          have hv := hv2 (by revert hb; cases tb (s 34 4) i <;> cases b <;> decide)
          have cm1 : CityM g (upM s1 57 0 (nI 0)) := CityM_N (L := [33, 34, 35]) (J := [0]) (frN_t (frN_w (frN_f (J := []) f1 (by simp)) (by simp) (by simp)) (frN_v (by simp))) (by decide) (by decide) (rl_cm h)
          rw [if_pos (by decide), mM s1 _ cm1 (by rw [f1 68 (by simp)]), if_neg (by rw [bb]; exact hb)]
          refine m_actG (K := fun v s => K (nI 1) v s) h hn h57 hB (v := v) (by rw [hv]; exact V5_open (rl_now h).1 hi hS) f1 e2 e4 e35 e34 (by omega) (fun s79 e => ?_) (fun s' h' => hK _ _ h')
          rw [hv, e, (rl_now h).2 4 (by decide)]
      have hi6 : i < 6 := by omega
      cases b with
      | false =>
        rw [if_pos (show b01 false = 0 from rfl)]
        exact main _ (fun z => (op_off hi6).1 z) (fun z => (op_off hi6).2 z)
      | true =>
        rw [if_neg (show ¬ b01 true = 0 by decide)]
        exact main _ (fun z => (op_on hi6).1 z) (fun z => (op_on hi6).2 z)
    · rw [if_neg h1]
      exact bad fun z => h1 z.2
theorem L_undo {K : Int32 → Int32 → Mem → Prop} (h : REL c g s) (hK : ∀ v s', REL c g s' → K v v s') :
    wI (wp (d + 50)) m_X_undo [.ref 0] s (fun v s1 => wI (wp (d + 50)) m_M_undo [.ref 57] s1 (fun v' s2 => K v v' s2)) := by
  have ht := REL_thr h (x := nI 0)
  obtain ⟨n, hn, h33, h57, hB⟩ := rl_act h
  rw [e_X_undo, e_W_takeBack, h33]
  by_cases h0 : n = 0
  · subst h0
    rw [if_neg (by decide), if_pos rfl, e_M_undo, if_pos (show s 57 35 = 0 from h57)]
    exact hK _ _ ht
  · have em : nI n - 1 = nI (n - 1) := by rw [show (1 : Int32) = nI 1 from rfl, n_sub (by omega)]
    rw [if_pos (show (0 : Int32) < nI n by rw [q0, nI_ltI (by omega) (by omega)]; omega), em]
    have lc : ∀ {K : Int32 → Mem → Prop}, (∀ u, frm [33, 34] s u → u 33 2 = nI (n - 1) → u 33 4 = s 33 4 → (∀ k, k < 5 → u 34 k = s 35 (5 * (n - 1) + k)) → K 1 u) → ∀ (q i : Nat) (t : Mem), i + q = 5 → frm [33, 34] s t → t 33 2 = nI (n - 1) → t 33 4 = s 33 4 → (∀ k, k < i → t 34 k = s 35 (5 * (n - 1) + k)) → RnI (d + 48) m_W_takeBack K 21 [.ref 33, .int (nI i)] [] t := by
      intro K hK q
      induction q with
      | zero =>
        intro i t hi hf e2 e4 e34
        obtain rfl : i = 5 := by omega
        rw [r_W_takeBack_21, if_neg (by decide)]
        exact hK t hf e2 e4 e34
      | succ q ih =>
        intro i t hi hf e2 e4 e34
        rw [r_W_takeBack_21, e2]
        simp (disch := omega) only [↓n_m1, ↓n_hid, q0, q1, q2, q3, q4, q5, q6, q7, q8, q9, q10, q11, q12, q13, q14, q15, q16, q17, q18, q19, q20, q21, q22, q23, q24, q25, q26, q27, q28, q29, q30, q31, q32, q33, q34, q35, q36, q37, q38, q39, q40, q41, q42, q43, q44, q45, q46, q47, q48, q49, q50, q51, q52, q53, q54, q55, q56, q57, q58, q59, q61, q62, q63, q64, q66, q67, q68, q69, q70, q71, q91, q93, q99, q100, q102, q104, q107, q108, q112, q114, q115, q119, q121, q124, q160, q200, q255, q640, q999, q1000, q2000, q4096, n_of, nI_ltI, nI_leI, nI_eq, nI_clamp, nI_add, pk_mul, n_sub, m1_eq, m1_eq2, m1_lt, m1_lt2, gdN, Nat.not_lt_zero, false_or, if_true, if_false, if_pos, if_neg, cond_true, cond_false, beq_self, and_self, true_and, and_true, not_true_eq_false, not_false_eq_true, ne_eq]
        rw [c_at (d := d + 47) (show (shp 35).1 = 20 from rfl) (show (n - 1) * 5 + i < 200 by omega), c_put (d := d + 47) (show (shp 34).1 = 20 from rfl) (by decide) (show i < 5 by omega), show (n - 1) * 5 + i = 5 * (n - 1) + i by omega, hf 35 (by simp)]
        refine ih (i + 1) _ (by omega) (frm_t hf (frm_u (by simp))) (by rw [up_ce (by decide)]; exact e2) (by rw [up_ce (by decide)]; exact e4) fun k hk => ?_
        by_cases e : k = i
        · rw [e, up_at]
        · rw [up_pl e]; exact e34 k (by omega)
    refine lc (fun u fu e2 e4 e34 => ?_) 5 0 _ rfl (frm_u (by simp)) up_at (by rw [up_pl (by decide)]) (fun k hk => by omega)
    rw [if_neg (by decide), e_W_actCount, e2]
    have lm : ∀ {K : Int32 → Mem → Prop}, (∀ v, frN [68] [0, 35] u v → v 57 35 = nI (n - 1) → (∀ k, k < 5 → v 68 k = u 70 (5 * (n - 1) + k)) → K (nI (n - 1)) v) → ∀ (q i : Nat) (t : Mem), i + q = 5 → frN [68] [0, 35] u t → t 57 35 = nI (n - 1) → (∀ k, k < i → t 68 k = u 70 (5 * (n - 1) + k)) → RnI (d + 49) m_M_undo K 26 [.ref 57, .int (nI i)] [] t := by
      intro K hK q
      induction q with
      | zero =>
        intro i t hi hf e2 e34
        obtain rfl : i = 5 := by omega
        rw [r_M_undo_26, if_neg (by decide), e2]
        exact hK t hf e2 e34
      | succ q ih =>
        intro i t hi hf e2 e34
        rw [r_M_undo_26, e2]
        simp (disch := omega) only [↓n_m1, ↓n_hid, q0, q1, q2, q3, q4, q5, q6, q7, q8, q9, q10, q11, q12, q13, q14, q15, q16, q17, q18, q19, q20, q21, q22, q23, q24, q25, q26, q27, q28, q29, q30, q31, q32, q33, q34, q35, q36, q37, q38, q39, q40, q41, q42, q43, q44, q45, q46, q47, q48, q49, q50, q51, q52, q53, q54, q55, q56, q57, q58, q59, q61, q62, q63, q64, q66, q67, q68, q69, q70, q71, q91, q93, q99, q100, q102, q104, q107, q108, q112, q114, q115, q119, q121, q124, q160, q200, q255, q640, q999, q1000, q2000, q4096, n_of, nI_ltI, nI_leI, nI_eq, nI_clamp, nI_add, pk_mul, n_sub, m1_eq, m1_eq2, m1_lt, m1_lt2, gdN, Nat.not_lt_zero, false_or, if_true, if_false, if_pos, if_neg, cond_true, cond_false, beq_self, and_self, true_and, and_true, not_true_eq_false, not_false_eq_true, ne_eq]
        rw [hf.1 70 (by decide) (by decide)]
        refine ih (i + 1) _ (by omega) (frN_t hf (frN_u (by simp) (by decide))) (by rw [up_ce (by decide)]; exact e2) fun k hk => ?_
        by_cases e : k = i
        · rw [e, up_at]
        · rw [up_pl e]; exact e34 k (by omega)
    have u57 : u 57 35 = nI n := by rw [fu 57 (by simp)]; exact h57
    rw [e_M_undo, u57, if_neg (show ¬ nI n = 0 by rw [q0, nI_eq (by omega) (by omega)]; exact h0), em]
    refine lm (fun v fv e57 e68 => ?_) 5 0 _ rfl (frN_t (frN_v (by simp)) (frN_v (by simp))) up_at (fun k hk => by omega)
    have fr : frN [33, 34, 35, 68, 70] [0, 35] s v := frN_t (frN_w (frN_f (J := []) fu (by simp)) (by simp) (by simp)) (frN_w fv (by simp) (by simp))
    refine hK _ _ (REL_acts h fr (n := n - 1) (B := fun i k => s 35 (5 * i + k)) (nw := fun k => s 35 (5 * (n - 1) + k)) (by omega) ?_ ?_ (fun i k hi hk => ?_) e57 (fun i k hi hk => ?_) (fun k hk => ?_) (fun k hk => ?_) (fun i hi => (hB i (by omega)).1) (hB (n - 1) (by omega)).1)
    · rw [fv.1 33 (by decide) (by decide)]; exact e2
    · rw [fv.1 33 (by decide) (by decide)]; exact e4
    · rw [fv.1 35 (by decide) (by decide), fu 35 (by simp)]
    · rw [fv.1 70 (by decide) (by decide), fu 70 (by simp)]; exact (hB i (by omega)).2 k hk
    · rw [fv.1 34 (by decide) (by decide)]; exact e34 k hk
    · rw [e68 k hk, fu 70 (by simp)]; exact (hB (n - 1) (by omega)).2 k hk
theorem cp5 {u : Mem} {a b k : Nat} (hk : k < 5) : (cpM u a 0 b 0 5) b k = u a k := by
  unfold cpM
  rw [if_pos rfl, if_pos (by omega)]
  congr 1
  omega
theorem L_image {K : Int32 → Int32 → Mem → Prop} (h : REL c g s) (hK : ∀ v s', REL c g s' → K v v s') :
    wI (wp (d + 50)) m_X_image [.ref 0] s (fun v s1 => wI (wp (d + 50)) m_M_image [.ref 57] s1 (fun v' s2 => K v v' s2)) := by
  have hcc := rl_isC h
  have ht := REL_thr h (x := nI 0)
  rw [e_X_image, rl_ref h, cref hcc, crefc hcc, r_there (d := d + 48) h, ifb]
  by_cases hR : 0 < gR g
  · rw [decide_eq_true hR, if_pos rfl, e_W_keepImage, show (2 : Int32) = nI 2 from rfl, c_now (d := d + 47) (by omega)]
    have f1 : frm [33, 36] s (upM (cpM s 34 0 36 0 5) 33 4 1) := frm_t (frm_c (by simp)) (frm_u (by simp))
    generalize hu : upM (cpM s 34 0 36 0 5) 33 4 1 = u at f1
    have u36 : ∀ k, k < 5 → u 36 k = s 34 k := fun k hk => by rw [← hu, up_ce (by decide), cp5 hk]
    have u334 : u 33 4 = nI 1 := by rw [← hu, up_at]; rfl
    have u332 : u 33 2 = s 33 2 := by rw [← hu, up_pl (by decide)]; unfold cpM; rw [if_neg (by decide)]
    rw [e_M_image, if_neg (show ¬ u 57 24 = 0 by rw [f1 57 (by simp)]; exact fun z => (r_r0 h).mp z hR)]
    have lm : ∀ {K : Int32 → Mem → Prop}, (∀ v, frN [87] [0, 57] u v → v 57 57 = nI 1 → (∀ k, k < 5 → v 87 k = u 68 k) → K (u 68 2) v) → ∀ (q i : Nat) (t : Mem), i + q = 5 → frN [87] [0] u t → (∀ k, k < i → t 87 k = u 68 k) → RnI (d + 49) m_M_image K 16 [.ref 57, .int (nI i)] [] t := by
      intro K hK q
      induction q with
      | zero =>
        intro i t hi hf e87
        obtain rfl : i = 5 := by omega
        rw [r_M_image_16, if_neg (by decide), hf.1 68 (by decide) (by decide)]
        refine hK _ (frN_t (frN_w hf (by simp) (by simp)) (frN_v (by simp))) (by rw [up_at]; rfl) fun k hk => ?_
        rw [up_ce (by decide)]; exact e87 k hk
      | succ q ih =>
        intro i t hi hf e87
        rw [r_M_image_16]
        simp (disch := omega) only [↓n_m1, ↓n_hid, q0, q1, q2, q3, q4, q5, q6, q7, q8, q9, q10, q11, q12, q13, q14, q15, q16, q17, q18, q19, q20, q21, q22, q23, q24, q25, q26, q27, q28, q29, q30, q31, q32, q33, q34, q35, q36, q37, q38, q39, q40, q41, q42, q43, q44, q45, q46, q47, q48, q49, q50, q51, q52, q53, q54, q55, q56, q57, q58, q59, q61, q62, q63, q64, q66, q67, q68, q69, q70, q71, q91, q93, q99, q100, q102, q104, q107, q108, q112, q114, q115, q119, q121, q124, q160, q200, q255, q640, q999, q1000, q2000, q4096, n_of, nI_ltI, nI_leI, nI_eq, nI_clamp, nI_add, pk_mul, n_sub, m1_eq, m1_eq2, m1_lt, m1_lt2, gdN, Nat.not_lt_zero, false_or, if_true, if_false, if_pos, if_neg, cond_true, cond_false, beq_self, and_self, true_and, and_true, not_true_eq_false, not_false_eq_true, ne_eq]
        rw [hf.1 68 (by decide) (by decide)]
        refine ih (i + 1) _ (by omega) (frN_t hf (frN_u (by simp) (by decide))) fun k hk => ?_
        by_cases e : k = i
        · rw [e, up_at]
        · rw [up_pl e]; exact e87 k (by omega)
    refine lm (fun v fv e57 e87 => ?_) 5 0 _ rfl (frN_v (by simp)) (fun k hk => by omega)
    have e68 : u 68 = s 68 := f1 68 (by simp)
    have e34 : u 34 = s 34 := f1 34 (by simp)
    rw [e34, e68, (rl_now h).2 2 (by decide)]
    have fr : frN [33, 34, 35, 36, 68, 70, 87] [0, 35, 57] s v := frN_t (frN_w (frN_f (J := []) f1 (by simp)) (by simp) (by simp)) (frN_w fv (by simp) (by simp))
    refine hK _ _ (REL_W h fr ?_ ?_ ⟨true, ?_, e57, fun _ => ⟨V5_e (rl_now h).1 fun k hk => ?_, fun k hk => ?_⟩⟩)
    · refine NowR_n (rl_now h) (L := [33, 36, 87]) (J := [0, 57]) (frN_t (frN_w (frN_f (J := []) f1 (by simp)) (by simp) (by simp)) (frN_w fv (by simp) (by simp))) (by decide)
    · obtain ⟨n, hn, h33, h57, hB⟩ := rl_act h
      refine ⟨n, hn, by rw [fv.1 33 (by decide) (by decide), u332]; exact h33, by rw [fv.2 35 (by decide), f1 57 (by simp)]; exact h57, ?_⟩
      rw [fv.1 35 (by decide) (by decide), f1 35 (by simp), fv.1 70 (by decide) (by decide), f1 70 (by simp)]
      exact hB
    · rw [fv.1 33 (by decide) (by decide)]; exact u334
    · rw [fv.1 36 (by decide) (by decide)]; exact u36 k hk
    · rw [e87 k hk, e68, fv.1 36 (by decide) (by decide), u36 k hk]; exact (rl_now h).2 k hk
  · rw [decide_eq_false hR, if_neg (by decide), e_M_image, if_pos (show s 57 24 = 0 from (r_r0 h).mpr hR)]
    exact hK _ _ ht
theorem L_back {K : Int32 → Int32 → Mem → Prop} (h : REL c g s) (hK : ∀ v s', REL c g s' → K v v s') :
    wI (wp (d + 50)) m_X_back [.ref 0] s (fun v s1 => wI (wp (d + 50)) m_M_back [.ref 57] s1 (fun v' s2 => K v v' s2)) := by
  have ht := REL_thr h (x := nI 0)
  obtain ⟨b, i1, i2, i3⟩ := rl_img h
  rw [e_X_back, e_W_useImage, i1]
  cases b with
  | false =>
    rw [if_pos (show b01 false = 0 from rfl), if_pos rfl, e_M_back, if_pos (show s 57 57 = 0 from i2)]
    exact hK _ _ ht
  | true =>
    obtain ⟨hV, h87⟩ := i3 rfl
    rw [if_neg (show ¬ b01 true = 0 by decide), if_neg (by decide), show (2 : Int32) = nI 2 from rfl, c_now (d := d + 47) (by omega)]
    have f1 : frm [33, 34] s (upM (cpM s 36 0 34 0 5) 33 2 0) := frm_t (frm_c (by simp)) (frm_u (by simp))
    generalize hu : upM (cpM s 36 0 34 0 5) 33 2 0 = u at f1
    have u34 : ∀ k, k < 5 → u 34 k = s 36 k := fun k hk => by rw [← hu, up_ce (by decide), cp5 hk]
    have u332 : u 33 2 = nI 0 := by rw [← hu, up_at]; rfl
    have u334 : u 33 4 = s 33 4 := by rw [← hu, up_pl (by decide)]; unfold cpM; rw [if_neg (by decide)]
    rw [e_M_back, if_neg (show ¬ u 57 57 = 0 by rw [f1 57 (by simp), i2]; decide)]
    have lm : ∀ {K : Int32 → Mem → Prop}, (∀ v, frN [68] [0, 35] u v → v 57 35 = nI 0 → (∀ k, k < 5 → v 68 k = u 87 k) → K (u 87 2) v) → ∀ (q i : Nat) (t : Mem), i + q = 5 → frN [68] [0] u t → (∀ k, k < i → t 68 k = u 87 k) → RnI (d + 49) m_M_back K 16 [.ref 57, .int (nI i)] [] t := by
      intro K hK q
      induction q with
      | zero =>
        intro i t hi hf e68
        obtain rfl : i = 5 := by omega
        rw [r_M_back_16, if_neg (by decide), e68 2 (by decide)]
        refine hK _ (frN_t (frN_w hf (by simp) (by simp)) (frN_v (by simp))) (by rw [up_at]; rfl) fun k hk => ?_
        rw [up_ce (by decide)]; exact e68 k hk
      | succ q ih =>
        intro i t hi hf e68
        rw [r_M_back_16]
        simp (disch := omega) only [↓n_m1, ↓n_hid, q0, q1, q2, q3, q4, q5, q6, q7, q8, q9, q10, q11, q12, q13, q14, q15, q16, q17, q18, q19, q20, q21, q22, q23, q24, q25, q26, q27, q28, q29, q30, q31, q32, q33, q34, q35, q36, q37, q38, q39, q40, q41, q42, q43, q44, q45, q46, q47, q48, q49, q50, q51, q52, q53, q54, q55, q56, q57, q58, q59, q61, q62, q63, q64, q66, q67, q68, q69, q70, q71, q91, q93, q99, q100, q102, q104, q107, q108, q112, q114, q115, q119, q121, q124, q160, q200, q255, q640, q999, q1000, q2000, q4096, n_of, nI_ltI, nI_leI, nI_eq, nI_clamp, nI_add, pk_mul, n_sub, m1_eq, m1_eq2, m1_lt, m1_lt2, gdN, Nat.not_lt_zero, false_or, if_true, if_false, if_pos, if_neg, cond_true, cond_false, beq_self, and_self, true_and, and_true, not_true_eq_false, not_false_eq_true, ne_eq]
        rw [hf.1 87 (by decide) (by decide)]
        refine ih (i + 1) _ (by omega) (frN_t hf (frN_u (by simp) (by decide))) fun k hk => ?_
        by_cases e : k = i
        · rw [e, up_at]
        · rw [up_pl e]; exact e68 k (by omega)
    refine lm (fun v fv e57 e68 => ?_) 5 0 _ rfl (frN_v (by simp)) (fun k hk => by omega)
    have e87 : u 87 = s 87 := f1 87 (by simp)
    rw [u34 2 (by decide), e87, h87 2 (by decide)]
    have fr : frN [33, 34, 35, 68, 70] [0, 35] s v := frN_t (frN_w (frN_f (J := []) f1 (by simp)) (by simp) (by simp)) (frN_w fv (by simp) (by simp))
    refine hK _ _ (REL_acts h fr (n := 0) (B := fun _ _ => nI 0) (nw := fun k => s 36 k) (by omega) ?_ ?_ (fun i k hi hk => by omega) e57 (fun i k hi hk => by omega) (fun k hk => ?_) (fun k hk => ?_) (fun i hi => by omega) hV)
    · rw [fv.1 33 (by decide) (by decide)]; exact u332
    · rw [fv.1 33 (by decide) (by decide)]; exact u334
    · rw [fv.1 34 (by decide) (by decide)]; exact u34 k hk
    · rw [e68 k hk, e87]; exact h87 k hk
end
