section
variable {d c : Nat} {g : Gph} {W : Wth} {P : Mem → Prop} {lv : Value} {Ll : List Nat} {h : Nat} {rn : Bool} {w dl : Nat}
theorem tb_bit5 (f : Nat → Bool) {q : Nat} : tb (bits f 5) q = (decide (q < 5) && f q) := tb_bits (by decide)
theorem c_kindsAt_l {K : Int32 → Mem → Prop} (hg : gOk g) {s : Mem} {ex : Option (Nat × Nat)} (hA : AirC g W h rn w dl ex s) (hdl : dl ≤ 50) {o : Int32} (ho : tb o 6 = ex.isSome) {k : Nat} (hk : k < gN g) (hex : ∀ p kd, ex = some (p, kd) → kd ≤ 4) : ∀ (n i : Nat) (x : Int32), i + n = 6 →
    (∀ q, tb x q = (decide (q < 5) && smd dl (smS g W h rn w o k q (min i (gS g))))) →
    RnI (d + 3) m_A_kindsAt K 5 [.ref 37, .int (nI k), .int o, .int x, .int (nI i)] [] s = K (brI g W h rn w dl o ex k) s := by
  have h20 := gN_le hg
  have h6 := hg.2.2.1
  intro n
  induction n with
  | zero =>
    intro i x hi hx
    obtain rfl : i = 6 := by omega
    rw [Nat.min_eq_right h6] at hx
    rw [r_A_kindsAt_5, c_isAmong (show 6 < 32 by omega), hA.2.2.1 6 (by omega), ho]
    simp (disch := omega) only [↓n_m1, ↓n_hid, q0, q1, q2, q3, q4, q5, q6, q7, q8, q9, q10, q11, q12, q13, q14, q15, q16, q17, q18, q19, q20, q21, q22, q23, q24, q25, q26, q27, q28, q29, q30, q31, q32, q33, q34, q35, q36, q37, q38, q39, q40, q41, q42, q43, q44, q45, q46, q47, q48, q49, q50, q51, q52, q53, q54, q55, q56, q57, q58, q59, q61, q62, q63, q64, q66, q67, q68, q69, q70, q71, q91, q93, q99, q100, q102, q104, q107, q108, q112, q114, q115, q119, q121, q124, q160, q200, q255, q640, q999, q1000, q2000, q4096, n_of, nI_ltI, nI_leI, nI_eq, nI_clamp, nI_add, pk_mul, n_sub, m1_eq, m1_eq2, m1_lt, m1_lt2, gdN, Nat.not_lt_zero, false_or, if_true, if_false, if_pos, if_neg, cond_true, cond_false, beq_self, and_self, true_and, and_true, not_true_eq_false, not_false_eq_true, ne_eq, b01_0]
    have out : ∀ x : Int32, RnI (d + 3) m_A_kindsAt K 5 [.ref 37, .int (nI k), .int o, .int x, .int (nI (6 + 1))] [] s = K x s := by
      intro x
      rw [r_A_kindsAt_5]
      simp (disch := omega) only [↓n_m1, ↓n_hid, q0, q1, q2, q3, q4, q5, q6, q7, q8, q9, q10, q11, q12, q13, q14, q15, q16, q17, q18, q19, q20, q21, q22, q23, q24, q25, q26, q27, q28, q29, q30, q31, q32, q33, q34, q35, q36, q37, q38, q39, q40, q41, q42, q43, q44, q45, q46, q47, q48, q49, q50, q51, q52, q53, q54, q55, q56, q57, q58, q59, q61, q62, q63, q64, q66, q67, q68, q69, q70, q71, q91, q93, q99, q100, q102, q104, q107, q108, q112, q114, q115, q119, q121, q124, q160, q200, q255, q640, q999, q1000, q2000, q4096, n_of, nI_ltI, nI_leI, nI_eq, nI_clamp, nI_add, pk_mul, n_sub, m1_eq, m1_eq2, m1_lt, m1_lt2, gdN, Nat.not_lt_zero, false_or, if_true, if_false, if_pos, if_neg, cond_true, cond_false, beq_self, and_self, true_and, and_true, not_true_eq_false, not_false_eq_true, ne_eq]
    cases ex with
    | none =>
      have e : x = brI g W h rn w dl o none k := tb_ext fun q _ => by
        rw [hx q]; unfold brI; rw [tb_bit5]; rfl
      simp [out, e]
    | some e =>
      obtain ⟨p, kd⟩ := e
      have h7 := hA.2.2.2.2.2 p kd rfl
      have hkd := hex p kd rfl
      have hv := vN_le (g := g) (W := W) (h := h) (rn := rn) (w := w) (a := p) (pw := 5) (kd := kd) (k := k)
      simp only [Option.isSome_some, decide_true, Bool.or_true, Bool.and_self, Bool.true_eq_false, if_false]
      rw [c_whiffAt (by omega) (by omega), h7.2 k hk, c_isSmelled hv hA.2.1 hdl]
      simp (disch := omega) only [↓n_m1, ↓n_hid, q0, q1, q2, q3, q4, q5, q6, q7, q8, q9, q10, q11, q12, q13, q14, q15, q16, q17, q18, q19, q20, q21, q22, q23, q24, q25, q26, q27, q28, q29, q30, q31, q32, q33, q34, q35, q36, q37, q38, q39, q40, q41, q42, q43, q44, q45, q46, q47, q48, q49, q50, q51, q52, q53, q54, q55, q56, q57, q58, q59, q61, q62, q63, q64, q66, q67, q68, q69, q70, q71, q91, q93, q99, q100, q102, q104, q107, q108, q112, q114, q115, q119, q121, q124, q160, q200, q255, q640, q999, q1000, q2000, q4096, n_of, nI_ltI, nI_leI, nI_eq, nI_clamp, nI_add, pk_mul, n_sub, m1_eq, m1_eq2, m1_lt, m1_lt2, gdN, Nat.not_lt_zero, false_or, if_true, if_false, if_pos, if_neg, cond_true, cond_false, beq_self, and_self, true_and, and_true, not_true_eq_false, not_false_eq_true, ne_eq, b01_0]
      rw [c_at (show (shp 38).1 = 20 from rfl) (show 6 < (shp 38).2 by decide), h7.1]
      simp (disch := omega) only [↓n_m1, ↓n_hid, q0, q1, q2, q3, q4, q5, q6, q7, q8, q9, q10, q11, q12, q13, q14, q15, q16, q17, q18, q19, q20, q21, q22, q23, q24, q25, q26, q27, q28, q29, q30, q31, q32, q33, q34, q35, q36, q37, q38, q39, q40, q41, q42, q43, q44, q45, q46, q47, q48, q49, q50, q51, q52, q53, q54, q55, q56, q57, q58, q59, q61, q62, q63, q64, q66, q67, q68, q69, q70, q71, q91, q93, q99, q100, q102, q104, q107, q108, q112, q114, q115, q119, q121, q124, q160, q200, q255, q640, q999, q1000, q2000, q4096, n_of, nI_ltI, nI_leI, nI_eq, nI_clamp, nI_add, pk_mul, n_sub, m1_eq, m1_eq2, m1_lt, m1_lt2, gdN, Nat.not_lt_zero, false_or, if_true, if_false, if_pos, if_neg, cond_true, cond_false, beq_self, and_self, true_and, and_true, not_true_eq_false, not_false_eq_true, ne_eq, bit_e, out]
      have e : (if smd dl (vN g W h rn w p 5 kd k) = true then x ||| bit kd else x) = brI g W h rn w dl o (some (p, kd)) k := tb_ext fun q _ => by
        unfold brI
        rw [tb_bit5]
        show _ = (decide (q < 5) && smd dl (if kd = q then _ else _))
        by_cases e : kd = q
        · simp only [e, if_true]
          rw [← e, smd_max, e]
          cases hs : smd dl (vN g W h rn w p 5 q k)
          · simp [hx q]
          · simp [tb_or, hx q, tb_bit (show q < 32 by omega), show q < 5 by omega]
        · simp only [e, if_false]
          rw [← hx q]
          cases hs : smd dl (vN g W h rn w p 5 kd k)
          · simp
          · simp [tb_or, tb_bit (show kd < 32 by omega), e]
      rw [← e]
      cases smd dl (vN g W h rn w p 5 kd k) <;> simp
  | succ n ih =>
    intro i x hi hx
    rw [r_A_kindsAt_5, c_isAmong (show i < 32 by omega), hA.2.2.1 i (by omega), decide_eq_false (show ¬ i = 6 by omega), Bool.or_false]
    simp (disch := omega) only [↓n_m1, ↓n_hid, q0, q1, q2, q3, q4, q5, q6, q7, q8, q9, q10, q11, q12, q13, q14, q15, q16, q17, q18, q19, q20, q21, q22, q23, q24, q25, q26, q27, q28, q29, q30, q31, q32, q33, q34, q35, q36, q37, q38, q39, q40, q41, q42, q43, q44, q45, q46, q47, q48, q49, q50, q51, q52, q53, q54, q55, q56, q57, q58, q59, q61, q62, q63, q64, q66, q67, q68, q69, q70, q71, q91, q93, q99, q100, q102, q104, q107, q108, q112, q114, q115, q119, q121, q124, q160, q200, q255, q640, q999, q1000, q2000, q4096, n_of, nI_ltI, nI_leI, nI_eq, nI_clamp, nI_add, pk_mul, n_sub, m1_eq, m1_eq2, m1_lt, m1_lt2, gdN, Nat.not_lt_zero, false_or, if_true, if_false, if_pos, if_neg, cond_true, cond_false, beq_self, and_self, true_and, and_true, not_true_eq_false, not_false_eq_true, ne_eq, b01_0]
    by_cases hS : i < gS g
    · have hmin : min i (gS g) = i := Nat.min_eq_left (by omega)
      have hmin2 : min (i + 1) (gS g) = i + 1 := Nat.min_eq_left (by omega)
      have hv := vN_le (g := g) (W := W) (h := h) (rn := rn) (w := w) (a := gsp g i) (pw := git g i 5) (kd := git g i 0) (k := k)
      have hit := (hg.2.2.2.2.2 i hS).1
      rw [hmin] at hx
      have stay : (tb o i && tml g h i) = false → RnI (d + 3) m_A_kindsAt K 5 [.ref 37, .int (nI k), .int o, .int x, .int (nI (i + 1))] [] s = K (brI g W h rn w dl o ex k) s := by
        intro e
        refine ih (i + 1) x (by omega) fun q => ?_
        rw [hmin2, smS_S]
        unfold smF
        rw [← Bool.and_assoc, e, Bool.false_and, if_neg (by simp), hx q]
      rw [decide_eq_true hS, Bool.true_and]
      cases ho : tb o i && tml g h i with
      | false => simp only [if_true]; exact stay ho
      | true =>
        obtain ⟨ho1, ho2⟩ := Bool.and_eq_true_iff.mp ho
        simp only [Bool.true_eq_false, if_false]
        rw [c_whiffAt (by omega) (by omega), hA.2.2.2.2.1 i hS ho2 k hk, c_isSmelled hv hA.2.1 hdl]
        simp (disch := omega) only [↓n_m1, ↓n_hid, q0, q1, q2, q3, q4, q5, q6, q7, q8, q9, q10, q11, q12, q13, q14, q15, q16, q17, q18, q19, q20, q21, q22, q23, q24, q25, q26, q27, q28, q29, q30, q31, q32, q33, q34, q35, q36, q37, q38, q39, q40, q41, q42, q43, q44, q45, q46, q47, q48, q49, q50, q51, q52, q53, q54, q55, q56, q57, q58, q59, q61, q62, q63, q64, q66, q67, q68, q69, q70, q71, q91, q93, q99, q100, q102, q104, q107, q108, q112, q114, q115, q119, q121, q124, q160, q200, q255, q640, q999, q1000, q2000, q4096, n_of, nI_ltI, nI_leI, nI_eq, nI_clamp, nI_add, pk_mul, n_sub, m1_eq, m1_eq2, m1_lt, m1_lt2, gdN, Nat.not_lt_zero, false_or, if_true, if_false, if_pos, if_neg, cond_true, cond_false, beq_self, and_self, true_and, and_true, not_true_eq_false, not_false_eq_true, ne_eq, b01_0]
        rw [c_at (show (shp 38).1 = 20 from rfl) (show i < (shp 38).2 by show _ < 7; omega), hA.2.2.2.1 i hS]
        simp (disch := omega) only [↓n_m1, ↓n_hid, q0, q1, q2, q3, q4, q5, q6, q7, q8, q9, q10, q11, q12, q13, q14, q15, q16, q17, q18, q19, q20, q21, q22, q23, q24, q25, q26, q27, q28, q29, q30, q31, q32, q33, q34, q35, q36, q37, q38, q39, q40, q41, q42, q43, q44, q45, q46, q47, q48, q49, q50, q51, q52, q53, q54, q55, q56, q57, q58, q59, q61, q62, q63, q64, q66, q67, q68, q69, q70, q71, q91, q93, q99, q100, q102, q104, q107, q108, q112, q114, q115, q119, q121, q124, q160, q200, q255, q640, q999, q1000, q2000, q4096, n_of, nI_ltI, nI_leI, nI_eq, nI_clamp, nI_add, pk_mul, n_sub, m1_eq, m1_eq2, m1_lt, m1_lt2, gdN, Nat.not_lt_zero, false_or, if_true, if_false, if_pos, if_neg, cond_true, cond_false, beq_self, and_self, true_and, and_true, not_true_eq_false, not_false_eq_true, ne_eq, bit_e]
        have nx : ∀ q, smd dl (smS g W h rn w o k q (i + 1)) = (smd dl (smS g W h rn w o k q i) || (decide (git g i 0 = q) && smd dl (vN g W h rn w (gsp g i) (git g i 5) (git g i 0) k))) := by
          intro q
          rw [smS_S]
          unfold smF
          rw [← Bool.and_assoc, ho, Bool.true_and]
          by_cases e : git g i 0 = q
          · rw [decide_eq_true e, if_pos rfl, smd_max, Bool.true_and]
          · rw [decide_eq_false e, if_neg (by simp), Bool.false_and, Bool.or_false]
        cases hs : smd dl (vN g W h rn w (gsp g i) (git g i 5) (git g i 0) k) with
        | false =>
          simp only [if_true]
          refine ih (i + 1) x (by omega) fun q => ?_
          rw [hmin2, nx q, hs, Bool.and_false, Bool.or_false, hx q]
        | true =>
          simp only [Bool.true_eq_false, if_false]
          refine ih (i + 1) _ (by omega) fun q => ?_
          rw [hmin2, nx q, hs, Bool.and_true, tb_or, tb_bit (by omega), hx q]
          by_cases e : git g i 0 = q
          · simp [e, show q < 5 by omega]
          · simp [e]
    · have hmin : min i (gS g) = gS g := Nat.min_eq_right (by omega)
      have hmin2 : min (i + 1) (gS g) = gS g := Nat.min_eq_right (by omega)
      rw [hmin] at hx
      rw [decide_eq_false hS, Bool.false_and, Bool.and_false]
      simp only [if_true]
      refine ih (i + 1) x (by omega) fun q => ?_
      rw [hmin2, hx q]
theorem c_kindsAt {K : Int32 → Mem → Prop} (hg : gOk g) {s : Mem} {ex : Option (Nat × Nat)} (hA : AirC g W h rn w dl ex s) (hdl : dl ≤ 50) {o : Int32} (ho : tb o 6 = ex.isSome) {k : Nat} (hk : k < gN g) (hex : ∀ p kd, ex = some (p, kd) → kd ≤ 4) :
    wI (wp (d + 4)) m_A_kindsAt [.ref 37, .int (nI k), .int o] s K = K (brI g W h rn w dl o ex k) s := by
  rw [e_A_kindsAt, q0]
  refine c_kindsAt_l hg hA hdl ho hk hex 6 0 _ rfl fun q => ?_
  rw [tb_0, Nat.zero_min]
  show _ = (_ && smd dl 0)
  rw [smd_0, Bool.and_false]
theorem AirC_f {L : List Nat} {s t : Mem} {ex : Option (Nat × Nat)} (h37 : 37 ∉ L) (h38 : 38 ∉ L) (h39 : 39 ∉ L) (hf : frm L s t) (hA : AirC g W h rn w dl ex s) : AirC g W h rn w dl ex t := by
  unfold AirC AirF at *
  rw [hf 37 h37, hf 38 h38, hf 39 h39]
  exact hA
theorem smS_ns (hg : gOk g) {o : Int32} {k : Nat} (hst : gst g k = false) {q : Nat} : ∀ n, n ≤ gS g → smS g W h rn w o k q n = 0
  | 0, _ => rfl
  | n + 1, hn => by
    have hi := hg.2.2.2.2.2 n (by omega)
    have hv : vN g W h rn w (gsp g n) (git g n 5) (git g n 0) k = 0 := if_pos (far_ns (gsp_lt hg (by omega)) hi.2.2.2.2.2.2 hst)
    rw [smS_S, smS_ns hg hst n (by omega)]
    unfold smF
    rw [hv]
    simp
theorem smN_ns (hg : gOk g) {o : Int32} {ex : Option (Nat × Nat)} (hex : ∀ p kd, ex = some (p, kd) → p < gN g ∧ gst g p = true) {k : Nat} (hst : gst g k = false) {q : Nat} : smN g W h rn w o ex k q = 0 := by
  unfold smN
  rw [smS_ns hg hst (gS g) (Nat.le_refl _)]
  split
  · rfl
  · rename_i p kd
    have hv : vN g W h rn w p 5 kd k = 0 := if_pos (far_ns (hex p kd rfl).1 (hex p kd rfl).2 hst)
    rw [hv]
    simp
theorem bits_0 {n : Nat} (hn : n ≤ 32) : bits (fun _ => false) n = nI 0 := tb_ext fun k _ => by rw [tb_bits hn, tb_0, Bool.and_false]
theorem brI_ns (hg : gOk g) {o : Int32} {ex : Option (Nat × Nat)} (hex : ∀ p kd, ex = some (p, kd) → p < gN g ∧ gst g p = true) {k : Nat} (hst : gst g k = false) : brI g W h rn w dl o ex k = nI 0 := by
  unfold brI
  rw [← bits_0 (show 5 ≤ 32 by decide)]
  refine bits_eq fun q _ => ?_
  rw [smN_ns hg hex hst, smd_0]
theorem c_breathe {K : Mem → Prop} (hcc : isC c) (hg : gOk g) {s : Mem} (hc : CityC c g s) {ex : Option (Nat × Nat)} (hA : AirC g W h rn w dl ex s) (hdl : dl ≤ 50) {o : Int32} (ho : tb o 6 = ex.isSome) (hex : ∀ p kd, ex = some (p, kd) → kd ≤ 4) (hex2 : ∀ p kd, ex = some (p, kd) → p < gN g ∧ gst g p = true)
    (hK : ∀ s', frm [40] s s' → (∀ k, k < gN g → s' 40 k = brI g W h rn w dl o ex k) → K s') : wV (wp (d + 6)) m_A_breathe [.ref 37, .ref c, .int o] s K := by
  have h20 := gN_le hg
  have hL := C_le hcc
  have lp : ∀ (n i : Nat) (t : Mem), i + n = gN g → frm [40] s t → (∀ k, k < i → t 40 k = brI g W h rn w dl o ex k) → RnV (d + 5) m_A_breathe K 2 [.ref 37, .ref c, .int o, .int (nI i)] [] t := by
    intro n
    induction n with
    | zero =>
      intro i t hi hf ht
      obtain rfl : i = gN g := by omega
      rw [r_A_breathe_2, c_cells hcc (CityC_f (by simp; omega) (by simp; omega) (by simp; omega) hf hc)]
      simp (disch := omega) only [↓n_m1, ↓n_hid, q0, q1, q2, q3, q4, q5, q6, q7, q8, q9, q10, q11, q12, q13, q14, q15, q16, q17, q18, q19, q20, q21, q22, q23, q24, q25, q26, q27, q28, q29, q30, q31, q32, q33, q34, q35, q36, q37, q38, q39, q40, q41, q42, q43, q44, q45, q46, q47, q48, q49, q50, q51, q52, q53, q54, q55, q56, q57, q58, q59, q61, q62, q63, q64, q66, q67, q68, q69, q70, q71, q91, q93, q99, q100, q102, q104, q107, q108, q112, q114, q115, q119, q121, q124, q160, q200, q255, q640, q999, q1000, q2000, q4096, n_of, nI_ltI, nI_leI, nI_eq, nI_clamp, nI_add, pk_mul, n_sub, m1_eq, m1_eq2, m1_lt, m1_lt2, gdN, Nat.not_lt_zero, false_or, if_true, if_false, if_pos, if_neg, cond_true, cond_false, beq_self, and_self, true_and, and_true, not_true_eq_false, not_false_eq_true, ne_eq, C_b hcc]
      exact hK t hf ht
    | succ n ih =>
      intro i t hi hf ht
      have hct : CityC c g t := CityC_f (by simp; omega) (by simp; omega) (by simp; omega) hf hc
      have nx : ∀ y, y = brI g W h rn w dl o ex i → RnV (d + 5) m_A_breathe K 2 [.ref 37, .ref c, .int o, .int (nI (i + 1))] [] (upM t 40 i y) := by
        intro y hy
        refine ih (i + 1) _ (by omega) (frm_t hf (frm_u (by simp))) fun k hk => ?_
        by_cases e : k = i
        · rw [e, up_at, hy]
        · rw [up_pl e, ht k (by omega)]
      rw [r_A_breathe_2, c_cells hcc hct]
      simp (disch := omega) only [↓n_m1, ↓n_hid, q0, q1, q2, q3, q4, q5, q6, q7, q8, q9, q10, q11, q12, q13, q14, q15, q16, q17, q18, q19, q20, q21, q22, q23, q24, q25, q26, q27, q28, q29, q30, q31, q32, q33, q34, q35, q36, q37, q38, q39, q40, q41, q42, q43, q44, q45, q46, q47, q48, q49, q50, q51, q52, q53, q54, q55, q56, q57, q58, q59, q61, q62, q63, q64, q66, q67, q68, q69, q70, q71, q91, q93, q99, q100, q102, q104, q107, q108, q112, q114, q115, q119, q121, q124, q160, q200, q255, q640, q999, q1000, q2000, q4096, n_of, nI_ltI, nI_leI, nI_eq, nI_clamp, nI_add, pk_mul, n_sub, m1_eq, m1_eq2, m1_lt, m1_lt2, gdN, Nat.not_lt_zero, false_or, if_true, if_false, if_pos, if_neg, cond_true, cond_false, beq_self, and_self, true_and, and_true, not_true_eq_false, not_false_eq_true, ne_eq, C_b hcc]
      rw [c_isStreet hcc hg hct (by omega)]
      simp (disch := omega) only [↓n_m1, ↓n_hid, q0, q1, q2, q3, q4, q5, q6, q7, q8, q9, q10, q11, q12, q13, q14, q15, q16, q17, q18, q19, q20, q21, q22, q23, q24, q25, q26, q27, q28, q29, q30, q31, q32, q33, q34, q35, q36, q37, q38, q39, q40, q41, q42, q43, q44, q45, q46, q47, q48, q49, q50, q51, q52, q53, q54, q55, q56, q57, q58, q59, q61, q62, q63, q64, q66, q67, q68, q69, q70, q71, q91, q93, q99, q100, q102, q104, q107, q108, q112, q114, q115, q119, q121, q124, q160, q200, q255, q640, q999, q1000, q2000, q4096, n_of, nI_ltI, nI_leI, nI_eq, nI_clamp, nI_add, pk_mul, n_sub, m1_eq, m1_eq2, m1_lt, m1_lt2, gdN, Nat.not_lt_zero, false_or, if_true, if_false, if_pos, if_neg, cond_true, cond_false, beq_self, and_self, true_and, and_true, not_true_eq_false, not_false_eq_true, ne_eq, b01_0]
      rw [c_kindsAt hg (AirC_f (by simp) (by simp) (by simp) hf hA) hdl ho (by omega) hex]
      rw [c_put (show (shp 40).1 = 20 from rfl) (show 40 ≤ 999 by decide) (show i < (shp 40).2 by show _ < 20; omega), c_put (show (shp 40).1 = 20 from rfl) (show 40 ≤ 999 by decide) (show i < (shp 40).2 by show _ < 20; omega)]
      cases hst : gst g i with
      | false => simp only [if_true]; exact nx _ (brI_ns hg hex2 hst).symm
      | true => simp only [Bool.true_eq_false, if_false]; exact nx _ rfl
  rw [e_A_breathe, q0]
  exact lp (gN g) 0 s (by omega) frm_r (fun k hk => by omega)
theorem c_now {K : Int32 → Mem → Prop} {s : Mem} {i : Nat} (hi : i < 5) : wI (wp (d + 2)) m_W_now [.ref 33, .int (nI i)] s K = K (s 34 i) s := by
  rw [e_W_now, c_at (show (shp 34).1 = 20 from rfl) (show i < (shp 34).2 from hi)]
theorem tb_64 {k : Nat} : tb (nI 64) k = decide (k = 6) := by
  rw [tb_nI (by decide), show 64 = 2 ^ 6 from rfl, Nat.testBit_two_pow]
  exact decide_eq_decide.mpr ⟨fun z => z.symm, fun z => z.symm⟩
theorem c_blow_l {K : Mem → Prop} (hcc : isC c) (hg : gOk g) (hl : HlC lv Ll W P) (hP : PStay c P) (hh : h < 24) (hw : w < 5) {s0 : Mem} (hA : AirF w h rn s0) (hd : s0 37 3 = nI dl) (ht : ∀ k, k < 32 → tb (s0 37 4) k = ((decide (k < gS g) && tml g h k) || decide (k = 6)))
    (hK : ∀ s', frm ([c + 5, c + 6, 38, 39] ++ Ll) s0 s' → CityF c g s' → P s' → AirC g W h rn w dl none s' → K s') :
    ∀ (n i : Nat) (s : Mem) (v3 v4 : Value), i + n = gS g → frm ([c + 5, c + 6, 38, 39] ++ Ll) s0 s → CityF c g s → P s → (∀ k, k < i → s 38 k = nI (git g k 0)) → (∀ k, k < i → tml g h k = true → ∀ p, p < gN g → s 39 (20 * k + p) = nI (vN g W h rn w (gsp g k) (git g k 5) (git g k 0) p)) →
      RnV (d + 6) m_A_blow K 63 [.ref 37, .ref c, lv, v3, v4, .int (nI i)] [] s := by
  have h20 := gN_le hg
  have h6 := hg.2.2.1
  have hL := C_le hcc
  have hLl := HlC_L hl
  have n37 : 37 ∉ [c + 5, c + 6, 38, 39] ++ Ll := by
    simp only [List.mem_append, List.mem_cons, List.not_mem_nil, or_false, not_or]
    exact ⟨by omega, fun z => by have := hLl 37 z; omega⟩
  have n38 : 38 ∉ [c + 5, c + 6, 39] ++ Ll := by
    simp only [List.mem_append, List.mem_cons, List.not_mem_nil, or_false, not_or]
    exact ⟨by omega, fun z => by have := hLl 38 z; omega⟩
  intro n
  induction n with
  | zero =>
    intro i s v3 v4 hi hf hc hp h1 h2
    obtain rfl : i = gS g := by omega
    have a1 : s 37 = s0 37 := hf 37 n37
    have hA' : AirC g W h rn w dl none s := by
      refine ⟨?_, by rw [a1, hd], by rw [a1]; exact ht, h1, h2, fun p kd e => by simp at e⟩
      unfold AirF at *
      rw [a1]; exact hA
    rcases hl with ⟨rfl, _, _⟩ | ⟨j, hj, rfl, _, _⟩
    · rw [r_A_blow_n_63, c_sourceCount hcc hc.1]
      simp (disch := omega) only [↓n_m1, ↓n_hid, q0, q1, q2, q3, q4, q5, q6, q7, q8, q9, q10, q11, q12, q13, q14, q15, q16, q17, q18, q19, q20, q21, q22, q23, q24, q25, q26, q27, q28, q29, q30, q31, q32, q33, q34, q35, q36, q37, q38, q39, q40, q41, q42, q43, q44, q45, q46, q47, q48, q49, q50, q51, q52, q53, q54, q55, q56, q57, q58, q59, q61, q62, q63, q64, q66, q67, q68, q69, q70, q71, q91, q93, q99, q100, q102, q104, q107, q108, q112, q114, q115, q119, q121, q124, q160, q200, q255, q640, q999, q1000, q2000, q4096, n_of, nI_ltI, nI_leI, nI_eq, nI_clamp, nI_add, pk_mul, n_sub, m1_eq, m1_eq2, m1_lt, m1_lt2, gdN, Nat.not_lt_zero, false_or, if_true, if_false, if_pos, if_neg, cond_true, cond_false, beq_self, and_self, true_and, and_true, not_true_eq_false, not_false_eq_true, ne_eq, C_b hcc]
      exact hK s hf hc hp hA'
    · rw [r_A_blow_63, c_sourceCount hcc hc.1]
      simp (disch := omega) only [↓n_m1, ↓n_hid, q0, q1, q2, q3, q4, q5, q6, q7, q8, q9, q10, q11, q12, q13, q14, q15, q16, q17, q18, q19, q20, q21, q22, q23, q24, q25, q26, q27, q28, q29, q30, q31, q32, q33, q34, q35, q36, q37, q38, q39, q40, q41, q42, q43, q44, q45, q46, q47, q48, q49, q50, q51, q52, q53, q54, q55, q56, q57, q58, q59, q61, q62, q63, q64, q66, q67, q68, q69, q70, q71, q91, q93, q99, q100, q102, q104, q107, q108, q112, q114, q115, q119, q121, q124, q160, q200, q255, q640, q999, q1000, q2000, q4096, n_of, nI_ltI, nI_leI, nI_eq, nI_clamp, nI_add, pk_mul, n_sub, m1_eq, m1_eq2, m1_lt, m1_lt2, gdN, Nat.not_lt_zero, false_or, if_true, if_false, if_pos, if_neg, cond_true, cond_false, beq_self, and_self, true_and, and_true, not_true_eq_false, not_false_eq_true, ne_eq, C_b hcc]
      exact hK s hf hc hp hA'
  | succ n ih =>
    intro i s v3 v4 hi hf hc hp h1 h2
    have hi5 := hg.2.2.2.2.2 i (by omega)
    have s1f : frm [38] s (upM s 38 i (nI (git g i 0))) := frm_u (by simp)
    have hc1 : CityF c g (upM s 38 i (nI (git g i 0))) := by
      refine ⟨CityC_f (L := [38]) (by simp; omega) (by simp; omega) (by simp; omega) s1f hc.1, fun w' a' hw' ha' => ?_⟩
      unfold FarC
      rw [s1f (c + 6) (by simp; omega), s1f (c + 5) (by simp; omega)]
      exact hc.2 w' a' hw' ha'
    have hp1 : P (upM s 38 i (nI (git g i 0))) := hP _ _ (frm_w s1f (by simp)) hp
    have hf1 : frm ([c + 5, c + 6, 38, 39] ++ Ll) s0 (upM s 38 i (nI (git g i 0))) := frm_t hf (frm_w s1f (by simp))
    have e38 : ∀ k, k < i + 1 → (upM s 38 i (nI (git g i 0))) 38 k = nI (git g k 0) := by
      intro k hk
      by_cases e : k = i
      · rw [e, up_at]
      · rw [up_pl e, h1 k (by omega)]
    have e39 : (upM s 38 i (nI (git g i 0))) 39 = s 39 := up_ce (by decide)
    have e37 : (upM s 38 i (nI (git g i 0))) 37 = s0 37 := hf1 37 n37
    have off : tml g h i = false → ∀ x3 x4 : Value, RnV (d + 6) m_A_blow K 63 [.ref 37, .ref c, lv, x3, x4, .int (nI (i + 1))] [] (upM s 38 i (nI (git g i 0))) := by
      intro hto x3 x4
      refine ih (i + 1) _ _ _ (by omega) hf1 hc1 hp1 e38 fun k hk htk p hp' => ?_
      rw [e39]
      refine h2 k ?_ htk p hp'
      have : k ≠ i := fun e => by rw [e, hto] at htk; simp at htk
      omega
    have on : tml g h i = true → ∀ x3 x4 : Value, wV (wp (d + 6)) m_A_whiff [.ref 37, .ref c, lv, .int (nI i), .int (nI (gsp g i)), .int (nI (git g i 5))] (upM s 38 i (nI (git g i 0))) (fun s118 => RnV (d + 6) m_A_blow K 63 [.ref 37, .ref c, lv, x3, x4, .int (nI (i + 1))] [] s118) := by
      intro hto x3 x4
      have hA1 : AirF w h rn (upM s 38 i (nI (git g i 0))) := by unfold AirF at *; rw [e37]; exact hA
      refine c_whiff hcc hg hl hP hh hw (by omega) (gsp_lt hg (by omega)) hi5.2.2.2.2.2.2 hi5.2.2.2.2.2.1 hi5.1 hA1 hc1 hp1 (e38 i (by omega)) ?_
      intro s' hf' hc' hp' hw1 hw2
      refine ih (i + 1) s' _ _ (by omega) (frm_t hf1 (frm_w hf' (by
        intro a ha
        simp only [List.mem_append, List.mem_cons, List.not_mem_nil, or_false] at ha ⊢
        rcases ha with (rfl | rfl | rfl) | ha
        · simp
        · simp
        · simp
        · exact Or.inr ha))) hc' hp' (fun k hk => by rw [hf' 38 n38]; exact e38 k hk) fun k hk htk p hp'' => ?_
      by_cases e : k = i
      · subst e; exact hw1 p hp''
      · rw [hw2 _ (by omega), e39]
        exact h2 k (by omega) htk p hp''
    have hti : tb ((upM s 38 i (nI (git g i 0))) 37 4) i = tml g h i := by
      rw [e37, ht i (by omega), decide_eq_true (show i < gS g by omega), decide_eq_false (show ¬ i = 6 by omega), Bool.true_and, Bool.or_false]
    have hput : ∀ K, wV (wp (d + 6)) m_X_put [.ref 38, .int (nI i), .int (nI (git g i 0))] s K = K (upM s 38 i (nI (git g i 0))) := fun K => c_put (show (shp 38).1 = 20 from rfl) (show 38 ≤ 999 by decide) (show i < (shp 38).2 by show _ < 7; omega)
    rcases hl with ⟨rfl, _, _⟩ | ⟨j, hj, rfl, _, _⟩
    · rw [r_A_blow_n_63, c_sourceCount hcc hc.1]
      simp (disch := omega) only [↓n_m1, ↓n_hid, q0, q1, q2, q3, q4, q5, q6, q7, q8, q9, q10, q11, q12, q13, q14, q15, q16, q17, q18, q19, q20, q21, q22, q23, q24, q25, q26, q27, q28, q29, q30, q31, q32, q33, q34, q35, q36, q37, q38, q39, q40, q41, q42, q43, q44, q45, q46, q47, q48, q49, q50, q51, q52, q53, q54, q55, q56, q57, q58, q59, q61, q62, q63, q64, q66, q67, q68, q69, q70, q71, q91, q93, q99, q100, q102, q104, q107, q108, q112, q114, q115, q119, q121, q124, q160, q200, q255, q640, q999, q1000, q2000, q4096, n_of, nI_ltI, nI_leI, nI_eq, nI_clamp, nI_add, pk_mul, n_sub, m1_eq, m1_eq2, m1_lt, m1_lt2, gdN, Nat.not_lt_zero, false_or, if_true, if_false, if_pos, if_neg, cond_true, cond_false, beq_self, and_self, true_and, and_true, not_true_eq_false, not_false_eq_true, ne_eq, C_b hcc]
      rw [c_item hcc hg hc.1 (by omega) (by omega), hput]
      simp only [sh_b (show i < 32 by omega), hti, b01_0]
      cases hto : tml g h i with
      | false => simp only [if_true]; exact off hto _ _
      | true =>
        simp only [Bool.true_eq_false, if_false]
        rw [c_sourcePlace hcc hg hc1.1 (by omega), c_item hcc hg hc1.1 (by omega) (by omega)]
        exact on hto _ _
    · rw [r_A_blow_63, c_sourceCount hcc hc.1]
      simp (disch := omega) only [↓n_m1, ↓n_hid, q0, q1, q2, q3, q4, q5, q6, q7, q8, q9, q10, q11, q12, q13, q14, q15, q16, q17, q18, q19, q20, q21, q22, q23, q24, q25, q26, q27, q28, q29, q30, q31, q32, q33, q34, q35, q36, q37, q38, q39, q40, q41, q42, q43, q44, q45, q46, q47, q48, q49, q50, q51, q52, q53, q54, q55, q56, q57, q58, q59, q61, q62, q63, q64, q66, q67, q68, q69, q70, q71, q91, q93, q99, q100, q102, q104, q107, q108, q112, q114, q115, q119, q121, q124, q160, q200, q255, q640, q999, q1000, q2000, q4096, n_of, nI_ltI, nI_leI, nI_eq, nI_clamp, nI_add, pk_mul, n_sub, m1_eq, m1_eq2, m1_lt, m1_lt2, gdN, Nat.not_lt_zero, false_or, if_true, if_false, if_pos, if_neg, cond_true, cond_false, beq_self, and_self, true_and, and_true, not_true_eq_false, not_false_eq_true, ne_eq, C_b hcc]
      rw [c_item hcc hg hc.1 (by omega) (by omega), hput]
      simp only [sh_b (show i < 32 by omega), hti, b01_0]
      cases hto : tml g h i with
      | false => simp only [if_true]; exact off hto _ _
      | true =>
        simp only [Bool.true_eq_false, if_false]
        rw [c_sourcePlace hcc hg hc1.1 (by omega), c_item hcc hg hc1.1 (by omega) (by omega)]
        exact on hto _ _
end
