/-! thief and found -/
section
variable {d c : Nat} {g : Gph} {W : Wth} {P Q : Mem → Prop} {lv : Value} {Ll : List Nat} {rn : Bool} {w dl hr : Nat} {o : Int32} {s : Mem}
/-- the places where the thief can be in a minute -/
def cnI (g : Gph) (nt : Nts) (m : Nat) : Int32 := ahd g nt m &&& bhd g nt (30 - m)
theorem cnI_in (hg : gOk g) {nt : Nts} {m k : Nat} (h : tb (cnI g nt m) k = true) : k < gN g := (inS_and (inS_ahd hg m) k h).1
theorem cnI_20 (hg : gOk g) {nt : Nts} {m : Nat} : ∀ k, 20 ≤ k → tb (cnI g nt m) k = false := fun k hk => by
  have h20 := gN_le hg
  cases h : tb (cnI g nt m) k
  · rfl
  · have := cnI_in hg h; omega
theorem NtC_n {t : Mem} {nt : Nts} (hcc : isC c) (hL : ∀ a, a ∈ Ll → 18 ≤ a ∧ a ≤ 32) (f : fr c Ll s t) (h : NtC nt s) : NtC nt t := by
  unfold NtC at *
  rw [f.1 45 (scA_no hcc hL (by omega)) (by decide), f.1 46 (scA_no hcc hL (by omega)) (by decide), f.1 47 (scA_no hcc hL (by omega)) (by decide), f.1 48 (scA_no hcc hL (by omega)) (by decide), f.1 49 (scA_no hcc hL (by omega)) (by decide)]
  exact h
theorem NtM_n {t : Mem} {nt : Nts} (hcc : isC c) (hL : ∀ a, a ∈ Ll → 18 ≤ a ∧ a ≤ 32) (f : fr c Ll s t) (h : NtM nt s) : NtM nt t := by
  unfold NtM at *
  rw [f.1 81 (scA_no hcc hL (by omega)) (by decide), f.1 82 (scA_no hcc hL (by omega)) (by decide), f.1 83 (scA_no hcc hL (by omega)) (by decide), f.1 86 (scA_no hcc hL (by omega)) (by decide), f.2 55 (by decide)]
  exact h
theorem q_weigh {K : Mem → Prop} {nt : Nts} (h : QQ c g W P Q lv Ll w rn dl hr o s) (hn : NtOk g nt) (hC : NtC nt s)
    (hK : ∀ s', fr c Ll s s' → QQ c g W P Q lv Ll w rn dl hr o s' → (∀ m, m ≤ 30 → s' 50 m = cnI g nt m) → K s') : wV (wp (d + 10)) m_N_weigh [.ref 45, .ref c] s K := by
  refine c_weigh (d := d) (qq_isC h) (qq_gOk h) (qq_cf h) hn hC ?_
  intro s' hf hc e
  have h16 := C_le (qq_isC h)
  have n57 : 57 ∉ [c + 5, c + 6, 50] := by simp only [List.mem_cons, List.not_mem_nil, or_false]; omega
  have f1 : ∀ {Ll : List Nat}, fr c Ll s s' := fun {Ll} => fr_f hf n57 (fun a z => scA_m (by simp only [List.mem_cons, List.not_mem_nil, or_false] at z; omega))
  exact hK s' f1 (QQ_f h f1 hc (qq_pst h s s' f1 (qq_P h)) (by rw [hf 57 n57]; exact qq_x33 h)) e
theorem q_layThief {K : Mem → Prop} {nt : Nts} (h : QQ c g W P Q lv Ll w rn dl hr o s) (hn : NtOk g nt) (hM : NtM nt s)
    (hK : ∀ s', fr c Ll s s' → QQ c g W P Q lv Ll w rn dl hr o s' → (∀ m, m ≤ 30 → s' 84 m &&& s' 85 m = cnI g nt m) → K s') : wV (wp (d + 6)) m_M_layThief [.ref 57] s K := by
  refine m_layThief (d := d) (qq_gOk h) (qq_cm h) hn hM ?_
  intro s' hf e1 e2
  obtain ⟨f1, h1⟩ := QQ_m h (frN_f (J := []) hf (by simp)) (by simp) (fun a z => scA_m (by simp only [List.mem_cons, List.not_mem_nil, or_false] at z; omega)) (by simp) (by rw [hf 57 (by simp)]; exact qq_x33 h)
  refine hK s' f1 h1 fun m hm => ?_
  rw [e1 m hm, e2 m hm]
  rfl
theorem f_thief {nt : Nts} {K : Int32 → Int32 → Mem → Prop} (h : QQ c g W P Q lv Ll w rn dl hr o s) (hn : NtOk g nt) (hC : NtC nt s) (hM : NtM nt s) {y : Int32} (hK : ∀ v s', fr c Ll s s' → QQ c g W P Q lv Ll w rn dl hr o s' → K v v s') :
    wI (wp (d + 50)) m_X_thief [.ref 0, .int y] s (fun v s1 => wI (wp (d + 50)) m_M_thief [.ref 57, .int y] s1 (fun v' s2 => K v v' s2)) := by
  have hg := qq_gOk h
  have hL := C_le (qq_isC h)
  have hcc := qq_isC h
  obtain ⟨t1, t2⟩ := q_thr h (x := nI 0)
  rw [e_X_thief, qq_ref h, cref hcc, crefc hcc, q_there (d := d + 48) h, ifb]
  by_cases hR : 0 < gR g
  · rw [decide_eq_true hR, if_pos rfl, qq_ref h, cref2 hcc, crefc hcc]
    by_cases hy : 0 ≤ y.toInt ∧ y.toInt ≤ 30
    · obtain ⟨m, hm, rfl⟩ := inN (n := 30) hy (by decide)
      simp (disch := omega) only [↓n_m1, ↓n_hid, q0, q1, q2, q3, q4, q5, q6, q7, q8, q9, q10, q11, q12, q13, q14, q15, q16, q17, q18, q19, q20, q21, q22, q23, q24, q25, q26, q27, q28, q29, q30, q31, q32, q33, q34, q35, q36, q37, q38, q39, q40, q41, q42, q43, q44, q45, q46, q47, q48, q49, q50, q51, q52, q53, q54, q55, q56, q57, q58, q59, q61, q62, q63, q64, q66, q67, q68, q69, q70, q71, q91, q93, q99, q100, q102, q104, q107, q108, q112, q114, q115, q119, q121, q124, q160, q200, q255, q640, q999, q1000, q2000, q4096, n_of, nI_ltI, nI_leI, nI_eq, nI_clamp, nI_add, pk_mul, n_sub, m1_eq, m1_eq2, m1_lt, m1_lt2, gdN, Nat.not_lt_zero, false_or, if_true, if_false, if_pos, if_neg, cond_true, cond_false, beq_self, and_self, true_and, and_true, not_true_eq_false, not_false_eq_true, ne_eq]
      refine q_weigh (d := d + 39) h hn hC ?_
      intro s1 f1 h1 e1
      rw [c_cans (d := d + 47) hm, e1 m hm]
      obtain ⟨u1, u2⟩ := q_thr h1 (x := nI 0)
      rw [e_M_thief, q0]
      simp (disch := omega) only [↓n_m1, ↓n_hid, q0, q1, q2, q3, q4, q5, q6, q7, q8, q9, q10, q11, q12, q13, q14, q15, q16, q17, q18, q19, q20, q21, q22, q23, q24, q25, q26, q27, q28, q29, q30, q31, q32, q33, q34, q35, q36, q37, q38, q39, q40, q41, q42, q43, q44, q45, q46, q47, q48, q49, q50, q51, q52, q53, q54, q55, q56, q57, q58, q59, q61, q62, q63, q64, q66, q67, q68, q69, q70, q71, q91, q93, q99, q100, q102, q104, q107, q108, q112, q114, q115, q119, q121, q124, q160, q200, q255, q640, q999, q1000, q2000, q4096, n_of, nI_ltI, nI_leI, nI_eq, nI_clamp, nI_add, pk_mul, n_sub, m1_eq, m1_eq2, m1_lt, m1_lt2, gdN, Nat.not_lt_zero, false_or, if_true, if_false, if_pos, if_neg, cond_true, cond_false, beq_self, and_self, true_and, and_true, not_true_eq_false, not_false_eq_true, ne_eq, q_r0 h1, hR]
      rw [mi30 (d := d + 48), decide_eq_true hy]
      simp (disch := omega) only [↓n_m1, ↓n_hid, q0, q1, q2, q3, q4, q5, q6, q7, q8, q9, q10, q11, q12, q13, q14, q15, q16, q17, q18, q19, q20, q21, q22, q23, q24, q25, q26, q27, q28, q29, q30, q31, q32, q33, q34, q35, q36, q37, q38, q39, q40, q41, q42, q43, q44, q45, q46, q47, q48, q49, q50, q51, q52, q53, q54, q55, q56, q57, q58, q59, q61, q62, q63, q64, q66, q67, q68, q69, q70, q71, q91, q93, q99, q100, q102, q104, q107, q108, q112, q114, q115, q119, q121, q124, q160, q200, q255, q640, q999, q1000, q2000, q4096, n_of, nI_ltI, nI_leI, nI_eq, nI_clamp, nI_add, pk_mul, n_sub, m1_eq, m1_eq2, m1_lt, m1_lt2, gdN, Nat.not_lt_zero, false_or, if_true, if_false, if_pos, if_neg, cond_true, cond_false, beq_self, and_self, true_and, and_true, not_true_eq_false, not_false_eq_true, ne_eq, b01_0, Bool.true_eq_false]
      refine q_layThief (d := d + 43) u2 hn (NtM_n hcc (HlC_L (qq_hl h)) (fr_t f1 u1) hM) ?_
      intro s2 f2 h2 e2
      rw [e2 m hm]
      exact hK _ _ (fr_t f1 (fr_t u1 f2)) h2
    · have : y < nI 0 ∨ (¬ y < nI 0 ∧ nI 30 < y) := by
        rw [Int32.lt_iff_toInt_lt, Int32.lt_iff_toInt_lt, n_i (by omega), n_i (by omega)]
        omega
      have e : (if y < 0 then wI (wp (d + 50)) m_M_thief [.ref 57, .int y] s (fun v' s2 => K m1 v' s2) else (if (30 : Int32) < y then wI (wp (d + 50)) m_M_thief [.ref 57, .int y] s (fun v' s2 => K m1 v' s2) else wV (wp (d + 49)) m_N_weigh [.ref 45, .ref c] s (fun s30 => wI (wp (d + 49)) m_N_cans [.ref 45, .int y] s30 (fun x38 s38 => wI (wp (d + 50)) m_M_thief [.ref 57, .int y] s38 (fun v' s2 => K x38 v' s2))))) = wI (wp (d + 50)) m_M_thief [.ref 57, .int y] s (fun v' s2 => K m1 v' s2) := by
        rcases this with e | ⟨e, e2⟩
        · rw [if_pos (show y < 0 from e)]
        · rw [if_neg (show ¬ y < 0 from e), if_pos (show (30 : Int32) < y from e2)]
      refine Eq.mpr e ?_
      rw [e_M_thief, q0]
      simp (disch := omega) only [↓n_m1, ↓n_hid, q0, q1, q2, q3, q4, q5, q6, q7, q8, q9, q10, q11, q12, q13, q14, q15, q16, q17, q18, q19, q20, q21, q22, q23, q24, q25, q26, q27, q28, q29, q30, q31, q32, q33, q34, q35, q36, q37, q38, q39, q40, q41, q42, q43, q44, q45, q46, q47, q48, q49, q50, q51, q52, q53, q54, q55, q56, q57, q58, q59, q61, q62, q63, q64, q66, q67, q68, q69, q70, q71, q91, q93, q99, q100, q102, q104, q107, q108, q112, q114, q115, q119, q121, q124, q160, q200, q255, q640, q999, q1000, q2000, q4096, n_of, nI_ltI, nI_leI, nI_eq, nI_clamp, nI_add, pk_mul, n_sub, m1_eq, m1_eq2, m1_lt, m1_lt2, gdN, Nat.not_lt_zero, false_or, if_true, if_false, if_pos, if_neg, cond_true, cond_false, beq_self, and_self, true_and, and_true, not_true_eq_false, not_false_eq_true, ne_eq, q_r0 h, hR]
      rw [mi30 (d := d + 48), decide_eq_false hy]
      simp (disch := omega) only [↓n_m1, ↓n_hid, q0, q1, q2, q3, q4, q5, q6, q7, q8, q9, q10, q11, q12, q13, q14, q15, q16, q17, q18, q19, q20, q21, q22, q23, q24, q25, q26, q27, q28, q29, q30, q31, q32, q33, q34, q35, q36, q37, q38, q39, q40, q41, q42, q43, q44, q45, q46, q47, q48, q49, q50, q51, q52, q53, q54, q55, q56, q57, q58, q59, q61, q62, q63, q64, q66, q67, q68, q69, q70, q71, q91, q93, q99, q100, q102, q104, q107, q108, q112, q114, q115, q119, q121, q124, q160, q200, q255, q640, q999, q1000, q2000, q4096, n_of, nI_ltI, nI_leI, nI_eq, nI_clamp, nI_add, pk_mul, n_sub, m1_eq, m1_eq2, m1_lt, m1_lt2, gdN, Nat.not_lt_zero, false_or, if_true, if_false, if_pos, if_neg, cond_true, cond_false, beq_self, and_self, true_and, and_true, not_true_eq_false, not_false_eq_true, ne_eq, b01_0]
      exact hK _ _ t1 t2
  · rw [decide_eq_false hR, if_neg (by decide), e_M_thief, q0]
    simp (disch := omega) only [↓n_m1, ↓n_hid, q0, q1, q2, q3, q4, q5, q6, q7, q8, q9, q10, q11, q12, q13, q14, q15, q16, q17, q18, q19, q20, q21, q22, q23, q24, q25, q26, q27, q28, q29, q30, q31, q32, q33, q34, q35, q36, q37, q38, q39, q40, q41, q42, q43, q44, q45, q46, q47, q48, q49, q50, q51, q52, q53, q54, q55, q56, q57, q58, q59, q61, q62, q63, q64, q66, q67, q68, q69, q70, q71, q91, q93, q99, q100, q102, q104, q107, q108, q112, q114, q115, q119, q121, q124, q160, q200, q255, q640, q999, q1000, q2000, q4096, n_of, nI_ltI, nI_leI, nI_eq, nI_clamp, nI_add, pk_mul, n_sub, m1_eq, m1_eq2, m1_lt, m1_lt2, gdN, Nat.not_lt_zero, false_or, if_true, if_false, if_pos, if_neg, cond_true, cond_false, beq_self, and_self, true_and, and_true, not_true_eq_false, not_false_eq_true, ne_eq, q_r0 h, hR]
    exact hK _ _ t1 t2
/-- the first minute of n, from i on, in which he can be at one place alone -/
def fnd (g : Gph) (nt : Nts) : Nat → Nat → Option Nat
  | 0, _ => none
  | n + 1, i => if bcF (cnI g nt i) = nI 1 then some i else fnd g nt n (i + 1)
/-- what found() says -/
def fndV (g : Gph) (nt : Nts) (j n i : Nat) : Int32 := match fnd g nt n i with
  | none => m1
  | some m => if j = 0 then nI m else nI ((bcF (cnI g nt m - nI 1)).toNatClampNeg / gC g * 10 + (bcF (cnI g nt m - nI 1)).toNatClampNeg % gC g)
theorem fndV_S {nt : Nts} {j n i : Nat} : fndV g nt j (n + 1) i = if bcF (cnI g nt i) = nI 1 then (if j = 0 then nI i else nI ((bcF (cnI g nt i - nI 1)).toNatClampNeg / gC g * 10 + (bcF (cnI g nt i - nI 1)).toNatClampNeg % gC g)) else fndV g nt j n (i + 1) := by
  unfold fndV
  by_cases e : bcF (cnI g nt i) = nI 1
  · rw [show fnd g nt (n + 1) i = some i from if_pos e, if_pos e]
  · rw [show fnd g nt (n + 1) i = fnd g nt n (i + 1) from if_neg e, if_neg e]
theorem c_found_l {nt : Nts} {K : Int32 → Mem → Prop} (h : QQ c g W P Q lv Ll w rn dl hr o s) (he : ∀ m, m ≤ 30 → s 50 m = cnI g nt m) {j : Nat} (hj : j ≤ 1) : ∀ (n i : Nat) (v3 : Value), i + n = 31 →
    RnI (d + 3) m_X_found K 34 [.ref 0, .int (nI j), .int (nI i), v3] [] s = K (fndV g nt j n i) s := by
  have hg := qq_gOk h
  have h20 := gN_le hg
  have hcc := qq_isC h
  intro n
  induction n with
  | zero =>
    intro i v3 hi
    rw [r_X_found_34]
    simp (disch := omega) only [↓n_m1, ↓n_hid, q0, q1, q2, q3, q4, q5, q6, q7, q8, q9, q10, q11, q12, q13, q14, q15, q16, q17, q18, q19, q20, q21, q22, q23, q24, q25, q26, q27, q28, q29, q30, q31, q32, q33, q34, q35, q36, q37, q38, q39, q40, q41, q42, q43, q44, q45, q46, q47, q48, q49, q50, q51, q52, q53, q54, q55, q56, q57, q58, q59, q61, q62, q63, q64, q66, q67, q68, q69, q70, q71, q91, q93, q99, q100, q102, q104, q107, q108, q112, q114, q115, q119, q121, q124, q160, q200, q255, q640, q999, q1000, q2000, q4096, n_of, nI_ltI, nI_leI, nI_eq, nI_clamp, nI_add, pk_mul, n_sub, m1_eq, m1_eq2, m1_lt, m1_lt2, gdN, Nat.not_lt_zero, false_or, if_true, if_false, if_pos, if_neg, cond_true, cond_false, beq_self, and_self, true_and, and_true, not_true_eq_false, not_false_eq_true, ne_eq]
    rfl
  | succ n ih =>
    intro i v3 hi
    rw [r_X_found_34, fndV_S]
    simp (disch := omega) only [↓n_m1, ↓n_hid, q0, q1, q2, q3, q4, q5, q6, q7, q8, q9, q10, q11, q12, q13, q14, q15, q16, q17, q18, q19, q20, q21, q22, q23, q24, q25, q26, q27, q28, q29, q30, q31, q32, q33, q34, q35, q36, q37, q38, q39, q40, q41, q42, q43, q44, q45, q46, q47, q48, q49, q50, q51, q52, q53, q54, q55, q56, q57, q58, q59, q61, q62, q63, q64, q66, q67, q68, q69, q70, q71, q91, q93, q99, q100, q102, q104, q107, q108, q112, q114, q115, q119, q121, q124, q160, q200, q255, q640, q999, q1000, q2000, q4096, n_of, nI_ltI, nI_leI, nI_eq, nI_clamp, nI_add, pk_mul, n_sub, m1_eq, m1_eq2, m1_lt, m1_lt2, gdN, Nat.not_lt_zero, false_or, if_true, if_false, if_pos, if_neg, cond_true, cond_false, beq_self, and_self, true_and, and_true, not_true_eq_false, not_false_eq_true, ne_eq]
    rw [c_cans (d := d + 1) (by omega), he i (by omega), c_bitCount (d := d + 2)]
    by_cases e : bcF (cnI g nt i) = nI 1
    · simp only [e, if_true]
      rcases (show j = 0 ∨ j = 1 by omega) with rfl | rfl
      · simp only [if_true]
      · obtain ⟨k, hk, ek⟩ := bcF_1 (cnI_20 hg) e
        have hkN : k < gN g := cnI_in hg (m := i) (nt := nt) (by rw [ek, tb_bit (by omega)]; exact decide_eq_true rfl)
        have h16 := C_le hcc
        have ecl : (nI k).toNatClampNeg = k := nI_clamp (by omega)
        rw [ek, bcF_p k hk, qq_ref h, ecl]
        simp (disch := omega) only [↓n_m1, ↓n_hid, q0, q1, q2, q3, q4, q5, q6, q7, q8, q9, q10, q11, q12, q13, q14, q15, q16, q17, q18, q19, q20, q21, q22, q23, q24, q25, q26, q27, q28, q29, q30, q31, q32, q33, q34, q35, q36, q37, q38, q39, q40, q41, q42, q43, q44, q45, q46, q47, q48, q49, q50, q51, q52, q53, q54, q55, q56, q57, q58, q59, q61, q62, q63, q64, q66, q67, q68, q69, q70, q71, q91, q93, q99, q100, q102, q104, q107, q108, q112, q114, q115, q119, q121, q124, q160, q200, q255, q640, q999, q1000, q2000, q4096, n_of, nI_ltI, nI_leI, nI_eq, nI_clamp, nI_add, pk_mul, n_sub, m1_eq, m1_eq2, m1_lt, m1_lt2, gdN, Nat.not_lt_zero, false_or, if_true, if_false, if_pos, if_neg, cond_true, cond_false, beq_self, and_self, true_and, and_true, not_true_eq_false, not_false_eq_true, ne_eq, Nat.add_sub_cancel, C_b hcc]
        rw [c_bitCount (d := d + 2), bcF_p k hk, c_cellOf (d := d + 2) hcc hg (qq_cf h).1 hkN]
    · simp only [e, if_false]
      exact ih (i + 1) _ (by omega)
theorem c_ntz {K : Int32 → Mem → Prop} : ∀ k, k < 20 → wI (wp (d + 1)) m_J_numberOfTrailingZeros [.int (bit k)] s K = K (nI k) s := by
  intro k hk
  rw [e_J_numberOfTrailingZeros]
  rcases (show k = 0 ∨ k = 1 ∨ k = 2 ∨ k = 3 ∨ k = 4 ∨ k = 5 ∨ k = 6 ∨ k = 7 ∨ k = 8 ∨ k = 9 ∨ k = 10 ∨ k = 11 ∨ k = 12 ∨ k = 13 ∨ k = 14 ∨ k = 15 ∨ k = 16 ∨ k = 17 ∨ k = 18 ∨ k = 19 by omega) with rfl | rfl | rfl | rfl | rfl | rfl | rfl | rfl | rfl | rfl | rfl | rfl | rfl | rfl | rfl | rfl | rfl | rfl | rfl | rfl
  all_goals rfl
theorem m_found_l {nt : Nts} {K : Int32 → Mem → Prop} (h : QQ c g W P Q lv Ll w rn dl hr o s) (he : ∀ m, m ≤ 30 → s 84 m &&& s 85 m = cnI g nt m) {j : Nat} (hj : j ≤ 1) : ∀ (n i : Nat) (v3 : Value), i + n = 31 →
    RnI (d + 3) m_M_found K 30 [.ref 57, .int (nI j), .int (nI i), v3] [] s = K (fndV g nt j n i) s := by
  have hg := qq_gOk h
  have h20 := gN_le hg
  intro n
  induction n with
  | zero =>
    intro i v3 hi
    rw [r_M_found_30]
    simp (disch := omega) only [↓n_m1, ↓n_hid, q0, q1, q2, q3, q4, q5, q6, q7, q8, q9, q10, q11, q12, q13, q14, q15, q16, q17, q18, q19, q20, q21, q22, q23, q24, q25, q26, q27, q28, q29, q30, q31, q32, q33, q34, q35, q36, q37, q38, q39, q40, q41, q42, q43, q44, q45, q46, q47, q48, q49, q50, q51, q52, q53, q54, q55, q56, q57, q58, q59, q61, q62, q63, q64, q66, q67, q68, q69, q70, q71, q91, q93, q99, q100, q102, q104, q107, q108, q112, q114, q115, q119, q121, q124, q160, q200, q255, q640, q999, q1000, q2000, q4096, n_of, nI_ltI, nI_leI, nI_eq, nI_clamp, nI_add, pk_mul, n_sub, m1_eq, m1_eq2, m1_lt, m1_lt2, gdN, Nat.not_lt_zero, false_or, if_true, if_false, if_pos, if_neg, cond_true, cond_false, beq_self, and_self, true_and, and_true, not_true_eq_false, not_false_eq_true, ne_eq]
    rfl
  | succ n ih =>
    intro i v3 hi
    rw [r_M_found_30, fndV_S]
    simp (disch := omega) only [↓n_m1, ↓n_hid, q0, q1, q2, q3, q4, q5, q6, q7, q8, q9, q10, q11, q12, q13, q14, q15, q16, q17, q18, q19, q20, q21, q22, q23, q24, q25, q26, q27, q28, q29, q30, q31, q32, q33, q34, q35, q36, q37, q38, q39, q40, q41, q42, q43, q44, q45, q46, q47, q48, q49, q50, q51, q52, q53, q54, q55, q56, q57, q58, q59, q61, q62, q63, q64, q66, q67, q68, q69, q70, q71, q91, q93, q99, q100, q102, q104, q107, q108, q112, q114, q115, q119, q121, q124, q160, q200, q255, q640, q999, q1000, q2000, q4096, n_of, nI_ltI, nI_leI, nI_eq, nI_clamp, nI_add, pk_mul, n_sub, m1_eq, m1_eq2, m1_lt, m1_lt2, gdN, Nat.not_lt_zero, false_or, if_true, if_false, if_pos, if_neg, cond_true, cond_false, beq_self, and_self, true_and, and_true, not_true_eq_false, not_false_eq_true, ne_eq, he i (by omega)]
    rw [c_bitCount (d := d + 2)]
    by_cases e : bcF (cnI g nt i) = nI 1
    · simp only [e, if_true]
      rcases (show j = 0 ∨ j = 1 by omega) with rfl | rfl
      · simp only [if_true]
      · obtain ⟨k, hk, ek⟩ := bcF_1 (cnI_20 hg) e
        have hkN : k < gN g := cnI_in hg (m := i) (nt := nt) (by rw [ek, tb_bit (by omega)]; exact decide_eq_true rfl)
        rw [ek, bcF_p k hk, nI_clamp (by omega)]
        simp (disch := omega) only [↓n_m1, ↓n_hid, q0, q1, q2, q3, q4, q5, q6, q7, q8, q9, q10, q11, q12, q13, q14, q15, q16, q17, q18, q19, q20, q21, q22, q23, q24, q25, q26, q27, q28, q29, q30, q31, q32, q33, q34, q35, q36, q37, q38, q39, q40, q41, q42, q43, q44, q45, q46, q47, q48, q49, q50, q51, q52, q53, q54, q55, q56, q57, q58, q59, q61, q62, q63, q64, q66, q67, q68, q69, q70, q71, q91, q93, q99, q100, q102, q104, q107, q108, q112, q114, q115, q119, q121, q124, q160, q200, q255, q640, q999, q1000, q2000, q4096, n_of, nI_ltI, nI_leI, nI_eq, nI_clamp, nI_add, pk_mul, n_sub, m1_eq, m1_eq2, m1_lt, m1_lt2, gdN, Nat.not_lt_zero, false_or, if_true, if_false, if_pos, if_neg, cond_true, cond_false, beq_self, and_self, true_and, and_true, not_true_eq_false, not_false_eq_true, ne_eq]
        rw [c_ntz (d := d + 2) k hk, m_cellOf (d := d + 2) hg (qq_cm h) hkN]
    · simp only [e, if_false]
      exact ih (i + 1) _ (by omega)
theorem f_found {nt : Nts} {K : Int32 → Int32 → Mem → Prop} (h : QQ c g W P Q lv Ll w rn dl hr o s) (hn : NtOk g nt) (hC : NtC nt s) (hM : NtM nt s) {y : Int32} (hK : ∀ v s', fr c Ll s s' → QQ c g W P Q lv Ll w rn dl hr o s' → K v v s') :
    wI (wp (d + 50)) m_X_found [.ref 0, .int y] s (fun v s1 => wI (wp (d + 50)) m_M_found [.ref 57, .int y] s1 (fun v' s2 => K v v' s2)) := by
  have hg := qq_gOk h
  have hL := C_le (qq_isC h)
  have hcc := qq_isC h
  obtain ⟨t1, t2⟩ := q_thr h (x := nI 0)
  rw [e_X_found, qq_ref h, cref hcc, crefc hcc, q_there (d := d + 48) h, ifb]
  by_cases hR : 0 < gR g
  · rw [decide_eq_true hR, if_pos rfl, qq_ref h, cref2 hcc, crefc hcc]
    by_cases hy : 0 ≤ y.toInt ∧ y.toInt ≤ 1
    · obtain ⟨j, hj, rfl⟩ := inN (n := 1) hy (by decide)
      have main : wV (wp (d + 49)) m_N_weigh [.ref 45, .ref c] s (fun s29 => RnI (d + 49) m_X_found (fun v s1 => wI (wp (d + 50)) m_M_found [.ref 57, .int (nI j)] s1 (fun v' s2 => K v v' s2)) 34 [.ref 0, .int (nI j), .int (nI 0), uV] [] s29) := by
        refine q_weigh (d := d + 39) h hn hC ?_
        intro s1 f1 h1 e1
        refine Eq.mpr (c_found_l (d := d + 46) h1 e1 hj 31 0 _ rfl) ?_
        obtain ⟨u1, u2⟩ := q_thr h1 (x := nI 0)
        rw [e_M_found, q0]
        simp (disch := omega) only [↓n_m1, ↓n_hid, q0, q1, q2, q3, q4, q5, q6, q7, q8, q9, q10, q11, q12, q13, q14, q15, q16, q17, q18, q19, q20, q21, q22, q23, q24, q25, q26, q27, q28, q29, q30, q31, q32, q33, q34, q35, q36, q37, q38, q39, q40, q41, q42, q43, q44, q45, q46, q47, q48, q49, q50, q51, q52, q53, q54, q55, q56, q57, q58, q59, q61, q62, q63, q64, q66, q67, q68, q69, q70, q71, q91, q93, q99, q100, q102, q104, q107, q108, q112, q114, q115, q119, q121, q124, q160, q200, q255, q640, q999, q1000, q2000, q4096, n_of, nI_ltI, nI_leI, nI_eq, nI_clamp, nI_add, pk_mul, n_sub, m1_eq, m1_eq2, m1_lt, m1_lt2, gdN, Nat.not_lt_zero, false_or, if_true, if_false, if_pos, if_neg, cond_true, cond_false, beq_self, and_self, true_and, and_true, not_true_eq_false, not_false_eq_true, ne_eq, q_r0 h1, hR]
        rw [mi1 (d := d + 48), decide_eq_true hy]
        simp (disch := omega) only [↓n_m1, ↓n_hid, q0, q1, q2, q3, q4, q5, q6, q7, q8, q9, q10, q11, q12, q13, q14, q15, q16, q17, q18, q19, q20, q21, q22, q23, q24, q25, q26, q27, q28, q29, q30, q31, q32, q33, q34, q35, q36, q37, q38, q39, q40, q41, q42, q43, q44, q45, q46, q47, q48, q49, q50, q51, q52, q53, q54, q55, q56, q57, q58, q59, q61, q62, q63, q64, q66, q67, q68, q69, q70, q71, q91, q93, q99, q100, q102, q104, q107, q108, q112, q114, q115, q119, q121, q124, q160, q200, q255, q640, q999, q1000, q2000, q4096, n_of, nI_ltI, nI_leI, nI_eq, nI_clamp, nI_add, pk_mul, n_sub, m1_eq, m1_eq2, m1_lt, m1_lt2, gdN, Nat.not_lt_zero, false_or, if_true, if_false, if_pos, if_neg, cond_true, cond_false, beq_self, and_self, true_and, and_true, not_true_eq_false, not_false_eq_true, ne_eq, b01_0, Bool.true_eq_false]
        refine q_layThief (d := d + 43) u2 hn (NtM_n hcc (HlC_L (qq_hl h)) (fr_t f1 u1) hM) ?_
        intro s2 f2 h2 e2
        refine Eq.mpr (m_found_l (d := d + 46) h2 e2 hj 31 0 _ rfl) ?_
        exact hK _ _ (fr_t f1 (fr_t u1 f2)) h2
      rcases (show j = 0 ∨ j = 1 by omega) with rfl | rfl
      · simp (disch := omega) only [↓n_m1, ↓n_hid, q0, q1, q2, q3, q4, q5, q6, q7, q8, q9, q10, q11, q12, q13, q14, q15, q16, q17, q18, q19, q20, q21, q22, q23, q24, q25, q26, q27, q28, q29, q30, q31, q32, q33, q34, q35, q36, q37, q38, q39, q40, q41, q42, q43, q44, q45, q46, q47, q48, q49, q50, q51, q52, q53, q54, q55, q56, q57, q58, q59, q61, q62, q63, q64, q66, q67, q68, q69, q70, q71, q91, q93, q99, q100, q102, q104, q107, q108, q112, q114, q115, q119, q121, q124, q160, q200, q255, q640, q999, q1000, q2000, q4096, n_of, nI_ltI, nI_leI, nI_eq, nI_clamp, nI_add, pk_mul, n_sub, m1_eq, m1_eq2, m1_lt, m1_lt2, gdN, Nat.not_lt_zero, false_or, if_true, if_false, if_pos, if_neg, cond_true, cond_false, beq_self, and_self, true_and, and_true, not_true_eq_false, not_false_eq_true, ne_eq]
        exact main
      · simp (disch := omega) only [↓n_m1, ↓n_hid, q0, q1, q2, q3, q4, q5, q6, q7, q8, q9, q10, q11, q12, q13, q14, q15, q16, q17, q18, q19, q20, q21, q22, q23, q24, q25, q26, q27, q28, q29, q30, q31, q32, q33, q34, q35, q36, q37, q38, q39, q40, q41, q42, q43, q44, q45, q46, q47, q48, q49, q50, q51, q52, q53, q54, q55, q56, q57, q58, q59, q61, q62, q63, q64, q66, q67, q68, q69, q70, q71, q91, q93, q99, q100, q102, q104, q107, q108, q112, q114, q115, q119, q121, q124, q160, q200, q255, q640, q999, q1000, q2000, q4096, n_of, nI_ltI, nI_leI, nI_eq, nI_clamp, nI_add, pk_mul, n_sub, m1_eq, m1_eq2, m1_lt, m1_lt2, gdN, Nat.not_lt_zero, false_or, if_true, if_false, if_pos, if_neg, cond_true, cond_false, beq_self, and_self, true_and, and_true, not_true_eq_false, not_false_eq_true, ne_eq]
        exact main
    · rw [if_neg (show ¬ y = 0 from fun z => by have := ne_n hy (show 0 ≤ 1 by decide) (by decide); rw [← this]; exact z), if_neg (show ¬ y = 1 from fun z => by have := ne_n hy (show 1 ≤ 1 by decide) (by decide); rw [← this]; exact z)]
      rw [e_M_found, q0]
      simp (disch := omega) only [↓n_m1, ↓n_hid, q0, q1, q2, q3, q4, q5, q6, q7, q8, q9, q10, q11, q12, q13, q14, q15, q16, q17, q18, q19, q20, q21, q22, q23, q24, q25, q26, q27, q28, q29, q30, q31, q32, q33, q34, q35, q36, q37, q38, q39, q40, q41, q42, q43, q44, q45, q46, q47, q48, q49, q50, q51, q52, q53, q54, q55, q56, q57, q58, q59, q61, q62, q63, q64, q66, q67, q68, q69, q70, q71, q91, q93, q99, q100, q102, q104, q107, q108, q112, q114, q115, q119, q121, q124, q160, q200, q255, q640, q999, q1000, q2000, q4096, n_of, nI_ltI, nI_leI, nI_eq, nI_clamp, nI_add, pk_mul, n_sub, m1_eq, m1_eq2, m1_lt, m1_lt2, gdN, Nat.not_lt_zero, false_or, if_true, if_false, if_pos, if_neg, cond_true, cond_false, beq_self, and_self, true_and, and_true, not_true_eq_false, not_false_eq_true, ne_eq, q_r0 h, hR]
      rw [mi1 (d := d + 48), decide_eq_false hy]
      simp (disch := omega) only [↓n_m1, ↓n_hid, q0, q1, q2, q3, q4, q5, q6, q7, q8, q9, q10, q11, q12, q13, q14, q15, q16, q17, q18, q19, q20, q21, q22, q23, q24, q25, q26, q27, q28, q29, q30, q31, q32, q33, q34, q35, q36, q37, q38, q39, q40, q41, q42, q43, q44, q45, q46, q47, q48, q49, q50, q51, q52, q53, q54, q55, q56, q57, q58, q59, q61, q62, q63, q64, q66, q67, q68, q69, q70, q71, q91, q93, q99, q100, q102, q104, q107, q108, q112, q114, q115, q119, q121, q124, q160, q200, q255, q640, q999, q1000, q2000, q4096, n_of, nI_ltI, nI_leI, nI_eq, nI_clamp, nI_add, pk_mul, n_sub, m1_eq, m1_eq2, m1_lt, m1_lt2, gdN, Nat.not_lt_zero, false_or, if_true, if_false, if_pos, if_neg, cond_true, cond_false, beq_self, and_self, true_and, and_true, not_true_eq_false, not_false_eq_true, ne_eq, b01_0]
      exact hK _ _ t1 t2
  · rw [decide_eq_false hR, if_neg (by decide), e_M_found, q0]
    simp (disch := omega) only [↓n_m1, ↓n_hid, q0, q1, q2, q3, q4, q5, q6, q7, q8, q9, q10, q11, q12, q13, q14, q15, q16, q17, q18, q19, q20, q21, q22, q23, q24, q25, q26, q27, q28, q29, q30, q31, q32, q33, q34, q35, q36, q37, q38, q39, q40, q41, q42, q43, q44, q45, q46, q47, q48, q49, q50, q51, q52, q53, q54, q55, q56, q57, q58, q59, q61, q62, q63, q64, q66, q67, q68, q69, q70, q71, q91, q93, q99, q100, q102, q104, q107, q108, q112, q114, q115, q119, q121, q124, q160, q200, q255, q640, q999, q1000, q2000, q4096, n_of, nI_ltI, nI_leI, nI_eq, nI_clamp, nI_add, pk_mul, n_sub, m1_eq, m1_eq2, m1_lt, m1_lt2, gdN, Nat.not_lt_zero, false_or, if_true, if_false, if_pos, if_neg, cond_true, cond_false, beq_self, and_self, true_and, and_true, not_true_eq_false, not_false_eq_true, ne_eq, q_r0 h, hR]
    exact hK _ _ t1 t2
end
