/-! queries, the class's call and the reference's: the same word -/
section
variable {d c : Nat} {g : Gph} {W : Wth} {P Q : Mem → Prop} {lv : Value} {Ll : List Nat} {rn : Bool} {w dl hr : Nat} {o : Int32} {s : Mem}
theorem smI_6 {h : Nat} (hg : gOk g) : tb (smI g h o) 6 = (none : Option (Nat × Nat)).isSome := by
  have hS := hg.2.2.1
  rw [tb_smI hg, decide_eq_false (show ¬ 6 < gS g by omega), Bool.false_and, Bool.and_false]; rfl
theorem fr_t {s t u : Mem} (h : fr c Ll s t) (h2 : fr c Ll t u) : fr c Ll s u := frN_t h h2
theorem mi1 {K : Int32 → Mem → Prop} {z : Int32} : wI (wp (d + 1)) m_M_isIn [.long z.toInt64, .long 0, .long 1] s K = K (b01 (decide (0 ≤ z.toInt ∧ z.toInt ≤ 1))) s := m_isIn (n := 1) (by decide)
theorem mi3 {K : Int32 → Mem → Prop} {z : Int32} : wI (wp (d + 1)) m_M_isIn [.long z.toInt64, .long 0, .long 3] s K = K (b01 (decide (0 ≤ z.toInt ∧ z.toInt ≤ 3))) s := m_isIn (n := 3) (by decide)
theorem mi4 {K : Int32 → Mem → Prop} {z : Int32} : wI (wp (d + 1)) m_M_isIn [.long z.toInt64, .long 0, .long 4] s K = K (b01 (decide (0 ≤ z.toInt ∧ z.toInt ≤ 4))) s := m_isIn (n := 4) (by decide)
theorem mi6 {K : Int32 → Mem → Prop} {z : Int32} : wI (wp (d + 1)) m_M_isIn [.long z.toInt64, .long 0, .long 6] s K = K (b01 (decide (0 ≤ z.toInt ∧ z.toInt ≤ 6))) s := m_isIn (n := 6) (by decide)
theorem mi9 {K : Int32 → Mem → Prop} {z : Int32} : wI (wp (d + 1)) m_M_isIn [.long z.toInt64, .long 0, .long 9] s K = K (b01 (decide (0 ≤ z.toInt ∧ z.toInt ≤ 9))) s := m_isIn (n := 9) (by decide)
theorem mi30 {K : Int32 → Mem → Prop} {z : Int32} : wI (wp (d + 1)) m_M_isIn [.long z.toInt64, .long 0, .long 30] s K = K (b01 (decide (0 ≤ z.toInt ∧ z.toInt ≤ 30))) s := m_isIn (n := 30) (by decide)
theorem mi31 {K : Int32 → Mem → Prop} {z : Int32} : wI (wp (d + 1)) m_M_isIn [.long z.toInt64, .long 0, .long 31] s K = K (b01 (decide (0 ≤ z.toInt ∧ z.toInt ≤ 31))) s := m_isIn (n := 31) (by decide)
theorem mi50 {K : Int32 → Mem → Prop} {z : Int32} : wI (wp (d + 1)) m_M_isIn [.long z.toInt64, .long 0, .long 50] s K = K (b01 (decide (0 ≤ z.toInt ∧ z.toInt ≤ 50))) s := m_isIn (n := 50) (by decide)
theorem mi999 {K : Int32 → Mem → Prop} {z : Int32} : wI (wp (d + 1)) m_M_isIn [.long z.toInt64, .long 0, .long 999] s K = K (b01 (decide (0 ≤ z.toInt ∧ z.toInt ≤ 999))) s := m_isIn (n := 999) (by decide)
theorem f_smell {K : Int32 → Int32 → Mem → Prop} (h : QQ c g W P Q lv Ll w rn dl hr o s) {x y : Int32} (hK : ∀ v s', fr c Ll s s' → QQ c g W P Q lv Ll w rn dl hr o s' → K v v s') :
    wI (wp (d + 50)) m_X_smell [.ref 0, .int x, .int y] s (fun v s1 => wI (wp (d + 50)) m_M_smell [.ref 57, .int x, .int y] s1 (fun v' s2 => K v v' s2)) := by
  have hg := qq_gOk h
  have h20 := gN_le hg
  have hL := C_le (qq_isC h)
  rw [e_X_smell, qq_ref h]
  simp (disch := omega) only [↓n_m1, ↓n_hid, q0, q1, q2, q3, q4, q5, q6, q7, q8, q9, q10, q11, q12, q13, q14, q15, q16, q17, q18, q19, q20, q21, q22, q23, q24, q25, q26, q27, q28, q29, q30, q31, q32, q33, q34, q35, q36, q37, q38, q39, q40, q41, q42, q43, q44, q45, q46, q47, q48, q49, q50, q51, q52, q53, q54, q55, q56, q57, q58, q59, q61, q62, q63, q64, q66, q67, q68, q69, q70, q71, q91, q93, q99, q100, q102, q104, q107, q108, q112, q114, q115, q119, q121, q124, q160, q200, q255, q640, q999, q1000, q2000, q4096, n_of, nI_ltI, nI_leI, nI_eq, nI_clamp, nI_add, pk_mul, n_sub, m1_eq, m1_eq2, m1_lt, m1_lt2, gdN, Nat.not_lt_zero, false_or, if_true, if_false, if_pos, if_neg, cond_true, cond_false, beq_self, and_self, true_and, and_true, not_true_eq_false, not_false_eq_true, ne_eq, Nat.add_sub_cancel, C_b (qq_isC h)]
  rw [c_streetOf (d := d + 46) (qq_isC h) hg (qq_cf h).1]
  cases e : stc g x with
  | none =>
    obtain ⟨t1, t2⟩ := q_thr h (x := nI 0)
    simp only [oI, if_true]
    rw [e_M_smell, q0, m_streetAt (d := d + 47) hg (qq_cm t2), e]
    simp only [oI, n_m1, if_true]
    exact hK _ _ t1 t2
  | some k =>
    obtain ⟨hk, hst⟩ := stc_some e
    simp only [oI]
    simp (disch := omega) only [↓n_m1, ↓n_hid, q0, q1, q2, q3, q4, q5, q6, q7, q8, q9, q10, q11, q12, q13, q14, q15, q16, q17, q18, q19, q20, q21, q22, q23, q24, q25, q26, q27, q28, q29, q30, q31, q32, q33, q34, q35, q36, q37, q38, q39, q40, q41, q42, q43, q44, q45, q46, q47, q48, q49, q50, q51, q52, q53, q54, q55, q56, q57, q58, q59, q61, q62, q63, q64, q66, q67, q68, q69, q70, q71, q91, q93, q99, q100, q102, q104, q107, q108, q112, q114, q115, q119, q121, q124, q160, q200, q255, q640, q999, q1000, q2000, q4096, n_of, nI_ltI, nI_leI, nI_eq, nI_clamp, nI_add, pk_mul, n_sub, m1_eq, m1_eq2, m1_lt, m1_lt2, gdN, Nat.not_lt_zero, false_or, if_true, if_false, if_pos, if_neg, cond_true, cond_false, beq_self, and_self, true_and, and_true, not_true_eq_false, not_false_eq_true, ne_eq]
    rw [c_isKind (d := d + 48)]
    by_cases hy : 0 ≤ y.toInt ∧ y.toInt ≤ 4
    · obtain ⟨q, hq5, rfl⟩ := inN (n := 4) hy (by decide)
      rw [decide_eq_true hy]
      simp only [b01_0, Bool.true_eq_false, if_false]
      rw [c_now (d := d + 47) (by omega), (qq_w h).1]
      refine q_blow (d := d + 41) h (qq_w h).2 ?_
      intro s1 f1 h1 n1 _
      rw [c_smelling (d := d + 45) (qq_isC h) hg n1.1 n1.2.1 n1.2.2.1 n1.2.2.2.1, c_greatest (d := d + 46) hg n1.2.2.2.2.1 (smI_6 hg) hk (by omega) (fun _ _ z => by simp at z), qq_o h1]
      obtain ⟨t1, t2⟩ := q_thr h1 (x := nI 0)
      rw [e_M_smell, q0, m_streetAt (d := d + 47) hg (qq_cm t2), e]
      simp only [oI]
      simp (disch := omega) only [↓n_m1, ↓n_hid, q0, q1, q2, q3, q4, q5, q6, q7, q8, q9, q10, q11, q12, q13, q14, q15, q16, q17, q18, q19, q20, q21, q22, q23, q24, q25, q26, q27, q28, q29, q30, q31, q32, q33, q34, q35, q36, q37, q38, q39, q40, q41, q42, q43, q44, q45, q46, q47, q48, q49, q50, q51, q52, q53, q54, q55, q56, q57, q58, q59, q61, q62, q63, q64, q66, q67, q68, q69, q70, q71, q91, q93, q99, q100, q102, q104, q107, q108, q112, q114, q115, q119, q121, q124, q160, q200, q255, q640, q999, q1000, q2000, q4096, n_of, nI_ltI, nI_leI, nI_eq, nI_clamp, nI_add, pk_mul, n_sub, m1_eq, m1_eq2, m1_lt, m1_lt2, gdN, Nat.not_lt_zero, false_or, if_true, if_false, if_pos, if_neg, cond_true, cond_false, beq_self, and_self, true_and, and_true, not_true_eq_false, not_false_eq_true, ne_eq]
      rw [mi4 (d := d + 48), decide_eq_true hy]
      simp only [b01_0, Bool.true_eq_false, if_false]
      refine q_layNow (d := d + 14) t2 ?_
      intro s2 f2 h2 hS hB _
      simp (disch := omega) only [↓n_m1, ↓n_hid, q0, q1, q2, q3, q4, q5, q6, q7, q8, q9, q10, q11, q12, q13, q14, q15, q16, q17, q18, q19, q20, q21, q22, q23, q24, q25, q26, q27, q28, q29, q30, q31, q32, q33, q34, q35, q36, q37, q38, q39, q40, q41, q42, q43, q44, q45, q46, q47, q48, q49, q50, q51, q52, q53, q54, q55, q56, q57, q58, q59, q61, q62, q63, q64, q66, q67, q68, q69, q70, q71, q91, q93, q99, q100, q102, q104, q107, q108, q112, q114, q115, q119, q121, q124, q160, q200, q255, q640, q999, q1000, q2000, q4096, n_of, nI_ltI, nI_leI, nI_eq, nI_clamp, nI_add, pk_mul, n_sub, m1_eq, m1_eq2, m1_lt, m1_lt2, gdN, Nat.not_lt_zero, false_or, if_true, if_false, if_pos, if_neg, cond_true, cond_false, beq_self, and_self, true_and, and_true, not_true_eq_false, not_false_eq_true, ne_eq, hS k q (by omega) (by omega)]
      have ev : smX g W (hr % 24) rn w o none k q = smN g W (hr % 24) rn w (smI g (hr % 24) o) none k q := by
        unfold smX
        rw [if_pos hk, smN_o (smI_o hg)]
      rw [ev]
      exact hK _ _ (fr_t f1 (fr_t t1 f2)) h2
    · obtain ⟨t1, t2⟩ := q_thr h (x := nI 0)
      rw [decide_eq_false hy]
      simp only [b01_0, if_true]
      rw [e_M_smell, q0, m_streetAt (d := d + 47) hg (qq_cm t2), e]
      simp only [oI]
      simp (disch := omega) only [↓n_m1, ↓n_hid, q0, q1, q2, q3, q4, q5, q6, q7, q8, q9, q10, q11, q12, q13, q14, q15, q16, q17, q18, q19, q20, q21, q22, q23, q24, q25, q26, q27, q28, q29, q30, q31, q32, q33, q34, q35, q36, q37, q38, q39, q40, q41, q42, q43, q44, q45, q46, q47, q48, q49, q50, q51, q52, q53, q54, q55, q56, q57, q58, q59, q61, q62, q63, q64, q66, q67, q68, q69, q70, q71, q91, q93, q99, q100, q102, q104, q107, q108, q112, q114, q115, q119, q121, q124, q160, q200, q255, q640, q999, q1000, q2000, q4096, n_of, nI_ltI, nI_leI, nI_eq, nI_clamp, nI_add, pk_mul, n_sub, m1_eq, m1_eq2, m1_lt, m1_lt2, gdN, Nat.not_lt_zero, false_or, if_true, if_false, if_pos, if_neg, cond_true, cond_false, beq_self, and_self, true_and, and_true, not_true_eq_false, not_false_eq_true, ne_eq]
      rw [mi4 (d := d + 48), decide_eq_false hy]
      simp only [b01_0, if_true]
      exact hK _ _ t1 t2
theorem QQ_c {t : Mem} {L : List Nat} (h : QQ c g W P Q lv Ll w rn dl hr o s) (hf : frm L s t) (hL : ∀ a, a ∈ L → (37 ≤ a ∧ a ≤ 41) ∨ (50 ≤ a ∧ a ≤ 56)) : fr c Ll s t ∧ QQ c g W P Q lv Ll w rn dl hr o t := by
  have h16 := C_le (qq_isC h)
  have n57 : 57 ∉ L := fun z => by have := hL 57 z; omega
  have f1 : fr c Ll s t := fr_f hf n57 (fun a z => scA_m (by have := hL a z; omega))
  refine ⟨f1, QQ_f h f1 (CityF_N (J := []) (qq_isC h) (frN_f hf n57) (fun a z => by have := hL a z; omega) (qq_cf h)) ?_ (by rw [hf 57 n57]; exact qq_x33 h)⟩
  exact qq_pst h s t (fr_f hf n57 (fun a z => scA_m (by have := hL a z; omega))) (qq_P h)
theorem out_n {x : Int32} {n : Nat} (hn : n + 1 < 2 ^ 31) (h : ¬ (0 ≤ x.toInt ∧ x.toInt ≤ n)) : x < nI 0 ∨ (¬ x < nI 0 ∧ ¬ x < nI (n + 1)) := by
  rw [Int32.lt_iff_toInt_lt, Int32.lt_iff_toInt_lt, n_i (by omega), n_i (by omega)]
  omega
theorem smX_o (hg : gOk g) {k q w' h : Nat} (hk : k < gN g) : smX g W h rn w' o none k q = smN g W h rn w' (smI g h o) none k q := by
  unfold smX
  rw [if_pos hk, smN_o (smI_o hg)]
theorem smX_99 {h k q w' : Nat} {o' : Int32} : smX g W h rn w' o' none k q ≤ 99 := by
  unfold smX
  split
  · exact smN_le
  · omega
theorem f_breath {K : Int32 → Int32 → Mem → Prop} (h : QQ c g W P Q lv Ll w rn dl hr o s) {x : Int32} (hK : ∀ v s', fr c Ll s s' → QQ c g W P Q lv Ll w rn dl hr o s' → K v v s') :
    wI (wp (d + 50)) m_X_breath [.ref 0, .int x] s (fun v s1 => wI (wp (d + 50)) m_M_breath [.ref 57, .int x] s1 (fun v' s2 => K v v' s2)) := by
  have hg := qq_gOk h
  have h20 := gN_le hg
  have hL := C_le (qq_isC h)
  rw [e_X_breath, qq_ref h]
  simp (disch := omega) only [↓n_m1, ↓n_hid, q0, q1, q2, q3, q4, q5, q6, q7, q8, q9, q10, q11, q12, q13, q14, q15, q16, q17, q18, q19, q20, q21, q22, q23, q24, q25, q26, q27, q28, q29, q30, q31, q32, q33, q34, q35, q36, q37, q38, q39, q40, q41, q42, q43, q44, q45, q46, q47, q48, q49, q50, q51, q52, q53, q54, q55, q56, q57, q58, q59, q61, q62, q63, q64, q66, q67, q68, q69, q70, q71, q91, q93, q99, q100, q102, q104, q107, q108, q112, q114, q115, q119, q121, q124, q160, q200, q255, q640, q999, q1000, q2000, q4096, n_of, nI_ltI, nI_leI, nI_eq, nI_clamp, nI_add, pk_mul, n_sub, m1_eq, m1_eq2, m1_lt, m1_lt2, gdN, Nat.not_lt_zero, false_or, if_true, if_false, if_pos, if_neg, cond_true, cond_false, beq_self, and_self, true_and, and_true, not_true_eq_false, not_false_eq_true, ne_eq, Nat.add_sub_cancel, C_b (qq_isC h)]
  rw [c_streetOf (d := d + 46) (qq_isC h) hg (qq_cf h).1]
  cases e : stc g x with
  | none =>
    obtain ⟨t1, t2⟩ := q_thr h (x := nI 0)
    simp only [oI, if_true]
    rw [e_M_breath, q0, m_streetAt (d := d + 47) hg (qq_cm t2), e]
    simp only [oI, n_m1, if_true]
    exact hK _ _ t1 t2
  | some k =>
    obtain ⟨hk, hst⟩ := stc_some e
    simp only [oI]
    simp (disch := omega) only [↓n_m1, ↓n_hid, q0, q1, q2, q3, q4, q5, q6, q7, q8, q9, q10, q11, q12, q13, q14, q15, q16, q17, q18, q19, q20, q21, q22, q23, q24, q25, q26, q27, q28, q29, q30, q31, q32, q33, q34, q35, q36, q37, q38, q39, q40, q41, q42, q43, q44, q45, q46, q47, q48, q49, q50, q51, q52, q53, q54, q55, q56, q57, q58, q59, q61, q62, q63, q64, q66, q67, q68, q69, q70, q71, q91, q93, q99, q100, q102, q104, q107, q108, q112, q114, q115, q119, q121, q124, q160, q200, q255, q640, q999, q1000, q2000, q4096, n_of, nI_ltI, nI_leI, nI_eq, nI_clamp, nI_add, pk_mul, n_sub, m1_eq, m1_eq2, m1_lt, m1_lt2, gdN, Nat.not_lt_zero, false_or, if_true, if_false, if_pos, if_neg, cond_true, cond_false, beq_self, and_self, true_and, and_true, not_true_eq_false, not_false_eq_true, ne_eq]
    rw [c_now (d := d + 47) (by omega), (qq_w h).1]
    refine q_blow (d := d + 41) h (qq_w h).2 ?_
    intro s1 f1 h1 n1 _
    rw [c_smelling (d := d + 45) (qq_isC h) hg n1.1 n1.2.1 n1.2.2.1 n1.2.2.2.1, c_kindsAt (d := d + 45) hg n1.2.2.2.2.1 (qq_dl h).2 (smI_6 hg) hk (fun _ _ z => by simp at z), qq_o h1]
    obtain ⟨t1, t2⟩ := q_thr h1 (x := nI 0)
    rw [e_M_breath, q0, m_streetAt (d := d + 47) hg (qq_cm t2), e]
    simp only [oI]
    simp (disch := omega) only [↓n_m1, ↓n_hid, q0, q1, q2, q3, q4, q5, q6, q7, q8, q9, q10, q11, q12, q13, q14, q15, q16, q17, q18, q19, q20, q21, q22, q23, q24, q25, q26, q27, q28, q29, q30, q31, q32, q33, q34, q35, q36, q37, q38, q39, q40, q41, q42, q43, q44, q45, q46, q47, q48, q49, q50, q51, q52, q53, q54, q55, q56, q57, q58, q59, q61, q62, q63, q64, q66, q67, q68, q69, q70, q71, q91, q93, q99, q100, q102, q104, q107, q108, q112, q114, q115, q119, q121, q124, q160, q200, q255, q640, q999, q1000, q2000, q4096, n_of, nI_ltI, nI_leI, nI_eq, nI_clamp, nI_add, pk_mul, n_sub, m1_eq, m1_eq2, m1_lt, m1_lt2, gdN, Nat.not_lt_zero, false_or, if_true, if_false, if_pos, if_neg, cond_true, cond_false, beq_self, and_self, true_and, and_true, not_true_eq_false, not_false_eq_true, ne_eq]
    refine q_layNow (d := d + 14) t2 ?_
    intro s2 f2 h2 hS hB _
    simp (disch := omega) only [↓n_m1, ↓n_hid, q0, q1, q2, q3, q4, q5, q6, q7, q8, q9, q10, q11, q12, q13, q14, q15, q16, q17, q18, q19, q20, q21, q22, q23, q24, q25, q26, q27, q28, q29, q30, q31, q32, q33, q34, q35, q36, q37, q38, q39, q40, q41, q42, q43, q44, q45, q46, q47, q48, q49, q50, q51, q52, q53, q54, q55, q56, q57, q58, q59, q61, q62, q63, q64, q66, q67, q68, q69, q70, q71, q91, q93, q99, q100, q102, q104, q107, q108, q112, q114, q115, q119, q121, q124, q160, q200, q255, q640, q999, q1000, q2000, q4096, n_of, nI_ltI, nI_leI, nI_eq, nI_clamp, nI_add, pk_mul, n_sub, m1_eq, m1_eq2, m1_lt, m1_lt2, gdN, Nat.not_lt_zero, false_or, if_true, if_false, if_pos, if_neg, cond_true, cond_false, beq_self, and_self, true_and, and_true, not_true_eq_false, not_false_eq_true, ne_eq, hB k hk]
    rw [brI_o (smI_o hg)]
    exact hK _ _ (fr_t f1 (fr_t t1 f2)) h2
theorem f_strongest {K : Int32 → Int32 → Mem → Prop} (h : QQ c g W P Q lv Ll w rn dl hr o s) {x : Int32} (hK : ∀ v s', fr c Ll s s' → QQ c g W P Q lv Ll w rn dl hr o s' → K v v s') :
    wI (wp (d + 50)) m_X_strongest [.ref 0, .int x] s (fun v s1 => wI (wp (d + 50)) m_M_strongest [.ref 57, .int x] s1 (fun v' s2 => K v v' s2)) := by
  have hg := qq_gOk h
  have h20 := gN_le hg
  have hL := C_le (qq_isC h)
  rw [e_X_strongest, qq_ref h]
  simp (disch := omega) only [↓n_m1, ↓n_hid, q0, q1, q2, q3, q4, q5, q6, q7, q8, q9, q10, q11, q12, q13, q14, q15, q16, q17, q18, q19, q20, q21, q22, q23, q24, q25, q26, q27, q28, q29, q30, q31, q32, q33, q34, q35, q36, q37, q38, q39, q40, q41, q42, q43, q44, q45, q46, q47, q48, q49, q50, q51, q52, q53, q54, q55, q56, q57, q58, q59, q61, q62, q63, q64, q66, q67, q68, q69, q70, q71, q91, q93, q99, q100, q102, q104, q107, q108, q112, q114, q115, q119, q121, q124, q160, q200, q255, q640, q999, q1000, q2000, q4096, n_of, nI_ltI, nI_leI, nI_eq, nI_clamp, nI_add, pk_mul, n_sub, m1_eq, m1_eq2, m1_lt, m1_lt2, gdN, Nat.not_lt_zero, false_or, if_true, if_false, if_pos, if_neg, cond_true, cond_false, beq_self, and_self, true_and, and_true, not_true_eq_false, not_false_eq_true, ne_eq, Nat.add_sub_cancel, C_b (qq_isC h)]
  rw [c_streetOf (d := d + 46) (qq_isC h) hg (qq_cf h).1]
  cases e : stc g x with
  | none =>
    obtain ⟨t1, t2⟩ := q_thr h (x := nI 0)
    simp only [oI, if_true]
    rw [e_M_strongest, q0, m_streetAt (d := d + 47) hg (qq_cm t2), e]
    simp only [oI, n_m1, if_true]
    exact hK _ _ t1 t2
  | some k =>
    obtain ⟨hk, hst⟩ := stc_some e
    simp only [oI]
    simp (disch := omega) only [↓n_m1, ↓n_hid, q0, q1, q2, q3, q4, q5, q6, q7, q8, q9, q10, q11, q12, q13, q14, q15, q16, q17, q18, q19, q20, q21, q22, q23, q24, q25, q26, q27, q28, q29, q30, q31, q32, q33, q34, q35, q36, q37, q38, q39, q40, q41, q42, q43, q44, q45, q46, q47, q48, q49, q50, q51, q52, q53, q54, q55, q56, q57, q58, q59, q61, q62, q63, q64, q66, q67, q68, q69, q70, q71, q91, q93, q99, q100, q102, q104, q107, q108, q112, q114, q115, q119, q121, q124, q160, q200, q255, q640, q999, q1000, q2000, q4096, n_of, nI_ltI, nI_leI, nI_eq, nI_clamp, nI_add, pk_mul, n_sub, m1_eq, m1_eq2, m1_lt, m1_lt2, gdN, Nat.not_lt_zero, false_or, if_true, if_false, if_pos, if_neg, cond_true, cond_false, beq_self, and_self, true_and, and_true, not_true_eq_false, not_false_eq_true, ne_eq]
    rw [c_now (d := d + 47) (by omega), (qq_w h).1]
    refine q_blow (d := d + 41) h (qq_w h).2 ?_
    intro s1 f1 h1 n1 _
    refine Eq.mpr (c_strongest_l (d := d + 44) (qq_isC h) hg n1 (qq_dl h).2 hk (F := fun q => smX g W (hr % 24) rn w o none k q) (fun q => by rw [qq_o h1]; exact (smX_o hg hk).symm) 5 0 none _ _ rfl) ?_
    obtain ⟨t1, t2⟩ := q_thr h1 (x := nI 0)
    rw [e_M_strongest, q0, m_streetAt (d := d + 47) hg (qq_cm t2), e]
    simp only [oI]
    simp (disch := omega) only [↓n_m1, ↓n_hid, q0, q1, q2, q3, q4, q5, q6, q7, q8, q9, q10, q11, q12, q13, q14, q15, q16, q17, q18, q19, q20, q21, q22, q23, q24, q25, q26, q27, q28, q29, q30, q31, q32, q33, q34, q35, q36, q37, q38, q39, q40, q41, q42, q43, q44, q45, q46, q47, q48, q49, q50, q51, q52, q53, q54, q55, q56, q57, q58, q59, q61, q62, q63, q64, q66, q67, q68, q69, q70, q71, q91, q93, q99, q100, q102, q104, q107, q108, q112, q114, q115, q119, q121, q124, q160, q200, q255, q640, q999, q1000, q2000, q4096, n_of, nI_ltI, nI_leI, nI_eq, nI_clamp, nI_add, pk_mul, n_sub, m1_eq, m1_eq2, m1_lt, m1_lt2, gdN, Nat.not_lt_zero, false_or, if_true, if_false, if_pos, if_neg, cond_true, cond_false, beq_self, and_self, true_and, and_true, not_true_eq_false, not_false_eq_true, ne_eq]
    refine q_layNow (d := d + 14) t2 ?_
    intro s2 f2 h2 hS hB _
    refine Eq.mpr (m_strongest_l (d := d + 47) hS (fun _ _ => smX_99) (by rw [qq_e68 h2 3 (by decide)]; exact (qq_dl h2).1) (qq_dl h2).2 (show k < 20 by omega) 5 0 none _ rfl (fun _ z => by simp at z)) ?_
    exact hK _ _ (fr_t f1 (fr_t t1 f2)) h2
theorem q_there {K : Int32 → Mem → Prop} {d : Nat} (h : QQ c g W P Q lv Ll w rn dl hr o s) : wI (wp (d + 1)) m_C_isThere [.ref c] s K = K (b01 (decide (0 < gR g))) s := c_isThere (qq_isC h) (qq_gOk h) (qq_cf h).1
theorem q_r0 (h : QQ c g W P Q lv Ll w rn dl hr o s) : ((s 57 24) = nI 0) = (¬ 0 < gR g) := by
  have := (qq_gOk h).1
  rw [(qq_cm h).1]
  simp (disch := omega) only [↓n_m1, ↓n_hid, q0, q1, q2, q3, q4, q5, q6, q7, q8, q9, q10, q11, q12, q13, q14, q15, q16, q17, q18, q19, q20, q21, q22, q23, q24, q25, q26, q27, q28, q29, q30, q31, q32, q33, q34, q35, q36, q37, q38, q39, q40, q41, q42, q43, q44, q45, q46, q47, q48, q49, q50, q51, q52, q53, q54, q55, q56, q57, q58, q59, q61, q62, q63, q64, q66, q67, q68, q69, q70, q71, q91, q93, q99, q100, q102, q104, q107, q108, q112, q114, q115, q119, q121, q124, q160, q200, q255, q640, q999, q1000, q2000, q4096, n_of, nI_ltI, nI_leI, nI_eq, nI_clamp, nI_add, pk_mul, n_sub, m1_eq, m1_eq2, m1_lt, m1_lt2, gdN, Nat.not_lt_zero, false_or, if_true, if_false, if_pos, if_neg, cond_true, cond_false, beq_self, and_self, true_and, and_true, not_true_eq_false, not_false_eq_true, ne_eq]
  exact propext ⟨fun z => by omega, fun z => by omega⟩
theorem f_silent {K : Int32 → Int32 → Mem → Prop} (h : QQ c g W P Q lv Ll w rn dl hr o s) (hK : ∀ v s', fr c Ll s s' → QQ c g W P Q lv Ll w rn dl hr o s' → K v v s') :
    wI (wp (d + 50)) m_X_silent [.ref 0] s (fun v s1 => wI (wp (d + 50)) m_M_silent [.ref 57] s1 (fun v' s2 => K v v' s2)) := by
  have hg := qq_gOk h
  have h20 := gN_le hg
  have hL := C_le (qq_isC h)
  rw [e_X_silent, qq_ref h]
  simp (disch := omega) only [↓n_m1, ↓n_hid, q0, q1, q2, q3, q4, q5, q6, q7, q8, q9, q10, q11, q12, q13, q14, q15, q16, q17, q18, q19, q20, q21, q22, q23, q24, q25, q26, q27, q28, q29, q30, q31, q32, q33, q34, q35, q36, q37, q38, q39, q40, q41, q42, q43, q44, q45, q46, q47, q48, q49, q50, q51, q52, q53, q54, q55, q56, q57, q58, q59, q61, q62, q63, q64, q66, q67, q68, q69, q70, q71, q91, q93, q99, q100, q102, q104, q107, q108, q112, q114, q115, q119, q121, q124, q160, q200, q255, q640, q999, q1000, q2000, q4096, n_of, nI_ltI, nI_leI, nI_eq, nI_clamp, nI_add, pk_mul, n_sub, m1_eq, m1_eq2, m1_lt, m1_lt2, gdN, Nat.not_lt_zero, false_or, if_true, if_false, if_pos, if_neg, cond_true, cond_false, beq_self, and_self, true_and, and_true, not_true_eq_false, not_false_eq_true, ne_eq, Nat.add_sub_cancel, C_b (qq_isC h)]
  rw [q_there (d := d + 48) h]
  by_cases hR : 0 < gR g
  · rw [decide_eq_true hR]
    simp (disch := omega) only [↓n_m1, ↓n_hid, q0, q1, q2, q3, q4, q5, q6, q7, q8, q9, q10, q11, q12, q13, q14, q15, q16, q17, q18, q19, q20, q21, q22, q23, q24, q25, q26, q27, q28, q29, q30, q31, q32, q33, q34, q35, q36, q37, q38, q39, q40, q41, q42, q43, q44, q45, q46, q47, q48, q49, q50, q51, q52, q53, q54, q55, q56, q57, q58, q59, q61, q62, q63, q64, q66, q67, q68, q69, q70, q71, q91, q93, q99, q100, q102, q104, q107, q108, q112, q114, q115, q119, q121, q124, q160, q200, q255, q640, q999, q1000, q2000, q4096, n_of, nI_ltI, nI_leI, nI_eq, nI_clamp, nI_add, pk_mul, n_sub, m1_eq, m1_eq2, m1_lt, m1_lt2, gdN, Nat.not_lt_zero, false_or, if_true, if_false, if_pos, if_neg, cond_true, cond_false, beq_self, and_self, true_and, and_true, not_true_eq_false, not_false_eq_true, ne_eq, b01_0, Bool.true_eq_false]
    rw [c_now (d := d + 47) (by omega), (qq_w h).1]
    refine q_blow (d := d + 41) h (qq_w h).2 ?_
    intro s1 f1 h1 n1 _
    rw [qq_ref h1]
    simp (disch := omega) only [↓n_m1, ↓n_hid, q0, q1, q2, q3, q4, q5, q6, q7, q8, q9, q10, q11, q12, q13, q14, q15, q16, q17, q18, q19, q20, q21, q22, q23, q24, q25, q26, q27, q28, q29, q30, q31, q32, q33, q34, q35, q36, q37, q38, q39, q40, q41, q42, q43, q44, q45, q46, q47, q48, q49, q50, q51, q52, q53, q54, q55, q56, q57, q58, q59, q61, q62, q63, q64, q66, q67, q68, q69, q70, q71, q91, q93, q99, q100, q102, q104, q107, q108, q112, q114, q115, q119, q121, q124, q160, q200, q255, q640, q999, q1000, q2000, q4096, n_of, nI_ltI, nI_leI, nI_eq, nI_clamp, nI_add, pk_mul, n_sub, m1_eq, m1_eq2, m1_lt, m1_lt2, gdN, Nat.not_lt_zero, false_or, if_true, if_false, if_pos, if_neg, cond_true, cond_false, beq_self, and_self, true_and, and_true, not_true_eq_false, not_false_eq_true, ne_eq, Nat.add_sub_cancel]
    rw [c_smelling (d := d + 45) (qq_isC h) hg n1.1 n1.2.1 n1.2.2.1 n1.2.2.2.1]
    refine c_breathe (d := d + 43) (qq_isC h) hg n1.2.1 n1.2.2.2.2.1 (qq_dl h).2 (smI_6 hg) (fun _ _ z => by simp at z) (fun _ _ z => by simp at z) ?_
    intro s2 f2 hB2
    obtain ⟨f2', h2⟩ := QQ_c h1 f2 (by simp)
    refine Eq.mpr (c_silent_l (d := d + 46) (qq_isC h) hg (qq_ref h2) (qq_cf h2).1 (gN g) 0 (by omega)) ?_
    obtain ⟨t1, t2⟩ := q_thr h2 (x := nI 0)
    rw [e_M_silent, q0]
    simp (disch := omega) only [↓n_m1, ↓n_hid, q0, q1, q2, q3, q4, q5, q6, q7, q8, q9, q10, q11, q12, q13, q14, q15, q16, q17, q18, q19, q20, q21, q22, q23, q24, q25, q26, q27, q28, q29, q30, q31, q32, q33, q34, q35, q36, q37, q38, q39, q40, q41, q42, q43, q44, q45, q46, q47, q48, q49, q50, q51, q52, q53, q54, q55, q56, q57, q58, q59, q61, q62, q63, q64, q66, q67, q68, q69, q70, q71, q91, q93, q99, q100, q102, q104, q107, q108, q112, q114, q115, q119, q121, q124, q160, q200, q255, q640, q999, q1000, q2000, q4096, n_of, nI_ltI, nI_leI, nI_eq, nI_clamp, nI_add, pk_mul, n_sub, m1_eq, m1_eq2, m1_lt, m1_lt2, gdN, Nat.not_lt_zero, false_or, if_true, if_false, if_pos, if_neg, cond_true, cond_false, beq_self, and_self, true_and, and_true, not_true_eq_false, not_false_eq_true, ne_eq, q_r0 h2, hR]
    refine q_layNow (d := d + 14) t2 ?_
    intro s3 f3 h3 hS hB _
    refine Eq.mpr (m_silent_l (d := d + 46) hg (qq_cm h3) (gN g) 0 (by omega)) ?_
    have ev : bits (fun k => gst g k && decide (s2 40 k = nI 0)) (gN g) = bits (fun k => gst g k && decide (s3 73 k = nI 0)) (gN g) := bits_eq fun k hk => by rw [hB2 k hk, hB k hk, qq_o h1, brI_o (smI_o hg)]
    rw [ev]
    exact hK _ _ (fr_t f1 (fr_t f2' (fr_t t1 f3))) h3
  · obtain ⟨t1, t2⟩ := q_thr h (x := nI 0)
    rw [decide_eq_false hR]
    simp (disch := omega) only [↓n_m1, ↓n_hid, q0, q1, q2, q3, q4, q5, q6, q7, q8, q9, q10, q11, q12, q13, q14, q15, q16, q17, q18, q19, q20, q21, q22, q23, q24, q25, q26, q27, q28, q29, q30, q31, q32, q33, q34, q35, q36, q37, q38, q39, q40, q41, q42, q43, q44, q45, q46, q47, q48, q49, q50, q51, q52, q53, q54, q55, q56, q57, q58, q59, q61, q62, q63, q64, q66, q67, q68, q69, q70, q71, q91, q93, q99, q100, q102, q104, q107, q108, q112, q114, q115, q119, q121, q124, q160, q200, q255, q640, q999, q1000, q2000, q4096, n_of, nI_ltI, nI_leI, nI_eq, nI_clamp, nI_add, pk_mul, n_sub, m1_eq, m1_eq2, m1_lt, m1_lt2, gdN, Nat.not_lt_zero, false_or, if_true, if_false, if_pos, if_neg, cond_true, cond_false, beq_self, and_self, true_and, and_true, not_true_eq_false, not_false_eq_true, ne_eq, b01_0]
    rw [e_M_silent, q0]
    simp (disch := omega) only [↓n_m1, ↓n_hid, q0, q1, q2, q3, q4, q5, q6, q7, q8, q9, q10, q11, q12, q13, q14, q15, q16, q17, q18, q19, q20, q21, q22, q23, q24, q25, q26, q27, q28, q29, q30, q31, q32, q33, q34, q35, q36, q37, q38, q39, q40, q41, q42, q43, q44, q45, q46, q47, q48, q49, q50, q51, q52, q53, q54, q55, q56, q57, q58, q59, q61, q62, q63, q64, q66, q67, q68, q69, q70, q71, q91, q93, q99, q100, q102, q104, q107, q108, q112, q114, q115, q119, q121, q124, q160, q200, q255, q640, q999, q1000, q2000, q4096, n_of, nI_ltI, nI_leI, nI_eq, nI_clamp, nI_add, pk_mul, n_sub, m1_eq, m1_eq2, m1_lt, m1_lt2, gdN, Nat.not_lt_zero, false_or, if_true, if_false, if_pos, if_neg, cond_true, cond_false, beq_self, and_self, true_and, and_true, not_true_eq_false, not_false_eq_true, ne_eq, q_r0 h, hR]
    exact hK _ _ t1 t2
theorem ne_n {x : Int32} {n k : Nat} (h : ¬ (0 ≤ x.toInt ∧ x.toInt ≤ n)) (hk : k ≤ n) (hn : n < 2 ^ 31) : (x = nI k) = False := by
  refine eq_false fun e => h ?_
  rw [e, n_i (by omega)]
  omega
theorem q_walk {K : Int32 → Mem → Prop} (h : QQ c g W P Q lv Ll w rn dl hr o s) {t : Nat} {sd : Nat → Nat} {bt : Nat → Int32} (ht : t ≤ 12) (hsd : ∀ i, i < t → sd i < 5) (hC : TrC t sd bt s) (en : Bool)
    (hK : ∀ s', fr c Ll s s' → QQ c g W P Q lv Ll w rn dl hr o s' → K (fits g (brI g W (hr % 24) rn w dl o none) bt sd t en) s') :
    wI (wp (d + 9)) m_W_now [.ref 33, .int (nI 0)] s (fun x27 s27 => wV (wp (d + 9)) m_X_blow [.ref 0, .int x27] s27 (fun s30 => wI (wp (d + 9)) m_X_walked [.ref 0, .int (b01 en)] s30 K)) := by
  have hg := qq_gOk h
  rw [c_now (d := d + 7) (by omega), (qq_w h).1]
  refine q_blow (d := d + 1) h (qq_w h).2 ?_
  intro s1 f1 h1 n1 _
  have e42 : s1 42 = s 42 ∧ s1 43 = s 43 ∧ s1 44 = s 44 := ⟨f1.1 42 (scA_no (qq_isC h) (HlC_L (qq_hl h)) (by omega)) (by decide), f1.1 43 (scA_no (qq_isC h) (HlC_L (qq_hl h)) (by omega)) (by decide), f1.1 44 (scA_no (qq_isC h) (HlC_L (qq_hl h)) (by omega)) (by decide)⟩
  refine c_walked (d := d + 1) (qq_isC h) hg n1 (qq_dl h).2 ht hsd (by unfold TrC at *; rw [e42.1, e42.2.1, e42.2.2]; exact hC) ?_
  intro s2 f2
  obtain ⟨f2', h2⟩ := QQ_c h1 f2 (by simp)
  rw [qq_o h1]
  exact hK s2 (fr_t f1 f2') h2
theorem q_nows {K : Int32 → Mem → Prop} (h : QQ c g W P Q lv Ll w rn dl hr o s) {t : Nat} {sd : Nat → Nat} {bt : Nat → Int32} (ht : t ≤ 12) (hsd : ∀ i, i < t → sd i < 5) (hM : TrM t sd bt s) (st : Bool)
    (hK : ∀ s', fr c Ll s s' → QQ c g W P Q lv Ll w rn dl hr o s' → K (fits g (brI g W (hr % 24) rn w dl o none) bt sd t (! st)) s') :
    wI (wp (d + 36)) m_M_nowsOf [.ref 57, .int (b01 st)] s K := by
  have hg := qq_gOk h
  rw [e_M_nowsOf]
  refine q_layNow (d := d) h ?_
  intro s3 f hh3 hS hB _
  have e75 : s3 75 = s 75 ∧ s3 76 = s 76 := ⟨f.1 75 (scA_no (qq_isC h) (HlC_L (qq_hl h)) (by omega)) (by decide), f.1 76 (scA_no (qq_isC h) (HlC_L (qq_hl h)) (by omega)) (by decide)⟩
  refine Eq.mpr (m_nowsOf_l (d := d + 30) hg (qq_cm hh3) ht hsd (by unfold TrM at *; rw [e75.1, e75.2, f.2 42 (by decide)]; exact hM) (gN g) 0 _ _ (by omega)) ?_
  have ev : itr (fitB g (s3 73) bt sd t (! st)) (gN g) 0 (nI 0) = fits g (brI g W (hr % 24) rn w dl o none) bt sd t (! st) := fits_e (br := s3 73) hB
  exact (congrArg (fun v => K v s3) ev).mpr (hK s3 f hh3)
theorem TrM_n {t : Mem} (hcc : isC c) (hL : ∀ a, a ∈ Ll → 18 ≤ a ∧ a ≤ 32) (f : fr c Ll s t) {n : Nat} {sd : Nat → Nat} {bt : Nat → Int32} (h : TrM n sd bt s) : TrM n sd bt t := by
  have e75 : t 75 = s 75 ∧ t 76 = s 76 := ⟨f.1 75 (scA_no hcc hL (by omega)) (by decide), f.1 76 (scA_no hcc hL (by omega)) (by decide)⟩
  unfold TrM at *
  rw [e75.1, e75.2, f.2 42 (by decide)]
  exact h
theorem f_where {K : Int32 → Int32 → Mem → Prop} (h : QQ c g W P Q lv Ll w rn dl hr o s) {t : Nat} {sd : Nat → Nat} {bt : Nat → Int32} (ht : t ≤ 12) (hsd : ∀ i, i < t → sd i < 5) (hC : TrC t sd bt s) (hM : TrM t sd bt s) {x : Int32} (hK : ∀ v s', fr c Ll s s' → QQ c g W P Q lv Ll w rn dl hr o s' → K v v s') :
    wI (wp (d + 50)) m_X_where [.ref 0, .int x] s (fun v s1 => wI (wp (d + 50)) m_M_where [.ref 57, .int x] s1 (fun v' s2 => K v v' s2)) := by
  have hg := qq_gOk h
  have h20 := gN_le hg
  have hL := C_le (qq_isC h)
  rw [e_X_where, qq_ref h]
  simp (disch := omega) only [↓n_m1, ↓n_hid, q0, q1, q2, q3, q4, q5, q6, q7, q8, q9, q10, q11, q12, q13, q14, q15, q16, q17, q18, q19, q20, q21, q22, q23, q24, q25, q26, q27, q28, q29, q30, q31, q32, q33, q34, q35, q36, q37, q38, q39, q40, q41, q42, q43, q44, q45, q46, q47, q48, q49, q50, q51, q52, q53, q54, q55, q56, q57, q58, q59, q61, q62, q63, q64, q66, q67, q68, q69, q70, q71, q91, q93, q99, q100, q102, q104, q107, q108, q112, q114, q115, q119, q121, q124, q160, q200, q255, q640, q999, q1000, q2000, q4096, n_of, nI_ltI, nI_leI, nI_eq, nI_clamp, nI_add, pk_mul, n_sub, m1_eq, m1_eq2, m1_lt, m1_lt2, gdN, Nat.not_lt_zero, false_or, if_true, if_false, if_pos, if_neg, cond_true, cond_false, beq_self, and_self, true_and, and_true, not_true_eq_false, not_false_eq_true, ne_eq, Nat.add_sub_cancel, C_b (qq_isC h)]
  rw [q_there (d := d + 48) h]
  by_cases hR : 0 < gR g
  · rw [decide_eq_true hR]
    simp (disch := omega) only [↓n_m1, ↓n_hid, q0, q1, q2, q3, q4, q5, q6, q7, q8, q9, q10, q11, q12, q13, q14, q15, q16, q17, q18, q19, q20, q21, q22, q23, q24, q25, q26, q27, q28, q29, q30, q31, q32, q33, q34, q35, q36, q37, q38, q39, q40, q41, q42, q43, q44, q45, q46, q47, q48, q49, q50, q51, q52, q53, q54, q55, q56, q57, q58, q59, q61, q62, q63, q64, q66, q67, q68, q69, q70, q71, q91, q93, q99, q100, q102, q104, q107, q108, q112, q114, q115, q119, q121, q124, q160, q200, q255, q640, q999, q1000, q2000, q4096, n_of, nI_ltI, nI_leI, nI_eq, nI_clamp, nI_add, pk_mul, n_sub, m1_eq, m1_eq2, m1_lt, m1_lt2, gdN, Nat.not_lt_zero, false_or, if_true, if_false, if_pos, if_neg, cond_true, cond_false, beq_self, and_self, true_and, and_true, not_true_eq_false, not_false_eq_true, ne_eq, b01_0, Bool.true_eq_false]
    by_cases hx : 0 ≤ x.toInt ∧ x.toInt ≤ 1
    · obtain ⟨q, hq1, rfl⟩ := inN (n := 1) hx (by decide)
      rcases (show q = 0 ∨ q = 1 by omega) with rfl | rfl
      · simp (disch := omega) only [↓n_m1, ↓n_hid, q0, q1, q2, q3, q4, q5, q6, q7, q8, q9, q10, q11, q12, q13, q14, q15, q16, q17, q18, q19, q20, q21, q22, q23, q24, q25, q26, q27, q28, q29, q30, q31, q32, q33, q34, q35, q36, q37, q38, q39, q40, q41, q42, q43, q44, q45, q46, q47, q48, q49, q50, q51, q52, q53, q54, q55, q56, q57, q58, q59, q61, q62, q63, q64, q66, q67, q68, q69, q70, q71, q91, q93, q99, q100, q102, q104, q107, q108, q112, q114, q115, q119, q121, q124, q160, q200, q255, q640, q999, q1000, q2000, q4096, n_of, nI_ltI, nI_leI, nI_eq, nI_clamp, nI_add, pk_mul, n_sub, m1_eq, m1_eq2, m1_lt, m1_lt2, gdN, Nat.not_lt_zero, false_or, if_true, if_false, if_pos, if_neg, cond_true, cond_false, beq_self, and_self, true_and, and_true, not_true_eq_false, not_false_eq_true, ne_eq]
        refine q_walk (d := d + 40) h ht hsd hC false ?_
        intro s2 f2 h2
        obtain ⟨t1, t2⟩ := q_thr h2 (x := nI 0)
        rw [e_M_where, q0]
        simp (disch := omega) only [↓n_m1, ↓n_hid, q0, q1, q2, q3, q4, q5, q6, q7, q8, q9, q10, q11, q12, q13, q14, q15, q16, q17, q18, q19, q20, q21, q22, q23, q24, q25, q26, q27, q28, q29, q30, q31, q32, q33, q34, q35, q36, q37, q38, q39, q40, q41, q42, q43, q44, q45, q46, q47, q48, q49, q50, q51, q52, q53, q54, q55, q56, q57, q58, q59, q61, q62, q63, q64, q66, q67, q68, q69, q70, q71, q91, q93, q99, q100, q102, q104, q107, q108, q112, q114, q115, q119, q121, q124, q160, q200, q255, q640, q999, q1000, q2000, q4096, n_of, nI_ltI, nI_leI, nI_eq, nI_clamp, nI_add, pk_mul, n_sub, m1_eq, m1_eq2, m1_lt, m1_lt2, gdN, Nat.not_lt_zero, false_or, if_true, if_false, if_pos, if_neg, cond_true, cond_false, beq_self, and_self, true_and, and_true, not_true_eq_false, not_false_eq_true, ne_eq, q_r0 h2, hR]
        rw [mi1 (d := d + 48), decide_eq_true hx]
        simp (disch := omega) only [↓n_m1, ↓n_hid, q0, q1, q2, q3, q4, q5, q6, q7, q8, q9, q10, q11, q12, q13, q14, q15, q16, q17, q18, q19, q20, q21, q22, q23, q24, q25, q26, q27, q28, q29, q30, q31, q32, q33, q34, q35, q36, q37, q38, q39, q40, q41, q42, q43, q44, q45, q46, q47, q48, q49, q50, q51, q52, q53, q54, q55, q56, q57, q58, q59, q61, q62, q63, q64, q66, q67, q68, q69, q70, q71, q91, q93, q99, q100, q102, q104, q107, q108, q112, q114, q115, q119, q121, q124, q160, q200, q255, q640, q999, q1000, q2000, q4096, n_of, nI_ltI, nI_leI, nI_eq, nI_clamp, nI_add, pk_mul, n_sub, m1_eq, m1_eq2, m1_lt, m1_lt2, gdN, Nat.not_lt_zero, false_or, if_true, if_false, if_pos, if_neg, cond_true, cond_false, beq_self, and_self, true_and, and_true, not_true_eq_false, not_false_eq_true, ne_eq, b01_0, Bool.true_eq_false]
        refine q_nows (d := d + 13) t2 ht hsd (TrM_n (qq_isC h) (HlC_L (qq_hl h)) (fr_t f2 t1) hM) true ?_
        intro s3 f3 h3
        exact hK _ _ (fr_t f2 (fr_t t1 f3)) h3
      · simp (disch := omega) only [↓n_m1, ↓n_hid, q0, q1, q2, q3, q4, q5, q6, q7, q8, q9, q10, q11, q12, q13, q14, q15, q16, q17, q18, q19, q20, q21, q22, q23, q24, q25, q26, q27, q28, q29, q30, q31, q32, q33, q34, q35, q36, q37, q38, q39, q40, q41, q42, q43, q44, q45, q46, q47, q48, q49, q50, q51, q52, q53, q54, q55, q56, q57, q58, q59, q61, q62, q63, q64, q66, q67, q68, q69, q70, q71, q91, q93, q99, q100, q102, q104, q107, q108, q112, q114, q115, q119, q121, q124, q160, q200, q255, q640, q999, q1000, q2000, q4096, n_of, nI_ltI, nI_leI, nI_eq, nI_clamp, nI_add, pk_mul, n_sub, m1_eq, m1_eq2, m1_lt, m1_lt2, gdN, Nat.not_lt_zero, false_or, if_true, if_false, if_pos, if_neg, cond_true, cond_false, beq_self, and_self, true_and, and_true, not_true_eq_false, not_false_eq_true, ne_eq]
        refine q_walk (d := d + 40) h ht hsd hC true ?_
        intro s2 f2 h2
        obtain ⟨t1, t2⟩ := q_thr h2 (x := nI 0)
        rw [e_M_where, q0]
        simp (disch := omega) only [↓n_m1, ↓n_hid, q0, q1, q2, q3, q4, q5, q6, q7, q8, q9, q10, q11, q12, q13, q14, q15, q16, q17, q18, q19, q20, q21, q22, q23, q24, q25, q26, q27, q28, q29, q30, q31, q32, q33, q34, q35, q36, q37, q38, q39, q40, q41, q42, q43, q44, q45, q46, q47, q48, q49, q50, q51, q52, q53, q54, q55, q56, q57, q58, q59, q61, q62, q63, q64, q66, q67, q68, q69, q70, q71, q91, q93, q99, q100, q102, q104, q107, q108, q112, q114, q115, q119, q121, q124, q160, q200, q255, q640, q999, q1000, q2000, q4096, n_of, nI_ltI, nI_leI, nI_eq, nI_clamp, nI_add, pk_mul, n_sub, m1_eq, m1_eq2, m1_lt, m1_lt2, gdN, Nat.not_lt_zero, false_or, if_true, if_false, if_pos, if_neg, cond_true, cond_false, beq_self, and_self, true_and, and_true, not_true_eq_false, not_false_eq_true, ne_eq, q_r0 h2, hR]
        rw [mi1 (d := d + 48), decide_eq_true hx]
        simp (disch := omega) only [↓n_m1, ↓n_hid, q0, q1, q2, q3, q4, q5, q6, q7, q8, q9, q10, q11, q12, q13, q14, q15, q16, q17, q18, q19, q20, q21, q22, q23, q24, q25, q26, q27, q28, q29, q30, q31, q32, q33, q34, q35, q36, q37, q38, q39, q40, q41, q42, q43, q44, q45, q46, q47, q48, q49, q50, q51, q52, q53, q54, q55, q56, q57, q58, q59, q61, q62, q63, q64, q66, q67, q68, q69, q70, q71, q91, q93, q99, q100, q102, q104, q107, q108, q112, q114, q115, q119, q121, q124, q160, q200, q255, q640, q999, q1000, q2000, q4096, n_of, nI_ltI, nI_leI, nI_eq, nI_clamp, nI_add, pk_mul, n_sub, m1_eq, m1_eq2, m1_lt, m1_lt2, gdN, Nat.not_lt_zero, false_or, if_true, if_false, if_pos, if_neg, cond_true, cond_false, beq_self, and_self, true_and, and_true, not_true_eq_false, not_false_eq_true, ne_eq, b01_0, Bool.true_eq_false]
        refine q_nows (d := d + 13) t2 ht hsd (TrM_n (qq_isC h) (HlC_L (qq_hl h)) (fr_t f2 t1) hM) false ?_
        intro s3 f3 h3
        exact hK _ _ (fr_t f2 (fr_t t1 f3)) h3
    · obtain ⟨t1, t2⟩ := q_thr h (x := nI 0)
      simp only [ne_n hx (show 0 ≤ 1 by decide) (by decide), ne_n hx (show 1 ≤ 1 by decide) (by decide), if_false]
      rw [e_M_where, q0]
      simp (disch := omega) only [↓n_m1, ↓n_hid, q0, q1, q2, q3, q4, q5, q6, q7, q8, q9, q10, q11, q12, q13, q14, q15, q16, q17, q18, q19, q20, q21, q22, q23, q24, q25, q26, q27, q28, q29, q30, q31, q32, q33, q34, q35, q36, q37, q38, q39, q40, q41, q42, q43, q44, q45, q46, q47, q48, q49, q50, q51, q52, q53, q54, q55, q56, q57, q58, q59, q61, q62, q63, q64, q66, q67, q68, q69, q70, q71, q91, q93, q99, q100, q102, q104, q107, q108, q112, q114, q115, q119, q121, q124, q160, q200, q255, q640, q999, q1000, q2000, q4096, n_of, nI_ltI, nI_leI, nI_eq, nI_clamp, nI_add, pk_mul, n_sub, m1_eq, m1_eq2, m1_lt, m1_lt2, gdN, Nat.not_lt_zero, false_or, if_true, if_false, if_pos, if_neg, cond_true, cond_false, beq_self, and_self, true_and, and_true, not_true_eq_false, not_false_eq_true, ne_eq, q_r0 h, hR]
      rw [mi1 (d := d + 48), decide_eq_false hx]
      simp (disch := omega) only [↓n_m1, ↓n_hid, q0, q1, q2, q3, q4, q5, q6, q7, q8, q9, q10, q11, q12, q13, q14, q15, q16, q17, q18, q19, q20, q21, q22, q23, q24, q25, q26, q27, q28, q29, q30, q31, q32, q33, q34, q35, q36, q37, q38, q39, q40, q41, q42, q43, q44, q45, q46, q47, q48, q49, q50, q51, q52, q53, q54, q55, q56, q57, q58, q59, q61, q62, q63, q64, q66, q67, q68, q69, q70, q71, q91, q93, q99, q100, q102, q104, q107, q108, q112, q114, q115, q119, q121, q124, q160, q200, q255, q640, q999, q1000, q2000, q4096, n_of, nI_ltI, nI_leI, nI_eq, nI_clamp, nI_add, pk_mul, n_sub, m1_eq, m1_eq2, m1_lt, m1_lt2, gdN, Nat.not_lt_zero, false_or, if_true, if_false, if_pos, if_neg, cond_true, cond_false, beq_self, and_self, true_and, and_true, not_true_eq_false, not_false_eq_true, ne_eq, b01_0]
      exact hK _ _ t1 t2
  · obtain ⟨t1, t2⟩ := q_thr h (x := nI 0)
    rw [decide_eq_false hR]
    simp (disch := omega) only [↓n_m1, ↓n_hid, q0, q1, q2, q3, q4, q5, q6, q7, q8, q9, q10, q11, q12, q13, q14, q15, q16, q17, q18, q19, q20, q21, q22, q23, q24, q25, q26, q27, q28, q29, q30, q31, q32, q33, q34, q35, q36, q37, q38, q39, q40, q41, q42, q43, q44, q45, q46, q47, q48, q49, q50, q51, q52, q53, q54, q55, q56, q57, q58, q59, q61, q62, q63, q64, q66, q67, q68, q69, q70, q71, q91, q93, q99, q100, q102, q104, q107, q108, q112, q114, q115, q119, q121, q124, q160, q200, q255, q640, q999, q1000, q2000, q4096, n_of, nI_ltI, nI_leI, nI_eq, nI_clamp, nI_add, pk_mul, n_sub, m1_eq, m1_eq2, m1_lt, m1_lt2, gdN, Nat.not_lt_zero, false_or, if_true, if_false, if_pos, if_neg, cond_true, cond_false, beq_self, and_self, true_and, and_true, not_true_eq_false, not_false_eq_true, ne_eq, b01_0]
    rw [e_M_where, q0]
    simp (disch := omega) only [↓n_m1, ↓n_hid, q0, q1, q2, q3, q4, q5, q6, q7, q8, q9, q10, q11, q12, q13, q14, q15, q16, q17, q18, q19, q20, q21, q22, q23, q24, q25, q26, q27, q28, q29, q30, q31, q32, q33, q34, q35, q36, q37, q38, q39, q40, q41, q42, q43, q44, q45, q46, q47, q48, q49, q50, q51, q52, q53, q54, q55, q56, q57, q58, q59, q61, q62, q63, q64, q66, q67, q68, q69, q70, q71, q91, q93, q99, q100, q102, q104, q107, q108, q112, q114, q115, q119, q121, q124, q160, q200, q255, q640, q999, q1000, q2000, q4096, n_of, nI_ltI, nI_leI, nI_eq, nI_clamp, nI_add, pk_mul, n_sub, m1_eq, m1_eq2, m1_lt, m1_lt2, gdN, Nat.not_lt_zero, false_or, if_true, if_false, if_pos, if_neg, cond_true, cond_false, beq_self, and_self, true_and, and_true, not_true_eq_false, not_false_eq_true, ne_eq, q_r0 h, hR]
    exact hK _ _ t1 t2
end
