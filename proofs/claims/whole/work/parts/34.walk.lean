/-! where one goes by the trail -/
section
variable {d c : Nat} {g : Gph} {s : Mem}
theorem m_stays5 {K : Int32 → Mem → Prop} (hg : gOk g) (hc : CityM g s) {p side : Nat} (hp : p < gN g) (hst : gst g p = true) (hs : side < 5) : wI (wp (d + 2)) m_M_stays [.ref 57, .int (nI p), .int (nI side)] s K = K (nI (bes g p side)) s := by
  by_cases h1 : 1 ≤ side
  · exact m_stays hg hc hp ⟨h1, hs⟩
  · obtain rfl : side = 0 := by omega
    have h1 := hg.1
    have h2 := hg.2.1
    have h5 := gN_le hg
    have h6 := gC_pos hp
    have hm := Nat.mod_lt p h6
    have he := Nat.div_add_mod p (gC g)
    have hd : p / gC g < gR g := (Nat.div_lt_iff_lt_mul h6).mpr hp
    rw [e_M_stays, e_M_besideOf]
    simp only [r_M_besideOf_27, hc.2.1]
    rw [pk_rem (by omega) h6 (by omega), pk_div (by omega) h6 (by omega)]
    generalize ha : p / gC g = a at *
    generalize hb : p % gC g = b at *
    simp (disch := omega) only [↓n_m1, ↓n_hid, q0, q1, q2, q3, q4, q5, q6, q7, q8, q9, q10, q11, q12, q13, q14, q15, q16, q17, q18, q19, q20, q21, q22, q23, q24, q25, q26, q27, q28, q29, q30, q31, q32, q33, q34, q35, q36, q37, q38, q39, q40, q41, q42, q43, q44, q45, q46, q47, q48, q49, q50, q51, q52, q53, q54, q55, q56, q57, q58, q59, q61, q62, q63, q64, q66, q67, q68, q69, q70, q71, q91, q93, q99, q100, q102, q104, q107, q108, q112, q114, q115, q119, q121, q124, q160, q200, q255, q640, q999, q1000, q2000, q4096, n_of, nI_ltI, nI_leI, nI_eq, nI_clamp, nI_add, pk_mul, n_sub, m1_eq, m1_eq2, m1_lt, m1_lt2, gdN, Nat.not_lt_zero, false_or, if_true, if_false, if_pos, if_neg, cond_true, cond_false, beq_self, and_self, true_and, and_true, not_true_eq_false, not_false_eq_true, ne_eq, Nat.add_zero, m_bes55 hg hc]
    rw [he]
    have e : (a < gR g ∧ b < gC g) ∧ gst g p = true := ⟨⟨hd, hm⟩, hst⟩
    have eb : bes g p 0 = p := rfl
    rw [eb]
    simp only [e, and_self, if_true]
    simp (disch := omega) only [↓n_m1, ↓n_hid, q0, q1, q2, q3, q4, q5, q6, q7, q8, q9, q10, q11, q12, q13, q14, q15, q16, q17, q18, q19, q20, q21, q22, q23, q24, q25, q26, q27, q28, q29, q30, q31, q32, q33, q34, q35, q36, q37, q38, q39, q40, q41, q42, q43, q44, q45, q46, q47, q48, q49, q50, q51, q52, q53, q54, q55, q56, q57, q58, q59, q61, q62, q63, q64, q66, q67, q68, q69, q70, q71, q91, q93, q99, q100, q102, q104, q107, q108, q112, q114, q115, q119, q121, q124, q160, q200, q255, q640, q999, q1000, q2000, q4096, n_of, nI_ltI, nI_leI, nI_eq, nI_clamp, nI_add, pk_mul, n_sub, m1_eq, m1_eq2, m1_lt, m1_lt2, gdN, Nat.not_lt_zero, false_or, if_true, if_false, if_pos, if_neg, cond_true, cond_false, beq_self, and_self, true_and, and_true, not_true_eq_false, not_false_eq_true, ne_eq]
def wlk (g : Gph) (br bt : Nat → Int32) (sd : Nat → Nat) : Nat → Nat → Nat → Option Nat
  | 0, _, k => some k
  | n + 1, i, k => if br (bes g k (sd i)) = bt i then wlk g br bt sd n (i + 1) (bes g k (sd i)) else none
theorem wlk_lt {br bt : Nat → Int32} {sd : Nat → Nat} : ∀ {n i k e : Nat}, k < gN g → wlk g br bt sd n i k = some e → e < gN g
  | 0, _, _, _, hk, h => by
    injection h with h
    subst h; exact hk
  | n + 1, i, k, e, hk, h => by
    unfold wlk at h
    split at h
    · exact wlk_lt (bes_lt hk _) h
    · simp at h
def fitB (g : Gph) (br bt : Nat → Int32) (sd : Nat → Nat) (t : Nat) (ends : Bool) : Nat → Int32 → Int32 := fun k x =>
  if gst g k = true then (match wlk g br bt sd t 0 k with
    | none => x
    | some e => x ||| bit (if ends = true then e else k)) else x
def fits (g : Gph) (br bt : Nat → Int32) (sd : Nat → Nat) (t : Nat) (ends : Bool) : Int32 := itr (fitB g br bt sd t ends) (gN g) 0 (nI 0)
theorem fitB_e {br br' bt : Nat → Int32} {sd : Nat → Nat} (h : ∀ k, k < gN g → br k = br' k) : ∀ {n i k : Nat}, k < gN g → wlk g br bt sd n i k = wlk g br' bt sd n i k
  | 0, _, _, _ => rfl
  | n + 1, i, k, hk => by
    unfold wlk
    rw [h _ (bes_lt hk _), fitB_e h (bes_lt hk _)]
theorem fits_e {br br' bt : Nat → Int32} {sd : Nat → Nat} {t : Nat} {ends : Bool} (h : ∀ k, k < gN g → br k = br' k) : fits g br bt sd t ends = fits g br' bt sd t ends := by
  unfold fits
  refine itr_eq fun k x _ hk => ?_
  unfold fitB
  rw [fitB_e h (by omega)]
def TrC (t : Nat) (sd : Nat → Nat) (bt : Nat → Int32) (s : Mem) : Prop := s 42 2 = nI t ∧ ∀ i, i < t → s 43 i = nI (sd i) ∧ s 44 i = bt i
def TrM (t : Nat) (sd : Nat → Nat) (bt : Nat → Int32) (s : Mem) : Prop := s 57 42 = nI t ∧ ∀ i, i < t → s 75 i = nI (sd i) ∧ s 76 i = bt i
variable {t : Nat} {sd : Nat → Nat} {bt : Nat → Int32}
theorem c_walk {K : Int32 → Mem → Prop} (hcc : isC c) (hg : gOk g) (hc : CityC c g s) (ht : t ≤ 12) (hsd : ∀ i, i < t → sd i < 5) (hT : TrC t sd bt s) {k : Nat} (hk : k < gN g) : wI (wp (d + 4)) m_S_walk [.ref 42, .ref c, .ref 37, .int (nI k)] s K = K (oI (wlk g (s 40) bt sd t 0 k)) s := by
  have h20 := gN_le hg
  have lp : ∀ (n i k : Nat) (v3 : Value), i + n = t → k < gN g → RnI (d + 3) m_S_walk K 6 [.ref 42, .ref c, .ref 37, v3, .int (nI k), .int (nI i)] [] s = K (oI (wlk g (s 40) bt sd n i k)) s := by
    intro n
    induction n with
    | zero =>
      intro i k v3 hi hk
      rw [r_S_walk_6, hT.1]
      simp (disch := omega) only [↓n_m1, ↓n_hid, q0, q1, q2, q3, q4, q5, q6, q7, q8, q9, q10, q11, q12, q13, q14, q15, q16, q17, q18, q19, q20, q21, q22, q23, q24, q25, q26, q27, q28, q29, q30, q31, q32, q33, q34, q35, q36, q37, q38, q39, q40, q41, q42, q43, q44, q45, q46, q47, q48, q49, q50, q51, q52, q53, q54, q55, q56, q57, q58, q59, q61, q62, q63, q64, q66, q67, q68, q69, q70, q71, q91, q93, q99, q100, q102, q104, q107, q108, q112, q114, q115, q119, q121, q124, q160, q200, q255, q640, q999, q1000, q2000, q4096, n_of, nI_ltI, nI_leI, nI_eq, nI_clamp, nI_add, pk_mul, n_sub, m1_eq, m1_eq2, m1_lt, m1_lt2, gdN, Nat.not_lt_zero, false_or, if_true, if_false, if_pos, if_neg, cond_true, cond_false, beq_self, and_self, true_and, and_true, not_true_eq_false, not_false_eq_true, ne_eq]
      rfl
    | succ n ih =>
      intro i k v3 hi hk
      have hsi := hsd i (by omega)
      have hTi := hT.2 i (by omega)
      have hb := bes_lt hk (sd i)
      rw [r_S_walk_6, hT.1]
      simp (disch := omega) only [↓n_m1, ↓n_hid, q0, q1, q2, q3, q4, q5, q6, q7, q8, q9, q10, q11, q12, q13, q14, q15, q16, q17, q18, q19, q20, q21, q22, q23, q24, q25, q26, q27, q28, q29, q30, q31, q32, q33, q34, q35, q36, q37, q38, q39, q40, q41, q42, q43, q44, q45, q46, q47, q48, q49, q50, q51, q52, q53, q54, q55, q56, q57, q58, q59, q61, q62, q63, q64, q66, q67, q68, q69, q70, q71, q91, q93, q99, q100, q102, q104, q107, q108, q112, q114, q115, q119, q121, q124, q160, q200, q255, q640, q999, q1000, q2000, q4096, n_of, nI_ltI, nI_leI, nI_eq, nI_clamp, nI_add, pk_mul, n_sub, m1_eq, m1_eq2, m1_lt, m1_lt2, gdN, Nat.not_lt_zero, false_or, if_true, if_false, if_pos, if_neg, cond_true, cond_false, beq_self, and_self, true_and, and_true, not_true_eq_false, not_false_eq_true, ne_eq, C_b hcc]
      rw [c_at (show (shp 43).1 = 20 from rfl) (show i < (shp 43).2 by show _ < 12; omega), hTi.1, c_go hcc hg hc hk hsi, c_breathAt (by omega), c_at (show (shp 44).1 = 20 from rfl) (show i < (shp 44).2 by show _ < 12; omega), hTi.2]
      unfold wlk
      by_cases e : s 40 (bes g k (sd i)) = bt i
      · simp only [e, if_true]
        exact ih (i + 1) _ _ (by omega) hb
      · simp only [e, if_false]
        rfl
  rw [e_S_walk, q0]
  exact lp t 0 k _ (by omega) hk
theorem c_fitting {K : Int32 → Mem → Prop} (hcc : isC c) (hg : gOk g) (hc : CityC c g s) (ht : t ≤ 12) (hsd : ∀ i, i < t → sd i < 5) (hT : TrC t sd bt s) {ends : Bool} : wI (wp (d + 6)) m_S_fitting [.ref 42, .ref c, .ref 37, .int (b01 ends)] s K = K (fits g (s 40) bt sd t ends) s := by
  have h20 := gN_le hg
  have lp : ∀ (n i : Nat) (x : Int32) (v6 : Value), i + n = gN g → RnI (d + 5) m_S_fitting K 6 [.ref 42, .ref c, .ref 37, .int (b01 ends), .int x, .int (nI i), v6] [] s = K (itr (fitB g (s 40) bt sd t ends) n i x) s := by
    intro n
    induction n with
    | zero =>
      intro i x v6 hi
      rw [r_S_fitting_6, c_cells hcc hc]
      simp (disch := omega) only [↓n_m1, ↓n_hid, q0, q1, q2, q3, q4, q5, q6, q7, q8, q9, q10, q11, q12, q13, q14, q15, q16, q17, q18, q19, q20, q21, q22, q23, q24, q25, q26, q27, q28, q29, q30, q31, q32, q33, q34, q35, q36, q37, q38, q39, q40, q41, q42, q43, q44, q45, q46, q47, q48, q49, q50, q51, q52, q53, q54, q55, q56, q57, q58, q59, q61, q62, q63, q64, q66, q67, q68, q69, q70, q71, q91, q93, q99, q100, q102, q104, q107, q108, q112, q114, q115, q119, q121, q124, q160, q200, q255, q640, q999, q1000, q2000, q4096, n_of, nI_ltI, nI_leI, nI_eq, nI_clamp, nI_add, pk_mul, n_sub, m1_eq, m1_eq2, m1_lt, m1_lt2, gdN, Nat.not_lt_zero, false_or, if_true, if_false, if_pos, if_neg, cond_true, cond_false, beq_self, and_self, true_and, and_true, not_true_eq_false, not_false_eq_true, ne_eq, C_b hcc]
      rfl
    | succ n ih =>
      intro i x v6 hi
      rw [r_S_fitting_6, c_cells hcc hc]
      simp (disch := omega) only [↓n_m1, ↓n_hid, q0, q1, q2, q3, q4, q5, q6, q7, q8, q9, q10, q11, q12, q13, q14, q15, q16, q17, q18, q19, q20, q21, q22, q23, q24, q25, q26, q27, q28, q29, q30, q31, q32, q33, q34, q35, q36, q37, q38, q39, q40, q41, q42, q43, q44, q45, q46, q47, q48, q49, q50, q51, q52, q53, q54, q55, q56, q57, q58, q59, q61, q62, q63, q64, q66, q67, q68, q69, q70, q71, q91, q93, q99, q100, q102, q104, q107, q108, q112, q114, q115, q119, q121, q124, q160, q200, q255, q640, q999, q1000, q2000, q4096, n_of, nI_ltI, nI_leI, nI_eq, nI_clamp, nI_add, pk_mul, n_sub, m1_eq, m1_eq2, m1_lt, m1_lt2, gdN, Nat.not_lt_zero, false_or, if_true, if_false, if_pos, if_neg, cond_true, cond_false, beq_self, and_self, true_and, and_true, not_true_eq_false, not_false_eq_true, ne_eq, C_b hcc]
      rw [c_isStreet hcc hg hc (by omega)]
      simp (disch := omega) only [↓n_m1, ↓n_hid, q0, q1, q2, q3, q4, q5, q6, q7, q8, q9, q10, q11, q12, q13, q14, q15, q16, q17, q18, q19, q20, q21, q22, q23, q24, q25, q26, q27, q28, q29, q30, q31, q32, q33, q34, q35, q36, q37, q38, q39, q40, q41, q42, q43, q44, q45, q46, q47, q48, q49, q50, q51, q52, q53, q54, q55, q56, q57, q58, q59, q61, q62, q63, q64, q66, q67, q68, q69, q70, q71, q91, q93, q99, q100, q102, q104, q107, q108, q112, q114, q115, q119, q121, q124, q160, q200, q255, q640, q999, q1000, q2000, q4096, n_of, nI_ltI, nI_leI, nI_eq, nI_clamp, nI_add, pk_mul, n_sub, m1_eq, m1_eq2, m1_lt, m1_lt2, gdN, Nat.not_lt_zero, false_or, if_true, if_false, if_pos, if_neg, cond_true, cond_false, beq_self, and_self, true_and, and_true, not_true_eq_false, not_false_eq_true, ne_eq, b01_0]
      rw [c_walk (d := d + 1) hcc hg hc ht hsd hT (by omega)]
      show _ = K (itr (fitB g (s 40) bt sd t ends) n (i + 1) (fitB g (s 40) bt sd t ends i x)) s
      unfold fitB
      cases hst : gst g i with
      | false =>
        simp only [if_true, Bool.false_eq_true, if_false]
        exact ih (i + 1) _ _ (by omega)
      | true =>
        simp only [Bool.true_eq_false, if_false, if_true]
        cases he : wlk g (s 40) bt sd t 0 i with
        | none =>
          simp only [oI, if_true]
          exact ih (i + 1) _ _ (by omega)
        | some e =>
          have hel := wlk_lt (show i < gN g by omega) he
          simp only [oI, m1_eq (show e < 2 ^ 31 by omega), if_false, bit_e]
          cases ends with
          | false => simp only [if_true, Bool.false_eq_true, if_false]; exact ih (i + 1) _ _ (by omega)
          | true => simp only [Bool.true_eq_false, if_false, if_true]; exact ih (i + 1) _ _ (by omega)
  rw [e_S_fitting, q0]
  exact lp (gN g) 0 _ _ (by omega)
theorem m_endOf {K : Int32 → Mem → Prop} (hg : gOk g) (hc : CityM g s) (ht : t ≤ 12) (hsd : ∀ i, i < t → sd i < 5) (hT : TrM t sd bt s) {k : Nat} (hk : k < gN g) (hst : gst g k = true) : wI (wp (d + 4)) m_M_endOf [.ref 57, .int (nI k)] s K = K (oI (wlk g (s 73) bt sd t 0 k)) s := by
  have h20 := gN_le hg
  have lp : ∀ (n i k : Nat) (v1 : Value), i + n = t → k < gN g → gst g k = true → RnI (d + 3) m_M_endOf K 4 [.ref 57, v1, .int (nI k), .int (nI i)] [] s = K (oI (wlk g (s 73) bt sd n i k)) s := by
    intro n
    induction n with
    | zero =>
      intro i k v1 hi hk hst
      rw [r_M_endOf_4, hT.1]
      simp (disch := omega) only [↓n_m1, ↓n_hid, q0, q1, q2, q3, q4, q5, q6, q7, q8, q9, q10, q11, q12, q13, q14, q15, q16, q17, q18, q19, q20, q21, q22, q23, q24, q25, q26, q27, q28, q29, q30, q31, q32, q33, q34, q35, q36, q37, q38, q39, q40, q41, q42, q43, q44, q45, q46, q47, q48, q49, q50, q51, q52, q53, q54, q55, q56, q57, q58, q59, q61, q62, q63, q64, q66, q67, q68, q69, q70, q71, q91, q93, q99, q100, q102, q104, q107, q108, q112, q114, q115, q119, q121, q124, q160, q200, q255, q640, q999, q1000, q2000, q4096, n_of, nI_ltI, nI_leI, nI_eq, nI_clamp, nI_add, pk_mul, n_sub, m1_eq, m1_eq2, m1_lt, m1_lt2, gdN, Nat.not_lt_zero, false_or, if_true, if_false, if_pos, if_neg, cond_true, cond_false, beq_self, and_self, true_and, and_true, not_true_eq_false, not_false_eq_true, ne_eq]
      rfl
    | succ n ih =>
      intro i k v1 hi hk hst
      have hsi := hsd i (by omega)
      have hTi := hT.2 i (by omega)
      have hb := bes_lt hk (sd i)
      rw [r_M_endOf_4, hT.1]
      simp (disch := omega) only [↓n_m1, ↓n_hid, q0, q1, q2, q3, q4, q5, q6, q7, q8, q9, q10, q11, q12, q13, q14, q15, q16, q17, q18, q19, q20, q21, q22, q23, q24, q25, q26, q27, q28, q29, q30, q31, q32, q33, q34, q35, q36, q37, q38, q39, q40, q41, q42, q43, q44, q45, q46, q47, q48, q49, q50, q51, q52, q53, q54, q55, q56, q57, q58, q59, q61, q62, q63, q64, q66, q67, q68, q69, q70, q71, q91, q93, q99, q100, q102, q104, q107, q108, q112, q114, q115, q119, q121, q124, q160, q200, q255, q640, q999, q1000, q2000, q4096, n_of, nI_ltI, nI_leI, nI_eq, nI_clamp, nI_add, pk_mul, n_sub, m1_eq, m1_eq2, m1_lt, m1_lt2, gdN, Nat.not_lt_zero, false_or, if_true, if_false, if_pos, if_neg, cond_true, cond_false, beq_self, and_self, true_and, and_true, not_true_eq_false, not_false_eq_true, ne_eq, hTi.1]
      rw [m_stays5 (d := d + 1) hg hc hk hst hsi]
      simp (disch := omega) only [↓n_m1, ↓n_hid, q0, q1, q2, q3, q4, q5, q6, q7, q8, q9, q10, q11, q12, q13, q14, q15, q16, q17, q18, q19, q20, q21, q22, q23, q24, q25, q26, q27, q28, q29, q30, q31, q32, q33, q34, q35, q36, q37, q38, q39, q40, q41, q42, q43, q44, q45, q46, q47, q48, q49, q50, q51, q52, q53, q54, q55, q56, q57, q58, q59, q61, q62, q63, q64, q66, q67, q68, q69, q70, q71, q91, q93, q99, q100, q102, q104, q107, q108, q112, q114, q115, q119, q121, q124, q160, q200, q255, q640, q999, q1000, q2000, q4096, n_of, nI_ltI, nI_leI, nI_eq, nI_clamp, nI_add, pk_mul, n_sub, m1_eq, m1_eq2, m1_lt, m1_lt2, gdN, Nat.not_lt_zero, false_or, if_true, if_false, if_pos, if_neg, cond_true, cond_false, beq_self, and_self, true_and, and_true, not_true_eq_false, not_false_eq_true, ne_eq, hTi.2]
      unfold wlk
      by_cases e : s 73 (bes g k (sd i)) = bt i
      · simp only [e, if_true]
        exact ih (i + 1) _ _ (by omega) hb (bes_st hst _)
      · simp only [e, if_false]
        rfl
  rw [e_M_endOf, q0]
  exact lp t 0 k _ (by omega) hk hst
theorem m_nowsOf_l {K : Int32 → Mem → Prop} (hg : gOk g) (hc : CityM g s) (ht : t ≤ 12) (hsd : ∀ i, i < t → sd i < 5) (hT : TrM t sd bt s) {starts : Bool} : ∀ (n i : Nat) (x : Int32) (v4 : Value), i + n = gN g → RnI (d + 5) m_M_nowsOf K 8 [.ref 57, .int (b01 starts), .int x, .int (nI i), v4] [] s = K (itr (fitB g (s 73) bt sd t (! starts)) n i x) s := by
  have h20 := gN_le hg
  intro n
  induction n with
  | zero =>
    intro i x v4 hi
    rw [r_M_nowsOf_8, m_cells hc]
    simp (disch := omega) only [↓n_m1, ↓n_hid, q0, q1, q2, q3, q4, q5, q6, q7, q8, q9, q10, q11, q12, q13, q14, q15, q16, q17, q18, q19, q20, q21, q22, q23, q24, q25, q26, q27, q28, q29, q30, q31, q32, q33, q34, q35, q36, q37, q38, q39, q40, q41, q42, q43, q44, q45, q46, q47, q48, q49, q50, q51, q52, q53, q54, q55, q56, q57, q58, q59, q61, q62, q63, q64, q66, q67, q68, q69, q70, q71, q91, q93, q99, q100, q102, q104, q107, q108, q112, q114, q115, q119, q121, q124, q160, q200, q255, q640, q999, q1000, q2000, q4096, n_of, nI_ltI, nI_leI, nI_eq, nI_clamp, nI_add, pk_mul, n_sub, m1_eq, m1_eq2, m1_lt, m1_lt2, gdN, Nat.not_lt_zero, false_or, if_true, if_false, if_pos, if_neg, cond_true, cond_false, beq_self, and_self, true_and, and_true, not_true_eq_false, not_false_eq_true, ne_eq]
    rfl
  | succ n ih =>
    intro i x v4 hi
    rw [r_M_nowsOf_8, m_cells hc]
    simp (disch := omega) only [↓n_m1, ↓n_hid, q0, q1, q2, q3, q4, q5, q6, q7, q8, q9, q10, q11, q12, q13, q14, q15, q16, q17, q18, q19, q20, q21, q22, q23, q24, q25, q26, q27, q28, q29, q30, q31, q32, q33, q34, q35, q36, q37, q38, q39, q40, q41, q42, q43, q44, q45, q46, q47, q48, q49, q50, q51, q52, q53, q54, q55, q56, q57, q58, q59, q61, q62, q63, q64, q66, q67, q68, q69, q70, q71, q91, q93, q99, q100, q102, q104, q107, q108, q112, q114, q115, q119, q121, q124, q160, q200, q255, q640, q999, q1000, q2000, q4096, n_of, nI_ltI, nI_leI, nI_eq, nI_clamp, nI_add, pk_mul, n_sub, m1_eq, m1_eq2, m1_lt, m1_lt2, gdN, Nat.not_lt_zero, false_or, if_true, if_false, if_pos, if_neg, cond_true, cond_false, beq_self, and_self, true_and, and_true, not_true_eq_false, not_false_eq_true, ne_eq, hc.2.2.2.1 i (by omega), b01_0]
    show _ = K (itr (fitB g (s 73) bt sd t (! starts)) n (i + 1) (fitB g (s 73) bt sd t (! starts) i x)) s
    unfold fitB
    cases hst : gst g i with
    | false =>
      simp only [if_true, Bool.false_eq_true, if_false]
      exact ih (i + 1) _ _ (by omega)
    | true =>
      simp only [Bool.true_eq_false, if_false, if_true]
      rw [m_endOf (d := d + 1) hg hc ht hsd hT (by omega) hst]
      cases he : wlk g (s 73) bt sd t 0 i with
      | none =>
        simp only [oI, if_true]
        exact ih (i + 1) _ _ (by omega)
      | some e =>
        have hel := wlk_lt (show i < gN g by omega) he
        simp only [oI, m1_eq (show e < 2 ^ 31 by omega), if_false]
        cases starts with
        | false => simp only [if_true, Bool.not_false]; exact ih (i + 1) _ _ (by omega)
        | true => simp only [Bool.true_eq_false, if_false, Bool.not_true, Bool.false_eq_true]; exact ih (i + 1) _ _ (by omega)
end
