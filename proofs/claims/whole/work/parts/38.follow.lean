/-! following one's nose -/
section
variable {d c : Nat} {g : Gph} {W : Wth} {h : Nat} {rn : Bool} {w dl : Nat}
/-- the sources that are open and in their hour -/
def smI (g : Gph) (h : Nat) (o : Int32) : Int32 := o &&& bits (tml g h) (gS g)
theorem tb_smI (hg : gOk g) {o : Int32} {k : Nat} : tb (smI g h o) k = (tb o k && (decide (k < gS g) && tml g h k)) := by
  have := hg.2.2.1
  unfold smI
  rw [tb_and, tb_bits (by omega)]
theorem smS_o {o o' : Int32} {k q : Nat} (h1 : ∀ i, i < gS g → (tb o i && tml g h i) = (tb o' i && tml g h i)) : ∀ n, n ≤ gS g → smS g W h rn w o k q n = smS g W h rn w o' k q n
  | 0, _ => rfl
  | n + 1, hn => by
    rw [smS_S, smS_S, smS_o h1 n (by omega)]
    unfold smF
    rw [← Bool.and_assoc, ← Bool.and_assoc, h1 n (by omega)]
theorem smN_o {o o' : Int32} {ex : Option (Nat × Nat)} {k q : Nat} (h1 : ∀ i, i < gS g → (tb o i && tml g h i) = (tb o' i && tml g h i)) : smN g W h rn w o ex k q = smN g W h rn w o' ex k q := by
  unfold smN
  rw [smS_o h1 (gS g) (Nat.le_refl _)]
theorem brI_o {o o' : Int32} {ex : Option (Nat × Nat)} {k : Nat} (h1 : ∀ i, i < gS g → (tb o i && tml g h i) = (tb o' i && tml g h i)) : brI g W h rn w dl o ex k = brI g W h rn w dl o' ex k := by
  unfold brI
  refine bits_eq fun q _ => ?_
  rw [smN_o h1]
theorem smI_o (hg : gOk g) {o : Int32} : ∀ i, i < gS g → (tb (smI g h o) i && tml g h i) = (tb o i && tml g h i) := fun i hi => by
  rw [tb_smI hg, decide_eq_true hi]
  cases tb o i <;> cases tml g h i <;> rfl
/-- which city is the city -/
def RefC (c : Nat) (s : Mem) : Prop := s 0 1 = nI (c + 1)
theorem c_smelling {K : Int32 → Mem → Prop} (hcc : isC c) (hg : gOk g) {s : Mem} (hr : RefC c s) (hc : CityC c g s) {hr2 : Nat} (h2 : s 34 2 = nI hr2) (h9 : hr2 ≤ 999) : wI (wp (d + 4)) m_X_smelling [.ref 0] s K = K (smI g (hr2 % 24) (s 34 4)) s := by
  have hL := C_le hcc
  have hlt := Nat.mod_lt hr2 (show 0 < 24 by decide)
  unfold RefC at hr
  rw [e_X_smelling, q4, q2, c_now (d := d + 1) (by omega), hr]
  simp (disch := omega) only [↓n_m1, ↓n_hid, q0, q1, q2, q3, q4, q5, q6, q7, q8, q9, q10, q11, q12, q13, q14, q15, q16, q17, q18, q19, q20, q21, q22, q23, q24, q25, q26, q27, q28, q29, q30, q31, q32, q33, q34, q35, q36, q37, q38, q39, q40, q41, q42, q43, q44, q45, q46, q47, q48, q49, q50, q51, q52, q53, q54, q55, q56, q57, q58, q59, q61, q62, q63, q64, q66, q67, q68, q69, q70, q71, q91, q93, q99, q100, q102, q104, q107, q108, q112, q114, q115, q119, q121, q124, q160, q200, q255, q640, q999, q1000, q2000, q4096, n_of, nI_ltI, nI_leI, nI_eq, nI_clamp, nI_add, pk_mul, n_sub, m1_eq, m1_eq2, m1_lt, m1_lt2, gdN, Nat.not_lt_zero, false_or, if_true, if_false, if_pos, if_neg, cond_true, cond_false, beq_self, and_self, true_and, and_true, not_true_eq_false, not_false_eq_true, ne_eq, Nat.add_sub_cancel, C_b hcc]
  rw [c_now (d := d + 1) (by omega), h2, pk_rem (by omega) (by decide) (by decide), c_timely hcc hg hc hlt]
  rfl
/-- the place one step on -/
def nst1 (g : Gph) (F : Nat → Nat) (k sd best : Nat) : Nat := if F best < F (bes g k sd) then bes g k sd else best
def nst (g : Gph) (F : Nat → Nat) (k : Nat) : Nat := itr (fun sd b => nst1 g F k sd b) 4 1 k
theorem nst_P {F : Nat → Nat} {k : Nat} (hk : k < gN g) (hst : gst g k = true) : ∀ n i b, b < gN g → gst g b = true → F k ≤ F b → (itr (fun sd b => nst1 g F k sd b) n i b < gN g ∧ gst g (itr (fun sd b => nst1 g F k sd b) n i b) = true ∧ F b ≤ F (itr (fun sd b => nst1 g F k sd b) n i b) ∧ (itr (fun sd b => nst1 g F k sd b) n i b ≠ b → F b < F (itr (fun sd b => nst1 g F k sd b) n i b)))
  | 0, _, b, h1, h2, _ => ⟨h1, h2, Nat.le_refl _, fun z => absurd rfl z⟩
  | n + 1, i, b, h1, h2, h3 => by
    show itr (fun sd b => nst1 g F k sd b) n (i + 1) (nst1 g F k i b) < gN g ∧ gst g (itr (fun sd b => nst1 g F k sd b) n (i + 1) (nst1 g F k i b)) = true ∧ F b ≤ F (itr (fun sd b => nst1 g F k sd b) n (i + 1) (nst1 g F k i b)) ∧ (itr (fun sd b => nst1 g F k sd b) n (i + 1) (nst1 g F k i b) ≠ b → F b < F (itr (fun sd b => nst1 g F k sd b) n (i + 1) (nst1 g F k i b)))
    by_cases e : F b < F (bes g k i)
    · have e2 : nst1 g F k i b = bes g k i := if_pos e
      rw [e2]
      obtain ⟨a1, a2, a3, a4⟩ := nst_P (F := F) hk hst n (i + 1) (bes g k i) (bes_lt hk i) (bes_st hst i) (by omega)
      exact ⟨a1, a2, by omega, fun _ => by omega⟩
    · have e2 : nst1 g F k i b = b := if_neg e
      rw [e2]
      exact nst_P hk hst n (i + 1) b h1 h2 h3
def gts (g : Gph) (F : Nat → Nat) (k : Nat) : Nat := cnt (fun v => decide (F k < F v)) (gN g)
theorem gts_lt {F : Nat → Nat} {k : Nat} (hk : k < gN g) (hst : gst g k = true) (h : nst g F k ≠ k) : gts g F (nst g F k) < gts g F k := by
  obtain ⟨a1, a2, a3, a4⟩ := nst_P (F := F) hk hst 4 1 k hk hst (Nat.le_refl _)
  have a5 := a4 h
  refine cnt_lt (v := nst g F k) (decide_eq_true a5) (decide_eq_false (Nat.lt_irrefl _)) (fun v _ hv => decide_eq_true ?_) a1
  have := of_decide_eq_true hv
  have e : F (nst g F k) = F (itr (fun sd b => nst1 g F k sd b) 4 1 k) := rfl
  omega
theorem gts_20 (hg : gOk g) {F : Nat → Nat} {k : Nat} (hk : k < gN g) : gts g F k < 20 := by
  have h1 := gN_le hg
  have : cnt (fun v => decide (F k < F v)) (gN g) < cnt (fun _ => true) (gN g) := cnt_lt (v := k) rfl (decide_eq_false (Nat.lt_irrefl _)) (fun _ _ _ => rfl) hk
  have := cnt_le (fun _ => true) (gN g)
  unfold gts
  omega
/-- to the end: place and steps -/
def flw (g : Gph) (F : Nat → Nat) : Nat → Nat → Nat × Nat
  | 0, k => (k, 0)
  | n + 1, k => if nst g F k = k then (k, 0) else ((flw g F n (nst g F k)).1, (flw g F n (nst g F k)).2 + 1)
def NoC (c : Nat) (g : Gph) (W : Wth) (rn : Bool) (w dl hr : Nat) (s : Mem) : Prop := RefC c s ∧ CityC c g s ∧ s 34 2 = nI hr ∧ hr ≤ 999 ∧ AirC g W (hr % 24) rn w dl none s ∧ ∀ k, tb (s 34 4) k = true → k < gS g
theorem c_noseStep {K : Int32 → Mem → Prop} (hcc : isC c) (hg : gOk g) {s : Mem} {hr : Nat} (hn : NoC c g W rn w dl hr s) {k q : Nat} (hk : k < gN g) (hq : q < 5) : wI (wp (d + 6)) m_X_noseStep [.ref 0, .int (nI k), .int (nI q)] s K = K (nI (nst g (fun v => smN g W (hr % 24) rn w (smI g (hr % 24) (s 34 4)) none v q) k)) s := by
  obtain ⟨h1, h2, h3, h4, h5, h6⟩ := hn
  have hL := C_le hcc
  have h20 := gN_le hg
  have hS := hg.2.2.1
  have o6 : tb (smI g (hr % 24) (s 34 4)) 6 = (none : Option (Nat × Nat)).isSome := by
    rw [tb_smI hg, decide_eq_false (show ¬ 6 < gS g by omega), Bool.false_and, Bool.and_false]; rfl
  have gr : ∀ {d : Nat} {v : Nat} (hv : v < gN g) (K : Int32 → Mem → Prop), wI (wp (d + 3)) m_A_greatest [.ref 37, .int (nI v), .int (nI q), .int (smI g (hr % 24) (s 34 4))] s K = K (nI (smN g W (hr % 24) rn w (smI g (hr % 24) (s 34 4)) none v q)) s := fun hv K => c_greatest hg h5 o6 hv hq (fun _ _ z => by simp at z)
  have lp : ∀ (n i b : Nat) (v7 v8 : Value), i + n = 5 → b < gN g → RnI (d + 5) m_X_noseStep K 23 [.ref 0, .int (nI k), .int (nI q), .int (smI g (hr % 24) (s 34 4)), .int (nI b), .int (nI (smN g W (hr % 24) rn w (smI g (hr % 24) (s 34 4)) none b q)), .int (nI i), v7, v8] [] s = K (nI (itr (fun sd b => nst1 g (fun v => smN g W (hr % 24) rn w (smI g (hr % 24) (s 34 4)) none v q) k sd b) n i b)) s := by
    intro n
    induction n with
    | zero =>
      intro i b v7 v8 hi hb
      rw [r_X_noseStep_23]
      simp (disch := omega) only [↓n_m1, ↓n_hid, q0, q1, q2, q3, q4, q5, q6, q7, q8, q9, q10, q11, q12, q13, q14, q15, q16, q17, q18, q19, q20, q21, q22, q23, q24, q25, q26, q27, q28, q29, q30, q31, q32, q33, q34, q35, q36, q37, q38, q39, q40, q41, q42, q43, q44, q45, q46, q47, q48, q49, q50, q51, q52, q53, q54, q55, q56, q57, q58, q59, q61, q62, q63, q64, q66, q67, q68, q69, q70, q71, q91, q93, q99, q100, q102, q104, q107, q108, q112, q114, q115, q119, q121, q124, q160, q200, q255, q640, q999, q1000, q2000, q4096, n_of, nI_ltI, nI_leI, nI_eq, nI_clamp, nI_add, pk_mul, n_sub, m1_eq, m1_eq2, m1_lt, m1_lt2, gdN, Nat.not_lt_zero, false_or, if_true, if_false, if_pos, if_neg, cond_true, cond_false, beq_self, and_self, true_and, and_true, not_true_eq_false, not_false_eq_true, ne_eq]
      rfl
    | succ n ih =>
      intro i b v7 v8 hi hb
      have hbb := bes_lt hk i
      have hl1 := smN_le (g := g) (W := W) (h := hr % 24) (rn := rn) (w := w) (o := smI g (hr % 24) (s 34 4)) (ex := none) (k := b) (q := q)
      have hl2 := smN_le (g := g) (W := W) (h := hr % 24) (rn := rn) (w := w) (o := smI g (hr % 24) (s 34 4)) (ex := none) (k := bes g k i) (q := q)
      have h1' : s 0 1 = nI (c + 1) := h1
      rw [r_X_noseStep_23, h1']
      simp (disch := omega) only [↓n_m1, ↓n_hid, q0, q1, q2, q3, q4, q5, q6, q7, q8, q9, q10, q11, q12, q13, q14, q15, q16, q17, q18, q19, q20, q21, q22, q23, q24, q25, q26, q27, q28, q29, q30, q31, q32, q33, q34, q35, q36, q37, q38, q39, q40, q41, q42, q43, q44, q45, q46, q47, q48, q49, q50, q51, q52, q53, q54, q55, q56, q57, q58, q59, q61, q62, q63, q64, q66, q67, q68, q69, q70, q71, q91, q93, q99, q100, q102, q104, q107, q108, q112, q114, q115, q119, q121, q124, q160, q200, q255, q640, q999, q1000, q2000, q4096, n_of, nI_ltI, nI_leI, nI_eq, nI_clamp, nI_add, pk_mul, n_sub, m1_eq, m1_eq2, m1_lt, m1_lt2, gdN, Nat.not_lt_zero, false_or, if_true, if_false, if_pos, if_neg, cond_true, cond_false, beq_self, and_self, true_and, and_true, not_true_eq_false, not_false_eq_true, ne_eq, Nat.add_sub_cancel, C_b hcc]
      rw [c_go (d := d + 3) hcc hg h2 hk (by omega), gr (d := d + 2) hbb]
      show _ = K (nI (itr _ n (i + 1) (nst1 g _ k i b))) s
      unfold nst1
      simp (disch := omega) only [↓n_m1, ↓n_hid, q0, q1, q2, q3, q4, q5, q6, q7, q8, q9, q10, q11, q12, q13, q14, q15, q16, q17, q18, q19, q20, q21, q22, q23, q24, q25, q26, q27, q28, q29, q30, q31, q32, q33, q34, q35, q36, q37, q38, q39, q40, q41, q42, q43, q44, q45, q46, q47, q48, q49, q50, q51, q52, q53, q54, q55, q56, q57, q58, q59, q61, q62, q63, q64, q66, q67, q68, q69, q70, q71, q91, q93, q99, q100, q102, q104, q107, q108, q112, q114, q115, q119, q121, q124, q160, q200, q255, q640, q999, q1000, q2000, q4096, n_of, nI_ltI, nI_leI, nI_eq, nI_clamp, nI_add, pk_mul, n_sub, m1_eq, m1_eq2, m1_lt, m1_lt2, gdN, Nat.not_lt_zero, false_or, if_true, if_false, if_pos, if_neg, cond_true, cond_false, beq_self, and_self, true_and, and_true, not_true_eq_false, not_false_eq_true, ne_eq]
      by_cases e : smN g W (hr % 24) rn w (smI g (hr % 24) (s 34 4)) none b q < smN g W (hr % 24) rn w (smI g (hr % 24) (s 34 4)) none (bes g k i) q
      · simp only [e, if_true]
        exact ih (i + 1) _ _ _ (by omega) hbb
      · simp only [e, if_false]
        exact ih (i + 1) _ _ _ (by omega) hb
  rw [e_X_noseStep, c_smelling (d := d + 1) hcc hg h1 h2 h3 h4, gr (d := d + 2) hk, q1]
  exact lp 4 1 k _ _ rfl hk
theorem c_noseEnd {K : Int32 → Mem → Prop} (hcc : isC c) (hg : gOk g) {s : Mem} {hr : Nat} (hn : NoC c g W rn w dl hr s) {k q : Nat} (hk : k < gN g) (hst : gst g k = true) (hq : q < 5) : wI (wp (d + 7)) m_X_noseEnd [.ref 0, .int (nI k), .int (nI q)] s K = K (nI (flw g (fun v => smN g W (hr % 24) rn w (smI g (hr % 24) (s 34 4)) none v q) 20 k).1) s := by
  have h20 := gN_le hg
  generalize hF : (fun v => smN g W (hr % 24) rn w (smI g (hr % 24) (s 34 4)) none v q) = F
  have st : ∀ {d v : Nat} (hv : v < gN g) (K : Int32 → Mem → Prop), wI (wp (d + 6)) m_X_noseStep [.ref 0, .int (nI v), .int (nI q)] s K = K (nI (nst g F v)) s := fun hv K => by rw [c_noseStep hcc hg hn hv hq, hF]
  have lp : ∀ (n i k : Nat) (v1 : Value), i + n = 20 → k < gN g → gst g k = true → gts g F k < n → RnI (d + 6) m_X_noseEnd K 13 [.ref 0, v1, .int (nI q), .int (nI k), .int (nI (nst g F k)), .int (nI i)] [] s = K (nI (flw g F n k).1) s := by
    intro n
    induction n with
    | zero => intro i k v1 hi hk hst hl; omega
    | succ n ih =>
      intro i k v1 hi hk hst hl
      obtain ⟨a1, a2, _, _⟩ := nst_P (F := F) hk hst 4 1 k hk hst (Nat.le_refl _)
      have a1' : nst g F k < gN g := a1
      rw [r_X_noseEnd_13]
      simp (disch := omega) only [↓n_m1, ↓n_hid, q0, q1, q2, q3, q4, q5, q6, q7, q8, q9, q10, q11, q12, q13, q14, q15, q16, q17, q18, q19, q20, q21, q22, q23, q24, q25, q26, q27, q28, q29, q30, q31, q32, q33, q34, q35, q36, q37, q38, q39, q40, q41, q42, q43, q44, q45, q46, q47, q48, q49, q50, q51, q52, q53, q54, q55, q56, q57, q58, q59, q61, q62, q63, q64, q66, q67, q68, q69, q70, q71, q91, q93, q99, q100, q102, q104, q107, q108, q112, q114, q115, q119, q121, q124, q160, q200, q255, q640, q999, q1000, q2000, q4096, n_of, nI_ltI, nI_leI, nI_eq, nI_clamp, nI_add, pk_mul, n_sub, m1_eq, m1_eq2, m1_lt, m1_lt2, gdN, Nat.not_lt_zero, false_or, if_true, if_false, if_pos, if_neg, cond_true, cond_false, beq_self, and_self, true_and, and_true, not_true_eq_false, not_false_eq_true, ne_eq]
      unfold flw
      by_cases e : nst g F k = k
      · simp only [e, if_true]
      · simp only [e, if_false]
        rw [st (d := d) a1']
        have := gts_lt hk hst e
        exact ih (i + 1) _ _ (by omega) a1' a2 (by omega)
  rw [e_X_noseEnd, st (d := d) hk, q0]
  exact lp 20 0 k _ rfl hk hst (gts_20 hg hk)
theorem c_noseSteps {K : Int32 → Mem → Prop} (hcc : isC c) (hg : gOk g) {s : Mem} {hr : Nat} (hn : NoC c g W rn w dl hr s) {k q : Nat} (hk : k < gN g) (hst : gst g k = true) (hq : q < 5) : wI (wp (d + 7)) m_X_noseSteps [.ref 0, .int (nI k), .int (nI q)] s K = K (nI (flw g (fun v => smN g W (hr % 24) rn w (smI g (hr % 24) (s 34 4)) none v q) 20 k).2) s := by
  have h20 := gN_le hg
  generalize hF : (fun v => smN g W (hr % 24) rn w (smI g (hr % 24) (s 34 4)) none v q) = F
  have st : ∀ {d v : Nat} (hv : v < gN g) (K : Int32 → Mem → Prop), wI (wp (d + 6)) m_X_noseStep [.ref 0, .int (nI v), .int (nI q)] s K = K (nI (nst g F v)) s := fun hv K => by rw [c_noseStep hcc hg hn hv hq, hF]
  have lp : ∀ (n i k : Nat) (v1 : Value), i + n = 20 → k < gN g → gst g k = true → gts g F k < n → RnI (d + 6) m_X_noseSteps K 14 [.ref 0, v1, .int (nI q), .int (nI i), .int (nI k), .int (nI (nst g F k))] [] s = K (nI (i + (flw g F n k).2)) s := by
    intro n
    induction n with
    | zero => intro i k v1 hi hk hst hl; omega
    | succ n ih =>
      intro i k v1 hi hk hst hl
      obtain ⟨a1, a2, _, _⟩ := nst_P (F := F) hk hst 4 1 k hk hst (Nat.le_refl _)
      have a1' : nst g F k < gN g := a1
      rw [r_X_noseSteps_14]
      simp (disch := omega) only [↓n_m1, ↓n_hid, q0, q1, q2, q3, q4, q5, q6, q7, q8, q9, q10, q11, q12, q13, q14, q15, q16, q17, q18, q19, q20, q21, q22, q23, q24, q25, q26, q27, q28, q29, q30, q31, q32, q33, q34, q35, q36, q37, q38, q39, q40, q41, q42, q43, q44, q45, q46, q47, q48, q49, q50, q51, q52, q53, q54, q55, q56, q57, q58, q59, q61, q62, q63, q64, q66, q67, q68, q69, q70, q71, q91, q93, q99, q100, q102, q104, q107, q108, q112, q114, q115, q119, q121, q124, q160, q200, q255, q640, q999, q1000, q2000, q4096, n_of, nI_ltI, nI_leI, nI_eq, nI_clamp, nI_add, pk_mul, n_sub, m1_eq, m1_eq2, m1_lt, m1_lt2, gdN, Nat.not_lt_zero, false_or, if_true, if_false, if_pos, if_neg, cond_true, cond_false, beq_self, and_self, true_and, and_true, not_true_eq_false, not_false_eq_true, ne_eq]
      unfold flw
      by_cases e : nst g F k = k
      · simp only [e, if_true, Nat.add_zero]
      · simp only [e, if_false]
        rw [st (d := d) a1']
        have := gts_lt hk hst e
        rw [ih (i + 1) _ _ (by omega) a1' a2 (by omega)]
        congr 2
        omega
  rw [e_X_noseSteps, st (d := d) hk, q0, lp 20 0 k _ rfl hk hst (gts_20 hg hk), Nat.zero_add]
end
