/-! what the city's methods answer: class and reference -/
def b01 (b : Bool) : Int32 := if b = true then nI 1 else nI 0
theorem b01_0 (b : Bool) : (b01 b = nI 0) = (b = false) := by cases b <;> simp [b01] <;> decide
theorem b01_1 (b : Bool) : (b01 b = nI 1) = (b = true) := by cases b <;> simp [b01] <;> decide
theorem b01_and (b : Bool) : (b01 b &&& nI 1 = b01 b) = True := by cases b <;> simp [b01] <;> decide
theorem b01_t : b01 true = nI 1 := rfl
theorem b01_f : b01 false = nI 0 := rfl
theorem sh_b {x : Int32} {k : Nat} (hk : k < 32) : (x >>> (nI k &&& nI 31)) &&& nI 1 = b01 (tb x k) := sh_bit hk
def bits (p : Nat → Bool) (n : Nat) : Int32 := itr (fun k x => if p k = true then x ||| bit k else x) n 0 (nI 0)
theorem tb_bits {p : Nat → Bool} {n j : Nat} (h : n ≤ 32) : tb (bits p n) j = (decide (j < n) && p j) := by
  unfold bits
  rw [itr_or (by omega), tb_0, Bool.false_or]
  congr 1
  exact decide_eq_decide.mpr (by omega)
theorem bits_eq {p q : Nat → Bool} {n : Nat} (h : ∀ k, k < n → p k = q k) : bits p n = bits q n := itr_eq fun k a _ h2 => by rw [h k (by omega)]
def oI : Option Nat → Int32
  | none => m1
  | some k => nI k
def plc (g : Gph) (x : Int32) : Option Nat :=
  if x < 0 then none else if x.toNatClampNeg / 10 < gR g ∧ x.toNatClampNeg % 10 < gC g then some (x.toNatClampNeg / 10 * gC g + x.toNatClampNeg % 10) else none
def stc (g : Gph) (x : Int32) : Option Nat :=
  match plc g x with
  | none => none
  | some k => if gst g k = true then some k else none
theorem plc_lt {g : Gph} {x : Int32} {k : Nat} (h : plc g x = some k) : k < gN g := by
  unfold plc at h
  split at h
  · simp at h
  · split at h
    · rename_i h1 h2
      injection h with h
      subst h
      unfold gN
      calc _ < x.toNatClampNeg / 10 * gC g + gC g := by omega
        _ = (x.toNatClampNeg / 10 + 1) * gC g := by rw [Nat.add_mul, Nat.one_mul]
        _ ≤ gR g * gC g := Nat.mul_le_mul_right _ h2.1
    · simp at h
theorem stc_some {g : Gph} {x : Int32} {k : Nat} (h : stc g x = some k) : k < gN g ∧ gst g k = true := by
  unfold stc at h
  split at h
  · simp at h
  · rename_i j hj
    split at h
    · injection h with h; subst h; exact ⟨plc_lt hj, by assumption⟩
    · simp at h
theorem gC_pos {g : Gph} {p : Nat} (hp : p < gN g) : 0 < gC g := by
  rcases Nat.eq_zero_or_pos (gC g) with h | h
  · unfold gN at hp; rw [h, Nat.mul_zero] at hp; omega
  · exact h
/-- a step's cost -/
def cst (w side : Nat) : Nat := if side = w then 1 else if (side + 1) % 4 + 1 = w then 3 else 2
theorem cst_le (w side : Nat) : 1 ≤ cst w side ∧ cst w side ≤ 3 := by
  constructor <;> unfold cst <;> split <;> (try split) <;> omega
/-- whether it is a source's hour -/
def tml (g : Gph) (h k : Nat) : Bool := if git g k 3 < git g k 4 then decide (git g k 3 ≤ h ∧ h < git g k 4) else decide (git g k 3 ≤ h ∨ h < git g k 4)
section
variable {d c : Nat} {g : Gph} {s : Mem} {K : Int32 → Mem → Prop}
theorem c_cells (h : isC c) (hc : CityC c g s) : wI (wp (d + 1)) m_C_cells [.ref c] s K = K (nI (gN g)) s := by
  rw [e_C_cells, C_b h]
  simp only [cond_true, hc.1, hc.2.1, pk_mul]
  rfl
theorem c_rowCount (h : isC c) (hc : CityC c g s) : wI (wp (d + 1)) m_C_rowCount [.ref c] s K = K (nI (gR g)) s := by
  rw [e_C_rowCount, C_b h]; simp only [cond_true, hc.1]
theorem c_columnCount (h : isC c) (hc : CityC c g s) : wI (wp (d + 1)) m_C_columnCount [.ref c] s K = K (nI (gC g)) s := by
  rw [e_C_columnCount, C_b h]; simp only [cond_true, hc.2.1]
theorem c_sourceCount (h : isC c) (hc : CityC c g s) : wI (wp (d + 1)) m_C_sourceCount [.ref c] s K = K (nI (gS g)) s := by
  rw [e_C_sourceCount, C_b h]; simp only [cond_true, hc.2.2.1]
theorem c_streetSet (h : isC c) : wI (wp (d + 1)) m_C_streetSet [.ref c] s K = K (s c 4) s := by
  rw [e_C_streetSet, C_b h]; simp only [cond_true]
theorem c_isThere (h : isC c) (hg : gOk g) (hc : CityC c g s) : wI (wp (d + 1)) m_C_isThere [.ref c] s K = K (b01 (decide (0 < gR g))) s := by
  have h1 := hg.1
  rw [e_C_isThere, C_b h]
  simp only [cond_true, hc.1]
  simp (disch := omega) only [↓n_m1, ↓n_hid, q0, q1, q2, q3, q4, q5, q6, q7, q8, q9, q10, q11, q12, q13, q14, q15, q16, q17, q18, q19, q20, q21, q22, q23, q24, q25, q26, q27, q28, q29, q30, q31, q32, q33, q34, q35, q36, q37, q38, q39, q40, q41, q42, q43, q44, q45, q46, q47, q48, q49, q50, q51, q52, q53, q54, q55, q56, q57, q58, q59, q61, q62, q63, q64, q66, q67, q68, q69, q70, q71, q91, q93, q99, q100, q102, q104, q107, q108, q112, q114, q115, q119, q121, q124, q160, q200, q255, q640, q999, q1000, q2000, q4096, n_of, nI_ltI, nI_leI, nI_eq, nI_clamp, nI_add, pk_mul, n_sub, m1_eq, m1_eq2, m1_lt, m1_lt2, gdN, Nat.not_lt_zero, false_or, if_true, if_false, if_pos, if_neg, cond_true, cond_false, beq_self, and_self, true_and, and_true, not_true_eq_false, not_false_eq_true, ne_eq]
  by_cases h2 : 0 < gR g
  · rw [if_pos h2, decide_eq_true h2]; rfl
  · rw [if_neg h2, decide_eq_false h2]; rfl
theorem c_isStreet (h : isC c) (hg : gOk g) (hc : CityC c g s) {p : Nat} (hp : p < gN g) : wI (wp (d + 1)) m_C_isStreet [.ref c, .int (nI p)] s K = K (b01 (gst g p)) s := by
  have h1 := gN_le hg
  rw [e_C_isStreet, C_b h]
  simp only [cond_true, q31, q1, q0, sh_b (show p < 32 by omega), hc.2.2.2.1 p (by omega), decide_eq_true hp, Bool.true_and, b01_0]
  cases gst g p <;> simp [b01]
theorem c_item (h : isC c) (hg : gOk g) (hc : CityC c g s) {k j : Nat} (hk : k < gS g) (hj : j < 6) : wI (wp (d + 2)) m_C_item [.ref c, .int (nI k), .int (nI j)] s K = K (nI (git g k j)) s := by
  have h1 := hg.2.2.1
  rw [e_C_item, C_b h, q7]
  simp only [cond_true, pk_mul, nI_add]
  rw [c_at (by rw [C_s3 h]) (by rw [C_s3 h]; show _ < 49; omega), Nat.mul_comm, hc.2.2.2.2.1 k j hk hj]
theorem c_go (h : isC c) (hg : gOk g) (hc : CityC c g s) {p side : Nat} (hp : p < gN g) (hs : side < 5) : wI (wp (d + 2)) m_C_go [.ref c, .int (nI p), .int (nI side)] s K = K (nI (bes g p side)) s := by
  have h1 := gN_le hg
  rw [e_C_go, C_b h, q5]
  simp only [cond_true, pk_mul, nI_add]
  rw [c_at (by rw [C_s4 h]) (by rw [C_s4 h]; show _ < 100; omega), Nat.mul_comm, hc.2.2.2.2.2 p side hp hs]
theorem c_placeAt (h : isC c) (hg : gOk g) (hc : CityC c g s) {r k : Nat} (hr : r < 2 ^ 31) (hk : k < 2 ^ 31) : wI (wp (d + 1)) m_C_placeAt [.ref c, .int (nI r), .int (nI k)] s K = K (if r < gR g ∧ k < gC g then nI (r * gC g + k) else m1) s := by
  have h1 := hg.1
  have h2 := hg.2.1
  rw [e_C_placeAt, C_b h]
  simp only [cond_true, hc.1, hc.2.1]
  simp (disch := omega) only [↓n_m1, ↓n_hid, q0, q1, q2, q3, q4, q5, q6, q7, q8, q9, q10, q11, q12, q13, q14, q15, q16, q17, q18, q19, q20, q21, q22, q23, q24, q25, q26, q27, q28, q29, q30, q31, q32, q33, q34, q35, q36, q37, q38, q39, q40, q41, q42, q43, q44, q45, q46, q47, q48, q49, q50, q51, q52, q53, q54, q55, q56, q57, q58, q59, q61, q62, q63, q64, q66, q67, q68, q69, q70, q71, q91, q93, q99, q100, q102, q104, q107, q108, q112, q114, q115, q119, q121, q124, q160, q200, q255, q640, q999, q1000, q2000, q4096, n_of, nI_ltI, nI_leI, nI_eq, nI_clamp, nI_add, pk_mul, n_sub, m1_eq, m1_eq2, m1_lt, m1_lt2, gdN, Nat.not_lt_zero, false_or, if_true, if_false, if_pos, if_neg, cond_true, cond_false, beq_self, and_self, true_and, and_true, not_true_eq_false, not_false_eq_true, ne_eq, Nat.not_lt_zero, if_false]
  by_cases h3 : r < gR g
  · by_cases h4 : k < gC g
    · rw [if_pos h3, if_pos h4, if_pos ⟨h3, h4⟩]
    · rw [if_pos h3, if_neg h4, if_neg (fun z => h4 z.2)]
  · rw [if_neg h3, if_neg (fun z => h3 z.1)]
theorem c_sourcePlace (h : isC c) (hg : gOk g) (hc : CityC c g s) {k : Nat} (hk : k < gS g) : wI (wp (d + 3)) m_C_sourcePlace [.ref c, .int (nI k)] s K = K (nI (gsp g k)) s := by
  have h1 := hg.1
  have h2 := hg.2.1
  have h3 := hg.2.2.2.2.2 k hk
  rw [e_C_sourcePlace, C_b h, q1, q2]
  simp only [cond_true, c_item h hg hc hk (show 1 < 6 by decide), c_item h hg hc hk (show 2 < 6 by decide)]
  rw [c_placeAt h hg hc (by omega) (by omega), if_pos ⟨h3.2.1, h3.2.2.1⟩]
  rfl
theorem c_placeOf (h : isC c) (hg : gOk g) (hc : CityC c g s) {x : Int32} : wI (wp (d + 2)) m_C_placeOf [.ref c, .int x] s K = K (oI (plc g x)) s := by
  rw [e_C_placeOf, C_b h]
  unfold plc
  by_cases h0 : x < 0
  · rw [if_pos h0, if_pos h0]; rfl
  · rw [if_neg h0, if_neg h0]
    obtain ⟨j, hj, rfl⟩ := nI_of h0
    rw [q10, pk_rem hj (by decide) (by decide), pk_div hj (by decide) (by decide), nI_clamp hj, cond_true, c_placeAt h hg hc (by omega) (by omega)]
    split <;> rfl
theorem c_streetOf (h : isC c) (hg : gOk g) (hc : CityC c g s) {x : Int32} : wI (wp (d + 3)) m_C_streetOf [.ref c, .int x] s K = K (oI (stc g x)) s := by
  have h1 := gN_le hg
  rw [e_C_streetOf, C_b h, cond_true, c_placeOf h hg hc]
  unfold stc
  cases e : plc g x with
  | none => rw [n_m1]; simp only [oI, if_true]
  | some k =>
    have hk := plc_lt e
    simp only [oI, n_m1]
    simp only [m1_eq (show k < 2 ^ 31 by omega), if_false, cond_true, c_isStreet h hg hc hk, q0, b01_0]
    cases gst g k <;> simp
theorem c_cellOf (h : isC c) (hg : gOk g) (hc : CityC c g s) {p : Nat} (hp : p < gN g) : wI (wp (d + 1)) m_C_cellOf [.ref c, .int (nI p)] s K = K (nI (p / gC g * 10 + p % gC g)) s := by
  have h1 := gN_le hg
  have h2 := hg.2.1
  have h3 := gC_pos hp
  rw [e_C_cellOf, C_b h]
  simp only [cond_true, hc.2.1]
  rw [pk_rem (by omega) h3 (by omega), pk_div (by omega) h3 (by omega)]
  simp (disch := omega) only [↓n_m1, ↓n_hid, q0, q1, q2, q3, q4, q5, q6, q7, q8, q9, q10, q11, q12, q13, q14, q15, q16, q17, q18, q19, q20, q21, q22, q23, q24, q25, q26, q27, q28, q29, q30, q31, q32, q33, q34, q35, q36, q37, q38, q39, q40, q41, q42, q43, q44, q45, q46, q47, q48, q49, q50, q51, q52, q53, q54, q55, q56, q57, q58, q59, q61, q62, q63, q64, q66, q67, q68, q69, q70, q71, q91, q93, q99, q100, q102, q104, q107, q108, q112, q114, q115, q119, q121, q124, q160, q200, q255, q640, q999, q1000, q2000, q4096, n_of, nI_ltI, nI_leI, nI_eq, nI_clamp, nI_add, pk_mul, n_sub, m1_eq, m1_eq2, m1_lt, m1_lt2, gdN, Nat.not_lt_zero, false_or, if_true, if_false, if_pos, if_neg, cond_true, cond_false, beq_self, and_self, true_and, and_true, not_true_eq_false, not_false_eq_true, ne_eq]
theorem c_stepCost {w side : Nat} (hw : w < 5) (hs : side < 5) : wI (wp (d + 1)) m_C_stepCost [.int (nI w), .int (nI side)] s K = K (nI (cst w side)) s := by
  rw [e_C_stepCost, q1, q4, nI_add, pk_rem (by omega) (by decide) (by decide)]
  simp (disch := omega) only [↓n_m1, ↓n_hid, q0, q1, q2, q3, q4, q5, q6, q7, q8, q9, q10, q11, q12, q13, q14, q15, q16, q17, q18, q19, q20, q21, q22, q23, q24, q25, q26, q27, q28, q29, q30, q31, q32, q33, q34, q35, q36, q37, q38, q39, q40, q41, q42, q43, q44, q45, q46, q47, q48, q49, q50, q51, q52, q53, q54, q55, q56, q57, q58, q59, q61, q62, q63, q64, q66, q67, q68, q69, q70, q71, q91, q93, q99, q100, q102, q104, q107, q108, q112, q114, q115, q119, q121, q124, q160, q200, q255, q640, q999, q1000, q2000, q4096, n_of, nI_ltI, nI_leI, nI_eq, nI_clamp, nI_add, pk_mul, n_sub, m1_eq, m1_eq2, m1_lt, m1_lt2, gdN, Nat.not_lt_zero, false_or, if_true, if_false, if_pos, if_neg, cond_true, cond_false, beq_self, and_self, true_and, and_true, not_true_eq_false, not_false_eq_true, ne_eq]
  unfold cst
  split
  · rfl
  · split <;> rfl
theorem c_timely_l (h : isC c) (hg : gOk g) (hc : CityC c g s) {hr : Nat} (hh : hr < 24) : ∀ (n i : Nat) (a : Int32) (v4 v5 v6 : Value), i + n = gS g → RnI (d + 2) m_C_timely K 4 [.ref c, .int (nI hr), .int a, .int (nI i), v4, v5, v6] [] s = K (itr (fun k x => if tml g hr k = true then x ||| bit k else x) n i a) s := by
  have h1 := hg.2.2.1
  intro n
  induction n with
  | zero =>
    intro i a v4 v5 v6 hi
    rw [r_C_timely_4, C_b h]
    simp only [cond_true, hc.2.2.1]
    simp (disch := omega) only [↓n_m1, ↓n_hid, q0, q1, q2, q3, q4, q5, q6, q7, q8, q9, q10, q11, q12, q13, q14, q15, q16, q17, q18, q19, q20, q21, q22, q23, q24, q25, q26, q27, q28, q29, q30, q31, q32, q33, q34, q35, q36, q37, q38, q39, q40, q41, q42, q43, q44, q45, q46, q47, q48, q49, q50, q51, q52, q53, q54, q55, q56, q57, q58, q59, q61, q62, q63, q64, q66, q67, q68, q69, q70, q71, q91, q93, q99, q100, q102, q104, q107, q108, q112, q114, q115, q119, q121, q124, q160, q200, q255, q640, q999, q1000, q2000, q4096, n_of, nI_ltI, nI_leI, nI_eq, nI_clamp, nI_add, pk_mul, n_sub, m1_eq, m1_eq2, m1_lt, m1_lt2, gdN, Nat.not_lt_zero, false_or, if_true, if_false, if_pos, if_neg, cond_true, cond_false, beq_self, and_self, true_and, and_true, not_true_eq_false, not_false_eq_true, ne_eq]
    rfl
  | succ n ih =>
    intro i a v4 v5 v6 hi
    have h3 := hg.2.2.2.2.2 i (by omega)
    rw [r_C_timely_4, C_b h]
    simp only [cond_true, hc.2.2.1, q3, q4, c_item h hg hc (show i < gS g by omega) (show 3 < 6 by decide), c_item h hg hc (show i < gS g by omega) (show 4 < 6 by decide)]
    simp (disch := omega) only [↓n_m1, ↓n_hid, q0, q1, q2, q3, q4, q5, q6, q7, q8, q9, q10, q11, q12, q13, q14, q15, q16, q17, q18, q19, q20, q21, q22, q23, q24, q25, q26, q27, q28, q29, q30, q31, q32, q33, q34, q35, q36, q37, q38, q39, q40, q41, q42, q43, q44, q45, q46, q47, q48, q49, q50, q51, q52, q53, q54, q55, q56, q57, q58, q59, q61, q62, q63, q64, q66, q67, q68, q69, q70, q71, q91, q93, q99, q100, q102, q104, q107, q108, q112, q114, q115, q119, q121, q124, q160, q200, q255, q640, q999, q1000, q2000, q4096, n_of, nI_ltI, nI_leI, nI_eq, nI_clamp, nI_add, pk_mul, n_sub, m1_eq, m1_eq2, m1_lt, m1_lt2, gdN, Nat.not_lt_zero, false_or, if_true, if_false, if_pos, if_neg, cond_true, cond_false, beq_self, and_self, true_and, and_true, not_true_eq_false, not_false_eq_true, ne_eq, bit_e]
    simp only [fun a v4 v5 v6 => ih (i + 1) a v4 v5 v6 (by omega), itr]
    by_cases h4 : git g i 3 < git g i 4 <;> by_cases h5 : hr < git g i 3 <;> by_cases h6 : hr < git g i 4 <;> first
      | (exfalso; omega)
      | (have ht : tml g hr i = true := by
          unfold tml
          simp only [h4, if_true, if_false]
          exact decide_eq_true (by omega)
         simp only [ht, h4, h5, h6, if_true, if_false])
      | (have ht : tml g hr i = false := by
          unfold tml
          simp only [h4, if_true, if_false]
          exact decide_eq_false (by omega)
         simp only [ht, h4, h5, h6, if_true, if_false, Bool.false_eq_true])
theorem c_timely (h : isC c) (hg : gOk g) (hc : CityC c g s) {hr : Nat} (hh : hr < 24) : wI (wp (d + 3)) m_C_timely [.ref c, .int (nI hr)] s K = K (bits (tml g hr) (gS g)) s := by
  rw [e_C_timely, q0, c_timely_l h hg hc hh (gS g) 0 _ _ _ _ (by omega)]
  rfl
end
