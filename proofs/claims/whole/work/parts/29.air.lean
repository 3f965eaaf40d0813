/-! the class's air: whiffs by a wind, smells and breaths by some sources -/
def smF (g : Gph) (W : Wth) (h : Nat) (rn : Bool) (w : Nat) (o : Int32) (k q i m : Nat) : Nat :=
  if (tb o i && (tml g h i && decide (git g i 0 = q))) = true then (if m < vN g W h rn w (gsp g i) (git g i 5) (git g i 0) k then vN g W h rn w (gsp g i) (git g i 5) (git g i 0) k else m) else m
def smS (g : Gph) (W : Wth) (h : Nat) (rn : Bool) (w : Nat) (o : Int32) (k q n : Nat) : Nat := itr (fun i m => smF g W h rn w o k q i m) n 0 0
/-- the smell of kind q at place k by the sources of o; ex: a forged one, its place and kind -/
def smN (g : Gph) (W : Wth) (h : Nat) (rn : Bool) (w : Nat) (o : Int32) (ex : Option (Nat × Nat)) (k q : Nat) : Nat :=
  match ex with
  | none => smS g W h rn w o k q (gS g)
  | some (p, kd) => if kd = q then (if smS g W h rn w o k q (gS g) < vN g W h rn w p 5 kd k then vN g W h rn w p 5 kd k else smS g W h rn w o k q (gS g)) else smS g W h rn w o k q (gS g)
def smd (dl m : Nat) : Bool := decide (0 < m ∧ dl ≤ m)
def brI (g : Gph) (W : Wth) (h : Nat) (rn : Bool) (w dl : Nat) (o : Int32) (ex : Option (Nat × Nat)) (k : Nat) : Int32 := bits (fun q => smd dl (smN g W h rn w o ex k q)) 5
theorem smd_max (dl a b : Nat) : smd dl (if a < b then b else a) = (smd dl a || smd dl b) := by
  unfold smd
  rw [← Bool.decide_or]
  refine decide_eq_decide.mpr ?_
  split <;> omega
theorem smd_0 (dl : Nat) : smd dl 0 = false := decide_eq_false (by omega)
theorem smS_le {g : Gph} {W : Wth} {h : Nat} {rn : Bool} {w : Nat} {o : Int32} {k q : Nat} : ∀ n, smS g W h rn w o k q n ≤ 99
  | 0 => Nat.zero_le 99
  | n + 1 => by
    have := smS_le (g := g) (W := W) (h := h) (rn := rn) (w := w) (o := o) (k := k) (q := q) n
    have hv := vN_le (g := g) (W := W) (h := h) (rn := rn) (w := w) (a := gsp g n) (pw := git g n 5) (kd := git g n 0) (k := k)
    unfold smS
    rw [itr_S, Nat.zero_add]
    show smF g W h rn w o k q n (smS g W h rn w o k q n) ≤ 99
    unfold smF
    repeat' split
    all_goals omega
theorem smN_le {g : Gph} {W : Wth} {h : Nat} {rn : Bool} {w : Nat} {o : Int32} {ex : Option (Nat × Nat)} {k q : Nat} : smN g W h rn w o ex k q ≤ 99 := by
  unfold smN
  have := smS_le (g := g) (W := W) (h := h) (rn := rn) (w := w) (o := o) (k := k) (q := q) (gS g)
  split
  · exact this
  · have hv := fun p kd => vN_le (g := g) (W := W) (h := h) (rn := rn) (w := w) (a := p) (pw := 5) (kd := kd) (k := k)
    split
    · split
      · exact hv _ _
      · exact this
    · exact this
theorem among {x y : Int32} {i : Nat} (hi : i < 32) : (((x &&& y) &&& bit i) = nI 0) = ((tb x i && tb y i) = false) := by
  apply propext
  constructor
  · intro e
    have := congrArg (fun z => tb z i) e
    simp only [tb_and, tb_bit hi, tb_0, decide_true, Bool.and_true] at this
    exact this
  · intro e
    refine tb_ext fun k hk => ?_
    rw [tb_and, tb_bit hi, tb_0, tb_and]
    by_cases h : i = k
    · rw [← h, e, Bool.false_and]
    · rw [decide_eq_false h, Bool.and_false]
def AirC (g : Gph) (W : Wth) (h : Nat) (rn : Bool) (w dl : Nat) (ex : Option (Nat × Nat)) (s : Mem) : Prop :=
  AirF w h rn s ∧ s 37 3 = nI dl ∧ (∀ k, k < 32 → tb (s 37 4) k = ((decide (k < gS g) && tml g h k) || decide (k = 6))) ∧ (∀ k, k < gS g → s 38 k = nI (git g k 0)) ∧
  (∀ k, k < gS g → tml g h k = true → ∀ p, p < gN g → s 39 (20 * k + p) = nI (vN g W h rn w (gsp g k) (git g k 5) (git g k 0) p)) ∧
  ∀ p kd, ex = some (p, kd) → s 38 6 = nI kd ∧ ∀ q, q < gN g → s 39 (20 * 6 + q) = nI (vN g W h rn w p 5 kd q)
section
variable {d c : Nat} {g : Gph} {W : Wth} {P : Mem → Prop} {lv : Value} {Ll : List Nat} {h : Nat} {rn : Bool} {w dl : Nat}
theorem c_whiff {K : Mem → Prop} (hcc : isC c) (hg : gOk g) (hl : HlC lv Ll W P) (hP : PStay c P) (hh : h < 24) (hw : w < 5) {si a pw kd : Nat} (hsi : si < 7) (ha : a < gN g) (has : gst g a = true) (hpw : pw ≤ 9) (hkd : kd ≤ 4) {s : Mem} (hA : AirF w h rn s) (hc : CityF c g s) (hp : P s) (hk : s 38 si = nI kd)
    (hK : ∀ s', frm ([c + 5, c + 6, 39] ++ Ll) s s' → CityF c g s' → P s' → (∀ k, k < gN g → s' 39 (20 * si + k) = nI (vN g W h rn w a pw kd k)) → (∀ j, j < 20 * si ∨ 20 * si + 20 ≤ j → s' 39 j = s 39 j) → K s') :
    wV (wp (d + 6)) m_A_whiff [.ref 37, .ref c, lv, .int (nI si), .int (nI a), .int (nI pw)] s K := by
  have key := fun v8 v9 v10 v11 => c_whiff_l (d := d) hcc hg hl hP hh hw hsi ha has hpw hkd hA hK (gN g) 0 s v8 v9 v10 v11 (by omega) frm_r hc hp (fun k hk => by omega) (fun _ _ => rfl)
  have hat : ∀ K, wI (wp (d + 5)) m_X_at [.ref 38, .int (nI si)] s K = K (nI kd) s := fun K => by
    rw [c_at (show (shp 38).1 = 20 from rfl) (show si < (shp 38).2 from hsi), hk]
  rcases hl with ⟨rfl, _, _⟩ | ⟨l, hl5, rfl, _, _⟩
  · rw [e_A_whiff_n, hat]
    simp only [q0]
    exact key _ _ _ _
  · rw [e_A_whiff, hat]
    simp only [q0]
    exact key _ _ _ _
theorem c_isAmong {K : Int32 → Mem → Prop} {s : Mem} {i : Nat} {o : Int32} (hi : i < 32) : wI (wp (d + 1)) m_A_isAmong [.ref 37, .int (nI i), .int o] s K = K (b01 (tb o i && tb (s 37 4) i)) s := by
  rw [e_A_isAmong]
  simp only [q31, q1, q0, bit_e, among hi]
  cases tb o i && tb (s 37 4) i <;> simp [b01]
theorem c_isSmelled {K : Int32 → Mem → Prop} {s : Mem} {v : Nat} (hv : v ≤ 99) (hd : s 37 3 = nI dl) (hdl : dl ≤ 50) : wI (wp (d + 1)) m_A_isSmelled [.ref 37, .int (nI v)] s K = K (b01 (smd dl v)) s := by
  rw [e_A_isSmelled, hd]
  simp (disch := omega) only [↓n_m1, ↓n_hid, q0, q1, q2, q3, q4, q5, q6, q7, q8, q9, q10, q11, q12, q13, q14, q15, q16, q17, q18, q19, q20, q21, q22, q23, q24, q25, q26, q27, q28, q29, q30, q31, q32, q33, q34, q35, q36, q37, q38, q39, q40, q41, q42, q43, q44, q45, q46, q47, q48, q49, q50, q51, q52, q53, q54, q55, q56, q57, q58, q59, q61, q62, q63, q64, q66, q67, q68, q69, q70, q71, q91, q93, q99, q100, q102, q104, q107, q108, q112, q114, q115, q119, q121, q124, q160, q200, q255, q640, q999, q1000, q2000, q4096, n_of, nI_ltI, nI_leI, nI_eq, nI_clamp, nI_add, pk_mul, n_sub, m1_eq, m1_eq2, m1_lt, m1_lt2, gdN, Nat.not_lt_zero, false_or, if_true, if_false, if_pos, if_neg, cond_true, cond_false, beq_self, and_self, true_and, and_true, not_true_eq_false, not_false_eq_true, ne_eq]
  unfold smd
  by_cases h0 : 0 < v
  · by_cases h1 : v < dl
    · rw [decide_eq_false (by omega)]; simp [h0, h1, b01]
    · rw [decide_eq_true (by omega)]; simp [h0, h1, b01]
  · rw [decide_eq_false (by omega)]; simp [h0, b01]
theorem c_whiffAt {K : Int32 → Mem → Prop} {s : Mem} {i k : Nat} (hi : i < 7) (hk : k < 20) : wI (wp (d + 2)) m_A_whiffAt [.ref 37, .int (nI i), .int (nI k)] s K = K (s 39 (20 * i + k)) s := by
  rw [e_A_whiffAt]
  simp (disch := omega) only [↓n_m1, ↓n_hid, q0, q1, q2, q3, q4, q5, q6, q7, q8, q9, q10, q11, q12, q13, q14, q15, q16, q17, q18, q19, q20, q21, q22, q23, q24, q25, q26, q27, q28, q29, q30, q31, q32, q33, q34, q35, q36, q37, q38, q39, q40, q41, q42, q43, q44, q45, q46, q47, q48, q49, q50, q51, q52, q53, q54, q55, q56, q57, q58, q59, q61, q62, q63, q64, q66, q67, q68, q69, q70, q71, q91, q93, q99, q100, q102, q104, q107, q108, q112, q114, q115, q119, q121, q124, q160, q200, q255, q640, q999, q1000, q2000, q4096, n_of, nI_ltI, nI_leI, nI_eq, nI_clamp, nI_add, pk_mul, n_sub, m1_eq, m1_eq2, m1_lt, m1_lt2, gdN, Nat.not_lt_zero, false_or, if_true, if_false, if_pos, if_neg, cond_true, cond_false, beq_self, and_self, true_and, and_true, not_true_eq_false, not_false_eq_true, ne_eq]
  rw [c_at (show (shp 39).1 = 20 from rfl) (show i * 20 + k < (shp 39).2 by show _ < 140; omega), Nat.mul_comm]
theorem smS_S {o : Int32} {k q n : Nat} : smS g W h rn w o k q (n + 1) = smF g W h rn w o k q n (smS g W h rn w o k q n) := by
  unfold smS
  rw [itr_S, Nat.zero_add]
theorem n_max (a b : Nat) (ha : a < 2 ^ 31) (hb : b < 2 ^ 31) : (if nI a < nI b then nI b else nI a) = nI (if a < b then b else a) := by
  simp only [nI_ltI ha hb]
  split <;> rfl
theorem c_greatest_l {K : Int32 → Mem → Prop} (hg : gOk g) {s : Mem} {ex : Option (Nat × Nat)} (hA : AirC g W h rn w dl ex s) {o : Int32} {k q : Nat} (hk : k < gN g) (hq : q < 5) : ∀ (n i : Nat), i + n = 6 →
    RnI (d + 2) m_A_greatest K 6 [.ref 37, .int (nI k), .int (nI q), .int o, .int (nI (smS g W h rn w o k q (min i (gS g)))), .int (nI i)] [] s = RnI (d + 2) m_A_greatest K 6 [.ref 37, .int (nI k), .int (nI q), .int o, .int (nI (smS g W h rn w o k q (gS g))), .int (nI 6)] [] s := by
  have h20 := gN_le hg
  have h6 := hg.2.2.1
  intro n
  induction n with
  | zero =>
    intro i hi
    obtain rfl : i = 6 := by omega
    rw [Nat.min_eq_right h6]
  | succ n ih =>
    intro i hi
    rw [← ih (i + 1) (by omega), r_A_greatest_6, c_isAmong (show i < 32 by omega), hA.2.2.1 i (by omega), decide_eq_false (show ¬ i = 6 by omega), Bool.or_false]
    simp (disch := omega) only [↓n_m1, ↓n_hid, q0, q1, q2, q3, q4, q5, q6, q7, q8, q9, q10, q11, q12, q13, q14, q15, q16, q17, q18, q19, q20, q21, q22, q23, q24, q25, q26, q27, q28, q29, q30, q31, q32, q33, q34, q35, q36, q37, q38, q39, q40, q41, q42, q43, q44, q45, q46, q47, q48, q49, q50, q51, q52, q53, q54, q55, q56, q57, q58, q59, q61, q62, q63, q64, q66, q67, q68, q69, q70, q71, q91, q93, q99, q100, q102, q104, q107, q108, q112, q114, q115, q119, q121, q124, q160, q200, q255, q640, q999, q1000, q2000, q4096, n_of, nI_ltI, nI_leI, nI_eq, nI_clamp, nI_add, pk_mul, n_sub, m1_eq, m1_eq2, m1_lt, m1_lt2, gdN, Nat.not_lt_zero, false_or, if_true, if_false, if_pos, if_neg, cond_true, cond_false, beq_self, and_self, true_and, and_true, not_true_eq_false, not_false_eq_true, ne_eq, b01_0]
    by_cases hS : i < gS g
    · have hmin : min i (gS g) = i := Nat.min_eq_left (by omega)
      have hmin2 : min (i + 1) (gS g) = i + 1 := Nat.min_eq_left (by omega)
      have hv := vN_le (g := g) (W := W) (h := h) (rn := rn) (w := w) (a := gsp g i) (pw := git g i 5) (kd := git g i 0) (k := k)
      have hm := smS_le (g := g) (W := W) (h := h) (rn := rn) (w := w) (o := o) (k := k) (q := q) i
      have hit := (hg.2.2.2.2.2 i hS).1
      rw [hmin, hmin2, decide_eq_true hS, Bool.true_and, smS_S]
      unfold smF
      cases ho : tb o i
      · simp
      · cases ht : tml g h i
        · simp
        · simp only [Bool.and_self, Bool.true_and, Bool.true_eq_false, if_false, decide_eq_true_eq]
          rw [c_at (show (shp 38).1 = 20 from rfl) (show i < (shp 38).2 by show _ < 7; omega), hA.2.2.2.1 i hS]
          simp (disch := omega) only [↓n_m1, ↓n_hid, q0, q1, q2, q3, q4, q5, q6, q7, q8, q9, q10, q11, q12, q13, q14, q15, q16, q17, q18, q19, q20, q21, q22, q23, q24, q25, q26, q27, q28, q29, q30, q31, q32, q33, q34, q35, q36, q37, q38, q39, q40, q41, q42, q43, q44, q45, q46, q47, q48, q49, q50, q51, q52, q53, q54, q55, q56, q57, q58, q59, q61, q62, q63, q64, q66, q67, q68, q69, q70, q71, q91, q93, q99, q100, q102, q104, q107, q108, q112, q114, q115, q119, q121, q124, q160, q200, q255, q640, q999, q1000, q2000, q4096, n_of, nI_ltI, nI_leI, nI_eq, nI_clamp, nI_add, pk_mul, n_sub, m1_eq, m1_eq2, m1_lt, m1_lt2, gdN, Nat.not_lt_zero, false_or, if_true, if_false, if_pos, if_neg, cond_true, cond_false, beq_self, and_self, true_and, and_true, not_true_eq_false, not_false_eq_true, ne_eq]
          by_cases hqi : git g i 0 = q
          · simp only [hqi, if_true]
            rw [c_whiffAt (by omega) (by omega), hA.2.2.2.2.1 i hS ht k hk, hqi, c_max, n_max _ _ (by omega) (by rw [← hqi]; omega)]
          · simp only [hqi, if_false]
    · have hmin : min i (gS g) = gS g := Nat.min_eq_right (by omega)
      have hmin2 : min (i + 1) (gS g) = gS g := Nat.min_eq_right (by omega)
      rw [hmin, hmin2, decide_eq_false hS, Bool.false_and, Bool.and_false]
      simp only [if_true]
theorem c_greatest {K : Int32 → Mem → Prop} (hg : gOk g) {s : Mem} {ex : Option (Nat × Nat)} (hA : AirC g W h rn w dl ex s) {o : Int32} (ho : tb o 6 = ex.isSome) {k q : Nat} (hk : k < gN g) (hq : q < 5) (hex : ∀ p kd, ex = some (p, kd) → kd ≤ 4) :
    wI (wp (d + 3)) m_A_greatest [.ref 37, .int (nI k), .int (nI q), .int o] s K = K (nI (smN g W h rn w o ex k q)) s := by
  have h20 := gN_le hg
  have h6 := hg.2.2.1
  have hm := smS_le (g := g) (W := W) (h := h) (rn := rn) (w := w) (o := o) (k := k) (q := q) (gS g)
  rw [e_A_greatest, q0]
  have e := c_greatest_l (d := d) (K := K) hg hA (o := o) hk hq 6 0 rfl
  rw [Nat.zero_min] at e
  refine Eq.trans e ?_
  rw [r_A_greatest_6, c_isAmong (show 6 < 32 by omega), hA.2.2.1 6 (by omega), ho]
  simp (disch := omega) only [↓n_m1, ↓n_hid, q0, q1, q2, q3, q4, q5, q6, q7, q8, q9, q10, q11, q12, q13, q14, q15, q16, q17, q18, q19, q20, q21, q22, q23, q24, q25, q26, q27, q28, q29, q30, q31, q32, q33, q34, q35, q36, q37, q38, q39, q40, q41, q42, q43, q44, q45, q46, q47, q48, q49, q50, q51, q52, q53, q54, q55, q56, q57, q58, q59, q61, q62, q63, q64, q66, q67, q68, q69, q70, q71, q91, q93, q99, q100, q102, q104, q107, q108, q112, q114, q115, q119, q121, q124, q160, q200, q255, q640, q999, q1000, q2000, q4096, n_of, nI_ltI, nI_leI, nI_eq, nI_clamp, nI_add, pk_mul, n_sub, m1_eq, m1_eq2, m1_lt, m1_lt2, gdN, Nat.not_lt_zero, false_or, if_true, if_false, if_pos, if_neg, cond_true, cond_false, beq_self, and_self, true_and, and_true, not_true_eq_false, not_false_eq_true, ne_eq, b01_0]
  have out : ∀ x : Int32, RnI (d + 2) m_A_greatest K 6 [.ref 37, .int (nI k), .int (nI q), .int o, .int x, .int (nI (6 + 1))] [] s = K x s := by
    intro x
    rw [r_A_greatest_6]
    simp (disch := omega) only [↓n_m1, ↓n_hid, q0, q1, q2, q3, q4, q5, q6, q7, q8, q9, q10, q11, q12, q13, q14, q15, q16, q17, q18, q19, q20, q21, q22, q23, q24, q25, q26, q27, q28, q29, q30, q31, q32, q33, q34, q35, q36, q37, q38, q39, q40, q41, q42, q43, q44, q45, q46, q47, q48, q49, q50, q51, q52, q53, q54, q55, q56, q57, q58, q59, q61, q62, q63, q64, q66, q67, q68, q69, q70, q71, q91, q93, q99, q100, q102, q104, q107, q108, q112, q114, q115, q119, q121, q124, q160, q200, q255, q640, q999, q1000, q2000, q4096, n_of, nI_ltI, nI_leI, nI_eq, nI_clamp, nI_add, pk_mul, n_sub, m1_eq, m1_eq2, m1_lt, m1_lt2, gdN, Nat.not_lt_zero, false_or, if_true, if_false, if_pos, if_neg, cond_true, cond_false, beq_self, and_self, true_and, and_true, not_true_eq_false, not_false_eq_true, ne_eq]
  cases ex with
  | none => simp [smN, out]
  | some e =>
    obtain ⟨p, kd⟩ := e
    have h7 := hA.2.2.2.2.2 p kd rfl
    have hkd := hex p kd rfl
    have hv := vN_le (g := g) (W := W) (h := h) (rn := rn) (w := w) (a := p) (pw := 5) (kd := kd) (k := k)
    simp only [Option.isSome_some, decide_true, Bool.or_true, Bool.and_self, Bool.true_eq_false, if_false]
    rw [c_at (show (shp 38).1 = 20 from rfl) (show 6 < (shp 38).2 by decide), h7.1]
    simp (disch := omega) only [↓n_m1, ↓n_hid, q0, q1, q2, q3, q4, q5, q6, q7, q8, q9, q10, q11, q12, q13, q14, q15, q16, q17, q18, q19, q20, q21, q22, q23, q24, q25, q26, q27, q28, q29, q30, q31, q32, q33, q34, q35, q36, q37, q38, q39, q40, q41, q42, q43, q44, q45, q46, q47, q48, q49, q50, q51, q52, q53, q54, q55, q56, q57, q58, q59, q61, q62, q63, q64, q66, q67, q68, q69, q70, q71, q91, q93, q99, q100, q102, q104, q107, q108, q112, q114, q115, q119, q121, q124, q160, q200, q255, q640, q999, q1000, q2000, q4096, n_of, nI_ltI, nI_leI, nI_eq, nI_clamp, nI_add, pk_mul, n_sub, m1_eq, m1_eq2, m1_lt, m1_lt2, gdN, Nat.not_lt_zero, false_or, if_true, if_false, if_pos, if_neg, cond_true, cond_false, beq_self, and_self, true_and, and_true, not_true_eq_false, not_false_eq_true, ne_eq]
    unfold smN
    by_cases hqi : kd = q
    · simp only [hqi, if_true]
      rw [c_whiffAt (by omega) (by omega), h7.2 k hk, c_max, n_max _ _ (by omega) (by omega), out, hqi]
    · simp only [hqi, if_false, out]
end
