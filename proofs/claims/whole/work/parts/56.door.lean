/-! door and most -/
section
variable {d c : Nat} {g : Gph} {W : Wth} {P Q : Mem → Prop} {lv : Value} {Ll : List Nat} {rn : Bool} {w dl hr : Nat} {o : Int32} {s : Mem}
theorem shS {S : Nat} (h : S ≤ 6) : (1 : Int32) <<< (nI S &&& 31) = nI (2 ^ S) := bit_n S (by omega)
theorem p64 {S : Nat} (h : S ≤ 6) : 2 ^ S ≤ 64 := Nat.pow_le_pow_right (by decide) h
theorem set_6 {S i : Nat} (h : S ≤ 6) (hi : i < 2 ^ S) : tb (nI i) 6 = (none : Option (Nat × Nat)).isSome := by
  have := p64 h
  rw [tb_nI (by omega)]
  exact Nat.testBit_lt_two_pow (by omega)
/-- a place that is told from all by its breath -/
def alo (g : Gph) (br : Nat → Int32) (k : Nat) : Bool := decide (¬ br k = nI 0 ∧ ∀ j, j < gN g → j ≠ k → gst g j = true → br j ≠ br k)
theorem alo_e {br br' : Nat → Int32} {k : Nat} (hk : k < gN g) (h : ∀ j, j < gN g → br j = br' j) : alo g br k = alo g br' k := by
  refine decide_eq_decide.mpr ⟨fun ⟨a, b⟩ => ⟨by rw [← h k hk]; exact a, fun j h1 h2 h3 => by rw [← h j h1, ← h k hk]; exact b j h1 h2 h3⟩, fun ⟨a, b⟩ => ⟨by rw [h k hk]; exact a, fun j h1 h2 h3 => by rw [h j h1, h k hk]; exact b j h1 h2 h3⟩⟩
def dst (A : Nat → Bool) (i : Nat) (b : Option Nat) : Option Nat := match b with
  | none => if A i = true then some i else none
  | some j => if bcF (nI i) < bcF (nI j) then (if A i = true then some i else some j) else some j
def brS (g : Gph) (W : Wth) (h : Nat) (rn : Bool) (w dl i : Nat) : Nat → Int32 := fun k => brI g W h rn w dl (nI i) none k
theorem c_door_l {K : Int32 → Mem → Prop} (h : QQ c g W P Q lv Ll w rn dl hr o s) (n1 : NoC c g W rn w dl hr s) {k : Nat} (hk : k < gN g) (hK : ∀ t, frm [40] s t → K (oI (itr (dst (fun i => alo g (brS g W (hr % 24) rn w dl i) k)) (2 ^ gS g) 0 none)) t) :
    ∀ (n i : Nat) (b : Option Nat) (v1 v5 : Value) (t : Mem), i + n = 2 ^ gS g → frm [40] s t → (∀ j, b = some j → j < 64) → itr (dst (fun i => alo g (brS g W (hr % 24) rn w dl i) k)) (2 ^ gS g) 0 none = itr (dst (fun i => alo g (brS g W (hr % 24) rn w dl i) k)) n i b →
    RnI (d + 10) m_X_door K 33 [.ref 0, v1, .int (nI k), .int (oI b), .int (nI i), v5] [] t := by
  have hg := qq_gOk h
  have h20 := gN_le hg
  have hcc := qq_isC h
  have hS := hg.2.2.1
  have h64 := p64 hS
  intro n
  induction n with
  | zero =>
    intro i b v1 v5 t hi hf hb he
    obtain ⟨_, ht⟩ := QQ_c h hf (by simp)
    rw [r_X_door_33, qq_ref ht, cref hcc, crefc hcc, c_sourceCount (d := d + 9) hcc (qq_cf ht).1, shS hS, if_neg (show ¬ nI i < nI (2 ^ gS g) by rw [nI_ltI (by omega) (by omega)]; omega)]
    have := hK t hf
    rw [he] at this
    exact this
  | succ n ih =>
    intro i b v1 v5 t hi hf hb he
    obtain ⟨_, ht⟩ := QQ_c h hf (by simp)
    have aA : AirC g W (hr % 24) rn w dl none t := AirC_f (by simp) (by simp) (by simp) hf n1.2.2.2.2.1
    rw [r_X_door_33, qq_ref ht, cref hcc, crefc hcc, c_sourceCount (d := d + 9) hcc (qq_cf ht).1, shS hS, if_pos (show nI i < nI (2 ^ gS g) by rw [nI_ltI (by omega) (by omega)]; omega), qq_ref ht, cref2 hcc, crefc hcc]
    refine c_breathe (d := d + 4) hcc hg (qq_cf ht).1 aA (qq_dl h).2 (set_6 hS (by omega)) (fun _ _ z => by simp at z) (fun _ _ z => by simp at z) ?_
    intro t2 f2 hB
    have hf2 := frm_t hf f2
    obtain ⟨_, h2⟩ := QQ_c h hf2 (by simp)
    have al : decide (¬ t2 40 k = nI 0 ∧ ∀ j, j < gN g → j ≠ k → gst g j = true → t2 40 j ≠ t2 40 k) = alo g (brS g W (hr % 24) rn w dl i) k := alo_e hk hB
    have he' : itr (dst (fun i => alo g (brS g W (hr % 24) rn w dl i) k)) (2 ^ gS g) 0 none = itr (dst (fun i => alo g (brS g W (hr % 24) rn w dl i) k)) n (i + 1) (dst (fun i => alo g (brS g W (hr % 24) rn w dl i) k) i b) := he
    have e1 : nI i + 1 = nI (i + 1) := nI_add i 1
    rw [e1]
    cases b with
    | none =>
      rw [if_pos (show oI none = -1 from rfl), qq_ref h2, cref2 hcc, crefc hcc, c_isAlone (d := d + 6) hcc hg (qq_cf h2).1 hk, al, ifb]
      by_cases ha : alo g (brS g W (hr % 24) rn w dl i) k = true
      · rw [if_pos ha]
        rw [show dst (fun i => alo g (brS g W (hr % 24) rn w dl i) k) i none = some i from if_pos ha] at he'
        exact ih (i + 1) (some i) _ _ _ (by omega) hf2 (fun j z => by injection z with z; omega) he'
      · rw [if_neg ha]
        rw [show dst (fun i => alo g (brS g W (hr % 24) rn w dl i) k) i none = none from if_neg ha] at he'
        exact ih (i + 1) none _ _ _ (by omega) hf2 (fun j z => by simp at z) he'
    | some j =>
      have hj := hb j rfl
      rw [if_neg (show ¬ oI (some j) = -1 from fun z => by rw [n_m1, oI, m1_eq (by omega)] at z; exact z), c_bitCount (d := d + 9), c_bitCount (d := d + 9), show oI (some j) = nI j from rfl]
      by_cases hlt : bcF (nI i) < bcF (nI j)
      · rw [if_pos hlt, qq_ref h2, cref2 hcc, crefc hcc, c_isAlone (d := d + 6) hcc hg (qq_cf h2).1 hk, al, ifb]
        by_cases ha : alo g (brS g W (hr % 24) rn w dl i) k = true
        · rw [if_pos ha]
          rw [show dst (fun i => alo g (brS g W (hr % 24) rn w dl i) k) i (some j) = some i from (if_pos hlt).trans (if_pos ha)] at he'
          exact ih (i + 1) (some i) _ _ _ (by omega) hf2 (fun j z => by injection z with z; omega) he'
        · rw [if_neg ha]
          rw [show dst (fun i => alo g (brS g W (hr % 24) rn w dl i) k) i (some j) = some j from (if_pos hlt).trans (if_neg ha)] at he'
          exact ih (i + 1) (some j) _ _ _ (by omega) hf2 hb he'
      · rw [if_neg hlt]
        rw [show dst (fun i => alo g (brS g W (hr % 24) rn w dl i) k) i (some j) = some j from if_neg hlt] at he'
        exact ih (i + 1) (some j) _ _ _ (by omega) hf2 hb he'
theorem m_door_85 {K : Int32 → Mem → Prop} (hg : gOk g) {t : Mem} (hc : CityM g t) {k i : Nat} (hk : k < gN g) {x3 : Int32} {p : Bool}
    (hK : ∀ v5 v6, RnI (d + 2) m_M_door K 23 [.ref 57, uV, .int (nI k), .int (if p = true then nI i else x3), .int (nI (i + 1)), v5, v6] [] t) :
    ∀ (n j : Nat) (acc : Bool) (v1 : Value), j + n = gN g → p = (acc && decide (∀ j', j' < gN g → j ≤ j' → j' ≠ k → gst g j' = true → t 73 j' ≠ t 73 k)) → RnI (d + 2) m_M_door K 85 [.ref 57, v1, .int (nI k), .int x3, .int (nI i), .int (b01 acc), .int (nI j)] [] t := by
  have h20 := gN_le hg
  intro n
  induction n with
  | zero =>
    intro j acc v1 hj hp
    have e : decide (∀ j', j' < gN g → j ≤ j' → j' ≠ k → gst g j' = true → t 73 j' ≠ t 73 k) = true := decide_eq_true fun j' h1 h2 => by omega
    rw [e, Bool.and_true] at hp
    subst hp
    rw [r_M_door_85, m_cells (d := d + 1) hc]
    simp (disch := omega) only [↓n_m1, ↓n_hid, q0, q1, q2, q3, q4, q5, q6, q7, q8, q9, q10, q11, q12, q13, q14, q15, q16, q17, q18, q19, q20, q21, q22, q23, q24, q25, q26, q27, q28, q29, q30, q31, q32, q33, q34, q35, q36, q37, q38, q39, q40, q41, q42, q43, q44, q45, q46, q47, q48, q49, q50, q51, q52, q53, q54, q55, q56, q57, q58, q59, q61, q62, q63, q64, q66, q67, q68, q69, q70, q71, q91, q93, q99, q100, q102, q104, q107, q108, q112, q114, q115, q119, q121, q124, q160, q200, q255, q640, q999, q1000, q2000, q4096, n_of, nI_ltI, nI_leI, nI_eq, nI_clamp, nI_add, pk_mul, n_sub, m1_eq, m1_eq2, m1_lt, m1_lt2, gdN, Nat.not_lt_zero, false_or, if_true, if_false, if_pos, if_neg, cond_true, cond_false, beq_self, and_self, true_and, and_true, not_true_eq_false, not_false_eq_true, ne_eq, b01_0]
    have e1 : nI i + nI 1 = nI (i + 1) := nI_add i 1
    cases p
    · simp only [if_true]
      exact hK _ _
    · simp only [Bool.true_eq_false, if_false]
      exact hK _ _
  | succ n ih =>
    intro j acc v1 hj hp
    have st : ∀ b : Bool, b = (acc && (decide (j = k) || (! gst g j || ! decide (t 73 j = t 73 k)))) → p = (b && decide (∀ j', j' < gN g → j + 1 ≤ j' → j' ≠ k → gst g j' = true → t 73 j' ≠ t 73 k)) := by
      intro b hb
      rw [hp, hb, Bool.and_assoc]
      congr 1
      rw [← Bool.decide_coe (decide (j = k) || (! gst g j || ! decide (t 73 j = t 73 k))), ← Bool.decide_and]
      refine decide_eq_decide.mpr ⟨fun h => ⟨?_, fun j' h1 h2 => h j' h1 (by omega)⟩, fun ⟨h1, h2⟩ j' a2 a1 a3 a4 => ?_⟩
      · have := h j (by omega) (Nat.le_refl _)
        by_cases ejk : j = k
        · rw [decide_eq_true ejk]; rfl
        · cases hst : gst g j
          · simp
          · have := this ejk hst
            simp [this]
      · by_cases ej : j' = j
        · subst ej
          have h1' : (! gst g j' || ! decide (t 73 j' = t 73 k)) = true := by
            rw [decide_eq_false a3, Bool.false_or] at h1
            exact h1
          rw [a4] at h1'
          intro z
          rw [decide_eq_true z] at h1'
          exact absurd h1' (by decide)
        · exact h2 j' a2 (by omega) a3 a4
    rw [r_M_door_85, m_cells (d := d + 1) hc]
    simp (disch := omega) only [↓n_m1, ↓n_hid, q0, q1, q2, q3, q4, q5, q6, q7, q8, q9, q10, q11, q12, q13, q14, q15, q16, q17, q18, q19, q20, q21, q22, q23, q24, q25, q26, q27, q28, q29, q30, q31, q32, q33, q34, q35, q36, q37, q38, q39, q40, q41, q42, q43, q44, q45, q46, q47, q48, q49, q50, q51, q52, q53, q54, q55, q56, q57, q58, q59, q61, q62, q63, q64, q66, q67, q68, q69, q70, q71, q91, q93, q99, q100, q102, q104, q107, q108, q112, q114, q115, q119, q121, q124, q160, q200, q255, q640, q999, q1000, q2000, q4096, n_of, nI_ltI, nI_leI, nI_eq, nI_clamp, nI_add, pk_mul, n_sub, m1_eq, m1_eq2, m1_lt, m1_lt2, gdN, Nat.not_lt_zero, false_or, if_true, if_false, if_pos, if_neg, cond_true, cond_false, beq_self, and_self, true_and, and_true, not_true_eq_false, not_false_eq_true, ne_eq, b01_0, hc.2.2.2.1 j (by omega)]
    cases acc with
    | false =>
      simp only [if_true]
      exact ih (j + 1) false _ (by omega) (st false (by simp))
    | true =>
      simp only [Bool.true_eq_false, if_false]
      by_cases ejk : j = k
      · rw [if_pos ejk]
        exact ih (j + 1) true _ (by omega) (st true (by simp [ejk]))
      · rw [if_neg ejk]
        cases hst : gst g j with
        | false =>
          simp only [if_true]
          exact ih (j + 1) true _ (by omega) (st true (by simp [hst]))
        | true =>
          simp only [Bool.true_eq_false, if_false]
          by_cases eb : t 73 j = t 73 k
          · rw [if_pos eb]
            exact ih (j + 1) false _ (by omega) (st false (by simp [hst, eb, ejk]))
          · rw [if_neg eb]
            exact ih (j + 1) true _ (by omega) (st true (by simp [hst, eb]))
theorem m_door_l {K : Int32 → Mem → Prop} (h : QQ c g W P Q lv Ll w rn dl hr o s) {k : Nat} (hk : k < gN g) (hK : ∀ t, fr c Ll s t → QQ c g W P Q lv Ll w rn dl hr o t → K (oI (itr (dst (fun i => alo g (brS g W (hr % 24) rn w dl i) k)) (2 ^ gS g) 0 none)) t) :
    ∀ (n i : Nat) (b : Option Nat) (v1 v5 v6 : Value) (t : Mem), i + n = 2 ^ gS g → fr c Ll s t → QQ c g W P Q lv Ll w rn dl hr o t → (∀ j, b = some j → j < 64) → itr (dst (fun i => alo g (brS g W (hr % 24) rn w dl i) k)) (2 ^ gS g) 0 none = itr (dst (fun i => alo g (brS g W (hr % 24) rn w dl i) k)) n i b →
    RnI (d + 34) m_M_door K 23 [.ref 57, v1, .int (nI k), .int (oI b), .int (nI i), v5, v6] [] t := by
  have hg := qq_gOk h
  have h20 := gN_le hg
  have hcc := qq_isC h
  have hS := hg.2.2.1
  have h64 := p64 hS
  intro n
  induction n with
  | zero =>
    intro i b v1 v5 v6 t hi f ht hb he
    rw [r_M_door_23, (qq_cm ht).2.2.1, shS hS, if_neg (show ¬ nI i < nI (2 ^ gS g) by rw [nI_ltI (by omega) (by omega)]; omega)]
    have := hK t f ht
    rw [he] at this
    exact this
  | succ n ih =>
    intro i b v1 v5 v6 t hi f ht hb he
    have he' : itr (dst (fun i => alo g (brS g W (hr % 24) rn w dl i) k)) (2 ^ gS g) 0 none = itr (dst (fun i => alo g (brS g W (hr % 24) rn w dl i) k)) n (i + 1) (dst (fun i => alo g (brS g W (hr % 24) rn w dl i) k) i b) := he
    -- one set that is tried
    have main : ∀ (v1 : Value), dst (fun i => alo g (brS g W (hr % 24) rn w dl i) k) i b = (if alo g (brS g W (hr % 24) rn w dl i) k = true then some i else b) → wV (wp (d + 34)) m_M_laySmells [.ref 57, .int (nI i), .int (t 68 0)] t (fun s63 => (if (nI k : Int32) < 0 ∨ 20 ≤ (nI k : Int32).toNatClampNeg then False else (if (s63 73 ((nI k : Int32).toNatClampNeg)) = 0 then RnI (d + 34) m_M_door K 85 [.ref 57, v1, .int (nI k), .int (oI b), .int (nI i), .int 0, .int 0] [] s63 else RnI (d + 34) m_M_door K 85 [.ref 57, v1, .int (nI k), .int (oI b), .int (nI i), .int 1, .int 0] [] s63))) := by
      intro v1 hd
      rw [qq_e68 ht 0 (by decide), (qq_w ht).1]
      refine q_laySmells (d := d) ht (qq_w ht).2 ?_
      intro t2 f2 h2 _ hB _
      have fin : ∀ acc : Bool, acc = decide (¬ t2 73 k = nI 0) → RnI (d + 34) m_M_door K 85 [.ref 57, v1, .int (nI k), .int (oI b), .int (nI i), .int (b01 acc), .int (nI 0)] [] t2 := by
        intro acc hacc
        have ea : alo g (brS g W (hr % 24) rn w dl i) k = (acc && decide (∀ j', j' < gN g → 0 ≤ j' → j' ≠ k → gst g j' = true → t2 73 j' ≠ t2 73 k)) := by
          rw [show alo g (brS g W (hr % 24) rn w dl i) k = alo g (t2 73) k from (alo_e (br := t2 73) (br' := brS g W (hr % 24) rn w dl i) hk hB).symm, hacc, ← Bool.decide_and]
          unfold alo
          exact decide_eq_decide.mpr ⟨fun ⟨a, z⟩ => ⟨a, fun j z1 _ => z j z1⟩, fun ⟨a, z⟩ => ⟨a, fun j z1 => z j z1 (Nat.zero_le _)⟩⟩
        refine m_door_85 (d := d + 32) hg (qq_cm h2) hk (p := alo g (brS g W (hr % 24) rn w dl i) k) ?_ (gN g) 0 acc _ (by omega) ea
        intro v5 v6
        rw [hd] at he'
        have eo : (if alo g (brS g W (hr % 24) rn w dl i) k = true then nI i else oI b) = oI (if alo g (brS g W (hr % 24) rn w dl i) k = true then some i else b) := by split <;> rfl
        rw [eo]
        refine ih (i + 1) _ _ _ _ _ (by omega) (fr_t f f2) h2 ?_ he'
        intro j hj
        split at hj
        · injection hj with hj; omega
        · exact hb j hj
      have ekc : (nI k).toNatClampNeg = k := nI_clamp (by omega)
      rw [if_neg (show ¬ (nI k < 0 ∨ 20 ≤ (nI k).toNatClampNeg) by rw [ekc, q0, nI_ltI (by omega) (by omega)]; omega), ekc]
      by_cases e0 : t2 73 k = nI 0
      · rw [if_pos (show t2 73 k = 0 from e0)]
        exact fin false (decide_eq_false (fun z => z e0)).symm
      · rw [if_neg (show ¬ t2 73 k = 0 from e0)]
        exact fin true (decide_eq_true e0).symm
    rw [r_M_door_23, (qq_cm ht).2.2.1, shS hS, if_pos (show nI i < nI (2 ^ gS g) by rw [nI_ltI (by omega) (by omega)]; omega)]
    cases b with
    | none =>
      rw [if_pos (show oI none = -1 from rfl)]
      exact main _ rfl
    | some j =>
      have hj := hb j rfl
      rw [if_neg (show ¬ oI (some j) = -1 from fun z => by rw [n_m1, oI, m1_eq (by omega)] at z; exact z), c_bitCount (d := d + 33), c_bitCount (d := d + 33)]
      by_cases hlt : bcF (nI i) < bcF (nI j)
      · rw [if_pos (show bcF (nI i) < bcF (oI (some j)) from hlt)]
        exact main _ (if_pos hlt)
      · rw [if_neg (show ¬ bcF (nI i) < bcF (oI (some j)) from hlt)]
        rw [show dst (fun i => alo g (brS g W (hr % 24) rn w dl i) k) i (some j) = some j from if_neg hlt] at he'
        rw [show nI i + 1 = nI (i + 1) from nI_add i 1]
        exact ih (i + 1) (some j) _ _ _ _ (by omega) f ht hb he'
theorem br_0 (hg : gOk g) {h k : Nat} : brS g W h rn w dl 0 k = nI 0 := by
  have e : ∀ q n, smS g W h rn w (nI 0) k q n = 0 := by
    intro q n
    induction n with
    | zero => rfl
    | succ n ih =>
      rw [smS_S, ih]
      unfold smF
      rw [tb_0, Bool.false_and]
      rfl
  refine tb_ext fun j hj => ?_
  show tb (bits _ 5) j = _
  rw [tb_bits (by decide), tb_0]
  show (_ && smd dl (smS g W h rn w (nI 0) k j (gS g))) = false
  rw [e, smd_0, Bool.and_false]
theorem dst_0 (hg : gOk g) {h k : Nat} : dst (fun i => alo g (brS g W h rn w dl i) k) 0 none = none := by
  refine if_neg ?_
  have : alo g (brS g W h rn w dl 0) k = false := decide_eq_false fun ⟨a, _⟩ => a (br_0 hg)
  exact fun z => Bool.noConfusion (this.symm.trans z)
theorem f_door {K : Int32 → Int32 → Mem → Prop} (h : QQ c g W P Q lv Ll w rn dl hr o s) {x : Int32} (hK : ∀ v s', fr c Ll s s' → QQ c g W P Q lv Ll w rn dl hr o s' → K v v s') :
    wI (wp (d + 50)) m_X_door [.ref 0, .int x] s (fun v s1 => wI (wp (d + 50)) m_M_door [.ref 57, .int x] s1 (fun v' s2 => K v v' s2)) := by
  have hg := qq_gOk h
  have h20 := gN_le hg
  have hL := C_le (qq_isC h)
  have hcc := qq_isC h
  have hS := hg.2.2.1
  have hp0 : 0 < 2 ^ gS g := Nat.pow_pos (by decide)
  obtain ⟨t1, t2⟩ := q_thr h (x := nI 0)
  rw [e_X_door, qq_ref h, cref hcc, crefc hcc, c_streetOf (d := d + 46) hcc hg (qq_cf h).1]
  cases e : stc g x with
  | none =>
    rw [if_pos (show oI none = -1 from rfl), e_M_door, q0, m_streetAt (d := d + 47) hg (qq_cm t2), e, if_pos (show oI none = -1 from rfl)]
    exact hK _ _ t1 t2
  | some k =>
    obtain ⟨hk, hst⟩ := stc_some e
    have ne : ¬ oI (some k) = -1 := fun z => by rw [n_m1, oI, m1_eq (by omega)] at z; exact z
    rw [if_neg ne, q0, c_now (d := d + 47) (by omega), (qq_w h).1]
    refine q_blow (d := d + 41) h (qq_w h).2 ?_
    intro s1 f1 h1 n1 _
    have e0 : itr (dst (fun i => alo g (brS g W (hr % 24) rn w dl i) k)) (2 ^ gS g) 0 none = itr (dst (fun i => alo g (brS g W (hr % 24) rn w dl i) k)) (2 ^ gS g - 1) 1 none := by
      conv => lhs; rw [show 2 ^ gS g = (2 ^ gS g - 1) + 1 by omega]
      show itr _ _ 1 (dst _ 0 none) = _
      rw [dst_0 hg]
    refine c_door_l (d := d + 39) h1 n1 hk ?_ (2 ^ gS g - 1) 1 none _ _ s1 (by omega) frm_r (fun _ z => by simp at z) e0
    intro s2 f2
    obtain ⟨f2', h2⟩ := QQ_c h1 f2 (by simp)
    obtain ⟨u1, u2⟩ := q_thr h2 (x := nI 0)
    rw [e_M_door, q0, m_streetAt (d := d + 47) hg (qq_cm u2), e, if_neg ne]
    refine m_door_l (d := d + 15) u2 hk ?_ (2 ^ gS g) 0 none _ _ _ _ (by omega) frN_r u2 (fun _ z => by simp at z) rfl
    intro s3 f3 h3
    exact hK _ _ (fr_t f1 (fr_t f2' (fr_t u1 f3))) h3
/-! most -/
def mst (V : Nat → Int32) (i : Nat) (b : Nat × Int32) : Nat × Int32 := if b.2 < V i ∨ (V i = b.2 ∧ bcF (nI i) < bcF (nI b.1)) then (i, V i) else b
def vS (g : Gph) (W : Wth) (h : Nat) (rn : Bool) (w dl i : Nat) : Int32 := bcF (seenF g (brS g W h rn w dl i))
theorem vS_0 (hg : gOk g) {h : Nat} : vS g W h rn w dl 0 = nI 0 ∨ vS g W h rn w dl 0 = nI 1 := by
  have e : seenF g (brS g W h rn w dl 0) = nI 0 ∨ seenF g (brS g W h rn w dl 0) = nI 1 := by
    unfold seenF
    refine itr_P (fun _ x => x = nI 0 ∨ x = nI 1) (Or.inl rfl) fun k a _ _ ha => ?_
    show (if gst g k = true then a ||| (nI 1 <<< (brS g W h rn w dl 0 k &&& nI 31)) else a) = nI 0 ∨ _
    rw [br_0 hg]
    split
    · right
      rcases ha with ha | ha
      · rw [ha]; decide
      · rw [ha]; decide
    · exact ha
  unfold vS
  rcases e with e | e
  · left; rw [e]; decide
  · right; rw [e]; decide
theorem mst_0 (hg : gOk g) {h : Nat} : mst (vS g W h rn w dl) 0 (0, nI 0) = (0, vS g W h rn w dl 0) := by
  unfold mst
  rcases vS_0 (W := W) (rn := rn) (w := w) (dl := dl) hg (h := h) with e | e
  · rw [e]
    rw [if_neg]
    intro z
    rcases z with z | ⟨_, z⟩
    · exact absurd z (by decide)
    · exact absurd z (by decide)
  · rw [e, if_pos]
    left
    decide
theorem c_most_l {K : Int32 → Mem → Prop} (h : QQ c g W P Q lv Ll w rn dl hr o s) (n1 : NoC c g W rn w dl hr s) {j : Nat} (hj : j ≤ 1) {R : Nat × Int32} (hK : ∀ t, frm [40] s t → K (if j = 0 then nI R.1 else R.2) t) :
    ∀ (n i : Nat) (b : Nat × Int32) (v5 v6 : Value) (t : Mem), i + n = 2 ^ gS g → frm [40] s t → R = itr (mst (vS g W (hr % 24) rn w dl)) n i b →
    RnI (d + 10) m_X_most K 40 [.ref 0, .int (nI j), .int (nI b.1), .int b.2, .int (nI i), v5, v6] [] t := by
  have hg := qq_gOk h
  have h20 := gN_le hg
  have hcc := qq_isC h
  have hS := hg.2.2.1
  have h64 := p64 hS
  intro n
  induction n with
  | zero =>
    intro i b v5 v6 t hi hf he
    obtain ⟨_, ht⟩ := QQ_c h hf (by simp)
    rw [r_X_most_40, qq_ref ht, cref hcc, crefc hcc, c_sourceCount (d := d + 9) hcc (qq_cf ht).1, shS hS, if_neg (show ¬ nI i < nI (2 ^ gS g) by rw [nI_ltI (by omega) (by omega)]; omega)]
    have := hK t hf
    rw [he] at this
    rcases (show j = 0 ∨ j = 1 by omega) with rfl | rfl
    · rw [if_pos (show nI 0 = 0 from rfl)]
      exact this
    · rw [if_neg (show ¬ nI 1 = 0 by decide)]
      exact this
  | succ n ih =>
    intro i b v5 v6 t hi hf he
    obtain ⟨_, ht⟩ := QQ_c h hf (by simp)
    have aA : AirC g W (hr % 24) rn w dl none t := AirC_f (by simp) (by simp) (by simp) hf n1.2.2.2.2.1
    rw [r_X_most_40, qq_ref ht, cref hcc, crefc hcc, c_sourceCount (d := d + 9) hcc (qq_cf ht).1, shS hS, if_pos (show nI i < nI (2 ^ gS g) by rw [nI_ltI (by omega) (by omega)]; omega), qq_ref ht, cref2 hcc, crefc hcc]
    refine c_breathe (d := d + 4) hcc hg (qq_cf ht).1 aA (qq_dl h).2 (set_6 hS (by omega)) (fun _ _ z => by simp at z) (fun _ _ z => by simp at z) ?_
    intro t2 f2 hB
    have hf2 := frm_t hf f2
    obtain ⟨_, h2⟩ := QQ_c h hf2 (by simp)
    have ev : bcF (seenF g (t2 40)) = vS g W (hr % 24) rn w dl i := congrArg bcF (seenF_e hB)
    have he' : R = itr (mst (vS g W (hr % 24) rn w dl)) n (i + 1) (mst (vS g W (hr % 24) rn w dl) i b) := he
    rw [show nI i + 1 = nI (i + 1) from nI_add i 1, qq_ref h2, cref2 hcc, crefc hcc, c_unlikeBreaths (d := d + 6) hcc hg (qq_cf h2).1, ev]
    have yes : (b.2 < vS g W (hr % 24) rn w dl i ∨ (vS g W (hr % 24) rn w dl i = b.2 ∧ bcF (nI i) < bcF (nI b.1))) → ∀ v5 v6 : Value, RnI (d + 10) m_X_most K 40 [.ref 0, .int (nI j), .int (nI i), .int (vS g W (hr % 24) rn w dl i), .int (nI (i + 1)), v5, v6] [] t2 := by
      intro hc v5 v6
      rw [show mst (vS g W (hr % 24) rn w dl) i b = (i, vS g W (hr % 24) rn w dl i) from if_pos hc] at he'
      exact ih (i + 1) (i, vS g W (hr % 24) rn w dl i) _ _ _ (by omega) hf2 he'
    have no : ¬ (b.2 < vS g W (hr % 24) rn w dl i ∨ (vS g W (hr % 24) rn w dl i = b.2 ∧ bcF (nI i) < bcF (nI b.1))) → ∀ v5 v6 : Value, RnI (d + 10) m_X_most K 40 [.ref 0, .int (nI j), .int (nI b.1), .int b.2, .int (nI (i + 1)), v5, v6] [] t2 := by
      intro hc v5 v6
      rw [show mst (vS g W (hr % 24) rn w dl) i b = b from if_neg hc] at he'
      exact ih (i + 1) b _ _ _ (by omega) hf2 he'
    by_cases e1 : vS g W (hr % 24) rn w dl i = b.2
    · rw [if_pos e1, c_bitCount (d := d + 9), c_bitCount (d := d + 9)]
      by_cases e2 : bcF (nI i) < bcF (nI b.1)
      · rw [if_pos e2]
        split
        · exact yes (Or.inr ⟨e1, e2⟩) _ _
        · exact yes (Or.inr ⟨e1, e2⟩) _ _
      · rw [if_neg e2]
        by_cases e3 : b.2 < vS g W (hr % 24) rn w dl i
        · rw [if_pos e3]; exact yes (Or.inl e3) _ _
        · rw [if_neg e3]; exact no (fun z => z.elim e3 (fun z => e2 z.2)) _ _
    · rw [if_neg e1]
      by_cases e3 : b.2 < vS g W (hr % 24) rn w dl i
      · rw [if_pos e3]; exact yes (Or.inl e3) _ _
      · rw [if_neg e3]; exact no (fun z => z.elim e3 (fun z => e1 z.1)) _ _
theorem m_most_l {K : Int32 → Mem → Prop} (h : QQ c g W P Q lv Ll w rn dl hr o s) {j : Nat} (hj : j ≤ 1) {R : Nat × Int32} (hK : ∀ t, fr c Ll s t → QQ c g W P Q lv Ll w rn dl hr o t → K (if j = 0 then nI R.1 else R.2) t) :
    ∀ (n i : Nat) (b : Nat × Int32) (x2 : Int32) (v5 : Value) (t : Mem), i + n = 2 ^ gS g → fr c Ll s t → QQ c g W P Q lv Ll w rn dl hr o t → (x2 = nI b.1 ∨ (x2 = m1 ∧ i = 0 ∧ 0 < n ∧ b = (0, nI 0))) → b.1 < 64 → R = itr (mst (vS g W (hr % 24) rn w dl)) n i b →
    RnI (d + 34) m_M_most K 31 [.ref 57, .int (nI j), .int x2, .int b.2, .int (nI i), v5] [] t := by
  have hg := qq_gOk h
  have h20 := gN_le hg
  have hS := hg.2.2.1
  have h64 := p64 hS
  intro n
  induction n with
  | zero =>
    intro i b x2 v5 t hi f ht hx hb he
    rw [r_M_most_31, (qq_cm ht).2.2.1, shS hS, if_neg (show ¬ nI i < nI (2 ^ gS g) by rw [nI_ltI (by omega) (by omega)]; omega)]
    have := hK t f ht
    rw [he] at this
    have hx' : x2 = nI b.1 := by
      rcases hx with hx | hx
      · exact hx
      · omega
    rcases (show j = 0 ∨ j = 1 by omega) with rfl | rfl
    · rw [if_pos (show nI 0 = 0 from rfl), hx']
      exact this
    · rw [if_neg (show ¬ nI 1 = 0 by decide)]
      exact this
  | succ n ih =>
    intro i b x2 v5 t hi f ht hx hb he
    have he' : R = itr (mst (vS g W (hr % 24) rn w dl)) n (i + 1) (mst (vS g W (hr % 24) rn w dl) i b) := he
    rw [r_M_most_31, (qq_cm ht).2.2.1, shS hS, if_pos (show nI i < nI (2 ^ gS g) by rw [nI_ltI (by omega) (by omega)]; omega), qq_e68 ht 0 (by decide), (qq_w ht).1]
    refine q_laySmells (d := d) ht (qq_w ht).2 ?_
    intro t2 f2 h2 _ hB _
    have hf2 := fr_t f f2
    have ev : bcF (seenF g (t2 73)) = vS g W (hr % 24) rn w dl i := congrArg bcF (seenF_e hB)
    rw [show nI i + 1 = nI (i + 1) from nI_add i 1, m_kindsNow (d := d + 30) hg (qq_cm h2), ev]
    have yes : mst (vS g W (hr % 24) rn w dl) i b = (i, vS g W (hr % 24) rn w dl i) → ∀ v5 : Value, RnI (d + 34) m_M_most K 31 [.ref 57, .int (nI j), .int (nI i), .int (vS g W (hr % 24) rn w dl i), .int (nI (i + 1)), v5] [] t2 := by
      intro hc v5
      rw [hc] at he'
      exact ih (i + 1) (i, vS g W (hr % 24) rn w dl i) _ _ _ (by omega) hf2 h2 (Or.inl rfl) (by show i < 64; omega) he'
    by_cases hm : x2 = -1
    · rw [if_pos hm]
      have hb0 : i = 0 ∧ b = (0, nI 0) := by
        rcases hx with hx | hx
        · exfalso
          rw [hx, n_m1, m1_eq (by omega)] at hm
          exact hm
        · exact ⟨hx.2.1, hx.2.2.2⟩
      obtain ⟨rfl, rfl⟩ := hb0
      exact yes (mst_0 hg) _
    · rw [if_neg hm]
      have hx' : x2 = nI b.1 := by
        rcases hx with hx | hx
        · exact hx
        · exact absurd hx.1 hm
      subst hx'
      have no : ¬ (b.2 < vS g W (hr % 24) rn w dl i ∨ (vS g W (hr % 24) rn w dl i = b.2 ∧ bcF (nI i) < bcF (nI b.1))) → ∀ v5 : Value, RnI (d + 34) m_M_most K 31 [.ref 57, .int (nI j), .int (nI b.1), .int b.2, .int (nI (i + 1)), v5] [] t2 := by
        intro hc v5
        rw [show mst (vS g W (hr % 24) rn w dl) i b = b from if_neg hc] at he'
        exact ih (i + 1) b _ _ _ (by omega) hf2 h2 (Or.inl rfl) hb he'
      by_cases e1 : vS g W (hr % 24) rn w dl i < b.2
      · rw [if_pos e1]
        refine no (fun z => ?_) _
        rw [Int32.lt_iff_toInt_lt] at e1
        rcases z with z | ⟨z, _⟩
        · rw [Int32.lt_iff_toInt_lt] at z
          omega
        · rw [z] at e1; omega
      · rw [if_neg e1]
        by_cases e2 : vS g W (hr % 24) rn w dl i = b.2
        · rw [if_pos e2, c_bitCount (d := d + 33), c_bitCount (d := d + 33)]
          by_cases e3 : bcF (nI i) < bcF (nI b.1)
          · rw [if_pos e3]
            exact yes (if_pos (Or.inr ⟨e2, e3⟩)) _
          · rw [if_neg e3]
            refine no (fun z => ?_) _
            rcases z with z | ⟨_, z⟩
            · rw [e2, Int32.lt_iff_toInt_lt] at z; omega
            · exact e3 z
        · rw [if_neg e2]
          refine yes (if_pos (Or.inl ?_)) _
          rw [Int32.lt_iff_toInt_lt] at e1 ⊢
          have : (vS g W (hr % 24) rn w dl i).toInt ≠ b.2.toInt := fun z => e2 (Int32.toInt_inj.mp z)
          omega
theorem f_most {K : Int32 → Int32 → Mem → Prop} (h : QQ c g W P Q lv Ll w rn dl hr o s) {y : Int32} (hK : ∀ v s', fr c Ll s s' → QQ c g W P Q lv Ll w rn dl hr o s' → K v v s') :
    wI (wp (d + 50)) m_X_most [.ref 0, .int y] s (fun v s1 => wI (wp (d + 50)) m_M_most [.ref 57, .int y] s1 (fun v' s2 => K v v' s2)) := by
  have hg := qq_gOk h
  have hL := C_le (qq_isC h)
  have hcc := qq_isC h
  have hp0 : 0 < 2 ^ gS g := Nat.pow_pos (by decide)
  obtain ⟨t1, t2⟩ := q_thr h (x := nI 0)
  rw [e_X_most, qq_ref h, cref hcc, crefc hcc, q_there (d := d + 48) h, ifb]
  by_cases hR : 0 < gR g
  · rw [decide_eq_true hR, if_pos rfl]
    by_cases hy : 0 ≤ y.toInt ∧ y.toInt ≤ 1
    · obtain ⟨j, hj, rfl⟩ := inN (n := 1) hy (by decide)
      have main : wI (wp (d + 49)) m_W_now [.ref 33, .int (nI 0)] s (fun x27 s27 => wV (wp (d + 49)) m_X_blow [.ref 0, .int x27] s27 (fun s30 => RnI (d + 49) m_X_most (fun v s1 => wI (wp (d + 50)) m_M_most [.ref 57, .int (nI j)] s1 (fun v' s2 => K v v' s2)) 40 [.ref 0, .int (nI j), .int (nI 0), .int (nI 0), .int (nI 0), uV, uV] [] s30)) := by
        rw [c_now (d := d + 47) (by omega), (qq_w h).1]
        refine q_blow (d := d + 41) h (qq_w h).2 ?_
        intro s1 f1 h1 n1 _
        refine c_most_l (d := d + 39) h1 n1 hj ?_ (2 ^ gS g) 0 (0, nI 0) _ _ s1 (by omega) frm_r rfl
        intro s2 f2
        obtain ⟨f2', h2⟩ := QQ_c h1 f2 (by simp)
        obtain ⟨u1, u2⟩ := q_thr h2 (x := nI 0)
        rw [e_M_most, q0]
        simp (disch := omega) only [↓n_m1, ↓n_hid, q0, q1, q2, q3, q4, q5, q6, q7, q8, q9, q10, q11, q12, q13, q14, q15, q16, q17, q18, q19, q20, q21, q22, q23, q24, q25, q26, q27, q28, q29, q30, q31, q32, q33, q34, q35, q36, q37, q38, q39, q40, q41, q42, q43, q44, q45, q46, q47, q48, q49, q50, q51, q52, q53, q54, q55, q56, q57, q58, q59, q61, q62, q63, q64, q66, q67, q68, q69, q70, q71, q91, q93, q99, q100, q102, q104, q107, q108, q112, q114, q115, q119, q121, q124, q160, q200, q255, q640, q999, q1000, q2000, q4096, n_of, nI_ltI, nI_leI, nI_eq, nI_clamp, nI_add, pk_mul, n_sub, m1_eq, m1_eq2, m1_lt, m1_lt2, gdN, Nat.not_lt_zero, false_or, if_true, if_false, if_pos, if_neg, cond_true, cond_false, beq_self, and_self, true_and, and_true, not_true_eq_false, not_false_eq_true, ne_eq, q_r0 h2, hR]
        rw [mi1 (d := d + 48), decide_eq_true hy]
        simp (disch := omega) only [↓n_m1, ↓n_hid, q0, q1, q2, q3, q4, q5, q6, q7, q8, q9, q10, q11, q12, q13, q14, q15, q16, q17, q18, q19, q20, q21, q22, q23, q24, q25, q26, q27, q28, q29, q30, q31, q32, q33, q34, q35, q36, q37, q38, q39, q40, q41, q42, q43, q44, q45, q46, q47, q48, q49, q50, q51, q52, q53, q54, q55, q56, q57, q58, q59, q61, q62, q63, q64, q66, q67, q68, q69, q70, q71, q91, q93, q99, q100, q102, q104, q107, q108, q112, q114, q115, q119, q121, q124, q160, q200, q255, q640, q999, q1000, q2000, q4096, n_of, nI_ltI, nI_leI, nI_eq, nI_clamp, nI_add, pk_mul, n_sub, m1_eq, m1_eq2, m1_lt, m1_lt2, gdN, Nat.not_lt_zero, false_or, if_true, if_false, if_pos, if_neg, cond_true, cond_false, beq_self, and_self, true_and, and_true, not_true_eq_false, not_false_eq_true, ne_eq, b01_0, Bool.true_eq_false]
        refine m_most_l (d := d + 15) u2 hj ?_ (2 ^ gS g) 0 (0, nI 0) m1 _ _ (by omega) frN_r u2 (Or.inr ⟨rfl, rfl, hp0, rfl⟩) (by decide) rfl
        intro s3 f3 h3
        exact hK _ _ (fr_t f1 (fr_t f2' (fr_t u1 f3))) h3
      rcases (show j = 0 ∨ j = 1 by omega) with rfl | rfl
      · rw [if_pos (show nI 0 = 0 from rfl)]
        exact main
      · rw [if_neg (show ¬ nI 1 = 0 by decide), if_pos (show nI 1 = 1 from rfl)]
        exact main
    · rw [if_neg (show ¬ y = 0 from fun z => by have := ne_n hy (show 0 ≤ 1 by decide) (by decide); rw [← this]; exact z), if_neg (show ¬ y = 1 from fun z => by have := ne_n hy (show 1 ≤ 1 by decide) (by decide); rw [← this]; exact z)]
      rw [e_M_most, q0]
      simp (disch := omega) only [↓n_m1, ↓n_hid, q0, q1, q2, q3, q4, q5, q6, q7, q8, q9, q10, q11, q12, q13, q14, q15, q16, q17, q18, q19, q20, q21, q22, q23, q24, q25, q26, q27, q28, q29, q30, q31, q32, q33, q34, q35, q36, q37, q38, q39, q40, q41, q42, q43, q44, q45, q46, q47, q48, q49, q50, q51, q52, q53, q54, q55, q56, q57, q58, q59, q61, q62, q63, q64, q66, q67, q68, q69, q70, q71, q91, q93, q99, q100, q102, q104, q107, q108, q112, q114, q115, q119, q121, q124, q160, q200, q255, q640, q999, q1000, q2000, q4096, n_of, nI_ltI, nI_leI, nI_eq, nI_clamp, nI_add, pk_mul, n_sub, m1_eq, m1_eq2, m1_lt, m1_lt2, gdN, Nat.not_lt_zero, false_or, if_true, if_false, if_pos, if_neg, cond_true, cond_false, beq_self, and_self, true_and, and_true, not_true_eq_false, not_false_eq_true, ne_eq, q_r0 h, hR]
      rw [mi1 (d := d + 48), decide_eq_false hy]
      simp (disch := omega) only [↓n_m1, ↓n_hid, q0, q1, q2, q3, q4, q5, q6, q7, q8, q9, q10, q11, q12, q13, q14, q15, q16, q17, q18, q19, q20, q21, q22, q23, q24, q25, q26, q27, q28, q29, q30, q31, q32, q33, q34, q35, q36, q37, q38, q39, q40, q41, q42, q43, q44, q45, q46, q47, q48, q49, q50, q51, q52, q53, q54, q55, q56, q57, q58, q59, q61, q62, q63, q64, q66, q67, q68, q69, q70, q71, q91, q93, q99, q100, q102, q104, q107, q108, q112, q114, q115, q119, q121, q124, q160, q200, q255, q640, q999, q1000, q2000, q4096, n_of, nI_ltI, nI_leI, nI_eq, nI_clamp, nI_add, pk_mul, n_sub, m1_eq, m1_eq2, m1_lt, m1_lt2, gdN, Nat.not_lt_zero, false_or, if_true, if_false, if_pos, if_neg, cond_true, cond_false, beq_self, and_self, true_and, and_true, not_true_eq_false, not_false_eq_true, ne_eq, b01_0]
      exact hK _ _ t1 t2
  · rw [decide_eq_false hR, if_neg (by decide), e_M_most, q0]
    simp (disch := omega) only [↓n_m1, ↓n_hid, q0, q1, q2, q3, q4, q5, q6, q7, q8, q9, q10, q11, q12, q13, q14, q15, q16, q17, q18, q19, q20, q21, q22, q23, q24, q25, q26, q27, q28, q29, q30, q31, q32, q33, q34, q35, q36, q37, q38, q39, q40, q41, q42, q43, q44, q45, q46, q47, q48, q49, q50, q51, q52, q53, q54, q55, q56, q57, q58, q59, q61, q62, q63, q64, q66, q67, q68, q69, q70, q71, q91, q93, q99, q100, q102, q104, q107, q108, q112, q114, q115, q119, q121, q124, q160, q200, q255, q640, q999, q1000, q2000, q4096, n_of, nI_ltI, nI_leI, nI_eq, nI_clamp, nI_add, pk_mul, n_sub, m1_eq, m1_eq2, m1_lt, m1_lt2, gdN, Nat.not_lt_zero, false_or, if_true, if_false, if_pos, if_neg, cond_true, cond_false, beq_self, and_self, true_and, and_true, not_true_eq_false, not_false_eq_true, ne_eq, q_r0 h, hR]
    exact hK _ _ t1 t2
end
