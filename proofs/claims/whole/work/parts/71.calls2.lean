/-! set, open, undo, image, back, hours -/
section
variable {d c : Nat} {g : Gph} {s t : Mem}
theorem psh_e {n : Nat} {B B' : Nat → Nat → Int32} {nw nw' : Nat → Int32} (hB : ∀ i k, i < n → k < 5 → B' i k = B i k) (hw : ∀ k, k < 5 → nw' k = nw k) {i k : Nat} (hi : i < pshN n) (hk : k < 5) : pshB n B' nw' i k = pshB n B nw i k := by
  unfold pshN at hi
  unfold pshB
  by_cases h : n = 40
  · rw [if_pos h] at hi
    rw [if_pos h, if_pos h]
    split
    · exact hB _ _ (by omega) hk
    · exact hw k hk
  · rw [if_neg h] at hi
    rw [if_neg h, if_neg h]
    split
    · exact hB _ _ (by omega) hk
    · exact hw k hk
theorem psh_V {n : Nat} {B : Nat → Nat → Int32} {nw : Nat → Int32} (hB : ∀ i, i < n → V5 g (B i)) (hw : V5 g nw) {i : Nat} (hi : i < pshN n) : V5 g (pshB n B nw i) := by
  unfold pshN at hi
  by_cases h : n = 40
  · rw [if_pos h] at hi
    by_cases h2 : i < 39
    · exact V5_e (hB (i + 1) (by omega)) fun k _ => by unfold pshB; rw [if_pos h, if_pos h2]
    · exact V5_e hw fun k _ => by unfold pshB; rw [if_pos h, if_neg h2]
  · rw [if_neg h] at hi
    by_cases h2 : i < n
    · exact V5_e (hB i h2) fun k _ => by unfold pshB; rw [if_neg h, if_pos h2]
    · exact V5_e hw fun k _ => by unfold pshB; rw [if_neg h, if_neg h2]
theorem pshN_le {n : Nat} (h : n ≤ 40) : pshN n ≤ 40 := by
  unfold pshN
  split <;> omega
theorem REL_acts (h : REL c g s) (hf : frN [33, 34, 35, 68, 70] [0, 35] s t) {n : Nat} {B : Nat → Nat → Int32} {nw : Nat → Int32} (hn : n ≤ 40) (e33 : t 33 2 = nI n) (e34' : t 33 4 = s 33 4) (e35 : ∀ i k, i < n → k < 5 → t 35 (5 * i + k) = B i k) (e57 : t 57 35 = nI n) (e70 : ∀ i k, i < n → k < 5 → t 70 (5 * i + k) = B i k) (e34 : ∀ k, k < 5 → t 34 k = nw k) (e68 : ∀ k, k < 5 → t 68 k = nw k) (hB : ∀ i, i < n → V5 g (B i)) (hw : V5 g nw) : REL c g t := by
  have hf' : frN [33, 34, 35, 36, 68, 70, 87] [0, 35, 57] s t := frN_w hf (by simp) (by simp)
  refine REL_W h hf' ⟨V5_e hw e34, fun k hk => by rw [e68 k hk, e34 k hk]⟩ ⟨n, hn, e33, e57, fun i hi => ⟨V5_e (hB i hi) (fun k hk => e35 i k hi hk), fun k hk => by rw [e70 i k hi hk, e35 i k hi hk]⟩⟩ ?_
  obtain ⟨b, i1, i2, i3⟩ := rl_img h
  refine ⟨b, by rw [e34']; exact i1, by rw [hf.2 57 (by decide)]; exact i2, ?_⟩
  rw [hf.1 36 (by decide) (by decide), hf.1 87 (by decide) (by decide)]
  exact i3
def up5 (f : Nat → Int32) (a : Nat) (v : Int32) : Nat → Int32 := fun k => if k = a then v else f k
def mx4 (a : Nat) : Nat := if a = 0 then 4 else if a = 1 then 1 else if a = 2 then 999 else 50
theorem V5_set {f : Nat → Int32} (h : V5 g f) {a b : Nat} (ha : a ≤ 3) (hb : b ≤ mx4 a) : V5 g (up5 f a (nI b)) := by
  obtain ⟨w, rn, hr, dl, h0, h1, h2, h3, h4⟩ := h
  rcases (show a = 0 ∨ a = 1 ∨ a = 2 ∨ a = 3 by omega) with rfl | rfl | rfl | rfl
  · have hb' : b ≤ 4 := hb
    exact ⟨b, rn, hr, dl, ⟨rfl, by omega⟩, h1, h2, h3, h4⟩
  · have hb' : b ≤ 1 := hb
    refine ⟨w, decide (b = 1), hr, dl, h0, ?_, h2, h3, h4⟩
    rcases (show b = 0 ∨ b = 1 by omega) with rfl | rfl <;> rfl
  · have hb' : b ≤ 999 := hb
    exact ⟨w, rn, b, dl, h0, h1, ⟨rfl, hb'⟩, h3, h4⟩
  · have hb' : b ≤ 50 := hb
    exact ⟨w, rn, hr, b, h0, h1, h2, ⟨rfl, hb'⟩, h4⟩
theorem c_act {K : Int32 → Mem → Prop} (hd : 3 ≤ d) {a : Nat} (ha : a < 5) {v : Int32} {n : Nat} (hn : n ≤ 40) (h33 : s 33 2 = nI n) (h0 : s 34 a = v → K (nI 0) s)
    (h1 : ¬ s 34 a = v → ∀ s', frm [33, 34, 35] s s' → s' 33 2 = nI (pshN n) → s' 33 4 = s 33 4 → (∀ i k, i < pshN n → k < 5 → s' 35 (5 * i + k) = pshB n (fun i k => s 35 (5 * i + k)) (s 34) i k) → (∀ k, k < 5 → s' 34 k = up5 (s 34) a v k) → K (nI 1) s') : wI (wp d) m_W_act [.ref 33, .int (nI a), .int v] s K := by
  obtain ⟨d, rfl⟩ : ∃ e, d = e + 3 := ⟨d - 3, by omega⟩
  rw [e_W_act, c_now (d := d) ha]
  by_cases e : s 34 a = v
  · rw [if_pos e]; exact h0 e
  · rw [if_neg e]
    refine c_keep (by omega) hn h33 fun s1 f1 e2 e4 e35 => ?_
    rw [c_put (d := d + 1) (show (shp 34).1 = 20 from rfl) (by decide) (show a < 5 from ha)]
    refine h1 e _ (frm_t (frm_w f1 (by simp)) (frm_u (by simp))) (by rw [up_ce (by decide)]; exact e2) (by rw [up_ce (by decide)]; exact e4) (fun i k hi hk => by rw [up_ce (by decide)]; exact e35 i k hi hk) fun k hk => ?_
    unfold up5
    by_cases ek : k = a
    · rw [ek, up_at, if_pos rfl]
    · rw [up_pl ek, if_neg ek, f1 34 (by simp)]
/-- the reference's act behind the class's -/
theorem m_actG {K : Int32 → Mem → Prop} {KK : Mem → Prop} (h : REL c g s) {a : Nat} {v : Int32} {n : Nat} (hn : n ≤ 40) (h57 : s 57 35 = nI n) (hB : ∀ i, i < n → V5 g (fun k => s 35 (5 * i + k)) ∧ ∀ k, k < 5 → s 70 (5 * i + k) = s 35 (5 * i + k)) (hV : V5 g (up5 (s 34) a v))
    {s1 : Mem} (f1 : frm [33, 34, 35] s s1) (e2 : s1 33 2 = nI (pshN n)) (e4 : s1 33 4 = s 33 4) (e35 : ∀ i k, i < pshN n → k < 5 → s1 35 (5 * i + k) = pshB n (fun i k => s 35 (5 * i + k)) (s 34) i k) (e34 : ∀ k, k < 5 → s1 34 k = up5 (s 34) a v k) (hd : 1 ≤ d)
    (hKK : ∀ s79, s79 68 = s 68 → KK s79 = K (nI 1) (upM s79 68 a v)) (hK : ∀ s', REL c g s' → K (nI 1) s') : wV (wp d) m_M_remember [.ref 57] (upM s1 57 0 (nI 0)) KK := by
  have e68 : (upM s1 57 0 (nI 0)) 68 = s 68 := by rw [up_ce (by decide), f1 68 (by simp)]
  have e70 : (upM s1 57 0 (nI 0)) 70 = s 70 := by rw [up_ce (by decide), f1 70 (by simp)]
  refine m_keep hd hn (by rw [up_pl (by decide), f1 57 (by simp)]; exact h57) fun s2 f2 e57 e70' => ?_
  rw [e68, e70] at e70'
  have hnow := rl_now h
  have fr : frN [33, 34, 35, 68, 70] [0, 35] s (upM s2 68 a v) := frN_t (frN_w (frN_f (J := []) f1 (by simp)) (by simp) (by simp)) (frN_t (frN_v (by simp)) (frN_t (frN_w f2 (by simp) (by simp)) (frN_u (by simp) (by decide))))
  rw [hKK s2 (by rw [f2.1 68 (by decide) (by decide)]; exact e68)]
  refine hK _ (REL_acts h fr (n := pshN n) (B := pshB n (fun i k => s 35 (5 * i + k)) (s 34)) (nw := up5 (s 34) a v) (pshN_le hn) ?_ ?_ (fun i k hi hk => ?_) ?_ (fun i k hi hk => ?_) (fun k hk => ?_) (fun k hk => ?_) (fun i hi => psh_V (fun i hi => (hB i hi).1) hnow.1 hi) hV)
  · rw [up_ce (by decide), f2.1 33 (by decide) (by decide), up_ce (by decide)]; exact e2
  · rw [up_ce (by decide), f2.1 33 (by decide) (by decide), up_ce (by decide)]; exact e4
  · rw [up_ce (by decide), f2.1 35 (by decide) (by decide), up_ce (by decide)]; exact e35 i k hi hk
  · rw [up_ce (by decide)]; exact e57
  · rw [up_ce (by decide), e70' i k hi hk]
    exact psh_e (fun i k hi hk => (hB i hi).2 k hk) (fun k hk => hnow.2 k hk) hi hk
  · rw [up_ce (by decide), f2.1 34 (by decide) (by decide), up_ce (by decide)]; exact e34 k hk
  · unfold up5
    by_cases ek : k = a
    · rw [ek, up_at, if_pos rfl]
    · rw [up_pl ek, if_neg ek, f2.1 68 (by decide) (by decide), e68]; exact hnow.2 k hk
theorem L_set {K : Int32 → Int32 → Mem → Prop} (h : REL c g s) {x y : Int32} (hK : ∀ v s', REL c g s' → K v v s') :
    wI (wp (d + 50)) m_X_set [.ref 0, .int x, .int y] s (fun v s1 => wI (wp (d + 50)) m_M_set [.ref 57, .int x, .int y] s1 (fun v' s2 => K v v' s2)) := by
  have hcc := rl_isC h
  have ht := REL_thr h (x := nI 0)
  obtain ⟨n, hn, h33, h57, hB⟩ := rl_act h
  rw [e_X_set, rl_ref h, cref hcc, crefc hcc, r_there (d := d + 48) h, ifb]
  by_cases hR : 0 < gR g
  · rw [decide_eq_true hR, if_pos rfl]
    -- the reference, where the first number is right
    have mM : ∀ (a : Nat) (u : Mem) (v : Int32), a ≤ 3 → u 57 24 = s 57 24 → wI (wp (d + 50)) m_M_set [.ref 57, .int (nI a), .int y] u (fun v' s2 => K v v' s2) = (if 0 ≤ y.toInt ∧ y.toInt ≤ mx4 a then (if (upM u 57 0 (nI 0)) 68 a = y then K v (nI 0) (upM u 57 0 (nI 0)) else wV (wp (d + 49)) m_M_remember [.ref 57] (upM u 57 0 (nI 0)) (fun s79 => K v (nI 1) (upM s79 68 a y))) else K v (nI 0) (upM u 57 0 (nI 0))) := by
      intro a u v ha e24
      have e0 : ¬ u 57 24 = 0 := by rw [e24]; exact fun z => (r_r0 h).mp z hR
      have hx : 0 ≤ (nI a).toInt ∧ (nI a).toInt ≤ 3 := by rw [n_i (by omega)]; omega
      rw [e_M_set, if_neg e0, mi3 (d := d + 48), ifb, decide_eq_true hx, if_pos rfl]
      rcases (show a = 0 ∨ a = 1 ∨ a = 2 ∨ a = 3 by omega) with rfl | rfl | rfl | rfl
      · simp (disch := omega) only [↓n_m1, ↓n_hid, q0, q1, q2, q3, q4, q5, q6, q7, q8, q9, q10, q11, q12, q13, q14, q15, q16, q17, q18, q19, q20, q21, q22, q23, q24, q25, q26, q27, q28, q29, q30, q31, q32, q33, q34, q35, q36, q37, q38, q39, q40, q41, q42, q43, q44, q45, q46, q47, q48, q49, q50, q51, q52, q53, q54, q55, q56, q57, q58, q59, q61, q62, q63, q64, q66, q67, q68, q69, q70, q71, q91, q93, q99, q100, q102, q104, q107, q108, q112, q114, q115, q119, q121, q124, q160, q200, q255, q640, q999, q1000, q2000, q4096, n_of, nI_ltI, nI_leI, nI_eq, nI_clamp, nI_add, pk_mul, n_sub, m1_eq, m1_eq2, m1_lt, m1_lt2, gdN, Nat.not_lt_zero, false_or, if_true, if_false, if_pos, if_neg, cond_true, cond_false, beq_self, and_self, true_and, and_true, not_true_eq_false, not_false_eq_true, ne_eq]
        rw [mi4 (d := d + 48)]
        by_cases hy : 0 ≤ y.toInt ∧ y.toInt ≤ 4
        · rw [decide_eq_true hy, if_pos (show 0 ≤ y.toInt ∧ y.toInt ≤ mx4 0 from hy)]
          simp (disch := omega) only [↓n_m1, ↓n_hid, q0, q1, q2, q3, q4, q5, q6, q7, q8, q9, q10, q11, q12, q13, q14, q15, q16, q17, q18, q19, q20, q21, q22, q23, q24, q25, q26, q27, q28, q29, q30, q31, q32, q33, q34, q35, q36, q37, q38, q39, q40, q41, q42, q43, q44, q45, q46, q47, q48, q49, q50, q51, q52, q53, q54, q55, q56, q57, q58, q59, q61, q62, q63, q64, q66, q67, q68, q69, q70, q71, q91, q93, q99, q100, q102, q104, q107, q108, q112, q114, q115, q119, q121, q124, q160, q200, q255, q640, q999, q1000, q2000, q4096, n_of, nI_ltI, nI_leI, nI_eq, nI_clamp, nI_add, pk_mul, n_sub, m1_eq, m1_eq2, m1_lt, m1_lt2, gdN, Nat.not_lt_zero, false_or, if_true, if_false, if_pos, if_neg, cond_true, cond_false, beq_self, and_self, true_and, and_true, not_true_eq_false, not_false_eq_true, ne_eq, b01_0, Bool.true_eq_false]
        · rw [decide_eq_false hy, if_neg (show ¬ (0 ≤ y.toInt ∧ y.toInt ≤ mx4 0) from hy)]
          simp (disch := omega) only [↓n_m1, ↓n_hid, q0, q1, q2, q3, q4, q5, q6, q7, q8, q9, q10, q11, q12, q13, q14, q15, q16, q17, q18, q19, q20, q21, q22, q23, q24, q25, q26, q27, q28, q29, q30, q31, q32, q33, q34, q35, q36, q37, q38, q39, q40, q41, q42, q43, q44, q45, q46, q47, q48, q49, q50, q51, q52, q53, q54, q55, q56, q57, q58, q59, q61, q62, q63, q64, q66, q67, q68, q69, q70, q71, q91, q93, q99, q100, q102, q104, q107, q108, q112, q114, q115, q119, q121, q124, q160, q200, q255, q640, q999, q1000, q2000, q4096, n_of, nI_ltI, nI_leI, nI_eq, nI_clamp, nI_add, pk_mul, n_sub, m1_eq, m1_eq2, m1_lt, m1_lt2, gdN, Nat.not_lt_zero, false_or, if_true, if_false, if_pos, if_neg, cond_true, cond_false, beq_self, and_self, true_and, and_true, not_true_eq_false, not_false_eq_true, ne_eq, b01_0]
      · simp (disch := omega) only [↓n_m1, ↓n_hid, q0, q1, q2, q3, q4, q5, q6, q7, q8, q9, q10, q11, q12, q13, q14, q15, q16, q17, q18, q19, q20, q21, q22, q23, q24, q25, q26, q27, q28, q29, q30, q31, q32, q33, q34, q35, q36, q37, q38, q39, q40, q41, q42, q43, q44, q45, q46, q47, q48, q49, q50, q51, q52, q53, q54, q55, q56, q57, q58, q59, q61, q62, q63, q64, q66, q67, q68, q69, q70, q71, q91, q93, q99, q100, q102, q104, q107, q108, q112, q114, q115, q119, q121, q124, q160, q200, q255, q640, q999, q1000, q2000, q4096, n_of, nI_ltI, nI_leI, nI_eq, nI_clamp, nI_add, pk_mul, n_sub, m1_eq, m1_eq2, m1_lt, m1_lt2, gdN, Nat.not_lt_zero, false_or, if_true, if_false, if_pos, if_neg, cond_true, cond_false, beq_self, and_self, true_and, and_true, not_true_eq_false, not_false_eq_true, ne_eq]
        rw [mi1 (d := d + 48)]
        by_cases hy : 0 ≤ y.toInt ∧ y.toInt ≤ 1
        · rw [decide_eq_true hy, if_pos (show 0 ≤ y.toInt ∧ y.toInt ≤ mx4 1 from hy)]
          simp (disch := omega) only [↓n_m1, ↓n_hid, q0, q1, q2, q3, q4, q5, q6, q7, q8, q9, q10, q11, q12, q13, q14, q15, q16, q17, q18, q19, q20, q21, q22, q23, q24, q25, q26, q27, q28, q29, q30, q31, q32, q33, q34, q35, q36, q37, q38, q39, q40, q41, q42, q43, q44, q45, q46, q47, q48, q49, q50, q51, q52, q53, q54, q55, q56, q57, q58, q59, q61, q62, q63, q64, q66, q67, q68, q69, q70, q71, q91, q93, q99, q100, q102, q104, q107, q108, q112, q114, q115, q119, q121, q124, q160, q200, q255, q640, q999, q1000, q2000, q4096, n_of, nI_ltI, nI_leI, nI_eq, nI_clamp, nI_add, pk_mul, n_sub, m1_eq, m1_eq2, m1_lt, m1_lt2, gdN, Nat.not_lt_zero, false_or, if_true, if_false, if_pos, if_neg, cond_true, cond_false, beq_self, and_self, true_and, and_true, not_true_eq_false, not_false_eq_true, ne_eq, b01_0, Bool.true_eq_false]
        · rw [decide_eq_false hy, if_neg (show ¬ (0 ≤ y.toInt ∧ y.toInt ≤ mx4 1) from hy)]
          simp (disch := omega) only [↓n_m1, ↓n_hid, q0, q1, q2, q3, q4, q5, q6, q7, q8, q9, q10, q11, q12, q13, q14, q15, q16, q17, q18, q19, q20, q21, q22, q23, q24, q25, q26, q27, q28, q29, q30, q31, q32, q33, q34, q35, q36, q37, q38, q39, q40, q41, q42, q43, q44, q45, q46, q47, q48, q49, q50, q51, q52, q53, q54, q55, q56, q57, q58, q59, q61, q62, q63, q64, q66, q67, q68, q69, q70, q71, q91, q93, q99, q100, q102, q104, q107, q108, q112, q114, q115, q119, q121, q124, q160, q200, q255, q640, q999, q1000, q2000, q4096, n_of, nI_ltI, nI_leI, nI_eq, nI_clamp, nI_add, pk_mul, n_sub, m1_eq, m1_eq2, m1_lt, m1_lt2, gdN, Nat.not_lt_zero, false_or, if_true, if_false, if_pos, if_neg, cond_true, cond_false, beq_self, and_self, true_and, and_true, not_true_eq_false, not_false_eq_true, ne_eq, b01_0]
      · simp (disch := omega) only [↓n_m1, ↓n_hid, q0, q1, q2, q3, q4, q5, q6, q7, q8, q9, q10, q11, q12, q13, q14, q15, q16, q17, q18, q19, q20, q21, q22, q23, q24, q25, q26, q27, q28, q29, q30, q31, q32, q33, q34, q35, q36, q37, q38, q39, q40, q41, q42, q43, q44, q45, q46, q47, q48, q49, q50, q51, q52, q53, q54, q55, q56, q57, q58, q59, q61, q62, q63, q64, q66, q67, q68, q69, q70, q71, q91, q93, q99, q100, q102, q104, q107, q108, q112, q114, q115, q119, q121, q124, q160, q200, q255, q640, q999, q1000, q2000, q4096, n_of, nI_ltI, nI_leI, nI_eq, nI_clamp, nI_add, pk_mul, n_sub, m1_eq, m1_eq2, m1_lt, m1_lt2, gdN, Nat.not_lt_zero, false_or, if_true, if_false, if_pos, if_neg, cond_true, cond_false, beq_self, and_self, true_and, and_true, not_true_eq_false, not_false_eq_true, ne_eq]
        rw [mi999 (d := d + 48)]
        by_cases hy : 0 ≤ y.toInt ∧ y.toInt ≤ 999
        · rw [decide_eq_true hy, if_pos (show 0 ≤ y.toInt ∧ y.toInt ≤ mx4 2 from hy)]
          simp (disch := omega) only [↓n_m1, ↓n_hid, q0, q1, q2, q3, q4, q5, q6, q7, q8, q9, q10, q11, q12, q13, q14, q15, q16, q17, q18, q19, q20, q21, q22, q23, q24, q25, q26, q27, q28, q29, q30, q31, q32, q33, q34, q35, q36, q37, q38, q39, q40, q41, q42, q43, q44, q45, q46, q47, q48, q49, q50, q51, q52, q53, q54, q55, q56, q57, q58, q59, q61, q62, q63, q64, q66, q67, q68, q69, q70, q71, q91, q93, q99, q100, q102, q104, q107, q108, q112, q114, q115, q119, q121, q124, q160, q200, q255, q640, q999, q1000, q2000, q4096, n_of, nI_ltI, nI_leI, nI_eq, nI_clamp, nI_add, pk_mul, n_sub, m1_eq, m1_eq2, m1_lt, m1_lt2, gdN, Nat.not_lt_zero, false_or, if_true, if_false, if_pos, if_neg, cond_true, cond_false, beq_self, and_self, true_and, and_true, not_true_eq_false, not_false_eq_true, ne_eq, b01_0, Bool.true_eq_false]
        · rw [decide_eq_false hy, if_neg (show ¬ (0 ≤ y.toInt ∧ y.toInt ≤ mx4 2) from hy)]
          simp (disch := omega) only [↓n_m1, ↓n_hid, q0, q1, q2, q3, q4, q5, q6, q7, q8, q9, q10, q11, q12, q13, q14, q15, q16, q17, q18, q19, q20, q21, q22, q23, q24, q25, q26, q27, q28, q29, q30, q31, q32, q33, q34, q35, q36, q37, q38, q39, q40, q41, q42, q43, q44, q45, q46, q47, q48, q49, q50, q51, q52, q53, q54, q55, q56, q57, q58, q59, q61, q62, q63, q64, q66, q67, q68, q69, q70, q71, q91, q93, q99, q100, q102, q104, q107, q108, q112, q114, q115, q119, q121, q124, q160, q200, q255, q640, q999, q1000, q2000, q4096, n_of, nI_ltI, nI_leI, nI_eq, nI_clamp, nI_add, pk_mul, n_sub, m1_eq, m1_eq2, m1_lt, m1_lt2, gdN, Nat.not_lt_zero, false_or, if_true, if_false, if_pos, if_neg, cond_true, cond_false, beq_self, and_self, true_and, and_true, not_true_eq_false, not_false_eq_true, ne_eq, b01_0]
      · simp (disch := omega) only [↓n_m1, ↓n_hid, q0, q1, q2, q3, q4, q5, q6, q7, q8, q9, q10, q11, q12, q13, q14, q15, q16, q17, q18, q19, q20, q21, q22, q23, q24, q25, q26, q27, q28, q29, q30, q31, q32, q33, q34, q35, q36, q37, q38, q39, q40, q41, q42, q43, q44, q45, q46, q47, q48, q49, q50, q51, q52, q53, q54, q55, q56, q57, q58, q59, q61, q62, q63, q64, q66, q67, q68, q69, q70, q71, q91, q93, q99, q100, q102, q104, q107, q108, q112, q114, q115, q119, q121, q124, q160, q200, q255, q640, q999, q1000, q2000, q4096, n_of, nI_ltI, nI_leI, nI_eq, nI_clamp, nI_add, pk_mul, n_sub, m1_eq, m1_eq2, m1_lt, m1_lt2, gdN, Nat.not_lt_zero, false_or, if_true, if_false, if_pos, if_neg, cond_true, cond_false, beq_self, and_self, true_and, and_true, not_true_eq_false, not_false_eq_true, ne_eq]
        rw [mi50 (d := d + 48)]
        by_cases hy : 0 ≤ y.toInt ∧ y.toInt ≤ 50
        · rw [decide_eq_true hy, if_pos (show 0 ≤ y.toInt ∧ y.toInt ≤ mx4 3 from hy)]
          simp (disch := omega) only [↓n_m1, ↓n_hid, q0, q1, q2, q3, q4, q5, q6, q7, q8, q9, q10, q11, q12, q13, q14, q15, q16, q17, q18, q19, q20, q21, q22, q23, q24, q25, q26, q27, q28, q29, q30, q31, q32, q33, q34, q35, q36, q37, q38, q39, q40, q41, q42, q43, q44, q45, q46, q47, q48, q49, q50, q51, q52, q53, q54, q55, q56, q57, q58, q59, q61, q62, q63, q64, q66, q67, q68, q69, q70, q71, q91, q93, q99, q100, q102, q104, q107, q108, q112, q114, q115, q119, q121, q124, q160, q200, q255, q640, q999, q1000, q2000, q4096, n_of, nI_ltI, nI_leI, nI_eq, nI_clamp, nI_add, pk_mul, n_sub, m1_eq, m1_eq2, m1_lt, m1_lt2, gdN, Nat.not_lt_zero, false_or, if_true, if_false, if_pos, if_neg, cond_true, cond_false, beq_self, and_self, true_and, and_true, not_true_eq_false, not_false_eq_true, ne_eq, b01_0, Bool.true_eq_false]
        · rw [decide_eq_false hy, if_neg (show ¬ (0 ≤ y.toInt ∧ y.toInt ≤ mx4 3) from hy)]
          simp (disch := omega) only [↓n_m1, ↓n_hid, q0, q1, q2, q3, q4, q5, q6, q7, q8, q9, q10, q11, q12, q13, q14, q15, q16, q17, q18, q19, q20, q21, q22, q23, q24, q25, q26, q27, q28, q29, q30, q31, q32, q33, q34, q35, q36, q37, q38, q39, q40, q41, q42, q43, q44, q45, q46, q47, q48, q49, q50, q51, q52, q53, q54, q55, q56, q57, q58, q59, q61, q62, q63, q64, q66, q67, q68, q69, q70, q71, q91, q93, q99, q100, q102, q104, q107, q108, q112, q114, q115, q119, q121, q124, q160, q200, q255, q640, q999, q1000, q2000, q4096, n_of, nI_ltI, nI_leI, nI_eq, nI_clamp, nI_add, pk_mul, n_sub, m1_eq, m1_eq2, m1_lt, m1_lt2, gdN, Nat.not_lt_zero, false_or, if_true, if_false, if_pos, if_neg, cond_true, cond_false, beq_self, and_self, true_and, and_true, not_true_eq_false, not_false_eq_true, ne_eq, b01_0]
    by_cases hx : 0 ≤ x.toInt ∧ x.toInt ≤ 3
    · obtain ⟨a, ha, rfl⟩ := inN (n := 3) hx (by decide)
      rw [if_neg (show ¬ nI a < 0 by rw [q0, nI_ltI (by omega) (by omega)]; omega), if_neg (show ¬ (3 : Int32) < nI a by rw [q3, nI_ltI (by omega) (by omega)]; omega)]
      have est : s 1001 a = nI (mx4 a) := by
        obtain ⟨s0, s1, s2, s3⟩ := (rl_sta h).1
        rcases (show a = 0 ∨ a = 1 ∨ a = 2 ∨ a = 3 by omega) with rfl | rfl | rfl | rfl
        · exact s0
        · exact s1
        · exact s2
        · exact s3
      have hmx : mx4 a ≤ 999 := by unfold mx4; repeat' split
                                   all_goals omega
      have fin : ¬ (0 ≤ y.toInt ∧ y.toInt ≤ mx4 a) → wI (wp (d + 50)) m_M_set [.ref 57, .int (nI a), .int y] s (fun v' s2 => K 0 v' s2) := by
        intro hy
        rw [mM a s 0 ha rfl, if_neg hy]
        exact hK _ _ ht
      by_cases hy0 : y < 0
      · rw [if_pos hy0]
        refine fin fun z => ?_
        rw [q0, Int32.lt_iff_toInt_lt, n_i (by omega)] at hy0
        omega
      · rw [if_neg hy0, c_at (d := d + 48) (show (shp 1001).1 = 20 from rfl) (show a < 4 by omega), est]
        by_cases hy1 : nI (mx4 a) < y
        · rw [if_pos hy1]
          refine fin fun z => ?_
          rw [Int32.lt_iff_toInt_lt, n_i (by omega)] at hy1
          omega
        · rw [if_neg hy1]
          have hy : 0 ≤ y.toInt ∧ y.toInt ≤ mx4 a := by
            rw [q0, Int32.lt_iff_toInt_lt, n_i (by omega)] at hy0
            rw [Int32.lt_iff_toInt_lt, n_i (by omega)] at hy1
            omega
          obtain ⟨b, hb, hyb⟩ := inN (n := mx4 a) hy (by omega)
          have hV : V5 g (up5 (s 34) a y) := by rw [hyb]; exact V5_set (rl_now h).1 ha hb
          refine c_act (by omega) (show a < 5 by omega) hn h33 (fun e => ?_) (fun e s1 f1 e2 e4 e35 e34 => ?_)
          · rw [if_pos (by decide), mM a s _ ha rfl, if_pos hy, if_pos (by rw [up_ce (by decide), (rl_now h).2 a (by omega)]; exact e)]
            exact hK _ _ ht
          · rw [if_pos (by decide), mM a s1 _ ha (by rw [f1 57 (by simp)]), if_pos hy, if_neg (by rw [up_ce (by decide), f1 68 (by simp), (rl_now h).2 a (by omega)]; exact e)]
            exact m_actG (K := fun v s => K (nI 1) v s) h hn h57 hB hV f1 e2 e4 e35 e34 (by omega) (fun _ _ => rfl) (fun s' h' => hK _ _ h')
    · have mx : wI (wp (d + 50)) m_M_set [.ref 57, .int x, .int y] s (fun v' s2 => K 0 v' s2) := by
        have e0 : ¬ s 57 24 = 0 := fun z => (r_r0 h).mp z hR
        rw [e_M_set, if_neg e0, mi3 (d := d + 48), ifb, decide_eq_false hx, if_neg (by decide)]
        exact hK _ _ ht
      by_cases h1 : x < 0
      · rw [if_pos h1]; exact mx
      · rw [if_neg h1, if_pos (show (3 : Int32) < x by
          rw [q0, Int32.lt_iff_toInt_lt, n_i (by omega)] at h1
          rw [q3, Int32.lt_iff_toInt_lt, n_i (by omega)]
          omega)]
        exact mx
  · rw [decide_eq_false hR, if_neg (by decide), e_M_set, if_pos (show s 57 24 = 0 from (r_r0 h).mpr hR)]
    exact hK _ _ ht
end
