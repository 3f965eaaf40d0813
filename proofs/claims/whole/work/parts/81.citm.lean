/-! the reference reads a city's text: rows and items -/
section
variable {d : Nat} {T : Txt} {s : Mem}
theorem cmp_lt (a b : Int64) : (lg_cmp a b < 0) = (a.toInt < b.toInt) := by
  unfold lg_cmp
  apply propext
  by_cases h1 : a > b
  · rw [if_pos h1]
    have := Int64.lt_iff_toInt_lt.mp h1
    exact ⟨fun z => absurd z (by decide), fun z => by omega⟩
  · rw [if_neg h1]
    have h1' : ¬ b.toInt < a.toInt := fun z => h1 (Int64.lt_iff_toInt_lt.mpr z)
    by_cases h2 : a = b
    · rw [if_pos h2, h2]
      exact ⟨fun z => absurd z (by decide), fun z => by omega⟩
    · rw [if_neg h2]
      have : a.toInt ≠ b.toInt := fun z => h2 (Int64.toInt_inj.mp z)
      exact ⟨fun _ => by omega, fun _ => by decide⟩
theorem cmp_gt (a b : Int64) : ((0 : Int32) < lg_cmp a b) = (b.toInt < a.toInt) := by
  unfold lg_cmp
  apply propext
  by_cases h1 : a > b
  · rw [if_pos h1]
    have := Int64.lt_iff_toInt_lt.mp h1
    exact ⟨fun _ => by omega, fun _ => by decide⟩
  · rw [if_neg h1]
    have h1' : ¬ b.toInt < a.toInt := fun z => h1 (Int64.lt_iff_toInt_lt.mpr z)
    by_cases h2 : a = b
    · rw [if_pos h2]
      exact ⟨fun z => absurd z (by decide), fun z => by omega⟩
    · rw [if_neg h2]
      exact ⟨fun z => absurd z (by decide), fun z => by omega⟩
theorem m_isInX {K : Int32 → Mem → Prop} (hd : 1 ≤ d) {x lo hi : Nat} (hx : x < 10000) (hl : lo < 10000) (hh : hi < 10000) : wI (wp d) m_M_isIn [.long (nI x).toInt64, .long (nI lo).toInt64, .long (nI hi).toInt64] s K = K (b01 (decide (lo ≤ x ∧ x ≤ hi))) s := by
  obtain ⟨d, rfl⟩ : ∃ e, d = e + 1 := ⟨d - 1, by omega⟩
  rw [e_M_isIn]
  simp only [cmp_lt, cmp_gt, Int32.toInt_toInt64, n_i (show x < 2 ^ 31 by omega), n_i (show lo < 2 ^ 31 by omega), n_i (show hi < 2 ^ 31 by omega)]
  by_cases h1 : x < lo
  · rw [if_pos (by omega), decide_eq_false (by omega)]; rfl
  rw [if_neg (by omega)]
  by_cases h2 : hi < x
  · rw [if_pos (by omega), decide_eq_false (by omega)]; rfl
  rw [if_neg (by omega), decide_eq_true (by omega)]; rfl
abbrev fR (s t : Mem) : Prop := frN [63, 64, 66, 67] [10, 11, 27, 28, 29] s t
theorem RdS_C {t : Mem} (h : RdS T 58 0 s) (hf : fR s t) : RdS T 58 0 t := by
  obtain ⟨h1, h2, h3, h4, h5⟩ := h
  refine ⟨h1, ?_, ?_, ?_, ?_⟩
  · rw [hf.2 5 (by decide)]; exact h2
  · rw [hf.2 8 (by decide)]; exact h3
  · rw [hf.2 9 (by decide)]; exact h4
  · intro j hj; rw [hf.1 58 (by decide) (by decide)]; exact h5 j hj
/-- the reference's draft of a city -/
def DM (r : RawC) (s : Mem) : Prop := s 57 27 = nI (rR r) ∧ s 57 28 = nI (rS r) ∧ s 57 29 = b01 (rH r) ∧ (∀ k, k < rR r → s 64 k = nI (rW r k) ∧ ∀ j, j < rW r k → s 63 (5 * k + j) = b01 (rT r k j)) ∧
  (∀ k j, k < rS r → j < 6 → s 66 (6 * k + j) = nI (rI r k j)) ∧ s 67 0 = nI (rD r)
def RCt (T : Txt) (p : Nat) (s : Mem) : Prop := RdS T 58 0 s ∧ s 57 10 = nI p ∧ s 57 11 = m1
def CKm (T : Txt) (r : Sum Nat (Nat × RawC)) (s : Mem) (K : Mem → Prop) : Prop := match r with
  | .inl f => ∀ s', fR s s' → s' 57 11 = nI f → K s'
  | .inr x => ∀ s' p, fR s s' → RCt T p s' → p ≤ T.2 → sk T p = x.1 → DM x.2 s' → K s'
theorem CKm_w {t : Mem} {r : Sum Nat (Nat × RawC)} {K : Mem → Prop} (h : CKm T r s K) (f : fR s t) : CKm T r t K := by
  cases r with
  | inl e => exact fun s' f' g => h s' (frN_t f f') g
  | inr x => exact fun s' p f' g => h s' p (frN_t f f') g
theorem mR_look {K : Int32 → Mem → Prop} (hT : TxOk T) (hd : 1 ≤ d) {p : Nat} (hg : RCt T p s) (hp : p ≤ T.2) (hK : ∀ s', frN [] [10] s s' → RCt T (sk T p) s' → K (sg T (sk T p)) s') : wI (wp d) m_M_look [.ref 57] s K := by
  refine m_look hT hd hg.1 hg.2.1 hp fun s' f e => hK s' f ⟨RdS_C hg.1 (frN_w f (by simp) (by simp)), e, ?_⟩
  rw [f.2 11 (by decide)]; exact hg.2.2
theorem mR_fails {K : Int32 → Mem → Prop} (hd : 1 ≤ d) {p : Nat} (hg : RCt T p s) (hK : ∀ s', frN [] [11] s s' → s' 57 11 = nI p → K (nI 0) s') : wI (wp d) m_M_fails [.ref 57] s K := by
  rw [m_fails hd hg.2.2]
  exact hK _ (frN_v (by simp)) (by rw [up_at]; exact hg.2.1)
theorem grd_sg {q : Nat} (hT : TxOk T) (hq : q < T.2) : (grd (T.1 q) = true) = (sg T q = 46 ∨ sg T q = 35) := by
  have hb := (hT.2 q hq).2
  rw [show sg T q = nI (T.1 q) from if_pos hq, show (46 : Int32) = nI 46 from rfl, show (35 : Int32) = nI 35 from rfl, nI_eq (by omega) (by omega), nI_eq (by omega) (by omega)]
  exact propext ⟨fun h => of_decide_eq_true h, fun h => decide_eq_true h⟩
theorem ng_sg {q : Nat} (hT : TxOk T) (hn : ¬ (q < T.2 ∧ grd (T.1 q) = true)) : ¬ sg T q = 46 ∧ ¬ sg T q = 35 := by
  by_cases hq : q < T.2
  · have := grd_sg hT hq
    constructor
    · intro z; exact hn ⟨hq, by rw [this]; exact Or.inl z⟩
    · intro z; exact hn ⟨hq, by rw [this]; exact Or.inr z⟩
  · rw [show sg T q = m1 from if_neg hq]
    exact ⟨by decide, by decide⟩
theorem m_readRow (hT : TxOk T) {K : Mem → Prop} (hd : 4 ≤ d) {r : RawC} {p : Nat} (hg : RCt T p s) (hp : p ≤ T.2) (hD : DM r s) (hr : RawOk r) (hR : rR r < 4) (hK : CKm T (bnd (rowF T 5 p 0 (fun _ => false)) fun p' x => .inr (p', addRow r x)) s K) : wV (wp d) m_M_readRow [.ref 57] s K := by
  have h160 := hT.1
  obtain ⟨d, rfl⟩ : ∃ e, d = e + 1 := ⟨d - 1, by omega⟩
  -- the row is laid down
  have good : ∀ (p len : Nat) (f : Nat → Bool) (u : Mem), 1 ≤ len → len ≤ 5 → frN [63] [10] s u → RCt T (sk T p) u → p ≤ T.2 → (∀ j, j < len → u 63 (5 * rR r + j) = b01 (f j)) → (∀ k, k < 5 * rR r → u 63 k = s 63 k) → ¬ (sk T p < T.2 ∧ grd (T.1 (sk T p)) = true) → CKm T (.inr (sk T p, addRow r (len, f))) s K →
      RnV d m_M_readRow K 25 [.ref 57, .int (nI len), .int (sg T (sk T p))] [] u := by
    intro p len f u hl1 hl5 hf hg hp hj hk hx hK
    have k2 := sk_le hp
    obtain ⟨n1, n2⟩ := ng_sg hT hx
    have e27 : u 57 27 = nI (rR r) := by rw [hf.2 27 (by decide)]; exact hD.1
    rw [r_M_readRow_25, if_neg n1, if_neg n2, e27]
    simp (disch := omega) only [↓n_m1, ↓n_hid, q0, q1, q2, q3, q4, q5, q6, q7, q8, q9, q10, q11, q12, q13, q14, q15, q16, q17, q18, q19, q20, q21, q22, q23, q24, q25, q26, q27, q28, q29, q30, q31, q32, q33, q34, q35, q36, q37, q38, q39, q40, q41, q42, q43, q44, q45, q46, q47, q48, q49, q50, q51, q52, q53, q54, q55, q56, q57, q58, q59, q61, q62, q63, q64, q66, q67, q68, q69, q70, q71, q91, q93, q99, q100, q102, q104, q107, q108, q112, q114, q115, q119, q121, q124, q160, q200, q255, q640, q999, q1000, q2000, q4096, n_of, nI_ltI, nI_leI, nI_eq, nI_clamp, nI_add, pk_mul, n_sub, m1_eq, m1_eq2, m1_lt, m1_lt2, gdN, Nat.not_lt_zero, false_or, if_true, if_false, if_pos, if_neg, cond_true, cond_false, beq_self, and_self, true_and, and_true, not_true_eq_false, not_false_eq_true, ne_eq]
    obtain ⟨d0, d2, d3, dr, di, dd⟩ := hD
    refine hK _ (sk T p) (frN_t (frN_w hf (by simp) (by simp)) (frN_t (frN_u (by simp) (by decide)) (frN_v (by simp)))) ⟨?_, ?_, ?_⟩ k2 sk_sk ⟨up_at, ?_, ?_, fun k hk' => ?_, fun k j hk' hj' => ?_, ?_⟩
    · exact RdS_C hg.1 (frN_t (frN_u (by simp) (by decide)) (frN_v (by simp)))
    · rw [up_pl (by decide), up_ce (by decide)]; exact hg.2.1
    · rw [up_pl (by decide), up_ce (by decide)]; exact hg.2.2
    · rw [up_pl (by decide), up_ce (by decide), hf.2 28 (by decide)]; exact d2
    · rw [up_pl (by decide), up_ce (by decide), hf.2 29 (by decide)]; exact d3
    · have hk2 : k < rR r + 1 := hk'
      rw [up_ce (show 64 ≠ 57 by decide), up_ce (show 63 ≠ 57 by decide), up_ce (show 63 ≠ 64 by decide)]
      show _ = nI (if k = rR r then len else rW r k) ∧ ∀ j, j < (if k = rR r then len else rW r k) → _ = b01 ((if k = rR r then f else rT r k) j)
      by_cases e : k = rR r
      · rw [if_pos e, if_pos e, e, up_at]
        exact ⟨rfl, fun j hj' => hj j hj'⟩
      · have hkl : k < rR r := by omega
        have hW := (hr.2.1 k hkl).2
        rw [if_neg e, if_neg e, up_pl e, hf.1 64 (by decide) (by decide)]
        exact ⟨(dr k hkl).1, fun j hj' => by rw [hk _ (by omega)]; exact (dr k hkl).2 j hj'⟩
    · rw [up_ce (by decide), up_ce (by decide), hf.1 66 (by decide) (by decide)]; exact di k j hk' hj'
    · rw [up_ce (by decide), up_ce (by decide), hf.1 67 (by decide) (by decide)]; exact dd
  have lp : ∀ (m p len : Nat) (f : Nat → Bool) (u : Mem), len + m = 5 → frN [63] [10] s u → RCt T (sk T p) u → p ≤ T.2 → (∀ j, j < len → u 63 (5 * rR r + j) = b01 (f j)) → (∀ k, k < 5 * rR r → u 63 k = s 63 k) → (len = 0 → sk T p < T.2 ∧ grd (T.1 (sk T p)) = true) → CKm T (bnd (rowF T m p len f) fun p' x => .inr (p', addRow r x)) s K →
      RnV d m_M_readRow K 25 [.ref 57, .int (nI len), .int (sg T (sk T p))] [] u := by
    intro m
    induction m with
    | zero =>
      intro p len f u hm hf hg hp hj hk h0 hK
      obtain rfl : len = 5 := by omega
      by_cases hx : sk T p < T.2 ∧ grd (T.1 (sk T p)) = true
      · rw [show rowF T 0 p 5 f = .inl (sk T p) from if_pos hx] at hK
        have hgr : sg T (sk T p) = 46 ∨ sg T (sk T p) = 35 := by rw [← grd_sg hT hx.1]; exact hx.2
        have fin : wI (wp d) m_M_fails [.ref 57] u (fun x43 s43 => K s43) := mR_fails (by omega) hg fun s' f' e' => hK s' (frN_t (frN_w hf (by simp) (by simp)) (frN_w f' (by simp) (by simp))) e'
        rw [r_M_readRow_25]
        rcases hgr with e | e
        · rw [if_pos e, if_pos (show nI 5 = 5 from rfl)]; exact fin
        · rw [if_neg (by rw [e]; decide), if_pos e, if_pos (show nI 5 = 5 from rfl)]; exact fin
      · rw [show rowF T 0 p 5 f = .inr (sk T p, (5, f)) from (if_neg hx).trans (if_neg (by decide))] at hK
        exact good p 5 f u (by omega) (by omega) hf hg hp hj hk hx hK
    | succ m ih =>
      intro p len f u hm hf hg hp hj hk h0 hK
      have k1 := sk_ge (T := T) (p := p)
      have k2 := sk_le hp
      by_cases hx : sk T p < T.2 ∧ grd (T.1 (sk T p)) = true
      · rw [show rowF T (m + 1) p len f = rowF T m (sk T p + 1) (len + 1) (fun k => if k = len then decide (T.1 (sk T p) = 46) else f k) from if_pos hx] at hK
        have hgr : sg T (sk T p) = 46 ∨ sg T (sk T p) = 35 := by rw [← grd_sg hT hx.1]; exact hx.2
        have e27 : u 57 27 = nI (rR r) := by rw [hf.2 27 (by decide)]; exact hD.1
        have hbt := (hT.2 _ hx.1).2
        have n5 : ¬ nI len = 5 := by rw [q5, nI_eq (by omega) (by omega)]; omega
        have esg : sg T (sk T p) = nI (T.1 (sk T p)) := if_pos hx.1
        have go : ∀ (x : Int32), x = b01 (decide (T.1 (sk T p) = 46)) → wI (wp d) m_M_look [.ref 57] (upM (upM u 63 (5 * rR r + len) x) 57 10 (u 57 10 + nI 1)) (fun x86 s86 => RnV d m_M_readRow K 25 [.ref 57, .int (nI (len + 1)), .int x86] [] s86) := by
          intro x hxx
          have fu : frN [63] [10] u (upM (upM u 63 (5 * rR r + len) x) 57 10 (u 57 10 + nI 1)) := frN_t (frN_u (by simp) (by decide)) (frN_v (by simp))
          have g2 : RCt T (sk T p + 1) (upM (upM u 63 (5 * rR r + len) x) 57 10 (u 57 10 + nI 1)) := by
            refine ⟨RdS_C hg.1 (frN_w fu (by simp) (by simp)), ?_, ?_⟩
            · rw [up_at, hg.2.1]; exact nI_add _ 1
            · rw [up_pl (by decide), up_ce (by decide)]; exact hg.2.2
          refine mR_look hT (by omega) g2 (by omega) fun s1 f1 g1 => ?_
          have e63 : s1 63 = upM u 63 (5 * rR r + len) x 63 := by rw [f1.1 63 (by simp) (by decide), up_ce (by decide)]
          refine ih (sk T p + 1) (len + 1) _ s1 (by omega) (frN_t hf (frN_t fu (frN_w f1 (by simp) (by simp)))) g1 (by omega) (fun j hj2 => ?_) (fun k hk2 => ?_) (fun z => by omega) hK
          · rw [e63]
            by_cases e : j = len
            · rw [e, up_at, if_pos rfl]; exact hxx
            · rw [up_pl (by omega), if_neg e]; exact hj j (by omega)
          · rw [e63, up_pl (by omega)]; exact hk k hk2
        rw [r_M_readRow_25, e27]
        by_cases e46 : T.1 (sk T p) = 46
        · have es : sg T (sk T p) = 46 := by rw [esg, e46]; rfl
          rw [if_pos es, if_neg n5, if_pos es]
          simp (disch := omega) only [↓n_m1, ↓n_hid, q0, q1, q2, q3, q4, q5, q6, q7, q8, q9, q10, q11, q12, q13, q14, q15, q16, q17, q18, q19, q20, q21, q22, q23, q24, q25, q26, q27, q28, q29, q30, q31, q32, q33, q34, q35, q36, q37, q38, q39, q40, q41, q42, q43, q44, q45, q46, q47, q48, q49, q50, q51, q52, q53, q54, q55, q56, q57, q58, q59, q61, q62, q63, q64, q66, q67, q68, q69, q70, q71, q91, q93, q99, q100, q102, q104, q107, q108, q112, q114, q115, q119, q121, q124, q160, q200, q255, q640, q999, q1000, q2000, q4096, n_of, nI_ltI, nI_leI, nI_eq, nI_clamp, nI_add, pk_mul, n_sub, m1_eq, m1_eq2, m1_lt, m1_lt2, gdN, Nat.not_lt_zero, false_or, if_true, if_false, if_pos, if_neg, cond_true, cond_false, beq_self, and_self, true_and, and_true, not_true_eq_false, not_false_eq_true, ne_eq]
          exact go _ (by rw [decide_eq_true e46]; rfl)
        · have es : ¬ sg T (sk T p) = 46 := by rw [esg, show (46 : Int32) = nI 46 from rfl, nI_eq (by omega) (by omega)]; exact e46
          rw [if_neg es, if_pos (hgr.resolve_left es), if_neg n5, if_neg es]
          simp (disch := omega) only [↓n_m1, ↓n_hid, q0, q1, q2, q3, q4, q5, q6, q7, q8, q9, q10, q11, q12, q13, q14, q15, q16, q17, q18, q19, q20, q21, q22, q23, q24, q25, q26, q27, q28, q29, q30, q31, q32, q33, q34, q35, q36, q37, q38, q39, q40, q41, q42, q43, q44, q45, q46, q47, q48, q49, q50, q51, q52, q53, q54, q55, q56, q57, q58, q59, q61, q62, q63, q64, q66, q67, q68, q69, q70, q71, q91, q93, q99, q100, q102, q104, q107, q108, q112, q114, q115, q119, q121, q124, q160, q200, q255, q640, q999, q1000, q2000, q4096, n_of, nI_ltI, nI_leI, nI_eq, nI_clamp, nI_add, pk_mul, n_sub, m1_eq, m1_eq2, m1_lt, m1_lt2, gdN, Nat.not_lt_zero, false_or, if_true, if_false, if_pos, if_neg, cond_true, cond_false, beq_self, and_self, true_and, and_true, not_true_eq_false, not_false_eq_true, ne_eq]
          exact go _ (by rw [decide_eq_false e46]; rfl)
      · by_cases hl0 : len = 0
        · exact absurd (h0 hl0) hx
        · rw [show rowF T (m + 1) p len f = .inr (sk T p, (len, f)) from (if_neg hx).trans (if_neg hl0)] at hK
          exact good p len f u (by omega) (by omega) hf hg hp hj hk hx hK
  have k2 := sk_le hp
  rw [e_M_readRow]
  refine mR_look hT (by omega) hg hp fun s1 f1 g1 => ?_
  by_cases hx : sk T p < T.2 ∧ grd (T.1 (sk T p)) = true
  · have hgr : sg T (sk T p) = 46 ∨ sg T (sk T p) = 35 := by rw [← grd_sg hT hx.1]; exact hx.2
    have fin := lp 5 p 0 (fun _ => false) s1 rfl (frN_w f1 (by simp) (by simp)) g1 hp (fun j hj => absurd hj (Nat.not_lt_zero j)) (fun k _ => by rw [f1.1 63 (by simp) (by decide)]) (fun _ => hx) hK
    rcases hgr with e | e
    · rw [if_pos e]; exact fin
    · rw [if_neg (by rw [e]; decide), if_pos e]; exact fin
  · obtain ⟨n1, n2⟩ := ng_sg hT hx
    rw [show rowF T 5 p 0 (fun _ => false) = .inl (sk T p) from (if_neg hx).trans (if_pos rfl)] at hK
    rw [if_neg n1, if_neg n2]
    exact mR_fails (by omega) g1 fun s' f' e' => hK s' (frN_t (frN_w f1 (by simp) (by simp)) (frN_w f' (by simp) (by simp))) e'
/-- a letter's number -/
def riR (T : Txt) (p lo hi : Nat) : Sum Nat (Nat × Nat) := if sk T (p + 1) < T.2 ∧ dg (T.1 (sk T (p + 1))) = true then (match numL T 2 (sk T (p + 1)) 0 with
  | .inl f => .inl f
  | .inr x => if x.2 < lo ∨ hi < x.2 then .inl (x.1 - 1) else .inr x) else .inl (sk T (p + 1))
def RIK (T : Txt) (a k : Nat) (r : Sum Nat (Nat × Nat)) (s : Mem) (K : Mem → Prop) : Prop := match r with
  | .inl f => ∀ s', frN [] [10, 11] s s' → s' 57 11 = nI f → K s'
  | .inr x => ∀ s', frN [] [10] s s' → RCt T x.1 s' → K (upM s' a k (nI x.2))
theorem mR_here {K : Int32 → Mem → Prop} (hT : TxOk T) (hd : 1 ≤ d) {p : Nat} (hg : RCt T p s) (hp : p < T.2) : wI (wp d) m_M_here [.ref 57] s K = K (nI (T.1 p)) s := by
  have h160 := hT.1
  obtain ⟨d, rfl⟩ : ∃ e, d = e + 1 := ⟨d - 1, by omega⟩
  obtain ⟨a1, a2, a3, a4⟩ := RdS_s hT hg.1
  obtain ⟨⟨_, b2, b3, b4, b5⟩, h10, _⟩ := hg
  have hb := (hT.2 p hp).2
  have hsz := a3 p hp
  have ec : (nI (58 + 1)).toNatClampNeg - 1 = 58 := by rw [nI_clamp (by omega)]
  rw [e_M_here, h10, b4, b2, ec, a2, b3]
  simp (disch := omega) only [↓n_m1, ↓n_hid, q0, q1, q2, q3, q4, q5, q6, q7, q8, q9, q10, q11, q12, q13, q14, q15, q16, q17, q18, q19, q20, q21, q22, q23, q24, q25, q26, q27, q28, q29, q30, q31, q32, q33, q34, q35, q36, q37, q38, q39, q40, q41, q42, q43, q44, q45, q46, q47, q48, q49, q50, q51, q52, q53, q54, q55, q56, q57, q58, q59, q61, q62, q63, q64, q66, q67, q68, q69, q70, q71, q91, q93, q99, q100, q102, q104, q107, q108, q112, q114, q115, q119, q121, q124, q160, q200, q255, q640, q999, q1000, q2000, q4096, n_of, nI_ltI, nI_leI, nI_eq, nI_clamp, nI_add, pk_mul, n_sub, m1_eq, m1_eq2, m1_lt, m1_lt2, gdN, Nat.not_lt_zero, false_or, if_true, if_false, if_pos, if_neg, cond_true, cond_false, beq_self, and_self, true_and, and_true, not_true_eq_false, not_false_eq_true, ne_eq, b5 p hp]
  rw [byI_and _ (by omega)]
theorem mR_digit {K : Int32 → Mem → Prop} (hT : TxOk T) (hd : 1 ≤ d) {p : Nat} (hg : RCt T p s) (hp : p ≤ T.2) : wI (wp d) m_M_isDigit [.ref 57] s K = if p < T.2 ∧ dg (T.1 p) = true then K (nI 1) s else K (nI 0) s := by
  rw [m_isDigit hT hd hg.1 hg.2.1 hp]
  by_cases h : p < T.2 ∧ dg (T.1 p) = true
  · rw [if_pos h, decide_eq_true h.1, h.2]; rfl
  · rw [if_neg h]
    have : (decide (p < T.2) && dg (T.1 p)) = false := by
      cases h2 : (decide (p < T.2) && dg (T.1 p))
      · rfl
      · exact absurd (by have := Bool.and_eq_true_iff.mp h2; exact ⟨of_decide_eq_true this.1, this.2⟩) h
    rw [this]; rfl
theorem RCt_10 {p q : Nat} (hg : RCt T p s) {x : Int32} (hx : x = nI q) : RCt T q (upM s 57 10 x) := by
  refine ⟨RdS_C hg.1 (frN_v (by simp)), ?_, ?_⟩
  · rw [up_at]; exact hx
  · rw [up_pl (by decide)]; exact hg.2.2
theorem m_readItem (hT : TxOk T) {K : Mem → Prop} (hd : 3 ≤ d) {p lo hi a k : Nat} (hg : RCt T p s) (hp : p < T.2) (ha : (shp a).1 = 20) (hle : a ≤ 999) (hk : k < (shp a).2) (hlo : lo < 10000) (hhi : hi < 10000) (hK : RIK T a k (riR T p lo hi) s K) : wV (wp d) m_M_readItem [.ref 57, .ref a, .int (nI k), .int (nI lo), .int (nI hi)] s K := by
  have h160 := hT.1
  have hsh := shp_le a
  obtain ⟨d, rfl⟩ : ∃ e, d = e + 1 := ⟨d - 1, by omega⟩
  have k1 := sk_ge (T := T) (p := p + 1)
  have k2 := sk_le (T := T) (p := p + 1) (by omega)
  rw [e_M_readItem]
  have g0 : RCt T (p + 1) (upM s 57 10 (s 57 10 + 1)) := RCt_10 hg (by rw [hg.2.1]; exact nI_add _ 1)
  refine mR_look hT (by omega) g0 (by omega) fun s1 f1 g1 => ?_
  have F1 : frN [] [10] s s1 := frN_t (frN_v (by simp)) f1
  unfold riR at hK
  rw [mR_digit hT (by omega) g1 k2]
  by_cases hd2 : sk T (p + 1) < T.2 ∧ dg (T.1 (sk T (p + 1))) = true
  · rw [if_pos hd2] at hK ⊢
    have dd := of_decide_eq_true hd2.2
    have esg : sg T (sk T (p + 1)) = nI (T.1 (sk T (p + 1))) := if_pos hd2.1
    have en : numL T 2 (sk T (p + 1)) 0 = numL T 1 (sk T (p + 1) + 1) (T.1 (sk T (p + 1)) - 48) := by
      rw [show numL T 2 (sk T (p + 1)) 0 = numL T 1 (sk T (p + 1) + 1) (10 * 0 + T.1 (sk T (p + 1)) - 48) from if_pos hd2]
      rw [Nat.mul_zero, Nat.zero_add]
    -- within its bounds or not
    have fin : ∀ (w : Mem) (e v : Nat) (y : Int32), frN [] [10] s w → RCt T e w → 1 ≤ e → v < 10000 → y = nI v → RIK T a k (if v < lo ∨ hi < v then .inl (e - 1) else .inr (e, v)) s K →
        wI (wp d) m_M_isIn [.long (y : Int32).toInt64, .long (nI lo).toInt64, .long (nI hi).toInt64] w (fun x99 s99 => (if x99 = 0 then wI (wp d) m_M_fails [.ref 57] (upM s99 57 10 ((s99 57 10) - 1)) (fun x116 s116 => K s116) else (bif (Nat.beq (shp a).1 20 && Nat.ble a 999) then (if (nI k : Int32) < 0 ∨ (shp a).2 ≤ (nI k : Int32).toNatClampNeg then False else K (upM s99 a ((nI k : Int32).toNatClampNeg) y)) else False))) := by
      intro w e v y hw gw he hv ey hK
      rw [ey, m_isInX (by omega) hv hlo hhi, ifb]
      by_cases hb : v < lo ∨ hi < v
      · rw [if_pos hb] at hK
        rw [if_neg (by rw [decide_eq_false (by omega)]; decide)]
        refine mR_fails (by omega) (RCt_10 gw (q := e - 1) (by rw [gw.2.1]; exact n_sub he)) fun s' f' e' => ?_
        exact hK s' (frN_t (frN_w hw (by simp) (by simp)) (frN_t (frN_v (by simp)) (frN_w f' (by simp) (by simp)))) e'
      · rw [if_neg hb] at hK
        rw [if_pos (decide_eq_true (by omega)), ha, show Nat.ble a 999 = true from Nat.ble_eq_true_of_le hle]
        simp (disch := omega) only [↓n_m1, ↓n_hid, q0, q1, q2, q3, q4, q5, q6, q7, q8, q9, q10, q11, q12, q13, q14, q15, q16, q17, q18, q19, q20, q21, q22, q23, q24, q25, q26, q27, q28, q29, q30, q31, q32, q33, q34, q35, q36, q37, q38, q39, q40, q41, q42, q43, q44, q45, q46, q47, q48, q49, q50, q51, q52, q53, q54, q55, q56, q57, q58, q59, q61, q62, q63, q64, q66, q67, q68, q69, q70, q71, q91, q93, q99, q100, q102, q104, q107, q108, q112, q114, q115, q119, q121, q124, q160, q200, q255, q640, q999, q1000, q2000, q4096, n_of, nI_ltI, nI_leI, nI_eq, nI_clamp, nI_add, pk_mul, n_sub, m1_eq, m1_eq2, m1_lt, m1_lt2, gdN, Nat.not_lt_zero, false_or, if_true, if_false, if_pos, if_neg, cond_true, cond_false, beq_self, and_self, true_and, and_true, not_true_eq_false, not_false_eq_true, ne_eq, show (Nat.beq 20 20 && true) = true from rfl]
        exact hK w hw gw
    rw [if_neg (show ¬ nI 1 = 0 by decide)]
    have g2 : RCt T (sk T (p + 1) + 1) (upM s1 57 10 (s1 57 10 + 1)) := RCt_10 g1 (by rw [g1.2.1]; exact nI_add _ 1)
    have F2 : frN [] [10] s (upM s1 57 10 (s1 57 10 + 1)) := frN_t F1 (frN_v (by simp))
    rw [mR_digit hT (by omega) g2 (by omega)]
    by_cases hd3 : sk T (p + 1) + 1 < T.2 ∧ dg (T.1 (sk T (p + 1) + 1)) = true
    · have dd3 := of_decide_eq_true hd3.2
      have en2 : numL T 2 (sk T (p + 1)) 0 = numL T 0 (sk T (p + 1) + 1 + 1) (10 * (T.1 (sk T (p + 1)) - 48) + T.1 (sk T (p + 1) + 1) - 48) := en.trans (if_pos hd3)
      rw [if_pos hd3, if_neg (show ¬ nI 1 = 0 by decide), mR_here hT (by omega) g2 hd3.1]
      have g3 : RCt T (sk T (p + 1) + 1 + 1) (upM (upM s1 57 10 (s1 57 10 + 1)) 57 10 (upM s1 57 10 (s1 57 10 + 1) 57 10 + 1)) := RCt_10 g2 (by rw [g2.2.1]; exact nI_add _ 1)
      have F3 : frN [] [10] s (upM (upM s1 57 10 (s1 57 10 + 1)) 57 10 (upM s1 57 10 (s1 57 10 + 1) 57 10 + 1)) := frN_t F2 (frN_v (by simp))
      rw [mR_digit hT (by omega) g3 (by omega)]
      by_cases hd4 : sk T (p + 1) + 1 + 1 < T.2 ∧ dg (T.1 (sk T (p + 1) + 1 + 1)) = true
      · rw [en2, show numL T 0 (sk T (p + 1) + 1 + 1) (10 * (T.1 (sk T (p + 1)) - 48) + T.1 (sk T (p + 1) + 1) - 48) = .inl (sk T (p + 1) + 1 + 1) from if_pos hd4] at hK
        rw [if_pos hd4, if_neg (show ¬ nI 1 = 0 by decide)]
        exact mR_fails (by omega) g3 fun s' f' e' => hK s' (frN_t (frN_w F3 (by simp) (by simp)) (frN_w f' (by simp) (by simp))) e'
      · rw [en2, show numL T 0 (sk T (p + 1) + 1 + 1) (10 * (T.1 (sk T (p + 1)) - 48) + T.1 (sk T (p + 1) + 1) - 48) = .inr (sk T (p + 1) + 1 + 1, 10 * (T.1 (sk T (p + 1)) - 48) + T.1 (sk T (p + 1) + 1) - 48) from if_neg hd4] at hK
        rw [if_neg hd4, if_pos (show nI 0 = 0 from rfl)]
        refine fin _ (sk T (p + 1) + 1 + 1) (10 * (T.1 (sk T (p + 1)) - 48) + T.1 (sk T (p + 1) + 1) - 48) _ F3 g3 (by omega) (by omega) ?_ hK
        rw [esg]
        simp (disch := omega) only [↓n_m1, ↓n_hid, q0, q1, q2, q3, q4, q5, q6, q7, q8, q9, q10, q11, q12, q13, q14, q15, q16, q17, q18, q19, q20, q21, q22, q23, q24, q25, q26, q27, q28, q29, q30, q31, q32, q33, q34, q35, q36, q37, q38, q39, q40, q41, q42, q43, q44, q45, q46, q47, q48, q49, q50, q51, q52, q53, q54, q55, q56, q57, q58, q59, q61, q62, q63, q64, q66, q67, q68, q69, q70, q71, q91, q93, q99, q100, q102, q104, q107, q108, q112, q114, q115, q119, q121, q124, q160, q200, q255, q640, q999, q1000, q2000, q4096, n_of, nI_ltI, nI_leI, nI_eq, nI_clamp, nI_add, pk_mul, n_sub, m1_eq, m1_eq2, m1_lt, m1_lt2, gdN, Nat.not_lt_zero, false_or, if_true, if_false, if_pos, if_neg, cond_true, cond_false, beq_self, and_self, true_and, and_true, not_true_eq_false, not_false_eq_true, ne_eq]
    · have en2 : numL T 2 (sk T (p + 1)) 0 = .inr (sk T (p + 1) + 1, T.1 (sk T (p + 1)) - 48) := en.trans (if_neg hd3)
      rw [if_neg hd3, if_pos (show nI 0 = 0 from rfl), mR_digit hT (by omega) g2 (by omega), if_neg hd3, if_pos (show nI 0 = 0 from rfl)]
      rw [en2] at hK
      refine fin _ (sk T (p + 1) + 1) (T.1 (sk T (p + 1)) - 48) _ F2 g2 (by omega) (by omega) ?_ hK
      rw [esg]
      simp (disch := omega) only [↓n_m1, ↓n_hid, q0, q1, q2, q3, q4, q5, q6, q7, q8, q9, q10, q11, q12, q13, q14, q15, q16, q17, q18, q19, q20, q21, q22, q23, q24, q25, q26, q27, q28, q29, q30, q31, q32, q33, q34, q35, q36, q37, q38, q39, q40, q41, q42, q43, q44, q45, q46, q47, q48, q49, q50, q51, q52, q53, q54, q55, q56, q57, q58, q59, q61, q62, q63, q64, q66, q67, q68, q69, q70, q71, q91, q93, q99, q100, q102, q104, q107, q108, q112, q114, q115, q119, q121, q124, q160, q200, q255, q640, q999, q1000, q2000, q4096, n_of, nI_ltI, nI_leI, nI_eq, nI_clamp, nI_add, pk_mul, n_sub, m1_eq, m1_eq2, m1_lt, m1_lt2, gdN, Nat.not_lt_zero, false_or, if_true, if_false, if_pos, if_neg, cond_true, cond_false, beq_self, and_self, true_and, and_true, not_true_eq_false, not_false_eq_true, ne_eq]
  · rw [if_neg hd2] at hK ⊢
    rw [if_pos (show nI 0 = 0 from rfl)]
    exact mR_fails (by omega) g1 fun s' f' e' => hK s' (frN_t (frN_w F1 (by simp) (by simp)) (frN_w f' (by simp) (by simp))) e'
end
