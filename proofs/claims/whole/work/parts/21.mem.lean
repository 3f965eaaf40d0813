/-! PURE: memories; reading and writing by at() and put() -/
theorem up_at {s : Mem} {a k : Nat} {x : Int32} : upM s a k x a k = x := by simp [upM]
theorem up_ce {s : Mem} {a b k : Nat} {x : Int32} (h : b ≠ a) : upM s a k x b = s b := by funext j; simp [upM, h]
theorem up_pl {s : Mem} {a k j : Nat} {x : Int32} (h : j ≠ k) : upM s a k x a j = s a j := by simp [upM, h]
/-- nothing else but the cells of L may differ -/
def frm (L : List Nat) (s t : Mem) : Prop := ∀ a, a ∉ L → t a = s a
theorem frm_r {L : List Nat} {s : Mem} : frm L s s := fun _ _ => rfl
theorem frm_t {L : List Nat} {s t u : Mem} (h : frm L s t) (h2 : frm L t u) : frm L s u := fun a ha => (h2 a ha).trans (h a ha)
theorem frm_w {L L' : List Nat} {s t : Mem} (h : frm L s t) (hl : ∀ a, a ∈ L → a ∈ L') : frm L' s t := fun a ha => h a fun z => ha (hl a z)
theorem frm_u {L : List Nat} {s : Mem} {a k : Nat} {x : Int32} (h : a ∈ L) : frm L s (upM s a k x) := fun b hb => up_ce fun e => hb (e ▸ h)
theorem frm_c {L : List Nat} {s : Mem} {b p a q n : Nat} (h : a ∈ L) : frm L s (cpM s b p a q n) := fun b hb => by
  have e : ¬ b = a := fun e => hb (e ▸ h)
  funext j
  unfold cpM
  rw [if_neg e]
theorem shp_le (k : Nat) : (shp k).2 ≤ 4096 := by
  by_cases h : k < 1014
  · have := List.all_eq_true.mp (show (List.range 1014).all (fun k => Nat.ble (shp k).2 4096) = true by decide +kernel) k (List.mem_range.mpr h)
    exact Nat.le_of_ble_eq_true this
  · have e : shp k = (99, 0) := by
      unfold shp
      rw [show Nat.ble k 1013 = false from by
        rw [← Bool.not_eq_true]
        exact fun z => absurd (Nat.le_of_ble_eq_true z) (by omega)]
      rfl
    rw [e]; exact Nat.zero_le _
theorem c_at {d a k : Nat} {s : Mem} {K : Int32 → Mem → Prop} (ha : (shp a).1 = 20) (h : k < (shp a).2) : wI (wp (d + 1)) m_X_at [.ref a, .int (nI k)] s K = K (s a k) s := by
  have := shp_le a
  rw [e_X_at, ha]
  simp only [show (Nat.ble 20 20 && Nat.ble 20 24) = true from rfl, show Nat.beq 20 20 = true from rfl]
  simp (disch := omega) only [↓n_m1, ↓n_hid, q0, q1, q2, q3, q4, q5, q6, q7, q8, q9, q10, q11, q12, q13, q14, q15, q16, q17, q18, q19, q20, q21, q22, q23, q24, q25, q26, q27, q28, q29, q30, q31, q32, q33, q34, q35, q36, q37, q38, q39, q40, q41, q42, q43, q44, q45, q46, q47, q48, q49, q50, q51, q52, q53, q54, q55, q56, q57, q58, q59, q61, q62, q63, q64, q66, q67, q68, q69, q70, q71, q91, q93, q99, q100, q102, q104, q107, q108, q112, q114, q115, q119, q121, q124, q160, q200, q255, q640, q999, q1000, q2000, q4096, n_of, nI_ltI, nI_leI, nI_eq, nI_clamp, nI_add, pk_mul, n_sub, m1_eq, m1_eq2, m1_lt, m1_lt2, gdN, Nat.not_lt_zero, false_or, if_true, if_false, if_pos, if_neg, cond_true, cond_false, beq_self, and_self, true_and, and_true, not_true_eq_false, not_false_eq_true, ne_eq, Nat.not_lt_zero, h]
theorem c_put {d a k : Nat} {x : Int32} {s : Mem} {K : Mem → Prop} (ha : (shp a).1 = 20) (hle : a ≤ 999) (h : k < (shp a).2) : wV (wp (d + 1)) m_X_put [.ref a, .int (nI k), .int x] s K = K (upM s a k x) := by
  have := shp_le a
  rw [e_X_put, ha, show Nat.ble a 999 = true from Nat.ble_eq_true_of_le hle]
  simp only [show (Nat.ble 20 20 && Nat.ble 20 24) = true from rfl, show (Nat.beq 20 20 && true) = true from rfl]
  simp (disch := omega) only [↓n_m1, ↓n_hid, q0, q1, q2, q3, q4, q5, q6, q7, q8, q9, q10, q11, q12, q13, q14, q15, q16, q17, q18, q19, q20, q21, q22, q23, q24, q25, q26, q27, q28, q29, q30, q31, q32, q33, q34, q35, q36, q37, q38, q39, q40, q41, q42, q43, q44, q45, q46, q47, q48, q49, q50, q51, q52, q53, q54, q55, q56, q57, q58, q59, q61, q62, q63, q64, q66, q67, q68, q69, q70, q71, q91, q93, q99, q100, q102, q104, q107, q108, q112, q114, q115, q119, q121, q124, q160, q200, q255, q640, q999, q1000, q2000, q4096, n_of, nI_ltI, nI_leI, nI_eq, nI_clamp, nI_add, pk_mul, n_sub, m1_eq, m1_eq2, m1_lt, m1_lt2, gdN, Nat.not_lt_zero, false_or, if_true, if_false, if_pos, if_neg, cond_true, cond_false, beq_self, and_self, true_and, and_true, not_true_eq_false, not_false_eq_true, ne_eq, Nat.not_lt_zero, h]
/-- Math.max, min -/
theorem c_max {d : Nat} {x y : Int32} {s : Mem} {K : Int32 → Mem → Prop} : wI (wp (d + 1)) 910 [.int x, .int y] s K = K (if x < y then y else x) s := rfl
theorem c_min {d : Nat} {x y : Int32} {s : Mem} {K : Int32 → Mem → Prop} : wI (wp (d + 1)) 911 [.int x, .int y] s K = K (if y < x then y else x) s := rfl
theorem c_maxL {d : Nat} {x y : Int64} {s : Mem} {K : Int64 → Mem → Prop} : wL (wp (d + 1)) 912 [.long x, .long y] s K = K (if x < y then y else x) s := rfl
theorem c_minL {d : Nat} {x y : Int64} {s : Mem} {K : Int64 → Mem → Prop} : wL (wp (d + 1)) 913 [.long x, .long y] s K = K (if y < x then y else x) s := rfl
