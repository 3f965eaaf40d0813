/-! the class reads clauses, weighs and lays out a city -/
section
variable {d c : Nat} {T : Txt} {s : Mem}
theorem tb_shl {x : Int32} {k j : Nat} (hk : k < 32) (hj : j < 32) : tb (x <<< (nI k &&& nI 31)) j = (decide (k ≤ j) && tb x (j - k)) := by
  unfold tb
  rw [← BitVec.testBit_toNat, pk_shl x (nI k &&& nI 31) k (sm32 k hk), Nat.testBit_mod_two_pow, decide_eq_true hj, Bool.true_and, Nat.mul_comm, Nat.testBit_two_pow_mul, ← BitVec.testBit_toNat]
theorem FB_f {t : Mem} {L : List Nat} {f : Nat} (h1 : 1 ∉ L) (h2 : 2 ∉ L) (hf : frm L s t) (h : FB T f s) : FB T f t := by
  rcases h with h | ⟨p, a, b⟩
  · exact Or.inl (TpB_f h1 h2 hf h)
  · exact Or.inr ⟨p, TpG_f h1 h2 hf a, b⟩
theorem CK_w {t : Mem} {r : Sum Nat (Nat × RawC)} {K : Mem → Prop} (h : CK T c r s K) (f : fC c s t) : CK T c r t K := by
  cases r with
  | inl e => exact fun s' f' g => h s' (frm_t f f') g
  | inr x => exact fun s' p f' g => h s' p (frm_t f f') g
theorem c_readClause (hT : TxOk T) (hcc : isC c) (hst : STA s) {K : Mem → Prop} (hd : 7 ≤ d) {r : RawC} {p : Nat} (hg : TpG T p s) (hp : p ≤ T.2) (hD : DC c r s) (hr : RawOk r) (hK : CK T c (clauC T p r) s K) : wV (wp d) m_C_readClause [.ref c, .ref 1] s K := by
  have h160 := hT.1
  have hL := C_le hcc
  have c3 : 3 ≤ c := by rcases hcc with rfl | rfl <;> omega
  have hb := C_b hcc
  obtain ⟨d, rfl⟩ : ∃ e, d = e + 1 := ⟨d - 1, by omega⟩
  have k1 := sk_ge (T := T) (p := p)
  have k2 := sk_le hp
  rw [e_C_readClause]
  refine c_next hT (by omega) hg hp fun s1 f1 g1 => ?_
  simp only [hb, cond_true]
  have D1 : DC c r s1 := DC_f hD f1 ⟨by simp only [List.mem_cons, List.not_mem_nil, or_false]; omega, by simp only [List.mem_cons, List.not_mem_nil, or_false]; omega, by simp only [List.mem_cons, List.not_mem_nil, or_false]; omega, by simp only [List.mem_cons, List.not_mem_nil, or_false]; omega⟩
  have st1 : STA s1 := STA_f hst f1 (fun a z => by simp only [List.mem_cons, List.not_mem_nil, or_false] at z; omega)
  have F1 : fC c s s1 := frm_w f1 (by simp)
  have key : ∀ x, x < 256 → (sg T (sk T p) = nI x) = (isS T (sk T p) x = true) := fun x hx => sg_e hT hx
  have ref : clauC T p r = .inl (sk T p) → wV (wp d) m_T_refuse [.ref 1] s1 (fun s' => K s') := by
    intro e
    rw [e] at hK
    exact c_refuse hT (by omega) g1 k2 fun s2 f2 g2 => hK s2 (frm_t F1 (frm_w f2 (by simp))) (Or.inl g2)
  have r1 := hr.1
  have r3 := hr.2.2.1
  by_cases z1 : isS T (sk T p) 108 = true
  · have e1 := (isS_lt z1).2
    rw [if_pos (show sg T (sk T p) = 108 from (key 108 (by decide)).mpr z1)]
    by_cases hR : rR r < 4
    · rw [D1.1, if_pos (show nI (rR r) < 4 by rw [show (4 : Int32) = nI 4 from rfl, nI_ltI (by omega) (by omega)]; exact hR)]
      refine c_pass hT (by omega) g1 (isS_lt z1).1 fun s2 f2 g2 => ?_
      refine c_readRow hT hcc (by omega) g2 (by have := (isS_lt z1).1; omega) (DC_f D1 f2 ⟨by simp only [List.mem_cons, List.not_mem_nil, or_false]; omega, by simp only [List.mem_cons, List.not_mem_nil, or_false]; omega, by simp only [List.mem_cons, List.not_mem_nil, or_false]; omega, by simp only [List.mem_cons, List.not_mem_nil, or_false]; omega⟩) hR ?_
      rw [show clauC T p r = bnd (rowF T 5 (sk T p + 1) 0 (fun _ => false)) fun p' x => .inr (p', addRow r x) from if_pos ⟨z1, hR⟩] at hK
      exact CK_w hK (frm_t F1 (frm_w f2 (by simp)))
    · rw [D1.1, if_neg (show ¬ nI (rR r) < 4 by rw [show (4 : Int32) = nI 4 from rfl, nI_ltI (by omega) (by omega)]; exact hR)]
      have n2 : ¬ isS T (sk T p) 115 = true := fun z => by have := (isS_lt z).2; omega
      have n3 : ¬ isS T (sk T p) 100 = true := fun z => by have := (isS_lt z).2; omega
      rw [if_neg (show ¬ sg T (sk T p) = 115 from fun z => n2 ((key 115 (by decide)).mp z)), if_neg (show ¬ sg T (sk T p) = 100 from fun z => n3 ((key 100 (by decide)).mp z))]
      exact ref ((if_neg (fun z => hR z.2)).trans ((if_neg (fun z => n2 z.1)).trans (if_neg (fun z => n3 z.1))))
  rw [if_neg (show ¬ sg T (sk T p) = 108 from fun z => z1 ((key 108 (by decide)).mp z))]
  by_cases z2 : isS T (sk T p) 115 = true
  · have e1 := (isS_lt z2).2
    rw [if_pos (show sg T (sk T p) = 115 from (key 115 (by decide)).mpr z2)]
    by_cases hS : rS r < 6
    · rw [D1.2.1, if_pos (show nI (rS r) < 6 by rw [q6, nI_ltI (by omega) (by omega)]; exact hS)]
      refine c_pass hT (by omega) g1 (isS_lt z2).1 fun s2 f2 g2 => ?_
      have D2 : DC c r s2 := DC_f D1 f2 ⟨by simp only [List.mem_cons, List.not_mem_nil, or_false]; omega, by simp only [List.mem_cons, List.not_mem_nil, or_false]; omega, by simp only [List.mem_cons, List.not_mem_nil, or_false]; omega, by simp only [List.mem_cons, List.not_mem_nil, or_false]; omega⟩
      have st2 : STA s2 := STA_f st1 f2 (fun a z => by simp only [List.mem_cons, List.not_mem_nil, or_false] at z; omega)
      rw [show clauC T p r = bnd (itemsF T true 6 (sk T p + 1) (fun _ => false) itU) fun p' v => .inr (p', addSrc r v) from (if_neg (fun z => z1 z.1)).trans (if_pos ⟨z2, hS⟩)] at hK
      obtain ⟨d0, d2, d3, dr, di, du, dd⟩ := D2
      rw [d2]
      have F2 : fC c s s2 := frm_t F1 (frm_w f2 (by simp))
      refine c_readItems (K := fun s58 => K (upM s58 c 2 ((s58 c 2) + 1))) (src := true) (v0 := itU) hT hcc st2 (by omega) (by omega) g2 (by have := (isS_lt z2).1; omega) (fun j _ hj => du (rS r) j (Nat.le_refl _) hS (by have : itZ true = 5 := rfl; omega)) ?_
      show IK T c (rS r) true (itemsF T true 6 (sk T p + 1) (fun _ => false) itU) s2 _
      revert hK
      cases itemsF T true 6 (sk T p + 1) (fun _ => false) itU with
      | inl f =>
        intro hK s3 f3 g3
        exact hK _ (frm_t F2 (frm_t (frm_w f3 (by simp)) (frm_u (by simp)))) (FB_f (L := [c]) (by simp; omega) (by simp; omega) (frm_u (by simp)) g3)
      | inr x =>
        intro hK s3 q f3 g3 hq hsk hv hout
        have u0 : s3 c = s2 c := f3 c (by simp only [List.mem_cons, List.not_mem_nil, or_false]; omega)
        have u1 : s3 (c + 1) = s2 (c + 1) := f3 (c + 1) (by simp only [List.mem_cons, List.not_mem_nil, or_false]; omega)
        have u2 : s3 (c + 2) = s2 (c + 2) := f3 (c + 2) (by simp only [List.mem_cons, List.not_mem_nil, or_false]; omega)
        have iA : itA true = 0 := rfl
        have iZ : itZ true = 5 := rfl
        rw [iA, iZ] at hv hout
        rw [u0, d2, show nI (rS r) + 1 = nI (rS r + 1) from nI_add _ 1]
        refine hK _ q (frm_t F2 (frm_t (frm_w f3 (by simp)) (frm_u (by simp)))) (TpG_f (L := [c]) (by simp; omega) (by simp; omega) (frm_u (by simp)) g3) hq hsk ⟨?_, up_at, ?_, fun k hk => ?_, fun k j hk hj => ?_, fun k j hk hk6 hj => ?_, ?_⟩
        · rw [up_pl (by decide), u0]; exact d0
        · rw [up_pl (by decide), u0]; exact d3
        · rw [up_ce (by omega), up_ce (by omega), u1, u2]; exact dr k hk
        · have hk' : k < rS r + 1 := hk
          rw [up_ce (by omega)]
          show _ = nI ((if k = rS r then x.2 else rI r k) j)
          by_cases e : k = rS r
          · rw [if_pos e, e]; exact hv j (by omega) (by omega)
          · rw [if_neg e, hout _ (by omega)]; exact di k j (by omega) hj
        · have hk' : rS r + 1 ≤ k := hk
          rw [up_ce (by omega), hout _ (by omega)]; exact du k j (by omega) hk6 hj
        · rw [up_ce (by omega), hout _ (by omega)]; exact dd
    · rw [D1.2.1, if_neg (show ¬ nI (rS r) < 6 by rw [q6, nI_ltI (by omega) (by omega)]; exact hS)]
      have n3 : ¬ isS T (sk T p) 100 = true := fun z => by have := (isS_lt z).2; omega
      rw [if_neg (show ¬ sg T (sk T p) = 100 from fun z => n3 ((key 100 (by decide)).mp z))]
      exact ref ((if_neg (fun z => z1 z.1)).trans ((if_neg (fun z => hS z.2)).trans (if_neg (fun z => n3 z.1))))
  rw [if_neg (show ¬ sg T (sk T p) = 115 from fun z => z2 ((key 115 (by decide)).mp z))]
  by_cases z3 : isS T (sk T p) 100 = true
  · rw [if_pos (show sg T (sk T p) = 100 from (key 100 (by decide)).mpr z3), D1.2.2.1, ifb]
    by_cases hH : rH r = false
    · rw [if_neg (by rw [hH]; decide)]
      refine c_pass hT (by omega) g1 (isS_lt z3).1 fun s2 f2 g2 => ?_
      have D2 : DC c r s2 := DC_f D1 f2 ⟨by simp only [List.mem_cons, List.not_mem_nil, or_false]; omega, by simp only [List.mem_cons, List.not_mem_nil, or_false]; omega, by simp only [List.mem_cons, List.not_mem_nil, or_false]; omega, by simp only [List.mem_cons, List.not_mem_nil, or_false]; omega⟩
      have st2 : STA s2 := STA_f st1 f2 (fun a z => by simp only [List.mem_cons, List.not_mem_nil, or_false] at z; omega)
      rw [show clauC T p r = bnd (itemsF T false 1 (sk T p + 1) (fun _ => false) (fun _ => rD r)) fun p' v => .inr (p', addDul r v) from (if_neg (fun z => z1 z.1)).trans ((if_neg (fun z => z2 z.1)).trans (if_pos ⟨z3, hH⟩))] at hK
      obtain ⟨d0, d2, d3, dr, di, du, dd⟩ := D2
      have F2 : fC c s s2 := frm_t F1 (frm_w f2 (by simp))
      have iA : itA false = 6 := rfl
      have iZ : itZ false = 6 := rfl
      have dd6 : ∀ j, itA false ≤ j → j ≤ itZ false → s2 (c + 3) (7 * 6 + j) = nI (rD r) := by
        intro j h1 h2
        have : j = 6 := by omega
        subst this
        exact dd
      refine c_readItems (K := fun s58 => K (upM s58 c 3 ((s58 c 3) + 1))) (src := false) (cl := 6) (v0 := fun _ => rD r) hT hcc st2 (by omega) (by omega) g2 (by have := (isS_lt z3).1; omega) dd6 ?_
      show IK T c 6 false (itemsF T false 1 (sk T p + 1) (fun _ => false) (fun _ => rD r)) s2 _
      revert hK
      cases itemsF T false 1 (sk T p + 1) (fun _ => false) (fun _ => rD r) with
      | inl f =>
        intro hK s3 f3 g3
        exact hK _ (frm_t F2 (frm_t (frm_w f3 (by simp)) (frm_u (by simp)))) (FB_f (L := [c]) (by simp; omega) (by simp; omega) (frm_u (by simp)) g3)
      | inr x =>
        intro hK s3 q f3 g3 hq hsk hv hout
        have u0 : s3 c = s2 c := f3 c (by simp only [List.mem_cons, List.not_mem_nil, or_false]; omega)
        have u1 : s3 (c + 1) = s2 (c + 1) := f3 (c + 1) (by simp only [List.mem_cons, List.not_mem_nil, or_false]; omega)
        have u2 : s3 (c + 2) = s2 (c + 2) := f3 (c + 2) (by simp only [List.mem_cons, List.not_mem_nil, or_false]; omega)
        rw [iA, iZ] at hv hout
        rw [u0, d3, hH]
        refine hK _ q (frm_t F2 (frm_t (frm_w f3 (by simp)) (frm_u (by simp)))) (TpG_f (L := [c]) (by simp; omega) (by simp; omega) (frm_u (by simp)) g3) hq hsk ⟨?_, ?_, ?_, fun k hk => ?_, fun k j hk hj => ?_, fun k j hk hk6 hj => ?_, ?_⟩
        · rw [up_pl (by decide), u0]; exact d0
        · rw [up_pl (by decide), u0]; exact d2
        · rw [up_at]; rfl
        · rw [up_ce (by omega), up_ce (by omega), u1, u2]; exact dr k hk
        · have hk' : k < rS r := hk
          rw [up_ce (by omega), hout _ (by omega)]; exact di k j hk hj
        · rw [up_ce (by omega), hout _ (by omega)]; exact du k j hk hk6 hj
        · rw [up_ce (by omega)]; exact hv 6 (by omega) (by omega)
    · rw [if_pos (by cases h : rH r; exact absurd h hH; rfl)]
      exact ref ((if_neg (fun z => z1 z.1)).trans ((if_neg (fun z => z2 z.1)).trans (if_neg (fun z => hH z.2))))
  rw [if_neg (show ¬ sg T (sk T p) = 100 from fun z => z3 ((key 100 (by decide)).mp z))]
  exact ref ((if_neg (fun z => z1 z.1)).trans ((if_neg (fun z => z2 z.1)).trans (if_neg (fun z => z3 z.1))))
theorem c_placeX (hcc : isC c) {K : Int32 → Mem → Prop} (hd : 1 ≤ d) {R C r k : Nat} (h0 : s c 0 = nI R) (h1 : s c 1 = nI C) (hR : R < 100) (hC : C < 100) (hr : r < 100) (hk : k < 100) : wI (wp d) m_C_placeAt [.ref c, .int (nI r), .int (nI k)] s K = K (if r < R ∧ k < C then nI (r * C + k) else m1) s := by
  obtain ⟨d, rfl⟩ : ∃ e, d = e + 1 := ⟨d - 1, by omega⟩
  rw [e_C_placeAt, C_b hcc]
  simp only [cond_true, h0, h1]
  simp (disch := omega) only [↓n_m1, ↓n_hid, q0, q1, q2, q3, q4, q5, q6, q7, q8, q9, q10, q11, q12, q13, q14, q15, q16, q17, q18, q19, q20, q21, q22, q23, q24, q25, q26, q27, q28, q29, q30, q31, q32, q33, q34, q35, q36, q37, q38, q39, q40, q41, q42, q43, q44, q45, q46, q47, q48, q49, q50, q51, q52, q53, q54, q55, q56, q57, q58, q59, q61, q62, q63, q64, q66, q67, q68, q69, q70, q71, q91, q93, q99, q100, q102, q104, q107, q108, q112, q114, q115, q119, q121, q124, q160, q200, q255, q640, q999, q1000, q2000, q4096, n_of, nI_ltI, nI_leI, nI_eq, nI_clamp, nI_add, pk_mul, n_sub, m1_eq, m1_eq2, m1_lt, m1_lt2, gdN, Nat.not_lt_zero, false_or, if_true, if_false, if_pos, if_neg, cond_true, cond_false, beq_self, and_self, true_and, and_true, not_true_eq_false, not_false_eq_true, ne_eq, Nat.not_lt_zero, if_false]
  by_cases h3 : r < R
  · by_cases h4 : k < C
    · rw [if_pos h3, if_pos h4, if_pos ⟨h3, h4⟩]
    · rw [if_pos h3, if_neg h4, if_neg (fun z => h4 z.2)]
  · rw [if_neg h3, if_neg (fun z => h3 z.1)]
theorem c_streetX (hcc : isC c) {K : Int32 → Mem → Prop} (hd : 1 ≤ d) {q : Nat} (hq : q < 32) : wI (wp d) m_C_isStreet [.ref c, .int (nI q)] s K = K (b01 (tb (s c 4) q)) s := by
  obtain ⟨d, rfl⟩ : ∃ e, d = e + 1 := ⟨d - 1, by omega⟩
  rw [e_C_isStreet, C_b hcc]
  simp only [cond_true, q31, q1, q0, sh_b hq, b01_0]
  cases tb (s c 4) q <;> simp [b01]
theorem mul_le20 {a b x y : Nat} (h : a ≤ x) (h2 : b ≤ y) : a * b ≤ x * y := Nat.mul_le_mul h h2
theorem dm_of {W i m : Nat} (hm : m < W) : (i * W + m) / W = i ∧ (i * W + m) % W = m := by
  have hW : 0 < W := by omega
  rw [Nat.mul_comm, Nat.mul_add_div hW, Nat.mul_add_mod, Nat.div_eq_of_lt hm, Nat.mod_eq_of_lt hm]
  exact ⟨rfl, rfl⟩
/-- whether rows, streets and sources make a city -/
theorem c_isWhole (hcc : isC c) {K : Int32 → Mem → Prop} (hd : 5 ≤ d) {r : RawC} (hD : DC c r s) (hr : RawOk r)
    (hK : ∀ s', frm [c] s s' → (∀ k, k ≠ 1 → k ≠ 4 → s' c k = s c k) → (whoC r = true → s' c 1 = nI (rW r 0) ∧ ∀ k, k < 32 → tb (s' c 4) k = (decide (k < gN (gph r)) && gst (gph r) k)) → K (b01 (whoC r)) s') : wI (wp d) m_C_isWhole [.ref c] s K := by
  have hL := C_le hcc
  have hb := C_b hcc
  have h1 := C_s1 hcc
  have h2 := C_s2 hcc
  have h3 := C_s3 hcc
  obtain ⟨d0, d2, d3, dr, di, du, dd⟩ := hD
  obtain ⟨r1, r2, r3, r4, r5⟩ := hr
  obtain ⟨d, rfl⟩ : ∃ e, d = e + 3 := ⟨d - 3, by omega⟩
  rw [e_C_isWhole]
  simp only [hb, cond_true]
  rw [show (0 : Int32) = nI 0 from rfl, c_at (d := d + 1) (by rw [h1]) (by rw [h1]; decide)]
  -- the sources
  have lS : whoC r = false ∨ 0 < rR r → ∀ (n i : Nat) (t : Mem) (v : Value), i + n = rS r → frm [c] s t → (∀ k, k ≠ 1 → k ≠ 4 → t c k = s c k) →
      (0 < rR r → t c 1 = nI (rW r 0) ∧ (∀ k, k < rR r → rW r k = rW r 0) ∧ ∀ k, k < 32 → tb (t c 4) k = (decide (k < gN (gph r)) && gst (gph r) k)) → (∀ k, k < i → 0 < rR r ∧ rI r k 1 < rR r ∧ rI r k 2 < rW r 0 ∧ rT r (rI r k 1) (rI r k 2) = true) →
      RnI (d + 2) m_C_isWhole K 76 [.ref c, .int (nI i), v] [] t := by
    intro _ n
    induction n with
    | zero =>
      intro i t v hi hf hk h0 hs
      obtain rfl : i = rS r := by omega
      rw [r_C_isWhole_76]
      simp only [hb, cond_true]
      rw [hk 2 (by decide) (by decide), d2, if_neg (show ¬ nI (rS r) < nI (rS r) by rw [nI_ltI (by omega) (by omega)]; omega), hk 0 (by decide) (by decide), d0]
      by_cases z : 0 < rR r
      · obtain ⟨a1, a2, a3⟩ := h0 z
        rw [if_pos (show (0 : Int32) < nI (rR r) by rw [q0, nI_ltI (by omega) (by omega)]; exact z)]
        by_cases zs : 0 < rS r
        · rw [if_pos (show (0 : Int32) < nI (rS r) by rw [q0, nI_ltI (by omega) (by omega)]; exact zs)]
          have hw : whoC r = true := decide_eq_true ⟨z, zs, a2, fun k hk => (hs k hk).2⟩
          have := hK t hf hk (fun _ => ⟨a1, a3⟩)
          rw [hw] at this
          rw [if_neg ?_]
          · exact this
          · intro e
            obtain ⟨b1, b2, b3⟩ := (hs 0 zs).2
            have hW := r2 0 z
            have hN : rI r 0 1 * rW r 0 + rI r 0 2 < gN (gph r) := by
              show _ < rR r * rW r 0
              have : (rI r 0 1 + 1) * rW r 0 ≤ rR r * rW r 0 := Nat.mul_le_mul_right _ b1
              rw [Nat.add_mul] at this
              omega
            have hN20 : gN (gph r) ≤ 20 := mul_le20 r1 hW.2
            have := a3 (rI r 0 1 * rW r 0 + rI r 0 2) (by omega)
            rw [e, show (0 : Int32) = nI 0 from rfl, tb_0, decide_eq_true hN, Bool.true_and] at this
            have e2 : gst (gph r) (rI r 0 1 * rW r 0 + rI r 0 2) = rT r (rI r 0 1) (rI r 0 2) := by
              show rT r ((rI r 0 1 * rW r 0 + rI r 0 2) / rW r 0) ((rI r 0 1 * rW r 0 + rI r 0 2) % rW r 0) = _
              rw [(dm_of b2).1, (dm_of b2).2]
            rw [e2, b3] at this
            simp at this
        · rw [if_neg (show ¬ (0 : Int32) < nI (rS r) by rw [q0, nI_ltI (by omega) (by omega)]; exact zs)]
          have hw : whoC r = false := decide_eq_false fun h => zs h.2.1
          have := hK t hf hk (fun h => by rw [hw] at h; simp at h)
          rw [hw] at this
          exact this
      · rw [if_neg (show ¬ (0 : Int32) < nI (rR r) by rw [q0, nI_ltI (by omega) (by omega)]; exact z)]
        have hw : whoC r = false := decide_eq_false fun h => z h.1
        have := hK t hf hk (fun h => by rw [hw] at h; simp at h)
        rw [hw] at this
        exact this
    | succ n ih =>
      intro i t v hi hf hk h0 hs
      have bad : ¬ (0 < rR r ∧ rI r i 1 < rR r ∧ rI r i 2 < rW r 0 ∧ rT r (rI r i 1) (rI r i 2) = true) → K 0 t := by
        intro z
        have hw : whoC r = false := decide_eq_false fun h => z ⟨h.1, h.2.2.2 i (by omega)⟩
        have := hK t hf hk (fun h => by rw [hw] at h; simp at h)
        rw [hw] at this
        exact this
      have ei : ∀ j, j < 6 → t (c + 3) (i * 7 + j) = nI (rI r i j) := fun j hj => by
        rw [hf (c + 3) (by simp), Nat.mul_comm]; exact di i j (by omega) hj
      have i1 := r4 i 1 (by omega) (by decide)
      have i2 := r4 i 2 (by omega) (by decide)
      have hi1 : itHi 1 = 3 := rfl
      have hi2 : itHi 2 = 4 := rfl
      obtain ⟨d, rfl⟩ : ∃ e, d = e + 2 := ⟨d - 2, by omega⟩
      rw [r_C_isWhole_76]
      simp only [hb, cond_true]
      rw [hk 2 (by decide) (by decide), d2, if_pos (show nI i < nI (rS r) by rw [nI_ltI (by omega) (by omega)]; omega), e_C_sourcePlace, hb]
      simp only [cond_true]
      rw [e_C_item, hb]
      simp only [cond_true]
      rw [show nI i * 7 + 1 = nI (i * 7 + 1) by rw [show (7 : Int32) = nI 7 from rfl, pk_mul]; exact nI_add _ 1, c_at (d := d + 1) (by rw [h3]) (by rw [h3]; show i * 7 + 1 < 49; omega), ei 1 (by decide)]
      rw [e_C_item, hb]
      simp only [cond_true]
      rw [show nI i * 7 + 2 = nI (i * 7 + 2) by rw [show (7 : Int32) = nI 7 from rfl, pk_mul]; exact nI_add _ 2, c_at (d := d + 1) (by rw [h3]) (by rw [h3]; show i * 7 + 2 < 49; omega), ei 2 (by decide)]
      by_cases z : 0 < rR r
      · obtain ⟨a1, a2, a3⟩ := h0 z
        have hW := r2 0 z
        rw [c_placeX hcc (by omega) ((hk 0 (by decide) (by decide)).trans d0) a1 (by omega) (by omega) (by omega) (by omega)]
        by_cases zz : rI r i 1 < rR r ∧ rI r i 2 < rW r 0
        · have hN : rI r i 1 * rW r 0 + rI r i 2 < gN (gph r) := by
            show _ < rR r * rW r 0
            have : (rI r i 1 + 1) * rW r 0 ≤ rR r * rW r 0 := Nat.mul_le_mul_right _ zz.1
            rw [Nat.add_mul] at this
            omega
          have hN20 : gN (gph r) ≤ 20 := mul_le20 r1 hW.2
          have e2 : gst (gph r) (rI r i 1 * rW r 0 + rI r i 2) = rT r (rI r i 1) (rI r i 2) := by
            show rT r ((rI r i 1 * rW r 0 + rI r i 2) / rW r 0) ((rI r i 1 * rW r 0 + rI r i 2) % rW r 0) = _
            rw [(dm_of zz.2).1, (dm_of zz.2).2]
          rw [if_pos zz, if_neg (show ¬ nI (rI r i 1 * rW r 0 + rI r i 2) = -1 from fun z => by rw [n_m1, m1_eq (by omega)] at z; exact z), c_streetX hcc (by omega) (by omega), a3 _ (by omega), decide_eq_true hN, Bool.true_and, e2, ifb]
          by_cases zt : rT r (rI r i 1) (rI r i 2) = true
          · rw [if_pos zt, show nI i + 1 = nI (i + 1) from nI_add i 1]
            refine ih (i + 1) t _ (by omega) hf hk h0 fun k hk2 => ?_
            by_cases e : k = i
            · rw [e]; exact ⟨z, zz.1, zz.2, zt⟩
            · exact hs k (by omega)
          · rw [if_neg zt]
            exact bad fun h => zt h.2.2.2
        · rw [if_neg zz, if_pos (show m1 = -1 from rfl)]
          exact bad fun h => zz ⟨h.2.1, h.2.2.1⟩
      · rw [e_C_placeAt, hb]
        simp only [cond_true]
        rw [hk 0 (by decide) (by decide), d0, if_neg (show ¬ nI (rI r i 1) < 0 by rw [q0, nI_ltI (by omega) (by omega)]; omega), if_neg (show ¬ nI (rI r i 1) < nI (rR r) by rw [nI_ltI (by omega) (by omega)]; omega), if_pos trivial]
        exact bad fun h => z h.1
  -- the rows
  have lR : ∀ (n i : Nat) (t : Mem) (v : Value), i + n = rR r → frm [c] s t → (∀ k, k ≠ 1 → k ≠ 4 → t c k = s c k) →
      (0 < rR r → t c 1 = nI (rW r 0) ∧ (∀ k, k < i → rW r k = rW r 0) ∧ ∀ k, k < 32 → tb (t c 4) k = (decide (k < i * rW r 0) && gst (gph r) k)) →
      RnI (d + 2) m_C_isWhole K 19 [.ref c, .int (nI i), v] [] t := by
    intro n
    induction n with
    | zero =>
      intro i t v hi hf hk h0
      obtain rfl : i = rR r := by omega
      rw [r_C_isWhole_19]
      simp only [hb, cond_true]
      rw [hk 0 (by decide) (by decide), d0, if_neg (show ¬ nI (rR r) < nI (rR r) by rw [nI_ltI (by omega) (by omega)]; omega), show (0 : Int32) = nI 0 from rfl]
      refine lS ?_ (rS r) 0 t _ (by omega) hf hk h0 (fun k hk => absurd hk (Nat.not_lt_zero k))
      by_cases z : 0 < rR r
      · exact Or.inr z
      · exact Or.inl (decide_eq_false fun h => z h.1)
    | succ n ih =>
      intro i t v hi hf hk h0
      have z : 0 < rR r := by omega
      obtain ⟨a1, a2, a3⟩ := h0 z
      have hW := r2 0 z
      have hWi := r2 i (by omega)
      have hiW : i * rW r 0 ≤ 15 := mul_le20 (show i ≤ 3 by omega) hW.2
      rw [r_C_isWhole_19]
      simp only [hb, cond_true]
      rw [hk 0 (by decide) (by decide), d0, if_pos (show nI i < nI (rR r) by rw [nI_ltI (by omega) (by omega)]; omega), c_at (d := d + 1) (by rw [h1]) (by rw [h1]; show i < 4; omega), hf (c + 1) (by simp), (dr i (by omega)).1, a1]
      by_cases e : rW r i = rW r 0
      · rw [if_pos (by rw [e]), c_at (d := d + 1) (by rw [h2]) (by rw [h2]; show i < 4; omega), hf (c + 2) (by simp), (dr i (by omega)).2, a1, e, pk_mul, show nI i + 1 = nI (i + 1) from nI_add i 1]
        refine ih (i + 1) _ _ (by omega) (frm_t hf (frm_u (by simp))) (fun k k1 k4 => by rw [up_pl k4]; exact hk k k1 k4) fun _ => ⟨by rw [up_pl (by decide)]; exact a1, fun k hk2 => ?_, fun k hk2 => ?_⟩
        · by_cases ek : k = i
          · rw [ek]; exact e
          · exact a2 k (by omega)
        · rw [up_at, tb_or, a3 k hk2, show (31 : Int32) = nI 31 from rfl, tb_shl (by omega) hk2, tb_bits (by omega), Nat.add_mul, Nat.one_mul]
          by_cases k1 : k < i * rW r 0
          · rw [decide_eq_true k1, decide_eq_false (show ¬ i * rW r 0 ≤ k by omega), decide_eq_true (show k < i * rW r 0 + rW r 0 by omega), Bool.false_and, Bool.or_false]
          · rw [decide_eq_false k1, decide_eq_true (show i * rW r 0 ≤ k by omega), Bool.false_and, Bool.false_or, Bool.true_and]
            by_cases k2 : k < i * rW r 0 + rW r 0
            · rw [decide_eq_true k2, decide_eq_true (show k - i * rW r 0 < rW r 0 by omega), Bool.true_and, Bool.true_and]
              obtain ⟨m, rfl⟩ : ∃ m, k = i * rW r 0 + m := ⟨k - i * rW r 0, by omega⟩
              show _ = rT r ((i * rW r 0 + m) / rW r 0) ((i * rW r 0 + m) % rW r 0)
              rw [(dm_of (show m < rW r 0 by omega)).1, (dm_of (show m < rW r 0 by omega)).2, Nat.add_sub_cancel_left]
            · rw [decide_eq_false k2, decide_eq_false (show ¬ k - i * rW r 0 < rW r 0 by omega)]; rfl
      · rw [if_neg (show ¬ nI (rW r i) = nI (rW r 0) by rw [nI_eq (by omega) (by omega)]; exact e)]
        have hw : whoC r = false := decide_eq_false fun h => e (h.2.2.1 i (by omega))
        have := hK t hf hk (fun h => by rw [hw] at h; simp at h)
        rw [hw] at this
        exact this
  refine lR (rR r) 0 _ _ (by omega) (frm_t (frm_u (by simp)) (frm_u (by simp))) (fun k k1 k4 => by rw [up_pl k4, up_pl k1]) fun z => ⟨?_, fun k hk => absurd hk (Nat.not_lt_zero k), fun k hk => ?_⟩
  · rw [up_pl (by decide), up_at]; exact (dr 0 z).1
  · rw [up_at, tb_0, Nat.zero_mul, decide_eq_false (Nat.not_lt_zero k), Bool.false_and]
end
