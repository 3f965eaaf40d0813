/-! the class reads a whole city's text -/
section
variable {d c : Nat} {T : Txt} {s : Mem}
abbrev fT (c : Nat) (s t : Mem) : Prop := frm [1, c, c + 1, c + 2, c + 3, c + 4, c + 6] s t
def CTc (T : Txt) (c : Nat) (r : Sum Nat RawC) (s : Mem) (K : Int32 → Mem → Prop) : Prop := match r with
  | .inl f => ∀ s', fT c s s' → TpB T f s' → K (nI 0) s'
  | .inr x => ∀ s' p, fT c s s' → TpG T p s' → RawOk x → whoC x = true → CityC c (gph x) s' → (∀ k, k < 20 → s' (c + 6) k = nI 0) → s' (c + 3) 48 = nI (rD x) → K (nI 1) s'
theorem c_readFrom_l (hT : TxOk T) (hcc : isC c) (hd : 9 ≤ d) {K : Int32 → Mem → Prop} : ∀ (f p : Nat) (r : RawC) (i : Nat) (t : Mem), T.2 - p < f → i ≤ p → p ≤ T.2 → TpG T p t → DC c r t → RawOk r → STA t → (∀ k, k < 20 → t (c + 6) k = nI 0) → fT c s t → CTc T c (citL T f p r) s K → RnI d m_C_readFrom K 12 [.ref c, .ref 1, .int (nI 1), .int (nI i)] [] t := by
  have h160 := hT.1
  have hL := C_le hcc
  have c3 : 3 ≤ c := by rcases hcc with rfl | rfl <;> omega
  have hb := C_b hcc
  intro f
  induction f with
  | zero => intro p r i t h; omega
  | succ f ih =>
    intro p r i t hf hi hp hg hD hr hst h6 hfr hK
    rw [r_C_readFrom_12, if_neg (show ¬ nI 1 = 0 by decide), if_neg (show ¬ (160 : Int32) < nI i by rw [q160, nI_ltI (by omega) (by omega)]; omega), hb]
    simp only [cond_true]
    refine c_readClause hT hcc hst (by omega) hg hp hD hr ?_
    have hgr := clauC_G (T := T) hp hr
    have hK' : CTc T c (match clauC T p r with
      | .inl e => .inl e
      | .inr x => if isS T (sk T x.1) 59 = true then citL T f (sk T x.1 + 1) x.2 else if sk T x.1 < T.2 then .inl (sk T x.1) else if whoC x.2 = true then .inr x.2 else .inl T.2) s K := hK
    have wC : ∀ {x y : Mem}, fC c x y → fT c x y := fun h => frm_w h (by simp)
    have w1 : ∀ {x y : Mem}, frm [1] x y → fT c x y := fun h => frm_w h (by simp)
    revert hK' hgr
    cases clauC T p r with
    | inl e =>
      intro he hK' s1 f1 g1
      have he' : e ≤ T.2 := he
      have hK2 : ∀ s', fT c s s' → TpB T e s' → K (nI 0) s' := hK'
      rw [show (59 : Int32) = nI 59 from rfl]
      rcases g1 with g1 | ⟨p', g1, hp', hsk, hlt, hne⟩
      · refine b_take hT (by omega) (x := 59) (by decide) g1 fun s2 f2 g2 => ?_
        rw [r_C_readFrom_12, if_pos (show nI 0 = 0 from rfl)]
        refine b_next hT (by omega) g2 fun s3 f3 g3 => ?_
        rw [if_pos (show m1 = -1 from rfl), b_isRight hT (by omega) g3, if_pos (show nI 0 = 0 from rfl), b_isRight hT (by omega) g3, if_pos (show nI 0 = 0 from rfl)]
        exact hK2 s3 (frm_t hfr (frm_t (wC f1) (frm_t (w1 f2) (w1 f3)))) g3
      · refine c_take hT (by omega) (x := 59) (by decide) g1 hp' (fun hx => absurd (isS_lt hx).2 (by rw [hsk]; exact hne)) (fun hx s2 f2 g2 => ?_)
        rw [hsk] at g2
        rw [r_C_readFrom_12, if_pos (show nI 0 = 0 from rfl)]
        refine c_next hT (by omega) g2 he' fun s3 f3 g3 => ?_
        have hss : sk T e = e := by rw [← hsk, sk_sk]
        rw [hss] at g3 ⊢
        have hbt := (hT.2 _ hlt).2
        rw [show sg T e = nI (T.1 e) from if_pos hlt, if_neg (show ¬ nI (T.1 e) = -1 from fun z => by rw [n_m1, m1_eq (by omega)] at z; exact z)]
        refine c_refuse hT (by omega) g3 he' fun s4 f4 g4 => ?_
        rw [b_isRight hT (by omega) g4, if_pos (show nI 0 = 0 from rfl), b_isRight hT (by omega) g4, if_pos (show nI 0 = 0 from rfl)]
        exact hK2 s4 (frm_t hfr (frm_t (wC f1) (frm_t (w1 f2) (frm_t (w1 f3) (w1 f4))))) g4
    | inr x =>
      intro ⟨q1, q2, q3, q4⟩ hK' s1 p1 f1 g1 hp1 hsk D1
      have hK2 : CTc T c (if isS T (sk T x.1) 59 = true then citL T f (sk T x.1 + 1) x.2 else if sk T x.1 < T.2 then .inl (sk T x.1) else if whoC x.2 = true then .inr x.2 else .inl T.2) s K := hK'
      have k1 := sk_ge (T := T) (p := x.1)
      have k2 := sk_le q2
      have ex : sk T p1 = sk T x.1 := by rw [q3]; exact hsk
      have dc1 : ∀ {u v : Mem} {y : RawC}, frm [1] u v → DC c y u → DC c y v := fun h hd => DC_f hd h ⟨by simp only [List.mem_cons, List.not_mem_nil, or_false]; omega, by simp only [List.mem_cons, List.not_mem_nil, or_false]; omega, by simp only [List.mem_cons, List.not_mem_nil, or_false]; omega, by simp only [List.mem_cons, List.not_mem_nil, or_false]; omega⟩
      rw [show (59 : Int32) = nI 59 from rfl]
      have e61 : s1 (c + 6) = t (c + 6) := f1 (c + 6) (by simp only [List.mem_cons, List.not_mem_nil, or_false]; omega)
      refine c_take hT (by omega) (x := 59) (by decide) g1 hp1 (fun hx s2 f2 g2 => ?_) (fun hx s2 f2 g2 => ?_)
      · rw [ex] at hx g2
        have hlt := (isS_lt hx).1
        rw [if_pos hx] at hK2
        rw [show nI i + 1 = nI (i + 1) from nI_add i 1]
        refine ih (sk T x.1 + 1) x.2 (i + 1) s2 (by omega) (by omega) (by omega) g2 (dc1 f2 D1) q4 ?_ ?_ (frm_t hfr (frm_t (wC f1) (w1 f2))) hK2
        · exact STA_f hst (frm_t f1 (frm_w f2 (by simp))) (fun a z => by simp only [List.mem_cons, List.not_mem_nil, or_false] at z; omega)
        · intro k hk
          rw [f2 (c + 6) (by simp only [List.mem_cons, List.not_mem_nil, or_false]; omega), e61]; exact h6 k hk
      · rw [ex] at hx g2
        rw [if_neg (by rw [hx]; decide)] at hK2
        rw [r_C_readFrom_12, if_pos (show nI 0 = 0 from rfl)]
        refine c_next hT (by omega) g2 k2 fun s3 f3 g3 => ?_
        rw [sk_sk] at g3 ⊢
        have D3 := dc1 f3 (dc1 f2 D1)
        have fr3 : fT c s s3 := frm_t hfr (frm_t (wC f1) (frm_t (w1 f2) (w1 f3)))
        by_cases hlt : sk T x.1 < T.2
        · rw [if_pos hlt] at hK2
          have hbt := (hT.2 _ hlt).2
          rw [show sg T (sk T x.1) = nI (T.1 (sk T x.1)) from if_pos hlt, if_neg (show ¬ nI (T.1 (sk T x.1)) = -1 from fun z => by rw [n_m1, m1_eq (by omega)] at z; exact z)]
          refine c_refuse hT (by omega) g3 k2 fun s4 f4 g4 => ?_
          rw [b_isRight hT (by omega) g4, if_pos (show nI 0 = 0 from rfl), b_isRight hT (by omega) g4, if_pos (show nI 0 = 0 from rfl)]
          exact hK2 s4 (frm_t fr3 (w1 f4)) g4
        · rw [if_neg hlt] at hK2
          rw [show sg T (sk T x.1) = m1 from if_neg hlt, if_pos (show m1 = -1 from rfl), c_isRight (by omega) g3, if_neg (show ¬ nI 1 = 0 by decide), hb]
          simp only [cond_true]
          refine c_isWhole hcc (by omega) D3 q4 fun s4 f4 e4 hw4 => ?_
          have g4 : TpG T (sk T x.1) s4 := TpG_f (L := [c]) (by simp; omega) (by simp; omega) f4 g3
          have fr4 : fT c s s4 := frm_t fr3 (frm_w f4 (by simp))
          rw [ifb]
          by_cases hw : whoC x.2 = true
          · rw [if_pos hw] at hK2 ⊢
            obtain ⟨w1', w2'⟩ := hw4 hw
            obtain ⟨d0, d2, d3, dr, di, du, dd⟩ := D3
            have hr0 : 0 < rR x.2 := (of_decide_eq_true hw).1
            rw [c_isRight (by omega) g4, if_neg (show ¬ nI 1 = 0 by decide)]
            have st4 : STA s4 := STA_f hst (frm_t f1 (frm_t (frm_w f2 (by simp)) (frm_t (frm_w f3 (by simp)) (frm_w f4 (by simp))))) (fun a z => by simp only [List.mem_cons, List.not_mem_nil, or_false] at z; omega)
            refine c_layOut (g := gph x.2) hcc st4 (by omega) q4.1 (q4.2.1 0 hr0).2 ((e4 0 (by decide) (by decide)).trans d0) w1' w2' fun s5 f5 b5 => ?_
            have e5 : s5 c = s4 c := f5 c (by simp)
            have e53 : s5 (c + 3) = s3 (c + 3) := by rw [f5 (c + 3) (by simp), f4 (c + 3) (by simp)]
            refine hK2 s5 (sk T x.1) (frm_t fr4 (frm_w f5 (by simp))) (TpG_f (L := [c + 4]) (by simp only [List.mem_cons, List.not_mem_nil, or_false]; omega) (by simp only [List.mem_cons, List.not_mem_nil, or_false]; omega) f5 g4) q4 hw ⟨?_, ?_, ?_, ?_, ?_, b5⟩ ?_ ?_
            · rw [e5, e4 0 (by decide) (by decide)]; exact d0
            · rw [e5]; exact w1'
            · rw [e5, e4 2 (by decide) (by decide)]; exact d2
            · rw [e5]; exact w2'
            · intro k j hk hj; rw [e53]; exact di k j hk hj
            · intro k hk
              rw [f5 (c + 6) (by simp), f4 (c + 6) (by simp), f3 (c + 6) (by simp only [List.mem_cons, List.not_mem_nil, or_false]; omega), f2 (c + 6) (by simp only [List.mem_cons, List.not_mem_nil, or_false]; omega), e61]
              exact h6 k hk
            · rw [e53]; exact dd
          · rw [if_neg hw] at hK2 ⊢
            obtain ⟨d, rfl⟩ : ∃ e, d = e + 1 := ⟨d - 1, by omega⟩
            rw [e_T_refuseLength, g4.1]
            refine c_refuseAt (by omega) g4 k2 (Nat.le_refl _) fun s5 f5 g5 => ?_
            rw [b_isRight hT (by omega) g5, if_pos (show nI 0 = 0 from rfl)]
            exact hK2 s5 (frm_t fr4 (w1 f5)) g5
theorem c_readFrom (hT : TxOk T) (hcc : isC c) (hst : STA s) (hd : 10 ≤ d) {K : Int32 → Mem → Prop} (hn : s 1 1 = nI T.2) (hbt : ∀ k, k < T.2 → s 2 k = nI (T.1 k)) (hK : CTc T c (citP T) s K) : wI (wp d) m_C_readFrom [.ref c, .ref 1] s K := by
  have hL := C_le hcc
  have c3 : 3 ≤ c := by rcases hcc with rfl | rfl <;> omega
  have hb := C_b hcc
  obtain ⟨d, rfl⟩ : ∃ e, d = e + 1 := ⟨d - 1, by omega⟩
  rw [e_C_readFrom, hb]
  simp only [cond_true]
  refine c_clear hcc (by omega) hst fun s1 f1 D1 h6 => ?_
  obtain ⟨d, rfl⟩ : ∃ e, d = e + 1 := ⟨d - 1, by omega⟩
  have hn1 : s1 1 = s 1 := f1 1 (by simp only [List.mem_cons, List.not_mem_nil, or_false]; omega)
  have hn2 : s1 2 = s 2 := f1 2 (by simp only [List.mem_cons, List.not_mem_nil, or_false]; omega)
  rw [e_T_begin, show (1 : Int32) = nI 1 from rfl, show (0 : Int32) = nI 0 from rfl]
  have f2 : frm [1] s1 (upM (upM s1 1 2 (nI 0)) 1 3 (-nI 1)) := frm_t (frm_u (by simp)) (frm_u (by simp))
  refine c_readFrom_l hT hcc (by omega) (T.2 + 1) 0 raw0 0 _ (by omega) (by omega) (by omega) ⟨?_, ?_, ?_, ?_⟩ ?_ raw0_ok ?_ ?_ (frm_t (frm_w f1 (by simp)) (frm_w f2 (by simp))) hK
  · rw [up_pl (by decide), up_pl (by decide), hn1]; exact hn
  · rw [up_pl (by decide), up_at]
  · rw [up_at]; decide
  · intro k hk; rw [up_ce (by decide), up_ce (by decide), hn2]; exact hbt k hk
  · exact DC_f D1 f2 ⟨by simp only [List.mem_cons, List.not_mem_nil, or_false]; omega, by simp only [List.mem_cons, List.not_mem_nil, or_false]; omega, by simp only [List.mem_cons, List.not_mem_nil, or_false]; omega, by simp only [List.mem_cons, List.not_mem_nil, or_false]; omega⟩
  · exact STA_f (STA_f hst f1 (fun a z => by simp only [List.mem_cons, List.not_mem_nil, or_false] at z; omega)) f2 (fun a z => by simp only [List.mem_cons, List.not_mem_nil, or_false] at z; omega)
  · intro k hk
    rw [up_ce (by omega), up_ce (by omega)]; exact h6 k hk
end
