/-! what holds between calls -/
section
def ClO (cl : Cl) : Prop := LE cl.2.2 ∧ ∀ c, cl.1 = some c → LE c.2
theorem lawL_H {T : Txt} : ∀ f p cs, p ≤ T.2 → (flL 0 cs).length ≤ p → (∀ cl, cl ∈ cs → ClO cl) → ∀ cs', lawL T f p cs = .inr cs' → (flL 0 cs').length ≤ T.2 ∧ ∀ cl, cl ∈ cs' → ClO cl
  | 0, _, _, _, _, _, _, z => by simp [lawL] at z
  | f + 1, p, cs, hp, hl, h, cs', z => by
    have hc := clauP_H (T := T) hp
    have z' : (match clauP T p with
      | .inl e => .inl e
      | .inr x => if isS T (sk T x.1) 59 = true then lawL T f (sk T x.1 + 1) (cs ++ [x.2]) else if sk T x.1 < T.2 then .inl (sk T x.1) else .inr (cs ++ [x.2])) = (.inr cs' : Sum Nat (List Cl)) := z
    revert z' hc
    cases clauP T p with
    | inl e => intro _ z'; simp at z'
    | inr x =>
      intro ⟨q1, q2, q3, q4, q5⟩ z'
      have k1 := sk_ge (T := T) (p := x.1)
      have k2 := sk_le q2
      have hall : ∀ cl, cl ∈ cs ++ [x.2] → ClO cl := fun cl hcl => by
        rcases List.mem_append.mp hcl with hcl | hcl
        · exact h cl hcl
        · rw [List.mem_singleton.mp hcl]; exact ⟨q4, q5⟩
      have hlen : (flL 0 (cs ++ [x.2])).length ≤ x.1 := by
        rw [flL_app, List.length_append]
        have := q3 (0 + (flL 0 cs).length)
        omega
      have z2 : (if isS T (sk T x.1) 59 = true then lawL T f (sk T x.1 + 1) (cs ++ [x.2]) else if sk T x.1 < T.2 then .inl (sk T x.1) else .inr (cs ++ [x.2])) = (.inr cs' : Sum Nat (List Cl)) := z'
      by_cases h59 : isS T (sk T x.1) 59 = true
      · rw [if_pos h59] at z2
        have := (isS_lt h59).1
        exact lawL_H f _ _ (by omega) (by omega) hall cs' z2
      · rw [if_neg h59] at z2
        by_cases hlt : sk T x.1 < T.2
        · rw [if_pos hlt] at z2; simp at z2
        · rw [if_neg hlt] at z2
          injection z2 with z2
          subst z2
          exact ⟨by omega, hall⟩
theorem lawP_H {T : Txt} {cs : List Cl} (h : lawP T = .inr cs) : (flL 0 cs).length ≤ T.2 ∧ (∀ cl, cl ∈ cs → ClO cl) ∧ ∀ cl, cl ∈ cs → RC cl := by
  obtain ⟨a, b⟩ := lawL_H (T := T) (T.2 + 1) 0 [] (Nat.zero_le _) (by show 0 ≤ 0; omega) (fun _ z => by simp at z) cs h
  exact ⟨a, b, lawL_E (T.2 + 1) 0 [] (fun _ z => by simp at z) cs h⟩
theorem lawV_H {env env' : EnvL} (he : ∀ i, ltr i = true → env i = env' i) : ∀ cs : List Cl, (∀ cl, cl ∈ cs → ClO cl) → lawV env cs = lawV env' cs
  | [], _ => rfl
  | (none, e) :: r, h => (h (none, e) (by simp)).1 env env' he
  | (some c, e) :: r, h => by
    have h1 := (h (some c, e) (by simp)).1 env env' he
    have h2 := (h (some c, e) (by simp)).2 c rfl env env' he
    have h3 := lawV_H he r (fun cl hcl => h cl (List.mem_cons_of_mem _ hcl))
    show (if c.2 env = nI 0 then lawV env r else e.2 env) = if c.2 env' = nI 0 then lawV env' r else e.2 env'
    rw [h2, h3]
    split
    · rfl
    · exact h1
/-- the law that the reference holds -/
def QL (i : Nat) (T : Txt) (hr : Nat) (s : Mem) : Prop := s 57 32 = nI i ∧ s 60 i = nI T.2 ∧ (∀ j, j < T.2 → s 59 (160 * i + j) = byI (T.1 j)) ∧ s 68 2 = nI hr
theorem LwM_law {i : Nat} (hi : i < 4) {T : Txt} (hT : TxOk T) {cs : List Cl} (hc : lawP T = .inr cs) {hr : Nat} (hh : hr ≤ 999) : LwM (lawW cs) (hr % 24) (QL i T hr) := by
  intro d s K pw f kd w hpw hf hkd hw hQ hK
  have h160 := hT.1
  obtain ⟨q1, q2, q3, q4⟩ := hQ
  have hq := (lawP_H hc).2.1
  rw [e_M_worthOf, q1, if_neg (show ¬ nI i = -1 from fun z => by rw [n_m1, m1_eq (by omega)] at z; exact z), nI_clamp (by omega), if_neg (show ¬ (nI i < 0 ∨ 4 ≤ i) by rw [q0, nI_ltI (by omega) (by omega)]; omega), q2, show (160 : Int32) = nI 160 from rfl, pk_mul, q4, show (24 : Int32) = nI 24 from rfl, pk_rem (by omega) (by decide) (by decide)]
  have f1 : frN [61] [] s (upM (upM (upM (upM (upM s 61 112 (nI pw)) 61 102 (nI f)) 61 104 (nI (hr % 24))) 61 107 (nI kd)) 61 119 (nI w)) :=
    frN_t (frN_u (by simp) (by decide)) (frN_t (frN_u (by simp) (by decide)) (frN_t (frN_u (by simp) (by decide)) (frN_t (frN_u (by simp) (by decide)) (frN_u (by simp) (by decide)))))
  refine m_goThrough (d := d + 29) hT (by omega) (Or.inr ⟨rfl, i, hi, rfl⟩) (fun j hj => by rw [f1.1 59 (by decide) (by decide)]; exact q3 j hj) ?_
  rw [hc]
  intro s' f' e11 e14
  have ft : frN [61] JL s s' := frN_t (frN_w f1 (by simp) (by simp)) (frN_w f' (by simp) (by simp))
  rw [e14, lawV_H (env' := envW pw f (hr % 24) kd w) (fun j hj => ?_) cs hq]
  · refine hK s' ft ⟨by rw [ft.2 32 (by decide)]; exact q1, by rw [ft.1 60 (by decide) (by decide)]; exact q2, fun j hj => by rw [ft.1 59 (by decide) (by decide)]; exact q3 j hj, by rw [ft.1 68 (by decide) (by decide)]; exact q4⟩
  · rcases of_decide_eq_true hj with rfl | rfl | rfl | rfl | rfl <;> simp [upM, envW]
theorem LwM_none {h : Nat} : LwM (fun pw f _ _ _ => nI (3 * pw) - nI f) h (fun s => s 57 32 = m1) := by
  intro d s K pw f kd w hpw hf hkd hw hQ hK
  rw [e_M_worthOf, if_pos (show s 57 32 = -1 from hQ), show (3 : Int32) = nI 3 from rfl, pk_mul]
  exact hK s frN_r hQ
def V5 (g : Gph) (f : Nat → Int32) : Prop := ∃ (w : Nat) (rn : Bool) (hr dl : Nat), (f 0 = nI w ∧ w < 5) ∧ f 1 = b01 rn ∧ (f 2 = nI hr ∧ hr ≤ 999) ∧ (f 3 = nI dl ∧ dl ≤ 50) ∧ ∀ k, tb (f 4) k = true → k < gS g
def TapR (s : Mem) : Prop := ∃ T : Txt, TxOk T ∧ s 1 1 = nI T.2 ∧ s 57 6 = nI T.2 ∧ (∀ k, k < T.2 → s 2 k = nI (T.1 k)) ∧ ∀ k, k < T.2 → s 58 k = byI (T.1 k)
def LawR (i : Nat) (s : Mem) : Prop := ∃ (T : Txt) (cs : List Cl), TxOk T ∧ lawP T = .inr cs ∧ CodeA (18 + 3 * i) (flL 0 cs) s ∧ s 60 i = nI T.2 ∧ ∀ j, j < T.2 → s 59 (160 * i + j) = byI (T.1 j)
def LawsR (s : Mem) : Prop := ∃ nl : Nat, nl ≤ 4 ∧ s 0 4 = nI nl ∧ s 57 7 = nI nl ∧ (∀ i, i < nl → LawR i s) ∧ s 57 32 = s 0 5 ∧ (s 0 5 = m1 ∨ ∃ i : Nat, i < nl ∧ s 0 5 = nI i)
def NowR (g : Gph) (s : Mem) : Prop := V5 g (s 34) ∧ ∀ k, k < 5 → s 68 k = s 34 k
def ActR (g : Gph) (s : Mem) : Prop := ∃ n : Nat, n ≤ 40 ∧ s 33 2 = nI n ∧ s 57 35 = nI n ∧ ∀ i, i < n → V5 g (fun k => s 35 (5 * i + k)) ∧ ∀ k, k < 5 → s 70 (5 * i + k) = s 35 (5 * i + k)
def ImgR (g : Gph) (s : Mem) : Prop := ∃ b : Bool, s 33 4 = b01 b ∧ s 57 57 = b01 b ∧ (b = true → V5 g (s 36) ∧ ∀ k, k < 5 → s 87 k = s 36 k)
def TrR (g : Gph) (s : Mem) : Prop := ∃ (t : Nat) (sd : Nat → Nat) (bt : Nat → Int32), t ≤ 12 ∧ (∀ i, i < t → sd i < 5) ∧ TrC t sd bt s ∧ TrM t sd bt s ∧ (gR g = 0 → t = 0)
def NtR (g : Gph) (s : Mem) : Prop := ∃ nt : Nts, NtOk g nt ∧ NtC nt s ∧ NtM nt s
/-- the class's constant rows -/
def STA (s : Mem) : Prop := (s 1001 0 = nI 4 ∧ s 1001 1 = nI 1 ∧ s 1001 2 = nI 999 ∧ s 1001 3 = nI 50) ∧
  (s 1002 0 = nI 107 ∧ s 1002 1 = nI 114 ∧ s 1002 2 = nI 99 ∧ s 1002 3 = nI 102 ∧ s 1002 4 = nI 117 ∧ s 1002 5 = nI 112 ∧ s 1002 6 = nI 110) ∧
  (s 1003 0 = nI 0 ∧ s 1003 1 = nI 0 ∧ s 1003 2 = nI 0 ∧ s 1003 3 = nI 0 ∧ s 1003 4 = nI 0 ∧ s 1003 5 = nI 1 ∧ s 1003 6 = nI 0) ∧
  (s 1004 0 = nI 4 ∧ s 1004 1 = nI 3 ∧ s 1004 2 = nI 4 ∧ s 1004 3 = nI 23 ∧ s 1004 4 = nI 23 ∧ s 1004 5 = nI 9 ∧ s 1004 6 = nI 50) ∧
  (s 1005 0 = nI 0 ∧ s 1005 1 = nI 0 ∧ s 1005 2 = nI 0 ∧ s 1005 3 = nI 0 ∧ s 1005 4 = nI 0 ∧ s 1005 5 = nI 5 ∧ s 1005 6 = nI 1) ∧
  (s 1006 0 = nI 0 ∧ s 1006 1 = m1 ∧ s 1006 2 = nI 0 ∧ s 1006 3 = nI 1 ∧ s 1006 4 = nI 0) ∧
  (s 1007 0 = nI 0 ∧ s 1007 1 = nI 0 ∧ s 1007 2 = nI 1 ∧ s 1007 3 = nI 0 ∧ s 1007 4 = m1)
def REL (c : Nat) (g : Gph) (s : Mem) : Prop :=
  (isC c ∧ gOk g ∧ s 0 1 = nI (c + 1) ∧ s 0 2 = nI (14 - c)) ∧ (CityF c g s ∧ CityM g s ∧ s 57 33 = nI 0) ∧ TapR s ∧ LawsR s ∧ NowR g s ∧ ActR g s ∧ ImgR g s ∧ TrR g s ∧ NtR g s ∧ STA s
/-- cells that queries leave alone -/
theorem REL_same {c : Nat} {g : Gph} {s t : Mem} (h : REL c g s) (hcf : CityF c g t) (hlaw : ∀ i, i < 5 → LawR i s → LawR i t) (h33 : t 57 33 = nI 0)
    (e : ∀ a, a = 0 ∨ a = 1 ∨ a = 2 ∨ (33 ≤ a ∧ a ≤ 36) ∨ (42 ≤ a ∧ a ≤ 49) ∨ a = 58 ∨ a = 62 ∨ a = 65 ∨ a = 68 ∨ a = 70 ∨ a = 75 ∨ a = 76 ∨ (81 ≤ a ∧ a ≤ 83) ∨ a = 86 ∨ a = 87 ∨ (1001 ≤ a ∧ a ≤ 1007) → t a = s a) (e57 : ∀ j, j = 6 ∨ j = 7 ∨ j = 24 ∨ j = 25 ∨ j = 26 ∨ j = 32 ∨ j = 35 ∨ j = 42 ∨ j = 55 ∨ j = 57 → t 57 j = s 57 j) : REL c g t := by
  obtain ⟨⟨a1, a2, a3, a4⟩, ⟨b1, b2, b3⟩, c1, c2, c3, c4, c5, c6, c7, c8⟩ := h
  have e0 := e 0 (by omega)
  refine ⟨⟨a1, a2, by rw [e0]; exact a3, by rw [e0]; exact a4⟩, ⟨hcf, ?_, h33⟩, ?_, ?_, ?_, ?_, ?_, ?_, ?_, ?_⟩
  · unfold CityM at *
    rw [e57 24 (by omega), e57 25 (by omega), e57 26 (by omega), e 62 (by omega), e 65 (by omega)]
    exact b2
  · unfold TapR at *
    rw [e 1 (by omega), e 2 (by omega), e57 6 (by omega), e 58 (by omega)]
    exact c1
  · obtain ⟨nl, h1, h2, h3, h4, h5, h6⟩ := c2
    refine ⟨nl, h1, by rw [e0]; exact h2, by rw [e57 7 (by omega)]; exact h3, fun i hi => hlaw i (by omega) (h4 i hi), by rw [e57 32 (by omega), e0]; exact h5, by rw [e0]; exact h6⟩
  · unfold NowR at *
    rw [e 34 (by omega), e 68 (by omega)]
    exact c3
  · unfold ActR at *
    rw [e 33 (by omega), e 35 (by omega), e 70 (by omega), e57 35 (by omega)]
    exact c4
  · unfold ImgR at *
    rw [e 33 (by omega), e 36 (by omega), e 87 (by omega), e57 57 (by omega)]
    exact c5
  · unfold TrR TrC TrM at *
    rw [e 42 (by omega), e 43 (by omega), e 44 (by omega), e 75 (by omega), e 76 (by omega), e57 42 (by omega)]
    exact c6
  · unfold NtR NtC NtM at *
    rw [e 45 (by omega), e 46 (by omega), e 47 (by omega), e 48 (by omega), e 49 (by omega), e 81 (by omega), e 82 (by omega), e 83 (by omega), e 86 (by omega), e57 55 (by omega)]
    exact c7
  · unfold STA at *
    rw [e 1001 (by omega), e 1002 (by omega), e 1003 (by omega), e 1004 (by omega), e 1005 (by omega), e 1006 (by omega), e 1007 (by omega)]
    exact c8
/-- a query's ground -/
theorem REL_q {c : Nat} {g : Gph} {s : Mem} (h : REL c g s) : ∃ (W : Wth) (P Q : Mem → Prop) (lv : Value) (Ll : List Nat) (w : Nat) (rn : Bool) (dl hr : Nat) (o : Int32),
    QQ c g W P Q lv Ll w rn dl hr o s ∧ ∀ s', fr c Ll s s' → QQ c g W P Q lv Ll w rn dl hr o s' → REL c g s' := by
  have hr0 := h
  obtain ⟨⟨a1, a2, a3, a4⟩, ⟨b1, b2, b3⟩, c1, ⟨nl, n1, n2, n3, n4, n5, n6⟩, ⟨⟨w, rn, hr, dl, v0, v1, v2, v3, v4⟩, d2⟩, c4, c5, c6, c7, c8⟩ := h
  have h16 := C_le a1
  have same : ∀ (Ll : List Nat), (∀ a, a ∈ Ll → 18 ≤ a ∧ a ≤ 32) → ∀ t, fr c Ll s t → CityF c g t → t 57 33 = nI 0 → (∀ i, i < 5 → LawR i s → LawR i t) → REL c g t := by
    intro Ll hL t hf hcf h33 hlaw
    refine REL_same hr0 hcf hlaw h33 (fun a ha => ?_) (fun j hj => hf.2 j ?_)
    · refine hf.1 a (scA_no a1 hL ?_) (by omega)
      rcases a1 with rfl | rfl <;> omega
    · simp only [scJ, List.mem_cons, List.not_mem_nil, or_false]
      omega
  rcases n6 with n6 | ⟨i, hi, n6⟩
  · refine ⟨fun pw f _ _ _ => nI (3 * pw) - nI f, fun _ => True, fun s => s 57 32 = m1, .null, [], w, rn, dl, hr, s 34 4, ⟨a1, a2, a3, b1, Or.inl ⟨rfl, n6⟩, Or.inl ⟨rfl, rfl, fun _ _ _ _ _ => rfl⟩, fun _ _ _ _ => trivial, trivial, v0, v1, v2, v3, rfl, v4, b2, (show s 57 32 = m1 by rw [n5]; exact n6), LwM_none, fun u v hf hq => (show v 57 32 = m1 by rw [hf.2 32 (by decide)]; exact hq), d2, b3⟩, fun t hf hq => ?_⟩
    refine same [] (fun _ z => by simp at z) t hf (qq_cf hq) (qq_x33 hq) fun j hj hl => ?_
    obtain ⟨T, cs, l1, l2, l3, l4, l5⟩ := hl
    have no : ∀ a, 18 ≤ a → a ≤ 32 → a ∉ scA c [] := fun a h1 h2 z => by
      simp only [List.append_nil, List.mem_cons, List.not_mem_nil, or_false] at z
      omega
    refine ⟨T, cs, l1, l2, ?_, by rw [hf.1 60 (scA_no a1 (fun _ z => by simp at z) (by omega)) (by decide)]; exact l4, fun k hk => by rw [hf.1 59 (scA_no a1 (fun _ z => by simp at z) (by omega)) (by decide)]; exact l5 k hk⟩
    unfold CodeA at *
    rw [hf.1 (18 + 3 * j) (no _ (by omega) (by omega)) (by omega), hf.1 (18 + 3 * j + 1) (no _ (by omega) (by omega)) (by omega)]
    exact l3
  · obtain ⟨T, cs, l1, l2, l3, l4, l5⟩ := n4 i hi
    obtain ⟨len, hO, hRC⟩ := lawP_H l2
    have hl5 : isL (18 + 3 * i) := ⟨i, by omega, rfl⟩
    have h160 := l1.1
    have hL : ∀ a, a ∈ [18 + 3 * i, 18 + 3 * i + 2] → 18 ≤ a ∧ a ≤ 32 := fun a z => by simp only [List.mem_cons, List.not_mem_nil, or_false] at z; omega
    refine ⟨lawW cs, CodeA (18 + 3 * i) (flL 0 cs), QL i T hr, .ref (18 + 3 * i), [18 + 3 * i, 18 + 3 * i + 2], w, rn, dl, hr, s 34 4, ⟨a1, a2, a3, b1, Or.inr ⟨i, by omega, rfl, n6⟩, Or.inr ⟨i, by omega, rfl, rfl, LwC_law hl5 hRC (by omega)⟩, ?_, l3, v0, v1, v2, v3, rfl, v4, b2, ⟨by rw [n5]; exact n6, l4, l5, by rw [d2 2 (by decide)]; exact v2.1⟩, LwM_law (by omega) l1 l2 v2.2, ?_, d2, b3⟩, fun t hf hq => ?_⟩
    · intro u v hf hp
      have no : ∀ a, 18 ≤ a → a ≤ 32 → a ∉ scA c [] := fun a h1 h2 z => by
        simp only [List.append_nil, List.mem_cons, List.not_mem_nil, or_false] at z
        omega
      unfold CodeA at *
      rw [hf.1 (18 + 3 * i) (no _ (by omega) (by omega)) (by omega), hf.1 (18 + 3 * i + 1) (no _ (by omega) (by omega)) (by omega)]
      exact hp
    · intro u v hf ⟨q1, q2, q3, q4⟩
      refine ⟨by rw [hf.2 32 (by decide)]; exact q1, by rw [hf.1 60 (scA_no a1 hL (by omega)) (by decide)]; exact q2, fun j hj => by rw [hf.1 59 (scA_no a1 hL (by omega)) (by decide)]; exact q3 j hj, by rw [hf.1 68 (scA_no a1 hL (by omega)) (by decide)]; exact q4⟩
    · refine same _ hL t hf (qq_cf hq) (qq_x33 hq) fun j hj hl => ?_
      by_cases hij : j = i
      · subst hij
        refine ⟨T, cs, l1, l2, qq_P hq, by rw [hf.1 60 (scA_no a1 hL (by omega)) (by decide)]; exact l4, fun k hk => by rw [hf.1 59 (scA_no a1 hL (by omega)) (by decide)]; exact l5 k hk⟩
      · obtain ⟨T', cs', m1', m2', m3', m4', m5'⟩ := hl
        have no : ∀ a, a = 18 + 3 * j ∨ a = 18 + 3 * j + 1 → a ∉ scA c [18 + 3 * i, 18 + 3 * i + 2] := fun a h1 z => by
          rcases List.mem_append.mp z with z | z
          · simp only [List.mem_cons, List.not_mem_nil, or_false] at z
            omega
          · simp only [List.mem_cons, List.not_mem_nil, or_false] at z
            omega
        refine ⟨T', cs', m1', m2', ?_, by rw [hf.1 60 (scA_no a1 hL (by omega)) (by decide)]; exact m4', fun k hk => by rw [hf.1 59 (scA_no a1 hL (by omega)) (by decide)]; exact m5' k hk⟩
        unfold CodeA at *
        rw [hf.1 (18 + 3 * j) (no _ (Or.inl rfl)) (by omega), hf.1 (18 + 3 * j + 1) (no _ (Or.inr rfl)) (by omega)]
        exact m3'
end
