/-! what a query leans on, and what it may change; the class's call and the reference's in one row -/
theorem inN {x : Int32} {n : Nat} (h : 0 ≤ x.toInt ∧ x.toInt ≤ n) (hn : n < 2 ^ 31) : ∃ q : Nat, q ≤ n ∧ x = nI q :=
  ⟨x.toInt.toNat, by omega, Int32.toInt_inj.mp (by rw [n_i (by omega)]; omega)⟩
abbrev scA (c : Nat) (Ll : List Nat) : List Nat := [c + 5, c + 6, 37, 38, 39, 40, 41, 50, 51, 52, 53, 54, 55, 56, 61, 69, 71, 72, 73, 74, 77, 78, 79, 80, 84, 85] ++ Ll
abbrev scJ : List Nat := [0, 5, 8, 9, 10, 11, 12, 13, 14, 17, 33, 43, 44]
abbrev fr (c : Nat) (Ll : List Nat) (s t : Mem) : Prop := frN (scA c Ll) scJ s t
def PSt (c : Nat) (P : Mem → Prop) : Prop := ∀ s t, fr c [] s t → P s → P t
def QSt (c : Nat) (Ll : List Nat) (Q : Mem → Prop) : Prop := ∀ s t, fr c Ll s t → Q s → Q t
theorem scA_m {c : Nat} {Ll : List Nat} {a : Nat} (h : a = c + 5 ∨ a = c + 6 ∨ (37 ≤ a ∧ a ≤ 41) ∨ (50 ≤ a ∧ a ≤ 56) ∨ a = 61 ∨ a = 69 ∨ (71 ≤ a ∧ a ≤ 74) ∨ (77 ≤ a ∧ a ≤ 80) ∨ a = 84 ∨ a = 85) : a ∈ scA c Ll := by
  refine List.mem_append_left _ ?_
  simp only [List.mem_cons, List.not_mem_nil, or_false]
  omega
theorem scA_no {c : Nat} {Ll : List Nat} (hcc : isC c) (hL : ∀ a, a ∈ Ll → 18 ≤ a ∧ a ≤ 32) {a : Nat}
    (h : (a < 18 ∧ a ≠ c + 5 ∧ a ≠ c + 6) ∨ (33 ≤ a ∧ a ≤ 36) ∨ (42 ≤ a ∧ a ≤ 49) ∨ (57 ≤ a ∧ a ≤ 60) ∨ (62 ≤ a ∧ a ≤ 68) ∨ a = 70 ∨ a = 75 ∨ a = 76 ∨ (81 ≤ a ∧ a ≤ 83) ∨ 86 ≤ a) : a ∉ scA c Ll := by
  have := C_le hcc
  intro z
  rcases List.mem_append.mp z with z | z
  · simp only [List.mem_cons, List.not_mem_nil, or_false] at z
    omega
  · have := hL a z
    omega
theorem fr_f {c : Nat} {Ll L : List Nat} {s t : Mem} (hf : frm L s t) (h57 : 57 ∉ L) (h : ∀ a, a ∈ L → a ∈ scA c Ll) : fr c Ll s t := frN_w (frN_f (J := scJ) hf h57) h (fun _ z => z)
theorem PSt_l {c : Nat} {P : Mem → Prop} (hcc : isC c) (h : PSt c P) : PStay c P := fun s t hf hp => h s t (fr_f hf (by have := C_le hcc; simp only [List.mem_cons, List.not_mem_nil, or_false]; omega) (fun a z => scA_m (by simp only [List.mem_cons, List.not_mem_nil, or_false] at z; omega))) hp
theorem CityF_N {c : Nat} {g : Gph} {s t : Mem} {L J : List Nat} (hcc : isC c) (hf : frN L J s t) (hL : ∀ a, a ∈ L → 17 ≤ a) (h : CityF c g s) : CityF c g t := by
  have h16 := C_le hcc
  have e : ∀ a, a ≤ 16 → t a = s a := fun a ha => hf.1 a (fun z => by have := hL a z; omega) (by omega)
  unfold CityF CityC FarC at *
  rw [e c (by omega), e (c + 3) (by omega), e (c + 4) (by omega), e (c + 5) (by omega), e (c + 6) (by omega)]
  exact h
section
variable {d c : Nat} {g : Gph} {W : Wth} {P Q : Mem → Prop} {lv : Value} {Ll : List Nat} {rn : Bool} {w dl hr : Nat} {o : Int32} {s : Mem}
def QQ (c : Nat) (g : Gph) (W : Wth) (P Q : Mem → Prop) (lv : Value) (Ll : List Nat) (w : Nat) (rn : Bool) (dl hr : Nat) (o : Int32) (s : Mem) : Prop :=
  isC c ∧ gOk g ∧ RefC c s ∧ CityF c g s ∧ HoldC lv s ∧ HlC lv Ll W P ∧ PSt c P ∧ P s ∧ (s 34 0 = nI w ∧ w < 5) ∧ s 34 1 = b01 rn ∧ (s 34 2 = nI hr ∧ hr ≤ 999) ∧ (s 34 3 = nI dl ∧ dl ≤ 50) ∧ s 34 4 = o ∧ (∀ k, tb o k = true → k < gS g) ∧
  CityM g s ∧ Q s ∧ LwM W (hr % 24) Q ∧ QSt c Ll Q ∧ (∀ k, k < 5 → s 68 k = s 34 k) ∧ s 57 33 = nI 0
theorem QQ_f {t : Mem} (h : QQ c g W P Q lv Ll w rn dl hr o s) (hf : fr c Ll s t) (hc : CityF c g t) (hp : P t) (h33 : t 57 33 = nI 0) : QQ c g W P Q lv Ll w rn dl hr o t := by
  obtain ⟨a1, a2, a3, a4, a5, a6, a7, a8, a9, b1, b2, b3, b4, b5, b6, b7, b8, b9, c1, c2⟩ := h
  have hL := HlC_L a6
  have h16 := C_le a1
  have c3 : 3 ≤ c := by rcases a1 with rfl | rfl <;> omega
  have e0 : t 0 = s 0 := hf.1 0 (scA_no a1 hL (by omega)) (by decide)
  have e34 : t 34 = s 34 := hf.1 34 (scA_no a1 hL (by omega)) (by decide)
  have e68 : t 68 = s 68 := hf.1 68 (scA_no a1 hL (by omega)) (by decide)
  refine ⟨a1, a2, ?_, hc, ?_, a6, a7, hp, ?_, ?_, ?_, ?_, ?_, b5, CityM_N hf (by decide) ⟨scA_no a1 hL (by omega), scA_no a1 hL (by omega)⟩ b6, b9 s t hf b7, b8, b9, ?_, h33⟩
  · unfold RefC at *; rw [e0]; exact a3
  · unfold HoldC at *; rw [e0]; exact a5
  all_goals rw [e34]
  · exact a9
  · exact b1
  · exact b2
  · exact b3
  · exact b4
  · rw [e68]; exact c1
/-- a step of the reference alone -/
theorem QQ_m {t : Mem} {L J : List Nat} (h : QQ c g W P Q lv Ll w rn dl hr o s) (hf : frN L J s t) (hL : ∀ a, a ∈ L → 57 ≤ a) (hs : ∀ a, a ∈ L → a ∈ scA c []) (hJ : ∀ a, a ∈ J → a ∈ scJ) (h33 : t 57 33 = nI 0) : fr c Ll s t ∧ QQ c g W P Q lv Ll w rn dl hr o t := by
  have h1 : fr c Ll s t := frN_w hf (fun a z => List.mem_append_left _ (by have := hs a z; simpa using this)) hJ
  refine ⟨h1, QQ_f h h1 (CityF_N h.1 hf (fun a z => by have := hL a z; omega) h.2.2.2.1) ?_ h33⟩
  exact h.2.2.2.2.2.2.1 s t (frN_w hf hs hJ) h.2.2.2.2.2.2.2.1
theorem q_thr (h : QQ c g W P Q lv Ll w rn dl hr o s) {x : Int32} : fr c Ll s (upM s 57 0 x) ∧ QQ c g W P Q lv Ll w rn dl hr o (upM s 57 0 x) :=
  QQ_m h (L := []) (J := [0]) (frN_v (by simp)) (by simp) (by simp) (by simp) (by rw [up_pl (by decide)]; exact h.2.2.2.2.2.2.2.2.2.2.2.2.2.2.2.2.2.2.2)
theorem q_blow {K : Mem → Prop} (h : QQ c g W P Q lv Ll w rn dl hr o s) {w' : Nat} (hw : w' < 5)
    (hK : ∀ s', fr c Ll s s' → QQ c g W P Q lv Ll w rn dl hr o s' → NoC c g W rn w' dl hr s' → s' 41 = s 41 → K s') : wV (wp (d + 8)) m_X_blow [.ref 0, .int (nI w')] s K := by
  have hq := h
  obtain ⟨a1, a2, a3, a4, a5, a6, a7, a8, a9, b1, b2, b3, b4, b5, b6, b7, b8, b9, c1, c2⟩ := h
  have hL := HlC_L a6
  have h16 := C_le a1
  refine c_blowX a1 a2 a6 (PSt_l a1 a7) hw a3 a5 ⟨hr, b2.1, b2.2, rfl, b1, b3.1⟩ a4 a8 ?_
  intro s' hf hc hp hA
  have hf' : fr c Ll s s' := fr_f hf (fun z => by
    rcases List.mem_append.mp z with z | z
    · simp only [List.mem_cons, List.not_mem_nil, or_false] at z
      omega
    · have := hL _ z
      omega) (fun a z => by
    rcases List.mem_append.mp z with z | z
    · refine scA_m ?_
      simp only [List.mem_cons, List.not_mem_nil, or_false] at z
      omega
    · exact List.mem_append_right _ z)
  have e57 : s' 57 = s 57 := hf 57 (fun z => by
    rcases List.mem_append.mp z with z | z
    · simp only [List.mem_cons, List.not_mem_nil, or_false] at z
      omega
    · have := hL _ z
      omega)
  have hq' := QQ_f hq hf' hc hp (by rw [e57]; exact c2)
  have e41 : s' 41 = s 41 := hf 41 (fun z => by
    rcases List.mem_append.mp z with z | z
    · simp only [List.mem_cons, List.not_mem_nil, or_false] at z
      omega
    · have := hL _ z
      omega)
  refine hK s' hf' hq' ⟨hq'.2.2.1, hc.1, hq'.2.2.2.2.2.2.2.2.2.2.1.1, b2.2, hA, ?_⟩ e41
  intro k hk
  exact b5 k (by rw [← hk, hq'.2.2.2.2.2.2.2.2.2.2.2.2.1])
theorem q_laySmells {K : Mem → Prop} (h : QQ c g W P Q lv Ll w rn dl hr o s) {w' : Nat} (hw : w' < 5) {o' : Int32}
    (hK : ∀ s', fr c Ll s s' → QQ c g W P Q lv Ll w rn dl hr o s' → SmM (smX g W (hr % 24) rn w' o' none) s' → (∀ k, k < gN g → s' 73 k = brI g W (hr % 24) rn w' dl o' none k) → (∀ a, a ∉ [61, 71, 72, 73] → a ≠ 57 → s' a = s a) → K s') : wV (wp (d + 34)) m_M_laySmells [.ref 57, .int o', .int (nI w')] s K := by
  have hq := h
  obtain ⟨a1, a2, a3, a4, a5, a6, a7, a8, a9, b1, b2, b3, b4, b5, b6, b7, b8, b9, c1, c2⟩ := h
  refine m_laySmells a2 b8 (fun u v hf => b9 u v (frN_w hf (fun a z => scA_m (by simp only [List.mem_cons, List.not_mem_nil, or_false] at z; omega)) (by simp))) hw b6 b7 ⟨hr, by rw [c1 2 (by decide)]; exact b2.1, b2.2, rfl, by rw [c1 1 (by decide)]; exact b1, by rw [c1 3 (by decide)]; exact b3.1⟩ b3.2 (ex := none) c2 (fun _ _ z => by simp at z) ?_
  intro s' hf hc hQ' hS hB
  obtain ⟨f1, q1⟩ := QQ_m hq hf (fun a z => by simp only [List.mem_cons, List.not_mem_nil, or_false] at z; omega) (fun a z => scA_m (by simp only [List.mem_cons, List.not_mem_nil, or_false] at z; omega)) (by simp) (by rw [hf.2 33 (by decide)]; exact c2)
  exact hK s' f1 q1 hS hB hf.1
theorem q_layNow {K : Mem → Prop} (h : QQ c g W P Q lv Ll w rn dl hr o s)
    (hK : ∀ s', fr c Ll s s' → QQ c g W P Q lv Ll w rn dl hr o s' → SmM (smX g W (hr % 24) rn w o none) s' → (∀ k, k < gN g → s' 73 k = brI g W (hr % 24) rn w dl o none k) → (∀ a, a ∉ [61, 71, 72, 73] → a ≠ 57 → s' a = s a) → K s') : wV (wp (d + 35)) m_M_layNow [.ref 57] s K := by
  have hq := h
  obtain ⟨a1, a2, a3, a4, a5, a6, a7, a8, a9, b1, b2, b3, b4, b5, b6, b7, b8, b9, c1, c2⟩ := h
  rw [e_M_layNow, c1 0 (by decide), a9.1, c1 4 (by decide), b4]
  exact q_laySmells hq a9.2 hK
theorem qq_isC (h : QQ c g W P Q lv Ll w rn dl hr o s) : isC c := h.1
theorem qq_gOk (h : QQ c g W P Q lv Ll w rn dl hr o s) : gOk g := h.2.1
theorem qq_ref (h : QQ c g W P Q lv Ll w rn dl hr o s) : s 0 1 = nI (c + 1) := h.2.2.1
theorem qq_cf (h : QQ c g W P Q lv Ll w rn dl hr o s) : CityF c g s := h.2.2.2.1
theorem qq_hold (h : QQ c g W P Q lv Ll w rn dl hr o s) : HoldC lv s := h.2.2.2.2.1
theorem qq_hl (h : QQ c g W P Q lv Ll w rn dl hr o s) : HlC lv Ll W P := h.2.2.2.2.2.1
theorem qq_pst (h : QQ c g W P Q lv Ll w rn dl hr o s) : PSt c P := h.2.2.2.2.2.2.1
theorem qq_P (h : QQ c g W P Q lv Ll w rn dl hr o s) : P s := h.2.2.2.2.2.2.2.1
theorem qq_w (h : QQ c g W P Q lv Ll w rn dl hr o s) : s 34 0 = nI w ∧ w < 5 := h.2.2.2.2.2.2.2.2.1
theorem qq_rn (h : QQ c g W P Q lv Ll w rn dl hr o s) : s 34 1 = b01 rn := h.2.2.2.2.2.2.2.2.2.1
theorem qq_hr (h : QQ c g W P Q lv Ll w rn dl hr o s) : s 34 2 = nI hr ∧ hr ≤ 999 := h.2.2.2.2.2.2.2.2.2.2.1
theorem qq_dl (h : QQ c g W P Q lv Ll w rn dl hr o s) : s 34 3 = nI dl ∧ dl ≤ 50 := h.2.2.2.2.2.2.2.2.2.2.2.1
theorem qq_o (h : QQ c g W P Q lv Ll w rn dl hr o s) : s 34 4 = o := h.2.2.2.2.2.2.2.2.2.2.2.2.1
theorem qq_ol (h : QQ c g W P Q lv Ll w rn dl hr o s) : ∀ k, tb o k = true → k < gS g := h.2.2.2.2.2.2.2.2.2.2.2.2.2.1
theorem qq_cm (h : QQ c g W P Q lv Ll w rn dl hr o s) : CityM g s := h.2.2.2.2.2.2.2.2.2.2.2.2.2.2.1
theorem qq_Q (h : QQ c g W P Q lv Ll w rn dl hr o s) : Q s := h.2.2.2.2.2.2.2.2.2.2.2.2.2.2.2.1
theorem qq_lw (h : QQ c g W P Q lv Ll w rn dl hr o s) : LwM W (hr % 24) Q := h.2.2.2.2.2.2.2.2.2.2.2.2.2.2.2.2.1
theorem qq_qst (h : QQ c g W P Q lv Ll w rn dl hr o s) : QSt c Ll Q := h.2.2.2.2.2.2.2.2.2.2.2.2.2.2.2.2.2.1
theorem qq_e68 (h : QQ c g W P Q lv Ll w rn dl hr o s) : ∀ k, k < 5 → s 68 k = s 34 k := h.2.2.2.2.2.2.2.2.2.2.2.2.2.2.2.2.2.2.1
theorem qq_x33 (h : QQ c g W P Q lv Ll w rn dl hr o s) : s 57 33 = nI 0 := h.2.2.2.2.2.2.2.2.2.2.2.2.2.2.2.2.2.2.2
end
