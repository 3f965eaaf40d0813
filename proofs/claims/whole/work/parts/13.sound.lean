/-! SOUNDNESS: what the smaller machine does, the machine does. First: locals, cells, what stays. -/
def tvV (ad : Nat → Nat) : Value → Value
  | .ref k => .ref (ad k)
  | v => v
theorem tv_cat (ad : Nat → Nat) (v : Value) : (tvV ad v).category = v.category := by cases v <;> rfl
def lsetF : List Value → Nat → Value → List Value
  | [], _, _ => []
  | _ :: r, 0, x => x :: r
  | v :: r, n + 1, x => v :: lsetF r n x
def cutF (v : Value) : Value := match v with | .long _ => uV | .double _ => uV | v => v
def lst1F : List Value → Nat → Value → List Value
  | [], _, _ => []
  | _ :: r, 0, x => x :: r
  | v :: r, 1, x => cutF v :: lsetF r 0 x
  | v :: r, n + 2, x => v :: lst1F r (n + 1) x
def frgF : List Nat → List Value → List Value
  | [], l => l
  | n :: r, l => frgF r (lsetF l n uV)
theorem lsetK_F (x : Value) : ∀ (l : List Value) (n : Nat) (k : List Value → Prop), lsetK l n x k = k (lsetF l n x)
  | [], _, _ => by simp only [lsetK, lsetF]
  | _ :: _, 0, _ => rfl
  | v :: r, n + 1, k => lsetK_F x r n (fun r' => k (v :: r'))
theorem cutK_F (v : Value) (k : Value → Prop) : cutK v k = k (cutF v) := by cases v <;> rfl
theorem lst1K_F (x : Value) : ∀ (l : List Value) (n : Nat) (k : List Value → Prop), lst1K l n x k = k (lst1F l n x)
  | [], _, _ => by simp only [lst1K, lst1F]
  | _ :: _, 0, _ => rfl
  | v :: r, 1, k => (cutK_F v _).trans (lsetK_F x r 0 (fun r' => k (cutF v :: r')))
  | v :: r, n + 2, k => lst1K_F x r (n + 1) (fun r' => k (v :: r'))
theorem lst2K_F (l : List Value) (n : Nat) (x : Value) (k : List Value → Prop) : lst2K l n x k = k (lsetF (lst1F l n x) (n + 1) uV) := (lst1K_F x l n _).trans (lsetK_F uV _ _ k)
theorem frgK_F (k : List Value → Prop) : ∀ (ns : List Nat) (l : List Value), frgK ns l k = k (frgF ns l)
  | [], _ => rfl
  | n :: r, l => (lsetK_F uV l n _).trans (frgK_F k r _)
/-- the values that a list of locals holds, by their places -/
def lvp (ad : Nat → Nat) : Nat → List Value → List (Nat × Value)
  | _, [] => []
  | i, .float _ :: r => lvp ad (i + 1) r
  | i, v :: r => (i, tvV ad v) :: lvp ad (i + 1) r
theorem lvp_c {ad : Nat → Nat} {i : Nat} {v : Value} {r : List Value} {q : Nat × Value} : q ∈ lvp ad i (v :: r) ↔ ((∀ x, v ≠ .float x) ∧ q = (i, tvV ad v)) ∨ q ∈ lvp ad (i + 1) r := by
  cases v <;> simp [lvp]
theorem lvp_ge {ad : Nat → Nat} {q : Nat × Value} : ∀ {l : List Value} {i : Nat}, q ∈ lvp ad i l → i ≤ q.1
  | [], _, h => by simp [lvp] at h
  | v :: r, i, h => by
    rcases lvp_c.mp h with ⟨-, rfl⟩ | h
    · exact Nat.le_refl _
    · exact Nat.le_of_succ_le (lvp_ge h)
theorem lget_in {ad : Nat → Nat} {v : Value} (hv : ∀ x, v ≠ .float x) : ∀ {l : List Value} {i n : Nat}, lget l n = v → (i + n, tvV ad v) ∈ lvp ad i l
  | [], _, _, h => absurd h.symm (hv 0)
  | w :: r, i, 0, h => by
    have h : w = v := h
    subst h
    exact lvp_c.mpr (Or.inl ⟨hv, rfl⟩)
  | w :: r, i, n + 1, h => by
    have := lget_in (ad := ad) hv (l := r) (i := i + 1) (n := n) h
    rw [show i + (n + 1) = i + 1 + n by omega]
    exact lvp_c.mpr (Or.inr this)
theorem lset_in {ad : Nat → Nat} {x : Value} {q : Nat × Value} : ∀ {l : List Value} {i n : Nat}, q ∈ lvp ad i (lsetF l n x) → (q = (i + n, tvV ad x) ∧ ∀ z, x ≠ .float z) ∨ (q ∈ lvp ad i l ∧ q.1 ≠ i + n)
  | [], _, _, h => by simp [lsetF, lvp] at h
  | w :: r, i, 0, h => by
    rcases lvp_c.mp h with ⟨h1, rfl⟩ | h
    · exact Or.inl ⟨rfl, h1⟩
    · exact Or.inr ⟨lvp_c.mpr (Or.inr h), by have := lvp_ge h; omega⟩
  | w :: r, i, n + 1, h => by
    rcases lvp_c.mp h with ⟨h1, rfl⟩ | h
    · exact Or.inr ⟨lvp_c.mpr (Or.inl ⟨h1, rfl⟩), by show i ≠ i + (n + 1); omega⟩
    · rcases lset_in h with ⟨h, h1⟩ | ⟨h, h1⟩
      · exact Or.inl ⟨by rw [h]; congr 1; omega, h1⟩
      · exact Or.inr ⟨lvp_c.mpr (Or.inr h), by omega⟩
theorem lst1_in {ad : Nat → Nat} {x : Value} {q : Nat × Value} : ∀ {l : List Value} {i n : Nat}, q ∈ lvp ad i (lst1F l n x) → q = (i + n, tvV ad x) ∨ (q ∈ lvp ad i l ∧ q.1 ≠ i + n ∧ ¬ (q.1 + 1 = i + n ∧ q.2.category = 2))
  | [], _, _, h => by simp [lst1F, lvp] at h
  | w :: r, i, 0, h => by
    rcases lvp_c.mp h with ⟨h1, rfl⟩ | h
    · exact Or.inl rfl
    · have := lvp_ge h
      exact Or.inr ⟨lvp_c.mpr (Or.inr h), by omega, by omega⟩
  | w :: r, i, 1, h => by
    rcases lvp_c.mp h with ⟨h1, rfl⟩ | h
    · right
      have hw : cutF w = w ∧ w.category ≠ 2 := by
        cases w <;> simp [cutF, uV, Value.category] at h1 ⊢
      rw [hw.1] at h1 ⊢
      exact ⟨lvp_c.mpr (Or.inl ⟨h1, rfl⟩), by show i ≠ i + 1; omega, fun z => hw.2 (by have := z.2; rwa [tv_cat] at this)⟩
    · rcases lset_in h with ⟨h, -⟩ | ⟨h, h1⟩
      · exact Or.inl (by rw [h])
      · have := lvp_ge h
        exact Or.inr ⟨lvp_c.mpr (Or.inr h), by omega, by omega⟩
  | w :: r, i, n + 2, h => by
    rcases lvp_c.mp h with ⟨h1, rfl⟩ | h
    · exact Or.inr ⟨lvp_c.mpr (Or.inl ⟨h1, rfl⟩), by show i ≠ i + (n + 2); omega, fun z => by have := z.1; simp only at this; omega⟩
    · rcases lst1_in h with h | ⟨h, h1, h2⟩
      · exact Or.inl (by rw [h]; congr 1; omega)
      · exact Or.inr ⟨lvp_c.mpr (Or.inr h), by omega, by omega⟩
theorem frg_in {ad : Nat → Nat} {q : Nat × Value} : ∀ {ns : List Nat} {l : List Value}, q ∈ lvp ad 0 (frgF ns l) → q ∈ lvp ad 0 l
  | [], _, h => h
  | n :: r, l, h => by
    rcases lset_in (frg_in (ns := r) h) with ⟨-, h⟩ | ⟨h, -⟩
    · exact absurd rfl (h 0)
    · exact h
theorem pad_in {ad : Nat → Nat} {q : Nat × Value} : ∀ {n i : Nat} {l : List Value}, q ∈ lvp ad i (padL n l) → q ∈ lvp ad i l
  | 0, _, _, h => by simp [padL, lvp] at h
  | n + 1, i, [], h => by
    rcases lvp_c.mp h with ⟨h1, -⟩ | h
    · exact absurd rfl (h1 0)
    · have := pad_in h
      simp [lvp] at this
  | n + 1, i, v :: r, h => by
    rcases lvp_c.mp h with h1 | h
    · exact lvp_c.mpr (Or.inl h1)
    · exact lvp_c.mpr (Or.inr (pad_in h))
theorem lay_in {ad : Nat → Nat} {q : Nat × Value} : ∀ {as : List Value} {i : Nat}, q ∈ lvp ad i (layA as) → q ∈ lv_args i (as.map (tvV ad))
  | [], _, h => by simp [layA, lvp] at h
  | v :: r, i, h => by
    have key : ∀ (h2 : v.category = 2) (e : layA (v :: r) = v :: uV :: layA r), q ∈ lv_args i ((v :: r).map (tvV ad)) := by
      intro h2 e
      rw [e] at h
      simp only [List.map_cons, lv_args, tv_cat, h2, if_true]
      rcases lvp_c.mp h with ⟨-, rfl⟩ | h
      · exact List.mem_cons_self
      · rcases lvp_c.mp h with ⟨h1, -⟩ | h
        · exact absurd rfl (h1 0)
        · exact List.mem_cons_of_mem _ (lay_in h)
    have key1 : ∀ (h2 : ¬ v.category = 2) (e : layA (v :: r) = v :: layA r), q ∈ lv_args i ((v :: r).map (tvV ad)) := by
      intro h2 e
      rw [e] at h
      simp only [List.map_cons, lv_args, tv_cat, h2, if_false]
      rcases lvp_c.mp h with ⟨-, rfl⟩ | h
      · exact List.mem_cons_self
      · exact List.mem_cons_of_mem _ (lay_in h)
    cases v <;> first | exact key rfl rfl | exact key1 (by simp [Value.category]) rfl
theorem lay_len (ad : Nat → Nat) : ∀ (as : List Value), (lg_sl (as.map (tvV ad))).length = (layA as).length
  | [] => rfl
  | v :: r => by
    have ih := lay_len ad r
    have e : lg_sl ((v :: r).map (tvV ad)) = (if v.category = 2 then [Slot.val (tvV ad v), .second] else [.val (tvV ad v)]) ++ lg_sl (r.map (tvV ad)) := by
      simp [lg_sl, tv_cat]
    rw [e, List.length_append, ih]
    cases v <;> simp [layA, Value.category] <;> omega
theorem lv_le {ls : Array Slot} {nL : Nat} {l l' : List (Nat × Value)} (h : lv_has ls nL l) (hs : ∀ q ∈ l', q ∈ l) : lv_has ls nL l' := ⟨h.1, h.2.1, fun q hq => h.2.2 q (hs q hq)⟩
theorem lvp_get {ad : Nat → Nat} {ls : Array Slot} {nL : Nat} {loc : List Value} {n : Nat} {v : Value} (h : lv_has ls nL (lvp ad 0 loc)) (hg : lget loc n = v) (hv : ∀ x, v ≠ .float x) : ls[n]? = some (.val (tvV ad v)) := by
  have := lget_in (ad := ad) hv (i := 0) hg
  rw [Nat.zero_add] at this
  exact h.2.2 _ this
theorem lvp_st1 {ad : Nat → Nat} {ls : Array Slot} {nL n : Nat} {loc : List Value} {x : Value} (h : lv_has ls nL ((n, tvV ad x) :: (lvp ad 0 loc).filter (fun q => !(q.1 == n) && !(q.1 + 1 == n && q.2.category == 2)))) : lv_has ls nL (lvp ad 0 (lst1F loc n x)) := by
  refine lv_le h fun q hq => ?_
  rcases lst1_in hq with h1 | ⟨h1, h2, h3⟩
  · rw [Nat.zero_add] at h1
    rw [h1]
    exact List.mem_cons_self
  · rw [Nat.zero_add] at h2 h3
    refine List.mem_cons_of_mem _ (List.mem_filter.mpr ⟨h1, ?_⟩)
    simp only [Bool.and_eq_true, Bool.not_eq_true', beq_eq_false_iff_ne, ne_eq, h2, not_false_eq_true, true_and]
    simp only [Bool.and_eq_false_iff, beq_eq_false_iff_ne, ne_eq]
    exact Decidable.or_iff_not_not_and_not.mpr (fun z => h3 ⟨Decidable.not_not.mp z.1, Decidable.not_not.mp z.2⟩)
theorem lvp_st2 {ad : Nat → Nat} {ls : Array Slot} {nL n : Nat} {loc : List Value} {x : Value} (h : lv_has ls nL ((n, tvV ad x) :: (lvp ad 0 loc).filter (fun q => !(q.1 == n) && (!(q.1 == n + 1) && !(q.1 + 1 == n && q.2.category == 2))))) : lv_has ls nL (lvp ad 0 (lsetF (lst1F loc n x) (n + 1) uV)) := by
  refine lv_le h fun q hq => ?_
  rcases lset_in hq with ⟨-, h0⟩ | ⟨hq, h0⟩
  · exact absurd rfl (h0 0)
  rcases lst1_in hq with h1 | ⟨h1, h2, h3⟩
  · rw [Nat.zero_add] at h1
    rw [h1]
    exact List.mem_cons_self
  · rw [Nat.zero_add] at h2 h3 h0
    refine List.mem_cons_of_mem _ (List.mem_filter.mpr ⟨h1, ?_⟩)
    simp only [Bool.and_eq_true, Bool.not_eq_true', beq_eq_false_iff_ne, ne_eq, h2, h0, not_false_eq_true, true_and]
    simp only [Bool.and_eq_false_iff, beq_eq_false_iff_ne, ne_eq]
    exact Decidable.or_iff_not_not_and_not.mpr (fun z => h3 ⟨Decidable.not_not.mp z.1, Decidable.not_not.mp z.2⟩)
/-! the cells -/
def slV (ad : Nat → Nat) (s : Mem) (ci k j : Nat) : Value :=
  match (fkd ci j).1 with
  | 0 => .int (s k j)
  | 1 => .int (s k j)
  | 2 => if s k j = 0 then .null else .ref (ad ((s k j).toNatClampNeg - 1))
  | _ => .ref (ad (k + (fkd ci j).2))
def celV (cA : Nat → ClassId) (ad : Nat → Nat) (s : Mem) (k : Nat) : va_E :=
  match (shp k).1 with
  | 20 => .inl (cA 20, (shp k).2, .inl (s k))
  | 21 => .inl (cA 21, (shp k).2, .inl (s k))
  | 22 => .inl (cA 22, (shp k).2, .inl (s k))
  | 23 => .inl (cA 23, (shp k).2, .inr (.inl (fun j => (s k j).toInt64)))
  | 24 => .inl (cA 24, (shp k).2, .inr (.inr (.inr (.inr (fun i => some (ad (k + 1 + 3 * i)))))))
  | ci => .inr (ci, (List.range (shp k).2).map (slV ad s ci k))
def wsO (cA : Nat → ClassId) (ad : Nat → Nat) (s : Mem) : va_W := (List.range 88).map (fun k => (ad k, celV cA ad s k))
theorem wsO_get {cA : Nat → ClassId} {ad : Nat → Nat} {s : Mem} {k : Nat} (hk : k < 88) : (wsO cA ad s)[k]? = some (ad k, celV cA ad s k) := by
  simp only [wsO, List.getElem?_map, List.getElem?_range hk, Option.map_some]
theorem wsO_at {cA : Nat → ClassId} {ad : Nat → Nat} {s : Mem} {k : Nat} {q : Nat × va_E} (h : (wsO cA ad s)[k]? = some q) : k < 88 ∧ q = (ad k, celV cA ad s k) := by
  have hk : k < 88 := by
    have := (List.getElem?_eq_some_iff.mp h).1
    simpa [wsO] using this
  rw [wsO_get hk] at h
  exact ⟨hk, (Option.some.inj h).symm⟩
theorem celV_congr {cA : Nat → ClassId} {ad : Nat → Nat} {s s' : Mem} {k : Nat} (h : s' k = s k) : celV cA ad s' k = celV cA ad s k := by
  have e : ∀ ci, slV ad s' ci k = slV ad s ci k := fun ci => by
    funext j; unfold slV; rw [h]
  unfold celV
  rw [h]
  simp only [e]
theorem upM_ne {s : Mem} {a k i : Nat} {x : Int32} (h : i ≠ a) : upM s a k x i = s i := by
  funext j; simp [upM, h]
theorem cpM_ne {s : Mem} {a b c d n i : Nat} (h : i ≠ c) : cpM s a b c d n i = s i := by
  funext j; simp [cpM, h]
theorem wsO_set {cA : Nat → ClassId} {ad : Nat → Nat} {s s' : Mem} {k : Nat} {e : va_E} (hk : k < 88) (hne : ∀ i, i ≠ k → s' i = s i) (he : celV cA ad s' k = e) : (wsO cA ad s).set k (ad k, e) = wsO cA ad s' := by
  apply List.ext_getElem?
  intro i
  by_cases hi : i < 88
  · rw [wsO_get hi]
    by_cases hik : i = k
    · subst hik
      rw [List.getElem?_set_self (by simpa [wsO] using hi), he]
    · rw [List.getElem?_set_ne (fun h => hik h.symm), wsO_get hi, celV_congr (hne i hik)]
  · rw [List.getElem?_eq_none (by simp [wsO]; omega), List.getElem?_eq_none (by simp [wsO]; omega)]
theorem wsO_D {A : Nat → Prop} {cA : Nat → ClassId} {ad : Nat → Nat} {s : Mem} (hi : ∀ i j, i < 88 → j < 88 → ad i = ad j → i = j) (hA : ∀ k, k < 88 → A (ad k)) : va_D A (wsO cA ad s) := by
  refine ⟨fun i j p q h1 h2 h3 => ?_, fun k q h => ?_⟩
  · obtain ⟨a1, rfl⟩ := wsO_at h1
    obtain ⟨a2, rfl⟩ := wsO_at h2
    exact hi i j a1 a2 h3
  · obtain ⟨a1, rfl⟩ := wsO_at h
    exact hA k a1
abbrev tyL (cA : Nat → ClassId) : List (ClassId × FieldType) := [(cA 20, .int), (cA 21, .byte), (cA 22, .boolean), (cA 23, .long), (cA 24, .object "SmellMap$Law")]
def cln (s : Mem) (j : Nat) : Nat := match j with | 0 => (s 1008 0).toNatClampNeg | j + 1 => (shp (1001 + j)).2
abbrev lenTx : List Nat := [1, 5, 1, 6]
abbrev bytTx : List (List Int32) := [[121], [112, 102, 104, 107, 119], [110], [107, 114, 99, 102, 117, 112]]
abbrev txL : List (Nat × String × Nat) := [(26, "y", 1010), (32, "pfhkw", 1011), (272, "n", 1012), (278, "krcfup", 1013)]
/-- what stays while a method of ours runs: words that are not kept by themselves, statics, arrays that nobody writes, texts -/
def RW (ad : Nat → Nat) (A : Nat → Prop) (s0 : Mem) (U : State) (H : Heap) : Prop :=
  (∀ z ∈ nestM, va_Nw (.methodLinkNest (cnm z.1) z.2.1 (mnY z.2.2) "SmellMap") U) ∧
  (∀ z ∈ nestF, va_Nw (.fieldLinkNest (cnm z.1) z.2.1 "SmellMap" (stJ z.2.2) "[I" "SmellMap") U) ∧
  (∀ j, j < 7 → va_Z "SmellMap" (stJ j) "[I" (.ref (ad (1001 + j))) A U H) ∧
  (∀ j, j < 8 → va_T .int (ad (1000 + j)) (cln s0 j) (fun i => .int (s0 (1000 + j) i)) A U H) ∧
  (∀ z ∈ txL, vk_R "SmellMapModel" z.1 z.2.1 (ad z.2.2) U) ∧
  (∃ adV : Nat → Nat, vk_S 4 lenTx bytTx (fun i => ad (1010 + i)) adV A U H) ∧ va_Z "java/lang/String" "COMPACT_STRINGS" "Z" (.int 1) A U H ∧ va_Zq "jdk/internal/util/Preconditions" "SIOOBE_FORMATTER" "Ljava/util/function/BiFunction;" A U H
theorem RW.warm {ad : Nat → Nat} {A : Nat → Prop} {s0 : Mem} {s U : State} {H : Heap} (hW : s.WarmedH U.vm) (h : RW ad A s0 s H) : RW ad A s0 U H := by
  obtain ⟨h1, h2, h3, h4, h5, ⟨adV, h7⟩, h8, h9⟩ := h
  exact ⟨fun z hz => va_Nw.warmM hW (h1 z hz), fun z hz => va_Nw.warmF hW (h2 z hz), fun j hj => va_Z.moved hW.alike (h3 j hj), fun j hj => va_T.moved hW.alike (h4 j hj), fun z hz => vk_R.warm hW (h5 z hz), ⟨adV, vk_S.moved hW.alike h7⟩, va_Z.moved hW.alike h8, va_Zq.moved hW.alike h9⟩
theorem RW.same {ad : Nat → Nat} {A : Nat → Prop} {s0 : Mem} {u U : State} {H : Heap} (hv : U.vm = u.vm) (h : RW ad A s0 u H) : RW ad A s0 U H := by
  obtain ⟨h1, h2, h3, h4, h5, ⟨adV, h7⟩, h8, h9⟩ := h
  have ha : u.vm.Alike U.vm := by rw [hv]; exact Vm.Alike.refl _
  exact ⟨fun z hz => va_Nw.same rfl hv.symm (h1 z hz), fun z hz => va_Nw.same rfl hv.symm (h2 z hz), fun j hj => va_Z.moved ha (h3 j hj), fun j hj => va_T.moved ha (h4 j hj), fun z hz => vk_R.same hv (h5 z hz), ⟨adV, vk_S.moved ha h7⟩, va_Z.moved ha h8, va_Zq.moved ha h9⟩
theorem RW.kept {ad : Nat → Nat} {A : Nat → Prop} {s0 : Mem} {U : State} {H H1 : Heap} (h : RW ad A s0 U H) (hq : ∀ a : Nat, a < H.size → ¬ A a → H1[a]? = H[a]?) : RW ad A s0 U H1 := by
  obtain ⟨h1, h2, h3, h4, h5, ⟨adV, h7⟩, h8, h9⟩ := h
  exact ⟨h1, h2, fun j hj => (h3 j hj).kept hq, fun j hj => (h4 j hj).kept hq, h5, ⟨adV, h7.kept hq⟩, h8.kept hq, h9.kept hq⟩
theorem RW.narrow {ad : Nat → Nat} {A B : Nat → Prop} {s0 : Mem} {U : State} {H : Heap} (h : RW ad A s0 U H) (hAB : ∀ q, B q → A q) : RW ad B s0 U H := by
  obtain ⟨h1, h2, h3, h4, h5, ⟨adV, h7⟩, h8, h9⟩ := h
  exact ⟨h1, h2, fun j hj => (h3 j hj).narrow hAB, fun j hj => (h4 j hj).narrow hAB, h5, ⟨adV, h7.narrow hAB⟩, h8.narrow hAB, h9.narrow hAB⟩
theorem RW.mem {ad : Nat → Nat} {A : Nat → Prop} {s0 s1 : Mem} {U : State} {H : Heap} (h : RW ad A s0 U H) (hs : ∀ j, 1000 ≤ j → s1 j = s0 j) : RW ad A s1 U H := by
  obtain ⟨h1, h2, h3, h4, h5, h7⟩ := h
  refine ⟨h1, h2, h3, fun j hj => ?_, h5, h7⟩
  have e : cln s1 j = cln s0 j := by
    cases j
    · simp only [cln, hs 1008 (by omega)]
    · rfl
  rw [e, hs _ (by omega)]
  exact h4 j hj
def agM (s1 s0 : Mem) : Prop := ∀ j, 1000 ≤ j → s1 j = s0 j
