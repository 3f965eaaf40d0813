/-! SOUNDNESS of the instructions that touch cells -/
/-- what a method's body stands on -/
def CX (p : Program) (m : MethodId) (c : Code) (s : State) (args : Array Value) (D : va_G) (cA : Nat → ClassId) (ad : Nat → Nat) (A : Nat → Prop) (mm : Nat) (s0 : Mem) : Prop :=
  p.tables.exec = Jvm.exec ∧ c.code = mnB mm ∧ c.maxLocals = (pmeta mm).2.1 ∧ s.vm.findClass (cnm (pmeta mm).1) = some m.cls ∧ (∀ w ∈ gT, w.before args s = true) ∧ va_K D cl10 (tyL cA) s ∧ RW ad A s0 s s.heap ∧ (∀ i j, i < 88 → j < 88 → ad i = ad j → i = j) ∧ (∀ k, k < 88 → A (ad k)) ∧ (∀ q, s.heap.size ≤ q → A q)
/-- a state of the body: the cells are the memory's, the locals the list's -/
def XJ (p : Program) (l : Launch) (e : Env) (R : Room) (s : State) (m : MethodId) (args : Array Value) (below : List Frame) (meth : Method) (c : Code) (Q : State → Prop) (D : va_G) (cA : Nat → ClassId) (ad : Nat → Nat) (A : Nat → Prop) (mm : Nat) (s0 : Mem) (nc ns : Nat) : Cont := fun pc loc stk g =>
  ∀ (H : Heap) (locs : List Loc) (ls : Array Slot), va_P D cl10 (wsO cA ad g) H → va_S A s.heap H locs → lv_has ls (pmeta mm).2.1 (lvp ad 0 loc) → agM g s0 → W p l e R s m args below meth c H locs nc ns Q (F0 m pc ls (stk.map (tvV ad)))
theorem and1 {x : Int32} (h : x &&& 1 = x) : x = 0 ∨ x = 1 := by
  obtain ⟨j, hj, e⟩ := pk_andE x (m := 1) 1 (by decide)
  rw [h] at e
  rcases (by omega : j = 0 ∨ j = 1) with rfl | rfl
  · exact Or.inl e
  · exact Or.inr e
section Snd
variable {p : Program} {l : Launch} {e : Env} {R : Room} {s : State} {m : MethodId} {args : Array Value} {below : List Frame} {meth : Method} {c : Code} {Q : State → Prop}
variable {D : va_G} {cA : Nat → ClassId} {ad : Nat → Nat} {A : Nat → Prop} {mm : Nat} {s0 : Mem} {nc ns : Nat}
variable {pc i : Nat} {loc stk : List Value} {g : Mem} {H : Heap} {locs : List Loc} {ls : Array Slot}
theorem agM_up {g s0 : Mem} {a k : Nat} {x : Int32} (h : agM g s0) (ha : a < 1000) : agM (upM g a k x) s0 := fun j hj => by rw [upM_ne (by omega)]; exact h j hj
theorem sd_getF (hX : CX p m c s args D cA ad A mm s0) (hd : decode (mnB mm) pc = .ok (.getfield i, 3)) (h : getF (XJ p l e R s m args below meth c Q D cA ad A mm s0 nc ns) (pc + 3) loc stk g (cpf (pmeta mm).1 i)) (hP : va_P D cl10 (wsO cA ad g) H) (hS : va_S A s.heap H locs) (hl : lv_has ls (pmeta mm).2.1 (lvp ad 0 loc)) (ha : agM g s0) : W p l e R s m args below meth c H locs nc ns Q (F0 m pc ls (stk.map (tvV ad))) := by
  obtain ⟨hx, hb, -, hown, hts, hK, -⟩ := hX
  obtain ⟨ci, j, fk, off, a, r, v, he, rfl, hs, hk, hv⟩ := getF_inv h
  have ok := okF_all _ _ _ he
  simp only [okF, Bool.and_eq_true, decide_eq_true_eq] at ok
  obtain ⟨o1, o2, o3, o4, o5, o6, -⟩ := ok
  have hci : ci < 10 := Nat.le_of_ble_eq_true o1
  have hj : j < nfF ci := Nat.le_of_ble_eq_true o2
  have hw := wsO_get (cA := cA) (ad := ad) (s := g) (shp_obj hs hci).1
  rw [celV_obj hs hci] at hw
  refine va_get (D := D) (ci := ci) (v := tvV ad v) (C := cnm ci) (T := fTT ci) (N := nfF ci) hx hb hts (fW_at hci) hown hK hP a hw (cl10_at hci) j hj (hts _ (inG_mem o3)) (fun x hx => by rw [o4] at hx; exact hx) ?_ hd (hk H locs ls hP hS hl ha)
  rw [List.getElem?_map, List.getElem?_range hj, Option.map_some, sl_fv o5 hv]
theorem sd_putF (hX : CX p m c s args D cA ad A mm s0) (hd : decode (mnB mm) pc = .ok (.putfield i, 3)) (h : putF (XJ p l e R s m args below meth c Q D cA ad A mm s0 nc ns) (pc + 3) loc stk g (cpf (pmeta mm).1 i)) (hP : va_P D cl10 (wsO cA ad g) H) (hS : va_S A s.heap H locs) (hl : lv_has ls (pmeta mm).2.1 (lvp ad 0 loc)) (ha : agM g s0) : W p l e R s m args below meth c H locs nc ns Q (F0 m pc ls (stk.map (tvV ad))) := by
  obtain ⟨hx, hb, -, hown, hts, hK, -, hinj, hAk, -⟩ := hX
  obtain ⟨ci, j, fk, off, a, r, v, g', he, rfl, hs, hk, hv⟩ := putF_inv h
  have ok := okF_all _ _ _ he
  simp only [okF, Bool.and_eq_true, decide_eq_true_eq] at ok
  obtain ⟨o1, o2, o3, o4, o5, o6, o7⟩ := ok
  have hci : ci < 10 := Nat.le_of_ble_eq_true o1
  have hj : j < nfF ci := Nat.le_of_ble_eq_true o2
  have hak := (shp_obj hs hci).1
  have hw := wsO_get (cA := cA) (ad := ad) (s := g) hak
  rw [celV_obj hs hci] at hw
  have hty := fP_at hci j hj
  have hup : ∀ x : Int32, fkd ci j = (fk, off) → (∀ i', i' ≠ a → upM g a j x i' = g i') := fun x _ i' hi' => upM_ne hi'
  -- the kinds of field that are written
  have hfin : Nat.beq fk 3 = false → (fTT ci j).2.2.2 = false := fun h3 => by
    rw [h3, Bool.false_or] at o7
    simp only [Bool.and_eq_true, decide_eq_true_eq] at o7
    exact o7.1
  have key : ∀ (x : Int32) (w : Value) (ty : FieldType), g' = upM g a j x → Nat.beq fk 3 = false → fYY ci j = ty → narrow ty w = w → fits ty w = true → slV ad g' ci a j = w → v = v → tvV ad v = w → W p l e R s m args below meth c H locs nc ns Q (F0 m pc ls ((v :: .ref a :: r).map (tvV ad))) := by
    intro x w ty hg h3 hy hn hf hsl _ hvw
    show W p l e R s m args below meth c H locs nc ns Q (F0 m pc ls (tvV ad v :: .ref (ad a) :: r.map (tvV ad)))
    rw [hvw]
    refine va_put (D := D) (ci := ci) (v := w) (ty := ty) (C := cnm ci) (T := fTT ci) (N := nfF ci) hx hb hts (fW_at hci) (fYY ci) (fP_at hci) (fN_at hci) hown hK hP (wsO_D hinj hAk) hS a hw (cl10_at hci) j hj (hts _ (inG_mem o3)) (fun x hx => by rw [o4] at hx; exact hx) (hfin h3) (by rw [← hy]; exact hty) hn hf (by simpa using hj) hd (fun H1 locs1 hP1 _ hS1 => ?_)
    have hset : (wsO cA ad g).set a (ad a, .inr (ci, ((List.range (nfF ci)).map (slV ad g ci a)).set j w)) = wsO cA ad g' := by
      refine wsO_set hak (fun i' hi' => by rw [hg]; exact upM_ne hi') ?_
      rw [celV_obj hs hci]
      congr 2
      apply List.ext_getElem?
      intro q
      by_cases hq : q < nfF ci
      · rw [List.getElem?_map, List.getElem?_range hq, Option.map_some]
        by_cases hqj : q = j
        · subst hqj
          rw [List.getElem?_set_self (by simpa using hq), hsl]
        · rw [List.getElem?_set_ne (fun z => hqj z.symm), List.getElem?_map, List.getElem?_range hq, Option.map_some]
          congr 1
          unfold slV
          rw [hg]
          simp only [upM, if_true, hqj, if_false]
      · rw [List.getElem?_eq_none (by simp; omega), List.getElem?_eq_none (by simp; omega)]
    rw [hset] at hP1
    exact hk H1 locs1 ls hP1 hS1 hl (by rw [hg]; exact agM_up ha (by have := hak; omega))
  unfold pvOk at hv
  split at hv
  · obtain ⟨x, rfl, hg⟩ := hv
    have hy : fYY ci j = .int := by
      simp only [Nat.beq, Bool.false_or, Bool.and_eq_true, cond_true, decide_eq_true_eq] at o7
      exact o7.2
    refine key x (.int x) .int hg rfl hy rfl rfl ?_ rfl rfl
    rw [hg]; unfold slV; rw [o5]; simp [upM]
  · obtain ⟨x, rfl, hx1, hg⟩ := hv
    have hy : fYY ci j = .boolean := by
      simp only [Nat.beq, Bool.false_or, Bool.and_eq_true, cond_true, cond_false, decide_eq_true_eq] at o7
      exact o7.2
    have hn : narrow .boolean (.int x) = .int x := by simp [narrow, hx1]
    refine key x (.int x) .boolean hg rfl hy hn ?_ ?_ rfl rfl
    · rcases and1 hx1 with rfl | rfl <;> rfl
    · rw [hg]; unfold slV; rw [o5]; simp [upM]
  · obtain ⟨q, rfl, hq, hg⟩ := hv
    have hy : refKind (fYY ci j) = true := by
      simp only [Nat.beq, Bool.false_or, Bool.and_eq_true, cond_false, decide_eq_true_eq] at o7
      exact o7.2
    have hz : ¬ Int32.ofNat (q + 1) = 0 := by
      intro z
      have h2 : (Int32.ofNat (q + 1)).toNatClampNeg = q + 1 := Int32.toNatClampNeg_ofNat_of_lt (by omega)
      rw [z] at h2
      have h3 : (0 : Int32).toNatClampNeg = 0 := by decide
      omega
    refine key (Int32.ofNat (q + 1)) (.ref (ad q)) (fYY ci j) hg rfl rfl ?_ ?_ ?_ rfl rfl
    · cases hyy : fYY ci j <;> rfl
    · cases hyy : fYY ci j <;> rw [hyy] at hy <;> first | rfl | exact absurd hy (by decide)
    · rw [hg]; unfold slV; rw [o5]
      simp only [upM, if_true, hz, if_false]
      rw [Int32.toNatClampNeg_ofNat_of_lt (by omega)]
      rfl
  · exact hv.elim
theorem sd_iald (hX : CX p m c s args D cA ad A mm s0) (hd : decode (mnB mm) pc = .ok (.iaload, 1)) (h : arL (XJ p l e R s m args below meth c Q D cA ad A mm s0 nc ns) (pc + 1) loc stk g 20) (hP : va_P D cl10 (wsO cA ad g) H) (hS : va_S A s.heap H locs) (hl : lv_has ls (pmeta mm).2.1 (lvp ad 0 loc)) (ha : agM g s0) : W p l e R s m args below meth c H locs nc ns Q (F0 m pc ls (stk.map (tvV ad))) := by
  obtain ⟨hx, hb, -, hown, hts, hK, hRW, -⟩ := hX
  obtain ⟨i, a, r, rfl, hs, hin, hk⟩ := arL_inv h
  rcases shp_int hs with hak | hak
  · have hw := wsO_get (cA := cA) (ad := ad) (s := g) hak
    have hc : celV cA ad g a = .inl (cA 20, (shp a).2, .inl (g a)) := by unfold celV; rw [hs]; rfl
    rw [hc] at hw
    exact va_iald hx hb hK hP a 0 hw rfl hin hd (hk H locs ls hP hS hl ha)
  · obtain ⟨j, hj, rfl⟩ : ∃ j, j < 7 ∧ a = 1000 + (j + 1) := ⟨a - 1001, by omega, by omega⟩
    have hT := hRW.2.2.2.1 (j + 1) (by omega)
    have e1 : cln s0 (j + 1) = (shp (1000 + (j + 1))).2 := by
      show (shp (1001 + j)).2 = _
      rw [show 1001 + j = 1000 + (j + 1) by omega]
    rw [e1] at hT
    refine va_ti hx hb hT hS hin ?_ hd (hk H locs ls hP hS hl ha)
    rw [ha _ (by omega)]; rfl
theorem sd_scL (hX : CX p m c s args D cA ad A mm s0) (hd : decode (mnB mm) pc = .ok (.iaload, 1)) (h : scL (XJ p l e R s m args below meth c Q D cA ad A mm s0 nc ns) (pc + 1) loc stk g) (hP : va_P D cl10 (wsO cA ad g) H) (hS : va_S A s.heap H locs) (hl : lv_has ls (pmeta mm).2.1 (lvp ad 0 loc)) (ha : agM g s0) : W p l e R s m args below meth c H locs nc ns Q (F0 m pc ls (stk.map (tvV ad))) := by
  obtain ⟨hx, hb, -, hown, hts, hK, hRW, -⟩ := hX
  obtain ⟨i, r, rfl, hin, hk⟩ := scL_inv h
  have hT := hRW.2.2.2.1 0 (by omega)
  refine va_ti hx hb hT hS (by rw [ha 1008 (by omega)] at hin; exact hin) ?_ hd (hk H locs ls hP hS hl ha)
  rw [ha 1000 (by omega)]; rfl
theorem sd_scN (hX : CX p m c s args D cA ad A mm s0) (hd : decode (mnB mm) pc = .ok (.arraylength, 1)) (h : scN (XJ p l e R s m args below meth c Q D cA ad A mm s0 nc ns) (pc + 1) loc stk g) (hP : va_P D cl10 (wsO cA ad g) H) (hS : va_S A s.heap H locs) (hl : lv_has ls (pmeta mm).2.1 (lvp ad 0 loc)) (ha : agM g s0) : W p l e R s m args below meth c H locs nc ns Q (F0 m pc ls (stk.map (tvV ad))) := by
  obtain ⟨hx, hb, -, hown, hts, hK, hRW, -⟩ := hX
  obtain ⟨r, rfl, hn, hk⟩ := scN_inv h
  have hT := hRW.2.2.2.1 0 (by omega)
  refine va_tlen hx hb hT hS ?_ hd (hk H locs ls hP hS hl ha)
  show Int32.ofNat (s0 1008 0).toNatClampNeg = _
  rw [ha 1008 (by omega)] at hn ⊢
  obtain ⟨j, hj, e⟩ := nI_of hn
  rw [e]
  show Int32.ofNat (nI j).toNatClampNeg = nI j
  rw [nI_clamp hj]
  rfl
theorem sd_bald (hX : CX p m c s args D cA ad A mm s0) (hd : decode (mnB mm) pc = .ok (.baload, 1)) (h : arB (XJ p l e R s m args below meth c Q D cA ad A mm s0 nc ns) (pc + 1) loc stk g) (hP : va_P D cl10 (wsO cA ad g) H) (hS : va_S A s.heap H locs) (hl : lv_has ls (pmeta mm).2.1 (lvp ad 0 loc)) (ha : agM g s0) : W p l e R s m args below meth c H locs nc ns Q (F0 m pc ls (stk.map (tvV ad))) := by
  obtain ⟨hx, hb, -, hown, hts, hK, hRW, -⟩ := hX
  obtain ⟨i, a, r, rfl, hs, hin, hk⟩ := arB_inv h
  have hak : a < 88 := shp_arr (by omega) (by omega)
  have hw := wsO_get (cA := cA) (ad := ad) (s := g) hak
  rcases hs with hs | hs
  · have hc : celV cA ad g a = .inl (cA 21, (shp a).2, .inl (g a)) := by unfold celV; rw [hs]; rfl
    rw [hc] at hw
    exact va_bald hx hb hK hP a 1 hw rfl hin hd (hk H locs ls hP hS hl ha)
  · have hc : celV cA ad g a = .inl (cA 22, (shp a).2, .inl (g a)) := by unfold celV; rw [hs]; rfl
    rw [hc] at hw
    exact va_zald hx hb hK hP a 2 hw rfl hin hd (hk H locs ls hP hS hl ha)
theorem upM_self {g : Mem} {a k : Nat} {x : Int32} : upM g a k x a = upd (g a) k x := by
  funext j; simp [upM, upd]
theorem sd_iast (hX : CX p m c s args D cA ad A mm s0) (hd : decode (mnB mm) pc = .ok (.iastore, 1)) (h : asI (XJ p l e R s m args below meth c Q D cA ad A mm s0 nc ns) (pc + 1) loc stk g) (hP : va_P D cl10 (wsO cA ad g) H) (hS : va_S A s.heap H locs) (hl : lv_has ls (pmeta mm).2.1 (lvp ad 0 loc)) (ha : agM g s0) : W p l e R s m args below meth c H locs nc ns Q (F0 m pc ls (stk.map (tvV ad))) := by
  obtain ⟨hx, hb, -, hown, hts, hK, hRW, hinj, hAk, -⟩ := hX
  obtain ⟨x, i, a, r, rfl, hs, hle, hin, hk⟩ := asI_inv h
  have hak : a < 88 := by rcases shp_int hs with h1 | h1 <;> omega
  have hw := wsO_get (cA := cA) (ad := ad) (s := g) hak
  have hc : ∀ g : Mem, celV cA ad g a = .inl (cA 20, (shp a).2, .inl (g a)) := fun g => by unfold celV; rw [hs]; rfl
  rw [hc] at hw
  refine va_iast hx hb hK hP (wsO_D hinj hAk) hS a 0 hw rfl hin hd (fun H1 locs1 hP1 _ hS1 => ?_)
  rw [wsO_set hak (fun i' hi' => upM_ne hi') (by rw [hc, upM_self])] at hP1
  exact hk H1 locs1 ls hP1 hS1 hl (agM_up ha (by omega))
theorem sd_bast (hX : CX p m c s args D cA ad A mm s0) (hd : decode (mnB mm) pc = .ok (.bastore, 1)) (h : asB (XJ p l e R s m args below meth c Q D cA ad A mm s0 nc ns) (pc + 1) loc stk g) (hP : va_P D cl10 (wsO cA ad g) H) (hS : va_S A s.heap H locs) (hl : lv_has ls (pmeta mm).2.1 (lvp ad 0 loc)) (ha : agM g s0) : W p l e R s m args below meth c H locs nc ns Q (F0 m pc ls (stk.map (tvV ad))) := by
  obtain ⟨hx, hb, -, hown, hts, hK, hRW, hinj, hAk, -⟩ := hX
  obtain ⟨x, i, a, r, rfl, hin, ⟨hs, hk⟩ | ⟨hs, hk⟩⟩ := asB_inv h
  · have hak : a < 88 := shp_arr (by omega) (by omega)
    have hw := wsO_get (cA := cA) (ad := ad) (s := g) hak
    have hc : ∀ g : Mem, celV cA ad g a = .inl (cA 21, (shp a).2, .inl (g a)) := fun g => by unfold celV; rw [hs]; rfl
    rw [hc] at hw
    refine va_bast hx hb hK hP (wsO_D hinj hAk) hS a 1 hw rfl hin hd (fun H1 locs1 hP1 _ hS1 => ?_)
    rw [vp_nar_byte, wsO_set hak (fun i' hi' => upM_ne hi') (by rw [hc, upM_self])] at hP1
    exact hk H1 locs1 ls hP1 hS1 hl (agM_up ha (by omega))
  · have hak : a < 88 := shp_arr (by omega) (by omega)
    have hw := wsO_get (cA := cA) (ad := ad) (s := g) hak
    have hc : ∀ g : Mem, celV cA ad g a = .inl (cA 22, (shp a).2, .inl (g a)) := fun g => by unfold celV; rw [hs]; rfl
    rw [hc] at hw
    refine va_zast hx hb hK hP (wsO_D hinj hAk) hS a 2 hw rfl hin hd (fun H1 locs1 hP1 _ hS1 => ?_)
    have hz : vp_nar .boolean x = x &&& 1 := rfl
    rw [hz, wsO_set hak (fun i' hi' => upM_ne hi') (by rw [hc, upM_self])] at hP1
    exact hk H1 locs1 ls hP1 hS1 hl (agM_up ha (by omega))
theorem sd_alen (hX : CX p m c s args D cA ad A mm s0) (hd : decode (mnB mm) pc = .ok (.arraylength, 1)) (h : arN (XJ p l e R s m args below meth c Q D cA ad A mm s0 nc ns) (pc + 1) loc stk g) (hP : va_P D cl10 (wsO cA ad g) H) (hS : va_S A s.heap H locs) (hl : lv_has ls (pmeta mm).2.1 (lvp ad 0 loc)) (ha : agM g s0) : W p l e R s m args below meth c H locs nc ns Q (F0 m pc ls (stk.map (tvV ad))) := by
  obtain ⟨hx, hb, -, hown, hts, hK, hRW, -⟩ := hX
  obtain ⟨a, r, rfl, h1, h2, hk⟩ := arN_inv h
  have fin : ∀ (hak : a < 88) (t0 : Nat) (ty : FieldType) (x : vp_A) (kd : Nat), celV cA ad g a = .inl (cA kd, x) → x.1 = (shp a).2 → (tyL cA)[t0]? = some (cA kd, ty) → W p l e R s m args below meth c H locs nc ns Q (F0 m pc ls ((Value.ref a :: r).map (tvV ad))) := by
    intro hak t0 ty x kd e1 e2 e3
    have hw := wsO_get (cA := cA) (ad := ad) (s := g) hak
    rw [e1] at hw
    exact va_alen hx hb hK hP a t0 hw e3 (by rw [e2]) hd (hk H locs ls hP hS hl ha)
  rcases (by omega : (shp a).1 = 20 ∨ (shp a).1 = 21 ∨ (shp a).1 = 22 ∨ (shp a).1 = 23 ∨ (shp a).1 = 24) with hs | hs | hs | hs | hs
  · rcases shp_int hs with hak | hak
    · exact fin hak 0 .int _ 20 (by unfold celV; rw [hs]; rfl) rfl rfl
    · obtain ⟨j, hj, rfl⟩ : ∃ j, j < 7 ∧ a = 1000 + (j + 1) := ⟨a - 1001, by omega, by omega⟩
      have hT := hRW.2.2.2.1 (j + 1) (by omega)
      have e1 : cln s0 (j + 1) = (shp (1000 + (j + 1))).2 := by
        show (shp (1001 + j)).2 = _
        rw [show 1001 + j = 1000 + (j + 1) by omega]
      rw [e1] at hT
      exact va_tlen hx hb hT hS rfl hd (hk H locs ls hP hS hl ha)
  · exact fin (shp_arr (by omega) (by omega)) 1 .byte _ 21 (by unfold celV; rw [hs]; rfl) rfl rfl
  · exact fin (shp_arr (by omega) (by omega)) 2 .boolean _ 22 (by unfold celV; rw [hs]; rfl) rfl rfl
  · exact fin (shp_arr (by omega) (by omega)) 3 .long _ 23 (by unfold celV; rw [hs]; rfl) rfl rfl
  · exact fin (shp_arr (by omega) (by omega)) 4 (.object "SmellMap$Law") _ 24 (by unfold celV; rw [hs]; rfl) rfl rfl
theorem sd_lald (hX : CX p m c s args D cA ad A mm s0) (hd : decode (mnB mm) pc = .ok (.laload, 1)) {i : Int32} {a : Nat} {r : List Value} (hs : (shp a).1 = 23) (hin : vp_in i (shp a).2) (hk : XJ p l e R s m args below meth c Q D cA ad A mm s0 nc ns (pc + 1) loc (.long (g a i.toNatClampNeg).toInt64 :: r) g) (hP : va_P D cl10 (wsO cA ad g) H) (hS : va_S A s.heap H locs) (hl : lv_has ls (pmeta mm).2.1 (lvp ad 0 loc)) (ha : agM g s0) : W p l e R s m args below meth c H locs nc ns Q (F0 m pc ls ((Value.int i :: .ref a :: r).map (tvV ad))) := by
  obtain ⟨hx, hb, -, hown, hts, hK, hRW, -⟩ := hX
  have hw := wsO_get (cA := cA) (ad := ad) (s := g) (shp_arr (by omega) (by omega) : a < 88)
  have hc : celV cA ad g a = .inl (cA 23, (shp a).2, .inr (.inl (fun j => (g a j).toInt64))) := by unfold celV; rw [hs]; rfl
  rw [hc] at hw
  exact va_lald hx hb hK hP a 3 hw rfl hin hd (hk H locs ls hP hS hl ha)
theorem sd_aald (hX : CX p m c s args D cA ad A mm s0) (hd : decode (mnB mm) pc = .ok (.aaload, 1)) {i : Int32} {a : Nat} {r : List Value} (hs : (shp a).1 = 24) (hin : vp_in i (shp a).2) (hk : XJ p l e R s m args below meth c Q D cA ad A mm s0 nc ns (pc + 1) loc (.ref (a + 1 + 3 * i.toNatClampNeg) :: r) g) (hP : va_P D cl10 (wsO cA ad g) H) (hS : va_S A s.heap H locs) (hl : lv_has ls (pmeta mm).2.1 (lvp ad 0 loc)) (ha : agM g s0) : W p l e R s m args below meth c H locs nc ns Q (F0 m pc ls ((Value.int i :: .ref a :: r).map (tvV ad))) := by
  obtain ⟨hx, hb, -, hown, hts, hK, hRW, -⟩ := hX
  have hw := wsO_get (cA := cA) (ad := ad) (s := g) (shp_arr (by omega) (by omega) : a < 88)
  have hc : celV cA ad g a = .inl (cA 24, (shp a).2, .inr (.inr (.inr (.inr (fun i => some (ad (a + 1 + 3 * i))))))) := by unfold celV; rw [hs]; rfl
  rw [hc] at hw
  exact va_aldq hx hb hK hP a 4 hw rfl hin hd (hk H locs ls hP hS hl ha)
end Snd
