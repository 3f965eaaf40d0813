/-! SOUNDNESS of any instruction; of a method -/
theorem bhQ_4 {rk : Nat} {k : Cont} {np : Nat} {loc r : List Value} (h : 4 ≤ rk) : bhQ rk k np loc r = liR (fun q s' => k np loc (.ref q :: r) s') (fun s' => k np loc (.null :: r) s') := by
  obtain ⟨j, rfl⟩ : ∃ j, rk = j + 4 := ⟨rk - 4, by omega⟩
  rfl
theorem ldcwS {p : Program} {l : Launch} {e : Env} {R : Room} {s : State} {m : MethodId} {args : Array Value} {below : List Frame} {meth : Method} {c : Code} {H : Heap} {locs : List Loc} {cells slots : Nat} {Q : State → Prop} {cc : ByteArray} {pc : Nat} {ls : Array Slot} {rest : List Value} (hexec : p.tables.exec = Jvm.exec) (hb : c.code = cc) {own tx : String} {index a : Nat} (hown : s.vm.findClass own = some m.cls) (hZ : vk_R own index tx a s) (hdg : decode cc pc = .ok (.ldc_w index, 3))
    (k : W p l e R s m args below meth c H locs cells slots Q (F0 m (pc + 3) ls (.ref a :: rest))) : W p l e R s m args below meth c H locs cells slots Q (F0 m pc ls rest) := by
  have h1 : (Cond.stringRef own index tx).before args s = true := hZ.1
  have h2 : (Term.string own index).eval args s none [] s = some (.ref a) := hZ.2
  intro T hT X
  obtain ⟨t, a1, b1⟩ := k T hT X
  refine ⟨t, ?_, b1⟩
  subst hb
  obtain ⟨k, cf, i, a', hk, hcf, hcp, -, hr, hev'⟩ := Cond.stringRef_spec hown h1
  cases h2.symm.trans hev'
  obtain ⟨k', hk', he⟩ := X.warmed.alike.2.2 _ _ hk
  have hr' : k'.resolved[index]? = some (some (.string a)) := by
    rcases X.warmed.entry hk hk' index with h | ⟨h, -⟩
    · rw [h]; exact hr
    · rw [hr] at h; cases h
  jvm_step X.here [hexec, hdg, ldc_w.wp_string (e := e) (s := T) (f := F0 m pc ls rest) X.here.top hk' (by rw [he]; exact hcf) hcp hr']
  exact a1
section Snd
variable {p : Program} {l : Launch} {e : Env} {R : Room} {s : State} {m : MethodId} {args : Array Value} {below : List Frame} {meth : Method} {c : Code} {Q : State → Prop}
variable {D : va_G} {cA : Nat → ClassId} {ad : Nat → Nat} {A : Nat → Prop} {mm : Nat} {s0 : Mem} {nc ns : Nat}
variable {pc i : Nat} {loc stk : List Value} {g : Mem} {H : Heap} {locs : List Loc} {ls : Array Slot}
theorem sd_fin (hX : CX p m c s args D cA ad A mm s0) {m' rk : Nat} {r : List Value} {st0 : List Value} {aa : Array Value}
    (hr : va_Run p l e R s m args below meth c H locs nc ns 0 0 (F0 m pc ls st0) (r.map (tvV ad)) (QRM D cA ad rk (bhQ rk (XJ p l e R s m args below meth c Q D cA ad A mm s0 nc ns) (pc + 3) loc r) g H.size aa) (AR ad H.size)) (hS : va_S A s.heap H locs) (hl : lv_has ls (pmeta mm).2.1 (lvp ad 0 loc)) (ha : agM g s0) : W p l e R s m args below meth c H locs nc ns Q (F0 m pc ls st0) := by
  refine sd_back hX (cl := wp 0) (m' := 0) (as := []) (rk := rk) (r := r) (bhQ rk (XJ p l e R s m args below meth c Q D cA ad A mm s0 nc ns) (pc + 3) loc r) ?_ ?_ ?_ ?_ hr hS hl ha
  · intro e u h; rw [e] at h; exact h
  · intro e x u h
    rcases e with e | e <;> (rw [e] at h; exact h)
  · intro e x u h; rw [e] at h; exact h
  · intro e; rw [bhQ_4 e]; exact ⟨fun k u h => h, fun u h => h⟩
def PrimOk (p : Program) (l : Launch) (e : Env) (R : Room) (s : State) (m : MethodId) (args : Array Value) (below : List Frame) (meth : Method) (c : Code) (Q : State → Prop) (D : va_G) (cA : Nat → ClassId) (ad : Nat → Nat) (A : Nat → Prop) (mm : Nat) (s0 : Mem) (nc ns : Nat) (cl : Call) : Prop :=
  ∀ (pc i m' n ci rk : Nat) (as r loc : List Value) (g : Mem) (H : Heap) (locs : List Loc) (ls : Array Slot), 899 < m' → m' ≠ 900 → cpm (pmeta mm).1 i = some (m', n, ci, rk) → decode (mnB mm) pc = .ok (.invokestatic i, 3) → as.length = n → catL r ≤ 8 → cl m' as g (bhQ rk (XJ p l e R s m args below meth c Q D cA ad A mm s0 nc ns) (pc + 3) loc r) →
    va_P D cl10 (wsO cA ad g) H → va_S A s.heap H locs → lv_has ls (pmeta mm).2.1 (lvp ad 0 loc) → agM g s0 → W p l e R s m args below meth c H locs nc ns Q (F0 m pc ls ((as.reverse ++ r).map (tvV ad)))
theorem sd_ivV (hX : CX p m c s args D cA ad A mm s0) (hN : nc ≤ R.cells ∧ ns ≤ R.slots) {rm : Room} (hrm : rm.cells = 0 ∧ rm.slots = 0 ∧ rm.frames + 1 ≤ R.frames ∧ 31 + rm.locals ≤ R.locals) {cl : Call} (hC : CallOk l D cA ad rm cl) (hd : decode (mnB mm) pc = .ok (.invokevirtual i, 3)) (hkn : knd (pmeta mm).1 i = 1) (h : ivV cl (XJ p l e R s m args below meth c Q D cA ad A mm s0 nc ns) (pc + 3) loc stk g (cpm (pmeta mm).1 i)) (hP : va_P D cl10 (wsO cA ad g) H) (hS : va_S A s.heap H locs) (hl : lv_has ls (pmeta mm).2.1 (lvp ad 0 loc)) (ha : agM g s0) : W p l e R s m args below meth c H locs nc ns Q (F0 m pc ls (stk.map (tvV ad))) := by
  have hX' := hX
  obtain ⟨hx, hb, hml, hown, hts, hK, hRW, hinj, hAk, -⟩ := hX'
  unfold ivV at h
  split at h
  · exact h.elim
  next m' n ci rk he =>
  obtain ⟨as, r0, hn, rfl, h3⟩ := takK_inv h
  clear h
  rw [List.append_nil] at h3
  have h := h3
  clear h3
  split at h
  · next a r =>
    obtain ⟨h1, h2⟩ := bif_inv h
    rw [Bool.and_eq_true] at h1
    have hcat := Nat.le_of_ble_eq_true h1.1
    have hsh := Nat.eq_of_beq_eq_true h1.2
    have ok := okC_all _ _ _ he
    unfold okC at ok
    split at ok
    · next m1 n1 ci1 rk1 p1 p2 p3 p4 e1 _ =>
      cases e1
      rw [hkn] at ok
      simp only [Bool.and_eq_true, decide_eq_true_eq, okN, show Nat.beq 1 1 = true from rfl, cond_true] at ok
      obtain ⟨o1, o2, ⟨⟨o3, o4⟩, o5⟩, o6, o7, o8, o9, o10, o11⟩ := ok
      have hm' : m' < 258 := Nat.le_of_ble_eq_true o1
      have hci : ci < 10 := Nat.le_of_ble_eq_true o11
      have hrk : rk = (pmeta m').2.2 := Nat.eq_of_beq_eq_true o2
      have hM := hC m' (.ref a :: as) g _ hm' (bhC_Q h2) H.size
      rw [← hrk] at hM
      have hw := wsO_get (cA := cA) (ad := ad) (s := g) (shp_obj hsh hci).1
      rw [celV_obj hsh hci] at hw
      have cw : CallW R s args (cnm (pmeta mm).1) (cnm ci) i (mnY m') (mnB m') (pmeta m').2.1 (mnR m') (wsM m') rm 0 0 n :=
        cwV n hts (gi (fun w hw => by
          rcases List.mem_append.mp hw with hw | hw
          · simp only [List.mem_cons, List.not_mem_nil, or_false] at hw
            rcases hw with rfl | rfl | rfl | rfl
            · exact inG_mem o6
            · exact inG_mem o7
            · exact inG_mem o8
            · exact inG_mem o9
          · exact wsM_in hm' w hw)) rfl hrm.1 hrm.2.1 ⟨o10, o4.1, o4.2, o5⟩ ⟨hrm.2.2.1, by have := Nat.le_of_ble_eq_true o3; omega⟩
      refine sd_fin hX (m' := m') (rk := rk) (r := r) (va_runV (As := as.map (tvV ad)) (rest := r.map (tvV ad)) (b := ad a) ⟨hx, hb, hml, hown, hts⟩ hM cw ⟨PRM_blind, va_recv hK hP (cl10_at hci) hw, pre_U hX hP hS ha⟩ rfl (by simpa using hn) hl.1 (by simp [tvV]) (lv_room (by rw [catL_sum]; exact hcat)) hd hN) hS hl ha
    · next m1 n1 ci1 rk1 e1 _ =>
      rw [hkn] at ok
      exact Bool.noConfusion (show false = true from ok)
  · exact h.elim
theorem sd_ivS (hX : CX p m c s args D cA ad A mm s0) (hN : nc ≤ R.cells ∧ ns ≤ R.slots) (h900 : ∀ m' n ci rk, cpm (pmeta mm).1 i = some (m', n, ci, rk) → m' ≠ 900) (hR : 1 ≤ R.frames ∧ 40 ≤ R.locals) {rm : Room} (hrm : rm.cells = 0 ∧ rm.slots = 0 ∧ rm.frames + 1 ≤ R.frames ∧ 31 + rm.locals ≤ R.locals) {cl : Call} (hC : CallOk l D cA ad rm cl) (hpr : PrimOk p l e R s m args below meth c Q D cA ad A mm s0 nc ns cl) (hd : decode (mnB mm) pc = .ok (.invokestatic i, 3)) (hkn : Nat.beq (knd (pmeta mm).1 i) 1 = false) (h : ivS cl (XJ p l e R s m args below meth c Q D cA ad A mm s0 nc ns) (pc + 3) loc stk g (cpm (pmeta mm).1 i)) (hP : va_P D cl10 (wsO cA ad g) H) (hS : va_S A s.heap H locs) (hl : lv_has ls (pmeta mm).2.1 (lvp ad 0 loc)) (ha : agM g s0) : W p l e R s m args below meth c H locs nc ns Q (F0 m pc ls (stk.map (tvV ad))) := by
  have hX' := hX
  obtain ⟨hx, hb, hml, hown, hts, hK, hRW, hinj, hAk, -⟩ := hX'
  unfold ivS at h
  split at h
  · exact h.elim
  next m' n ci rk he =>
  rcases bif_inv2 h with ⟨h9, h⟩ | ⟨h9, h⟩
  · have h9 := Nat.eq_of_beq_eq_true h9
    subst h9
    have hz : (n, ci, rk) = (5, 99, 0) := (okA9_all _ _ _ _ _ he).1
    cases hz
    exact sd_cpy hX hR hd he h hP hS hl ha
  obtain ⟨as, r, hn, rfl, h3⟩ := takK_inv h
  rw [List.append_nil] at h3
  have h := h3
  obtain ⟨h1, h2⟩ := bif_inv h
  have hcat := Nat.le_of_ble_eq_true h1
  have ok := okC_all _ _ _ he
  unfold okC at ok
  split at ok
  · next m1 n1 ci1 rk1 p1 p2 p3 p4 e1 _ =>
    cases e1
    rw [hkn] at ok
    simp only [Bool.and_eq_true, decide_eq_true_eq, okN, cond_false] at ok
    obtain ⟨o1, o2, ⟨⟨o3, o4⟩, o5⟩, o6⟩ := ok
    have hm' : m' < 258 := Nat.le_of_ble_eq_true o1
    have hrk : rk = (pmeta m').2.2 := Nat.eq_of_beq_eq_true o2
    have hM := hC m' as g _ hm' (bhC_Q h2) H.size
    rw [← hrk] at hM
    have hst : ((as.reverse ++ r).map (tvV ad)) = (as.map (tvV ad)).reverse ++ r.map (tvV ad) := by simp
    cases hk2 : Nat.beq (knd (pmeta mm).1 i) 2
    · rw [hk2] at o6
      simp only [cond_false, Bool.and_eq_true, decide_eq_true_eq] at o6
      obtain ⟨-, o7, o8, o9⟩ := o6
      have cw : va_CN R s args (cnm (pmeta mm).1) i (mnY m') "SmellMap" (mnB m') (pmeta m').2.1 (mnR m') (wsM m') rm 0 0 n ∧ (Cond.static (mnY m')).before args s = true ∧ True :=
        ⟨va_cnB n hts (gi (wsM_in hm')) rfl hrm.1 hrm.2.1 (hRW.1 _ o9) (hts _ (inG_mem o8)) ⟨o4.1, o4.2, o5⟩ ⟨hrm.2.2.1, by have := Nat.le_of_ble_eq_true o3; omega⟩, hts _ (inG_mem o7), trivial⟩
      exact sd_fin hX (m' := m') (rk := rk) (r := r) (va_runSN (As := as.map (tvV ad)) (rest := r.map (tvV ad)) ⟨hx, hb, hml, hown, hts⟩ hM cw ⟨PRM_blind, pre_U hX hP hS ha⟩ rfl (by simpa using hn) hl.1 hst (lv_room (by rw [catL_sum]; exact hcat)) hd hN) hS hl ha
    · rw [hk2] at o6
      simp only [cond_true, Bool.and_eq_true] at o6
      obtain ⟨o7, o8, o9⟩ := o6
      have cw := va_cwS (R := R) (s := s) (args := args) (own := cnm (pmeta mm).1) (index := i) (y := mnY m') (bytes := mnB m') (maxL := (pmeta m').2.1) (mc := 0) (ms := 0) (ret := mnR m') (Ts := gT) (ws := wsM m') (ws' := gT) (rm := rm) n hts (gi (fun w hw => by
          rcases List.mem_append.mp hw with hw | hw
          · simp only [List.mem_cons, List.not_mem_nil, or_false] at hw
            rcases hw with rfl | rfl | rfl
            · exact inG_mem o7
            · exact inG_mem o8
            · exact inG_mem o9
          · exact wsM_in hm' w hw)) rfl hrm.1 hrm.2.1 ⟨o4.1, o4.2, o5⟩ ⟨hrm.2.2.1, by have := Nat.le_of_ble_eq_true o3; omega⟩
      exact sd_fin hX (m' := m') (rk := rk) (r := r) (va_runS (As := as.map (tvV ad)) (rest := r.map (tvV ad)) ⟨hx, hb, hml, hown, hts⟩ hM cw ⟨PRM_blind, pre_U hX hP hS ha⟩ rfl (by simpa using hn) hl.1 hst (lv_room (by rw [catL_sum]; exact hcat)) hd hN) hS hl ha
  · next m1 n1 ci1 rk1 e1 _ =>
    cases e1
    cases hk4 : Nat.beq (knd (pmeta mm).1 i) 4
    · rw [hk4] at ok
      simp only [cond_false, Bool.and_eq_true] at ok
      have hm' : 899 < m' := Nat.le_of_ble_eq_true ok.2
      exact hpr pc i m' n ci rk as r loc g H locs ls hm' (h900 _ _ _ _ he) he hd hn hcat (bhC_Q h2) hP hS hl ha
    · rw [hk4, cond_true] at ok
      rw [ok] at h9
      cases h9
theorem step_ok (hX : CX p m c s args D cA ad A mm s0) (hN : nc ≤ R.cells ∧ ns ≤ R.slots) (h900 : ∀ i np tp fs sw m' n ci rk, pcode mm pc = some (.invokestatic i, np, tp, fs, sw) → cpm (pmeta mm).1 i = some (m', n, ci, rk) → m' ≠ 900) (hR : 1 ≤ R.frames ∧ 40 ≤ R.locals) {rm : Room} (hrm : rm.cells = 0 ∧ rm.slots = 0 ∧ rm.frames + 1 ≤ R.frames ∧ 31 + rm.locals ≤ R.locals) {cl : Call} (hC : CallOk l D cA ad rm cl) (hpr : PrimOk p l e R s m args below meth c Q D cA ad A mm s0 nc ns cl) {q : Post}
    (rV : (pmeta mm).2.2 = 0 → ∀ pc g H locs ls, decode (mnB mm) pc = .ok (.return_, 1) → q none g → va_P D cl10 (wsO cA ad g) H → va_S A s.heap H locs → agM g s0 → W p l e R s m args below meth c H locs nc ns Q (F0 m pc ls []))
    (rI : (pmeta mm).2.2 = 1 ∨ (pmeta mm).2.2 = 2 → ∀ pc g H locs ls x, decode (mnB mm) pc = .ok (.ireturn, 1) → ((pmeta mm).2.2 = 2 → x &&& 1 = x) → q (some (.int x)) g → va_P D cl10 (wsO cA ad g) H → va_S A s.heap H locs → agM g s0 → W p l e R s m args below meth c H locs nc ns Q (F0 m pc ls [.int x]))
    (rL : (pmeta mm).2.2 = 3 → ∀ pc g H locs ls x, decode (mnB mm) pc = .ok (.lreturn, 1) → q (some (.long x)) g → va_P D cl10 (wsO cA ad g) H → va_S A s.heap H locs → agM g s0 → W p l e R s m args below meth c H locs nc ns Q (F0 m pc ls [.long x]))
    (rA : (pmeta mm).2.2 = 4 → ∀ pc g H locs ls, decode (mnB mm) pc = .ok (.areturn, 1) → va_P D cl10 (wsO cA ad g) H → va_S A s.heap H locs → agM g s0 → (∀ k, q (some (.ref k)) g → W p l e R s m args below meth c H locs nc ns Q (F0 m pc ls [.ref (ad k)])) ∧ (q (some .null) g → W p l e R s m args below meth c H locs nc ns Q (F0 m pc ls [.null])))
    (h : stP cl mm (XJ p l e R s m args below meth c Q D cA ad A mm s0 nc ns) q pc loc stk g) : XJ p l e R s m args below meth c Q D cA ad A mm s0 nc ns pc loc stk g := by
  intro H locs ls hP hS hl0 ha
  unfold stP at h
  split at h
  case h_2 =>
    exact h.elim
  next ins np tp fs sw hcode =>
  rw [frgK_F] at h
  have hl : lv_has ls (pmeta mm).2.1 (lvp ad 0 (frgF fs loc)) := lv_le hl0 (fun q hq => frg_in hq)
  clear hl0
  generalize frgF fs loc = loc' at h hl
  have ok := okI_all _ _ _ hcode
  simp only [okI, Bool.and_eq_true, decide_eq_true_eq] at ok
  obtain ⟨hd, -, hok⟩ := ok
  have h9' : ∀ j, ins = .invokestatic j → ∀ m' n ci rk, cpm (pmeta mm).1 j = some (m', n, ci, rk) → m' ≠ 900 := fun j hj m' n ci rk => by subst hj; exact h900 j _ _ _ _ m' n ci rk hcode
  clear hcode
  have hX' := hX
  obtain ⟨hx, hb, hml, hown, hts, hK, hRW, hinj, hAk, -⟩ := hX'
  have n1 : ∀ {k : Nat}, Nat.beq np (pc + k) = true → np = pc + k := fun h => Nat.eq_of_beq_eq_true h
  have lt : ∀ {a b : Nat}, Nat.blt a b = true → a < b := fun h => Nat.le_of_ble_eq_true h
  cases ins
  case iconst n =>
    obtain rfl := n1 hok; rw [Nat.add_sub_cancel_left] at hd; exact lv_iconst hx hb hd rfl (h H locs ls hP hS hl ha)
  case bipush n =>
    have hok := Bool.and_eq_true_iff.mp hok
    obtain rfl := n1 hok.1; rw [Nat.add_sub_cancel_left] at hd
    exact lv_bipush hx hb hd (of_decide_eq_true hok.2) (h H locs ls hP hS hl ha)
  case sipush n =>
    have hok := Bool.and_eq_true_iff.mp hok
    obtain rfl := n1 hok.1; rw [Nat.add_sub_cancel_left] at hd
    exact lv_sipush hx hb hd (of_decide_eq_true hok.2) (h H locs ls hP hS hl ha)
  case lconst n =>
    obtain rfl := n1 hok; rw [Nat.add_sub_cancel_left] at hd; exact lv_lconst hx hb hd rfl (h H locs ls hP hS hl ha)
  case ldc j =>
    obtain rfl := n1 hok; rw [Nat.add_sub_cancel_left] at hd
    dsimp only [stepI] at h
    split at h
    · next v hv =>
      have o := okK_all _ _ _ hv
      unfold okK at o
      split at o
      · exact lv_ldc hx hb hown (hts _ (inG_mem o)) hd (h H locs ls hP hS hl ha)
      · next a =>
        simp only [Bool.and_eq_true, decide_eq_true_eq] at o
        have oc := Nat.eq_of_beq_eq_true o.1
        have hc : cnm (pmeta mm).1 = "SmellMapModel" := by rw [oc]; rfl
        rw [hc] at hown
        have o2 := o.2
        simp only [List.mem_cons, Prod.mk.injEq, List.not_mem_nil, or_false] at o2
        rcases o2 with ⟨rfl, rfl⟩ | ⟨rfl, rfl⟩ | ⟨rfl, rfl⟩ | ⟨rfl, rfl⟩
        · exact va_ldcS hx hb hown (hRW.2.2.2.2.1 (26, "y", 1010) (by simp)) hd (h H locs ls hP hS hl ha)
        · exact va_ldcS hx hb hown (hRW.2.2.2.2.1 (32, "pfhkw", 1011) (by simp)) hd (h H locs ls hP hS hl ha)
        · exact va_ldcS hx hb hown (hRW.2.2.2.2.1 (272, "n", 1012) (by simp)) hd (h H locs ls hP hS hl ha)
        · exact va_ldcS hx hb hown (hRW.2.2.2.2.1 (278, "krcfup", 1013) (by simp)) hd (h H locs ls hP hS hl ha)
      · cases o
    · exact h.elim
  case ldc_w j =>
    obtain rfl := n1 hok; rw [Nat.add_sub_cancel_left] at hd
    dsimp only [stepI] at h
    split at h
    · next v hv =>
      have o := okK_all _ _ _ hv
      unfold okK at o
      split at o
      · exact lv_ldcw hx hb hown (hts _ (inG_mem o)) hd (h H locs ls hP hS hl ha)
      · next a =>
        simp only [Bool.and_eq_true, decide_eq_true_eq] at o
        have oc := Nat.eq_of_beq_eq_true o.1
        have hc : cnm (pmeta mm).1 = "SmellMapModel" := by rw [oc]; rfl
        rw [hc] at hown
        have o2 := o.2
        simp only [List.mem_cons, Prod.mk.injEq, List.not_mem_nil, or_false] at o2
        rcases o2 with ⟨rfl, rfl⟩ | ⟨rfl, rfl⟩ | ⟨rfl, rfl⟩ | ⟨rfl, rfl⟩
        · exact ldcwS hx hb hown (hRW.2.2.2.2.1 (26, "y", 1010) (by simp)) hd (h H locs ls hP hS hl ha)
        · exact ldcwS hx hb hown (hRW.2.2.2.2.1 (32, "pfhkw", 1011) (by simp)) hd (h H locs ls hP hS hl ha)
        · exact ldcwS hx hb hown (hRW.2.2.2.2.1 (272, "n", 1012) (by simp)) hd (h H locs ls hP hS hl ha)
        · exact ldcwS hx hb hown (hRW.2.2.2.2.1 (278, "krcfup", 1013) (by simp)) hd (h H locs ls hP hS hl ha)
      · cases o
    · exact h.elim
  case ldc2_w j =>
    obtain rfl := n1 hok; rw [Nat.add_sub_cancel_left] at hd
    dsimp only [stepI] at h
    split at h
    · next v hv => exact lv_ldc2 hx hb hown (hts _ (inG_mem (okL_all _ _ _ hv))) hd (h H locs ls hP hS hl ha)
    · exact h.elim
  case iload n =>
    obtain rfl := n1 hok; rw [Nat.add_sub_cancel_left] at hd; obtain ⟨x, hg, hk⟩ := ldI_inv h; exact lv_iload hx hb hd (lvp_get hl hg (fun _ z => by cases z)) (hk H locs ls hP hS hl ha)
  case iload_n n =>
    obtain rfl := n1 hok; rw [Nat.add_sub_cancel_left] at hd; obtain ⟨x, hg, hk⟩ := ldI_inv h; exact lv_iload_n hx hb hd rfl (lvp_get hl hg (fun _ z => by cases z)) (hk H locs ls hP hS hl ha)
  case lload n =>
    obtain rfl := n1 hok; rw [Nat.add_sub_cancel_left] at hd; obtain ⟨x, hg, hk⟩ := ldL_inv h; exact lv_lload hx hb hd (lvp_get hl hg (fun _ z => by cases z)) (hk H locs ls hP hS hl ha)
  case lload_n n =>
    obtain rfl := n1 hok; rw [Nat.add_sub_cancel_left] at hd; obtain ⟨x, hg, hk⟩ := ldL_inv h; exact lv_lload_n hx hb hd rfl (lvp_get hl hg (fun _ z => by cases z)) (hk H locs ls hP hS hl ha)
  case aload n =>
    obtain rfl := n1 hok; rw [Nat.add_sub_cancel_left] at hd
    rcases ldA_inv h with ⟨x, hg, hk⟩ | ⟨hg, hk⟩
    · exact lv_aload hx hb hd (lvp_get hl hg (fun _ z => by cases z)) (hk H locs ls hP hS hl ha)
    · exact lv_aloadN hx hb hd (lvp_get hl hg (fun _ z => by cases z)) (hk H locs ls hP hS hl ha)
  case aload_n n =>
    obtain rfl := n1 hok; rw [Nat.add_sub_cancel_left] at hd
    rcases ldA_inv h with ⟨x, hg, hk⟩ | ⟨hg, hk⟩
    · exact lv_aload_n hx hb hd rfl (lvp_get hl hg (fun _ z => by cases z)) (hk H locs ls hP hS hl ha)
    · exact lv_aload_nN hx hb hd rfl (lvp_get hl hg (fun _ z => by cases z)) (hk H locs ls hP hS hl ha)
  case istore n =>
    have hok := Bool.and_eq_true_iff.mp hok; obtain rfl := n1 hok.1; rw [Nat.add_sub_cancel_left] at hd; obtain ⟨x, r, rfl, hk⟩ := stI_inv h; exact lv_istore hx hb hd hl (lt hok.2) rfl (fun ls' h2 => hk H locs ls' hP hS (lvp_st1 h2) ha)
  case istore_n n =>
    have hok := Bool.and_eq_true_iff.mp hok; obtain rfl := n1 hok.1; rw [Nat.add_sub_cancel_left] at hd; obtain ⟨x, r, rfl, hk⟩ := stI_inv h; exact lv_istore_n hx hb hd rfl hl (lt hok.2) rfl (fun ls' h2 => hk H locs ls' hP hS (lvp_st1 h2) ha)
  case lstore n =>
    have hok := Bool.and_eq_true_iff.mp hok; obtain rfl := n1 hok.1; rw [Nat.add_sub_cancel_left] at hd; obtain ⟨x, r, rfl, hk⟩ := stL_inv h; exact lv_lstore hx hb hd hl (lt hok.2) rfl (fun ls' h2 => hk H locs ls' hP hS (lvp_st2 h2) ha)
  case lstore_n n =>
    have hok := Bool.and_eq_true_iff.mp hok; obtain rfl := n1 hok.1; rw [Nat.add_sub_cancel_left] at hd; obtain ⟨x, r, rfl, hk⟩ := stL_inv h; exact lv_lstore_n hx hb hd rfl hl (lt hok.2) rfl (fun ls' h2 => hk H locs ls' hP hS (lvp_st2 h2) ha)
  case astore n =>
    have hok := Bool.and_eq_true_iff.mp hok; obtain rfl := n1 hok.1; rw [Nat.add_sub_cancel_left] at hd
    rcases stA_inv h with ⟨x, r, rfl, hk⟩ | ⟨r, rfl, hk⟩
    · exact lv_astore hx hb hd hl (lt hok.2) rfl (fun ls' h2 => hk H locs ls' hP hS (lvp_st1 (x := .ref x) h2) ha)
    · exact lv_astoreN hx hb hd hl (lt hok.2) rfl (fun ls' h2 => hk H locs ls' hP hS (lvp_st1 (x := .null) h2) ha)
  case astore_n n =>
    have hok := Bool.and_eq_true_iff.mp hok; obtain rfl := n1 hok.1; rw [Nat.add_sub_cancel_left] at hd
    rcases stA_inv h with ⟨x, r, rfl, hk⟩ | ⟨r, rfl, hk⟩
    · exact lv_astore_n hx hb hd rfl hl (lt hok.2) rfl (fun ls' h2 => hk H locs ls' hP hS (lvp_st1 (x := .ref x) h2) ha)
    · exact lv_astore_nN hx hb hd rfl hl (lt hok.2) rfl (fun ls' h2 => hk H locs ls' hP hS (lvp_st1 (x := .null) h2) ha)
  case iinc n k =>
    have hok := Bool.and_eq_true_iff.mp hok; obtain rfl := n1 hok.1; rw [Nat.add_sub_cancel_left] at hd
    dsimp only [stepI] at h
    split at h
    · next x hg =>
      rw [lst1K_F] at h
      have hm := lget_in (ad := ad) (v := .int x) (fun _ z => by cases z) (i := 0) hg
      rw [Nat.zero_add] at hm
      obtain ⟨j, hj⟩ := List.getElem?_of_mem hm
      exact lv_iinc hx hb hd hl hj rfl (lt hok.2) rfl (fun ls' h2 => h H locs ls' hP hS (lvp_st1 (x := .int (x + Int32.ofInt k)) h2) ha)
    · exact h.elim
  case iadd =>
    obtain rfl := n1 hok; rw [Nat.add_sub_cancel_left] at hd; obtain ⟨x, y, r, rfl, hk⟩ := ii_inv h; exact lv_iadd hx hb hd (hk H locs ls hP hS hl ha)
  case isub =>
    obtain rfl := n1 hok; rw [Nat.add_sub_cancel_left] at hd; obtain ⟨x, y, r, rfl, hk⟩ := ii_inv h; exact lv_isub hx hb hd (hk H locs ls hP hS hl ha)
  case imul =>
    obtain rfl := n1 hok; rw [Nat.add_sub_cancel_left] at hd; obtain ⟨x, y, r, rfl, hk⟩ := ii_inv h; exact lv_imul hx hb hd (hk H locs ls hP hS hl ha)
  case iand =>
    obtain rfl := n1 hok; rw [Nat.add_sub_cancel_left] at hd; obtain ⟨x, y, r, rfl, hk⟩ := ii_inv h; exact lv_iand hx hb hd (hk H locs ls hP hS hl ha)
  case ior =>
    obtain rfl := n1 hok; rw [Nat.add_sub_cancel_left] at hd; obtain ⟨x, y, r, rfl, hk⟩ := ii_inv h; exact lv_ior hx hb hd (hk H locs ls hP hS hl ha)
  case ixor =>
    obtain rfl := n1 hok; rw [Nat.add_sub_cancel_left] at hd; obtain ⟨x, y, r, rfl, hk⟩ := ii_inv h; exact lv_ixor hx hb hd (hk H locs ls hP hS hl ha)
  case ishl =>
    obtain rfl := n1 hok; rw [Nat.add_sub_cancel_left] at hd; obtain ⟨x, y, r, rfl, hk⟩ := ii_inv h; exact lv_ishl hx hb hd (hk H locs ls hP hS hl ha)
  case ishr =>
    obtain rfl := n1 hok; rw [Nat.add_sub_cancel_left] at hd; obtain ⟨x, y, r, rfl, hk⟩ := ii_inv h; exact lv_ishr hx hb hd (hk H locs ls hP hS hl ha)
  case iushr =>
    obtain rfl := n1 hok; rw [Nat.add_sub_cancel_left] at hd; obtain ⟨x, y, r, rfl, hk⟩ := ii_inv h; exact lv_iushr hx hb hd rfl (hk H locs ls hP hS hl ha)
  case ladd =>
    obtain rfl := n1 hok; rw [Nat.add_sub_cancel_left] at hd; obtain ⟨x, y, r, rfl, hk⟩ := ll_inv h; exact lv_ladd hx hb hd (hk H locs ls hP hS hl ha)
  case lsub =>
    obtain rfl := n1 hok; rw [Nat.add_sub_cancel_left] at hd; obtain ⟨x, y, r, rfl, hk⟩ := ll_inv h; exact lv_lsub hx hb hd (hk H locs ls hP hS hl ha)
  case lmul =>
    obtain rfl := n1 hok; rw [Nat.add_sub_cancel_left] at hd; obtain ⟨x, y, r, rfl, hk⟩ := ll_inv h; exact lv_lmul hx hb hd (hk H locs ls hP hS hl ha)
  case land =>
    obtain rfl := n1 hok; rw [Nat.add_sub_cancel_left] at hd; obtain ⟨x, y, r, rfl, hk⟩ := ll_inv h; exact lv_land hx hb hd (hk H locs ls hP hS hl ha)
  case lor =>
    obtain rfl := n1 hok; rw [Nat.add_sub_cancel_left] at hd; obtain ⟨x, y, r, rfl, hk⟩ := ll_inv h; exact lv_lor hx hb hd (hk H locs ls hP hS hl ha)
  case idiv =>
    obtain rfl := n1 hok; rw [Nat.add_sub_cancel_left] at hd
    dsimp only [stepI] at h
    split at h
    · next y x r => exact lv_idiv hx hb hd (iteN_inv h).1 ((iteN_inv h).2 H locs ls hP hS hl ha)
    · exact h.elim
  case irem =>
    obtain rfl := n1 hok; rw [Nat.add_sub_cancel_left] at hd
    dsimp only [stepI] at h
    split at h
    · next y x r => exact lv_irem hx hb hd (iteN_inv h).1 ((iteN_inv h).2 H locs ls hP hS hl ha)
    · exact h.elim
  case ldiv =>
    obtain rfl := n1 hok; rw [Nat.add_sub_cancel_left] at hd
    dsimp only [stepI] at h
    split at h
    · next y x r => exact lv_ldiv hx hb hd (iteN_inv h).1 ((iteN_inv h).2 H locs ls hP hS hl ha)
    · exact h.elim
  case lrem =>
    obtain rfl := n1 hok; rw [Nat.add_sub_cancel_left] at hd
    dsimp only [stepI] at h
    split at h
    · next y x r => exact lv_lrem hx hb hd (iteN_inv h).1 ((iteN_inv h).2 H locs ls hP hS hl ha)
    · exact h.elim
  case ineg =>
    obtain rfl := n1 hok; rw [Nat.add_sub_cancel_left] at hd
    dsimp only [stepI] at h
    split at h
    · next x r => exact lv_ineg hx hb hd (h H locs ls hP hS hl ha)
    · exact h.elim
  case lshl =>
    obtain rfl := n1 hok; rw [Nat.add_sub_cancel_left] at hd
    dsimp only [stepI] at h
    split at h
    · next y x r => exact lv_lshl hx hb hd rfl (h H locs ls hP hS hl ha)
    · exact h.elim
  case lushr =>
    obtain rfl := n1 hok; rw [Nat.add_sub_cancel_left] at hd
    dsimp only [stepI] at h
    split at h
    · next y x r => exact lv_lushr hx hb hd rfl (h H locs ls hP hS hl ha)
    · exact h.elim
  case lcmp =>
    obtain rfl := n1 hok; rw [Nat.add_sub_cancel_left] at hd
    dsimp only [stepI] at h
    split at h
    · next y x r => exact W.lcmp hx hb hd (h H locs ls hP hS hl ha)
    · exact h.elim
  case i2l =>
    obtain rfl := n1 hok; rw [Nat.add_sub_cancel_left] at hd
    dsimp only [stepI] at h
    split at h
    · next x r => exact lv_i2l hx hb hd rfl (h H locs ls hP hS hl ha)
    · exact h.elim
  case l2i =>
    obtain rfl := n1 hok; rw [Nat.add_sub_cancel_left] at hd
    dsimp only [stepI] at h
    split at h
    · next x r => exact lv_l2i hx hb hd rfl (h H locs ls hP hS hl ha)
    · exact h.elim
  case i2b =>
    obtain rfl := n1 hok; rw [Nat.add_sub_cancel_left] at hd
    dsimp only [stepI] at h
    split at h
    · next x r => exact lv_i2b hx hb hd rfl (h H locs ls hP hS hl ha)
    · exact h.elim
  case dup =>
    obtain rfl := n1 hok; rw [Nat.add_sub_cancel_left] at hd
    dsimp only [stepI] at h
    split at h
    · exact lv_dup hx hb hd rfl (h H locs ls hP hS hl ha)
    · exact lv_dup hx hb hd rfl (h H locs ls hP hS hl ha)
    · exact h.elim
  case dup2 =>
    obtain rfl := n1 hok; rw [Nat.add_sub_cancel_left] at hd
    dsimp only [stepI] at h
    split at h
    · exact lv_dup2_11 hx hb hd rfl rfl (h H locs ls hP hS hl ha)
    · exact h.elim
  case pop =>
    obtain rfl := n1 hok; rw [Nat.add_sub_cancel_left] at hd
    dsimp only [stepI] at h
    split at h
    · exact lv_pop hx hb hd rfl (h H locs ls hP hS hl ha)
    · exact h.elim
  case ifCond cd off =>
    have hok := Bool.and_eq_true_iff.mp hok; obtain rfl := n1 hok.1; rw [Nat.add_sub_cancel_left] at hd
    dsimp only [stepI] at h
    split at h
    · next x r =>
      have ht := of_decide_eq_true hok.2
      cases cd <;> (dsimp only [br2] at h; split at h)
      · next hc => exact lv_if_eq hx hb hd ht (fun _ => h H locs ls hP hS hl ha) (fun z => absurd hc z)
      · next hc => exact lv_if_eq hx hb hd ht (fun z => absurd z hc) (fun _ => h H locs ls hP hS hl ha)
      · next hc => exact lv_if_ne hx hb hd ht (fun z => absurd hc z) (fun _ => h H locs ls hP hS hl ha)
      · next hc => exact lv_if_ne hx hb hd ht (fun _ => h H locs ls hP hS hl ha) (fun z => absurd z hc)
      · next hc => exact lv_if_lt hx hb hd ht (fun _ => h H locs ls hP hS hl ha) (fun z => absurd hc z)
      · next hc => exact lv_if_lt hx hb hd ht (fun z => absurd z hc) (fun _ => h H locs ls hP hS hl ha)
      · next hc => exact lv_if_ge hx hb hd ht (fun z => absurd hc (Int32.not_lt.mpr z)) (fun _ => h H locs ls hP hS hl ha)
      · next hc => exact lv_if_ge hx hb hd ht (fun _ => h H locs ls hP hS hl ha) (fun z => absurd (Int32.not_lt.mp hc) z)
      · next hc => exact lv_if_gt hx hb hd ht (fun _ => h H locs ls hP hS hl ha) (fun z => absurd hc z)
      · next hc => exact lv_if_gt hx hb hd ht (fun z => absurd z hc) (fun _ => h H locs ls hP hS hl ha)
      · next hc => exact lv_if_le hx hb hd ht (fun z => absurd hc (Int32.not_lt.mpr z)) (fun _ => h H locs ls hP hS hl ha)
      · next hc => exact lv_if_le hx hb hd ht (fun _ => h H locs ls hP hS hl ha) (fun z => absurd (Int32.not_lt.mp hc) z)
    · exact h.elim
  case if_icmp cd off =>
    have hok := Bool.and_eq_true_iff.mp hok; obtain rfl := n1 hok.1; rw [Nat.add_sub_cancel_left] at hd
    dsimp only [stepI] at h
    split at h
    · next y x r =>
      have ht := of_decide_eq_true hok.2
      cases cd <;> (dsimp only [br2] at h; split at h)
      · next hc => exact lv_icmp_eq hx hb hd ht (fun _ => h H locs ls hP hS hl ha) (fun z => absurd hc z)
      · next hc => exact lv_icmp_eq hx hb hd ht (fun z => absurd z hc) (fun _ => h H locs ls hP hS hl ha)
      · next hc => exact lv_icmp_ne hx hb hd ht (fun z => absurd hc z) (fun _ => h H locs ls hP hS hl ha)
      · next hc => exact lv_icmp_ne hx hb hd ht (fun _ => h H locs ls hP hS hl ha) (fun z => absurd z hc)
      · next hc => exact lv_icmp_lt hx hb hd ht (fun _ => h H locs ls hP hS hl ha) (fun z => absurd hc z)
      · next hc => exact lv_icmp_lt hx hb hd ht (fun z => absurd z hc) (fun _ => h H locs ls hP hS hl ha)
      · next hc => exact lv_icmp_ge hx hb hd ht (fun z => absurd hc (Int32.not_lt.mpr z)) (fun _ => h H locs ls hP hS hl ha)
      · next hc => exact lv_icmp_ge hx hb hd ht (fun _ => h H locs ls hP hS hl ha) (fun z => absurd (Int32.not_lt.mp hc) z)
      · next hc => exact lv_icmp_gt hx hb hd ht (fun _ => h H locs ls hP hS hl ha) (fun z => absurd hc z)
      · next hc => exact lv_icmp_gt hx hb hd ht (fun z => absurd z hc) (fun _ => h H locs ls hP hS hl ha)
      · next hc => exact lv_icmp_le hx hb hd ht (fun z => absurd hc (Int32.not_lt.mpr z)) (fun _ => h H locs ls hP hS hl ha)
      · next hc => exact lv_icmp_le hx hb hd ht (fun _ => h H locs ls hP hS hl ha) (fun z => absurd (Int32.not_lt.mp hc) z)
    · exact h.elim
  case ifnull off =>
    have hok := Bool.and_eq_true_iff.mp hok; obtain rfl := n1 hok.1; rw [Nat.add_sub_cancel_left] at hd
    dsimp only [stepI] at h
    split at h
    · exact lv_ifnull hx hb hd (h H locs ls hP hS hl ha)
    · exact lv_ifnullN hx hb hd (of_decide_eq_true hok.2) (h H locs ls hP hS hl ha)
    · exact h.elim
  case goto off =>
    have hok := Bool.and_eq_true_iff.mp hok; obtain rfl := n1 hok.1; rw [Nat.add_sub_cancel_left] at hd; exact lv_goto hx hb hd (of_decide_eq_true hok.2) (h H locs ls hP hS hl ha)
  case tableswitch d lo hi offs =>
    have hok := Bool.and_eq_true_iff.mp hok
    have hok1 := Bool.and_eq_true_iff.mp hok.1
    dsimp only [stepI] at h
    split at h
    · next x r => exact sd_tsw hX hd (of_decide_eq_true hok1.1) (of_decide_eq_true hok1.2) hok.2 h hP hS hl ha
    · exact h.elim
  case lookupswitch d ps =>
    have hok := Bool.and_eq_true_iff.mp hok
    have hok1 := Bool.and_eq_true_iff.mp hok.1
    dsimp only [stepI] at h
    split at h
    · next x r => exact sd_lsw hX hd (of_decide_eq_true hok1.1) hok1.2 hok.2 h hP hS hl ha
    · exact h.elim
  case aconst_null =>
    obtain rfl := n1 hok; rw [Nat.add_sub_cancel_left] at hd; exact lv_null hx hb hd (h H locs ls hP hS hl ha)
  case getfield j =>
    obtain rfl := n1 hok; rw [Nat.add_sub_cancel_left] at hd; exact sd_getF hX hd h hP hS hl ha
  case putfield j =>
    obtain rfl := n1 hok; rw [Nat.add_sub_cancel_left] at hd; exact sd_putF hX hd h hP hS hl ha
  case getstatic j =>
    obtain rfl := n1 hok; rw [Nat.add_sub_cancel_left] at hd
    dsimp only [stepI] at h
    split at h
    · next a hv =>
      rcases okS_all _ _ _ hv with ⟨h1, h2, h3⟩ | ⟨h1, h2, h3⟩
      · rw [h3] at h
        rw [h1] at hown
        rw [h2] at hd
        exact va_gets hx hb (hRW.2.2.1 0 (by omega)) hS hown (hts _ (inG_mem okS_own)) (fun _ z => z) hd (h H locs ls hP hS hl ha)
      · obtain ⟨k, rfl⟩ : ∃ k, a = 1001 + k := ⟨_, h2⟩
        rw [Nat.add_sub_cancel_left] at h1 h3
        exact va_getsN hx hb (hRW.2.2.1 k h3) hS hown (va_Nw.use rfl (hRW.2.1 _ h1)) (fun _ z => z) hd (h H locs ls hP hS hl ha)
    · exact h.elim
  case iaload =>
    obtain rfl := n1 hok; rw [Nat.add_sub_cancel_left] at hd
    dsimp only [stepI] at h
    rcases bif_inv2 h with ⟨-, h⟩ | ⟨-, h⟩
    · exact sd_scL hX hd h hP hS hl ha
    · exact sd_iald hX hd h hP hS hl ha
  case baload =>
    obtain rfl := n1 hok; rw [Nat.add_sub_cancel_left] at hd; exact sd_bald hX hd h hP hS hl ha
  case aaload =>
    obtain rfl := n1 hok; rw [Nat.add_sub_cancel_left] at hd
    dsimp only [stepI] at h
    split at h
    · next i a r =>
      obtain ⟨h1, h2⟩ := bif_inv h
      obtain ⟨h2, h3⟩ := iteN_inv h2
      exact sd_aald hX hd (Nat.eq_of_beq_eq_true h1) h2 h3 hP hS hl ha
    · exact h.elim
  case laload =>
    obtain rfl := n1 hok; rw [Nat.add_sub_cancel_left] at hd
    dsimp only [stepI] at h
    split at h
    · next i a r =>
      obtain ⟨h1, h2⟩ := bif_inv h
      obtain ⟨h2, h3⟩ := iteN_inv h2
      exact sd_lald hX hd (Nat.eq_of_beq_eq_true h1) h2 h3 hP hS hl ha
    · exact h.elim
  case iastore =>
    obtain rfl := n1 hok; rw [Nat.add_sub_cancel_left] at hd; exact sd_iast hX hd h hP hS hl ha
  case bastore =>
    obtain rfl := n1 hok; rw [Nat.add_sub_cancel_left] at hd; exact sd_bast hX hd h hP hS hl ha
  case arraylength =>
    obtain rfl := n1 hok; rw [Nat.add_sub_cancel_left] at hd
    dsimp only [stepI] at h
    rcases bif_inv2 h with ⟨-, h⟩ | ⟨-, h⟩
    · exact sd_scN hX hd h hP hS hl ha
    · exact sd_alen hX hd h hP hS hl ha
  case invokestatic j =>
    have hok := Bool.and_eq_true_iff.mp hok; obtain rfl := n1 hok.1; rw [Nat.add_sub_cancel_left] at hd; exact sd_ivS hX hN (h9' j rfl) hR hrm hC hpr hd (by simpa using hok.2) h hP hS hl ha
  case invokevirtual j =>
    have hok := Bool.and_eq_true_iff.mp hok; obtain rfl := n1 hok.1; rw [Nat.add_sub_cancel_left] at hd; exact sd_ivV hX hN hrm hC hd (Nat.eq_of_beq_eq_true hok.2) h hP hS hl ha
  case return_ =>
    have hok := Bool.and_eq_true_iff.mp hok; obtain rfl := n1 hok.1; rw [Nat.add_sub_cancel_left] at hd
    dsimp only [stepI] at h
    split at h
    · exact rV (Nat.eq_of_beq_eq_true hok.2) pc g H locs ls hd h hP hS ha
    · exact h.elim
  case ireturn =>
    have hok := Bool.and_eq_true_iff.mp hok; obtain rfl := n1 hok.1; rw [Nat.add_sub_cancel_left] at hd
    dsimp only [stepI] at h
    split at h
    · next x =>
      rcases bif_inv2 h with ⟨h1, h2⟩ | ⟨h1, h2⟩
      · obtain ⟨h2, h3⟩ := ite_inv h2
        exact rI ((Bool.or_eq_true_iff.mp hok.2).imp Nat.eq_of_beq_eq_true Nat.eq_of_beq_eq_true) pc g H locs ls x hd (fun _ => h2) h3 hP hS ha
      · exact rI ((Bool.or_eq_true_iff.mp hok.2).imp Nat.eq_of_beq_eq_true Nat.eq_of_beq_eq_true) pc g H locs ls x hd (fun z => by rw [z] at h1; cases h1) h2 hP hS ha
    · exact h.elim
  case lreturn =>
    have hok := Bool.and_eq_true_iff.mp hok; obtain rfl := n1 hok.1; rw [Nat.add_sub_cancel_left] at hd
    dsimp only [stepI] at h
    split at h
    · next x => exact rL (Nat.eq_of_beq_eq_true hok.2) pc g H locs ls x hd h hP hS ha
    · exact h.elim
  case areturn =>
    have hok := Bool.and_eq_true_iff.mp hok; obtain rfl := n1 hok.1; rw [Nat.add_sub_cancel_left] at hd
    dsimp only [stepI] at h
    split at h
    · next x => exact (rA (Nat.eq_of_beq_eq_true hok.2) pc g H locs ls hd hP hS ha).1 x h
    · exact (rA (Nat.eq_of_beq_eq_true hok.2) pc g H locs ls hd hP hS ha).2 h
    · exact h.elim
  all_goals exact h.elim
end Snd
/-! a method by its meaning: the contract -/
def rmD (d : Nat) : Room := { frames := d + 10, cells := 0, slots := 0, locals := 40 * d + 400 }
theorem ret_kind : (List.range 258).all (fun m => match (pmeta m).2.2 with
    | 0 => decide (mnR m = none)
    | 1 => decide (mnR m = some .int)
    | 2 => decide (mnR m = some .boolean)
    | 3 => decide (mnR m = some .long)
    | _ => (match mnR m with | some (.object _) => true | _ => false)) = true := by decide +kernel
theorem plain_ok : (List.range 258).all (fun m => decide (m ∈ noC) || (plainName (mnY m).cls && decide ((mnY m).cls = cnm (pmeta m).1))) = true := by decide +kernel
theorem noC_none : ∀ m ∈ noC, ∀ i, pcode m i = none := by
  intro m hm i
  simp only [noC, List.mem_cons, List.not_mem_nil, or_false] at hm
  rcases hm with rfl | rfl | rfl | rfl | rfl | rfl <;> rfl
theorem n9_cls : (List.range 258).all (fun m => Nat.ble (pmeta m).1 10 || (Nat.ble 12 (pmeta m).1 && Nat.ble (pmeta m).1 14)) = true := by decide +kernel
def n9 (e : Nat × Nat × Nat × Nat) : Bool := !Nat.beq e.1 900
theorem n9_0 : ∀ i e, cpm_0 i = some e → n9 e = true := chk cpm_0 124 (fun _ => n9) (fun i h => by unfold cpm_0; rw [h]; rfl) (by decide +kernel)
theorem n9_1 : ∀ i e, cpm_1 i = some e → n9 e = true := chk cpm_1 80 (fun _ => n9) (fun i h => by unfold cpm_1; rw [h]; rfl) (by decide +kernel)
theorem n9_2 : ∀ i e, cpm_2 i = some e → n9 e = true := chk cpm_2 156 (fun _ => n9) (fun i h => by unfold cpm_2; rw [h]; rfl) (by decide +kernel)
theorem n9_3 : ∀ i e, cpm_3 i = some e → n9 e = true := chk cpm_3 77 (fun _ => n9) (fun i h => by unfold cpm_3; rw [h]; rfl) (by decide +kernel)
theorem n9_4 : ∀ i e, cpm_4 i = some e → n9 e = true := chk cpm_4 67 (fun _ => n9) (fun i h => by unfold cpm_4; rw [h]; rfl) (by decide +kernel)
theorem n9_5 : ∀ i e, cpm_5 i = some e → n9 e = true := chk cpm_5 56 (fun _ => n9) (fun i h => by unfold cpm_5; rw [h]; rfl) (by decide +kernel)
theorem n9_6 : ∀ i e, cpm_6 i = some e → n9 e = true := chk cpm_6 52 (fun _ => n9) (fun i h => by unfold cpm_6; rw [h]; rfl) (by decide +kernel)
theorem n9_7 : ∀ i e, cpm_7 i = some e → n9 e = true := chk cpm_7 55 (fun _ => n9) (fun i h => by unfold cpm_7; rw [h]; rfl) (by decide +kernel)
theorem n9_8 : ∀ i e, cpm_8 i = some e → n9 e = true := chk cpm_8 308 (fun _ => n9) (fun i h => by unfold cpm_8; rw [h]; rfl) (by decide +kernel)
theorem n9_9 : ∀ i e, cpm_9 i = some e → n9 e = true := chk cpm_9 453 (fun _ => n9) (fun i h => by unfold cpm_9; rw [h]; rfl) (by decide +kernel)
theorem n9_10 : ∀ i e, cpm_10 i = some e → n9 e = true := chk cpm_10 91 (fun _ => n9) (fun i h => by unfold cpm_10; rw [h]; rfl) (by decide +kernel)
theorem n9_all {c i : Nat} {e : Nat × Nat × Nat × Nat} (hc : c ≤ 14) (h11 : c ≠ 11) (h : cpm c i = some e) : n9 e = true := by
  match c, hc with
  | 0, _ => exact n9_0 i e h
  | 1, _ => exact n9_1 i e h
  | 2, _ => exact n9_2 i e h
  | 3, _ => exact n9_3 i e h
  | 4, _ => exact n9_4 i e h
  | 5, _ => exact n9_5 i e h
  | 6, _ => exact n9_6 i e h
  | 7, _ => exact n9_7 i e h
  | 8, _ => exact n9_8 i e h
  | 9, _ => exact n9_9 i e h
  | 10, _ => exact n9_10 i e h
  | 11, _ => exact absurd rfl h11
  | 12, _ => exact absurd (show none = some e from h) (by simp)
  | 13, _ => exact absurd (show none = some e from h) (by simp)
  | 14, _ => exact absurd (show none = some e from h) (by simp)
theorem no900 {m pc i np tp m' n ci rk : Nat} {fs : List Nat} {sw : List (Int × Nat)} (hm : m < 258) (hc : pcode m pc = some (.invokestatic i, np, tp, fs, sw)) (h : cpm (pmeta m).1 i = some (m', n, ci, rk)) : m' ≠ 900 := by
  have h0 := List.all_eq_true.mp n9_cls m (List.mem_range.mpr hm)
  rw [Bool.or_eq_true, Bool.and_eq_true] at h0
  have h1 : n9 (m', n, ci, rk) = true := by
    rcases h0 with h0 | ⟨h0, h2⟩
    · have := Nat.le_of_ble_eq_true h0
      exact n9_all (by omega) (by omega) h
    · have := Nat.le_of_ble_eq_true h0
      have := Nat.le_of_ble_eq_true h2
      exact n9_all (by omega) (by omega) h
  intro z
  subst z
  exact Bool.noConfusion (show false = true from h1)
theorem met_ok {l : Launch} {D : va_G} {cA : Nat → ClassId} {ad : Nat → Nat} (hinj : ∀ i j, i < 88 → j < 88 → ad i = ad j → i = j)
    (HP : ∀ d, CallOk l D cA ad (rmD d) (wp d) → ∀ (p : Program) (e : Env) (R : Room) (s : State) (m : MethodId) (args : Array Value) (below : List Frame) (meth : Method) (c : Code) (Q : State → Prop) (A : Nat → Prop) (mm : Nat) (s0 : Mem) (nc ns : Nat), CX p m c s args D cA ad A mm s0 → (rmD (d + 2)).frames ≤ R.frames ∧ (rmD (d + 2)).locals ≤ R.locals → nc ≤ R.cells ∧ ns ≤ R.slots → PrimOk p l e R s m args below meth c Q D cA ad A mm s0 nc ns (wp (d + 1))) :
    ∀ d, CallOk l D cA ad (rmD d) (wp d)
  | 0 => fun _ _ _ _ _ h => h.elim
  | d + 1 => by
    intro m' as g q hm hw sz
    have ih := met_ok hinj HP d
    have h9 : Nat.ble 900 m' = false := by
      rw [← Bool.not_eq_true]
      exact fun z => absurd (Nat.le_of_ble_eq_true z) (by omega)
    unfold wp at hw
    rw [h9, cond_false] at hw
    obtain ⟨hlen, hw⟩ := bif_inv hw
    have hlen := Nat.le_of_ble_eq_true hlen
    have hpl := List.all_eq_true.mp plain_ok m' (List.mem_range.mpr hm)
    rw [Bool.or_eq_true] at hpl
    rcases hpl with hpl | hpl
    · have hz := noC_none m' (of_decide_eq_true hpl)
      have := rnP_out (wp_mono d) hw
      unfold stP at this
      rw [hz] at this
      exact this.elim
    rw [Bool.and_eq_true, decide_eq_true_eq] at hpl
    have hrk := List.all_eq_true.mp ret_kind m' (List.mem_range.mpr hm)
    refine Met.ofW (cc := mnB m') (maxL := (pmeta m').2.1) (ret := mnR m') hpl.1 rfl ?_
    intro p e s m args below meth c s₁ B hml hv
    obtain ⟨rfl, hsz, hP, hK, hRW⟩ := hv
    have hts0 := atoms_spec (ws := wsM m') B.pre
    have hts : ∀ w ∈ gT, w.before (as.map (tvV ad)).toArray s = true := fun w hw => hts0 w (List.mem_cons_of_mem _ hw)
    have hown : s.vm.findClass (cnm (pmeta m').1) = some m.cls := by rw [← hpl.2]; exact findClass_of_methodNamed B.named
    have hlocks := B.notSynchronized
    have hr := B.returns
    have hX : CX p m c s (as.map (tvV ad)).toArray D cA ad (AR ad sz) m' g := ⟨B.exec, B.bytes, hml, hown, hts, hK, hRW, hinj, fun k hk => Or.inl ⟨k, hk, rfl⟩, fun q hq => Or.inr (by rw [← hsz]; exact hq)⟩
    have hl := lv_entry (as.map (tvV ad)) (n := (pmeta m').2.1) (by rw [lay_len]; exact hlen)
    rw [lg_entry_eq]
    generalize (lg_sl (as.map (tvV ad)) ++ List.replicate ((pmeta m').2.1 - (lg_sl (as.map (tvV ad))).length) Slot.unset).toArray = ls at hl ⊢
    have hl2 : lv_has ls (pmeta m').2.1 (lvp ad 0 (padL (pmeta m').2.1 (layA as))) := lv_le hl (fun q hq => lay_in (pad_in hq))
    have hpr : PrimOk p l e (headSpec (wsM m') (rmD (d + 1))).room s m (as.map (tvV ad)).toArray below meth c (MQ below (QRM D cA ad (pmeta m').2.2 q g sz) (as.map (tvV ad)).toArray s 0 0 (AR ad sz)) D cA ad (AR ad sz) m' g 0 0 (wp d) := by
      cases d with
      | zero => intro _ _ _ _ _ _ _ _ _ _ _ _ _ _ _ _ _ _ _ h; exact h.elim
      | succ d => exact HP d (met_ok hinj HP d) p e _ s m _ below meth c _ _ m' g 0 0 hX ⟨Nat.le_refl _, Nat.le_refl _⟩ ⟨Nat.zero_le _, Nat.zero_le _⟩
    refine hw (XJ p l e (headSpec (wsM m') (rmD (d + 1))).room s m (as.map (tvV ad)).toArray below meth c (MQ below (QRM D cA ad (pmeta m').2.2 q g sz) (as.map (tvV ad)).toArray s 0 0 (AR ad sz)) D cA ad (AR ad sz) m' g 0 0) ?_ s.heap [] ls hP va_S.rf hl2 (fun _ _ => rfl)
    intro pc loc stk g1 h1
    refine step_ok hX ⟨Nat.zero_le _, Nat.zero_le _⟩ (fun i np tp fs sw m' n ci rk hc he => no900 hm hc he) ⟨by show 1 ≤ d + 1 + 10; omega, by show 40 ≤ 40 * (d + 1) + 400; omega⟩ (rm := rmD d) ⟨rfl, rfl, by show d + 10 + 1 ≤ d + 1 + 10; omega, by show 31 + (40 * d + 400) ≤ 40 * (d + 1) + 400; omega⟩ ih hpr (q := q) ?_ ?_ ?_ ?_ h1
    · intro h0 pc g2 H locs ls hd hq hP hS ha
      rw [h0] at hrk ⊢
      exact W.vret B.exec B.bytes (hr.trans (of_decide_eq_true hrk)) (fun t ht hW => ⟨⟨g2, rfl, ⟨hq, ha⟩, by show va_P D cl10 (wsO cA ad g2) t.heap; rw [ht]; exact hP⟩, hS.F ht⟩) hS.2.2 hd hlocks
    · intro h0 pc g2 H locs ls x hd hx1 hq hP hS ha
      rcases h0 with h0 | h0
      · rw [h0] at hrk ⊢
        exact W.iret B.exec B.bytes (hr.trans (of_decide_eq_true hrk)) (fun t ht hW => ⟨⟨x, g2, rfl, ⟨hq, ha⟩, by show va_P D cl10 (wsO cA ad g2) t.heap; rw [ht]; exact hP⟩, hS.F ht⟩) hS.2.2 hd hlocks
      · have hx2 := hx1 h0
        rw [h0] at hrk ⊢
        exact W.zret (ty := .boolean) B.exec B.bytes (hr.trans (of_decide_eq_true hrk)) (by rcases and1 hx2 with rfl | rfl <;> rfl) (fun t ht hW => ⟨⟨x, g2, rfl, ⟨hq, ha⟩, by show va_P D cl10 (wsO cA ad g2) t.heap; rw [ht]; exact hP⟩, hS.F ht⟩) hS.2.2 hd hlocks
    · intro h0 pc g2 H locs ls x hd hq hP hS ha
      rw [h0] at hrk ⊢
      exact W.lret B.exec B.bytes (hr.trans (of_decide_eq_true hrk)) (fun t ht hW => ⟨⟨x, g2, rfl, ⟨hq, ha⟩, by show va_P D cl10 (wsO cA ad g2) t.heap; rw [ht]; exact hP⟩, hS.F ht⟩) hS.2.2 hd hlocks
    · intro h0 pc g2 H locs ls hd hP hS ha
      rw [h0] at hrk ⊢
      have hrt : ∃ n, mnR m' = some (.object n) := by
        cases hm9 : mnR m' with
        | none => rw [hm9] at hrk; cases hrk
        | some t =>
          cases t with
          | object n => exact ⟨n, rfl⟩
          | _ => rw [hm9] at hrk; cases hrk
      obtain ⟨n, hn⟩ := hrt
      refine ⟨fun k hq => ?_, fun hq => ?_⟩
      · exact W.aret B.exec B.bytes (hr.trans hn) (Or.inl ⟨n, rfl⟩) (Or.inr ⟨_, rfl⟩) (fun t ht hW => ⟨⟨some (ad k), g2, rfl, ⟨Or.inl ⟨k, rfl, hq⟩, ha⟩, by show va_P D cl10 (wsO cA ad g2) t.heap; rw [ht]; exact hP⟩, hS.F ht⟩) hS.2.2 hd hlocks
      · exact W.aret B.exec B.bytes (hr.trans hn) (Or.inl ⟨n, rfl⟩) (Or.inl rfl) (fun t ht hW => ⟨⟨none, g2, rfl, ⟨Or.inr ⟨rfl, hq⟩, ha⟩, by show va_P D cl10 (wsO cA ad g2) t.heap; rw [ht]; exact hP⟩, hS.F ht⟩) hS.2.2 hd hlocks
