/-! THE CLAIM OUT OF ONE WALK OF THE LAW'S BODY. Your part is whole_start (and what it stands on); all else here is the same for every law, but numbers. -/
def R_law : String := "SmellMapLaw"
def lw_P (b : Addr) (xs : List Int32) (args : Array Value) (s : State) : Prop := args = #[.ref b] ∧ s.IntsAt b xs ∧ xs.length ≤ 3072 ∧ (Jvm.Cond.and given_1 narrow_1).before args s = true
def lw_Q (_ : Array Value) (s : State) (o : Outcome) (t : State) : Prop := o = .returned (some (.int 1)) ∧ Framed s o t [] 601024 7293034
def lw_Z (below : List Frame) (a : Array Value) (s : State) : State → Prop := fun t => ∃ o, t.status = .running ∧ Ended t below o ∧ lw_Q a s o t
/-- the law's own end, with 1 on the stack, nothing written that was there before, its room as the claim has it -/
theorem lw_ret {p : Program} {l : Launch} {e : Env} {s : State} {m : MethodId} {below : List Frame} {meth : Method} {c : Code} {b : Nat} (hx : p.tables.exec = Jvm.exec) (hb : c.code = code) (hr : meth.sig.returnType = ret) (hlocks : meth.locks = false) {pc : Nat} {H : Heap} {ls : Array Slot} (hdg : decode code pc = .ok (.ireturn, 1)) : W p l e room_1 s m #[Value.ref b] below meth c H [] 601024 7293034 (lw_Z below #[Value.ref b] s) (F0 m pc ls [.int 1]) := by
  intro T hT X
  obtain ⟨fs, hret, hrun, hended, hW, hframe⟩ := X.leave (v := some (.int 1)) (hlocks := hlocks) (fun h => by rw [hr] at h; cases h)
  have hmeth' : T.vm.method? m = some meth := X.method'
  refine ⟨T.setFrames fs, ?_, .returned (some (.int 1)), hrun, hended, rfl, ⟨_, rfl⟩, hW, hframe⟩
  jvm_step X.here [X.here.top, hx, hb, hdg, hmeth', hr, ret, narrow_b1]
  (try refine ⟨rfl, ?_⟩); (try refine ⟨rfl, ?_⟩)
  first | (intro acts; rw [hret _ acts rfl rfl rfl]) | rw [hret _ _ rfl rfl rfl]
  exact Steps.refl _
/-- what holds at the law's entry: the machine, the code, the tables' words (any of lw_tbl by 'hts w (by decide +kernel)'), the script of L ints xs at the cell b, what the Statement gives of the start (any of its parts by flat_of_before) -/
def lw_At (p : Program) (s : State) (m : MethodId) (meth : Method) (c : Code) (b L : Nat) (xs : Nat → Int32) : Prop :=
  p.tables.exec = Jvm.exec ∧ c.code = code ∧ meth.sig.returnType = ret ∧ c.maxLocals = 7 ∧ s.vm.findClass R_law = some m.cls ∧ (∀ w ∈ lw_tbl, w.before #[Value.ref b] s = true) ∧ va_X b L xs s s.heap ∧ b < s.heap.size ∧ meth.locks = false ∧ (Jvm.Cond.and given_1 narrow_1).before #[Value.ref b] s = true
theorem law_inv : ∀ pc e, cd_K_law pc = some e → (match e.1 with | .invokestatic _ => Nat.beq pc 346 | _ => true) = true := chk cd_K_law 1254 (fun pc e => match e.1 with | .invokestatic _ => Nat.beq pc 346 | _ => true) (fun i h => by unfold cd_K_law; rw [h]; rfl) (by decide +kernel)
theorem law_900 {pc i np tp m' : Nat} {fs : List Nat} {sw : List (Int × Nat)} (hp : pc ≠ 346) (hc : pcode 258 pc = some (.invokestatic i, np, tp, fs, sw)) : m' ≠ 900 := by
  have hc : cd_K_law pc = some (.invokestatic i, np, tp, fs, sw) := hc
  exact absurd (Nat.eq_of_beq_eq_true (law_inv pc _ hc)) hp
theorem hl_flags (l : Launch) (h : l.flags = flags0) : l.stackTraces = false := by
  unfold Launch.stackTraces
  rw [h]
  decide
section LAW
variable {p : Program} {l : Launch} {e : Env} {s : State} {m : MethodId} {below : List Frame} {meth : Method} {c : Code} {b : Nat}
variable {D : va_G} {cA : Nat → ClassId} {ad : Nat → Nat} {s0 : Mem}
/-- the law's states, j throws behind it -/
def XX (p : Program) (l : Launch) (e : Env) (s : State) (m : MethodId) (below : List Frame) (meth : Method) (c : Code) (b : Nat) (D : va_G) (cA : Nat → ClassId) (ad : Nat → Nat) (s0 : Mem) (j : Nat) : Cont := XJ p l e room_1 s m #[Value.ref b] below meth c (lw_Z below #[Value.ref b] s) D cA ad (CA s.heap.size) 258 s0 (88 + j) (21042 + 6 * j)
theorem law_K (hX : CX p m c s #[Value.ref b] D cA ad (CA s.heap.size) 258 s0) (hinj : ∀ i j, i < 88 → j < 88 → ad i = ad j → i = j) (hb : c.code = code) (hr : meth.sig.returnType = ret) (hlocks : meth.locks = false) {j : Nat} (hj : j ≤ 513) : KX 51 (XX p l e s m below meth c b D cA ad s0 j) (fun v _ => v = 1) := by
  intro pc loc stk s' hp h
  refine step_ok hX (R := room_1) ⟨by show 88 + j ≤ 601024; omega, by show 21042 + 6 * j ≤ 7293034; omega⟩ (fun i np tp fs sw m' n ci rk hc he => law_900 hp hc) ⟨by decide, by decide⟩ (rm := rmD 51) ⟨rfl, rfl, by decide, by decide⟩ (met_all hinj 51) (hp_all (d := 50) hX ⟨by decide, by decide⟩ ⟨by show 88 + j ≤ 601024; omega, by show 21042 + 6 * j ≤ 7293034; omega⟩) (q := liI (fun v _ => v = 1)) ?_ ?_ ?_ ?_ h
  · intro h0; exact absurd h0 (by decide)
  · intro _ pc g H locs ls x hd _ hq hP hS ha
    have hq : x = 1 := hq
    subst hq
    exact W.widen (k := 601024) (n := 7293034) (by show 88 + j ≤ 601024; omega) (by show 21042 + 6 * j ≤ 7293034; omega) (va_forget hS.2.2 (lw_ret hX.1 hb hr hlocks hd))
  · intro h0; exact absurd h0 (by decide)
  · intro h0; exact absurd h0 (by decide)
theorem law_L (hX : CX p m c s #[Value.ref b] D cA ad (CA s.heap.size) 258 s0) (hinj : ∀ i j, i < 88 → j < 88 → ad i = ad j → i = j) (hb : c.code = code) (hr : meth.sig.returnType = ret) (hlocks : meth.locks = false) {L : Nat} (h8 : s0 1008 0 = nI L) (hL : L ≤ 3072) {j : Nat} (hj : j ≤ 513) : LX 0 (XX p l e s m below meth c b D cA ad s0 j) s0 L :=
  ⟨law_K hX hinj hb hr hlocks hj, fun pc loc stk s' h H locs ls hP hS hl ha => h ha H locs ls hP hS hl ha, h8, hL⟩
set_option maxRecDepth 100000 in
theorem law_S (hl0 : l.stackTraces = false) (hX : CX p m c s #[Value.ref b] D cA ad (CA s.heap.size) 258 s0) (hZ : XZ (CA s.heap.size) s s.heap) (hinj : ∀ i j, i < 88 → j < 88 → ad i = ad j → i = j) {j : Nat} (hj : j < 513) : SX 0 (XX p l e s m below meth c b D cA ad s0 j) (XX p l e s m below meth c b D cA ad s0 (j + 1)) := by
  intro i4 v5 v6 a b' g hc hw H locs ls hP hS hl ha
  have hw : primP (wp 50) 900 [.ref 0, .int a, .int b', .ref 56] g _ := hw
  have hX' := hX
  obtain ⟨hx, hb, hml, hown, hts, hK, hRW, -, hAk, hAs⟩ := hX'
  have hA := AR_in hX hS
  show W p l e room_1 s m #[Value.ref b] below meth c H locs (88 + j) (21042 + 6 * j) (lw_Z below #[Value.ref b] s) (F0 m 346 ls [.ref (ad 56), .int b', .int a, .ref (ad 0)])
  refine va_calli (mc := 1) (ms := 6) (vx_runSW (As := [.ref (ad 0), .int a, .int b', .ref (ad 56)]) (rest := []) ⟨hx, hb, hml, hown, hts⟩ (c_hlp l hl0 hinj 49 hc hw H.size) (vx_cwSW 4 hts (ws' := gT) (gi (fun w hw => by
    rcases List.mem_append.mp hw with hw | hw
    · simp only [List.mem_cons, List.not_mem_nil, or_false] at hw
      rcases hw with rfl | rfl | rfl
      · exact (inG_mem (p := 1081) (by decide +kernel))
      · exact (inG_mem (p := 1082) (by decide +kernel))
      · exact (inG_mem (p := 84) (by decide +kernel))
    · rcases List.mem_cons.mp hw with rfl | hw
      · exact g_hlp
      · exact hw)) rfl rfl rfl (by decide +kernel) ⟨by decide, by decide⟩) ⟨PRX_blind, fun U hU hW => ⟨rfl, ⟨by rw [hU], by rw [hU]; exact hP, va_K.moved hW.alike hK, by rw [hU]; exact (((hRW.warm hW).kept hS.2.1).narrow hA).mem ha⟩, by rw [hU]; exact ((hZ.warm hW).kept hS.2.1).narrow hA⟩⟩ rfl rfl hl.1 rfl (lv_room (Nat.le_of_ble_eq_true rfl)) (show decode (mnB 258) 346 = .ok (.invokestatic 38, 3) by decide +kernel) ⟨by show 88 + j + 1 ≤ 601024; omega, by show 21042 + 6 * j + 6 ≤ 7293034; omega⟩) hS (fun x _ hx => hA x hx) hA (fun r u t H1 locs1 ht hvm hw1 hB hz1 hk1 hS1 => ?_)
  obtain ⟨hq, hu⟩ := hw1
  have hB : va_P D cl10 (wsO cA ad u) t.heap := hB
  rw [ht] at hB
  have hq : XX p l e s m below meth c b D cA ad s0 (j + 1) 349 [.ref 1000, .ref 0, .ref 57, .ref 56, .int i4, v5, v6] [.int r] u := hq
  exact W.widen (k := 88 + (j + 1)) (n := 21042 + 6 * (j + 1)) (by omega) (by omega) (hq H1 locs1 ls hB hS1 hl (fun i hi => (hu i hi).trans (ha i hi)))
end LAW
theorem inst_w : (List.range 10).all (fun ci => inG ([201, 276, 137, 303, 251, 117, 235, 179, 109, 1153].getD ci 0) (.instantiable (cnm ci) (nfF ci)) && inG ([89, 92, 87, 93, 91, 86, 90, 88, 85, 94].getD ci 0) (.initialized (cnm ci))) = true := by decide +kernel
theorem inst_i {ci : Nat} (h : ci < 10) : Cond.instantiable (cnm ci) (nfF ci) ∈ gT ∧ Cond.initialized (cnm ci) ∈ gT := by
  have := List.all_eq_true.mp inst_w ci (List.mem_range.mpr h)
  rw [Bool.and_eq_true] at this
  exact ⟨inG_mem this.1, inG_mem this.2⟩
theorem arr_of {s : State} {args : Array Value} {ty : FieldType} (h : (Cond.arrayClass ty).before args s = true) : ∃ cB : ClassId, ArrOfT s cB ty ∧ s.vm.findClass ("[" ++ ty.toString) = some cB := by
  obtain ⟨cB, kA, comp, h1, h2, h3⟩ := Cond.arrayClass_spec h
  exact ⟨cB, fun n z => ⟨(fun k h => (by cases h)), kA, h2, comp, h3⟩, h1⟩
theorem gv_K {s : State} {b : Nat} (hts : ∀ w ∈ gT, w.before #[Value.ref b] s = true) (hAO : va_AO "SmellMap$Law" s) : ∃ (D : va_G) (cA : Nat → ClassId), va_K D cl10 (tyL cA) s := by
  have h : ∀ ci : Nat, ∃ x : ClassId × (Nat → Nat), ci < 10 → u_Kn s (cnm ci) (fTT ci) (nfF ci) x.1 x.2 := by
    intro ci
    by_cases hci : ci < 10
    · obtain ⟨cC, iS, hk⟩ := u_known (C := cnm ci) (T := fTT ci) (N := nfF ci) hts (fW_at hci) (hts _ (inst_i hci).1)
      exact ⟨(cC, iS), fun _ => hk⟩
    · exact ⟨(0, fun _ => 0), fun h => absurd h hci⟩
  obtain ⟨f, hf⟩ := Classical.axiomOfChoice h
  obtain ⟨c20, a20, n20⟩ := arr_of (hts _ (inG_mem arr_w.1))
  obtain ⟨c21, a21, n21⟩ := arr_of (hts _ (inG_mem arr_w.2.1))
  obtain ⟨c22, a22, n22⟩ := arr_of (hts _ (inG_mem arr_w.2.2.1))
  obtain ⟨c23, a23, n23⟩ := arr_of (hts _ (inG_mem arr_w.2.2.2))
  obtain ⟨comp, c24, k24, g1, -, g3, g4, g5⟩ := Cond.arrayOver_spec (va_AO.use (A := #[Value.ref b]) hAO)
  refine ⟨(fun k => (f k).1, fun k => (f k).2), fun k => if k = 20 then c20 else if k = 21 then c21 else if k = 22 then c22 else if k = 23 then c23 else c24, fun ci q hq => ?_, fun k q hq => ?_⟩
  · have hl : ci < 10 := (List.getElem?_eq_some_iff.mp hq).1
    rw [cl10_at hl] at hq
    cases hq
    exact hf ci hl
  · have hl : k < 5 := (List.getElem?_eq_some_iff.mp hq).1
    match k, hl, hq with
    | 0, _, hq => cases hq; exact ⟨a20, n20⟩
    | 1, _, hq => cases hq; exact ⟨a21, n21⟩
    | 2, _, hq => cases hq; exact ⟨a22, n22⟩
    | 3, _, hq => cases hq; exact ⟨a23, n23⟩
    | 4, _, hq => cases hq; exact ⟨fun n z => ⟨(fun k h => (by cases h)), k24, g3, comp, g4⟩, k24, comp, g3, g4, g1, g5⟩
theorem rx8 : rm8.cells = 55 ∧ rm8.slots = 7109 := ⟨rfl, rfl⟩
set_option maxRecDepth 100000 in
set_option maxHeartbeats 4000000 in
theorem whole_start {p : Program} {e : Env} {s : State} {m : MethodId} {below : List Frame} {meth : Method} {c : Code} (l : Launch) (hflags : l.flags = flags0) {b L : Nat} {xs : Nat → Int32} (hL : L ≤ 3072) (C0 : lw_At p s m meth c b L xs) : W p l e room_1 s m #[Value.ref b] below meth c s.heap [] 0 0 (lw_Z below #[Value.ref b] s) (entryFrame m ([Value.ref b] : List Value).toArray 7) := by
  obtain ⟨hx, hb, hr, hml, hown, htb, hX, hbl, hlocks, hgv⟩ := id C0
  have hg := flat_of_before gv1 hgv
  have hts : ∀ w ∈ gT, w.before #[Value.ref b] s = true := fun w hw => htb w (List.mem_filter.mp hw).1
  have hA0 : ∀ a : Nat, a < s.heap.size → ¬ CA s.heap.size a := fun a h h' => absurd h (Nat.not_lt.mpr h')
  have hAO := gv_AO htb
  have hNI := gv_NI htb
  obtain ⟨adS, hb0, hRW⟩ := gv_RW (A := CA s.heap.size) hg htb hX hL hA0
  have hZ : XZ (CA s.heap.size) s s.heap := gv_XZ hg htb hA0
  obtain ⟨D, cA, hK⟩ := gv_K hts hAO
  obtain ⟨ad, had⟩ : ∃ ad, ad = adO s.heap.size adS := ⟨_, rfl⟩
  have hRW := hRW ad (fun k hk => by rw [had]; exact adO_S _ _ _ hk)
  have hinj : ∀ i j, i < 88 → j < 88 → ad i = ad j → i = j := by rw [had]; exact adO_inj _ _
  have hT : ∀ x ∈ txL, vk_R "SmellMapModel" x.1 x.2.1 (ad x.2.2) s := hRW.2.2.2.2.1
  have hCX : CX p m c s #[Value.ref b] D cA ad (CA s.heap.size) 258 (g0 L xs) := ⟨hx, hb, hml, hown, hts, hK, hRW, hinj, fun k hk => by rw [had]; exact adO_ge _ _ _ hk, fun q hq => hq⟩
  have hC : CN D s.heap.size [] s.heap := ⟨fun k q h => by simp at h, fun k q h => by simp at h, rfl⟩
  have hS : va_S (CA s.heap.size) s.heap s.heap [] := va_S.rf
  have hl := lv_entry ([.ref b]) (n := 7) (Nat.le_of_ble_eq_true rfl)
  rw [lg_entry_eq]
  generalize (lg_sl ([.ref b]) ++ List.replicate (7 - (lg_sl ([.ref b])).length) Slot.unset).toArray = ls at hl ⊢
  have hl : lv_has ls 7 [(0, .ref b)] := hl
  refine ct_callP (D := D) (cA := cA) (W1 := fun q => Bk8 cA ad q 5) (Pq := Pq8 D cA ad) (mc := 55) (ms := 7109) hx hb hml hl.1 (cj := 8) (by decide) hts hown (hts (.classLink "SmellMapLaw" 8 (cnm 8)) (inG_mem (p := 108) (by decide +kernel))) (inst_i (by decide)).1 (inst_i (by decide)).2 (hts (.methodLink "SmellMapLaw" 15 (yI 8)) (inG_mem (p := 110) (by decide +kernel))) (inG_mem (p := 111) (by decide +kernel)) g_ini8 (fun q => Pq8_blind) (fun q => ct_8 l q) (by decide +kernel) ⟨by decide, by decide⟩ rfl rfl hK hC hS (fun H1 hC1 U hU hW => ⟨by rw [hU]; exact hC1, va_K.moved hW.alike hK, fun x hx => vk_R.warm hW (hT x hx), fun x hx => va_Nw.warmM hW (hNI x hx), va_AO.moved hW.alike hAO⟩) (Nat.le_of_ble_eq_true rfl) (Nat.le_of_ble_eq_true rfl) (Nat.le_of_ble_eq_true rfl) (show decode code 0 = .ok (.new 8, 3) by decide +kernel) (show decode code 3 = .ok (.dup, 1) by decide +kernel) (show decode code 4 = .ok (.invokespecial 15, 3) by decide +kernel) (fun H locs hC hS => ?_)
  rw [show s.heap.size + ([] : va_W).length = s.heap.size from rfl] at hC ⊢
  have hC : CN D s.heap.size (Bk8 cA ad s.heap.size 5) H := hC
  refine lv_astore_n (lv' := [(1, .ref s.heap.size), (0, .ref b)]) hx hb (show decode code 7 = .ok (.astore_n 1, 1) by decide +kernel) rfl hl (by decide) rfl (fun ls hl => ?_)
  refine ct_callP (D := D) (cA := cA) (W1 := fun q => Bk9 cA ad q) (Pq := fun z U => CN D z [(z, .inr (9, dfl 9))] U.heap ∧ va_K D cl10 (tyL cA) U ∧ ∀ x ∈ txL, vk_R "SmellMapModel" x.1 x.2.1 (ad x.2.2) U) (mc := 30) (ms := 13863) hx hb hml hl.1 (cj := 9) (by decide) hts hown (hts (.classLink "SmellMapLaw" 16 (cnm 9)) (inG_mem (p := 1152) (by decide +kernel))) (inst_i (by decide)).1 (inst_i (by decide)).2 (hts (.methodLink "SmellMapLaw" 18 (yI 9)) (inG_mem (p := 1154) (by decide +kernel))) (inG_mem (p := 1155) (by decide +kernel)) g_ini9 (fun q => PCt_blind) (fun q => ct_9 l q) (by decide +kernel) ⟨by decide, by decide⟩ rfl rfl hK hC hS (fun H1 hC1 U hU hW => ⟨by rw [hU]; exact hC1, va_K.moved hW.alike hK, fun x hx => vk_R.warm hW (hT x hx)⟩) (Nat.le_of_ble_eq_true rfl) (Nat.le_of_ble_eq_true rfl) (Nat.le_of_ble_eq_true rfl) (show decode code 8 = .ok (.new 16, 3) by decide +kernel) (show decode code 11 = .ok (.dup, 1) by decide +kernel) (show decode code 12 = .ok (.invokespecial 18, 3) by decide +kernel) (fun H locs hC hS => ?_)
  rw [show s.heap.size + (Bk8 cA ad s.heap.size 5).length = s.heap.size + 56 by rw [Bk8_len]] at hC ⊢
  refine lv_astore_n (lv' := [(2, .ref (s.heap.size + 56)), (1, .ref s.heap.size), (0, .ref b)]) hx hb (show decode code 15 = .ok (.astore_n 2, 1) by decide +kernel) rfl hl (by decide) rfl (fun ls hl => ?_)
  refine lv_iconst (v := 1) hx hb (show decode code 16 = .ok (.iconst 1, 1) by decide +kernel) (by decide) ?_
  refine cn_newa (t0 := 3) (kd := 23) hx hb (atype := .long) (hts _ (inG_mem arr_w.2.2.2)) hK hC hS (Nat.le_refl _) rfl (a0 := (1, .inr (.inl (fun _ => 0)))) rfl (by decide) (N' := 1) (by decide) (by decide) (Nat.le_of_ble_eq_true rfl) (Nat.le_of_ble_eq_true rfl) (show decode code 17 = .ok (.newarray .long, 2) by decide +kernel) (fun H hC hS => ?_)
  rw [Bk9_eq] at hC ⊢
  rw [show s.heap.size + (Bk8 cA ad s.heap.size 5 ++ Bn9 cA ad (s.heap.size + 56)).length = s.heap.size + 87 by rw [List.length_append, Bk8_len, Bn9_len]] at hC ⊢
  rw [List.append_assoc] at hC
  have hC : CN D s.heap.size (allW cA ad s.heap.size) H := hC
  refine lv_astore_n (lv' := [(3, .ref (s.heap.size + 87)), (2, .ref (s.heap.size + 56)), (1, .ref s.heap.size), (0, .ref b)]) hx hb (show decode code 19 = .ok (.astore_n 3, 1) by decide +kernel) rfl hl (by decide) rfl (fun ls hl => ?_)
  refine lv_iconst (v := 0) hx hb (show decode code 20 = .ok (.iconst 0, 1) by decide +kernel) (by decide) ?_
  refine lv_istore (lv' := [(4, .int 0), (3, .ref (s.heap.size + 87)), (2, .ref (s.heap.size + 56)), (1, .ref s.heap.size), (0, .ref b)]) hx hb (show decode code 21 = .ok (.istore 4, 2) by decide +kernel) hl (by decide) rfl (fun ls hl => ?_)
  have hloop := law_loop (d := 0) (s0 := g0 L xs) (n := L) (XX := XX p l e s m below meth c b D cA ad (g0 L xs)) (N := 513) (fun j hj => law_L hCX hinj hb hr hlocks rfl hL hj) (fun j hj => law_S (hl_flags l hflags) hCX hZ hinj hj) 513 0 0 3 gr0 (g0 L xs) uV uV (by omega) (by omega) (by omega) (rel0 L xs)
  have hl2 : lv_has ls (pmeta 258).2.1 (lvp ad 0 (lcs 0 uV uV)) := by
    show lv_has ls 7 [(0, .ref (ad 1000)), (1, .ref (ad 0)), (2, .ref (ad 57)), (3, .ref (ad 56)), (4, .int (nI 0))]
    rw [show ad 1000 = b by rw [had, adO_S _ _ _ (by decide)]; exact hb0, show ad 0 = s.heap.size by rw [had]; rfl, show ad 57 = s.heap.size + 56 by rw [had]; rfl, show ad 56 = s.heap.size + 87 by rw [had]; rfl]
    exact lv_sub hl [4, 3, 2, 1, 0] rfl
  rw [had] at hC
  have hP := allW_P (xs := xs) (L := L) hC
  rw [← had] at hP
  exact W.widen (k := 88 + 0) (n := 21042 + 6 * 0) (by decide) (by decide) (hloop H _ ls hP hS hl2 (fun _ _ => rfl))
set_option maxHeartbeats 4000000 in
theorem lw_walk (l : Launch) (hflags : l.flags = flags0) (b : Addr) (xs : List Int32) : MetFree l x (headSpec (Jvm.Cond.code x code maxLocals ret :: tables_1) room_1) (lw_P b xs) (fun _ _ _ _ _ => True) lw_Q := by
  refine MetFree.of_bodyS (code := code) (maxLocals := maxLocals) (ret := ret) (by decide) ?_ ?_
  · intro args s m h hn
    obtain ⟨meth, c, h1, h2, h3, h4, h5, h6, -, -⟩ := Cond.code_spec hn (atoms_spec (ws := Jvm.Cond.code x code maxLocals ret :: tables_1) h _ List.mem_cons_self)
    exact ⟨meth, c, h1, h2, h3, h4, h5, h6⟩
  · intro p e s m args below meth c s₁ B hml0 hP _
    obtain ⟨rfl, hx, hbd, hgv⟩ := hP
    obtain ⟨scr, harrAt, hlist, hof, hsmall⟩ := hx
    obtain ⟨hcb, hkn, -, -⟩ := State.arrayAt?_spec harrAt
    have hown : s.vm.findClass R_law = some m.cls := findClass_of_methodNamed B.named
    have hts0 : ∀ c ∈ (Jvm.Cond.code x code maxLocals ret :: tables_1), c.before #[Value.ref b] s = true := atoms_spec (ws := Jvm.Cond.code x code maxLocals ret :: tables_1) B.pre
    have hts : ∀ w ∈ lw_tbl, w.before #[Value.ref b] s = true := k2_hts_sels lw_privs (fun w hw => hts0 w (List.mem_cons_of_mem _ hw)) lw_privs_ok
    have hml : c.maxLocals = 7 := B.maxLocals_eq (hts0 _ List.mem_cons_self)
    have X₀ : Stand p l e room_1 s m #[Value.ref b] below meth c s₁ [] 0 0 := Stand.of_body B
    have hh0 : s₁.heap = s.heap := by rw [B.state]; rfl
    have hsz : scr.slots.size = xs.length := by rw [← Array.length_toList, hlist, List.length_map]
    have hval : ∀ j : Nat, j < xs.length → scr.slots[j]? = some (.int (xs.getD j 0)) := fun j hj => by
      rw [← Array.getElem?_toList, hlist]
      simp [hj]
    have hbl : b < s.heap.size := (Array.getElem?_eq_some_iff.mp hcb).1
    have hX : va_X b xs.length (fun j => xs.getD j 0) s s.heap := ⟨scr, hcb, hof, hkn, hsz, hval⟩
    have K : W p l e room_1 s m #[Value.ref b] below meth c s₁.heap [] 0 0 (lw_Z below #[Value.ref b] s) (entryFrame m ([Value.ref b] : List Value).toArray 7) := by
      rw [hh0]
      exact whole_start l hflags hbd ⟨B.exec, B.bytes, B.returns, hml, hown, hts, hX, hbl, B.notSynchronized, hgv⟩
    obtain ⟨t, a1, o, b1, b2, b3⟩ := K s₁ rfl X₀
    exact ⟨t, o, a1, b1, b2, b3⟩
theorem lw_pre_spec {args : Array Value} {s : State} (h : (Jvm.Cond.and given_1 narrow_1).before args s = true) (hr : rest_1_c.before args s = true) : ∃ (b : Addr) (xs : List Int32), lw_P b xs args s := by
  have hs := flat_of_before _ h
  have hq := flat_of_before _ hr
  have hc : (Cond.count 1).before args s = true := hs _ (by decide +kernel)
  have harr : (Cond.arrayOf (.arg 0) .int).before args s = true := hs _ (by decide +kernel)
  have hle : (Cond.le (.length (.arg 0)) (.int 3072)).before args s = true := hs _ (by decide +kernel)
  have hlen : (Cond.isInt (.length (.arg 0))).before args s = true := hq _ (by decide +kernel)
  have hall : (Cond.all (.arg 0) (.isInt (.elem (.arg 0) (.index 0)))).before args s = true := hq _ (by decide +kernel)
  obtain ⟨b, xs, hb, hx⟩ := State.ints_of_pre rfl harr hlen hall
  have hsm : xs.length < 2 ^ 31 := hx.choose_spec.2.2.2
  have hev : (Term.length (.arg 0)).eval args s none [] s = some (.int xs.length.toInt32) := hx.length_eval hb
  have hv := Cond.le_ints hev (show (Term.int 3072).eval args s none [] s = some (.int 3072) from rfl)
  have hd : xs.length.toInt32 ≤ 3072 := by
    simpa [Cond.before, Cond.holds, hv] using hle
  have hN : xs.length ≤ 3072 := (Int32.ofNat_le_ofNat hsm (by decide)).mp (show Int32.ofNat xs.length ≤ Int32.ofNat 3072 from hd)
  exact ⟨b, xs, Cond.one_arg hc (show args[0]? = some (.ref b) from hb), hx, hN, h⟩
theorem lw_comes (l : Launch) (hflags : l.flags = flags0) : Comes l x (Jvm.Cond.code x code maxLocals ret :: tables_1) room_1 (fun tb e args s => Calls_1 tb e args s ∧ rest_1 tb e args s ∧ Pre_1 tb e args s)
    (fun _ _ args s o t => lw_Q args s o t) := by
  intro p e ha hc hk s m args below hf hfit hheap happ hpre
  obtain ⟨b, xs, hP⟩ := lw_pre_spec hpre.2.2 hpre.2.1
  obtain ⟨k, o, h1, h2, h3, hQ⟩ := lw_walk l hflags b xs p e ha hc hk s m args below hf ((Spec.applies_iff_loose hf).mp happ).1 hP trivial
  exact ⟨k, o, h1, h2, h3, hQ⟩
theorem lw_frame {s t : State} {o : Outcome} {args : Array Value} (h : Framed s o t [] 601024 7293034) :
    Framed s o t (fieldLocs frame_1_writes args s ++ arrayLocs frame_1_arrays args s ++ staticLocs frame_1_statics s) 601024 7293034 := h
theorem lw_limb (L : Cond) (hL : ∀ (args : Array Value) (s t : State), L.after args s (.returned (some (.int 1))) t = true) :
    ArmFor flags0 classFile x code maxLocals ret World_1 tables_1 room_1 Calls_1 rest_1 Pre_1
      (fun tb e a s o t => postC L tb e a s o t ∧ Framed s o t (fieldLocs frame_1_writes a s ++ arrayLocs frame_1_arrays a s ++ staticLocs frame_1_statics s) 601024 7293034) := by
  intro l hflags _ _ p e ha hc hk s m args below hf hfit hheap happ hpre
  obtain ⟨k, o, h1, h2, h3, rfl, hF⟩ := lw_comes l hflags p e ha hc hk s m args below hf hfit hheap happ hpre
  exact ⟨k, _, h1, h2, h3, hL args s _, lw_frame hF⟩
theorem i_vc : Claimed_1_1 ∧ Claimed_1_2 := ⟨lw_limb limb_1_1 (fun args s t => by simp [limb_1_1, Cond.after, Cond.holds, Cond.value]), lw_limb limb_1_2 (fun args s t => Cond.after_iff.mpr (by
  first | (rw [show limb_1_2 = Cond.eq .result (.int 1) from rfl, Cond.eq_ints (x := 1) (y := 1) rfl rfl]; simp; done) | (simp [limb_1_2, Cond.value, Term.eval]; done)))⟩
