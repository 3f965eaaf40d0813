/-! THE LAW'S HELPER: it calls source(), and catches (made by gen/hlp.py) -/
abbrev yH : MethodName := ⟨"SmellMapLaw", "source", "(LSmellMap;II[J)I"⟩
abbrev hhH : List (Nat × Nat × Nat × Nat) := [(0, 10, 13, 13)]
def rmH (d : Nat) : Room := { frames := d + 13, cells := 1, slots := 6, locals := 40 * (d + 3) + 400 }
theorem g_hlp : Cond.codeWith yH method_3_code 5 (some .int) hhH ∈ gT := inG_mem (p := 1083) (by decide +kernel)
theorem cw_vX {R : Room} {s : State} {args : Array Value} {own C : String} {idx maxL n mc ms : Nat} {y : MethodName} {b : ByteArray} {ret : Option FieldType} {rm : Room} (hts : ∀ w ∈ gT, w.before args s = true) (o6 : Cond.methodLink own idx y ∈ gT) (o7 : Cond.instanceMethod y ∈ gT) (o8 : Cond.selects C y y ∈ gT) (o9 : Cond.initialized C ∈ gT) (o0 : Cond.code y b maxL ret ∈ gT) (hc : y.cls = C ∧ y.cls ≠ "java/lang/invoke/MethodHandle" ∧ y.cls ≠ "java/lang/invoke/VarHandle" ∧ (parseMethodDescriptor y.desc).map (fun d => d.parameters.length) = some n) (h0 : rm.cells = mc) (h1 : rm.slots = ms) (hR : rm.frames + 1 ≤ R.frames ∧ 8 + (maxL + 11) + rm.locals ≤ R.locals) : CallW R s args own C idx y b maxL ret (Cond.code y b maxL ret :: gT) rm mc ms n :=
  cwV n hts (gi (fun w hw => by
    rcases List.mem_append.mp hw with hw | hw
    · simp only [List.mem_cons, List.not_mem_nil, or_false] at hw
      rcases hw with rfl | rfl | rfl | rfl
      · exact o6
      · exact o7
      · exact o8
      · exact o9
    · rcases List.mem_cons.mp hw with rfl | hw
      · exact o0
      · exact hw)) rfl h0 h1 hc hR
theorem upM_56 {cA : Nat → ClassId} {ad : Nat → Nat} {g : Mem} {r : Int32} : celV cA ad (upM g 56 0 r) 56 = .inl (cA 23, 1, .inr (.inl (vp_updL (fun j => (g 56 j).toInt64) 0 r.toInt64))) := by
  show (.inl (cA 23, 1, .inr (.inl (fun j => (upM g 56 0 r 56 j).toInt64))) : va_E) = _
  congr 5
  funext j
  simp only [upM, if_true, vp_updL]
  by_cases h : j = 0
  · simp [h]
  · simp [h]
section Snd
variable {D : va_G} {cA : Nat → ClassId} {ad : Nat → Nat}
set_option maxRecDepth 100000 in
theorem c_hlp (l : Launch) (hl0 : l.stackTraces = false) (hinj : ∀ i j, i < 88 → j < 88 → ad i = ad j → i = j) (d : Nat) {g : Mem} {a b : Int32} (hc : g 0 1 = nI 4 ∨ g 0 1 = nI 11) {q : Post} (h : primP (wp (d + 1)) 900 [.ref 0, .int a, .int b, .ref 56] g q) (sz : Nat) :
    Met l yH (Cond.codeWith yH method_3_code 5 (some .int) hhH :: gT) (rmH d) (PRX D cA ad [.ref 0, .int a, .int b, .ref 56] g sz) (QRM D cA ad 1 q g sz) 1 6 (AR ad sz) := by
  obtain ⟨-, -, hY, hNo⟩ := h
  refine va_MetW (cc := method_3_code) (maxL := 5) (ret := some .int) (hh := hhH) (by decide) rfl ?_
  intro p e s m args below meth c s₁ B hml hv
  obtain ⟨rfl, ⟨hsz, hP, hK, hRW⟩, hXZ⟩ := hv
  have hx := B.exec
  have hb := B.bytes
  have hr := B.returns
  have hts0 := atoms_spec (ws := Cond.codeWith yH method_3_code 5 (some .int) hhH :: gT) B.pre
  have hts : ∀ w ∈ gT, w.before (List.toArray ([.ref 0, .int a, .int b, .ref 56].map (tvV ad))) s = true := fun w hw => hts0 w (List.mem_cons_of_mem _ hw)
  have hown : s.vm.findClass "SmellMapLaw" = some m.cls := findClass_of_methodNamed B.named
  have hlocks := B.notSynchronized
  have htab : c.exceptionTable.toList = tableOf hhH := vx_table (x := yH) B (hts0 _ List.mem_cons_self)
  have hD : ∀ g : Mem, va_D (AR ad sz) (wsO cA ad g) := fun g => wsO_D hinj (fun k hk => Or.inl ⟨k, hk, rfl⟩)
  have hS : va_S (AR ad sz) s.heap s.heap [] := va_S.rf
  have hAs : ∀ x, AR ad s.heap.size x → AR ad sz x := fun x hx => by rw [← hsz]; exact hx
  have hl := lv_entry ([.ref 0, .int a, .int b, .ref 56].map (tvV ad)) (n := 5) (Nat.le_of_ble_eq_true rfl)
  rw [lg_entry_eq]
  generalize (lg_sl ([.ref 0, .int a, .int b, .ref 56].map (tvV ad)) ++ List.replicate (5 - (lg_sl ([.ref 0, .int a, .int b, .ref 56].map (tvV ad))).length) Slot.unset).toArray = ls at hl ⊢
  have hl : lv_has ls 5 [(0, .ref (ad 0)), (1, .int a), (2, .int b), (3, .ref (ad 56))] := hl
  have hw0 := wsO_get (cA := cA) (ad := ad) (s := g) (show 0 < 88 by decide)
  rw [celV_obj (ci := 8) rfl (by decide)] at hw0
  refine lv_aload_n hx hb (show decode method_3_code 0 = .ok (.aload_n 3, 1) by decide +kernel) rfl (lv_at hl 3 rfl) ?_
  refine lv_iconst (v := 0) hx hb (show decode method_3_code 1 = .ok (.iconst 0, 1) by decide +kernel) (by decide) ?_
  refine lv_aload_n hx hb (show decode method_3_code 2 = .ok (.aload_n 0, 1) by decide +kernel) rfl (lv_at hl 0 rfl) ?_
  refine lv_iload_n hx hb (show decode method_3_code 3 = .ok (.iload_n 1, 1) by decide +kernel) rfl (lv_at hl 1 rfl) ?_
  refine lv_iload_n hx hb (show decode method_3_code 4 = .ok (.iload_n 2, 1) by decide +kernel) rfl (lv_at hl 2 rfl) ?_
  by_cases ho : srcOk g a b
  · have hM := met_all (l := l) (D := D) (cA := cA) hinj (d + 1) 145 [.ref 0, .int a, .int b] g _ (by decide) (hY ho) s.heap.size
    refine va_calli (va_runV (As := [.int a, .int b]) (rest := [.int 0, .ref (ad 56)]) (b := ad 0) ⟨hx, hb, hml, hown, hts⟩ hM (cw_v (n := 2) (y := mnY 145) (b := mnB 145) (maxL := 3) (ret := some .int) hts (inG_mem (p := 1085) (by decide +kernel)) (inG_mem (p := 1086) (by decide +kernel)) (inG_mem (p := 1087) (by decide +kernel)) (inG_mem (p := 85) (by decide +kernel)) (inG_mem (p := 1088) (by decide +kernel)) (by decide +kernel) rfl rfl ⟨by show d + 1 + 10 + 1 ≤ d + 13; omega, by show 8 + (3 + 11) + (40 * (d + 1) + 400) ≤ 40 * (d + 3) + 400; omega⟩) ⟨PRM_blind, va_recv hK hP (cl10_at (by decide)) hw0, fun U hU hW => ⟨rfl, by rw [hU], by rw [hU]; exact hP, va_K.moved hW.alike hK, by rw [hU]; exact (hRW.warm hW).narrow hAs⟩⟩ rfl rfl hl.1 rfl (lv_room (Nat.le_of_ble_eq_true rfl)) (show decode method_3_code 5 = .ok (.invokevirtual 7, 3) by decide +kernel) ⟨Nat.zero_le _, Nat.zero_le _⟩) hS (fun x _ hx => hAs x hx) hAs (fun r u t H1 locs1 ht hvm hw hB hz1 hk1 hS1 => ?_)
    obtain ⟨hq, hu⟩ := hw
    have hB : va_P D cl10 (wsO cA ad u) t.heap := hB
    rw [ht] at hB
    have hq : q (some (.int 0)) (upM u 56 0 r) := hq
    refine lv_i2l hx hb (show decode method_3_code 8 = .ok (.i2l, 1) by decide +kernel) rfl ?_
    have hw8 := wsO_get (cA := cA) (ad := ad) (s := u) (show 56 < 88 by decide)
    have hc8 : celV cA ad u 56 = .inl (cA 23, 1, .inr (.inl (fun j => (u 56 j).toInt64))) := rfl
    rw [hc8] at hw8
    refine va_last hx hb hK hB (hD u) hS1 56 3 hw8 rfl (show vp_in (0 : Int32) 1 by unfold vp_in; decide) (show decode method_3_code 9 = .ok (.lastore, 1) by decide +kernel) (fun H2 locs2 hP2 _ hS2 => ?_)
    rw [show (0 : Int32).toNatClampNeg = 0 from by decide, wsO_set (s' := upM u 56 0 r) (by decide) (fun i' hi' => upM_ne hi') upM_56] at hP2
    refine lv_goto (tgt := 17) hx hb (show decode method_3_code 10 = .ok (.goto 7, 3) by decide +kernel) (by decide) ?_
    refine lv_iconst (v := 0) hx hb (show decode method_3_code 17 = .ok (.iconst 0, 1) by decide +kernel) (by decide) ?_
    refine W.widen (k := 1) (n := 6) (by omega) (by omega) ?_
    exact W.iret hx hb hr (fun t ht hW => ⟨⟨0, upM u 56 0 r, rfl, ⟨hq, fun j hj => by rw [upM_ne (by omega)]; exact hu j hj⟩, by show va_P D cl10 (wsO cA ad _) t.heap; rw [ht]; exact hP2⟩, hS2.F ht⟩) hS2.2.2 (show decode method_3_code 18 = .ok (.ireturn, 1) by decide +kernel) hlocks
  · have hq := hNo ho
    refine vx_calli (mc := 1) (ms := 6) (vx_runV (As := [.int a, .int b]) (rest := [.int 0, .ref (ad 56)]) (b := ad 0) ⟨hx, hb, hml, hown, hts⟩ (src_throw l hl0 hinj d hc ho s.heap.size) (cw_vX (n := 2) (y := mnY 145) (b := mnB 145) (maxL := 3) (ret := some .int) hts (inG_mem (p := 1085) (by decide +kernel)) (inG_mem (p := 1086) (by decide +kernel)) (inG_mem (p := 1087) (by decide +kernel)) (inG_mem (p := 85) (by decide +kernel)) (inG_mem (p := 1088) (by decide +kernel)) (by decide +kernel) rfl rfl ⟨by show d + 12 + 1 ≤ d + 13; omega, by show 8 + (3 + 11) + (40 * (d + 2) + 400) ≤ 40 * (d + 3) + 400; omega⟩) ⟨PRX_blind, va_recv hK hP (cl10_at (by decide)) hw0, fun U hU hW => ⟨rfl, ⟨by rw [hU], by rw [hU]; exact hP, va_K.moved hW.alike hK, by rw [hU]; exact (hRW.warm hW).narrow hAs⟩, by rw [hU]; exact (hXZ.warm hW).narrow hAs⟩⟩ rfl rfl hl.1 rfl (lv_room (Nat.le_of_ble_eq_true rfl)) (show decode method_3_code 5 = .ok (.invokevirtual 7, 3) by decide +kernel) ⟨Nat.le_refl _, Nat.le_refl _⟩) hS (fun x _ hx => hAs x hx) hAs (fun x _ hx => hAs x hx) (fun E ce q9 u t H1 locs1 ht hvm _ hB hz1 hk1 hS1 hce hcv hcl => ?_) (fun r u t H1 locs1 ht hvm hw => hw.elim)
    obtain ⟨rfl, hB⟩ := hB
    rw [ht] at hB
    refine vx_catch hown [] ⟨0, 10, 13, 13⟩ [] (htab.trans rfl) (fun z hz => nomatch hz) rfl (by decide) (hts (.classLink "SmellMapLaw" 13 nSE) (inG_mem (p := 1084) (by decide +kernel))) (va_Nw.use (bx_tab _ bx_cast) (hXZ.2.2 _ bx_cast)) hce hcv hcl ?_
    refine lv_astore (lv' := [(4, .ref q9), (0, .ref (ad 0)), (1, .int a), (2, .int b), (3, .ref (ad 56))]) hx hb (show decode method_3_code 13 = .ok (.astore 4, 2) by decide +kernel) hl (by decide) rfl (fun ls hl => ?_)
    refine lv_iconst (v := 1) hx hb (show decode method_3_code 15 = .ok (.iconst 1, 1) by decide +kernel) (by decide) ?_
    exact W.iret hx hb hr (fun t ht hW => ⟨⟨1, g, rfl, ⟨hq, fun j hj => rfl⟩, by show va_P D cl10 (wsO cA ad _) t.heap; rw [ht]; exact hB⟩, hS1.F ht⟩) hS1.2.2 (show decode method_3_code 16 = .ok (.ireturn, 1) by decide +kernel) hlocks
end Snd
