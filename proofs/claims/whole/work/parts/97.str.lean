/-! REAL CALLS: isAmong and placeOf, over the literals (made by gen/strw.py) -/
def TX (adK adV : Nat → Nat) (A : Nat → Prop) (U : State) (H : Heap) : Prop := vk_S 4 lenTx bytTx adK adV A U H ∧ va_Z "java/lang/String" "COMPACT_STRINGS" "Z" (.int 1) A U H ∧ va_Zq "jdk/internal/util/Preconditions" "SIOOBE_FORMATTER" "Ljava/util/function/BiFunction;" A U H
theorem TX.moved {adK adV : Nat → Nat} {A : Nat → Prop} {u U : State} {H : Heap} (hv : u.vm.Alike U.vm) (h : TX adK adV A u H) : TX adK adV A U H := ⟨vk_S.moved hv h.1, va_Z.moved hv h.2.1, va_Zq.moved hv h.2.2⟩
theorem TX.kept {adK adV : Nat → Nat} {A : Nat → Prop} {U : State} {H H1 : Heap} (h : TX adK adV A U H) (hq : ∀ a : Nat, a < H.size → ¬ A a → H1[a]? = H[a]?) : TX adK adV A U H1 := ⟨h.1.kept hq, h.2.1.kept hq, h.2.2.kept hq⟩
theorem TX.narrow {adK adV : Nat → Nat} {A B : Nat → Prop} {U : State} {H : Heap} (h : TX adK adV A U H) (hAB : ∀ q, B q → A q) : TX adK adV B U H := ⟨h.1.narrow hAB, h.2.1.narrow hAB, h.2.2.narrow hAB⟩
abbrev nA : Nat → Prop := fun _ => False
abbrev PX (adK adV : Nat → Nat) (as : List Value) : Array Value → State → Prop := va_Pc as (fun U => TX adK adV nA U U.heap)
theorem PX_blind {adK adV : Nat → Nat} {as : List Value} : FrameBlind (PX adK adV as) := by
  intro a U gf mk q
  obtain ⟨q0, q1⟩ := q
  exact ⟨q0, TX.moved (u := U) (U := U.calling gf mk a) (Vm.Alike.refl U.vm) q1⟩
theorem PX_U {adK adV : Nat → Nat} {A : Nat → Prop} {s : State} {H : Heap} {locs : List Loc} {as : List Value} (hT : TX adK adV A s s.heap) (hS : va_S A s.heap H locs) : ∀ U : State, U.heap = H → s.WarmedH U.vm → PX adK adV as as.toArray U := by
  intro U hU hW
  refine ⟨rfl, ?_⟩
  show TX adK adV nA U U.heap
  rw [hU]
  exact ((hT.moved hW.alike).kept hS.2.1).narrow (fun _ h => h.elim)
abbrev QX (x : Int32) : Array Value → State → Outcome → State → Prop := va_Qi (fun (r : Int32) (_ : Unit) => r = x) (fun _ _ => True) nA
theorem tx_sh : ∀ i, i < 4 → Int32.ofNat (lenTx.getD i 0) >>> ((0 : Int32) &&& 31) = Int32.ofNat (lenTx.getD i 0) := by decide
theorem tx_in1 : ∀ i, i < 4 → ∀ k, k < lenTx.getD i 0 → ¬ Int32.ofNat k < 0 ∧ Int32.ofNat k < Int32.ofNat (lenTx.getD i 0) ∧ ¬ (Int32.ofNat k < 0 ∨ lenTx.getD i 0 ≤ (Int32.ofNat k).toNatClampNeg) ∧ ((((bytTx.getD i []).getD (Int32.ofNat k).toNatClampNeg 0) &&& 255).toUInt32 % 65536).toInt32 = (bytTx.getD i []).getD k 0 ∧ (bytTx.getD i []).getD k 0 &&& 255 = (bytTx.getD i []).getD k 0 := by decide
theorem tx_in (i : Nat) (hi : i < 4) (k : Nat) (hk : k < lenTx.getD i 0) : ¬ Int32.ofNat k < 0 ∧ Int32.ofNat k < Int32.ofNat (lenTx.getD i 0) ∧ vp_in (Int32.ofNat k) (lenTx.getD i 0) ∧ ((((bytTx.getD i []).getD (Int32.ofNat k).toNatClampNeg 0) &&& 255).toUInt32 % 65536).toInt32 = (bytTx.getD i []).getD k 0 ∧ narrow .char (.int ((bytTx.getD i []).getD k 0)) = .int ((bytTx.getD i []).getD k 0) := by
  obtain ⟨h1, h2, h3, h4, h5⟩ := tx_in1 i hi k hk
  exact ⟨h1, h2, h3, h4, by rw [← h5]; exact sc_nar _⟩
theorem tx_ge : ∀ i, i < 4 → ∀ k, k < lenTx.getD i 0 → ¬ Int32.ofNat (lenTx.getD i 0) ≤ Int32.ofNat k := by decide
theorem tx_cons : ∀ i, i < 4 → ∀ k, k < lenTx.getD i 0 → (bytTx.getD i []).drop k = (bytTx.getD i []).getD k 0 :: (bytTx.getD i []).drop (k + 1) := by decide
theorem tx_end (i : Nat) (hi : i < 4) (k : Nat) (h : k = lenTx.getD i 0) : (bytTx.getD i []).drop k = [] := by
  subst h
  revert i
  decide
def tx_am (x : Int32) : List Int32 → Nat → Int32
  | [], _ => 0
  | b :: r, k => if b = x then 1 else tx_am x r (k + 1)
def tx_pl (x : Int32) : List Int32 → Nat → Int32
  | [], _ => -1
  | b :: r, k => if b = x then Int32.ofNat k else tx_pl x r (k + 1)
theorem tx_am_c (x b : Int32) (r : List Int32) (k : Nat) : tx_am x (b :: r) k = if b = x then 1 else tx_am x r (k + 1) := (rfl)
theorem tx_pl_c (x b : Int32) (r : List Int32) (k : Nat) : tx_pl x (b :: r) k = if b = x then Int32.ofNat k else tx_pl x r (k + 1) := (rfl)
theorem tx_amE (x : Int32) : ∀ (r : List Int32) (k : Nat), tx_am x r k = if x ∈ r then 1 else 0
  | [], _ => by simp [tx_am]
  | b :: r, k => by
    unfold tx_am
    by_cases h : b = x
    · subst h; simp
    · rw [if_neg h, tx_amE x r (k + 1)]
      have h' : ¬ x = b := fun z => h z.symm
      simp [h']
theorem tx_plE (x : Int32) : ∀ (r : List Int32) (k : Nat), tx_pl x r k = idxS x k r
  | [], _ => rfl
  | b :: r, k => by
    unfold tx_pl idxS
    by_cases h : b = x
    · rw [if_pos h, if_pos h]
    · rw [if_neg h, if_neg h, tx_plE x r (k + 1)]
theorem tx_S : ∀ i, i < 4 → strS (1010 + i) = bytTx.getD i [] := by decide
theorem cw_v {R : Room} {s : State} {args : Array Value} {own C : String} {idx maxL n : Nat} {y : MethodName} {b : ByteArray} {ret : Option FieldType} {rm : Room} (hts : ∀ w ∈ gT, w.before args s = true) (o6 : Cond.methodLink own idx y ∈ gT) (o7 : Cond.instanceMethod y ∈ gT) (o8 : Cond.selects C y y ∈ gT) (o9 : Cond.initialized C ∈ gT) (o0 : Cond.code y b maxL ret ∈ gT) (hc : y.cls = C ∧ y.cls ≠ "java/lang/invoke/MethodHandle" ∧ y.cls ≠ "java/lang/invoke/VarHandle" ∧ (parseMethodDescriptor y.desc).map (fun d => d.parameters.length) = some n) (h0 : rm.cells = 0) (h1 : rm.slots = 0) (hR : rm.frames + 1 ≤ R.frames ∧ 8 + (maxL + 11) + rm.locals ≤ R.locals) : CallW R s args own C idx y b maxL ret (Cond.code y b maxL ret :: gT) rm 0 0 n :=
  cwV n hts (gi (fun w hw => by
    rcases List.mem_append.mp hw with hw | hw
    · simp only [List.mem_cons, List.not_mem_nil, or_false] at hw
      rcases hw with rfl | rfl | rfl | rfl
      · exact o6
      · exact o7
      · exact o8
      · exact o9
    · rcases List.mem_cons.mp hw with rfl | hw
      · exact o0
      · exact hw)) rfl h0 h1 hc hR
theorem cw_s {R : Room} {s : State} {args : Array Value} {own : String} {idx maxL n : Nat} {y : MethodName} {b : ByteArray} {ret : Option FieldType} {rm : Room} (hts : ∀ w ∈ gT, w.before args s = true) (o6 : Cond.methodLink own idx y ∈ gT) (o7 : Cond.static y ∈ gT) (o9 : Cond.initialized y.cls ∈ gT) (o0 : Cond.code y b maxL ret ∈ gT) (hc : y.cls ≠ "java/lang/invoke/MethodHandle" ∧ y.cls ≠ "java/lang/invoke/VarHandle" ∧ (parseMethodDescriptor y.desc).map (fun d => d.parameters.length) = some n) (h0 : rm.cells = 0) (h1 : rm.slots = 0) (hR : rm.frames + 1 ≤ R.frames ∧ 8 + (maxL + 11) + rm.locals ≤ R.locals) : CallB R s args own idx y b maxL ret (Cond.code y b maxL ret :: gT) rm 0 0 n ∧ (Cond.static y).before args s = true :=
  va_cwS n hts (ws' := gT) (gi (fun w hw => by
    rcases List.mem_append.mp hw with hw | hw
    · simp only [List.mem_cons, List.not_mem_nil, or_false] at hw
      rcases hw with rfl | rfl | rfl
      · exact o6
      · exact o7
      · exact o9
    · rcases List.mem_cons.mp hw with rfl | hw
      · exact o0
      · exact hw)) rfl h0 h1 hc hR
abbrev y_len : MethodName := ⟨"java/lang/String", "length", "()I"⟩
theorem g_len : Cond.code y_len prog_20_method_54_code 1 (Option.some Jvm.ClassFile.FieldType.int) ∈ gT := inG_mem (p := 1398) (by decide +kernel)
abbrev y_coder : MethodName := ⟨"java/lang/String", "coder", "()B"⟩
theorem g_coder : Cond.code y_coder prog_20_method_152_code 1 (Option.some Jvm.ClassFile.FieldType.byte) ∈ gT := inG_mem (p := 1402) (by decide +kernel)
abbrev y_isL : MethodName := ⟨"java/lang/String", "isLatin1", "()Z"⟩
theorem g_isL : Cond.code y_isL prog_20_method_154_code 1 (Option.some Jvm.ClassFile.FieldType.boolean) ∈ gT := inG_mem (p := 1412) (by decide +kernel)
abbrev y_chkP : MethodName := ⟨"jdk/internal/util/Preconditions", "checkIndex", "(IILjava/util/function/BiFunction;)I"⟩
theorem g_chkP : Cond.code y_chkP prog_29_method_11_code 3 (Option.some Jvm.ClassFile.FieldType.int) ∈ gT := inG_mem (p := 1423) (by decide +kernel)
abbrev y_chkS : MethodName := ⟨"java/lang/String", "checkIndex", "(II)V"⟩
theorem g_chkS : Cond.code y_chkS prog_20_method_155_code 2 (Option.none) ∈ gT := inG_mem (p := 1418) (by decide +kernel)
abbrev y_chL : MethodName := ⟨"java/lang/StringLatin1", "charAt", "([BI)C"⟩
theorem g_chL : Cond.code y_chL prog_21_method_2_code 2 (Option.some Jvm.ClassFile.FieldType.char) ∈ gT := inG_mem (p := 1415) (by decide +kernel)
abbrev y_chS : MethodName := ⟨"java/lang/String", "charAt", "(I)C"⟩
theorem g_chS : Cond.code y_chS prog_20_method_56_code 2 (Option.some Jvm.ClassFile.FieldType.char) ∈ gT := inG_mem (p := 1408) (by decide +kernel)
abbrev y_amg : MethodName := ⟨"SmellMapModel", "isAmong", "(Ljava/lang/String;I)Z"⟩
theorem g_amg : Cond.code y_amg prog_12_method_5_code 3 (Option.some Jvm.ClassFile.FieldType.boolean) ∈ gT := inG_mem (p := 1476) (by decide +kernel)
abbrev y_plc : MethodName := ⟨"SmellMapModel", "placeOf", "(Ljava/lang/String;I)I"⟩
theorem g_plc : Cond.code y_plc prog_12_method_28_code 3 (Option.some Jvm.ClassFile.FieldType.int) ∈ gT := inG_mem (p := 1394) (by decide +kernel)
set_option maxRecDepth 100000 in
theorem c_coder (l : Launch) (adK adV : Nat → Nat) (i : Nat) (hi : i < 4) : Met l y_coder (Cond.code y_coder prog_20_method_152_code 1 (Option.some Jvm.ClassFile.FieldType.byte) :: gT) { frames := 0, cells := 0, slots := 0, locals := 20 } (PX adK adV [.ref (adK i)]) (QX 0) 0 0 nA := by
  refine Met.ofW (cc := prog_20_method_152_code) (maxL := 1) (ret := Option.some Jvm.ClassFile.FieldType.byte) (by decide) rfl ?_
  intro p e s m args below meth c s₁ B hml hv
  obtain ⟨rfl, hT⟩ := hv
  have hx := B.exec
  have hb := B.bytes
  have hr := B.returns
  have hts : ∀ w ∈ gT, w.before (List.toArray [.ref (adK i)]) s = true := fun w hw => atoms_spec (ws := Cond.code y_coder prog_20_method_152_code 1 (Option.some Jvm.ClassFile.FieldType.byte) :: gT) B.pre w (List.mem_cons_of_mem _ hw)
  have hown : s.vm.findClass "java/lang/String" = some m.cls := findClass_of_methodNamed B.named
  have hlocks := B.notSynchronized
  have hS : va_S nA s.heap s.heap [] := va_S.rf
  have hl := lv_entry ([.ref (adK i)]) (n := 1) (Nat.le_of_ble_eq_true rfl)
  rw [lg_entry_eq]
  generalize (lg_sl ([.ref (adK i)]) ++ List.replicate (1 - (lg_sl ([.ref (adK i)])).length) Slot.unset).toArray = ls at hl ⊢
  have hl : lv_has ls 1 [(0, .ref (adK i))] := hl
  refine va_gets hx hb hT.2.1 hS hown (hts (.fieldLink "java/lang/String" 38 "java/lang/String" "COMPACT_STRINGS" "Z") (inG_mem (p := 1403) (by decide +kernel))) (fun _ z => z) (show decode prog_20_method_152_code 0 = .ok (.getstatic 38, 3) by decide +kernel) ?_
  refine lv_if_eq (tgt := 13) hx hb (show decode prog_20_method_152_code 3 = .ok (.ifCond .eq 10, 3) by decide +kernel) (by decide) (fun z => absurd z (by decide)) (fun _ => ?_)
  refine lv_aload_n hx hb (show decode prog_20_method_152_code 6 = .ok (.aload_n 0, 1) by decide +kernel) rfl (lv_at hl 0 rfl) ?_
  refine vk_getf hx hb (hT.1.1 i hi).2.1 hS hown (hts (.fieldLink "java/lang/String" 15 "java/lang/String" "coder" "B") (inG_mem (p := 1793) (by decide +kernel))) (fun _ z => z) (show decode prog_20_method_152_code 7 = .ok (.getfield 15, 3) by decide +kernel) ?_
  refine lv_goto (tgt := 14) hx hb (show decode prog_20_method_152_code 10 = .ok (.goto 4, 3) by decide +kernel) (by decide) ?_
  exact W.zret (ty := .byte) hx hb hr rfl (fun t ht hW => ⟨⟨0, (), rfl, rfl, trivial⟩, hS.F ht⟩) hS.2.2 (show decode prog_20_method_152_code 14 = .ok (.ireturn, 1) by decide +kernel) hlocks
set_option maxRecDepth 100000 in
theorem c_isL (l : Launch) (adK adV : Nat → Nat) (i : Nat) (hi : i < 4) : Met l y_isL (Cond.code y_isL prog_20_method_154_code 1 (Option.some Jvm.ClassFile.FieldType.boolean) :: gT) { frames := 0, cells := 0, slots := 0, locals := 20 } (PX adK adV [.ref (adK i)]) (QX 1) 0 0 nA := by
  refine Met.ofW (cc := prog_20_method_154_code) (maxL := 1) (ret := Option.some Jvm.ClassFile.FieldType.boolean) (by decide) rfl ?_
  intro p e s m args below meth c s₁ B hml hv
  obtain ⟨rfl, hT⟩ := hv
  have hx := B.exec
  have hb := B.bytes
  have hr := B.returns
  have hts : ∀ w ∈ gT, w.before (List.toArray [.ref (adK i)]) s = true := fun w hw => atoms_spec (ws := Cond.code y_isL prog_20_method_154_code 1 (Option.some Jvm.ClassFile.FieldType.boolean) :: gT) B.pre w (List.mem_cons_of_mem _ hw)
  have hown : s.vm.findClass "java/lang/String" = some m.cls := findClass_of_methodNamed B.named
  have hlocks := B.notSynchronized
  have hS : va_S nA s.heap s.heap [] := va_S.rf
  have hl := lv_entry ([.ref (adK i)]) (n := 1) (Nat.le_of_ble_eq_true rfl)
  rw [lg_entry_eq]
  generalize (lg_sl ([.ref (adK i)]) ++ List.replicate (1 - (lg_sl ([.ref (adK i)])).length) Slot.unset).toArray = ls at hl ⊢
  have hl : lv_has ls 1 [(0, .ref (adK i))] := hl
  refine va_gets hx hb hT.2.1 hS hown (hts (.fieldLink "java/lang/String" 38 "java/lang/String" "COMPACT_STRINGS" "Z") (inG_mem (p := 1403) (by decide +kernel))) (fun _ z => z) (show decode prog_20_method_154_code 0 = .ok (.getstatic 38, 3) by decide +kernel) ?_
  refine lv_if_eq (tgt := 17) hx hb (show decode prog_20_method_154_code 3 = .ok (.ifCond .eq 14, 3) by decide +kernel) (by decide) (fun z => absurd z (by decide)) (fun _ => ?_)
  refine lv_aload_n hx hb (show decode prog_20_method_154_code 6 = .ok (.aload_n 0, 1) by decide +kernel) rfl (lv_at hl 0 rfl) ?_
  refine vk_getf hx hb (hT.1.1 i hi).2.1 hS hown (hts (.fieldLink "java/lang/String" 15 "java/lang/String" "coder" "B") (inG_mem (p := 1793) (by decide +kernel))) (fun _ z => z) (show decode prog_20_method_154_code 7 = .ok (.getfield 15, 3) by decide +kernel) ?_
  refine lv_if_ne (tgt := 17) hx hb (show decode prog_20_method_154_code 10 = .ok (.ifCond .ne 7, 3) by decide +kernel) (by decide) (fun z => absurd rfl z) (fun _ => ?_)
  refine lv_iconst (v := 1) hx hb (show decode prog_20_method_154_code 13 = .ok (.iconst 1, 1) by decide +kernel) (by decide) ?_
  refine lv_goto (tgt := 18) hx hb (show decode prog_20_method_154_code 14 = .ok (.goto 4, 3) by decide +kernel) (by decide) ?_
  exact W.zret (ty := .boolean) hx hb hr rfl (fun t ht hW => ⟨⟨1, (), rfl, rfl, trivial⟩, hS.F ht⟩) hS.2.2 (show decode prog_20_method_154_code 18 = .ok (.ireturn, 1) by decide +kernel) hlocks
set_option maxRecDepth 100000 in
theorem c_chkP (l : Launch) (adK adV : Nat → Nat) (a b : Int32) (h0 : ¬ a < 0) (h1 : a < b) : Met l y_chkP (Cond.code y_chkP prog_29_method_11_code 3 (some .int) :: gT) { frames := 0, cells := 0, slots := 0, locals := 20 } (PX adK adV [.int a, .int b, .null]) (QX a) 0 0 nA := by
  refine Met.ofW (cc := prog_29_method_11_code) (maxL := 3) (ret := some .int) (by decide) rfl ?_
  intro p e s m args below meth c s₁ B hml hv
  obtain ⟨rfl, hT⟩ := hv
  have hx := B.exec
  have hb := B.bytes
  have hr := B.returns
  have hlocks := B.notSynchronized
  have hS : va_S nA s.heap s.heap [] := va_S.rf
  have hl := lv_entry ([.int a, .int b, .null]) (n := 3) (Nat.le_of_ble_eq_true rfl)
  rw [lg_entry_eq]
  generalize (lg_sl ([.int a, .int b, .null]) ++ List.replicate (3 - (lg_sl ([.int a, .int b, .null])).length) Slot.unset).toArray = ls at hl ⊢
  have hl : lv_has ls 3 [(0, .int a), (1, .int b), (2, .null)] := hl

  refine lv_iload_n hx hb (show decode prog_29_method_11_code 0 = .ok (.iload_n 0, 1) by decide +kernel) rfl (lv_at hl 0 rfl) ?_
  refine lv_if_lt (tgt := 9) hx hb (show decode prog_29_method_11_code 1 = .ok (.ifCond .lt 8, 3) by decide +kernel) (by decide) (fun z => absurd z h0) (fun _ => ?_)
  refine lv_iload_n hx hb (show decode prog_29_method_11_code 4 = .ok (.iload_n 0, 1) by decide +kernel) rfl (lv_at hl 0 rfl) ?_
  refine lv_iload_n hx hb (show decode prog_29_method_11_code 5 = .ok (.iload_n 1, 1) by decide +kernel) rfl (lv_at hl 1 rfl) ?_
  refine lv_icmp_lt (tgt := 16) hx hb (show decode prog_29_method_11_code 6 = .ok (.if_icmp .lt 10, 3) by decide +kernel) (by decide) (fun _ => ?_) (fun z => absurd h1 z)
  refine lv_iload_n hx hb (show decode prog_29_method_11_code 16 = .ok (.iload_n 0, 1) by decide +kernel) rfl (lv_at hl 0 rfl) ?_
  exact W.iret hx hb hr (fun t ht hW => ⟨⟨a, (), rfl, rfl, trivial⟩, hS.F ht⟩) hS.2.2 (show decode prog_29_method_11_code 17 = .ok (.ireturn, 1) by decide +kernel) hlocks
set_option maxRecDepth 100000 in
theorem c_chkR (l : Launch) (adK adV : Nat → Nat) (a b : Int32) (v : Nat) (h0 : ¬ a < 0) (h1 : a < b) : Met l y_chkP (Cond.code y_chkP prog_29_method_11_code 3 (some .int) :: gT) { frames := 0, cells := 0, slots := 0, locals := 20 } (PX adK adV [.int a, .int b, (.ref v)]) (QX a) 0 0 nA := by
  refine Met.ofW (cc := prog_29_method_11_code) (maxL := 3) (ret := some .int) (by decide) rfl ?_
  intro p e s m args below meth c s₁ B hml hv
  obtain ⟨rfl, hT⟩ := hv
  have hx := B.exec
  have hb := B.bytes
  have hr := B.returns
  have hlocks := B.notSynchronized
  have hS : va_S nA s.heap s.heap [] := va_S.rf
  have hl := lv_entry ([.int a, .int b, (.ref v)]) (n := 3) (Nat.le_of_ble_eq_true rfl)
  rw [lg_entry_eq]
  generalize (lg_sl ([.int a, .int b, (.ref v)]) ++ List.replicate (3 - (lg_sl ([.int a, .int b, (.ref v)])).length) Slot.unset).toArray = ls at hl ⊢
  have hl : lv_has ls 3 [(0, .int a), (1, .int b), (2, (.ref v))] := hl

  refine lv_iload_n hx hb (show decode prog_29_method_11_code 0 = .ok (.iload_n 0, 1) by decide +kernel) rfl (lv_at hl 0 rfl) ?_
  refine lv_if_lt (tgt := 9) hx hb (show decode prog_29_method_11_code 1 = .ok (.ifCond .lt 8, 3) by decide +kernel) (by decide) (fun z => absurd z h0) (fun _ => ?_)
  refine lv_iload_n hx hb (show decode prog_29_method_11_code 4 = .ok (.iload_n 0, 1) by decide +kernel) rfl (lv_at hl 0 rfl) ?_
  refine lv_iload_n hx hb (show decode prog_29_method_11_code 5 = .ok (.iload_n 1, 1) by decide +kernel) rfl (lv_at hl 1 rfl) ?_
  refine lv_icmp_lt (tgt := 16) hx hb (show decode prog_29_method_11_code 6 = .ok (.if_icmp .lt 10, 3) by decide +kernel) (by decide) (fun _ => ?_) (fun z => absurd h1 z)
  refine lv_iload_n hx hb (show decode prog_29_method_11_code 16 = .ok (.iload_n 0, 1) by decide +kernel) rfl (lv_at hl 0 rfl) ?_
  exact W.iret hx hb hr (fun t ht hW => ⟨⟨a, (), rfl, rfl, trivial⟩, hS.F ht⟩) hS.2.2 (show decode prog_29_method_11_code 17 = .ok (.ireturn, 1) by decide +kernel) hlocks
set_option maxRecDepth 100000 in
theorem c_len (l : Launch) (adK adV : Nat → Nat) (i : Nat) (hi : i < 4) : Met l y_len (Cond.code y_len prog_20_method_54_code 1 (Option.some Jvm.ClassFile.FieldType.int) :: gT) { frames := 2, cells := 0, slots := 0, locals := 60 } (PX adK adV [.ref (adK i)]) (QX (Int32.ofNat (lenTx.getD i 0))) 0 0 nA := by
  refine Met.ofW (cc := prog_20_method_54_code) (maxL := 1) (ret := Option.some Jvm.ClassFile.FieldType.int) (by decide) rfl ?_
  intro p e s m args below meth c s₁ B hml hv
  obtain ⟨rfl, hT⟩ := hv
  have hx := B.exec
  have hb := B.bytes
  have hr := B.returns
  have hts : ∀ w ∈ gT, w.before (List.toArray [.ref (adK i)]) s = true := fun w hw => atoms_spec (ws := Cond.code y_len prog_20_method_54_code 1 (Option.some Jvm.ClassFile.FieldType.int) :: gT) B.pre w (List.mem_cons_of_mem _ hw)
  have hown : s.vm.findClass "java/lang/String" = some m.cls := findClass_of_methodNamed B.named
  have hlocks := B.notSynchronized
  have hS : va_S nA s.heap s.heap [] := va_S.rf
  have hl := lv_entry ([.ref (adK i)]) (n := 1) (Nat.le_of_ble_eq_true rfl)
  rw [lg_entry_eq]
  generalize (lg_sl ([.ref (adK i)]) ++ List.replicate (1 - (lg_sl ([.ref (adK i)])).length) Slot.unset).toArray = ls at hl ⊢
  have hl : lv_has ls 1 [(0, .ref (adK i))] := hl
  refine lv_aload_n hx hb (show decode prog_20_method_54_code 0 = .ok (.aload_n 0, 1) by decide +kernel) rfl (lv_at hl 0 rfl) ?_
  refine vk_getf hx hb (hT.1.1 i hi).2.2.1 hS hown (hts (.fieldLink "java/lang/String" 9 "java/lang/String" "value" "[B") (inG_mem (p := 1792) (by decide +kernel))) (fun _ z => z) (show decode prog_20_method_54_code 1 = .ok (.getfield 9, 3) by decide +kernel) ?_
  refine va_tlen hx hb (hT.1.1 i hi).2.2.2 hS rfl (show decode prog_20_method_54_code 4 = .ok (.arraylength, 1) by decide +kernel) ?_
  refine lv_aload_n hx hb (show decode prog_20_method_54_code 5 = .ok (.aload_n 0, 1) by decide +kernel) rfl (lv_at hl 0 rfl) ?_
  refine va_calli (va_runV (As := []) (rest := [.int (Int32.ofNat (lenTx.getD i 0))]) (b := adK i) ⟨hx, hb, hml, hown, hts⟩ (c_coder l adK adV i hi) (cw_v (n := 0) hts (inG_mem (p := 1399) (by decide +kernel)) (inG_mem (p := 1400) (by decide +kernel)) (inG_mem (p := 1401) (by decide +kernel)) (inG_mem (p := 98) (by decide +kernel)) g_coder (by decide +kernel) rfl rfl ⟨by decide, by decide⟩) ⟨PX_blind, vk_recv hT.1 hi hS, PX_U hT hS⟩ rfl rfl hl.1 rfl (lv_room (Nat.le_of_ble_eq_true rfl)) (show decode prog_20_method_54_code 6 = .ok (.invokevirtual 335, 3) by decide +kernel) ⟨Nat.zero_le _, Nat.zero_le _⟩) hS (fun _ _ h => h.elim) (fun _ h => h.elim) (fun r u t H1 locs1 ht hvm hw hB hz1 hk1 hS => ?_)
  obtain rfl : r = 0 := hw
  refine lv_ishr hx hb (show decode prog_20_method_54_code 9 = .ok (.ishr, 1) by decide +kernel) ?_
  exact W.iret hx hb hr (fun t ht hW => ⟨⟨_, (), rfl, tx_sh i hi, trivial⟩, hS.F ht⟩) hS.2.2 (show decode prog_20_method_54_code 10 = .ok (.ireturn, 1) by decide +kernel) hlocks
set_option maxRecDepth 100000 in
theorem c_chkS (l : Launch) (adK adV : Nat → Nat) (a b : Int32) (h0 : ¬ a < 0) (h1 : a < b) : Met l y_chkS (Cond.code y_chkS prog_20_method_155_code 2 (Option.none) :: gT) { frames := 2, cells := 0, slots := 0, locals := 60 } (PX adK adV [.int a, .int b]) (va_Qv (fun (_ : Unit) => True) (fun _ _ => True) nA) 0 0 nA := by
  refine Met.ofW (cc := prog_20_method_155_code) (maxL := 2) (ret := Option.none) (by decide) rfl ?_
  intro p e s m args below meth c s₁ B hml hv
  obtain ⟨rfl, hT⟩ := hv
  have hx := B.exec
  have hb := B.bytes
  have hr := B.returns
  have hts : ∀ w ∈ gT, w.before (List.toArray [.int a, .int b]) s = true := fun w hw => atoms_spec (ws := Cond.code y_chkS prog_20_method_155_code 2 (Option.none) :: gT) B.pre w (List.mem_cons_of_mem _ hw)
  have hown : s.vm.findClass "java/lang/String" = some m.cls := findClass_of_methodNamed B.named
  have hlocks := B.notSynchronized
  have hS : va_S nA s.heap s.heap [] := va_S.rf
  have hl := lv_entry ([.int a, .int b]) (n := 2) (Nat.le_of_ble_eq_true rfl)
  rw [lg_entry_eq]
  generalize (lg_sl ([.int a, .int b]) ++ List.replicate (2 - (lg_sl ([.int a, .int b])).length) Slot.unset).toArray = ls at hl ⊢
  have hl : lv_has ls 2 [(0, .int a), (1, .int b)] := hl
  refine lv_iload_n hx hb (show decode prog_20_method_155_code 0 = .ok (.iload_n 0, 1) by decide +kernel) rfl (lv_at hl 0 rfl) ?_
  refine lv_iload_n hx hb (show decode prog_20_method_155_code 1 = .ok (.iload_n 1, 1) by decide +kernel) rfl (lv_at hl 1 rfl) ?_
  rcases hT.2.2 with hz | ⟨v, hz⟩
  · refine va_gets hx hb hz hS hown (hts (.fieldLink "java/lang/String" 1053 "jdk/internal/util/Preconditions" "SIOOBE_FORMATTER" "Ljava/util/function/BiFunction;") (inG_mem (p := 1419) (by decide +kernel))) (fun _ z => z) (show decode prog_20_method_155_code 2 = .ok (.getstatic 1053, 3) by decide +kernel) ?_
    refine va_calli (va_runS (As := [.int a, .int b, .null]) (rest := []) ⟨hx, hb, hml, hown, hts⟩ (c_chkP l adK adV a b h0 h1) (cw_s (n := 3) hts (inG_mem (p := 1421) (by decide +kernel)) (inG_mem (p := 1422) (by decide +kernel)) (inG_mem (p := 100) (by decide +kernel)) g_chkP (by decide +kernel) rfl rfl ⟨by decide, by decide⟩) ⟨PX_blind, PX_U hT hS⟩ rfl rfl hl.1 rfl (lv_room (Nat.le_of_ble_eq_true rfl)) (show decode prog_20_method_155_code 5 = .ok (.invokestatic 1059, 3) by decide +kernel) ⟨Nat.zero_le _, Nat.zero_le _⟩) hS (fun _ _ h => h.elim) (fun _ h => h.elim) (fun r u t H1 locs1 ht hvm hw hB hz1 hk1 hS => ?_)
    refine lv_pop hx hb (show decode prog_20_method_155_code 8 = .ok (.pop, 1) by decide +kernel) rfl ?_
    exact W.vret hx hb hr (fun t ht hW => ⟨⟨(), rfl, trivial, trivial⟩, hS.F ht⟩) hS.2.2 (show decode prog_20_method_155_code 9 = .ok (.return_, 1) by decide +kernel) hlocks
  · refine va_gets hx hb hz hS hown (hts (.fieldLink "java/lang/String" 1053 "jdk/internal/util/Preconditions" "SIOOBE_FORMATTER" "Ljava/util/function/BiFunction;") (inG_mem (p := 1419) (by decide +kernel))) (fun _ z => z) (show decode prog_20_method_155_code 2 = .ok (.getstatic 1053, 3) by decide +kernel) ?_
    refine va_calli (va_runS (As := [.int a, .int b, .ref v]) (rest := []) ⟨hx, hb, hml, hown, hts⟩ (c_chkR l adK adV a b v h0 h1) (cw_s (n := 3) hts (inG_mem (p := 1421) (by decide +kernel)) (inG_mem (p := 1422) (by decide +kernel)) (inG_mem (p := 100) (by decide +kernel)) g_chkP (by decide +kernel) rfl rfl ⟨by decide, by decide⟩) ⟨PX_blind, PX_U hT hS⟩ rfl rfl hl.1 rfl (lv_room (Nat.le_of_ble_eq_true rfl)) (show decode prog_20_method_155_code 5 = .ok (.invokestatic 1059, 3) by decide +kernel) ⟨Nat.zero_le _, Nat.zero_le _⟩) hS (fun _ _ h => h.elim) (fun _ h => h.elim) (fun r u t H1 locs1 ht hvm hw hB hz1 hk1 hS => ?_)
    refine lv_pop hx hb (show decode prog_20_method_155_code 8 = .ok (.pop, 1) by decide +kernel) rfl ?_
    exact W.vret hx hb hr (fun t ht hW => ⟨⟨(), rfl, trivial, trivial⟩, hS.F ht⟩) hS.2.2 (show decode prog_20_method_155_code 9 = .ok (.return_, 1) by decide +kernel) hlocks
set_option maxRecDepth 100000 in
theorem c_chL (l : Launch) (adK adV : Nat → Nat) (i : Nat) (hi : i < 4) (k : Nat) (hk : k < lenTx.getD i 0) : Met l y_chL (Cond.code y_chL prog_21_method_2_code 2 (Option.some Jvm.ClassFile.FieldType.char) :: gT) { frames := 4, cells := 0, slots := 0, locals := 100 } (PX adK adV [.ref (adV i), .int (Int32.ofNat k)]) (QX ((bytTx.getD i []).getD k 0)) 0 0 nA := by
  refine Met.ofW (cc := prog_21_method_2_code) (maxL := 2) (ret := Option.some Jvm.ClassFile.FieldType.char) (by decide) rfl ?_
  intro p e s m args below meth c s₁ B hml hv
  obtain ⟨rfl, hT⟩ := hv
  have hx := B.exec
  have hb := B.bytes
  have hr := B.returns
  have hts : ∀ w ∈ gT, w.before (List.toArray [.ref (adV i), .int (Int32.ofNat k)]) s = true := fun w hw => atoms_spec (ws := Cond.code y_chL prog_21_method_2_code 2 (Option.some Jvm.ClassFile.FieldType.char) :: gT) B.pre w (List.mem_cons_of_mem _ hw)
  have hown : s.vm.findClass "java/lang/StringLatin1" = some m.cls := findClass_of_methodNamed B.named
  have hlocks := B.notSynchronized
  have hS : va_S nA s.heap s.heap [] := va_S.rf
  have hl := lv_entry ([.ref (adV i), .int (Int32.ofNat k)]) (n := 2) (Nat.le_of_ble_eq_true rfl)
  rw [lg_entry_eq]
  generalize (lg_sl ([.ref (adV i), .int (Int32.ofNat k)]) ++ List.replicate (2 - (lg_sl ([.ref (adV i), .int (Int32.ofNat k)])).length) Slot.unset).toArray = ls at hl ⊢
  have hl : lv_has ls 2 [(0, .ref (adV i)), (1, .int (Int32.ofNat k))] := hl
  refine lv_iload_n hx hb (show decode prog_21_method_2_code 0 = .ok (.iload_n 1, 1) by decide +kernel) rfl (lv_at hl 1 rfl) ?_
  refine lv_aload_n hx hb (show decode prog_21_method_2_code 1 = .ok (.aload_n 0, 1) by decide +kernel) rfl (lv_at hl 0 rfl) ?_
  refine va_tlen hx hb (hT.1.1 i hi).2.2.2 hS rfl (show decode prog_21_method_2_code 2 = .ok (.arraylength, 1) by decide +kernel) ?_
  refine va_callv (va_runS (As := [.int (Int32.ofNat k), .int (Int32.ofNat (lenTx.getD i 0))]) (rest := []) ⟨hx, hb, hml, hown, hts⟩ (c_chkS l adK adV (Int32.ofNat k) (Int32.ofNat (lenTx.getD i 0)) (tx_in i hi k hk).1 (tx_in i hi k hk).2.1) (cw_s (n := 2) hts (inG_mem (p := 1416) (by decide +kernel)) (inG_mem (p := 1417) (by decide +kernel)) (inG_mem (p := 98) (by decide +kernel)) g_chkS (by decide +kernel) rfl rfl ⟨by decide, by decide⟩) ⟨PX_blind, PX_U hT hS⟩ rfl rfl hl.1 rfl (lv_room (Nat.le_of_ble_eq_true rfl)) (show decode prog_21_method_2_code 3 = .ok (.invokestatic 9, 3) by decide +kernel) ⟨Nat.zero_le _, Nat.zero_le _⟩) hS (fun _ _ h => h.elim) (fun _ h => h.elim) (fun u t H1 locs1 ht hvm hw hB hz1 hk1 hS => ?_)
  refine lv_aload_n hx hb (show decode prog_21_method_2_code 6 = .ok (.aload_n 0, 1) by decide +kernel) rfl (lv_at hl 0 rfl) ?_
  refine lv_iload_n hx hb (show decode prog_21_method_2_code 7 = .ok (.iload_n 1, 1) by decide +kernel) rfl (lv_at hl 1 rfl) ?_
  refine va_tb hx hb (hT.1.1 i hi).2.2.2 hS (tx_in i hi k hk).2.2.1 rfl (show decode prog_21_method_2_code 8 = .ok (.baload, 1) by decide +kernel) ?_
  refine lv_sipush (v := 255) hx hb (show decode prog_21_method_2_code 9 = .ok (.sipush 255, 3) by decide +kernel) (by decide) ?_
  refine lv_iand hx hb (show decode prog_21_method_2_code 12 = .ok (.iand, 1) by decide +kernel) ?_
  refine lv_i2c hx hb (show decode prog_21_method_2_code 13 = .ok (.i2c, 1) by decide +kernel) (tx_in i hi k hk).2.2.2.1 ?_
  exact W.zret (ty := .char) hx hb hr (tx_in i hi k hk).2.2.2.2 (fun t ht hW => ⟨⟨_, (), rfl, rfl, trivial⟩, hS.F ht⟩) hS.2.2 (show decode prog_21_method_2_code 14 = .ok (.ireturn, 1) by decide +kernel) hlocks
set_option maxRecDepth 100000 in
theorem c_chS (l : Launch) (adK adV : Nat → Nat) (i : Nat) (hi : i < 4) (k : Nat) (hk : k < lenTx.getD i 0) : Met l y_chS (Cond.code y_chS prog_20_method_56_code 2 (Option.some Jvm.ClassFile.FieldType.char) :: gT) { frames := 6, cells := 0, slots := 0, locals := 140 } (PX adK adV [.ref (adK i), .int (Int32.ofNat k)]) (QX ((bytTx.getD i []).getD k 0)) 0 0 nA := by
  refine Met.ofW (cc := prog_20_method_56_code) (maxL := 2) (ret := Option.some Jvm.ClassFile.FieldType.char) (by decide) rfl ?_
  intro p e s m args below meth c s₁ B hml hv
  obtain ⟨rfl, hT⟩ := hv
  have hx := B.exec
  have hb := B.bytes
  have hr := B.returns
  have hts : ∀ w ∈ gT, w.before (List.toArray [.ref (adK i), .int (Int32.ofNat k)]) s = true := fun w hw => atoms_spec (ws := Cond.code y_chS prog_20_method_56_code 2 (Option.some Jvm.ClassFile.FieldType.char) :: gT) B.pre w (List.mem_cons_of_mem _ hw)
  have hown : s.vm.findClass "java/lang/String" = some m.cls := findClass_of_methodNamed B.named
  have hlocks := B.notSynchronized
  have hS : va_S nA s.heap s.heap [] := va_S.rf
  have hl := lv_entry ([.ref (adK i), .int (Int32.ofNat k)]) (n := 2) (Nat.le_of_ble_eq_true rfl)
  rw [lg_entry_eq]
  generalize (lg_sl ([.ref (adK i), .int (Int32.ofNat k)]) ++ List.replicate (2 - (lg_sl ([.ref (adK i), .int (Int32.ofNat k)])).length) Slot.unset).toArray = ls at hl ⊢
  have hl : lv_has ls 2 [(0, .ref (adK i)), (1, .int (Int32.ofNat k))] := hl
  refine lv_aload_n hx hb (show decode prog_20_method_56_code 0 = .ok (.aload_n 0, 1) by decide +kernel) rfl (lv_at hl 0 rfl) ?_
  refine va_calli (va_runV (As := []) (rest := []) (b := adK i) ⟨hx, hb, hml, hown, hts⟩ (c_isL l adK adV i hi) (cw_v (n := 0) hts (inG_mem (p := 1409) (by decide +kernel)) (inG_mem (p := 1410) (by decide +kernel)) (inG_mem (p := 1411) (by decide +kernel)) (inG_mem (p := 98) (by decide +kernel)) g_isL (by decide +kernel) rfl rfl ⟨by decide, by decide⟩) ⟨PX_blind, vk_recv hT.1 hi hS, PX_U hT hS⟩ rfl rfl hl.1 rfl (lv_room (Nat.le_of_ble_eq_true rfl)) (show decode prog_20_method_56_code 1 = .ok (.invokevirtual 492, 3) by decide +kernel) ⟨Nat.zero_le _, Nat.zero_le _⟩) hS (fun _ _ h => h.elim) (fun _ h => h.elim) (fun r u t H1 locs1 ht hvm hw hB hz1 hk1 hS => ?_)
  obtain rfl : r = 1 := hw
  refine lv_if_eq (tgt := 16) hx hb (show decode prog_20_method_56_code 4 = .ok (.ifCond .eq 12, 3) by decide +kernel) (by decide) (fun z => absurd z (by decide)) (fun _ => ?_)
  refine lv_aload_n hx hb (show decode prog_20_method_56_code 7 = .ok (.aload_n 0, 1) by decide +kernel) rfl (lv_at hl 0 rfl) ?_
  refine vk_getf hx hb (hT.1.1 i hi).2.2.1 hS hown (hts (.fieldLink "java/lang/String" 9 "java/lang/String" "value" "[B") (inG_mem (p := 1792) (by decide +kernel))) (fun _ z => z) (show decode prog_20_method_56_code 8 = .ok (.getfield 9, 3) by decide +kernel) ?_
  refine lv_iload_n hx hb (show decode prog_20_method_56_code 11 = .ok (.iload_n 1, 1) by decide +kernel) rfl (lv_at hl 1 rfl) ?_
  refine va_calli (va_runS (As := [.ref (adV i), .int (Int32.ofNat k)]) (rest := []) ⟨hx, hb, hml, hown, hts⟩ (c_chL l adK adV i hi k hk) (cw_s (n := 2) hts (inG_mem (p := 1413) (by decide +kernel)) (inG_mem (p := 1414) (by decide +kernel)) (inG_mem (p := 99) (by decide +kernel)) g_chL (by decide +kernel) rfl rfl ⟨by decide, by decide⟩) ⟨PX_blind, PX_U hT hS⟩ rfl rfl hl.1 rfl (lv_room (Nat.le_of_ble_eq_true rfl)) (show decode prog_20_method_56_code 12 = .ok (.invokestatic 495, 3) by decide +kernel) ⟨Nat.zero_le _, Nat.zero_le _⟩) hS (fun _ _ h => h.elim) (fun _ h => h.elim) (fun r u t H1 locs1 ht hvm hw hB hz1 hk1 hS => ?_)
  exact W.zret (ty := .char) hx hb hr (by rw [show r = _ from hw]; exact (tx_in i hi k hk).2.2.2.2) (fun t ht hW => ⟨⟨r, (), rfl, hw, trivial⟩, hS.F ht⟩) hS.2.2 (show decode prog_20_method_56_code 15 = .ok (.ireturn, 1) by decide +kernel) hlocks
set_option maxRecDepth 100000 in
theorem c_amg (l : Launch) (adK adV : Nat → Nat) (i : Nat) (hi : i < 4) (x : Int32) : Met l y_amg (Cond.code y_amg prog_12_method_5_code 3 (Option.some Jvm.ClassFile.FieldType.boolean) :: gT) { frames := 8, cells := 0, slots := 0, locals := 180 } (PX adK adV [.ref (adK i), .int x]) (QX (tx_am x ((bytTx.getD i []).drop 0) 0)) 0 0 nA := by
  refine Met.ofW (cc := prog_12_method_5_code) (maxL := 3) (ret := Option.some Jvm.ClassFile.FieldType.boolean) (by decide) rfl ?_
  intro p e s m args below meth c s₁ B hml hv
  obtain ⟨rfl, hT⟩ := hv
  have hx := B.exec
  have hb := B.bytes
  have hr := B.returns
  have hts : ∀ w ∈ gT, w.before (List.toArray [.ref (adK i), .int x]) s = true := fun w hw => atoms_spec (ws := Cond.code y_amg prog_12_method_5_code 3 (Option.some Jvm.ClassFile.FieldType.boolean) :: gT) B.pre w (List.mem_cons_of_mem _ hw)
  have hown : s.vm.findClass "SmellMapModel" = some m.cls := findClass_of_methodNamed B.named
  have hlocks := B.notSynchronized
  have hS : va_S nA s.heap s.heap [] := va_S.rf
  have hl := lv_entry ([.ref (adK i), .int x]) (n := 3) (Nat.le_of_ble_eq_true rfl)
  rw [lg_entry_eq]
  generalize (lg_sl ([.ref (adK i), .int x]) ++ List.replicate (3 - (lg_sl ([.ref (adK i), .int x])).length) Slot.unset).toArray = ls at hl ⊢
  have hl : lv_has ls 3 [(0, .ref (adK i)), (1, .int x)] := hl
  refine lv_iconst (v := 0) hx hb (show decode prog_12_method_5_code 0 = .ok (.iconst 0, 1) by decide +kernel) (by decide) ?_
  refine lv_istore_n (lv' := [(2, .int (Int32.ofNat 0)), (0, .ref (adK i)), (1, .int x)]) hx hb (show decode prog_12_method_5_code 1 = .ok (.istore_n 2, 1) by decide +kernel) rfl hl (by decide) rfl (fun ls hl => ?_)
  have loop : ∀ (n k : Nat), k + n = lenTx.getD i 0 → tx_am x ((bytTx.getD i []).drop k) k = tx_am x ((bytTx.getD i []).drop 0) 0 → ∀ (H : Heap) (locs : List Loc) (ls : Array Slot), va_S nA s.heap H locs → lv_has ls 3 [(2, .int (Int32.ofNat k)), (0, .ref (adK i)), (1, .int x)] → W p l e (headSpec (Cond.code y_amg prog_12_method_5_code 3 (Option.some Jvm.ClassFile.FieldType.boolean) :: gT) { frames := 8, cells := 0, slots := 0, locals := 180 }).room s m (List.toArray [.ref (adK i), .int x]) below meth c H locs 0 0 (MQ below (QX (tx_am x ((bytTx.getD i []).drop 0) 0)) (List.toArray [.ref (adK i), .int x]) s 0 0 nA) (F0 m 2 ls []) := by
    intro n
    induction n with
    | zero =>
      intro k hk hv H locs ls hS hl
      refine lv_iload_n hx hb (show decode prog_12_method_5_code 2 = .ok (.iload_n 2, 1) by decide +kernel) rfl (lv_at hl 0 rfl) ?_
      refine lv_aload_n hx hb (show decode prog_12_method_5_code 3 = .ok (.aload_n 0, 1) by decide +kernel) rfl (lv_at hl 1 rfl) ?_
      refine va_calli (va_runV (As := []) (rest := [.int (Int32.ofNat k)]) (b := adK i) ⟨hx, hb, hml, hown, hts⟩ (c_len l adK adV i hi) (cw_v (n := 0) hts (inG_mem (p := 1395) (by decide +kernel)) (inG_mem (p := 1396) (by decide +kernel)) (inG_mem (p := 1397) (by decide +kernel)) (inG_mem (p := 98) (by decide +kernel)) g_len (by decide +kernel) rfl rfl ⟨by decide, by decide⟩) ⟨PX_blind, vk_recv hT.1 hi hS, PX_U hT hS⟩ rfl rfl hl.1 rfl (lv_room (Nat.le_of_ble_eq_true rfl)) (show decode prog_12_method_5_code 4 = .ok (.invokevirtual 123, 3) by decide +kernel) ⟨Nat.zero_le _, Nat.zero_le _⟩) hS (fun _ _ h => h.elim) (fun _ h => h.elim) (fun r u t H1 locs1 ht hvm hw hB hz1 hk1 hS => ?_)
      obtain rfl : r = _ := hw
      refine lv_icmp_ge (tgt := 27) hx hb (show decode prog_12_method_5_code 7 = .ok (.if_icmp .ge 20, 3) by decide +kernel) (by decide) (fun _ => ?_) (fun z => absurd (by rw [show k = lenTx.getD i 0 by omega]; exact Int32.le_refl _) z)
      refine lv_iconst (v := 0) hx hb (show decode prog_12_method_5_code 27 = .ok (.iconst 0, 1) by decide +kernel) (by decide) ?_
      rw [tx_end i hi k (by omega)] at hv
      exact W.zret (ty := .boolean) hx hb hr rfl (fun t ht hW => ⟨⟨_, (), rfl, hv, trivial⟩, hS.F ht⟩) hS.2.2 (show decode prog_12_method_5_code 28 = .ok (.ireturn, 1) by decide +kernel) hlocks
    | succ n ih =>
      intro k hk hv H locs ls hS hl
      refine lv_iload_n hx hb (show decode prog_12_method_5_code 2 = .ok (.iload_n 2, 1) by decide +kernel) rfl (lv_at hl 0 rfl) ?_
      refine lv_aload_n hx hb (show decode prog_12_method_5_code 3 = .ok (.aload_n 0, 1) by decide +kernel) rfl (lv_at hl 1 rfl) ?_
      refine va_calli (va_runV (As := []) (rest := [.int (Int32.ofNat k)]) (b := adK i) ⟨hx, hb, hml, hown, hts⟩ (c_len l adK adV i hi) (cw_v (n := 0) hts (inG_mem (p := 1395) (by decide +kernel)) (inG_mem (p := 1396) (by decide +kernel)) (inG_mem (p := 1397) (by decide +kernel)) (inG_mem (p := 98) (by decide +kernel)) g_len (by decide +kernel) rfl rfl ⟨by decide, by decide⟩) ⟨PX_blind, vk_recv hT.1 hi hS, PX_U hT hS⟩ rfl rfl hl.1 rfl (lv_room (Nat.le_of_ble_eq_true rfl)) (show decode prog_12_method_5_code 4 = .ok (.invokevirtual 123, 3) by decide +kernel) ⟨Nat.zero_le _, Nat.zero_le _⟩) hS (fun _ _ h => h.elim) (fun _ h => h.elim) (fun r u t H1 locs1 ht hvm hw hB hz1 hk1 hS => ?_)
      obtain rfl : r = _ := hw
      refine lv_icmp_ge (tgt := 27) hx hb (show decode prog_12_method_5_code 7 = .ok (.if_icmp .ge 20, 3) by decide +kernel) (by decide) (fun z => absurd z (tx_ge i hi k (by omega))) (fun _ => ?_)
      refine lv_aload_n hx hb (show decode prog_12_method_5_code 10 = .ok (.aload_n 0, 1) by decide +kernel) rfl (lv_at hl 1 rfl) ?_
      refine lv_iload_n hx hb (show decode prog_12_method_5_code 11 = .ok (.iload_n 2, 1) by decide +kernel) rfl (lv_at hl 0 rfl) ?_
      refine va_calli (va_runV (As := [.int (Int32.ofNat k)]) (rest := []) (b := adK i) ⟨hx, hb, hml, hown, hts⟩ (c_chS l adK adV i hi k (by omega)) (cw_v (n := 1) hts (inG_mem (p := 1405) (by decide +kernel)) (inG_mem (p := 1406) (by decide +kernel)) (inG_mem (p := 1407) (by decide +kernel)) (inG_mem (p := 98) (by decide +kernel)) g_chS (by decide +kernel) rfl rfl ⟨by decide, by decide⟩) ⟨PX_blind, vk_recv hT.1 hi hS, PX_U hT hS⟩ rfl rfl hl.1 rfl (lv_room (Nat.le_of_ble_eq_true rfl)) (show decode prog_12_method_5_code 12 = .ok (.invokevirtual 129, 3) by decide +kernel) ⟨Nat.zero_le _, Nat.zero_le _⟩) hS (fun _ _ h => h.elim) (fun _ h => h.elim) (fun r u t H1 locs1 ht hvm hw hB hz1 hk1 hS => ?_)
      obtain rfl : r = _ := hw
      refine lv_iload_n hx hb (show decode prog_12_method_5_code 15 = .ok (.iload_n 1, 1) by decide +kernel) rfl (lv_at hl 2 rfl) ?_
      rw [tx_cons i hi k (by omega)] at hv
      rw [tx_am_c] at hv
      refine lv_icmp_ne (tgt := 21) hx hb (show decode prog_12_method_5_code 16 = .ok (.if_icmp .ne 5, 3) by decide +kernel) (by decide) (fun z => ?_) (fun z => ?_)
      · rw [if_neg z] at hv
        refine lv_iinc (lv' := [(2, .int (Int32.ofNat (k + 1))), (0, .ref (adK i)), (1, .int x)]) hx hb (show decode prog_12_method_5_code 21 = .ok (.iinc 2 1, 3) by decide +kernel) hl (k := 0) rfl (inc_ofNat k).symm (by decide) rfl (fun ls hl => ?_)
        refine lv_goto (tgt := 2) hx hb (show decode prog_12_method_5_code 24 = .ok (.goto (-22), 3) by decide +kernel) (by decide) ?_
        exact ih (k + 1) (by omega) hv _ _ ls hS hl
      · rw [if_pos z] at hv
        refine lv_iconst (v := 1) hx hb (show decode prog_12_method_5_code 19 = .ok (.iconst 1, 1) by decide +kernel) (by decide) ?_
        exact W.zret (ty := .boolean) hx hb hr rfl (fun t ht hW => ⟨⟨_, (), rfl, hv, trivial⟩, hS.F ht⟩) hS.2.2 (show decode prog_12_method_5_code 20 = .ok (.ireturn, 1) by decide +kernel) hlocks
  exact loop (lenTx.getD i 0) 0 (by omega) rfl _ _ ls hS hl
set_option maxRecDepth 100000 in
theorem c_plc (l : Launch) (adK adV : Nat → Nat) (i : Nat) (hi : i < 4) (x : Int32) : Met l y_plc (Cond.code y_plc prog_12_method_28_code 3 (Option.some Jvm.ClassFile.FieldType.int) :: gT) { frames := 8, cells := 0, slots := 0, locals := 180 } (PX adK adV [.ref (adK i), .int x]) (QX (tx_pl x ((bytTx.getD i []).drop 0) 0)) 0 0 nA := by
  refine Met.ofW (cc := prog_12_method_28_code) (maxL := 3) (ret := Option.some Jvm.ClassFile.FieldType.int) (by decide) rfl ?_
  intro p e s m args below meth c s₁ B hml hv
  obtain ⟨rfl, hT⟩ := hv
  have hx := B.exec
  have hb := B.bytes
  have hr := B.returns
  have hts : ∀ w ∈ gT, w.before (List.toArray [.ref (adK i), .int x]) s = true := fun w hw => atoms_spec (ws := Cond.code y_plc prog_12_method_28_code 3 (Option.some Jvm.ClassFile.FieldType.int) :: gT) B.pre w (List.mem_cons_of_mem _ hw)
  have hown : s.vm.findClass "SmellMapModel" = some m.cls := findClass_of_methodNamed B.named
  have hlocks := B.notSynchronized
  have hS : va_S nA s.heap s.heap [] := va_S.rf
  have hl := lv_entry ([.ref (adK i), .int x]) (n := 3) (Nat.le_of_ble_eq_true rfl)
  rw [lg_entry_eq]
  generalize (lg_sl ([.ref (adK i), .int x]) ++ List.replicate (3 - (lg_sl ([.ref (adK i), .int x])).length) Slot.unset).toArray = ls at hl ⊢
  have hl : lv_has ls 3 [(0, .ref (adK i)), (1, .int x)] := hl
  refine lv_iconst (v := 0) hx hb (show decode prog_12_method_28_code 0 = .ok (.iconst 0, 1) by decide +kernel) (by decide) ?_
  refine lv_istore_n (lv' := [(2, .int (Int32.ofNat 0)), (0, .ref (adK i)), (1, .int x)]) hx hb (show decode prog_12_method_28_code 1 = .ok (.istore_n 2, 1) by decide +kernel) rfl hl (by decide) rfl (fun ls hl => ?_)
  have loop : ∀ (n k : Nat), k + n = lenTx.getD i 0 → tx_pl x ((bytTx.getD i []).drop k) k = tx_pl x ((bytTx.getD i []).drop 0) 0 → ∀ (H : Heap) (locs : List Loc) (ls : Array Slot), va_S nA s.heap H locs → lv_has ls 3 [(2, .int (Int32.ofNat k)), (0, .ref (adK i)), (1, .int x)] → W p l e (headSpec (Cond.code y_plc prog_12_method_28_code 3 (Option.some Jvm.ClassFile.FieldType.int) :: gT) { frames := 8, cells := 0, slots := 0, locals := 180 }).room s m (List.toArray [.ref (adK i), .int x]) below meth c H locs 0 0 (MQ below (QX (tx_pl x ((bytTx.getD i []).drop 0) 0)) (List.toArray [.ref (adK i), .int x]) s 0 0 nA) (F0 m 2 ls []) := by
    intro n
    induction n with
    | zero =>
      intro k hk hv H locs ls hS hl
      refine lv_iload_n hx hb (show decode prog_12_method_28_code 2 = .ok (.iload_n 2, 1) by decide +kernel) rfl (lv_at hl 0 rfl) ?_
      refine lv_aload_n hx hb (show decode prog_12_method_28_code 3 = .ok (.aload_n 0, 1) by decide +kernel) rfl (lv_at hl 1 rfl) ?_
      refine va_calli (va_runV (As := []) (rest := [.int (Int32.ofNat k)]) (b := adK i) ⟨hx, hb, hml, hown, hts⟩ (c_len l adK adV i hi) (cw_v (n := 0) hts (inG_mem (p := 1395) (by decide +kernel)) (inG_mem (p := 1396) (by decide +kernel)) (inG_mem (p := 1397) (by decide +kernel)) (inG_mem (p := 98) (by decide +kernel)) g_len (by decide +kernel) rfl rfl ⟨by decide, by decide⟩) ⟨PX_blind, vk_recv hT.1 hi hS, PX_U hT hS⟩ rfl rfl hl.1 rfl (lv_room (Nat.le_of_ble_eq_true rfl)) (show decode prog_12_method_28_code 4 = .ok (.invokevirtual 123, 3) by decide +kernel) ⟨Nat.zero_le _, Nat.zero_le _⟩) hS (fun _ _ h => h.elim) (fun _ h => h.elim) (fun r u t H1 locs1 ht hvm hw hB hz1 hk1 hS => ?_)
      obtain rfl : r = _ := hw
      refine lv_icmp_ge (tgt := 27) hx hb (show decode prog_12_method_28_code 7 = .ok (.if_icmp .ge 20, 3) by decide +kernel) (by decide) (fun _ => ?_) (fun z => absurd (by rw [show k = lenTx.getD i 0 by omega]; exact Int32.le_refl _) z)
      refine lv_iconst (v := -1) hx hb (show decode prog_12_method_28_code 27 = .ok (.iconst (-1), 1) by decide +kernel) (by decide) ?_
      rw [tx_end i hi k (by omega)] at hv
      exact W.iret hx hb hr (fun t ht hW => ⟨⟨_, (), rfl, hv, trivial⟩, hS.F ht⟩) hS.2.2 (show decode prog_12_method_28_code 28 = .ok (.ireturn, 1) by decide +kernel) hlocks
    | succ n ih =>
      intro k hk hv H locs ls hS hl
      refine lv_iload_n hx hb (show decode prog_12_method_28_code 2 = .ok (.iload_n 2, 1) by decide +kernel) rfl (lv_at hl 0 rfl) ?_
      refine lv_aload_n hx hb (show decode prog_12_method_28_code 3 = .ok (.aload_n 0, 1) by decide +kernel) rfl (lv_at hl 1 rfl) ?_
      refine va_calli (va_runV (As := []) (rest := [.int (Int32.ofNat k)]) (b := adK i) ⟨hx, hb, hml, hown, hts⟩ (c_len l adK adV i hi) (cw_v (n := 0) hts (inG_mem (p := 1395) (by decide +kernel)) (inG_mem (p := 1396) (by decide +kernel)) (inG_mem (p := 1397) (by decide +kernel)) (inG_mem (p := 98) (by decide +kernel)) g_len (by decide +kernel) rfl rfl ⟨by decide, by decide⟩) ⟨PX_blind, vk_recv hT.1 hi hS, PX_U hT hS⟩ rfl rfl hl.1 rfl (lv_room (Nat.le_of_ble_eq_true rfl)) (show decode prog_12_method_28_code 4 = .ok (.invokevirtual 123, 3) by decide +kernel) ⟨Nat.zero_le _, Nat.zero_le _⟩) hS (fun _ _ h => h.elim) (fun _ h => h.elim) (fun r u t H1 locs1 ht hvm hw hB hz1 hk1 hS => ?_)
      obtain rfl : r = _ := hw
      refine lv_icmp_ge (tgt := 27) hx hb (show decode prog_12_method_28_code 7 = .ok (.if_icmp .ge 20, 3) by decide +kernel) (by decide) (fun z => absurd z (tx_ge i hi k (by omega))) (fun _ => ?_)
      refine lv_aload_n hx hb (show decode prog_12_method_28_code 10 = .ok (.aload_n 0, 1) by decide +kernel) rfl (lv_at hl 1 rfl) ?_
      refine lv_iload_n hx hb (show decode prog_12_method_28_code 11 = .ok (.iload_n 2, 1) by decide +kernel) rfl (lv_at hl 0 rfl) ?_
      refine va_calli (va_runV (As := [.int (Int32.ofNat k)]) (rest := []) (b := adK i) ⟨hx, hb, hml, hown, hts⟩ (c_chS l adK adV i hi k (by omega)) (cw_v (n := 1) hts (inG_mem (p := 1405) (by decide +kernel)) (inG_mem (p := 1406) (by decide +kernel)) (inG_mem (p := 1407) (by decide +kernel)) (inG_mem (p := 98) (by decide +kernel)) g_chS (by decide +kernel) rfl rfl ⟨by decide, by decide⟩) ⟨PX_blind, vk_recv hT.1 hi hS, PX_U hT hS⟩ rfl rfl hl.1 rfl (lv_room (Nat.le_of_ble_eq_true rfl)) (show decode prog_12_method_28_code 12 = .ok (.invokevirtual 129, 3) by decide +kernel) ⟨Nat.zero_le _, Nat.zero_le _⟩) hS (fun _ _ h => h.elim) (fun _ h => h.elim) (fun r u t H1 locs1 ht hvm hw hB hz1 hk1 hS => ?_)
      obtain rfl : r = _ := hw
      refine lv_iload_n hx hb (show decode prog_12_method_28_code 15 = .ok (.iload_n 1, 1) by decide +kernel) rfl (lv_at hl 2 rfl) ?_
      rw [tx_cons i hi k (by omega)] at hv
      rw [tx_pl_c] at hv
      refine lv_icmp_ne (tgt := 21) hx hb (show decode prog_12_method_28_code 16 = .ok (.if_icmp .ne 5, 3) by decide +kernel) (by decide) (fun z => ?_) (fun z => ?_)
      · rw [if_neg z] at hv
        refine lv_iinc (lv' := [(2, .int (Int32.ofNat (k + 1))), (0, .ref (adK i)), (1, .int x)]) hx hb (show decode prog_12_method_28_code 21 = .ok (.iinc 2 1, 3) by decide +kernel) hl (k := 0) rfl (inc_ofNat k).symm (by decide) rfl (fun ls hl => ?_)
        refine lv_goto (tgt := 2) hx hb (show decode prog_12_method_28_code 24 = .ok (.goto (-22), 3) by decide +kernel) (by decide) ?_
        exact ih (k + 1) (by omega) hv _ _ ls hS hl
      · rw [if_pos z] at hv
        refine lv_iload_n hx hb (show decode prog_12_method_28_code 19 = .ok (.iload_n 2, 1) by decide +kernel) rfl (lv_at hl 0 rfl) ?_
        exact W.iret hx hb hr (fun t ht hW => ⟨⟨_, (), rfl, hv, trivial⟩, hS.F ht⟩) hS.2.2 (show decode prog_12_method_28_code 20 = .ok (.ireturn, 1) by decide +kernel) hlocks
  exact loop (lenTx.getD i 0) 0 (by omega) rfl _ _ ls hS hl
