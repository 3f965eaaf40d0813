/-! CONSTRUCTORS of the small classes; a new object with its constructor, called -/
def yI (ci : Nat) : MethodName := ⟨cnm ci, "<init>", "()V"⟩
def PCt (D : va_G) (cA : Nat → ClassId) (ad : Nat → Nat) (ci z : Nat) : Array Value → State → Prop := va_Pc [.ref z] (fun U => CN D z [(z, .inr (ci, dfl ci))] U.heap ∧ va_K D cl10 (tyL cA) U ∧ ∀ x ∈ txL, vk_R "SmellMapModel" x.1 x.2.1 (ad x.2.2) U)
def QCt (D : va_G) (z : Nat) (ws : va_W) : Array Value → State → Outcome → State → Prop := va_Qv (fun _ : Unit => True) (fun _ t => CN D z ws t.heap) (CA z)
theorem PCt_blind {D : va_G} {cA : Nat → ClassId} {ad : Nat → Nat} {ci z : Nat} : FrameBlind (PCt D cA ad ci z) := by
  intro a U gf mk q
  obtain ⟨q0, q1, q2, q3⟩ := q
  exact ⟨q0, q1, va_K.moved (u := U) (U := U.calling gf mk a) (Vm.Alike.refl U.vm) q2, fun x hx => vk_R.same (u := U) (U := U.calling gf mk a) rfl (q3 x hx)⟩
theorem dfl_len (ci : Nat) : (dfl ci).length = nfF ci := by simp [dfl]
def ctOk (ci : Nat) (b : ByteArray) (its : List It) (io po pc pi : Nat) : Bool :=
  Nat.blt ci 10 && (plainName (cnm ci) && (decide (decode b 0 = .ok (.aload_n 0, 1)) && (decide (decode b 1 = .ok (.invokespecial io, 3)) && (inG po (.methodLink (cnm ci) io objectInit) && (okIts b ci 4 its && (decide (decode b (endI 4 its) = .ok (.return_, 1)) && (inG pc (.code (yI ci) b 1 none) && inG pi (.instanceMethod (yI ci)))))))))
def rmC (its : List It) : Room := { frames := 2, cells := cntI its, slots := sltI its, locals := 40 }
theorem obj_w : inG 114 (.instanceMethod objectInit) = true ∧ inG 115 (.code objectInit ⟨#[0xb1]⟩ 1 none) = true := by decide +kernel
section CT
variable {D : va_G} {cA : Nat → ClassId} {ad : Nat → Nat}
set_option maxRecDepth 100000 in
theorem ct_met (l : Launch) {ci : Nat} {b : ByteArray} {its : List It} {io po pc pi : Nat} (ok : ctOk ci b its io po pc pi = true) (z : Nat) : Met l (yI ci) (Cond.code (yI ci) b 1 none :: gT) (rmC its) (PCt D cA ad ci z) (QCt D z ((z, .inr (ci, runF z cA ad its (dfl ci) [])) :: runW z cA its [])) (cntI its) (sltI its) (CA z) := by
  simp only [ctOk, Bool.and_eq_true, decide_eq_true_eq] at ok
  obtain ⟨o1, o2, d0, d1, o3, o4, d2, o5, o6⟩ := ok
  have hci : ci < 10 := Nat.le_of_ble_eq_true o1
  refine Met.ofW (cc := b) (maxL := 1) (ret := none) o2 rfl ?_
  intro p e s m args below meth c s₁ B hml hv
  obtain ⟨rfl, hC, hK, hT⟩ := hv
  have hx := B.exec
  have hb := B.bytes
  have hr := B.returns
  have hts : ∀ w ∈ gT, w.before (List.toArray [.ref z]) s = true := fun w hw => atoms_spec (ws := Cond.code (yI ci) b 1 none :: gT) B.pre w (List.mem_cons_of_mem _ hw)
  have hown : s.vm.findClass (cnm ci) = some m.cls := findClass_of_methodNamed B.named
  have hlocks := B.notSynchronized
  have hin : meth.name = "<init>" := (name_of_methodNamed B.named B.method).1
  have hsz : s.heap.size = z + 1 := hC.2.2
  have hS : va_S (CA z) s.heap s.heap [] := va_S.rf
  have hl := lv_entry ([.ref z]) (n := 1) (Nat.le_of_ble_eq_true rfl)
  rw [lg_entry_eq]
  generalize (lg_sl ([.ref z]) ++ List.replicate (1 - (lg_sl ([.ref z])).length) Slot.unset).toArray = ls at hl ⊢
  have hl : lv_has ls 1 [(0, .ref z)] := hl
  refine lv_aload_n hx hb d0 rfl (lv_at hl 0 rfl) ?_
  refine W.objInit hx hb hown (hts _ (inG_mem o3)) (hts _ (inG_mem obj_w.1)) (hts _ (inG_mem obj_w.2)) rfl (by rw [hml]; exact hl.1) rfl d1 (Nat.le_of_ble_eq_true rfl) (Nat.le_of_ble_eq_true rfl) ?_
  refine W.eq (g2 := F0 m 4 ls []) rfl ?_
  refine ct_run hx hb hci hts hown hin hK hT hl (by omega) its 4 (dfl ci) [] 0 0 s.heap [] o4 (dfl_len ci) hC hS (Nat.le_of_eq (Nat.zero_add _)) (Nat.le_of_eq (Nat.zero_add _)) (fun H1 locs1 hC1 hS1 => ?_)
  rw [Nat.zero_add, Nat.zero_add]
  exact W.vret hx hb hr (fun t ht hW => ⟨⟨(), rfl, trivial, by show CN D z _ t.heap; rw [ht]; exact hC1⟩, hS1.F ht⟩) hS1.2.2 d2 hlocks
theorem cn_join {z q : Nat} {ws w1 : va_W} {e0 : va_E} {H H1 : Heap} (h : CN D z (ws ++ [(q, e0)]) H) (hq : q = z + ws.length) (h1 : CN D q w1 H1) (hk : ∀ a : Nat, a < H.size → ¬ CA q a → H1[a]? = H[a]?) : CN D z (ws ++ w1) H1 := by
  obtain ⟨hP, hj, hsz⟩ := h
  have hP0 : va_P D cl10 ws H := fun k x hx => hP k x (by rw [List.getElem?_append_left (List.getElem?_eq_some_iff.mp hx).1]; exact hx)
  have hj0 : ∀ (j : Nat) (x : Nat × va_E), ws[j]? = some x → x.1 = z + j := fun k x hx => hj k x (by rw [List.getElem?_append_left (List.getElem?_eq_some_iff.mp hx).1]; exact hx)
  refine ⟨(hP0.kept (fun k x hx => hk x.1 ((hP0 k x hx).lt) (fun hz => ?_))).app h1.1, fun j x hx => ?_, by rw [h1.2.2, List.length_append, hq]; omega⟩
  · have h2 := hj0 k x hx
    have h3 := (List.getElem?_eq_some_iff.mp hx).1
    have hz : q ≤ x.1 := hz
    omega
  · rcases Nat.lt_or_ge j ws.length with hl | hl
    · rw [List.getElem?_append_left hl] at hx
      exact hj0 j x hx
    · rw [List.getElem?_append_right hl] at hx
      have := h1.2.1 _ x hx
      omega
variable {p : Program} {l : Launch} {e : Env} {R : Room} {s : State} {m : MethodId} {args : Array Value} {below : List Frame} {meth : Method} {c : Code} {Q : State → Prop}
variable {cc : ByteArray} {z : Nat} {ws : va_W} {H : Heap} {locs : List Loc} {ls : Array Slot} {cells slots pc : Nat} {rest : List Value}
/-- new C; dup; invokespecial C(): a nest mate's -/
theorem ct_callN (hx : p.tables.exec = Jvm.exec) (hb : c.code = cc) {nL : Nat} (hml : c.maxLocals = nL) (hls : ls.size = nL) {own host : String} {i1 i2 cj mc ms : Nat} {b : ByteArray} {rm : Room} {W1 : Nat → va_W} (hcj : cj < 10) (hts : ∀ w ∈ gT, w.before args s = true) (hown : s.vm.findClass own = some m.cls) (hcl : (Cond.classLink own i1 (cnm cj)).before args s = true) (hinst : Cond.instantiable (cnm cj) (nfF cj) ∈ gT) (hini : Cond.initialized (cnm cj) ∈ gT) (hlk : va_Nw (.methodLinkNest own i2 (yI cj) host) s) (him : Cond.instanceMethod (yI cj) ∈ gT) (hcd : Cond.code (yI cj) b 1 none ∈ gT)
    (hM : ∀ q, Met l (yI cj) (Cond.code (yI cj) b 1 none :: gT) rm (PCt D cA ad cj q) (QCt D q (W1 q)) mc ms (CA q)) (hyd : (yI cj).cls ≠ "java/lang/invoke/MethodHandle" ∧ (yI cj).cls ≠ "java/lang/invoke/VarHandle" ∧ (parseMethodDescriptor (yI cj).desc).map (fun d => d.parameters.length) = some 0) (hR : rm.frames + 1 ≤ R.frames ∧ 8 + (1 + 11) + rm.locals ≤ R.locals) (hrc : rm.cells = mc) (hrs : rm.slots = ms)
    (hK : va_K D cl10 (tyL cA) s) (hT : ∀ x ∈ txL, vk_R "SmellMapModel" x.1 x.2.1 (ad x.2.2) s) (hC : CN D z ws H) (hS : va_S (CA z) s.heap H locs) (hcells : cells + 1 + mc ≤ R.cells) (hslots : slots + nfF cj + ms ≤ R.slots) (hcat : (rest.map fun v => v.category).sum ≤ 7)
    (d0 : decode cc pc = .ok (.new i1, 3)) (d1 : decode cc (pc + 3) = .ok (.dup, 1)) (d2 : decode cc (pc + 4) = .ok (.invokespecial i2, 3))
    (kk : ∀ (H1 : Heap) (locs1 : List Loc), CN D z (ws ++ W1 (z + ws.length)) H1 → va_S (CA z) s.heap H1 locs1 → W p l e R s m args below meth c H1 locs1 (cells + 1 + mc) (slots + nfF cj + ms) Q (F0 m (pc + 7) ls (.ref (z + ws.length) :: rest))) : W p l e R s m args below meth c H locs cells slots Q (F0 m pc ls rest) := by
  refine cn_new hx hb hcj hts hown hcl (hts _ hinst) (hts _ hini) hK hC hS (by omega) (by omega) d0 (fun H1 hC1 hS1 => ?_)
  refine lv_dup hx hb d1 rfl ?_
  have hq : z ≤ z + ws.length := Nat.le_add_right _ _
  have hC2 : CN D (z + ws.length) [(z + ws.length, .inr (cj, dfl cj))] H1 := by
    obtain ⟨hP, hj, hsz⟩ := hC1
    refine ⟨fun k x hx => hP (ws.length + k) x (by rw [List.getElem?_append_right (by omega)]; rw [Nat.add_sub_cancel_left]; exact hx), fun j x hx => ?_, by rw [hsz, List.length_append]; rfl⟩
    have hz : j < 1 := (List.getElem?_eq_some_iff.mp hx).1
    rw [show j = 0 by omega] at hx ⊢
    cases hx
    rfl
  refine va_callv (va_runIN (As := []) (rest := .ref (z + ws.length) :: rest) ⟨hx, hb, hml, hown, hts⟩ (hM (z + ws.length)) ⟨va_cnB 0 hts (ws' := gT) (gi (fun w hw => by
    rcases List.mem_cons.mp hw with rfl | hw
    · exact hcd
    · exact hw)) rfl hrc hrs hlk (hts _ hini) hyd hR, rfl, hts _ him⟩ ⟨PCt_blind, fun U hU hW => ⟨rfl, by rw [hU]; exact hC2, va_K.moved hW.alike hK, fun x hx => vk_R.warm hW (hT x hx)⟩⟩ rfl rfl hls rfl (lv_room (by rw [List.map_cons, List.sum_cons]; show 1 + _ ≤ 8; omega)) d2 ⟨by omega, by omega⟩) hS1 (fun a _ h => Nat.le_trans hq h) (fun a h => Nat.le_trans hq h) (fun u t H2 locs2 ht hvm hw hB hz1 hk1 hS2 => ?_)
  have hB : CN D (z + ws.length) (W1 (z + ws.length)) t.heap := hB
  rw [ht] at hB
  exact kk H2 locs2 (cn_join hC1 rfl hB hk1) hS2
/-- new C; dup; invokespecial C(): a public one's -/
theorem ct_callP (hx : p.tables.exec = Jvm.exec) (hb : c.code = cc) {nL : Nat} (hml : c.maxLocals = nL) (hls : ls.size = nL) {own : String} {i1 i2 cj mc ms mL : Nat} {b : ByteArray} {rm : Room} {W1 : Nat → va_W} (hcj : cj < 10) (hts : ∀ w ∈ gT, w.before args s = true) (hown : s.vm.findClass own = some m.cls) (hcl : (Cond.classLink own i1 (cnm cj)).before args s = true) (hinst : Cond.instantiable (cnm cj) (nfF cj) ∈ gT) (hini : Cond.initialized (cnm cj) ∈ gT) (hlk : (Cond.methodLink own i2 (yI cj)).before args s = true) (him : Cond.instanceMethod (yI cj) ∈ gT) (hcd : Cond.code (yI cj) b mL none ∈ gT)
    {Pq : Nat → State → Prop} (hbl : ∀ q, FrameBlind (va_Pc [.ref q] (Pq q))) (hM : ∀ q, Met l (yI cj) (Cond.code (yI cj) b mL none :: gT) rm (va_Pc [.ref q] (Pq q)) (QCt D q (W1 q)) mc ms (CA q)) (hyd : (yI cj).cls ≠ "java/lang/invoke/MethodHandle" ∧ (yI cj).cls ≠ "java/lang/invoke/VarHandle" ∧ (parseMethodDescriptor (yI cj).desc).map (fun d => d.parameters.length) = some 0) (hR : rm.frames + 1 ≤ R.frames ∧ 8 + (mL + 11) + rm.locals ≤ R.locals) (hrc : rm.cells = mc) (hrs : rm.slots = ms)
    (hK : va_K D cl10 (tyL cA) s) (hC : CN D z ws H) (hS : va_S (CA z) s.heap H locs) (hPq : ∀ H1 : Heap, CN D (z + ws.length) [(z + ws.length, .inr (cj, dfl cj))] H1 → ∀ U : State, U.heap = H1 → s.WarmedH U.vm → Pq (z + ws.length) U) (hcells : cells + 1 + mc ≤ R.cells) (hslots : slots + nfF cj + ms ≤ R.slots) (hcat : (rest.map fun v => v.category).sum ≤ 7)
    (d0 : decode cc pc = .ok (.new i1, 3)) (d1 : decode cc (pc + 3) = .ok (.dup, 1)) (d2 : decode cc (pc + 4) = .ok (.invokespecial i2, 3))
    (kk : ∀ (H1 : Heap) (locs1 : List Loc), CN D z (ws ++ W1 (z + ws.length)) H1 → va_S (CA z) s.heap H1 locs1 → W p l e R s m args below meth c H1 locs1 (cells + 1 + mc) (slots + nfF cj + ms) Q (F0 m (pc + 7) ls (.ref (z + ws.length) :: rest))) : W p l e R s m args below meth c H locs cells slots Q (F0 m pc ls rest) := by
  refine cn_new hx hb hcj hts hown hcl (hts _ hinst) (hts _ hini) hK hC hS (by omega) (by omega) d0 (fun H1 hC1 hS1 => ?_)
  refine lv_dup hx hb d1 rfl ?_
  have hq : z ≤ z + ws.length := Nat.le_add_right _ _
  have hC2 : CN D (z + ws.length) [(z + ws.length, .inr (cj, dfl cj))] H1 := by
    obtain ⟨hP, hj, hsz⟩ := hC1
    refine ⟨fun k x hx => hP (ws.length + k) x (by rw [List.getElem?_append_right (by omega)]; rw [Nat.add_sub_cancel_left]; exact hx), fun j x hx => ?_, by rw [hsz, List.length_append]; rfl⟩
    have hz : j < 1 := (List.getElem?_eq_some_iff.mp hx).1
    rw [show j = 0 by omega] at hx ⊢
    cases hx
    rfl
  refine va_callv (va_runI (As := []) (rest := .ref (z + ws.length) :: rest) ⟨hx, hb, hml, hown, hts⟩ (hM (z + ws.length)) (cwI 0 hts (gi (fun w hw => by
    rcases List.mem_cons.mp hw with rfl | hw
    · exact hcd
    · exact hw)) rfl hrc hrs (hts _ hini) hlk (hts _ him) rfl hyd hR) ⟨hbl _, fun U hU hW => ⟨rfl, hPq H1 hC2 U hU hW⟩⟩ rfl rfl hls rfl (lv_room (by rw [List.map_cons, List.sum_cons]; show 1 + _ ≤ 8; omega)) d2 ⟨by omega, by omega⟩) hS1 (fun a _ h => Nat.le_trans hq h) (fun a h => Nat.le_trans hq h) (fun u t H2 locs2 ht hvm hw hB hz1 hk1 hS2 => ?_)
  have hB : CN D (z + ws.length) (W1 (z + ws.length)) t.heap := hB
  rw [ht] at hB
  exact kk H2 locs2 (cn_join hC1 rfl hB hk1) hS2
end CT
def its0 : List It := [(0, 0, 0, 9, 1, 206), (0, 1, 0, 15, 1, 207), (0, 2, 0, 18, 1, 208), (0, 3, 0, 22, 1, 209), (0, 4, 0, 25, 1, 210), (20, 5, 7, 28, 2, 211), (20, 6, 140, 32, 3, 212), (20, 7, 20, 35, 2, 213), (20, 8, 20, 38, 2, 214)]
theorem ct_ok0 : ctOk 0 prog_2_method_1_code its0 3 205 204 203 = true := by decide +kernel
def its1 : List It := [(20, 0, 20, 11, 2, 281), (20, 1, 60, 15, 2, 282), (0, 2, 0, 18, 1, 283), (20, 3, 4096, 22, 3, 284), (0, 4, 0, 25, 1, 285), (20, 5, 128, 28, 3, 286), (0, 6, 0, 31, 1, 287)]
theorem ct_ok1 : ctOk 1 prog_3_method_1_code its1 5 280 279 278 = true := by decide +kernel
def its2 : List It := [(0, 0, 0, 9, 1, 142), (0, 1, 0, 15, 1, 143), (0, 2, 0, 18, 1, 144), (0, 3, 0, 21, 1, 145), (0, 4, 0, 24, 1, 146), (20, 5, 4, 27, 1, 147), (20, 6, 4, 31, 1, 148), (20, 7, 49, 34, 2, 149), (20, 8, 100, 37, 2, 150), (20, 9, 400, 40, 3, 151), (20, 10, 20, 43, 2, 152)]
theorem ct_ok2 : ctOk 2 prog_4_method_1_code its2 3 141 140 139 = true := by decide +kernel
def its3 : List It := [(20, 0, 160, 9, 3, 308), (0, 1, 0, 15, 1, 309), (20, 2, 18, 19, 2, 310), (0, 3, 0, 22, 1, 311), (0, 4, 0, 25, 1, 312), (0, 5, 0, 28, 1, 313), (0, 6, 0, 31, 1, 314), (0, 7, 0, 34, 1, 315)]
theorem ct_ok3 : ctOk 3 prog_6_method_1_code its3 3 307 306 305 = true := by decide +kernel
def its4 : List It := [(20, 0, 12, 11, 2, 256), (20, 1, 12, 15, 2, 257), (20, 2, 12, 18, 2, 258), (20, 3, 12, 21, 2, 259), (0, 4, 0, 24, 1, 260), (20, 5, 31, 28, 2, 261)]
theorem ct_ok4 : ctOk 4 prog_7_method_1_code its4 3 255 254 253 = true := by decide +kernel
def its5 : List It := [(20, 0, 160, 9, 3, 122), (0, 1, 0, 15, 1, 123), (0, 2, 0, 19, 1, 124), (0, 3, -1, 22, 1, 125)]
theorem ct_ok5 : ctOk 5 prog_8_method_1_code its5 3 121 120 119 = true := by decide +kernel
def its6 : List It := [(20, 0, 12, 11, 2, 240), (20, 1, 12, 15, 2, 241), (0, 2, 0, 18, 1, 242)]
theorem ct_ok6 : ctOk 6 prog_9_method_1_code its6 3 239 238 237 = true := by decide +kernel
def its7 : List It := [(20, 0, 5, 9, 1, 184), (20, 1, 200, 15, 3, 185), (0, 2, 0, 18, 1, 186), (20, 3, 5, 22, 1, 187), (0, 4, 0, 25, 1, 188)]
theorem ct_ok7 : ctOk 7 prog_10_method_1_code its7 3 183 182 181 = true := by decide +kernel
