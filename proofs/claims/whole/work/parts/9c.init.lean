/-! CONSTRUCTORS of SmellMapModel and of SmellMap (made by gen/init.py) -/
def Bk0 (cA : Nat → ClassId) (ad : Nat → Nat) (q : Nat) : va_W := (q, .inr (0, runF q cA ad its0 (dfl 0) [])) :: runW q cA its0 []
theorem Bk0_len (cA : Nat → ClassId) (ad : Nat → Nat) (q : Nat) : (Bk0 cA ad q).length = 5 := (rfl)
theorem cnt0 : cntI its0 = 4 ∧ sltI its0 = 187 := by decide +kernel
def Bk1 (cA : Nat → ClassId) (ad : Nat → Nat) (q : Nat) : va_W := (q, .inr (1, runF q cA ad its1 (dfl 1) [])) :: runW q cA its1 []
theorem Bk1_len (cA : Nat → ClassId) (ad : Nat → Nat) (q : Nat) : (Bk1 cA ad q).length = 5 := (rfl)
theorem cnt1 : cntI its1 = 4 ∧ sltI its1 = 4304 := by decide +kernel
def Bk2 (cA : Nat → ClassId) (ad : Nat → Nat) (q : Nat) : va_W := (q, .inr (2, runF q cA ad its2 (dfl 2) [])) :: runW q cA its2 []
theorem Bk2_len (cA : Nat → ClassId) (ad : Nat → Nat) (q : Nat) : (Bk2 cA ad q).length = 7 := (rfl)
theorem cnt2 : cntI its2 = 6 ∧ sltI its2 = 577 := by decide +kernel
def Bk3 (cA : Nat → ClassId) (ad : Nat → Nat) (q : Nat) : va_W := (q, .inr (3, runF q cA ad its3 (dfl 3) [])) :: runW q cA its3 []
theorem Bk3_len (cA : Nat → ClassId) (ad : Nat → Nat) (q : Nat) : (Bk3 cA ad q).length = 3 := (rfl)
theorem cnt3 : cntI its3 = 2 ∧ sltI its3 = 178 := by decide +kernel
def Bk4 (cA : Nat → ClassId) (ad : Nat → Nat) (q : Nat) : va_W := (q, .inr (4, runF q cA ad its4 (dfl 4) [])) :: runW q cA its4 []
theorem Bk4_len (cA : Nat → ClassId) (ad : Nat → Nat) (q : Nat) : (Bk4 cA ad q).length = 6 := (rfl)
theorem cnt4 : cntI its4 = 5 ∧ sltI its4 = 79 := by decide +kernel
def Bk5 (cA : Nat → ClassId) (ad : Nat → Nat) (q : Nat) : va_W := (q, .inr (5, runF q cA ad its5 (dfl 5) [])) :: runW q cA its5 []
theorem Bk5_len (cA : Nat → ClassId) (ad : Nat → Nat) (q : Nat) : (Bk5 cA ad q).length = 2 := (rfl)
theorem cnt5 : cntI its5 = 1 ∧ sltI its5 = 160 := by decide +kernel
def Bk6 (cA : Nat → ClassId) (ad : Nat → Nat) (q : Nat) : va_W := (q, .inr (6, runF q cA ad its6 (dfl 6) [])) :: runW q cA its6 []
theorem Bk6_len (cA : Nat → ClassId) (ad : Nat → Nat) (q : Nat) : (Bk6 cA ad q).length = 3 := (rfl)
theorem cnt6 : cntI its6 = 2 ∧ sltI its6 = 24 := by decide +kernel
def Bk7 (cA : Nat → ClassId) (ad : Nat → Nat) (q : Nat) : va_W := (q, .inr (7, runF q cA ad its7 (dfl 7) [])) :: runW q cA its7 []
theorem Bk7_len (cA : Nat → ClassId) (ad : Nat → Nat) (q : Nat) : (Bk7 cA ad q).length = 4 := (rfl)
theorem cnt7 : cntI its7 = 3 ∧ sltI its7 = 210 := by decide +kernel
def its9a : List It := [(21, 1, 160, 9, 3, 1161), (21, 2, 640, 13, 3, 1162), (20, 3, 4, 16, 1, 1163), (20, 4, 128, 20, 3, 1164)]
def its9b : List It := [(30, 15, 26, 28, 1010, 1175), (30, 16, 32, 34, 1011, 1176), (22, 18, 20, 37, 2, 1178), (22, 19, 20, 41, 2, 1179), (20, 20, 4, 44, 1, 1180), (20, 21, 36, 47, 2, 1181), (20, 22, 36, 50, 2, 1182), (20, 23, 1, 53, 1, 1183), (20, 30, 5, 56, 1, 1190), (20, 31, 2, 59, 1, 1191), (0, 32, -1, 62, 1, 1192), (20, 34, 200, 66, 3, 1194), (20, 36, 20, 69, 2, 1196), (20, 37, 100, 72, 2, 1197), (20, 38, 20, 75, 2, 1198), (20, 39, 20, 78, 2, 1199), (20, 40, 12, 81, 2, 1200), (20, 41, 12, 84, 2, 1201), (20, 45, 20, 87, 2, 1205), (20, 46, 4096, 90, 3, 1206), (20, 47, 4096, 93, 3, 1207), (20, 48, 4096, 96, 3, 1208), (20, 49, 12, 99, 2, 1209), (20, 50, 12, 102, 2, 1210), (20, 51, 12, 105, 2, 1211), (20, 52, 31, 108, 2, 1212), (20, 53, 31, 111, 2, 1213), (22, 54, 12, 114, 2, 1214), (20, 56, 5, 117, 1, 1216)]
theorem ok9a : okIts prog_12_method_1_code 9 4 its9a = true ∧ endI 4 its9a = 38 ∧ okIts prog_12_method_1_code 9 46 its9b = true ∧ endI 46 its9b = 270 ∧ cntI its9a + cntI its9b = 30 ∧ sltI its9a + sltI its9b = 13863 := by decide +kernel
section CT
variable {D : va_G} {cA : Nat → ClassId} {ad : Nat → Nat}
def F9a (cA : Nat → ClassId) (ad : Nat → Nat) (z : Nat) : List Value := (runF z cA ad its9a (dfl 9) []).set 5 (.ref (z + 1))
def W9a (cA : Nat → ClassId) (z : Nat) : va_W := runW z cA its9a []
def Bk9 (cA : Nat → ClassId) (ad : Nat → Nat) (z : Nat) : va_W := (z, .inr (9, runF z cA ad its9b (F9a cA ad z) (W9a cA z))) :: runW z cA its9b (W9a cA z)
def rm9 : Room := { frames := 2, cells := 30, slots := 13863, locals := 40 }
set_option maxRecDepth 100000 in
theorem ct_9 (l : Launch) (z : Nat) : Met l (yI 9) (Cond.code (yI 9) prog_12_method_1_code 1 none :: gT) rm9 (PCt D cA ad 9 z) (QCt D z (Bk9 cA ad z)) 30 13863 (CA z) := by
  refine Met.ofW (cc := prog_12_method_1_code) (maxL := 1) (ret := none) (by decide) rfl ?_
  intro p e s m args below meth c s₁ B hml hv
  obtain ⟨rfl, hC, hK, hT⟩ := hv
  have hx := B.exec
  have hb := B.bytes
  have hr := B.returns
  have hts : ∀ w ∈ gT, w.before (List.toArray [.ref z]) s = true := fun w hw => atoms_spec (ws := Cond.code (yI 9) prog_12_method_1_code 1 none :: gT) B.pre w (List.mem_cons_of_mem _ hw)
  have hown : s.vm.findClass (cnm 9) = some m.cls := findClass_of_methodNamed B.named
  have hlocks := B.notSynchronized
  have hin : meth.name = "<init>" := (name_of_methodNamed B.named B.method).1
  have hsz : s.heap.size = z + 1 := hC.2.2
  have hS : va_S (CA z) s.heap s.heap [] := va_S.rf
  have hl := lv_entry ([.ref z]) (n := 1) (Nat.le_of_ble_eq_true rfl)
  rw [lg_entry_eq]
  generalize (lg_sl ([.ref z]) ++ List.replicate (1 - (lg_sl ([.ref z])).length) Slot.unset).toArray = ls at hl ⊢
  have hl : lv_has ls 1 [(0, .ref z)] := hl
  obtain ⟨k1, k2, k3, k4, k5, k6⟩ := ok9a
  refine lv_aload_n hx hb (show decode prog_12_method_1_code 0 = .ok (.aload_n 0, 1) by decide +kernel) rfl (lv_at hl 0 rfl) ?_
  refine W.objInit hx hb hown (hts (.methodLink "SmellMapModel" 1 objectInit) (inG_mem (p := 1157) (by decide +kernel))) (hts _ (inG_mem obj_w.1)) (hts _ (inG_mem obj_w.2)) rfl (by rw [hml]; exact hl.1) rfl (show decode prog_12_method_1_code 1 = .ok (.invokespecial 1, 3) by decide +kernel) (Nat.le_of_ble_eq_true rfl) (Nat.le_of_ble_eq_true rfl) ?_
  refine W.eq (g2 := F0 m 4 ls []) rfl ?_
  refine ct_run hx hb (by decide) hts hown hin hK hT hl (by omega) its9a 4 (dfl 9) [] 0 0 s.heap [] k1 (dfl_len 9) hC hS (by rw [Nat.zero_add]; show _ ≤ 30; omega) (by rw [Nat.zero_add]; show _ ≤ 13863; omega) (fun H1 locs1 hC1 hS1 => ?_)
  rw [k2, Nat.zero_add, Nat.zero_add]
  refine lv_aload_n hx hb (show decode prog_12_method_1_code 38 = .ok (.aload_n 0, 1) by decide +kernel) rfl (lv_at hl 0 rfl) ?_
  refine lv_aload_n hx hb (show decode prog_12_method_1_code 39 = .ok (.aload_n 0, 1) by decide +kernel) rfl (lv_at hl 0 rfl) ?_
  refine va_get (D := D) (ci := 9) (v := .ref (z + 1)) (C := cnm 9) (T := fTT 9) (N := nfF 9) hx hb hts (fW_at (by decide)) hown hK hC1.1 0 rfl (cl10_at (by decide)) 1 (by decide) (hts (.fieldLink "SmellMapModel" 9 "SmellMapModel" "tape" "[B") (inG_mem (p := 1161) (by decide +kernel))) (fun _ h => h) rfl (show decode prog_12_method_1_code 40 = .ok (.getfield 9, 3) by decide +kernel) ?_
  refine cn_put hx hb (by decide) hts hown hK hC1 hS1 0 rfl 5 (by decide) (hts (.fieldLink "SmellMapModel" 23 "SmellMapModel" "text" "[B") (inG_mem (p := 1165) (by decide +kernel))) rfl rfl (nar_ref rfl _).1 (nar_ref rfl _).2 rfl (show decode prog_12_method_1_code 43 = .ok (.putfield 23, 3) by decide +kernel) (fun H2 locs2 hC2 hS2 => ?_)
  refine ct_run hx hb (by decide) hts hown hin hK hT hl (by omega) its9b 46 (F9a cA ad z) (W9a cA z) _ _ H2 locs2 k3 rfl hC2 hS2 (by show _ ≤ 30; omega) (by show _ ≤ 13863; omega) (fun H3 locs3 hC3 hS3 => ?_)
  rw [k4, k5, k6]
  exact W.vret hx hb hr (fun t ht hW => ⟨⟨(), rfl, trivial, by show CN D z _ t.heap; rw [ht]; exact hC3⟩, hS3.F ht⟩) hS3.2.2 (show decode prog_12_method_1_code 270 = .ok (.return_, 1) by decide +kernel) hlocks
theorem g_ini9 : Cond.code (yI 9) prog_12_method_1_code 1 none ∈ gT := inG_mem (p := 1156) (by decide +kernel)
theorem g_ini8 : Cond.code (yI 8) prog_1_method_1_code 2 none ∈ gT := inG_mem (p := 112) (by decide +kernel)
def nestI : List (Nat × Nat) := [(9, 5), (18, 2), (41, 7), (48, 0), (55, 6), (62, 4), (69, 1), (74, 3)]
def Pq8 (D : va_G) (cA : Nat → ClassId) (ad : Nat → Nat) (z : Nat) (U : State) : Prop := CN D z [(z, .inr (8, dfl 8))] U.heap ∧ va_K D cl10 (tyL cA) U ∧ (∀ x ∈ txL, vk_R "SmellMapModel" x.1 x.2.1 (ad x.2.2) U) ∧ (∀ x ∈ nestI, va_Nw (.methodLinkNest "SmellMap" x.1 (yI x.2) "SmellMap") U) ∧ va_AO "SmellMap$Law" U
theorem Pq8_blind {z : Nat} : FrameBlind (va_Pc [.ref z] (Pq8 D cA ad z)) := by
  intro a U gf mk q
  obtain ⟨q0, q1, q2, q3, q4, q5⟩ := q
  exact ⟨q0, q1, va_K.moved (u := U) (U := U.calling gf mk a) (Vm.Alike.refl U.vm) q2, fun x hx => vk_R.same (u := U) (U := U.calling gf mk a) rfl (q3 x hx), fun x hx => va_Nw.same rfl (U := U.calling gf mk a) (u := U) rfl (q4 x hx), q5⟩
def lwF (z : Nat) : Nat → Nat → Option Nat
  | 0 => fun _ => none
  | i + 1 => va_up (lwF z i) i (some (z + 41 + 3 * i))
def lwL (cA : Nat → ClassId) (ad : Nat → Nat) (z : Nat) : Nat → va_W
  | 0 => []
  | i + 1 => lwL cA ad z i ++ Bk3 cA ad (z + 41 + 3 * i)
theorem lwL_s (z i : Nat) : lwL cA ad z (i + 1) = lwL cA ad z i ++ Bk3 cA ad (z + 41 + 3 * i) := (rfl)
theorem lwL_len (z : Nat) : ∀ i, (lwL cA ad z i).length = 3 * i
  | 0 => rfl
  | i + 1 => by
    rw [lwL, List.length_append, Bk3_len, lwL_len z i]
    omega
theorem at_mid {α : Type} {A C : List α} {x : α} {n : Nat} (h : A.length = n) : (A ++ x :: C)[n]? = some x := by
  subst h; simp
theorem set_midL {α : Type} {A C : List α} {x y : α} {n : Nat} (h : A.length = n) : (A ++ x :: C).set n y = A ++ y :: C := by
  subst h; simp
def rm8 : Room := { frames := 4, cells := 55, slots := 7109, locals := 100 }
def F8 (z : Nat) : List Value := (((((((((((dfl 8).set 0 (.ref (z + 1))).set 1 (.ref (z + 3))).set 2 (.ref (z + 10))).set 3 (.ref (z + 17))).set 4 (.int 0)).set 5 (.int (-1))).set 6 (.ref (z + 18))).set 7 (.ref (z + 22))).set 8 (.ref (z + 27))).set 9 (.ref (z + 30))).set 10 (.ref (z + 36))
def A8 (cA : Nat → ClassId) (ad : Nat → Nat) (z : Nat) : va_W := (z, .inr (8, F8 z)) :: (Bk5 cA ad (z + 1) ++ (Bk2 cA ad (z + 3) ++ Bk2 cA ad (z + 10)))
theorem A8_len (z : Nat) : (A8 cA ad z).length = 17 := (rfl)
def C8 (cA : Nat → ClassId) (ad : Nat → Nat) (z : Nat) : va_W := Bk7 cA ad (z + 18) ++ (Bk0 cA ad (z + 22) ++ (Bk6 cA ad (z + 27) ++ (Bk4 cA ad (z + 30) ++ Bk1 cA ad (z + 36))))
theorem C8_len (z : Nat) : (C8 cA ad z).length = 23 := (rfl)
def Bk8 (cA : Nat → ClassId) (ad : Nat → Nat) (z i : Nat) : va_W := A8 cA ad z ++ (z + 17, .inl (cA 24, 5, .inr (.inr (.inr (.inr (lwF z i)))))) :: (C8 cA ad z ++ lwL cA ad z i)
theorem Bk8_len (z i : Nat) : (Bk8 cA ad z i).length = 41 + 3 * i := by
  unfold Bk8
  rw [List.length_append, List.length_cons, List.length_append, A8_len, C8_len, lwL_len]
  omega
theorem lw_ge : ∀ i, i < 5 → ¬ (5 : Int32) ≤ Int32.ofNat i := by decide
theorem lw_in1 : ∀ i, i < 5 → ¬ (Int32.ofNat i < 0 ∨ 5 ≤ (Int32.ofNat i).toNatClampNeg) := by decide
theorem lw_in (i : Nat) (h : i < 5) : vp_in (Int32.ofNat i) 5 := lw_in1 i h
theorem lw_cl : ∀ i, i < 5 → (Int32.ofNat i).toNatClampNeg = i := by decide
set_option maxRecDepth 100000 in
set_option maxHeartbeats 4000000 in
theorem ct_8 (l : Launch) (z : Nat) : Met l (yI 8) (Cond.code (yI 8) prog_1_method_1_code 2 none :: gT) rm8 (va_Pc [.ref z] (Pq8 D cA ad z)) (QCt D z (Bk8 cA ad z 5)) 55 7109 (CA z) := by
  refine Met.ofW (cc := prog_1_method_1_code) (maxL := 2) (ret := none) (by decide) rfl ?_
  intro p e s m args below meth c s₁ B hml hv
  obtain ⟨rfl, hC, hK, hT, hNe, hAO⟩ := hv
  have hx := B.exec
  have hb := B.bytes
  have hr := B.returns
  have hts : ∀ w ∈ gT, w.before (List.toArray [.ref z]) s = true := fun w hw => atoms_spec (ws := Cond.code (yI 8) prog_1_method_1_code 2 none :: gT) B.pre w (List.mem_cons_of_mem _ hw)
  have hown : s.vm.findClass (cnm 8) = some m.cls := findClass_of_methodNamed B.named
  have hlocks := B.notSynchronized
  have hin : meth.name = "<init>" := (name_of_methodNamed B.named B.method).1
  have hS : va_S (CA z) s.heap s.heap [] := va_S.rf
  have hl := lv_entry ([.ref z]) (n := 2) (Nat.le_of_ble_eq_true rfl)
  rw [lg_entry_eq]
  generalize (lg_sl ([.ref z]) ++ List.replicate (2 - (lg_sl ([.ref z])).length) Slot.unset).toArray = ls at hl ⊢
  have hl : lv_has ls 2 [(0, .ref z)] := hl
  refine lv_aload_n hx hb (show decode prog_1_method_1_code 0 = .ok (.aload_n 0, 1) by decide +kernel) rfl (lv_at hl 0 rfl) ?_
  refine W.objInit hx hb hown (hts (.methodLink "SmellMap" 1 objectInit) (inG_mem (p := 113) (by decide +kernel))) (hts _ (inG_mem obj_w.1)) (hts _ (inG_mem obj_w.2)) rfl (by rw [hml]; exact hl.1) rfl (show decode prog_1_method_1_code 1 = .ok (.invokespecial 1, 3) by decide +kernel) (Nat.le_of_ble_eq_true rfl) (Nat.le_of_ble_eq_true rfl) ?_
  refine W.eq (g2 := F0 m 4 ls []) rfl ?_
  have hw0 : ([] : va_W).length = 0 := rfl
  refine lv_aload_n hx hb (show decode prog_1_method_1_code 4 = .ok (.aload_n 0, 1) by decide +kernel) rfl (lv_at hl 0 rfl) ?_
  refine ct_callN (D := D) (cA := cA) (ad := ad) (W1 := Bk5 cA ad) hx hb hml hl.1 (by decide) hts hown (hts (.classLink "SmellMap" 7 (cnm 5)) (inG_mem (p := 116) (by decide +kernel))) (inG_mem (p := 117) (by decide +kernel)) (inG_mem (p := 86) (by decide +kernel)) (hNe (9, 5) (by decide)) (inG_mem (p := 119) (by decide +kernel)) (inG_mem (p := 120) (by decide +kernel)) (ct_met l ct_ok5) (by decide +kernel) ⟨by decide, by decide⟩ rfl rfl hK hT hC hS (by rw [cnt5.1]; exact Nat.le_of_ble_eq_true rfl) (by rw [cnt5.2]; exact Nat.le_of_ble_eq_true rfl) (Nat.le_of_ble_eq_true rfl) (show decode prog_1_method_1_code 5 = .ok (.new 7, 3) by decide +kernel) (show decode prog_1_method_1_code 8 = .ok (.dup, 1) by decide +kernel) (show decode prog_1_method_1_code 9 = .ok (.invokespecial 9, 3) by decide +kernel) (fun H locs hC hS => ?_)
  rw [cnt5.1, cnt5.2]
  rw [show z + ((z, (.inr (8, dfl 8) : va_E)) :: ([] : va_W)).length = z + 1 by rw [List.length_cons, hw0]] at hC ⊢
  have hC : CN D z ((z, .inr (8, dfl 8)) :: (([] : va_W) ++ Bk5 cA ad (z + 1))) H := hC
  refine cn_putF (ci := 8) hx hb (by decide) hts hown hK hC hS 0 rfl 0 (by decide) (hts (.fieldLink "SmellMap" 10 "SmellMap" "tape" "LSmellMap$Tape;") (inG_mem (p := 333) (by decide +kernel))) rfl hin rfl (nar_ref rfl _).1 (nar_ref rfl _).2 (by simp only [List.length_set, dfl_len]) (show decode prog_1_method_1_code 12 = .ok (.putfield 10, 3) by decide +kernel) (fun H locs hC hS => ?_)
  have hC : CN D z ((z, .inr (8, (dfl 8).set 0 (.ref (z + 1)))) :: (([] : va_W) ++ Bk5 cA ad (z + 1))) H := hC
  have hw1 : (([] : va_W) ++ Bk5 cA ad (z + 1)).length = 2 := by rw [List.length_append, hw0, Bk5_len]
  refine lv_aload_n hx hb (show decode prog_1_method_1_code 15 = .ok (.aload_n 0, 1) by decide +kernel) rfl (lv_at hl 0 rfl) ?_
  refine ct_callN (D := D) (cA := cA) (ad := ad) (W1 := Bk2 cA ad) hx hb hml hl.1 (by decide) hts hown (hts (.classLink "SmellMap" 16 (cnm 2)) (inG_mem (p := 136) (by decide +kernel))) (inG_mem (p := 137) (by decide +kernel)) (inG_mem (p := 87) (by decide +kernel)) (hNe (18, 2) (by decide)) (inG_mem (p := 139) (by decide +kernel)) (inG_mem (p := 140) (by decide +kernel)) (ct_met l ct_ok2) (by decide +kernel) ⟨by decide, by decide⟩ rfl rfl hK hT hC hS (by rw [cnt2.1]; exact Nat.le_of_ble_eq_true rfl) (by rw [cnt2.2]; exact Nat.le_of_ble_eq_true rfl) (Nat.le_of_ble_eq_true rfl) (show decode prog_1_method_1_code 16 = .ok (.new 16, 3) by decide +kernel) (show decode prog_1_method_1_code 19 = .ok (.dup, 1) by decide +kernel) (show decode prog_1_method_1_code 20 = .ok (.invokespecial 18, 3) by decide +kernel) (fun H locs hC hS => ?_)
  rw [cnt2.1, cnt2.2]
  rw [show z + ((z, (.inr (8, (dfl 8).set 0 (.ref (z + 1))) : va_E)) :: (([] : va_W) ++ Bk5 cA ad (z + 1))).length = z + 3 by rw [List.length_cons, hw1]] at hC ⊢
  have hC : CN D z ((z, .inr (8, (dfl 8).set 0 (.ref (z + 1)))) :: ((([] : va_W) ++ Bk5 cA ad (z + 1)) ++ Bk2 cA ad (z + 3))) H := hC
  refine cn_put (ci := 8) hx hb (by decide) hts hown hK hC hS 0 rfl 1 (by decide) (hts (.fieldLink "SmellMap" 19 "SmellMap" "city" "LSmellMap$City;") (inG_mem (p := 334) (by decide +kernel))) rfl rfl (nar_ref rfl _).1 (nar_ref rfl _).2 (by simp only [List.length_set, dfl_len]) (show decode prog_1_method_1_code 23 = .ok (.putfield 19, 3) by decide +kernel) (fun H locs hC hS => ?_)
  have hC : CN D z ((z, .inr (8, ((dfl 8).set 0 (.ref (z + 1))).set 1 (.ref (z + 3)))) :: ((([] : va_W) ++ Bk5 cA ad (z + 1)) ++ Bk2 cA ad (z + 3))) H := hC
  have hw2 : ((([] : va_W) ++ Bk5 cA ad (z + 1)) ++ Bk2 cA ad (z + 3)).length = 9 := by rw [List.length_append, hw1, Bk2_len]
  refine lv_aload_n hx hb (show decode prog_1_method_1_code 26 = .ok (.aload_n 0, 1) by decide +kernel) rfl (lv_at hl 0 rfl) ?_
  refine ct_callN (D := D) (cA := cA) (ad := ad) (W1 := Bk2 cA ad) hx hb hml hl.1 (by decide) hts hown (hts (.classLink "SmellMap" 16 (cnm 2)) (inG_mem (p := 136) (by decide +kernel))) (inG_mem (p := 137) (by decide +kernel)) (inG_mem (p := 87) (by decide +kernel)) (hNe (18, 2) (by decide)) (inG_mem (p := 139) (by decide +kernel)) (inG_mem (p := 140) (by decide +kernel)) (ct_met l ct_ok2) (by decide +kernel) ⟨by decide, by decide⟩ rfl rfl hK hT hC hS (by rw [cnt2.1]; exact Nat.le_of_ble_eq_true rfl) (by rw [cnt2.2]; exact Nat.le_of_ble_eq_true rfl) (Nat.le_of_ble_eq_true rfl) (show decode prog_1_method_1_code 27 = .ok (.new 16, 3) by decide +kernel) (show decode prog_1_method_1_code 30 = .ok (.dup, 1) by decide +kernel) (show decode prog_1_method_1_code 31 = .ok (.invokespecial 18, 3) by decide +kernel) (fun H locs hC hS => ?_)
  rw [cnt2.1, cnt2.2]
  rw [show z + ((z, (.inr (8, ((dfl 8).set 0 (.ref (z + 1))).set 1 (.ref (z + 3))) : va_E)) :: ((([] : va_W) ++ Bk5 cA ad (z + 1)) ++ Bk2 cA ad (z + 3))).length = z + 10 by rw [List.length_cons, hw2]] at hC ⊢
  have hC : CN D z ((z, .inr (8, ((dfl 8).set 0 (.ref (z + 1))).set 1 (.ref (z + 3)))) :: (((([] : va_W) ++ Bk5 cA ad (z + 1)) ++ Bk2 cA ad (z + 3)) ++ Bk2 cA ad (z + 10))) H := hC
  refine cn_put (ci := 8) hx hb (by decide) hts hown hK hC hS 0 rfl 2 (by decide) (hts (.fieldLink "SmellMap" 23 "SmellMap" "draft" "LSmellMap$City;") (inG_mem (p := 335) (by decide +kernel))) rfl rfl (nar_ref rfl _).1 (nar_ref rfl _).2 (by simp only [List.length_set, dfl_len]) (show decode prog_1_method_1_code 34 = .ok (.putfield 23, 3) by decide +kernel) (fun H locs hC hS => ?_)
  have hC : CN D z ((z, .inr (8, (((dfl 8).set 0 (.ref (z + 1))).set 1 (.ref (z + 3))).set 2 (.ref (z + 10)))) :: (((([] : va_W) ++ Bk5 cA ad (z + 1)) ++ Bk2 cA ad (z + 3)) ++ Bk2 cA ad (z + 10))) H := hC
  have hw3 : (((([] : va_W) ++ Bk5 cA ad (z + 1)) ++ Bk2 cA ad (z + 3)) ++ Bk2 cA ad (z + 10)).length = 16 := by rw [List.length_append, hw2, Bk2_len]
  refine lv_aload_n hx hb (show decode prog_1_method_1_code 37 = .ok (.aload_n 0, 1) by decide +kernel) rfl (lv_at hl 0 rfl) ?_
  refine lv_iconst (v := 5) hx hb (show decode prog_1_method_1_code 38 = .ok (.iconst 5, 1) by decide +kernel) (by decide) ?_
  refine cn_newq (kd := 24) (t0 := 4) (C := "SmellMap$Law") (N' := 5) hx hb hown (hts (.classLink "SmellMap" 26 "SmellMap$Law") (inG_mem (p := 176) (by decide +kernel))) hAO hK hC hS rfl (by decide) (by decide) (Nat.le_of_ble_eq_true rfl) (Nat.le_of_ble_eq_true rfl) (Nat.le_of_ble_eq_true rfl) (show decode prog_1_method_1_code 39 = .ok (.anewarray 26, 3) by decide +kernel) (fun H hC hS => ?_)
  rw [show z + ((z, (.inr (8, (((dfl 8).set 0 (.ref (z + 1))).set 1 (.ref (z + 3))).set 2 (.ref (z + 10))) : va_E)) :: (((([] : va_W) ++ Bk5 cA ad (z + 1)) ++ Bk2 cA ad (z + 3)) ++ Bk2 cA ad (z + 10))).length = z + 17 by rw [List.length_cons, hw3]] at hC ⊢
  have hC : CN D z ((z, .inr (8, (((dfl 8).set 0 (.ref (z + 1))).set 1 (.ref (z + 3))).set 2 (.ref (z + 10)))) :: ((((([] : va_W) ++ Bk5 cA ad (z + 1)) ++ Bk2 cA ad (z + 3)) ++ Bk2 cA ad (z + 10)) ++ [(z + 17, (.inl (cA 24, 5, .inr (.inr (.inr (.inr (lwF z 0))))) : va_E))])) H := hC
  refine cn_putF (ci := 8) hx hb (by decide) hts hown hK hC hS 0 rfl 3 (by decide) (hts (.fieldLink "SmellMap" 28 "SmellMap" "laws" "[LSmellMap$Law;") (inG_mem (p := 336) (by decide +kernel))) rfl hin rfl (nar_ref rfl _).1 (nar_ref rfl _).2 (by simp only [List.length_set, dfl_len]) (show decode prog_1_method_1_code 42 = .ok (.putfield 28, 3) by decide +kernel) (fun H locs hC hS => ?_)
  have hC : CN D z ((z, .inr (8, ((((dfl 8).set 0 (.ref (z + 1))).set 1 (.ref (z + 3))).set 2 (.ref (z + 10))).set 3 (.ref (z + 17)))) :: ((((([] : va_W) ++ Bk5 cA ad (z + 1)) ++ Bk2 cA ad (z + 3)) ++ Bk2 cA ad (z + 10)) ++ [(z + 17, (.inl (cA 24, 5, .inr (.inr (.inr (.inr (lwF z 0))))) : va_E))])) H := hC
  have hw4 : ((((([] : va_W) ++ Bk5 cA ad (z + 1)) ++ Bk2 cA ad (z + 3)) ++ Bk2 cA ad (z + 10)) ++ [(z + 17, (.inl (cA 24, 5, .inr (.inr (.inr (.inr (lwF z 0))))) : va_E))]).length = 17 := by rw [List.length_append, hw3]; rfl
  refine lv_aload_n hx hb (show decode prog_1_method_1_code 45 = .ok (.aload_n 0, 1) by decide +kernel) rfl (lv_at hl 0 rfl) ?_
  refine lv_iconst (v := 0) hx hb (show decode prog_1_method_1_code 46 = .ok (.iconst 0, 1) by decide +kernel) (by decide) ?_
  refine cn_put (ci := 8) hx hb (by decide) hts hown hK hC hS 0 rfl 4 (by decide) (hts (.fieldLink "SmellMap" 32 "SmellMap" "lawCount" "I") (inG_mem (p := 337) (by decide +kernel))) rfl rfl rfl rfl (by simp only [List.length_set, dfl_len]) (show decode prog_1_method_1_code 47 = .ok (.putfield 32, 3) by decide +kernel) (fun H locs hC hS => ?_)
  have hC : CN D z ((z, .inr (8, (((((dfl 8).set 0 (.ref (z + 1))).set 1 (.ref (z + 3))).set 2 (.ref (z + 10))).set 3 (.ref (z + 17))).set 4 (.int 0))) :: ((((([] : va_W) ++ Bk5 cA ad (z + 1)) ++ Bk2 cA ad (z + 3)) ++ Bk2 cA ad (z + 10)) ++ [(z + 17, (.inl (cA 24, 5, .inr (.inr (.inr (.inr (lwF z 0))))) : va_E))])) H := hC
  refine lv_aload_n hx hb (show decode prog_1_method_1_code 50 = .ok (.aload_n 0, 1) by decide +kernel) rfl (lv_at hl 0 rfl) ?_
  refine lv_iconst (v := -1) hx hb (show decode prog_1_method_1_code 51 = .ok (.iconst (-1), 1) by decide +kernel) (by decide) ?_
  refine cn_put (ci := 8) hx hb (by decide) hts hown hK hC hS 0 rfl 5 (by decide) (hts (.fieldLink "SmellMap" 36 "SmellMap" "holding" "I") (inG_mem (p := 338) (by decide +kernel))) rfl rfl rfl rfl (by simp only [List.length_set, dfl_len]) (show decode prog_1_method_1_code 52 = .ok (.putfield 36, 3) by decide +kernel) (fun H locs hC hS => ?_)
  have hC : CN D z ((z, .inr (8, ((((((dfl 8).set 0 (.ref (z + 1))).set 1 (.ref (z + 3))).set 2 (.ref (z + 10))).set 3 (.ref (z + 17))).set 4 (.int 0)).set 5 (.int (-1)))) :: ((((([] : va_W) ++ Bk5 cA ad (z + 1)) ++ Bk2 cA ad (z + 3)) ++ Bk2 cA ad (z + 10)) ++ [(z + 17, (.inl (cA 24, 5, .inr (.inr (.inr (.inr (lwF z 0))))) : va_E))])) H := hC
  refine lv_aload_n hx hb (show decode prog_1_method_1_code 55 = .ok (.aload_n 0, 1) by decide +kernel) rfl (lv_at hl 0 rfl) ?_
  refine ct_callN (D := D) (cA := cA) (ad := ad) (W1 := Bk7 cA ad) hx hb hml hl.1 (by decide) hts hown (hts (.classLink "SmellMap" 39 (cnm 7)) (inG_mem (p := 178) (by decide +kernel))) (inG_mem (p := 179) (by decide +kernel)) (inG_mem (p := 88) (by decide +kernel)) (hNe (41, 7) (by decide)) (inG_mem (p := 181) (by decide +kernel)) (inG_mem (p := 182) (by decide +kernel)) (ct_met l ct_ok7) (by decide +kernel) ⟨by decide, by decide⟩ rfl rfl hK hT hC hS (by rw [cnt7.1]; exact Nat.le_of_ble_eq_true rfl) (by rw [cnt7.2]; exact Nat.le_of_ble_eq_true rfl) (Nat.le_of_ble_eq_true rfl) (show decode prog_1_method_1_code 56 = .ok (.new 39, 3) by decide +kernel) (show decode prog_1_method_1_code 59 = .ok (.dup, 1) by decide +kernel) (show decode prog_1_method_1_code 60 = .ok (.invokespecial 41, 3) by decide +kernel) (fun H locs hC hS => ?_)
  rw [cnt7.1, cnt7.2]
  rw [show z + ((z, (.inr (8, ((((((dfl 8).set 0 (.ref (z + 1))).set 1 (.ref (z + 3))).set 2 (.ref (z + 10))).set 3 (.ref (z + 17))).set 4 (.int 0)).set 5 (.int (-1))) : va_E)) :: ((((([] : va_W) ++ Bk5 cA ad (z + 1)) ++ Bk2 cA ad (z + 3)) ++ Bk2 cA ad (z + 10)) ++ [(z + 17, (.inl (cA 24, 5, .inr (.inr (.inr (.inr (lwF z 0))))) : va_E))])).length = z + 18 by rw [List.length_cons, hw4]] at hC ⊢
  have hC : CN D z ((z, .inr (8, ((((((dfl 8).set 0 (.ref (z + 1))).set 1 (.ref (z + 3))).set 2 (.ref (z + 10))).set 3 (.ref (z + 17))).set 4 (.int 0)).set 5 (.int (-1)))) :: (((((([] : va_W) ++ Bk5 cA ad (z + 1)) ++ Bk2 cA ad (z + 3)) ++ Bk2 cA ad (z + 10)) ++ [(z + 17, (.inl (cA 24, 5, .inr (.inr (.inr (.inr (lwF z 0))))) : va_E))]) ++ Bk7 cA ad (z + 18))) H := hC
  refine cn_putF (ci := 8) hx hb (by decide) hts hown hK hC hS 0 rfl 6 (by decide) (hts (.fieldLink "SmellMap" 42 "SmellMap" "weather" "LSmellMap$Weather;") (inG_mem (p := 339) (by decide +kernel))) rfl hin rfl (nar_ref rfl _).1 (nar_ref rfl _).2 (by simp only [List.length_set, dfl_len]) (show decode prog_1_method_1_code 63 = .ok (.putfield 42, 3) by decide +kernel) (fun H locs hC hS => ?_)
  have hC : CN D z ((z, .inr (8, (((((((dfl 8).set 0 (.ref (z + 1))).set 1 (.ref (z + 3))).set 2 (.ref (z + 10))).set 3 (.ref (z + 17))).set 4 (.int 0)).set 5 (.int (-1))).set 6 (.ref (z + 18)))) :: (((((([] : va_W) ++ Bk5 cA ad (z + 1)) ++ Bk2 cA ad (z + 3)) ++ Bk2 cA ad (z + 10)) ++ [(z + 17, (.inl (cA 24, 5, .inr (.inr (.inr (.inr (lwF z 0))))) : va_E))]) ++ Bk7 cA ad (z + 18))) H := hC
  have hw5 : (((((([] : va_W) ++ Bk5 cA ad (z + 1)) ++ Bk2 cA ad (z + 3)) ++ Bk2 cA ad (z + 10)) ++ [(z + 17, (.inl (cA 24, 5, .inr (.inr (.inr (.inr (lwF z 0))))) : va_E))]) ++ Bk7 cA ad (z + 18)).length = 21 := by rw [List.length_append, hw4, Bk7_len]
  refine lv_aload_n hx hb (show decode prog_1_method_1_code 66 = .ok (.aload_n 0, 1) by decide +kernel) rfl (lv_at hl 0 rfl) ?_
  refine ct_callN (D := D) (cA := cA) (ad := ad) (W1 := Bk0 cA ad) hx hb hml hl.1 (by decide) hts hown (hts (.classLink "SmellMap" 46 (cnm 0)) (inG_mem (p := 200) (by decide +kernel))) (inG_mem (p := 201) (by decide +kernel)) (inG_mem (p := 89) (by decide +kernel)) (hNe (48, 0) (by decide)) (inG_mem (p := 203) (by decide +kernel)) (inG_mem (p := 204) (by decide +kernel)) (ct_met l ct_ok0) (by decide +kernel) ⟨by decide, by decide⟩ rfl rfl hK hT hC hS (by rw [cnt0.1]; exact Nat.le_of_ble_eq_true rfl) (by rw [cnt0.2]; exact Nat.le_of_ble_eq_true rfl) (Nat.le_of_ble_eq_true rfl) (show decode prog_1_method_1_code 67 = .ok (.new 46, 3) by decide +kernel) (show decode prog_1_method_1_code 70 = .ok (.dup, 1) by decide +kernel) (show decode prog_1_method_1_code 71 = .ok (.invokespecial 48, 3) by decide +kernel) (fun H locs hC hS => ?_)
  rw [cnt0.1, cnt0.2]
  rw [show z + ((z, (.inr (8, (((((((dfl 8).set 0 (.ref (z + 1))).set 1 (.ref (z + 3))).set 2 (.ref (z + 10))).set 3 (.ref (z + 17))).set 4 (.int 0)).set 5 (.int (-1))).set 6 (.ref (z + 18))) : va_E)) :: (((((([] : va_W) ++ Bk5 cA ad (z + 1)) ++ Bk2 cA ad (z + 3)) ++ Bk2 cA ad (z + 10)) ++ [(z + 17, (.inl (cA 24, 5, .inr (.inr (.inr (.inr (lwF z 0))))) : va_E))]) ++ Bk7 cA ad (z + 18))).length = z + 22 by rw [List.length_cons, hw5]] at hC ⊢
  have hC : CN D z ((z, .inr (8, (((((((dfl 8).set 0 (.ref (z + 1))).set 1 (.ref (z + 3))).set 2 (.ref (z + 10))).set 3 (.ref (z + 17))).set 4 (.int 0)).set 5 (.int (-1))).set 6 (.ref (z + 18)))) :: ((((((([] : va_W) ++ Bk5 cA ad (z + 1)) ++ Bk2 cA ad (z + 3)) ++ Bk2 cA ad (z + 10)) ++ [(z + 17, (.inl (cA 24, 5, .inr (.inr (.inr (.inr (lwF z 0))))) : va_E))]) ++ Bk7 cA ad (z + 18)) ++ Bk0 cA ad (z + 22))) H := hC
  refine cn_putF (ci := 8) hx hb (by decide) hts hown hK hC hS 0 rfl 7 (by decide) (hts (.fieldLink "SmellMap" 49 "SmellMap" "air" "LSmellMap$Air;") (inG_mem (p := 340) (by decide +kernel))) rfl hin rfl (nar_ref rfl _).1 (nar_ref rfl _).2 (by simp only [List.length_set, dfl_len]) (show decode prog_1_method_1_code 74 = .ok (.putfield 49, 3) by decide +kernel) (fun H locs hC hS => ?_)
  have hC : CN D z ((z, .inr (8, ((((((((dfl 8).set 0 (.ref (z + 1))).set 1 (.ref (z + 3))).set 2 (.ref (z + 10))).set 3 (.ref (z + 17))).set 4 (.int 0)).set 5 (.int (-1))).set 6 (.ref (z + 18))).set 7 (.ref (z + 22)))) :: ((((((([] : va_W) ++ Bk5 cA ad (z + 1)) ++ Bk2 cA ad (z + 3)) ++ Bk2 cA ad (z + 10)) ++ [(z + 17, (.inl (cA 24, 5, .inr (.inr (.inr (.inr (lwF z 0))))) : va_E))]) ++ Bk7 cA ad (z + 18)) ++ Bk0 cA ad (z + 22))) H := hC
  have hw6 : ((((((([] : va_W) ++ Bk5 cA ad (z + 1)) ++ Bk2 cA ad (z + 3)) ++ Bk2 cA ad (z + 10)) ++ [(z + 17, (.inl (cA 24, 5, .inr (.inr (.inr (.inr (lwF z 0))))) : va_E))]) ++ Bk7 cA ad (z + 18)) ++ Bk0 cA ad (z + 22)).length = 26 := by rw [List.length_append, hw5, Bk0_len]
  refine lv_aload_n hx hb (show decode prog_1_method_1_code 77 = .ok (.aload_n 0, 1) by decide +kernel) rfl (lv_at hl 0 rfl) ?_
  refine ct_callN (D := D) (cA := cA) (ad := ad) (W1 := Bk6 cA ad) hx hb hml hl.1 (by decide) hts hown (hts (.classLink "SmellMap" 53 (cnm 6)) (inG_mem (p := 234) (by decide +kernel))) (inG_mem (p := 235) (by decide +kernel)) (inG_mem (p := 90) (by decide +kernel)) (hNe (55, 6) (by decide)) (inG_mem (p := 237) (by decide +kernel)) (inG_mem (p := 238) (by decide +kernel)) (ct_met l ct_ok6) (by decide +kernel) ⟨by decide, by decide⟩ rfl rfl hK hT hC hS (by rw [cnt6.1]; exact Nat.le_of_ble_eq_true rfl) (by rw [cnt6.2]; exact Nat.le_of_ble_eq_true rfl) (Nat.le_of_ble_eq_true rfl) (show decode prog_1_method_1_code 78 = .ok (.new 53, 3) by decide +kernel) (show decode prog_1_method_1_code 81 = .ok (.dup, 1) by decide +kernel) (show decode prog_1_method_1_code 82 = .ok (.invokespecial 55, 3) by decide +kernel) (fun H locs hC hS => ?_)
  rw [cnt6.1, cnt6.2]
  rw [show z + ((z, (.inr (8, ((((((((dfl 8).set 0 (.ref (z + 1))).set 1 (.ref (z + 3))).set 2 (.ref (z + 10))).set 3 (.ref (z + 17))).set 4 (.int 0)).set 5 (.int (-1))).set 6 (.ref (z + 18))).set 7 (.ref (z + 22))) : va_E)) :: ((((((([] : va_W) ++ Bk5 cA ad (z + 1)) ++ Bk2 cA ad (z + 3)) ++ Bk2 cA ad (z + 10)) ++ [(z + 17, (.inl (cA 24, 5, .inr (.inr (.inr (.inr (lwF z 0))))) : va_E))]) ++ Bk7 cA ad (z + 18)) ++ Bk0 cA ad (z + 22))).length = z + 27 by rw [List.length_cons, hw6]] at hC ⊢
  have hC : CN D z ((z, .inr (8, ((((((((dfl 8).set 0 (.ref (z + 1))).set 1 (.ref (z + 3))).set 2 (.ref (z + 10))).set 3 (.ref (z + 17))).set 4 (.int 0)).set 5 (.int (-1))).set 6 (.ref (z + 18))).set 7 (.ref (z + 22)))) :: (((((((([] : va_W) ++ Bk5 cA ad (z + 1)) ++ Bk2 cA ad (z + 3)) ++ Bk2 cA ad (z + 10)) ++ [(z + 17, (.inl (cA 24, 5, .inr (.inr (.inr (.inr (lwF z 0))))) : va_E))]) ++ Bk7 cA ad (z + 18)) ++ Bk0 cA ad (z + 22)) ++ Bk6 cA ad (z + 27))) H := hC
  refine cn_putF (ci := 8) hx hb (by decide) hts hown hK hC hS 0 rfl 8 (by decide) (hts (.fieldLink "SmellMap" 56 "SmellMap" "steps" "LSmellMap$Trail;") (inG_mem (p := 341) (by decide +kernel))) rfl hin rfl (nar_ref rfl _).1 (nar_ref rfl _).2 (by simp only [List.length_set, dfl_len]) (show decode prog_1_method_1_code 85 = .ok (.putfield 56, 3) by decide +kernel) (fun H locs hC hS => ?_)
  have hC : CN D z ((z, .inr (8, (((((((((dfl 8).set 0 (.ref (z + 1))).set 1 (.ref (z + 3))).set 2 (.ref (z + 10))).set 3 (.ref (z + 17))).set 4 (.int 0)).set 5 (.int (-1))).set 6 (.ref (z + 18))).set 7 (.ref (z + 22))).set 8 (.ref (z + 27)))) :: (((((((([] : va_W) ++ Bk5 cA ad (z + 1)) ++ Bk2 cA ad (z + 3)) ++ Bk2 cA ad (z + 10)) ++ [(z + 17, (.inl (cA 24, 5, .inr (.inr (.inr (.inr (lwF z 0))))) : va_E))]) ++ Bk7 cA ad (z + 18)) ++ Bk0 cA ad (z + 22)) ++ Bk6 cA ad (z + 27))) H := hC
  have hw7 : (((((((([] : va_W) ++ Bk5 cA ad (z + 1)) ++ Bk2 cA ad (z + 3)) ++ Bk2 cA ad (z + 10)) ++ [(z + 17, (.inl (cA 24, 5, .inr (.inr (.inr (.inr (lwF z 0))))) : va_E))]) ++ Bk7 cA ad (z + 18)) ++ Bk0 cA ad (z + 22)) ++ Bk6 cA ad (z + 27)).length = 29 := by rw [List.length_append, hw6, Bk6_len]
  refine lv_aload_n hx hb (show decode prog_1_method_1_code 88 = .ok (.aload_n 0, 1) by decide +kernel) rfl (lv_at hl 0 rfl) ?_
  refine ct_callN (D := D) (cA := cA) (ad := ad) (W1 := Bk4 cA ad) hx hb hml hl.1 (by decide) hts hown (hts (.classLink "SmellMap" 60 (cnm 4)) (inG_mem (p := 250) (by decide +kernel))) (inG_mem (p := 251) (by decide +kernel)) (inG_mem (p := 91) (by decide +kernel)) (hNe (62, 4) (by decide)) (inG_mem (p := 253) (by decide +kernel)) (inG_mem (p := 254) (by decide +kernel)) (ct_met l ct_ok4) (by decide +kernel) ⟨by decide, by decide⟩ rfl rfl hK hT hC hS (by rw [cnt4.1]; exact Nat.le_of_ble_eq_true rfl) (by rw [cnt4.2]; exact Nat.le_of_ble_eq_true rfl) (Nat.le_of_ble_eq_true rfl) (show decode prog_1_method_1_code 89 = .ok (.new 60, 3) by decide +kernel) (show decode prog_1_method_1_code 92 = .ok (.dup, 1) by decide +kernel) (show decode prog_1_method_1_code 93 = .ok (.invokespecial 62, 3) by decide +kernel) (fun H locs hC hS => ?_)
  rw [cnt4.1, cnt4.2]
  rw [show z + ((z, (.inr (8, (((((((((dfl 8).set 0 (.ref (z + 1))).set 1 (.ref (z + 3))).set 2 (.ref (z + 10))).set 3 (.ref (z + 17))).set 4 (.int 0)).set 5 (.int (-1))).set 6 (.ref (z + 18))).set 7 (.ref (z + 22))).set 8 (.ref (z + 27))) : va_E)) :: (((((((([] : va_W) ++ Bk5 cA ad (z + 1)) ++ Bk2 cA ad (z + 3)) ++ Bk2 cA ad (z + 10)) ++ [(z + 17, (.inl (cA 24, 5, .inr (.inr (.inr (.inr (lwF z 0))))) : va_E))]) ++ Bk7 cA ad (z + 18)) ++ Bk0 cA ad (z + 22)) ++ Bk6 cA ad (z + 27))).length = z + 30 by rw [List.length_cons, hw7]] at hC ⊢
  have hC : CN D z ((z, .inr (8, (((((((((dfl 8).set 0 (.ref (z + 1))).set 1 (.ref (z + 3))).set 2 (.ref (z + 10))).set 3 (.ref (z + 17))).set 4 (.int 0)).set 5 (.int (-1))).set 6 (.ref (z + 18))).set 7 (.ref (z + 22))).set 8 (.ref (z + 27)))) :: ((((((((([] : va_W) ++ Bk5 cA ad (z + 1)) ++ Bk2 cA ad (z + 3)) ++ Bk2 cA ad (z + 10)) ++ [(z + 17, (.inl (cA 24, 5, .inr (.inr (.inr (.inr (lwF z 0))))) : va_E))]) ++ Bk7 cA ad (z + 18)) ++ Bk0 cA ad (z + 22)) ++ Bk6 cA ad (z + 27)) ++ Bk4 cA ad (z + 30))) H := hC
  refine cn_putF (ci := 8) hx hb (by decide) hts hown hK hC hS 0 rfl 9 (by decide) (hts (.fieldLink "SmellMap" 63 "SmellMap" "notes" "LSmellMap$Notes;") (inG_mem (p := 342) (by decide +kernel))) rfl hin rfl (nar_ref rfl _).1 (nar_ref rfl _).2 (by simp only [List.length_set, dfl_len]) (show decode prog_1_method_1_code 96 = .ok (.putfield 63, 3) by decide +kernel) (fun H locs hC hS => ?_)
  have hC : CN D z ((z, .inr (8, ((((((((((dfl 8).set 0 (.ref (z + 1))).set 1 (.ref (z + 3))).set 2 (.ref (z + 10))).set 3 (.ref (z + 17))).set 4 (.int 0)).set 5 (.int (-1))).set 6 (.ref (z + 18))).set 7 (.ref (z + 22))).set 8 (.ref (z + 27))).set 9 (.ref (z + 30)))) :: ((((((((([] : va_W) ++ Bk5 cA ad (z + 1)) ++ Bk2 cA ad (z + 3)) ++ Bk2 cA ad (z + 10)) ++ [(z + 17, (.inl (cA 24, 5, .inr (.inr (.inr (.inr (lwF z 0))))) : va_E))]) ++ Bk7 cA ad (z + 18)) ++ Bk0 cA ad (z + 22)) ++ Bk6 cA ad (z + 27)) ++ Bk4 cA ad (z + 30))) H := hC
  have hw8 : ((((((((([] : va_W) ++ Bk5 cA ad (z + 1)) ++ Bk2 cA ad (z + 3)) ++ Bk2 cA ad (z + 10)) ++ [(z + 17, (.inl (cA 24, 5, .inr (.inr (.inr (.inr (lwF z 0))))) : va_E))]) ++ Bk7 cA ad (z + 18)) ++ Bk0 cA ad (z + 22)) ++ Bk6 cA ad (z + 27)) ++ Bk4 cA ad (z + 30)).length = 35 := by rw [List.length_append, hw7, Bk4_len]
  refine lv_aload_n hx hb (show decode prog_1_method_1_code 99 = .ok (.aload_n 0, 1) by decide +kernel) rfl (lv_at hl 0 rfl) ?_
  refine ct_callN (D := D) (cA := cA) (ad := ad) (W1 := Bk1 cA ad) hx hb hml hl.1 (by decide) hts hown (hts (.classLink "SmellMap" 67 (cnm 1)) (inG_mem (p := 275) (by decide +kernel))) (inG_mem (p := 276) (by decide +kernel)) (inG_mem (p := 92) (by decide +kernel)) (hNe (69, 1) (by decide)) (inG_mem (p := 278) (by decide +kernel)) (inG_mem (p := 279) (by decide +kernel)) (ct_met l ct_ok1) (by decide +kernel) ⟨by decide, by decide⟩ rfl rfl hK hT hC hS (by rw [cnt1.1]; exact Nat.le_of_ble_eq_true rfl) (by rw [cnt1.2]; exact Nat.le_of_ble_eq_true rfl) (Nat.le_of_ble_eq_true rfl) (show decode prog_1_method_1_code 100 = .ok (.new 67, 3) by decide +kernel) (show decode prog_1_method_1_code 103 = .ok (.dup, 1) by decide +kernel) (show decode prog_1_method_1_code 104 = .ok (.invokespecial 69, 3) by decide +kernel) (fun H locs hC hS => ?_)
  rw [cnt1.1, cnt1.2]
  rw [show z + ((z, (.inr (8, ((((((((((dfl 8).set 0 (.ref (z + 1))).set 1 (.ref (z + 3))).set 2 (.ref (z + 10))).set 3 (.ref (z + 17))).set 4 (.int 0)).set 5 (.int (-1))).set 6 (.ref (z + 18))).set 7 (.ref (z + 22))).set 8 (.ref (z + 27))).set 9 (.ref (z + 30))) : va_E)) :: ((((((((([] : va_W) ++ Bk5 cA ad (z + 1)) ++ Bk2 cA ad (z + 3)) ++ Bk2 cA ad (z + 10)) ++ [(z + 17, (.inl (cA 24, 5, .inr (.inr (.inr (.inr (lwF z 0))))) : va_E))]) ++ Bk7 cA ad (z + 18)) ++ Bk0 cA ad (z + 22)) ++ Bk6 cA ad (z + 27)) ++ Bk4 cA ad (z + 30))).length = z + 36 by rw [List.length_cons, hw8]] at hC ⊢
  have hC : CN D z ((z, .inr (8, ((((((((((dfl 8).set 0 (.ref (z + 1))).set 1 (.ref (z + 3))).set 2 (.ref (z + 10))).set 3 (.ref (z + 17))).set 4 (.int 0)).set 5 (.int (-1))).set 6 (.ref (z + 18))).set 7 (.ref (z + 22))).set 8 (.ref (z + 27))).set 9 (.ref (z + 30)))) :: (((((((((([] : va_W) ++ Bk5 cA ad (z + 1)) ++ Bk2 cA ad (z + 3)) ++ Bk2 cA ad (z + 10)) ++ [(z + 17, (.inl (cA 24, 5, .inr (.inr (.inr (.inr (lwF z 0))))) : va_E))]) ++ Bk7 cA ad (z + 18)) ++ Bk0 cA ad (z + 22)) ++ Bk6 cA ad (z + 27)) ++ Bk4 cA ad (z + 30)) ++ Bk1 cA ad (z + 36))) H := hC
  refine cn_putF (ci := 8) hx hb (by decide) hts hown hK hC hS 0 rfl 10 (by decide) (hts (.fieldLink "SmellMap" 70 "SmellMap" "blind" "LSmellMap$Blind;") (inG_mem (p := 343) (by decide +kernel))) rfl hin rfl (nar_ref rfl _).1 (nar_ref rfl _).2 (by simp only [List.length_set, dfl_len]) (show decode prog_1_method_1_code 107 = .ok (.putfield 70, 3) by decide +kernel) (fun H locs hC hS => ?_)
  have hC : CN D z ((z, .inr (8, (((((((((((dfl 8).set 0 (.ref (z + 1))).set 1 (.ref (z + 3))).set 2 (.ref (z + 10))).set 3 (.ref (z + 17))).set 4 (.int 0)).set 5 (.int (-1))).set 6 (.ref (z + 18))).set 7 (.ref (z + 22))).set 8 (.ref (z + 27))).set 9 (.ref (z + 30))).set 10 (.ref (z + 36)))) :: (((((((((([] : va_W) ++ Bk5 cA ad (z + 1)) ++ Bk2 cA ad (z + 3)) ++ Bk2 cA ad (z + 10)) ++ [(z + 17, (.inl (cA 24, 5, .inr (.inr (.inr (.inr (lwF z 0))))) : va_E))]) ++ Bk7 cA ad (z + 18)) ++ Bk0 cA ad (z + 22)) ++ Bk6 cA ad (z + 27)) ++ Bk4 cA ad (z + 30)) ++ Bk1 cA ad (z + 36))) H := hC
  have hw9 : (((((((((([] : va_W) ++ Bk5 cA ad (z + 1)) ++ Bk2 cA ad (z + 3)) ++ Bk2 cA ad (z + 10)) ++ [(z + 17, (.inl (cA 24, 5, .inr (.inr (.inr (.inr (lwF z 0))))) : va_E))]) ++ Bk7 cA ad (z + 18)) ++ Bk0 cA ad (z + 22)) ++ Bk6 cA ad (z + 27)) ++ Bk4 cA ad (z + 30)) ++ Bk1 cA ad (z + 36)).length = 40 := by rw [List.length_append, hw8, Bk1_len]
  have hC : CN D z (Bk8 cA ad z 0) H := hC
  clear hw0 hw1 hw2 hw3 hw4 hw5 hw6 hw7 hw8 hw9
  refine lv_iconst (v := 0) hx hb (show decode prog_1_method_1_code 110 = .ok (.iconst 0, 1) by decide +kernel) (by decide) ?_
  refine lv_istore_n (lv' := [(1, .int (Int32.ofNat 0)), (0, .ref z)]) hx hb (show decode prog_1_method_1_code 111 = .ok (.istore_n 1, 1) by decide +kernel) rfl hl (by decide) rfl (fun ls hl => ?_)
  have loop : ∀ (n i : Nat), i + n = 5 → ∀ (H : Heap) (locs : List Loc) (ls : Array Slot), CN D z (Bk8 cA ad z i) H → va_S (CA z) s.heap H locs → lv_has ls 2 [(1, .int (Int32.ofNat i)), (0, .ref z)] → W p l e (headSpec (Cond.code (yI 8) prog_1_method_1_code 2 none :: gT) rm8).room s m (List.toArray [.ref z]) below meth c H locs (40 + 3 * i) (6179 + 186 * i) (MQ below (QCt D z (Bk8 cA ad z 5)) (List.toArray [.ref z]) s 55 7109 (CA z)) (F0 m 112 ls []) := by
    intro n
    induction n with
    | zero =>
      intro i hi H locs ls hC hS hl
      refine lv_iload_n hx hb (show decode prog_1_method_1_code 112 = .ok (.iload_n 1, 1) by decide +kernel) rfl (lv_at hl 0 rfl) ?_
      refine lv_aload_n hx hb (show decode prog_1_method_1_code 113 = .ok (.aload_n 0, 1) by decide +kernel) rfl (lv_at hl 1 rfl) ?_
      refine va_get (D := D) (ci := 8) (v := .ref (z + 17)) (C := cnm 8) (T := fTT 8) (N := nfF 8) hx hb hts (fW_at (by decide)) hown hK hC.1 0 (fs := F8 z) rfl (cl10_at (by decide)) 3 (by decide) (hts (.fieldLink "SmellMap" 28 "SmellMap" "laws" "[LSmellMap$Law;") (inG_mem (p := 336) (by decide +kernel))) (fun _ h => h) rfl (show decode prog_1_method_1_code 114 = .ok (.getfield 28, 3) by decide +kernel) ?_
      refine va_alen hx hb hK hC.1 17 4 (at_mid (A8_len z)) rfl (v := 5) rfl (show decode prog_1_method_1_code 117 = .ok (.arraylength, 1) by decide +kernel) ?_
      obtain rfl : i = 5 := by omega
      refine lv_icmp_ge (tgt := 140) hx hb (show decode prog_1_method_1_code 118 = .ok (.if_icmp .ge 22, 3) by decide +kernel) (by decide) (fun _ => ?_) (fun h => absurd (by decide) h)
      exact W.vret hx hb hr (fun t ht hW => ⟨⟨(), rfl, trivial, by show CN D z _ t.heap; rw [ht]; exact hC⟩, hS.F ht⟩) hS.2.2 (show decode prog_1_method_1_code 140 = .ok (.return_, 1) by decide +kernel) hlocks
    | succ n ih =>
      intro i hi H locs ls hC hS hl
      refine lv_iload_n hx hb (show decode prog_1_method_1_code 112 = .ok (.iload_n 1, 1) by decide +kernel) rfl (lv_at hl 0 rfl) ?_
      refine lv_aload_n hx hb (show decode prog_1_method_1_code 113 = .ok (.aload_n 0, 1) by decide +kernel) rfl (lv_at hl 1 rfl) ?_
      refine va_get (D := D) (ci := 8) (v := .ref (z + 17)) (C := cnm 8) (T := fTT 8) (N := nfF 8) hx hb hts (fW_at (by decide)) hown hK hC.1 0 (fs := F8 z) rfl (cl10_at (by decide)) 3 (by decide) (hts (.fieldLink "SmellMap" 28 "SmellMap" "laws" "[LSmellMap$Law;") (inG_mem (p := 336) (by decide +kernel))) (fun _ h => h) rfl (show decode prog_1_method_1_code 114 = .ok (.getfield 28, 3) by decide +kernel) ?_
      refine va_alen hx hb hK hC.1 17 4 (at_mid (A8_len z)) rfl (v := 5) rfl (show decode prog_1_method_1_code 117 = .ok (.arraylength, 1) by decide +kernel) ?_
      have hi5 : i < 5 := by omega
      refine lv_icmp_ge (tgt := 140) hx hb (show decode prog_1_method_1_code 118 = .ok (.if_icmp .ge 22, 3) by decide +kernel) (by decide) (fun h => absurd h (lw_ge i hi5)) (fun _ => ?_)
      refine lv_aload_n hx hb (show decode prog_1_method_1_code 121 = .ok (.aload_n 0, 1) by decide +kernel) rfl (lv_at hl 1 rfl) ?_
      refine va_get (D := D) (ci := 8) (v := .ref (z + 17)) (C := cnm 8) (T := fTT 8) (N := nfF 8) hx hb hts (fW_at (by decide)) hown hK hC.1 0 (fs := F8 z) rfl (cl10_at (by decide)) 3 (by decide) (hts (.fieldLink "SmellMap" 28 "SmellMap" "laws" "[LSmellMap$Law;") (inG_mem (p := 336) (by decide +kernel))) (fun _ h => h) rfl (show decode prog_1_method_1_code 122 = .ok (.getfield 28, 3) by decide +kernel) ?_
      refine lv_iload_n hx hb (show decode prog_1_method_1_code 125 = .ok (.iload_n 1, 1) by decide +kernel) rfl (lv_at hl 0 rfl) ?_
      refine ct_callN (D := D) (cA := cA) (ad := ad) (W1 := Bk3 cA ad) hx hb hml hl.1 (by decide) hts hown (hts (.classLink "SmellMap" 26 (cnm 3)) (inG_mem (p := 176) (by decide +kernel))) (inG_mem (p := 303) (by decide +kernel)) (inG_mem (p := 93) (by decide +kernel)) (hNe (74, 3) (by decide)) (inG_mem (p := 305) (by decide +kernel)) (inG_mem (p := 306) (by decide +kernel)) (ct_met l ct_ok3) (by decide +kernel) ⟨by decide, by decide⟩ rfl rfl hK hT hC hS (by rw [cnt3.1]; show _ ≤ 55; omega) (by rw [cnt3.2]; show _ + 8 + _ ≤ 7109; omega) (Nat.le_of_ble_eq_true rfl) (show decode prog_1_method_1_code 126 = .ok (.new 26, 3) by decide +kernel) (show decode prog_1_method_1_code 129 = .ok (.dup, 1) by decide +kernel) (show decode prog_1_method_1_code 130 = .ok (.invokespecial 74, 3) by decide +kernel) (fun H locs hC hS => ?_)
      rw [cnt3.1, cnt3.2]
      rw [show z + (Bk8 cA ad z i).length = z + 41 + 3 * i by rw [Bk8_len]; omega] at hC ⊢
      have hC : CN D z (A8 cA ad z ++ (z + 17, .inl (cA 24, 5, .inr (.inr (.inr (.inr (lwF z i)))))) :: (C8 cA ad z ++ lwL cA ad z (i + 1))) H := by
        have e : Bk8 cA ad z i ++ Bk3 cA ad (z + 41 + 3 * i) = A8 cA ad z ++ (z + 17, .inl (cA 24, 5, .inr (.inr (.inr (.inr (lwF z i)))))) :: (C8 cA ad z ++ lwL cA ad z (i + 1)) := by
          rw [lwL_s]
          unfold Bk8
          simp only [List.append_assoc, List.cons_append]
        rw [← e]; exact hC
      have hqk : (A8 cA ad z ++ (z + 17, (.inl (cA 24, 5, .inr (.inr (.inr (.inr (lwF z i))))) : va_E)) :: (C8 cA ad z ++ lwL cA ad z (i + 1)))[41 + 3 * i]? = some (z + 41 + 3 * i, .inr (3, runF (z + 41 + 3 * i) cA ad its3 (dfl 3) [])) := by
        have e : A8 cA ad z ++ (z + 17, (.inl (cA 24, 5, .inr (.inr (.inr (.inr (lwF z i))))) : va_E)) :: (C8 cA ad z ++ lwL cA ad z (i + 1)) = (A8 cA ad z ++ (z + 17, (.inl (cA 24, 5, .inr (.inr (.inr (.inr (lwF z i))))) : va_E)) :: (C8 cA ad z ++ lwL cA ad z i)) ++ (z + 41 + 3 * i, .inr (3, runF (z + 41 + 3 * i) cA ad its3 (dfl 3) [])) :: runW (z + 41 + 3 * i) cA its3 [] := by
          rw [lwL_s]
          unfold Bk3
          simp only [List.append_assoc, List.cons_append]
        rw [e]
        exact at_mid (Bk8_len z i)
      refine cn_astq hx hb hK hC hS 17 4 (41 + 3 * i) 3 (at_mid (A8_len z)) rfl hqk (cl10_at (by decide)) (i := Int32.ofNat i) (lw_in i hi5) (show decode prog_1_method_1_code 133 = .ok (.aastore, 1) by decide +kernel) (fun H locs hC hS => ?_)
      rw [set_midL (A8_len z), show (Int32.ofNat i).toNatClampNeg = i from lw_cl i hi5] at hC
      refine lv_iinc (lv' := [(1, .int (Int32.ofNat (i + 1))), (0, .ref z)]) hx hb (show decode prog_1_method_1_code 134 = .ok (.iinc 1 1, 3) by decide +kernel) hl (k := 0) rfl (inc_ofNat i).symm (by decide) rfl (fun ls hl => ?_)
      refine lv_goto (tgt := 112) hx hb (show decode prog_1_method_1_code 137 = .ok (.goto (-25), 3) by decide +kernel) (by decide) ?_
      exact W.widen (by omega) (by show _ + 8 + _ ≤ _; omega) (ih (i + 1) (by omega) H locs ls hC hS hl)
  exact loop 5 0 rfl H locs ls hC hS hl
end CT
