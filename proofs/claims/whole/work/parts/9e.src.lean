/-! THE LAW'S HELPER: source() that throws, and who catches it -/
abbrev nSE : String := "java/util/NoSuchElementException"
abbrev nSN : List String := ["java/lang/RuntimeException", "java/lang/Exception"]
def bxW : List Cond := (vx_at0 "SmellMap" 105 nSE nSN).filter (fun w => !goodWord w)
theorem bx_in : ∀ w ∈ (vx_at0 "SmellMap" 105 nSE nSN).filter goodWord, w ∈ lw_tbl := by decide +kernel
theorem bx_tbl : ∀ w ∈ bxW, w ∈ lw_tbl := by decide +kernel
theorem bx_tab : ∀ w ∈ bxW, w.onTables = true := by decide +kernel
theorem bx_is : bxW = [.declares (Bundle.init0 "java/lang/RuntimeException"), .declares (Bundle.init0 "java/lang/Exception"), .declares (Bundle.init0 Bundle.tN), .castable nSE nSE] := by decide +kernel
theorem bx_cast : Cond.castable nSE nSE ∈ bxW := by rw [bx_is]; exact List.mem_cons_of_mem _ (List.mem_cons_of_mem _ (List.mem_cons_of_mem _ List.mem_cons_self))
theorem bx_ot : ∀ w ∈ Cond.classLink "SmellMap" 103 nSE :: Cond.initialized nSE :: vx_at0 "SmellMap" 105 nSE nSN, vx_ot w = true := by decide +kernel
theorem bx_warm {s U : State} (hW : s.WarmedH U.vm) (h : ∀ w ∈ bxW, va_Nw w s) : ∀ w ∈ bxW, va_Nw w U := by
  intro w hw
  have h1 := h w hw
  rw [bx_is] at hw
  simp only [List.mem_cons, List.not_mem_nil, or_false] at hw
  rcases hw with rfl | rfl | rfl | rfl
  · exact va_Nw.warmD hW h1
  · exact va_Nw.warmD hW h1
  · exact va_Nw.warmD hW h1
  · exact va_Nw.warmC hW h1
/-- what a throw stands on -/
def XZ (A : Nat → Prop) (U : State) (H : Heap) : Prop := vx_Zq Bundle.tN "UNASSIGNED_STACK" Bundle.steD A U H ∧ vx_Zq Bundle.tN "SUPPRESSED_SENTINEL" Bundle.listD A U H ∧ ∀ w ∈ bxW, va_Nw w U
theorem XZ.warm {A : Nat → Prop} {s U : State} {H : Heap} (hW : s.WarmedH U.vm) (h : XZ A s H) : XZ A U H := ⟨vx_Zq.moved hW.alike h.1, vx_Zq.moved hW.alike h.2.1, bx_warm hW h.2.2⟩
theorem XZ.same {A : Nat → Prop} {u U : State} {H : Heap} (hv : U.vm = u.vm) (h : XZ A u H) : XZ A U H := by
  have ha : u.vm.Alike U.vm := by rw [hv]; exact Vm.Alike.refl _
  exact ⟨vx_Zq.moved ha h.1, vx_Zq.moved ha h.2.1, fun w hw => va_Nw.same (bx_tab w hw) hv.symm (h.2.2 w hw)⟩
theorem XZ.kept {A : Nat → Prop} {U : State} {H H1 : Heap} (h : XZ A U H) (hq : ∀ a : Nat, a < H.size → ¬ A a → H1[a]? = H[a]?) : XZ A U H1 := ⟨h.1.kept hq, h.2.1.kept hq, h.2.2⟩
theorem XZ.narrow {A B : Nat → Prop} {U : State} {H : Heap} (h : XZ A U H) (hAB : ∀ q, B q → A q) : XZ B U H := ⟨h.1.narrow hAB, h.2.1.narrow hAB, h.2.2⟩
abbrev PRX (D : va_G) (cA : Nat → ClassId) (ad : Nat → Nat) (as : List Value) (g : Mem) (sz : Nat) : Array Value → State → Prop :=
  va_Pc (as.map (tvV ad)) (fun U => (U.heap.size = sz ∧ va_P D cl10 (wsO cA ad g) U.heap ∧ va_K D cl10 (tyL cA) U ∧ RW ad (AR ad sz) g U U.heap) ∧ XZ (AR ad sz) U U.heap)
theorem PRX_blind {D : va_G} {cA : Nat → ClassId} {ad : Nat → Nat} {as : List Value} {g : Mem} {sz : Nat} : FrameBlind (PRX D cA ad as g sz) := by
  intro a U gf mk q
  obtain ⟨q0, ⟨q1, qP, qK, qR⟩, qX⟩ := q
  exact ⟨q0, ⟨q1, qP, va_K.moved (u := U) (U := U.calling gf mk a) (Vm.Alike.refl U.vm) qK, RW.same (u := U) (U := U.calling gf mk a) rfl qR⟩, XZ.same (u := U) (U := U.calling gf mk a) rfl qX⟩
def rmX (d : Nat) : Room := { frames := d + 12, cells := 1, slots := 6, locals := 40 * (d + 2) + 400 }
theorem cityShp {g : Mem} (hc : g 0 1 = nI 4 ∨ g 0 1 = nI 11) : ¬ g 0 1 = 0 ∧ Nat.beq (shp ((g 0 1).toNatClampNeg - 1)).1 2 = true := by
  rcases hc with h | h <;> (rw [h]; exact ⟨by decide, by decide +kernel⟩)
theorem nse_w : inG 1089 (.classLink "SmellMap" 103 nSE) = true ∧ inG 106 (.initialized nSE) = true := by decide +kernel
section Snd
variable {D : va_G} {cA : Nat → ClassId} {ad : Nat → Nat}
set_option maxRecDepth 100000 in
theorem x_S_0 {d : Nat} {X : Cont} {q : Post} (hX : ∀ pc loc stk s, pc ≠ 346 → stP (wp d) m_X_source X q pc loc stk s → X pc loc stk s) (a b : Int32) (s : Mem) (h : (if a < 0 then X 25 [.ref 0, .int a, .int b] [] s else (if (s 0 1) = 0 then False else (bif Nat.beq (shp ((s 0 1).toNatClampNeg - 1)).1 2 then wI (wp d) m_C_sourceCount [.ref ((s 0 1).toNatClampNeg - 1)] s (fun x9 s9 => (if a < x9 then (if b < 0 then X 25 [.ref 0, .int a, .int b] [] s9 else (if (6 : Int32) < b then X 25 [.ref 0, .int a, .int b] [] s9 else X 33 [.ref 0, .int a, .int b] [] s9)) else X 25 [.ref 0, .int a, .int b] [] s9)) else False)))) : X 0 [.ref 0, .int a, .int b] [] s := rgX (wp_mono d) hX [25, 33, 346] rfl 14 (by decide) rfl h
set_option maxRecDepth 100000 in
theorem src_throw (l : Launch) (hl9 : l.stackTraces = false) (hinj : ∀ i j, i < 88 → j < 88 → ad i = ad j → i = j) (d : Nat) {g : Mem} {a b : Int32} (hc : g 0 1 = nI 4 ∨ g 0 1 = nI 11) (hno : ¬ srcOk g a b) (sz : Nat) :
    vx_Met l (mnY 145) (wsM 145) (rmX d) (PRX D cA ad [.ref 0, .int a, .int b] g sz) (va_Qi (fun (_ : Int32) (_ : Unit) => False) (fun _ _ => True) (AR ad sz)) (vx_X (fun _ : Unit => True) (fun E _ t => E = nSE ∧ va_P D cl10 (wsO cA ad g) t.heap) (AR ad sz)) 1 6 (AR ad sz) := by
  refine vx_ofW (cc := mnB 145) (maxL := 3) (ret := some .int) (by decide) rfl ?_
  intro p e s m args below meth c s₁ B hml hnoT hv
  obtain ⟨rfl, ⟨hsz, hP, hK, hRW⟩, hU, hN, hB⟩ := hv
  have hts0 := atoms_spec (ws := wsM 145) B.pre
  have hts : ∀ w ∈ gT, w.before (List.toArray ([.ref 0, .int a, .int b].map (tvV ad))) s = true := fun w hw => hts0 w (List.mem_cons_of_mem _ hw)
  have hown : s.vm.findClass (cnm 8) = some m.cls := findClass_of_methodNamed B.named
  have hlocks := B.notSynchronized
  have hX : CX p m c s (List.toArray ([.ref 0, .int a, .int b].map (tvV ad))) D cA ad (AR ad sz) 145 g := ⟨B.exec, B.bytes, hml, hown, hts, hK, hRW, hinj, fun k hk => Or.inl ⟨k, hk, rfl⟩, fun q hq => Or.inr (by rw [← hsz]; exact hq)⟩
  have hl0 := lv_entry ([.ref 0, .int a, .int b].map (tvV ad)) (n := 3) (Nat.le_of_ble_eq_true rfl)
  rw [lg_entry_eq]
  generalize (lg_sl ([.ref 0, .int a, .int b].map (tvV ad)) ++ List.replicate (3 - (lg_sl ([.ref 0, .int a, .int b].map (tvV ad))).length) Slot.unset).toArray = ls at hl0 ⊢
  have hl2 : lv_has ls (pmeta 145).2.1 (lvp ad 0 [.ref 0, .int a, .int b]) := hl0
  have hR : (rmD (d + 2)).frames ≤ (rmX d).frames ∧ (rmD (d + 2)).locals ≤ (rmX d).locals := ⟨by show d + 2 + 10 ≤ d + 12; omega, Nat.le_refl _⟩
  have step : ∀ pc loc stk s', pc ≠ 346 → stP (wp (d + 1)) m_X_source (XJ p l e (headSpec (wsM 145) (rmX d)).room s m (List.toArray ([.ref 0, .int a, .int b].map (tvV ad))) below meth c (vx_MQ below (va_Qi (fun (_ : Int32) (_ : Unit) => False) (fun _ _ => True) (AR ad sz)) (vx_X (fun _ : Unit => True) (fun E _ t => E = nSE ∧ va_P D cl10 (wsO cA ad g) t.heap) (AR ad sz)) (List.toArray ([.ref 0, .int a, .int b].map (tvV ad))) s 1 6 (AR ad sz)) D cA ad (AR ad sz) 145 g 0 0) (fun _ _ => False) pc loc stk s' → XJ p l e (headSpec (wsM 145) (rmX d)).room s m (List.toArray ([.ref 0, .int a, .int b].map (tvV ad))) below meth c (vx_MQ below (va_Qi (fun (_ : Int32) (_ : Unit) => False) (fun _ _ => True) (AR ad sz)) (vx_X (fun _ : Unit => True) (fun E _ t => E = nSE ∧ va_P D cl10 (wsO cA ad g) t.heap) (AR ad sz)) (List.toArray ([.ref 0, .int a, .int b].map (tvV ad))) s 1 6 (AR ad sz)) D cA ad (AR ad sz) 145 g 0 0 pc loc stk s' := by
    intro pc loc stk s' _ h
    refine step_ok hX ⟨Nat.zero_le _, Nat.zero_le _⟩ (fun i np tp fs sw m' n ci rk hc he => no900 (by decide) hc he) ⟨by show 1 ≤ d + 12; omega, by show 40 ≤ 40 * (d + 2) + 400; omega⟩ (rm := rmD (d + 1)) ⟨rfl, rfl, by show d + 1 + 10 + 1 ≤ d + 12; omega, by show 31 + (40 * (d + 1) + 400) ≤ 40 * (d + 2) + 400; omega⟩ (met_all hinj (d + 1)) (hp_all hX hR ⟨Nat.zero_le _, Nat.zero_le _⟩) (q := fun _ _ => False) ?_ ?_ ?_ ?_ h
    · intro _ _ _ _ _ _ _ hq; exact hq.elim
    · intro _ _ _ _ _ _ _ _ _ hq; exact hq.elim
    · intro _ _ _ _ _ _ _ _ hq; exact hq.elim
    · intro _ _ _ _ _ _ _ _ _ _; exact ⟨fun _ hq => hq.elim, fun hq => hq.elim⟩
  have thr : XJ p l e (headSpec (wsM 145) (rmX d)).room s m (List.toArray ([.ref 0, .int a, .int b].map (tvV ad))) below meth c (vx_MQ below (va_Qi (fun (_ : Int32) (_ : Unit) => False) (fun _ _ => True) (AR ad sz)) (vx_X (fun _ : Unit => True) (fun E _ t => E = nSE ∧ va_P D cl10 (wsO cA ad g) t.heap) (AR ad sz)) (List.toArray ([.ref 0, .int a, .int b].map (tvV ad))) s 1 6 (AR ad sz)) D cA ad (AR ad sz) 145 g 0 0 25 [.ref 0, .int a, .int b] [] g := by
    intro H locs ls hP hS hl ha
    refine vx_throw0 (A := AR ad sz) (own := "SmellMap") (cls := nSE) (names := nSN) (ik := 103) (ic := 105) B.exec B.bytes hl9 hown (by decide) (by decide) (hts _ (inG_mem nse_w.1)) (hts _ (inG_mem nse_w.2)) ?_ bx_ot hU hN hS (hl.1.trans hml.symm) (show decode (mnB 145) 25 = .ok (.new 103, 3) by decide +kernel) (show decode (mnB 145) 28 = .ok (.dup, 1) by decide +kernel) (show decode (mnB 145) 29 = .ok (.invokespecial 105, 3) by decide +kernel) (show decode (mnB 145) 32 = .ok (.athrow, 1) by decide +kernel) (fun x hx => (hnoT x hx).elim) (by show 2 + 3 < d + 12; omega) (by show 0 + (13 * (2 + 1) + 42) ≤ 40 * (d + 2) + 400; omega) (Nat.le_refl _) (Nat.le_refl _) hlocks ?_ hS.2.2 (Nat.le_refl _) (Nat.le_refl _)
    · exact vx_hat (B := bxW) (fun w hw => hts w (List.mem_filter.mpr ⟨bx_in w hw, (List.mem_filter.mp hw).2⟩)) (fun w hw => hw) (fun w hw => va_Nw.use (bx_tab w hw) (hB w hw))
    · intro t ht hz hq
      refine ⟨(), trivial, ⟨rfl, hP.kept (fun k x hx => hq x.1 ((hP k x hx).lt))⟩, ?_⟩
      exact ⟨Nat.le_trans hS.1 hz, fun q h1 h2 => (hq q (Nat.lt_of_lt_of_le h1 hS.1)).trans (hS.2.1 q h1 h2)⟩
  have go := x_S_0 step a b g ?_
  · exact go s.heap [] ls hP va_S.rf hl2 (fun _ _ => rfl)
  · obtain ⟨c1, c2⟩ := cityShp hc
    by_cases h1 : a < 0
    · rw [if_pos h1]; exact thr
    rw [if_neg h1, if_neg c1, c2, cond_true, e_C_sourceCount, c2, cond_true]
    by_cases h2 : a < g ((g 0 1).toNatClampNeg - 1) 2
    · rw [if_pos h2]
      by_cases h3 : b < 0
      · rw [if_pos h3]; exact thr
      rw [if_neg h3]
      by_cases h4 : 6 < b
      · rw [if_pos h4]; exact thr
      · exact absurd ⟨h1, h2, h3, h4⟩ hno
    · rw [if_neg h2]; exact thr
end Snd
