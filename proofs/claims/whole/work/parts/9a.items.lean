/-! CONSTRUCTORS, item by item: what a field begins with -/
abbrev It : Type := Nat × Nat × Int × Nat × Nat × Nat
def psh (ins : Instr) (pl : Nat) : Option Int32 :=
  match ins, pl with
  | .iconst n, 1 => some (Int32.ofInt n)
  | .bipush n, 2 => some (Int8.ofInt n).toInt32
  | .sipush n, 3 => some (Int16.ofInt n).toInt32
  | _, _ => none
def pshAt (b : ByteArray) (pc pl : Nat) (v : Int32) : Bool :=
  match decode b pc with
  | .ok (ins, k) => Nat.beq k pl && decide (psh ins pl = some v)
  | .error _ => false
def atp (kd : Nat) : ArrayType := match kd with | 20 => .int | 21 => .byte | _ => .boolean
def isA (kd : Nat) : Bool := Nat.ble 20 kd && Nat.ble kd 22
def fldOk (ci k idx p : Nat) : Bool := Nat.blt k (nfF ci) && (inG p (.fieldLink (cnm ci) idx (cnm ci) (fTT ci k).2.1 (fTT ci k).2.2.1) && decide ((fTT ci k).1 = cnm ci))
/-- kd: 20, 21, 22 a new array of n; 0 the number n; 30 the text with this place -/
def okIt (b : ByteArray) (ci pc : Nat) (it : It) : Bool :=
  match it with
  | (kd, k, n, idx, pl, p) =>
    decide (decode b pc = .ok (.aload_n 0, 1)) && (fldOk ci k idx p && (
      bif isA kd then pshAt b (pc + 1) pl (Int32.ofInt n) && (decide (decode b (pc + 1 + pl) = .ok (.newarray (atp kd), 2)) && (decide (decode b (pc + 1 + pl + 2) = .ok (.putfield idx, 3)) && (decide (¬ Int32.ofInt n < 0 ∧ (Int32.ofInt n).toNatClampNeg = n.toNat) && (Nat.ble n.toNat 5000 && ((fTT ci k).2.2.2 && refKind (fYY ci k))))))
      else bif Nat.beq kd 0 then pshAt b (pc + 1) pl (Int32.ofInt n) && (decide (decode b (pc + 1 + pl) = .ok (.putfield idx, 3)) && (!(fTT ci k).2.2.2 && decide (fYY ci k = .int ∨ (fYY ci k = .boolean ∧ n = 0))))
      else bif Nat.beq kd 30 then decide (decode b (pc + 1) = .ok (.ldc n.toNat, 2)) && (decide (decode b (pc + 3) = .ok (.putfield idx, 3)) && (decide (∃ x ∈ txL, x.1 = n.toNat ∧ x.2.2 = pl) && ((fTT ci k).2.2.2 && (refKind (fYY ci k) && decide (cnm ci = "SmellMapModel")))))
      else false))
def nxI (pc : Nat) (it : It) : Nat := match it with | (kd, _, _, _, pl, _) => bif isA kd then pc + 1 + pl + 2 + 3 else bif Nat.beq kd 0 then pc + 1 + pl + 3 else pc + 6
def efF (z : Nat) (ad : Nat → Nat) (it : It) (fs : List Value) (w : va_W) : List Value := match it with | (kd, k, n, _, pl, _) => bif isA kd then fs.set k (.ref (z + 1 + w.length)) else bif Nat.beq kd 0 then fs.set k (.int (Int32.ofInt n)) else fs.set k (.ref (ad pl))
def efW (z : Nat) (cA : Nat → ClassId) (it : It) (w : va_W) : va_W := match it with | (kd, _, n, _, _, _) => bif isA kd then w ++ [(z + 1 + w.length, .inl (cA kd, n.toNat, .inl (fun _ => 0)))] else w
def cnIt (it : It) : Nat := bif isA it.1 then 1 else 0
def slI (it : It) : Nat := bif isA it.1 then it.2.2.1.toNat else 0
def okIts (b : ByteArray) (ci : Nat) : Nat → List It → Bool
  | _, [] => true
  | pc, it :: r => okIt b ci pc it && okIts b ci (nxI pc it) r
def endI : Nat → List It → Nat
  | pc, [] => pc
  | pc, it :: r => endI (nxI pc it) r
def runF (z : Nat) (cA : Nat → ClassId) (ad : Nat → Nat) : List It → List Value → va_W → List Value
  | [], fs, _ => fs
  | it :: r, fs, w => runF z cA ad r (efF z ad it fs w) (efW z cA it w)
def runW (z : Nat) (cA : Nat → ClassId) : List It → va_W → va_W
  | [], w => w
  | it :: r, w => runW z cA r (efW z cA it w)
def cntI : List It → Nat
  | [] => 0
  | it :: r => cnIt it + cntI r
def sltI : List It → Nat
  | [] => 0
  | it :: r => slI it + sltI r
theorem efF_len {z : Nat} {ad : Nat → Nat} {it : It} {fs : List Value} {w : va_W} : (efF z ad it fs w).length = fs.length := by
  unfold efF
  split
  next kd k n _ pl _ =>
  cases isA kd
  · cases Nat.beq kd 0
    · exact List.length_set
    · exact List.length_set
  · exact List.length_set
theorem nar_ref {ty : FieldType} (h : refKind ty = true) (v : Nat) : narrow ty (.ref v) = .ref v ∧ Jvm.fits ty (.ref v) = true := by
  cases ty <;> first | exact ⟨rfl, rfl⟩ | exact absurd h (by decide)
theorem arr_w : inG 135 (.arrayClass .int) = true ∧ inG 1335 (.arrayClass .byte) = true ∧ inG 1336 (.arrayClass .boolean) = true ∧ inG 1777 (.arrayClass .long) = true := by decide +kernel
section CT
variable {p : Program} {l : Launch} {e : Env} {R : Room} {s : State} {m : MethodId} {args : Array Value} {below : List Frame} {meth : Method} {c : Code} {Q : State → Prop}
variable {D : va_G} {cA : Nat → ClassId} {ad : Nat → Nat} {cc : ByteArray} {z ci : Nat} {H : Heap} {locs : List Loc} {ls : Array Slot} {cells slots pc : Nat}
theorem lv_push {pl : Nat} {v : Int32} {rest : List Value} (hx : p.tables.exec = Jvm.exec) (hb : c.code = cc) (h : pshAt cc pc pl v = true) (k : W p l e R s m args below meth c H locs cells slots Q (F0 m (pc + pl) ls (.int v :: rest))) : W p l e R s m args below meth c H locs cells slots Q (F0 m pc ls rest) := by
  unfold pshAt at h
  split at h
  · next ins k0 hd =>
    rw [Bool.and_eq_true] at h
    obtain rfl := Nat.eq_of_beq_eq_true h.1
    have h2 := of_decide_eq_true h.2
    unfold psh at h2
    split at h2
    · exact lv_iconst hx hb hd (Option.some.inj h2) k
    · exact lv_bipush hx hb hd (Option.some.inj h2) k
    · exact lv_sipush hx hb hd (Option.some.inj h2) k
    · cases h2
  · cases h
theorem it_run (hx : p.tables.exec = Jvm.exec) (hb : c.code = cc) (hci : ci < 10) (hts : ∀ w ∈ gT, w.before args s = true) (hown : s.vm.findClass (cnm ci) = some m.cls) (hin : meth.name = "<init>") (hK : va_K D cl10 (tyL cA) s) (hT : ∀ x ∈ txL, vk_R "SmellMapModel" x.1 x.2.1 (ad x.2.2) s) {nL : Nat} {lv : List (Nat × Value)} (hl : lv_has ls nL ((0, .ref z) :: lv)) (hz : z ≤ s.heap.size)
    {it : It} (ok : okIt cc ci pc it = true) {fs : List Value} {w : va_W} (hf : fs.length = nfF ci) (hC : CN D z ((z, .inr (ci, fs)) :: w) H) (hS : va_S (CA z) s.heap H locs) (hc : cells + cnIt it ≤ R.cells) (hs : slots + slI it ≤ R.slots)
    (kk : ∀ (H1 : Heap) (locs1 : List Loc), CN D z ((z, .inr (ci, efF z ad it fs w)) :: efW z cA it w) H1 → va_S (CA z) s.heap H1 locs1 → W p l e R s m args below meth c H1 locs1 (cells + cnIt it) (slots + slI it) Q (F0 m (nxI pc it) ls [])) : W p l e R s m args below meth c H locs cells slots Q (F0 m pc ls []) := by
  obtain ⟨kd, k, n, idx, pl, p0⟩ := it
  simp only [okIt, Bool.and_eq_true, decide_eq_true_eq] at ok
  obtain ⟨d0, hfo, ok⟩ := ok
  simp only [fldOk, Bool.and_eq_true, decide_eq_true_eq] at hfo
  obtain ⟨f1, f2, f3⟩ := hfo
  have hk : k < nfF ci := Nat.le_of_ble_eq_true f1
  have hlink := hts _ (inG_mem f2)
  refine lv_aload_n hx hb d0 rfl (lv_at hl 0 rfl) ?_
  cases hA : isA kd
  · rw [hA, cond_false] at ok
    have e1 : cnIt (kd, k, n, idx, pl, p0) = 0 := by simp only [cnIt, hA, cond_false]
    have e2 : slI (kd, k, n, idx, pl, p0) = 0 := by simp only [slI, hA, cond_false]
    have e4 : efW z cA (kd, k, n, idx, pl, p0) w = w := by simp only [efW, hA, cond_false]
    rw [e1, e2, e4] at kk
    cases h0 : Nat.beq kd 0
    · rw [h0, cond_false] at ok
      cases h30 : Nat.beq kd 30
      · rw [h30, cond_false] at ok; cases ok
      · rw [h30, cond_true] at ok
        simp only [Bool.and_eq_true, decide_eq_true_eq] at ok
        obtain ⟨d1, d2, ⟨⟨i1, tx, a1⟩, hx1, rfl, rfl⟩, g1, g2, g3⟩ := ok
        have hown' := hown
        rw [g3] at hown'
        refine va_ldcS hx hb hown' (hT _ hx1) d1 ?_
        refine cn_putF hx hb hci hts hown hK hC hS 0 rfl k hk hlink g1 hin f3 (nar_ref g2 _).1 (nar_ref g2 _).2 hf d2 (fun H1 locs1 hC1 hS1 => ?_)
        have e3 : efF z ad (kd, k, n, idx, a1, p0) fs w = fs.set k (.ref (ad a1)) := by simp only [efF, hA, h0, cond_false]
        have e5 : nxI pc (kd, k, n, idx, a1, p0) = pc + 6 := by simp only [nxI, hA, h0, cond_false]
        rw [e3, e5] at kk
        exact kk H1 locs1 hC1 hS1
    · rw [h0, cond_true] at ok
      simp only [Bool.and_eq_true, decide_eq_true_eq, Bool.not_eq_true'] at ok
      obtain ⟨d1, d2, g1, g2⟩ := ok
      refine lv_push hx hb d1 ?_
      have hnf : narrow (fYY ci k) (.int (Int32.ofInt n)) = .int (Int32.ofInt n) ∧ Jvm.fits (fYY ci k) (.int (Int32.ofInt n)) = true := by
        rcases g2 with g2 | ⟨g2, rfl⟩
        · rw [g2]; exact ⟨rfl, rfl⟩
        · rw [g2]; exact ⟨rfl, rfl⟩
      refine cn_put hx hb hci hts hown hK hC hS 0 rfl k hk hlink g1 f3 hnf.1 hnf.2 hf d2 (fun H1 locs1 hC1 hS1 => ?_)
      have e3 : efF z ad (kd, k, n, idx, pl, p0) fs w = fs.set k (.int (Int32.ofInt n)) := by simp only [efF, hA, h0, cond_false, cond_true]
      have e5 : nxI pc (kd, k, n, idx, pl, p0) = pc + 1 + pl + 3 := by simp only [nxI, hA, h0, cond_false, cond_true]
      rw [e3, e5] at kk
      exact kk H1 locs1 hC1 hS1
  · rw [hA, cond_true] at ok
    simp only [Bool.and_eq_true, decide_eq_true_eq] at ok
    obtain ⟨d1, d2, d3, ⟨g1, g2⟩, g3, g4, g5⟩ := ok
    have g3 := Nat.le_of_ble_eq_true g3
    have e1 : cnIt (kd, k, n, idx, pl, p0) = 1 := by simp only [cnIt, hA, cond_true]
    have e2 : slI (kd, k, n, idx, pl, p0) = n.toNat := by simp only [slI, hA, cond_true]
    have e4 : efW z cA (kd, k, n, idx, pl, p0) w = w ++ [(z + 1 + w.length, .inl (cA kd, n.toNat, .inl (fun _ => 0)))] := by simp only [efW, hA, cond_true]
    have e3 : efF z ad (kd, k, n, idx, pl, p0) fs w = fs.set k (.ref (z + 1 + w.length)) := by simp only [efF, hA, cond_true]
    have e5 : nxI pc (kd, k, n, idx, pl, p0) = pc + 1 + pl + 2 + 3 := by simp only [nxI, hA, cond_true]
    rw [e1, e2, e4, e3, e5] at kk
    rw [e1] at hc
    rw [e2] at hs
    refine lv_push hx hb d1 ?_
    have hkd : kd = 20 ∨ kd = 21 ∨ kd = 22 := by
      rw [isA, Bool.and_eq_true] at hA
      have := Nat.le_of_ble_eq_true hA.1
      have := Nat.le_of_ble_eq_true hA.2
      omega
    have hlen : z + ((z, (.inr (ci, fs) : va_E)) :: w).length = z + 1 + w.length := by rw [List.length_cons]; omega
    have fin : ∀ H1 : Heap, CN D z (((z, .inr (ci, fs)) :: w) ++ [(z + ((z, (.inr (ci, fs) : va_E)) :: w).length, .inl (cA kd, n.toNat, .inl (fun _ => 0)))]) H1 → va_S (CA z) s.heap H1 locs → W p l e R s m args below meth c H1 locs (cells + 1) (slots + n.toNat) Q (F0 m (pc + 1 + pl + 2) ls (.ref (z + ((z, (.inr (ci, fs) : va_E)) :: w).length) :: .ref z :: [])) := by
      intro H1 hC1 hS1
      rw [hlen] at hC1 ⊢
      refine cn_putF hx hb hci hts hown hK hC1 hS1 0 rfl k hk hlink g4 hin f3 (nar_ref g5 _).1 (nar_ref g5 _).2 hf d3 (fun H2 locs2 hC2 hS2 => ?_)
      exact kk H2 locs2 hC2 hS2
    rcases hkd with rfl | rfl | rfl
    · exact cn_newa (t0 := 0) (kd := 20) hx hb (atype := .int) (hts _ (inG_mem arr_w.1)) hK hC hS hz rfl (a0 := (n.toNat, .inl (fun _ => 0))) rfl g1 g2 (by show n.toNat * 4 ≤ 536870912; omega) hc hs d2 fin
    · exact cn_newa (t0 := 1) (kd := 21) hx hb (atype := .byte) (hts _ (inG_mem arr_w.2.1)) hK hC hS hz rfl (a0 := (n.toNat, .inl (fun _ => 0))) rfl g1 g2 (by show n.toNat * 1 ≤ 536870912; omega) hc hs d2 fin
    · exact cn_newa (t0 := 2) (kd := 22) hx hb (atype := .boolean) (hts _ (inG_mem arr_w.2.2.1)) hK hC hS hz rfl (a0 := (n.toNat, .inl (fun _ => 0))) rfl g1 g2 (by show n.toNat * 1 ≤ 536870912; omega) hc hs d2 fin
theorem ct_run (hx : p.tables.exec = Jvm.exec) (hb : c.code = cc) (hci : ci < 10) (hts : ∀ w ∈ gT, w.before args s = true) (hown : s.vm.findClass (cnm ci) = some m.cls) (hin : meth.name = "<init>") (hK : va_K D cl10 (tyL cA) s) (hT : ∀ x ∈ txL, vk_R "SmellMapModel" x.1 x.2.1 (ad x.2.2) s) {nL : Nat} {lv : List (Nat × Value)} (hl : lv_has ls nL ((0, .ref z) :: lv)) (hz : z ≤ s.heap.size) :
    ∀ (its : List It) (pc : Nat) (fs : List Value) (w : va_W) (cells slots : Nat) (H : Heap) (locs : List Loc), okIts cc ci pc its = true → fs.length = nfF ci → CN D z ((z, .inr (ci, fs)) :: w) H → va_S (CA z) s.heap H locs → cells + cntI its ≤ R.cells → slots + sltI its ≤ R.slots →
    (∀ (H1 : Heap) (locs1 : List Loc), CN D z ((z, .inr (ci, runF z cA ad its fs w)) :: runW z cA its w) H1 → va_S (CA z) s.heap H1 locs1 → W p l e R s m args below meth c H1 locs1 (cells + cntI its) (slots + sltI its) Q (F0 m (endI pc its) ls [])) → W p l e R s m args below meth c H locs cells slots Q (F0 m pc ls [])
  | [], pc, fs, w, cells, slots, H, locs, _, _, hC, hS, _, _, kk => kk H locs hC hS
  | it :: r, pc, fs, w, cells, slots, H, locs, ok, hf, hC, hS, hc, hs, kk => by
    rw [okIts, Bool.and_eq_true] at ok
    simp only [cntI] at hc kk
    simp only [sltI] at hs kk
    refine it_run hx hb hci hts hown hin hK hT hl hz ok.1 hf hC hS (by omega) (by omega) (fun H1 locs1 hC1 hS1 => ?_)
    refine ct_run hx hb hci hts hown hin hK hT hl hz r (nxI pc it) (efF z ad it fs w) (efW z cA it w) (cells + cnIt it) (slots + slI it) H1 locs1 ok.2 (by rw [efF_len]; exact hf) hC1 hS1 (by omega) (by omega) (fun H2 locs2 hC2 hS2 => ?_)
    rw [Nat.add_assoc, Nat.add_assoc]
    exact kk H2 locs2 hC2 hS2
end CT
