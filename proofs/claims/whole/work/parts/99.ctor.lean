/-! CONSTRUCTORS: cells come one behind another, from z on -/
def CA (z : Nat) : Nat → Prop := fun q => z ≤ q
def CN (D : va_G) (z : Nat) (ws : va_W) (H : Heap) : Prop := va_P D cl10 ws H ∧ (∀ (j : Nat) (x : Nat × va_E), ws[j]? = some x → x.1 = z + j) ∧ H.size = z + ws.length
theorem CN.D {D : va_G} {z : Nat} {ws : va_W} {H : Heap} (h : CN D z ws H) : va_D (CA z) ws := by
  refine ⟨fun i j p q hi hj e => ?_, fun k q hk => ?_⟩
  · have h1 := h.2.1 i p hi
    have h2 := h.2.1 j q hj
    omega
  · have h1 := h.2.1 k q hk
    show z ≤ q.1
    omega
theorem cn_push {z : Nat} {ws : va_W} {x : va_E} (h : ∀ (j : Nat) (x : Nat × va_E), ws[j]? = some x → x.1 = z + j) : ∀ (j : Nat) (y : Nat × va_E), (ws ++ [(z + ws.length, x)])[j]? = some y → y.1 = z + j := by
  intro j y hj
  rcases Nat.lt_or_ge j ws.length with hl | hl
  · rw [List.getElem?_append_left hl] at hj
    exact h j y hj
  · rw [List.getElem?_append_right hl] at hj
    have hz : j - ws.length < 1 := (List.getElem?_eq_some_iff.mp hj).1
    rw [show j - ws.length = 0 by omega] at hj
    cases hj
    show z + ws.length = z + j
    omega
theorem cn_set {z : Nat} {ws : va_W} {q0 a : Nat} {e0 e : va_E} (h : ∀ (j : Nat) (x : Nat × va_E), ws[j]? = some x → x.1 = z + j) (he : ws[q0]? = some (a, e0)) : ∀ (j : Nat) (y : Nat × va_E), (ws.set q0 (a, e))[j]? = some y → y.1 = z + j := by
  intro j y hj
  by_cases hq : q0 = j
  · subst hq
    rw [List.getElem?_set_self (List.getElem?_eq_some_iff.mp he).1] at hj
    cases hj
    exact (h q0 (a, e0) he :)
  · rw [List.getElem?_set_ne hq] at hj
    exact h j y hj
section CT
variable {p : Program} {l : Launch} {e : Env} {R : Room} {s : State} {m : MethodId} {args : Array Value} {below : List Frame} {meth : Method} {c : Code} {Q : State → Prop}
variable {D : va_G} {cA : Nat → ClassId} {cc : ByteArray} {z : Nat} {ws : va_W} {H H0 : Heap} {locs : List Loc} {ls : Array Slot} {cells slots pc a : Nat} {rest : List Value}
theorem cn_newa (hx : p.tables.exec = Jvm.exec) (hb : c.code = cc) {atype : ArrayType} (harr : (Cond.arrayClass (newarray.typeOf atype)).before args s = true) (hK : va_K D cl10 (tyL cA) s) (hC : CN D z ws H) (hS : va_S (CA z) H0 H locs) (hz : z ≤ H0.size) {t0 kd : Nat} (ht : (tyL cA)[t0]? = some (cA kd, newarray.typeOf atype))
    {n : Int32} {N' : Nat} {a0 : vp_A} (ha : vp_cell (cA kd) a0 = arrV (cA kd) N' (fun _ => defaultValue (newarray.typeOf atype))) (hn : ¬ n < 0) (hN : n.toNatClampNeg = N') (hbytes : N' * componentBytes (newarray.typeOf atype) ≤ 536870912) (hcells : cells + 1 ≤ R.cells) (hslots : slots + N' ≤ R.slots) (hdg : decode cc pc = .ok (.newarray atype, 2))
    (kk : ∀ H1 : Heap, CN D z (ws ++ [(z + ws.length, .inl (cA kd, a0))]) H1 → va_S (CA z) H0 H1 locs → W p l e R s m args below meth c H1 locs (cells + 1) (slots + N') Q (F0 m (pc + 2) ls (.ref (z + ws.length) :: rest))) : W p l e R s m args below meth c H locs cells slots Q (F0 m pc ls (.int n :: rest)) := by
  refine va_newaK hx hb harr rfl hdg rfl hn hN hbytes hcells hslots rfl fun H1 c' e1 z1 o1 hAr hNm => ?_
  obtain ⟨hP, hj, hsz⟩ := hC
  have hcA : c' = cA kd := by
    have h2 := (hK.2 t0 _ ht).2
    have h3 : s.vm.findClass ("[" ++ (newarray.typeOf atype).toString) = some (cA kd) := by
      revert h2
      cases atype <;> exact id
    exact Option.some.inj (hNm.symm.trans h3)
  subst hcA
  have hk : ∀ (k : Nat) (x : Nat × va_E), ws[k]? = some x → H1[x.1]? = H[x.1]? := fun k x hx => o1 x.1 ((hP k x hx).lt)
  have hh : z + ws.length = H.size := hsz.symm
  have hP1 : va_P D cl10 (ws ++ [(z + ws.length, .inl (cA kd, a0))]) H1 := (hP.kept hk).app (fun k x hx => by
    have hz : k < 1 := (List.getElem?_eq_some_iff.mp hx).1
    rw [show k = 0 by omega] at hx
    cases hx
    show H1[z + ws.length]? = some (vp_cell _ _)
    rw [ha, hh]
    exact e1)
  have := kk H1 ⟨hP1, cn_push hj, by rw [z1, hsz, List.length_append]; rfl⟩ ⟨Nat.le_trans hS.1 (by omega), fun x h1 h2 => (o1 x (Nat.lt_of_lt_of_le h1 hS.1)).trans (hS.2.1 x h1 h2), hS.2.2⟩
  rw [hh] at this
  exact this
theorem cn_newq (hx : p.tables.exec = Jvm.exec) (hb : c.code = cc) {own C : String} {index : Nat} (hown : s.vm.findClass own = some m.cls) (hclink : (Cond.classLink own index C).before args s = true) (hover : va_AO C s) (hK : va_K D cl10 (tyL cA) s) (hC : CN D z ws H) (hS : va_S (CA z) H0 H locs) {t0 kd : Nat} (ht : (tyL cA)[t0]? = some (cA kd, .object C))
    {n : Int32} {N' : Nat} (hn : ¬ n < 0) (hN : n.toNatClampNeg = N') (hbytes : N' * 4 ≤ 536870912) (hcells : cells + 1 ≤ R.cells) (hslots : slots + N' ≤ R.slots) (hdg : decode cc pc = .ok (.anewarray index, 3))
    (kk : ∀ H1 : Heap, CN D z (ws ++ [(z + ws.length, .inl (cA kd, N', .inr (.inr (.inr (.inr (fun _ => none))))))]) H1 → va_S (CA z) H0 H1 locs → W p l e R s m args below meth c H1 locs (cells + 1) (slots + N') Q (F0 m (pc + 3) ls (.ref (z + ws.length) :: rest))) : W p l e R s m args below meth c H locs cells slots Q (F0 m pc ls (.int n :: rest)) := by
  subst hN
  refine W.anew hx hb hown hclink (va_AO.use hover) rfl hdg rfl hn hbytes hcells hslots fun c' kA comp f1 f2 f3 f4 => ?_
  obtain ⟨hP, hj, hsz⟩ := hC
  have hcA : c' = cA kd := by
    obtain ⟨kA', comp', -, -, -, h3⟩ := (hK.2 t0 _ ht).2
    exact Option.some.inj (f1.symm.trans h3)
  subst hcA
  generalize hH1 : H.push ({ cls := cA kd, slots := Array.replicate n.toNatClampNeg .null, vm := .none } : Cell) = H1
  have z1 : H1.size = H.size + 1 := by rw [← hH1, Array.size_push]
  have e1 : H1[H.size]? = some (arrV (cA kd) n.toNatClampNeg (fun _ => .null)) := by rw [← hH1, Array.getElem?_push_size, ← arrV_new]
  have o1 : ∀ q : Nat, q < H.size → H1[q]? = H[q]? := fun q hq => by rw [← hH1, Array.getElem?_push, if_neg (Nat.ne_of_lt hq)]
  have hk : ∀ (k : Nat) (x : Nat × va_E), ws[k]? = some x → H1[x.1]? = H[x.1]? := fun k x hx => o1 x.1 ((hP k x hx).lt)
  have hh : z + ws.length = H.size := hsz.symm
  have hP1 : va_P D cl10 (ws ++ [(z + ws.length, .inl (cA kd, n.toNatClampNeg, .inr (.inr (.inr (.inr (fun _ => none))))))]) H1 := (hP.kept hk).app (fun k x hx => by
    have hz : k < 1 := (List.getElem?_eq_some_iff.mp hx).1
    rw [show k = 0 by omega] at hx
    cases hx
    show H1[z + ws.length]? = some (vp_cell _ _)
    rw [vp_cell_q, hh]
    exact e1)
  have := kk H1 ⟨hP1, cn_push hj, by rw [z1, hsz, List.length_append]; rfl⟩ ⟨Nat.le_trans hS.1 (by omega), fun x h1 h2 => (o1 x (Nat.lt_of_lt_of_le h1 hS.1)).trans (hS.2.1 x h1 h2), hS.2.2⟩
  rw [hh] at this
  exact this
def dfl (ci : Nat) : List Value := (List.range (nfF ci)).map (fun k => defaultValue (fYY ci k))
theorem dfl_at {ci j : Nat} (h : j < nfF ci) : defaultValue (fYY ci j) = vp_V (dfl ci) j := by
  unfold vp_V dfl
  rw [List.getD_eq_getElem?_getD, List.getElem?_map, List.getElem?_range h]
  rfl
theorem cn_new (hx : p.tables.exec = Jvm.exec) (hb : c.code = cc) {own : String} {index ci : Nat} (hci : ci < 10) (hts : ∀ w ∈ gT, w.before args s = true) (hown : s.vm.findClass own = some m.cls) (hcl : (Cond.classLink own index (cnm ci)).before args s = true) (hinst : (Cond.instantiable (cnm ci) (nfF ci)).before args s = true) (hini : (Cond.initialized (cnm ci)).before args s = true)
    (hK : va_K D cl10 (tyL cA) s) (hC : CN D z ws H) (hS : va_S (CA z) H0 H locs) (hcells : cells + 1 ≤ R.cells) (hslots : slots + nfF ci ≤ R.slots) (hdg : decode cc pc = .ok (.new index, 3))
    (kk : ∀ H1 : Heap, CN D z (ws ++ [(z + ws.length, .inr (ci, dfl ci))]) H1 → va_S (CA z) H0 H1 locs → W p l e R s m args below meth c H1 locs (cells + 1) (slots + nfF ci) Q (F0 m (pc + 3) ls (.ref (z + ws.length) :: rest))) : W p l e R s m args below meth c H locs cells slots Q (F0 m pc ls rest) := by
  have hc := cl10_at hci
  have hKn := hK.1 ci _ hc
  obtain ⟨hP, hj, hsz⟩ := hC
  refine W.newcK hx hb hown hcl hinst hini rfl hdg hcells hslots hKn.2.1 rfl fun H1 kC hkC e1 z1 o1 => ?_
  have hk : ∀ (k : Nat) (x : Nat × va_E), ws[k]? = some x → H1[x.1]? = H[x.1]? := fun k x hx => o1 x.1 ((hP k x hx).lt)
  have hh : z + ws.length = H.size := hsz.symm
  have hP1 : va_P D cl10 (ws ++ [(z + ws.length, .inr (ci, dfl ci))]) H1 := (hP.kept hk).app (fun k x hx => by
    have hz : k < 1 := (List.getElem?_eq_some_iff.mp hx).1
    rw [show k = 0 by omega] at hx
    cases hx
    rw [hh]
    exact ⟨_, hc, (u_born (fYY ci) hts (fW_at hci) hKn hkC e1 (fP_at hci)).to (fun j hj => dfl_at hj)⟩)
  have := kk H1 ⟨hP1, cn_push hj, by rw [z1, hsz, List.length_append]; rfl⟩ ⟨Nat.le_trans hS.1 (by omega), fun x h1 h2 => (o1 x (Nat.lt_of_lt_of_le h1 hS.1)).trans (hS.2.1 x h1 h2), hS.2.2⟩
  rw [hh] at this
  exact this
theorem cn_putF (hx : p.tables.exec = Jvm.exec) (hb : c.code = cc) {ci index : Nat} (hci : ci < 10) (hts : ∀ w ∈ gT, w.before args s = true) (hown : s.vm.findClass (cnm ci) = some m.cls) (hK : va_K D cl10 (tyL cA) s) (hC : CN D z ws H) (hS0 : va_S (CA z) H0 H locs) (q0 : Nat) {fs : List Value} (he : ws[q0]? = some (a, .inr (ci, fs))) (k : Nat) (hk : k < nfF ci) (hlink : (Cond.fieldLink (cnm ci) index (cnm ci) (fTT ci k).2.1 (fTT ci k).2.2.1).before args s = true) (hfin : (fTT ci k).2.2.2 = true) (hin2 : meth.name = "<init>") (hdecl : (fTT ci k).1 = cnm ci) {v : Value} (hn : narrow (fYY ci k) v = v) (hfit : Jvm.fits (fYY ci k) v = true) (hl : fs.length = nfF ci)
    (hdg : decode cc pc = .ok (.putfield index, 3)) (kk : ∀ (H1 : Heap) (locs1 : List Loc), CN D z (ws.set q0 (a, .inr (ci, fs.set k v))) H1 → va_S (CA z) H0 H1 locs1 → W p l e R s m args below meth c H1 locs1 cells slots Q (F0 m (pc + 3) ls rest)) : W p l e R s m args below meth c H locs cells slots Q (F0 m pc ls (v :: .ref a :: rest)) := by
  have hc := cl10_at hci
  have hap := va_apart (own := cnm ci) hts (fW_at hci) (fYY ci) (fP_at hci) (fN_at hci) hK hc
  have hD := hC.D
  obtain ⟨hP, hj, hsz⟩ := hC
  obtain ⟨r, h1, cell, q1, q2, q3, q4⟩ := hP q0 _ he
  have hr : r = (cnm ci, fTT ci, nfF ci) := Option.some.inj (h1.symm.trans hc)
  subst hr
  obtain ⟨hS, hfc, kC, hkC, hkind⟩ := hK.1 ci _ hc
  obtain ⟨cf, kf, fi, f, hi, hsl⟩ := hS k hk
  have hlay := hts _ (fW_at hci _ (u_in_lay hk))
  unfold u_lay at hlay
  rw [if_pos hfin] at hlay
  have hst := (u_facts hfc hkC (u_lays hts (fW_at hci) hk) hi).1
  have hcf : m.cls = cf := by
    obtain ⟨_, _, c', _, _, _, -, -, hf', -, -, -, hown2, -⟩ := Cond.laysFinal_spec hlay
    have e1 : c' = cf := by have := hi.symm.trans hf'; simp at this; exact this.1.symm
    rw [hdecl] at hown2
    rw [← e1]; exact Option.some.inj (hown.symm.trans hown2)
  have h6 := u_fits hfc hkC hkind (Or.inr hlay) hi (fP_at hci k hk) hn hfit
  refine W.putFinK hx hb hown hlink (by rw [hdecl] at hi; exact hi) hst hcf hin2 (by rw [q2]; exact h6) q1 q3 (by rw [hsl]; exact k2_hasslot (q4 k hk)) rfl rfl hdg fun H' e1 e2 e3 => ?_
  rw [hsl] at e1 ⊢
  exact kk H' _ ⟨hP.set hD he ⟨_, hc, t_OB.to (V := updV (vp_V fs) k v) ⟨_, e1, q2, q3, t_set q4 hap hk v⟩ (fun j _ => vp_updV_set (by rw [hl]; exact hk) v j)⟩ e3, cn_set hj he, by rw [e2, hsz, List.length_set]⟩ (hS0.put e2 e3 (hD.2 q0 _ he))
theorem cn_put (hx : p.tables.exec = Jvm.exec) (hb : c.code = cc) {ci index : Nat} (hci : ci < 10) (hts : ∀ w ∈ gT, w.before args s = true) (hown : s.vm.findClass (cnm ci) = some m.cls) (hK : va_K D cl10 (tyL cA) s) (hC : CN D z ws H) (hS0 : va_S (CA z) H0 H locs) (q0 : Nat) {fs : List Value} (he : ws[q0]? = some (a, .inr (ci, fs))) (k : Nat) (hk : k < nfF ci) (hlink : (Cond.fieldLink (cnm ci) index (cnm ci) (fTT ci k).2.1 (fTT ci k).2.2.1).before args s = true) (hfin : (fTT ci k).2.2.2 = false) (hdecl : (fTT ci k).1 = cnm ci) {v : Value} (hn : narrow (fYY ci k) v = v) (hfit : Jvm.fits (fYY ci k) v = true) (hl : fs.length = nfF ci)
    (hdg : decode cc pc = .ok (.putfield index, 3)) (kk : ∀ (H1 : Heap) (locs1 : List Loc), CN D z (ws.set q0 (a, .inr (ci, fs.set k v))) H1 → va_S (CA z) H0 H1 locs1 → W p l e R s m args below meth c H1 locs1 cells slots Q (F0 m (pc + 3) ls rest)) : W p l e R s m args below meth c H locs cells slots Q (F0 m pc ls (v :: .ref a :: rest)) := by
  have hc := cl10_at hci
  have hap := va_apart (own := cnm ci) hts (fW_at hci) (fYY ci) (fP_at hci) (fN_at hci) hK hc
  have hD := hC.D
  obtain ⟨hP, hj, hsz⟩ := hC
  obtain ⟨r, h1, cell, q1, q2, q3, q4⟩ := hP q0 _ he
  have hr : r = (cnm ci, fTT ci, nfF ci) := Option.some.inj (h1.symm.trans hc)
  subst hr
  obtain ⟨hS, hfc, kC, hkC, hkind⟩ := hK.1 ci _ hc
  obtain ⟨cf, kf, fi, f, hi, hsl⟩ := hS k hk
  have hlay := hts _ (fW_at hci _ (u_in_lay hk))
  unfold u_lay at hlay
  rw [if_neg (by rw [hfin]; decide)] at hlay
  have hst := (u_facts hfc hkC (u_lays hts (fW_at hci) hk) hi).1
  have h6 := u_store hfc hkC hkind hlay hi (fP_at hci k hk) hn hfit
  refine W.putK hx hb (f := f) ⟨hown, hlink, ⟨_, _, _, by rw [hdecl] at hi; exact hi⟩, hst⟩ (by rw [q2]; exact h6) q1 q3 (by rw [hsl]; exact k2_hasslot (q4 k hk)) rfl rfl hdg fun H' e1 e2 e3 => ?_
  rw [hsl] at e1 ⊢
  exact kk H' _ ⟨hP.set hD he ⟨_, hc, t_OB.to (V := updV (vp_V fs) k v) ⟨_, e1, q2, q3, t_set q4 hap hk v⟩ (fun j _ => vp_updV_set (by rw [hl]; exact hk) v j)⟩ e3, cn_set hj he, by rw [e2, hsz, List.length_set]⟩ (hS0.put e2 e3 (hD.2 q0 _ he))
theorem cn_astq (hx : p.tables.exec = Jvm.exec) (hb : c.code = cc) (hK : va_K D cl10 (tyL cA) s) (hC : CN D z ws H) (hS : va_S (CA z) H0 H locs) (q0 t0 qk ci : Nat) {cB : ClassId} {r : vw_C} {n v : Nat} {vs : List Value} {f : Nat → Option Nat} (ha : ws[q0]? = some (a, .inl (cB, n, .inr (.inr (.inr (.inr f)))))) (ht : (tyL cA)[t0]? = some (cB, .object r.1)) (hv : ws[qk]? = some (v, .inr (ci, vs))) (hc : cl10[ci]? = some r) {i : Int32} (hin : vp_in i n) (hdg : decode cc pc = .ok (.aastore, 1))
    (kk : ∀ (H1 : Heap) (locs1 : List Loc), CN D z (ws.set q0 (a, .inl (cB, n, .inr (.inr (.inr (.inr (va_up f i.toNatClampNeg (some v)))))))) H1 → va_S (CA z) H0 H1 locs1 → W p l e R s m args below meth c H1 locs1 cells slots Q (F0 m (pc + 1) ls rest)) : W p l e R s m args below meth c H locs cells slots Q (F0 m pc ls (.ref v :: .int i :: .ref a :: rest)) := by
  have hD := hC.D
  obtain ⟨hP, hj, hsz⟩ := hC
  have hlt : i.toNatClampNeg < n := Nat.not_le.mp fun q => hin (Or.inr q)
  have h0 : ¬ i < 0 := fun q => hin (Or.inl q)
  obtain ⟨r', hr', cellV, g1, g2, g3, -⟩ := hP qk _ hv
  have hcls := (hK.1 ci r hc).2
  obtain ⟨kA, comp, k1, k2, k3, -⟩ := (hK.2 t0 _ ht).2
  have hcomp : comp = D.1 ci := Option.some.inj (k3.symm.trans hcls.1)
  subst hcomp
  obtain ⟨kC, hkC, -⟩ := hcls.2
  refine W.aast hx hb (hP q0 _ ha) (fun q h => by cases h) (fun h => by cases h) k1 k2 rfl hkC ⟨h0, by show _ < (arrV _ _ _).slots.size; rw [arrV_size]; exact hlt⟩ g1 (fun q h => by rw [g3] at h; cases h) (by rw [g2]; exact hkC) (by rw [g2]; exact va_assign hcls) rfl rfl hdg fun H1 e z oq => ?_
  refine kk H1 _ ⟨hP.set hD ha ?_ oq, cn_set hj ha, by rw [z, hsz, List.length_set]⟩ (hS.put z oq (hD.2 q0 _ ha))
  show H1[a]? = some (vp_cell _ _)
  rw [e]
  rw [vp_cell_q, vp_cell_q, arrV_store]
  congr 2
  funext q
  by_cases hq : q = i.toNatClampNeg
  · subst hq
    simp [updV, va_up, va_rf]
  · simp [updV, va_up, hq]
end CT
