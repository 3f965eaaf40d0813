/-! SOUNDNESS: switches, arraycopy, calls -/
theorem numdI_get : ∀ (l : List Int) (lo : Int) (n : Nat), (numdI lo l)[n]? = l[n]?.map (fun o => (lo + n, o))
  | [], _, _ => by simp [numdI]
  | o :: r, lo, 0 => by simp [numdI]
  | o :: r, lo, n + 1 => by
    simp only [numdI, List.getElem?_cons_succ]
    rw [numdI_get r (lo + 1) n]
    congr 1
    funext o
    rw [show lo + 1 + (n : Int) = lo + ((n + 1 : Nat) : Int) by omega]
theorem sw_inv {k : Nat → Prop} {x : Int32} {d : Nat} : ∀ {sw : List (Int × Nat)}, swP k x d sw → (∃ (n : Nat) (v : Int) (t : Nat), sw[n]? = some (v, t) ∧ x = Int32.ofInt v ∧ k t) ∨ ((∀ v t, (v, t) ∈ sw → x ≠ Int32.ofInt v) ∧ k d)
  | [], h => Or.inr ⟨fun _ _ h => by simp at h, h⟩
  | (v, t) :: r, h => by
    unfold swP at h
    by_cases hx : x = Int32.ofInt v
    · rw [if_pos hx] at h
      exact Or.inl ⟨0, v, t, rfl, hx, h⟩
    · rw [if_neg hx] at h
      rcases sw_inv h with ⟨n, v', t', h1, h2⟩ | ⟨h1, h2⟩
      · exact Or.inl ⟨n + 1, v', t', h1, h2⟩
      · refine Or.inr ⟨fun v' t' hm => ?_, h2⟩
        rcases List.mem_cons.mp hm with e | hm
        · cases e; exact hx
        · exact h1 v' t' hm
theorem swT_at {pc : Nat} {ps : List (Int × Int)} {sw : List (Int × Nat)} (h : swT pc ps sw = true) : (∀ n : Nat, ps[n]?.map (fun q : Int × Int => (q.1, (pc : Int) + q.2)) = sw[n]?.map (fun q : Int × Nat => (q.1, (q.2 : Int)))) ∧ ∀ v t, (v, t) ∈ sw → (Int32.ofInt v).toInt = v := by
  simp only [swT, Bool.and_eq_true, decide_eq_true_eq, List.all_eq_true] at h
  refine ⟨fun n => ?_, fun v t hm => h.2 (v, t) hm⟩
  rw [← List.getElem?_map, ← List.getElem?_map, h.1]
theorem lks {k : Nat → Prop} {x : Int32} {pc tp : Nat} {d : Int} (hd : (pc : Int) + d = (tp : Int)) : ∀ (ps : List (Int × Int)) (sw : List (Int × Nat)), ps.map (fun q => (q.1, (pc : Int) + q.2)) = sw.map (fun q => (q.1, (q.2 : Int))) → (∀ v t, (v, t) ∈ sw → (Int32.ofInt v).toInt = v) → swP k x tp sw → ∃ t : Nat, k t ∧ (pc : Int) + Op.lookupswitch.offset ps d x.toInt = (t : Int)
  | [], [], _, _, h => ⟨tp, h, hd⟩
  | [], _ :: _, e, _, _ => by simp at e
  | _ :: _, [], e, _, _ => by simp at e
  | (a, o) :: r, (v, t) :: sw, e, hv, h => by
    simp only [List.map_cons, List.cons.injEq, Prod.mk.injEq] at e
    obtain ⟨⟨rfl, e2⟩, e3⟩ := e
    unfold swP at h
    by_cases hx : x = Int32.ofInt a
    · rw [if_pos hx] at h
      refine ⟨t, h, ?_⟩
      rw [Op.lookupswitch.offset_cons, if_pos (by rw [hx]; exact (hv a t List.mem_cons_self).symm)]
      exact e2
    · rw [if_neg hx] at h
      obtain ⟨t', h1, h2⟩ := lks hd r sw e3 (fun v t hm => hv v t (List.mem_cons_of_mem _ hm)) h
      refine ⟨t', h1, ?_⟩
      rw [lv_osw hx (hv a t List.mem_cons_self)]
      exact h2
/-- the cells that a method of ours may write: ours, and new ones -/
def AR (ad : Nat → Nat) (sz : Nat) : Nat → Prop := fun q => (∃ k, k < 88 ∧ q = ad k) ∨ sz ≤ q
abbrev PRM (D : va_G) (cA : Nat → ClassId) (ad : Nat → Nat) (as : List Value) (g : Mem) (sz : Nat) : Array Value → State → Prop :=
  va_Pc (as.map (tvV ad)) (fun U => U.heap.size = sz ∧ va_P D cl10 (wsO cA ad g) U.heap ∧ va_K D cl10 (tyL cA) U ∧ RW ad (AR ad sz) g U U.heap)
def QRM (D : va_G) (cA : Nat → ClassId) (ad : Nat → Nat) (rk : Nat) (q : Post) (g : Mem) (sz : Nat) : Array Value → State → Outcome → State → Prop :=
  match rk with
  | 0 => va_Qv (fun u : Mem => q none u ∧ agM u g) (fun u t => va_P D cl10 (wsO cA ad u) t.heap) (AR ad sz)
  | 1 => va_Qi (fun (x : Int32) (u : Mem) => q (some (.int x)) u ∧ agM u g) (fun u t => va_P D cl10 (wsO cA ad u) t.heap) (AR ad sz)
  | 2 => va_Qi (fun (x : Int32) (u : Mem) => q (some (.int x)) u ∧ agM u g) (fun u t => va_P D cl10 (wsO cA ad u) t.heap) (AR ad sz)
  | 3 => va_Ql (fun (x : Int64) (u : Mem) => q (some (.long x)) u ∧ agM u g) (fun u t => va_P D cl10 (wsO cA ad u) t.heap) (AR ad sz)
  | _ => va_Qq (fun (r : Option Nat) (u : Mem) => ((∃ k, r = some (ad k) ∧ q (some (.ref k)) u) ∨ (r = none ∧ q (some .null) u)) ∧ agM u g) (fun u t => va_P D cl10 (wsO cA ad u) t.heap) (AR ad sz)
theorem PRM_blind {D : va_G} {cA : Nat → ClassId} {ad : Nat → Nat} {as : List Value} {g : Mem} {sz : Nat} : FrameBlind (PRM D cA ad as g sz) := by
  intro a U gf mk q
  obtain ⟨q0, q1, qP, qK, qR⟩ := q
  exact ⟨q0, q1, qP, va_K.moved (u := U) (U := U.calling gf mk a) (Vm.Alike.refl U.vm) qK, RW.same (u := U) (U := U.calling gf mk a) rfl qR⟩
theorem gi {ws : List Cond} (h : ∀ w ∈ ws, w ∈ gT) : GoodIn gT ws := fun w hw => ⟨h w hw, good_of_word (gT_good (h w hw))⟩
theorem wsM_in {m : Nat} (h : m < 258) : ∀ w ∈ wsM m, w ∈ gT := by
  intro w hw
  rcases List.mem_cons.mp hw with rfl | hw
  · exact inG_mem (okW_all m h)
  · exact hw
section Snd
variable {p : Program} {l : Launch} {e : Env} {R : Room} {s : State} {m : MethodId} {args : Array Value} {below : List Frame} {meth : Method} {c : Code} {Q : State → Prop}
variable {D : va_G} {cA : Nat → ClassId} {ad : Nat → Nat} {A : Nat → Prop} {mm : Nat} {s0 : Mem} {nc ns : Nat}
variable {pc i : Nat} {loc stk : List Value} {g : Mem} {H : Heap} {locs : List Loc} {ls : Array Slot}
theorem sd_tsw (hX : CX p m c s args D cA ad A mm s0) {d lo hi : Int} {offs : Array Int} {n tp : Nat} {sw : List (Int × Nat)} {x : Int32} {r : List Value} (hd : decode (mnB mm) pc = .ok (.tableswitch d lo hi offs, n)) (ht : (pc : Int) + d = (tp : Int)) (hh : hi = lo + offs.toList.length - 1) (hsw : swT pc (numdI lo offs.toList) sw = true)
    (h : swP (fun t => XJ p l e R s m args below meth c Q D cA ad A mm s0 nc ns t loc r g) x tp sw) (hP : va_P D cl10 (wsO cA ad g) H) (hS : va_S A s.heap H locs) (hl : lv_has ls (pmeta mm).2.1 (lvp ad 0 loc)) (ha : agM g s0) : W p l e R s m args below meth c H locs nc ns Q (F0 m pc ls ((Value.int x :: r).map (tvV ad))) := by
  obtain ⟨hx, hb, -⟩ := hX
  obtain ⟨hg, hv⟩ := swT_at hsw
  rcases sw_inv h with ⟨n, v, t, h1, h2, h3⟩ | ⟨h1, h2⟩
  · have h4 := hg n
    rw [h1, numdI_get] at h4
    cases ho : offs.toList[n]? with
    | none => rw [ho] at h4; simp at h4
    | some o =>
      rw [ho] at h4
      simp only [Option.map_some, Option.some.injEq, Prod.mk.injEq] at h4
      have hn := (List.getElem?_eq_some_iff.mp ho).1
      have hxv : x.toInt = v := by rw [h2]; exact hv v t (List.mem_of_getElem? h1)
      refine lv_tableIn hx hb hd (by omega) (by omega) (off := o) ?_ (by omega) (h3 H locs ls hP hS hl ha)
      rw [show (x.toInt - lo).toNat = n by omega]
      rw [← Array.getElem?_toList]; exact ho
  · refine lv_tableOut hx hb hd ?_ ht (h2 H locs ls hP hS hl ha)
    rw [← Decidable.not_not (p := x.toInt < lo ∨ hi < x.toInt)]
    intro hz
    have hn : (x.toInt - lo).toNat < offs.toList.length := by omega
    have h4 := hg (x.toInt - lo).toNat
    rw [numdI_get, List.getElem?_eq_getElem hn] at h4
    cases hs : sw[(x.toInt - lo).toNat]? with
    | none => rw [hs] at h4; simp at h4
    | some q =>
      rw [hs] at h4
      simp only [Option.map_some, Option.some.injEq, Prod.mk.injEq] at h4
      have hm := List.mem_of_getElem? hs
      refine h1 q.1 q.2 hm ?_
      have := hv q.1 q.2 hm
      exact Int32.toInt_inj.mp (by omega)
theorem sd_lsw (hX : CX p m c s args D cA ad A mm s0) {d : Int} {ps : Array (Int × Int)} {n tp : Nat} {sw : List (Int × Nat)} {x : Int32} {r : List Value} (hd : decode (mnB mm) pc = .ok (.lookupswitch d ps, n)) (ht : (pc : Int) + d = (tp : Int)) (hp : (ps.toList.zip (ps.toList.drop 1)).all (fun (a, next) => a.1 < next.1) = true) (hsw : swT pc ps.toList sw = true)
    (h : swP (fun t => XJ p l e R s m args below meth c Q D cA ad A mm s0 nc ns t loc r g) x tp sw) (hP : va_P D cl10 (wsO cA ad g) H) (hS : va_S A s.heap H locs) (hl : lv_has ls (pmeta mm).2.1 (lvp ad 0 loc)) (ha : agM g s0) : W p l e R s m args below meth c H locs nc ns Q (F0 m pc ls ((Value.int x :: r).map (tvV ad))) := by
  obtain ⟨hx, hb, -⟩ := hX
  have hsw' := hsw
  simp only [swT, Bool.and_eq_true, decide_eq_true_eq] at hsw'
  obtain ⟨t, h1, h2⟩ := lks ht ps.toList sw hsw'.1 (swT_at hsw).2 h
  exact lv_lookup hx hb hd hp rfl h2 (h1 H locs ls hP hS hl ha)
theorem sd_cpy (hX : CX p m c s args D cA ad A mm s0) (hR : 1 ≤ R.frames ∧ 40 ≤ R.locals) (hd : decode (mnB mm) pc = .ok (.invokestatic i, 3)) (hc : cpm (pmeta mm).1 i = some (999, 5, 99, 0)) (h : cpyP (XJ p l e R s m args below meth c Q D cA ad A mm s0 nc ns) (pc + 3) loc stk g) (hP : va_P D cl10 (wsO cA ad g) H) (hS : va_S A s.heap H locs) (hl : lv_has ls (pmeta mm).2.1 (lvp ad 0 loc)) (ha : agM g s0) : W p l e R s m args below meth c H locs nc ns Q (F0 m pc ls (stk.map (tvV ad))) := by
  obtain ⟨hx, hb, hml, hown, hts, hK, hRW, hinj, hAk, -⟩ := hX
  obtain ⟨n, dp, dst, sp, src, r, rfl, ⟨s1, s2, l1, l2, l3⟩, h1, h2, h3, h4, h5, hk⟩ := cpyP_inv h
  have k1 : src < 88 := by rcases shp_int s1 with h | h <;> omega
  have k2 : dst < 88 := by rcases shp_int s2 with h | h <;> omega
  have w1 := wsO_get (cA := cA) (ad := ad) (s := g) k1
  have w2 := wsO_get (cA := cA) (ad := ad) (s := g) k2
  have c1 : celV cA ad g src = .inl (cA 20, (shp src).2, .inl (g src)) := by unfold celV; rw [s1]; rfl
  have c2 : ∀ g : Mem, celV cA ad g dst = .inl (cA 20, (shp dst).2, .inl (g dst)) := fun g => by unfold celV; rw [s2]; rfl
  rw [c1] at w1
  rw [c2] at w2
  have ok2 := List.all_eq_true.mp okA _ (okA9_all _ _ _ _ _ hc).2
  refine va_copyi (ty := .int) hx hb (hml.trans hl.1.symm) hown (hts _ (inG_mem ok2)) (hts _ (inG_mem okA_n.1)) (hts _ (inG_mem okA_n.2.1)) (hts _ (inG_mem okA_n.2.2)) hK hP (wsO_D hinj hAk) hS src dst 0 0 w1 w2 rfl rfl rfl h1 h2 h3 h4 h5 (fun _ _ => rfl) hR.1 ?_ hd (fun H1 locs1 hP1 _ hS1 => ?_)
  · rw [catL_sum]
    have : nativeFrameWords "java/lang/System" "arraycopy" 5 = 7 := by decide +kernel
    omega
  · rw [wsO_set (s' := cpM g src sp.toNatClampNeg dst dp.toNatClampNeg n.toNatClampNeg) k2 (fun i' hi' => cpM_ne hi') (by
      rw [c2]
      congr 4
      funext j
      simp only [cpM, va_cpy, if_true])] at hP1
    exact hk H1 locs1 ls hP1 hS1 hl (fun j hj => by rw [cpM_ne (by omega)]; exact ha j hj)
/-- what callees keep: by their contracts, or, for those that are not run here, by a rule of their own -/
def CallOk (l : Launch) (D : va_G) (cA : Nat → ClassId) (ad : Nat → Nat) (rm : Room) (cl : Call) : Prop :=
  ∀ (m' : Nat) (as : List Value) (g : Mem) (q : Post), m' < 258 → cl m' as g q → ∀ sz, Met l (mnY m') (wsM m') rm (PRM D cA ad as g sz) (QRM D cA ad (pmeta m').2.2 q g sz) 0 0 (AR ad sz)
theorem AR_in (hX : CX p m c s args D cA ad A mm s0) (hS : va_S A s.heap H locs) : ∀ q, AR ad H.size q → A q := by
  obtain ⟨-, -, -, -, -, -, -, -, hAk, hAs⟩ := hX
  rintro q (⟨k, hk, rfl⟩ | h)
  · exact hAk k hk
  · exact hAs q (Nat.le_trans hS.1 h)
theorem pre_U (hX : CX p m c s args D cA ad A mm s0) {as : List Value} (hP : va_P D cl10 (wsO cA ad g) H) (hS : va_S A s.heap H locs) (ha : agM g s0) : ∀ U : State, U.heap = H → s.WarmedH U.vm → PRM D cA ad as g H.size (as.map (tvV ad)).toArray U := by
  have hA := AR_in hX hS
  obtain ⟨-, -, -, -, -, hK, hRW, -⟩ := hX
  intro U hU hW
  refine ⟨rfl, by rw [hU], by rw [hU]; exact hP, va_K.moved hW.alike hK, ?_⟩
  rw [hU]
  exact (((hRW.warm hW).kept hS.2.1).narrow hA).mem ha
/-- behind a call: the answer by its kind -/
theorem sd_back (hX : CX p m c s args D cA ad A mm s0) {cl : Call} {m' rk : Nat} {as r : List Value} {st0 : List Value} {aa : Array Value} (q : Post)
    (hq0 : rk = 0 → ∀ u, q none u → XJ p l e R s m args below meth c Q D cA ad A mm s0 nc ns (pc + 3) loc r u) (hq1 : rk = 1 ∨ rk = 2 → ∀ x u, q (some (.int x)) u → XJ p l e R s m args below meth c Q D cA ad A mm s0 nc ns (pc + 3) loc (.int x :: r) u) (hq3 : rk = 3 → ∀ x u, q (some (.long x)) u → XJ p l e R s m args below meth c Q D cA ad A mm s0 nc ns (pc + 3) loc (.long x :: r) u)
    (hq4 : 4 ≤ rk → (∀ k u, q (some (.ref k)) u → XJ p l e R s m args below meth c Q D cA ad A mm s0 nc ns (pc + 3) loc (.ref k :: r) u) ∧ (∀ u, q (some .null) u → XJ p l e R s m args below meth c Q D cA ad A mm s0 nc ns (pc + 3) loc (.null :: r) u))
    (hr : va_Run p l e R s m args below meth c H locs nc ns 0 0 (F0 m pc ls st0) (r.map (tvV ad)) (QRM D cA ad rk q g H.size aa) (AR ad H.size)) (hS : va_S A s.heap H locs) (hl : lv_has ls (pmeta mm).2.1 (lvp ad 0 loc)) (ha : agM g s0) : W p l e R s m args below meth c H locs nc ns Q (F0 m pc ls st0) := by
  have hA := AR_in hX hS
  have ag2 : ∀ u, agM u g → agM u s0 := fun u h j hj => (h j hj).trans (ha j hj)
  unfold QRM at hr
  split at hr
  · refine va_callv hr hS (fun q _ h => hA q h) hA (fun u t H1 locs1 ht hvm hw hB hz1 hk1 hS1 => ?_)
    rw [ht] at hB
    exact hq0 rfl u hw.1 H1 locs1 ls hB hS1 hl (ag2 u hw.2)
  · refine va_calli hr hS (fun q _ h => hA q h) hA (fun x u t H1 locs1 ht hvm hw hB hz1 hk1 hS1 => ?_)
    rw [ht] at hB
    exact hq1 (Or.inl rfl) x u hw.1 H1 locs1 ls hB hS1 hl (ag2 u hw.2)
  · refine va_calli hr hS (fun q _ h => hA q h) hA (fun x u t H1 locs1 ht hvm hw hB hz1 hk1 hS1 => ?_)
    rw [ht] at hB
    exact hq1 (Or.inr rfl) x u hw.1 H1 locs1 ls hB hS1 hl (ag2 u hw.2)
  · refine va_calll hr hS (fun q _ h => hA q h) hA (fun x u t H1 locs1 ht hvm hw hB hz1 hk1 hS1 => ?_)
    rw [ht] at hB
    exact hq3 rfl x u hw.1 H1 locs1 ls hB hS1 hl (ag2 u hw.2)
  · next n0 n1 n2 n3 =>
    have h4 : 4 ≤ rk := by
      rcases rk with _ | _ | _ | _ | k
      · exact absurd rfl n0
      · exact absurd rfl n1
      · exact absurd rfl n2
      · exact absurd rfl n3
      · omega
    refine va_callq hr hS (fun q _ h => hA q h) hA (fun x u t H1 locs1 ht hvm hw hB hz1 hk1 hS1 => ?_)
    rw [ht] at hB
    rcases hw.1 with ⟨k, rfl, h1⟩ | ⟨rfl, h1⟩
    · exact (hq4 h4).1 k u h1 H1 locs1 ls hB hS1 hl (ag2 u hw.2)
    · exact (hq4 h4).2 u h1 H1 locs1 ls hB hS1 hl (ag2 u hw.2)
/-- what a call's answer becomes, as a post of the callee -/
def bhQ (rk : Nat) (k : Cont) (np : Nat) (loc r : List Value) : Post :=
  match rk with
  | 0 => liV (fun s' => k np loc r s')
  | 1 => liI (fun x s' => k np loc (.int x :: r) s')
  | 2 => liI (fun x s' => k np loc (.int x :: r) s')
  | 3 => liL (fun x s' => k np loc (.long x :: r) s')
  | _ => liR (fun q s' => k np loc (.ref q :: r) s') (fun s' => k np loc (.null :: r) s')
theorem bhC_Q {c : Call} {m rk : Nat} {as : List Value} {s : Mem} {k : Cont} {np : Nat} {loc r : List Value} (h : bhC c m rk as s k np loc r) : c m as s (bhQ rk k np loc r) := by
  unfold bhC at h
  unfold bhQ
  split at h <;> first | exact h | (split <;> first | exact h | contradiction)
end Snd
