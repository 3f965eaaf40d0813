/-! what holds of the smaller machine -/
def CallMono (c : Call) : Prop := ∀ m as s (q q' : Post), (∀ r t, q r t → q' r t) → c m as s q → c m as s q'
theorem li_V {k k' : Mem → Prop} (h : ∀ s, k s → k' s) : ∀ r t, liV k r t → liV k' r t := by
  intro r t; unfold liV; split <;> simp_all
theorem li_I {k k' : Int32 → Mem → Prop} (h : ∀ x s, k x s → k' x s) : ∀ r t, liI k r t → liI k' r t := by
  intro r t; unfold liI; split <;> simp_all
theorem li_L {k k' : Int64 → Mem → Prop} (h : ∀ x s, k x s → k' x s) : ∀ r t, liL k r t → liL k' r t := by
  intro r t; unfold liL; split <;> simp_all
theorem li_R {k k' : Nat → Mem → Prop} {n n' : Mem → Prop} (h : ∀ x s, k x s → k' x s) (hn : ∀ s, n s → n' s) : ∀ r t, liR k n r t → liR k' n' r t := by
  intro r t; unfold liR; split <;> simp_all
theorem bhC_mono {c : Call} (hc : CallMono c) {m rk : Nat} {as : List Value} {s : Mem} {k k' : Cont} {np : Nat} {loc r : List Value} (h : ∀ pc loc stk s, k pc loc stk s → k' pc loc stk s) : bhC c m rk as s k np loc r → bhC c m rk as s k' np loc r := by
  unfold bhC
  split
  · exact hc _ _ _ _ _ (li_V fun s => h _ _ _ s)
  · exact hc _ _ _ _ _ (li_I fun x s => h _ _ _ s)
  · exact hc _ _ _ _ _ (li_I fun x s => h _ _ _ s)
  · exact hc _ _ _ _ _ (li_L fun x s => h _ _ _ s)
  · exact hc _ _ _ _ _ (li_R (fun x s => h _ _ _ s) (fun s => h _ _ _ s))
theorem swP_mono {k k' : Nat → Prop} (h : ∀ t, k t → k' t) (x : Int32) (d : Nat) : ∀ l, swP k x d l → swP k' x d l
  | [] => h _
  | (v, o) :: r => by
    unfold swP
    split
    · exact h _
    · exact swP_mono h x d r
theorem lsetK_mono {k k' : List Value → Prop} (h : ∀ l, k l → k' l) (x : Value) : ∀ (l : List Value) (n : Nat), lsetK l n x k → lsetK l n x k'
  | [], _ => h _
  | _ :: _, 0 => h _
  | v :: r, n + 1 => lsetK_mono (fun _ => h _) x r n
theorem cutK_mono {k k' : Value → Prop} (h : ∀ l, k l → k' l) (v : Value) : cutK v k → cutK v k' := by
  unfold cutK; split <;> exact h _
theorem lst1K_mono (z : Value) : ∀ (l : List Value) (n : Nat) {k k' : List Value → Prop} (_ : ∀ l, k l → k' l), lst1K l n z k → lst1K l n z k'
  | [], _, _, _, h => by simp only [lst1K]; exact h _
  | v :: r, 0, _, _, h => h _
  | v :: r, 1, _, _, h => cutK_mono (fun _ => lsetK_mono (fun _ => h _) z _ _) v
  | v :: r, n + 2, _, _, h => lst1K_mono z r (n + 1) (fun _ => h _)
theorem lst2K_mono {k k' : List Value → Prop} (h : ∀ l, k l → k' l) (x : Value) (l : List Value) (n : Nat) : lst2K l n x k → lst2K l n x k' := lst1K_mono x l n (fun l' => lsetK_mono h _ _ _)
theorem frgK_mono {k k' : List Value → Prop} (h : ∀ l, k l → k' l) : ∀ (ns : List Nat) (l : List Value), frgK ns l k → frgK ns l k'
  | [], _ => h _
  | n :: r, l => lsetK_mono (fun l' => frgK_mono h r l') _ _ _
theorem takK_mono {k k' : List Value → List Value → Prop} (h : ∀ a r, k a r → k' a r) : ∀ (n : Nat) (st a : List Value), takK n st a k → takK n st a k'
  | 0, _, _ => h _ _
  | _ + 1, [], _ => id
  | n + 1, v :: st, a => takK_mono h n st (v :: a)
theorem br2_mono {cd : Jvm.ClassFile.Cond} {x y : Int32} {t f t' f' : Prop} (ht : t → t') (hf : f → f') : br2 cd x y t f → br2 cd x y t' f' := by
  unfold br2
  cases cd <;> (simp only []; split <;> assumption)
theorem cnd_mono {b : Bool} {p q : Prop} (h : p → q) : (bif b then p else False) → (bif b then q else False) := by
  cases b <;> simp_all
theorem cnd_mono2 {b : Bool} {p q p' q' : Prop} (h : p → q) (h' : p' → q') : (bif b then p else p') → (bif b then q else q') := by
  cases b <;> simp_all
theorem ite_mono {c : Prop} [Decidable c] {p q p' q' : Prop} (h : p → q) (h' : p' → q') : (if c then p else p') → (if c then q else q') := by
  by_cases hc : c <;> simp only [hc, if_true, if_false] <;> assumption
section Mono
variable {c : Call} {k k' : Cont}
variable {pc np tp : Nat} {sw : List (Int × Nat)} {loc stk : List Value} {s : Mem} {n : Nat}
theorem ldI_mono (hk : ∀ pc loc stk s, k pc loc stk s → k' pc loc stk s) : ldI k np loc stk s n → ldI k' np loc stk s n := by
  unfold ldI; split <;> first | exact hk _ _ _ _ | exact id
theorem ldL_mono (hk : ∀ pc loc stk s, k pc loc stk s → k' pc loc stk s) : ldL k np loc stk s n → ldL k' np loc stk s n := by
  unfold ldL; split <;> first | exact hk _ _ _ _ | exact id
theorem ldA_mono (hk : ∀ pc loc stk s, k pc loc stk s → k' pc loc stk s) : ldA k np loc stk s n → ldA k' np loc stk s n := by
  unfold ldA; split <;> first | exact hk _ _ _ _ | exact id
theorem stI_mono (hk : ∀ pc loc stk s, k pc loc stk s → k' pc loc stk s) : stI k np loc stk s n → stI k' np loc stk s n := by
  unfold stI; split <;> first | exact lst1K_mono _ _ _ (fun _ => hk _ _ _ _) | exact id
theorem stL_mono (hk : ∀ pc loc stk s, k pc loc stk s → k' pc loc stk s) : stL k np loc stk s n → stL k' np loc stk s n := by
  unfold stL; split <;> first | exact lst2K_mono (fun _ => hk _ _ _ _) _ _ _ | exact id
theorem stA_mono (hk : ∀ pc loc stk s, k pc loc stk s → k' pc loc stk s) : stA k np loc stk s n → stA k' np loc stk s n := by
  unfold stA; split <;> first | exact lst1K_mono _ _ _ (fun _ => hk _ _ _ _) | exact id
theorem ii_mono (hk : ∀ pc loc stk s, k pc loc stk s → k' pc loc stk s) {f : Int32 → Int32 → Int32} : ii k np loc stk s f → ii k' np loc stk s f := by
  unfold ii; split <;> first | exact hk _ _ _ _ | exact id
theorem ll_mono (hk : ∀ pc loc stk s, k pc loc stk s → k' pc loc stk s) {f : Int64 → Int64 → Int64} : ll k np loc stk s f → ll k' np loc stk s f := by
  unfold ll; split <;> first | exact hk _ _ _ _ | exact id
theorem getF_mono (hk : ∀ pc loc stk s, k pc loc stk s → k' pc loc stk s) {e : Option (Nat × Nat × Nat × Nat)} : getF k np loc stk s e → getF k' np loc stk s e := by
  unfold getF
  split
  · exact id
  · split
    · refine cnd_mono ?_
      split
      · exact hk _ _ _ _
      · exact hk _ _ _ _
      · split <;> exact hk _ _ _ _
      · exact hk _ _ _ _
    · exact id
theorem putF_mono (hk : ∀ pc loc stk s, k pc loc stk s → k' pc loc stk s) {e : Option (Nat × Nat × Nat × Nat)} : putF k np loc stk s e → putF k' np loc stk s e := by
  unfold putF
  split
  · exact id
  · split
    · split
      · exact cnd_mono (hk _ _ _ _)
      · exact id
    · split
      · exact cnd_mono (ite_mono (hk _ _ _ _) id)
      · exact id
    · split
      · exact cnd_mono (ite_mono (hk _ _ _ _) id)
      · exact id
    · exact id
theorem arL_mono (hk : ∀ pc loc stk s, k pc loc stk s → k' pc loc stk s) {kd : Nat} : arL k np loc stk s kd → arL k' np loc stk s kd := by
  unfold arL; split
  · exact cnd_mono (ite_mono id (hk _ _ _ _))
  · exact id
theorem arB_mono (hk : ∀ pc loc stk s, k pc loc stk s → k' pc loc stk s) : arB k np loc stk s → arB k' np loc stk s := by
  unfold arB; split
  · exact cnd_mono (ite_mono id (hk _ _ _ _))
  · exact id
theorem asI_mono (hk : ∀ pc loc stk s, k pc loc stk s → k' pc loc stk s) : asI k np loc stk s → asI k' np loc stk s := by
  unfold asI; split
  · exact cnd_mono (ite_mono id (hk _ _ _ _))
  · exact id
theorem asB_mono (hk : ∀ pc loc stk s, k pc loc stk s → k' pc loc stk s) : asB k np loc stk s → asB k' np loc stk s := by
  unfold asB; split
  · exact cnd_mono2 (ite_mono id (hk _ _ _ _)) (cnd_mono (ite_mono id (hk _ _ _ _)))
  · exact id
theorem cpyP_mono (hk : ∀ pc loc stk s, k pc loc stk s → k' pc loc stk s) : cpyP k np loc stk s → cpyP k' np loc stk s := by
  unfold cpyP; split
  · exact cnd_mono (ite_mono (hk _ _ _ _) id)
  · exact id
theorem scL_mono (hk : ∀ pc loc stk s, k pc loc stk s → k' pc loc stk s) : scL k np loc stk s → scL k' np loc stk s := by
  unfold scL; split
  · exact cnd_mono (ite_mono id (hk _ _ _ _))
  · exact id
theorem scN_mono (hk : ∀ pc loc stk s, k pc loc stk s → k' pc loc stk s) : scN k np loc stk s → scN k' np loc stk s := by
  unfold scN; split
  · exact cnd_mono (ite_mono id (hk _ _ _ _))
  · exact id
theorem arN_mono (hk : ∀ pc loc stk s, k pc loc stk s → k' pc loc stk s) : arN k np loc stk s → arN k' np loc stk s := by
  unfold arN; split
  · exact cnd_mono (hk _ _ _ _)
  · exact id
theorem ivS_mono (hk : ∀ pc loc stk s, k pc loc stk s → k' pc loc stk s) (hc : CallMono c) {e : Option (Nat × Nat × Nat × Nat)} : ivS c k np loc stk s e → ivS c k' np loc stk s e := by
  unfold ivS; split
  · exact id
  · exact cnd_mono2 (cpyP_mono hk) (takK_mono (fun _ _ => cnd_mono (bhC_mono hc hk)) _ _ _)
theorem ivV_mono (hk : ∀ pc loc stk s, k pc loc stk s → k' pc loc stk s) (hc : CallMono c) {e : Option (Nat × Nat × Nat × Nat)} : ivV c k np loc stk s e → ivV c k' np loc stk s e := by
  unfold ivV; split
  · exact id
  · refine takK_mono (fun _ r => ?_) _ _ _
    split
    · exact cnd_mono (bhC_mono hc hk)
    · exact id
theorem stepI_mono (hk : ∀ pc loc stk s, k pc loc stk s → k' pc loc stk s) (hc : CallMono c) {m : Nat} {q q' : Post} (hq : ∀ r t, q r t → q' r t) (ins : Instr) : stepI c m k q np tp sw loc stk s ins → stepI c m k' q' np tp sw loc stk s ins := by
  cases ins
  case ireturn =>
    dsimp only [stepI]
    split
    · exact cnd_mono2 (ite_mono (hq _ _) id) (hq _ _)
    · exact id
  all_goals
    dsimp only [stepI]
    first
    | exact id
    | exact hk _ _ _ _
    | exact ldI_mono hk
    | exact ldL_mono hk
    | exact ldA_mono hk
    | exact stI_mono hk
    | exact stL_mono hk
    | exact stA_mono hk
    | exact ii_mono hk
    | exact ll_mono hk
    | exact getF_mono hk
    | exact putF_mono hk
    | exact arL_mono hk
    | exact arB_mono hk
    | exact asI_mono hk
    | exact asB_mono hk
    | exact cnd_mono2 (scL_mono hk) (arL_mono hk)
    | exact cnd_mono2 (scN_mono hk) (arN_mono hk)
    | exact ivS_mono hk hc
    | exact ivV_mono hk hc
    | (split <;> first | exact id | exact hk _ _ _ _ | exact hq _ _ | exact ite_mono id (hk _ _ _ _) | exact br2_mono (hk _ _ _ _) (hk _ _ _ _) | exact swP_mono (fun t => hk t _ _ _) _ _ _ | exact lst1K_mono _ _ _ (fun _ => hk _ _ _ _) | exact cnd_mono (ite_mono id (hk _ _ _ _)) | exact cnd_mono (hk _ _ _ _))
theorem stP_mono (hk : ∀ pc loc stk s, k pc loc stk s → k' pc loc stk s) (hc : CallMono c) {m : Nat} {q q' : Post} (hq : ∀ r t, q r t → q' r t) : stP c m k q pc loc stk s → stP c m k' q' pc loc stk s := by
  unfold stP
  split
  · exact frgK_mono (fun _ => stepI_mono hk hc hq _) _ _
  · exact id
end Mono
theorem rnP_in {c : Call} (hc : CallMono c) {m : Nat} {q : Post} {pc : Nat} {loc stk : List Value} {s : Mem} (h : stP c m (rnP c m q) q pc loc stk s) : rnP c m q pc loc stk s := fun X hX => hX _ _ _ _ (stP_mono (fun _ _ _ _ g => g X hX) hc (fun _ _ => id) h)
theorem rnP_out {c : Call} (hc : CallMono c) {m : Nat} {q : Post} {pc : Nat} {loc stk : List Value} {s : Mem} (h : rnP c m q pc loc stk s) : stP c m (rnP c m q) q pc loc stk s :=
  h (fun pc loc stk s => stP c m (rnP c m q) q pc loc stk s) (fun _ _ _ _ g => stP_mono (fun _ _ _ _ g => rnP_in hc g) hc (fun _ _ => id) g)
theorem rnP_mono {c : Call} (hc : CallMono c) {m : Nat} {q q' : Post} (hq : ∀ r t, q r t → q' r t) {pc : Nat} {loc stk : List Value} {s : Mem} (h : rnP c m q pc loc stk s) : rnP c m q' pc loc stk s :=
  h (rnP c m q') (fun _ _ _ _ g => rnP_in hc (stP_mono (fun _ _ _ _ => id) hc hq g))
theorem primP_mono {c : Call} (hc : CallMono c) {m : Nat} {as : List Value} {s : Mem} {q q' : Post} (hq : ∀ r t, q r t → q' r t) : primP c m as s q → primP c m as s q' := by
  unfold primP
  refine cnd_mono2 ?_ (cnd_mono2 ?_ (cnd_mono2 ?_ (cnd_mono2 ?_ (cnd_mono2 ?_ (cnd_mono2 ?_ (cnd_mono ?_))))))
  · split
    · exact And.imp id (And.imp id (And.imp (fun h g => hc _ _ _ _ _ (li_I fun _ _ => hq _ _) (h g)) (fun h g => hq _ _ (h g))))
    · exact id
  · split
    · exact ite_mono (hq _ _) id
    · exact id
  · split
    · exact ite_mono (hq _ _) id
    · exact id
  all_goals
    split
    · exact hq _ _
    · exact id
theorem wp_mono : ∀ d, CallMono (wp d)
  | 0 => fun _ _ _ _ _ _ h => h
  | d + 1 => fun m as s q q' hq => cnd_mono2 (primP_mono (wp_mono d) hq) (cnd_mono (rnP_mono (wp_mono d) hq))
theorem rn_iff {d m : Nat} {q : Post} {pc : Nat} {loc stk : List Value} {s : Mem} : Rn d m q pc loc stk s ↔ stP (wp d) m (Rn d m q) q pc loc stk s := ⟨rnP_out (wp_mono d), rnP_in (wp_mono d)⟩
/-- instructions in a row, up to the stops -/
def stN (c : Call) (m : Nat) (q : Post) (K : Cont) (stops : List Nat) : Nat → Cont
  | 0 => K
  | n + 1 => fun pc loc stk s => bif stops.elem pc then K pc loc stk s else stP c m (stN c m q K stops n) q pc loc stk s
theorem stN_iff {d m : Nat} {q : Post} (stops : List Nat) : ∀ (n pc : Nat) (loc stk : List Value) (s : Mem), stN (wp d) m q (Rn d m q) stops n pc loc stk s ↔ Rn d m q pc loc stk s
  | 0, _, _, _, _ => Iff.rfl
  | n + 1, pc, loc, stk, s => by
    unfold stN
    cases stops.elem pc
    · refine Iff.trans ⟨?_, ?_⟩ rn_iff.symm
      · exact stP_mono (fun _ _ _ _ h => (stN_iff stops n _ _ _ _).mp h) (wp_mono d) (fun _ _ => id)
      · exact stP_mono (fun _ _ _ _ h => (stN_iff stops n _ _ _ _).mpr h) (wp_mono d) (fun _ _ => id)
    · exact Iff.rfl
/-- a stretch of a body: the first instruction, then up to the stops -/
theorem rgn {d m : Nat} {q : Post} (stops : List Nat) (n : Nat) {pc : Nat} {loc stk : List Value} {s : Mem} : Rn d m q pc loc stk s ↔ stP (wp d) m (stN (wp d) m q (Rn d m q) stops n) q pc loc stk s :=
  rn_iff.trans ⟨stP_mono (fun _ _ _ _ h => (stN_iff stops n _ _ _ _).mpr h) (wp_mono d) (fun _ _ => id), stP_mono (fun _ _ _ _ h => (stN_iff stops n _ _ _ _).mp h) (wp_mono d) (fun _ _ => id)⟩
theorem rgnE {d m : Nat} {q : Post} (stops : List Nat) (n : Nat) {pc : Nat} {loc stk : List Value} {s : Mem} {T : Prop} (h : stP (wp d) m (stN (wp d) m q (Rn d m q) stops n) q pc loc stk s = T) : Rn d m q pc loc stk s = T := (propext (rgn stops n)).trans h
theorem wpR {d m : Nat} {as : List Value} {s : Mem} {q : Post} {T : Prop} (hm : Nat.ble 900 m = false) (h : entK m as (fun l => Rn d m q 0 l [] s) = T) : wp (d + 1) m as s q = T := by
  refine Eq.trans ?_ h
  show (bif Nat.ble 900 m then _ else _) = _
  rw [hm, cond_false]
  rfl
theorem wpE {d m : Nat} {as : List Value} {s : Mem} {q : Post} (stops : List Nat) (n : Nat) {T : Prop} (hm : Nat.ble 900 m = false) (h : entK m as (fun l => stP (wp d) m (stN (wp d) m q (Rn d m q) stops n) q 0 l [] s) = T) : wp (d + 1) m as s q = T := by
  refine Eq.trans ?_ h
  show (bif Nat.ble 900 m then _ else _) = _
  rw [hm, cond_false]
  refine congrArg (entK m as) (funext fun l => ?_)
  exact rgnE stops n rfl
