/-! constructors: rows -/
theorem at_byte : Cond.arrayClass .byte ∈ WT := WT_1 41 rfl rfl
theorem at_int : Cond.arrayClass .int ∈ WT := WT_1 108 rfl rfl
theorem at_bool : Cond.arrayClass .boolean ∈ WT := WT_1 109 rfl rfl
theorem kl_X7_9 : Cond.classLink RX7 9 RX6 ∈ WT := WT_1 25 rfl rfl
theorem kl_X7_16 : Cond.classLink RX7 16 RX1 ∈ WT := WT_1 42 rfl rfl
theorem kl_X1_22 : Cond.classLink RX1 22 "[[I" ∈ WT := WT_1 48 rfl rfl
theorem kl_X7_29 : Cond.classLink RX7 29 RX2 ∈ WT := WT_1 110 rfl rfl
theorem kl_X7_38 : Cond.classLink RX7 38 RX0 ∈ WT := WT_1 147 rfl rfl
theorem kl_X0_9 : Cond.classLink RX0 9 "[[I" ∈ WT := WT_1 153 rfl rfl
theorem kl_X7_47 : Cond.classLink RX7 47 RX5 ∈ WT := WT_1 177 rfl rfl
theorem kl_X5_25 : Cond.classLink RX5 25 RX3 ∈ WT := WT_1 183 rfl rfl
theorem kl_X3_9 : Cond.classLink RX3 9 "[[I" ∈ WT := WT_1 189 rfl rfl
theorem kl_X7_62 : Cond.classLink RX7 62 RX4 ∈ WT := WT_1 233 rfl rfl
theorem kl_L_7 : Cond.classLink RL 7 RX7 ∈ WT := WT_1 17 rfl rfl
theorem kl_L_10 : Cond.classLink RL 10 RX8 ∈ WT := WT_4 113 rfl rfl
theorem ki_X7 : Cond.instantiable RX7 12 ∈ WT := WT_1 18 rfl rfl
theorem ki_X6 : Cond.instantiable RX6 2 ∈ WT := WT_1 26 rfl rfl
theorem ki_X1 : Cond.instantiable RX1 12 ∈ WT := WT_1 43 rfl rfl
theorem ki_X2 : Cond.instantiable RX2 9 ∈ WT := WT_1 111 rfl rfl
theorem ki_X0 : Cond.instantiable RX0 6 ∈ WT := WT_1 148 rfl rfl
theorem ki_X5 : Cond.instantiable RX5 6 ∈ WT := WT_1 178 rfl rfl
theorem ki_X3 : Cond.instantiable RX3 5 ∈ WT := WT_1 184 rfl rfl
theorem ki_X4 : Cond.instantiable RX4 3 ∈ WT := WT_1 235 rfl rfl
theorem ki_X8 : Cond.instantiable RX8 31 ∈ WT := WT_4 114 rfl rfl
def AAi (U : State) : Prop := (Cond.arrayOver (.array .int)).before #[] U = true
theorem AAi.moved {u U : State} (hvm : u.vm.Alike U.vm) (h : AAi u) : AAi U := by
  unfold AAi Cond.before Cond.holds at h ⊢
  simp only [Cond.value, beq_iff_eq] at h ⊢
  rw [hvm.findClass]
  cases hc : u.vm.findClass (FieldType.array .int).toString with
  | none => simp [hc] at h
  | some comp =>
    simp only [hc, Option.bind_some, Option.bind_eq_some_iff, Option.map_eq_some_iff] at h
    obtain ⟨c, hi, k, hk, hb⟩ := h
    obtain ⟨k', hk', he⟩ := hvm.2.2 _ _ hk
    have hi2 : (U.vm.classes.findIdx? fun (x : Class) => match x.kind with | .array component _ => component == comp | _ => false) = some c := by
      have b1 := va_idx_bare U.vm comp
      have b2 := va_idx_bare u.vm comp
      have b3 : U.vm.bare = u.vm.bare := by first | exact hvm.bare_eq | exact hvm.bare_eq.symm
      rw [b3] at b1
      exact b1.symm.trans (b2.trans hi)
    rw [Option.bind_some]
    refine (congrArg (fun o : Option Nat => o.bind (fun c => (U.vm.classes[c]?).map fun (k : Class) => match k.kind with | .array _ ty => decide (ty = FieldType.array .int) && decide (U.vm.findClass ("[" ++ (FieldType.array .int).toString) = some c) | _ => false)) hi2).trans ?_
    rw [Option.bind_some, hk', Option.map_some, he, hvm.findClass]
    exact congrArg some hb
/-- nest links, array classes over classes -/
def XN (U : State) : Prop := (∀ w ∈ NT, va_Nw w U) ∧ va_AO RX1 U ∧ va_AO RX4 U ∧ AAi U
theorem XN_mv {s U : State} (hW : s.WarmedH U.vm) (h : XN s) : XN U := ⟨NT_warm hW h.1, va_AO.moved hW.alike h.2.1, va_AO.moved hW.alike h.2.2.1, AAi.moved hW.alike h.2.2.2⟩
theorem va_D1 (x : Nat × va_E) (sz : Nat) : va_D (va_A [x] sz) [x] := by
  refine ⟨fun i j p q hi hj _ => ?_, fun k q hk => Or.inl ⟨k, q.2, hk⟩⟩
  have h1 : i < 1 := (List.getElem?_eq_some_iff.mp hi).1
  have h2 : j < 1 := (List.getElem?_eq_some_iff.mp hj).1
  omega
/-- what came back from a constructor beside the rest -/
theorem va_jl {A : Nat → Prop} {D : va_G} {wr w1 : va_W} {b : Nat} {e0 : va_E} {H H1 : Heap} (hP : va_P D vwCl (wr ++ [(b, e0)]) H) (hD : va_D A (wr ++ [(b, e0)])) (hk : ∀ q : Nat, q < H.size → ¬ va_A [(b, e0)] H.size q → H1[q]? = H[q]?) (hF : ∀ q, va_A [(b, e0)] H.size q → A q) (hP1 : va_P D vwCl w1 H1) (hD1 : va_D (va_A [(b, e0)] H.size) w1) : va_P D vwCl (wr ++ w1) H1 ∧ va_D A (wr ++ w1) := by
  have hb : (wr ++ [(b, e0)])[wr.length]? = some (b, e0) := by rw [List.getElem?_append_right (Nat.le_refl _), Nat.sub_self]; rfl
  have old : ∀ (k : Nat) (x : Nat × va_E), k < wr.length → (wr ++ w1)[k]? = some x → (wr ++ [(b, e0)])[k]? = some x := fun k x h hx => by
    rw [List.getElem?_append_left h] at hx ⊢
    exact hx
  have nA : ∀ (k : Nat) (x : Nat × va_E), k < wr.length → (wr ++ [(b, e0)])[k]? = some x → x.1 < H.size ∧ ¬ va_A [(b, e0)] H.size x.1 := fun k x h hx => by
    have hlt := (hP k x hx).lt
    refine ⟨hlt, ?_⟩
    rintro (⟨j, e, hj⟩ | hj)
    · have h1 : j < 1 := (List.getElem?_eq_some_iff.mp hj).1
      rw [show j = 0 by omega] at hj
      have h2 : x.1 = b := (congrArg Prod.fst (Option.some.inj hj)).symm
      have := hD.1 k wr.length x (b, e0) hx hb h2
      omega
    · omega
  have new : ∀ (k : Nat) (x : Nat × va_E), ¬ k < wr.length → (wr ++ w1)[k]? = some x → w1[k - wr.length]? = some x := fun k x h hx => by
    rw [List.getElem?_append_right (by omega)] at hx
    exact hx
  refine ⟨fun k x hx => ?_, fun i j x y hi hj e => ?_, fun k x hx => ?_⟩
  · by_cases h : k < wr.length
    · obtain ⟨n1, n2⟩ := nA k x h (old k x h hx)
      exact (hP k x (old k x h hx)).kept (hk x.1 n1 n2)
    · exact hP1 _ x (new k x h hx)
  · by_cases h : i < wr.length
    · by_cases g : j < wr.length
      · exact hD.1 i j x y (old i x h hi) (old j y g hj) e
      · exact absurd (e ▸ hD1.2 _ y (new j y g hj)) (nA i x h (old i x h hi)).2
    · by_cases g : j < wr.length
      · exact absurd (e ▸ hD1.2 _ x (new i x h hi)) (nA j y g (old j y g hj)).2
      · have := hD1.1 _ _ x y (new i x h hi) (new j y g hj) e
        omega
  · by_cases h : k < wr.length
    · exact hD.2 k x (old k x h hx)
    · exact hF _ (hD1.2 _ x (new k x h hx))
abbrev PI (D : va_G) (ac : Nat → ClassId) (As : List Value) (sz : Nat) (x : Nat × va_E) : Array Value → State → Prop := va_Pc As (fun U => U.heap.size = sz ∧ va_P D vwCl [x] U.heap ∧ va_K D vwCl (tysC ac) U ∧ XN U)
abbrev QI0 {S : Type} (D : va_G) (ac : Nat → ClassId) (sz : Nat) (x : Nat × va_E) (post : S → va_W) : Array Value → State → Outcome → State → Prop := va_Qv (fun _ : S => True) (fun u t => va_P D vwCl (post u) t.heap ∧ va_D (va_A [x] sz) (post u)) (va_A [x] sz)
/-- a constructor's contract: what its cells are behind it -/
def KT {S : Type} (l : Launch) (D : va_G) (ac : Nat → ClassId) (y : MethodName) (cc : ByteArray) (mL : Nat) (rm : Room) (As : List Value) (x : Nat × va_E) (post : S → va_W) : Prop := ∀ sz : Nat, Met l y (Cond.code y cc mL none :: WT) rm (PI D ac As sz x) (QI0 D ac sz x post) rm.cells rm.slots (va_A [x] sz)
def Cg (p : Program) (s : State) (m : MethodId) (args : Array Value) (meth : Method) (c : Code) (D : va_G) (ac : Nat → ClassId) (A : Nat → Prop) (own : String) (cc : ByteArray) (nL : Nat) : Prop := CallFix p m c cc nL s args WT own ∧ va_K D vwCl (tysC ac) s ∧ XN s ∧ meth.locks = false ∧ meth.name = "<init>" ∧ (∀ q, s.heap.size ≤ q → A q) ∧ meth.sig.returnType = none
section
variable {l : Launch} {D : va_G} {ac : Nat → ClassId} {p : Program} {e : Env} {R : Room} {s : State} {m : MethodId} {args : Array Value} {below : List Frame} {meth : Method} {c : Code} {own : String} {cc : ByteArray} {nL : Nat} {Q : State → Prop} {pc : Nat} {ls : Array Slot} {rest : List Value} {A : Nat → Prop} {H : Heap} {locs : List Loc} {cells slots : Nat} {ws : va_W}
theorem Cg.x (C : Cg p s m args meth c D ac A own cc nL) : p.tables.exec = Jvm.exec := C.1.1
theorem Cg.b (C : Cg p s m args meth c D ac A own cc nL) : c.code = cc := C.1.2.1
theorem Cg.ml (C : Cg p s m args meth c D ac A own cc nL) : c.maxLocals = nL := C.1.2.2.1
theorem Cg.ow (C : Cg p s m args meth c D ac A own cc nL) : s.vm.findClass own = some m.cls := C.1.2.2.2.1
theorem Cg.t (C : Cg p s m args meth c D ac A own cc nL) : ∀ w ∈ WT, w.before args s = true := C.1.2.2.2.2
theorem Cg.w (C : Cg p s m args meth c D ac A own cc nL) {w : Cond} (h : w ∈ WT) : w.before args s = true := C.1.2.2.2.2 w h
theorem Cg.K (C : Cg p s m args meth c D ac A own cc nL) : va_K D vwCl (tysC ac) s := C.2.1
theorem Cg.hA (C : Cg p s m args meth c D ac A own cc nL) : ∀ q, s.heap.size ≤ q → A q := C.2.2.2.2.2.1
theorem ac_eq (C : Cg p s m args meth c D ac A own cc nL) {t : Nat} {ty : FieldType} (ht : (tysC ac)[t]? = some (ac t, ty)) (hno : ∀ C, ty ≠ .object C) {cA : ClassId} (h : va_RA s cA ty) : cA = ac t := by
  have h2 := (C.K.2 t _ ht).2
  cases ty <;> first | exact Option.some.inj (h.symm.trans h2) | exact absurd rfl (hno _)
theorem k_newi (C : Cg p s m args meth c D ac A own cc nL) (hP : va_P D vwCl ws H) (hD : va_D A ws) (hS : va_S A s.heap H locs) {n : Int32} (N : Nat) (hn : ¬ n < 0) (hN : n.toNatClampNeg = N) (hb : N * 4 ≤ 536870912) (hc : cells + 1 ≤ R.cells) (hs : slots + N ≤ R.slots) (hd : decode cc pc = .ok (.newarray .int, 2)) (kk : ∀ (q : Nat) (H : Heap), va_P D vwCl (ws ++ [(q, .inl (ac 0, N, .inl (fun _ => 0)))]) H → va_D A (ws ++ [(q, .inl (ac 0, N, .inl (fun _ => 0)))]) → va_S A s.heap H locs → W p l e R s m args below meth c H locs (cells + 1) (slots + N) Q (F0 m (pc + 2) ls (.ref q :: rest))) : W p l e R s m args below meth c H locs cells slots Q (F0 m pc ls (.int n :: rest)) := by
  refine va_newa C.x C.b (atype := .int) (C.w at_int) rfl C.K hP hD hS C.hA (a0 := (N, .inl (fun _ => 0))) (fun cA => rfl) hn hN hb hc hs hd (fun q cA H1 hK1 hP1 hD1 hS1 => ?_)
  have e1 := ac_eq C (t := 0) (ty := .int) rfl (fun _ h => by cases h) (hK1.2 6 (cA, .int) rfl).2
  subst e1
  exact kk q H1 hP1 hD1 hS1
theorem k_newz (C : Cg p s m args meth c D ac A own cc nL) (hP : va_P D vwCl ws H) (hD : va_D A ws) (hS : va_S A s.heap H locs) {n : Int32} (N : Nat) (hn : ¬ n < 0) (hN : n.toNatClampNeg = N) (hb : N * 1 ≤ 536870912) (hc : cells + 1 ≤ R.cells) (hs : slots + N ≤ R.slots) (hd : decode cc pc = .ok (.newarray .boolean, 2)) (kk : ∀ (q : Nat) (H : Heap), va_P D vwCl (ws ++ [(q, .inl (ac 1, N, .inl (fun _ => 0)))]) H → va_D A (ws ++ [(q, .inl (ac 1, N, .inl (fun _ => 0)))]) → va_S A s.heap H locs → W p l e R s m args below meth c H locs (cells + 1) (slots + N) Q (F0 m (pc + 2) ls (.ref q :: rest))) : W p l e R s m args below meth c H locs cells slots Q (F0 m pc ls (.int n :: rest)) := by
  refine va_newa C.x C.b (atype := .boolean) (C.w at_bool) rfl C.K hP hD hS C.hA (a0 := (N, .inl (fun _ => 0))) (fun cA => rfl) hn hN hb hc hs hd (fun q cA H1 hK1 hP1 hD1 hS1 => ?_)
  have e1 := ac_eq C (t := 1) (ty := .boolean) rfl (fun _ h => by cases h) (hK1.2 6 (cA, .boolean) rfl).2
  subst e1
  exact kk q H1 hP1 hD1 hS1
theorem k_newb (C : Cg p s m args meth c D ac A own cc nL) (hP : va_P D vwCl ws H) (hD : va_D A ws) (hS : va_S A s.heap H locs) {n : Int32} (N : Nat) (hn : ¬ n < 0) (hN : n.toNatClampNeg = N) (hb : N * 1 ≤ 536870912) (hc : cells + 1 ≤ R.cells) (hs : slots + N ≤ R.slots) (hd : decode cc pc = .ok (.newarray .byte, 2)) (kk : ∀ (q : Nat) (H : Heap), va_P D vwCl (ws ++ [(q, .inl (ac 2, N, .inl (fun _ => 0)))]) H → va_D A (ws ++ [(q, .inl (ac 2, N, .inl (fun _ => 0)))]) → va_S A s.heap H locs → W p l e R s m args below meth c H locs (cells + 1) (slots + N) Q (F0 m (pc + 2) ls (.ref q :: rest))) : W p l e R s m args below meth c H locs cells slots Q (F0 m pc ls (.int n :: rest)) := by
  refine va_newa C.x C.b (atype := .byte) (C.w at_byte) rfl C.K hP hD hS C.hA (a0 := (N, .inl (fun _ => 0))) (fun cA => rfl) hn hN hb hc hs hd (fun q cA H1 hK1 hP1 hD1 hS1 => ?_)
  have e1 := ac_eq C (t := 2) (ty := .byte) rfl (fun _ h => by cases h) (hK1.2 6 (cA, .byte) rfl).2
  subst e1
  exact kk q H1 hP1 hD1 hS1
theorem k_obj (C : Cg p s m args meth c D ac A own cc nL) {a : Nat} (hml : ls.size = nL) {ix : Nat} (hlink : Cond.methodLink own ix objectInit ∈ WT) (hfr : 1 ≤ R.frames) (hlo : 12 ≤ R.locals) (hd : decode cc 1 = .ok (.invokespecial ix, 3)) (k : W p l e R s m args below meth c H locs cells slots Q (F0 m 4 ls [])) : W p l e R s m args below meth c H locs cells slots Q (F0 m 1 ls [.ref a]) := by
  refine W.objInit C.x C.b C.ow (C.w hlink) (C.w im_obj) (C.w cd_obj) rfl (by rw [C.ml]; exact hml) rfl hd hfr (by show _ + 12 ≤ _; simpa using hlo) ?_
  exact W.eq (g2 := F0 m 4 ls []) rfl k
/-- a row of rows, the outer at q, row i at q + 1 + i -/
abbrev rowsW (ac : Nat → ClassId) (q n k : Nat) : va_W := (q, .inl (ac 3, n, .inr (.inr (.inr (.inr (fun i => if i < n then some (q + 1 + i) else none)))))) :: (List.range n).map (fun i => (q + 1 + i, .inl (ac 0, k, .inl (fun _ => 0))))
end
/-- the outer row behind i inner ones; an inner one; the heap behind i of them -/
abbrev mzO (cA : ClassId) (N h i : Nat) : Cell := arrV cA N (fun j => va_rf (if j < i then some (h + 1 + j) else none))
abbrev mzI (cB : ClassId) (K : Nat) : Cell := { cls := cB, slots := Array.replicate K (.int 0), vm := .none }
def mz (S : State) (cA cB : ClassId) (N K : Nat) : Nat → State
  | 0 => S.pushCell (mzO cA N S.heap.size 0)
  | i + 1 => ((mz S cA cB N K i).pushCell (mzI cB K)).setCell S.heap.size (mzO cA N S.heap.size (i + 1))
theorem mzO_new (cA : ClassId) (N h : Nat) : ({ cls := cA, slots := Array.replicate N .null, vm := .none } : Cell) = mzO cA N h 0 := by
  rw [arrV_new]
  rfl
theorem mzO_put (cA : ClassId) (N h i : Nat) : (mzO cA N h i).setSlot i (.ref (h + 1 + i)) = mzO cA N h (i + 1) := by
  rw [arrV_store]
  congr 1
  funext j
  unfold updV
  by_cases e : j = i
  · rw [if_pos e, if_pos (by omega), e]
    rfl
  · rw [if_neg e]
    show va_rf (if j < i then some (h + 1 + j) else none) = _
    by_cases z : j < i
    · rw [if_pos z, if_pos (by omega)]
    · rw [if_neg z, if_neg (by omega)]
theorem mz_top (S : State) (f : JFrame) (cA cB : ClassId) (N K : Nat) : ∀ i, mz (S.setTop f) cA cB N K i = (mz S cA cB N K i).setTop f
  | 0 => rfl
  | i + 1 => by
    show ((mz (S.setTop f) cA cB N K i).pushCell (mzI cB K)).setCell S.heap.size (mzO cA N S.heap.size (i + 1)) = _
    rw [mz_top S f cA cB N K i]
    rfl
theorem mz_vm (S : State) (cA cB : ClassId) (N K : Nat) : ∀ i, (mz S cA cB N K i).vm = S.vm
  | 0 => rfl
  | i + 1 => mz_vm S cA cB N K i
theorem mz_tj (S : State) (cA cB : ClassId) (N K : Nat) : ∀ i, (mz S cA cB N K i).topJava? = S.topJava?
  | 0 => rfl
  | i + 1 => mz_tj S cA cB N K i
theorem mz_used (S : State) (cA cB : ClassId) (N K : Nat) : ∀ i, (mz S cA cB N K i).slotsUsed = S.slotsUsed + N + i * K
  | 0 => by
    show S.slotsUsed + (mzO cA N S.heap.size 0).slots.size = _
    rw [arrV_size, Nat.zero_mul, Nat.add_zero]
  | i + 1 => by
    show (mz S cA cB N K i).slotsUsed + (Array.replicate K (Value.int 0)).size = _
    rw [mz_used S cA cB N K i, Array.size_replicate, Nat.succ_mul, Nat.add_assoc]
theorem mz_facts (S : State) (cA cB : ClassId) (N K : Nat) : ∀ i, (mz S cA cB N K i).heap.size = S.heap.size + 1 + i ∧ (mz S cA cB N K i).heap[S.heap.size]? = some (mzO cA N S.heap.size i) ∧ (∀ j, j < i → (mz S cA cB N K i).heap[S.heap.size + 1 + j]? = some (mzI cB K)) ∧ ∀ a, a < S.heap.size → (mz S cA cB N K i).heap[a]? = S.heap[a]?
  | 0 => by
    refine ⟨?_, State.heap_pushCell_size _ _, fun j h => absurd h (Nat.not_lt_zero j), fun a h => State.heap_pushCell_of_lt _ _ h⟩
    show (S.heap.push _).size = _
    rw [Array.size_push]
  | i + 1 => by
    obtain ⟨h1, h2, h3, h4⟩ := mz_facts S cA cB N K i
    have e : (mz S cA cB N K (i + 1)).heap = ((mz S cA cB N K i).heap.push (mzI cB K)).setIfInBounds S.heap.size (mzO cA N S.heap.size (i + 1)) := rfl
    rw [e]
    refine ⟨by rw [Array.size_setIfInBounds, Array.size_push, h1]; omega, ?_, fun j hj => ?_, fun a ha => ?_⟩
    · rw [Array.getElem?_setIfInBounds_self_of_lt (by rw [Array.size_push]; omega)]
    · rw [Array.getElem?_setIfInBounds_ne (by omega)]
      by_cases hji : j = i
      · rw [hji, ← h1, Array.getElem?_push_size]
      · rw [Array.getElem?_push, if_neg (by omega)]
        exact h3 j (by omega)
    · rw [Array.getElem?_setIfInBounds_ne (by omega), Array.getElem?_push, if_neg (by omega)]
      exact h4 a ha

section
variable {E : CtlPost} {e : Env} {d : Bool} {acts : List Action} {S : State} {cA cB c0 : ClassId} {kA kB : Class} {N K : Nat}
theorem mz_row {c comp : ClassId} {k : Class} {ty : FieldType} {x : Value} {n : Nat} {Q : Addr → Pre} (hk : S.vm.classes[c]? = some k) (hkind : k.kind = .array comp ty) (hf : fits ty x = true) (hx : x.isDefault = true) (hl : ¬ n > e.platform.arrayLengthLimit) (hh : ¬ n * componentBytes ty > e.platform.maxHeapBytes) (h1 : S.heap.size < e.platform.maxCells) (h2 : S.slotsUsed + n ≤ e.platform.maxSlots) (hq : Q S.heap.size d acts (S.pushCell { cls := c, slots := Array.replicate n x, vm := .none })) : wp (Jvm.newArray c n x) Q E e d acts S := by
  have h3 : ¬ n > e.platform.maxSlots := by omega
  have ha : allocActs (Array.replicate n x) S.heap.size acts = acts := by
    unfold allocActs
    rw [if_pos]
    rw [Array.all_replicate]
    split
    · rfl
    · exact hx
  simp only [Jvm.newArray, Jvm.arrayFits, wp_bind', W.ask, W.ite, hl, if_false, W.theClass, hk, Option.some.injEq, exists_eq_left', hkind, hh, h3, wp_pure', W.alloc, Array.size_replicate, ha]
  refine ⟨h1, h2, fun i v hv => ?_, hq⟩
  rw [Array.getElem?_replicate] at hv
  split at hv
  · cases hv
    simp [State.fitsSlot, State.slotType?, hk, hkind, hf]
  · cases hv
theorem mz_one {k : Int32} {Q : Addr → Pre} (hk : S.vm.classes[cB]? = some kB) (hkind : kB.kind = .array c0 .int) (hn : ¬ k < 0) (hK : k.toNatClampNeg = K) (hl : ¬ K > e.platform.arrayLengthLimit) (hh : ¬ K * 4 > e.platform.maxHeapBytes) (h1 : S.heap.size < e.platform.maxCells) (h2 : S.slotsUsed + K ≤ e.platform.maxSlots) (hq : Q S.heap.size d acts (S.pushCell (mzI cB K))) : wp (multianewarray.make cB [k]) Q E e d acts S := by
  subst hK
  simp only [multianewarray.make, wp_bind', W.ite, hn, if_false, wp_pure', W.theClass, hk, Option.some.injEq, exists_eq_left', hkind]
  exact mz_row hk hkind rfl rfl hl hh h1 h2 hq
theorem mz_two {n k : Int32} {Q : Addr → Pre} (hkA : S.vm.classes[cA]? = some kA) (hkindA : kA.kind = .array cB (.array .int)) (hkB : S.vm.classes[cB]? = some kB) (hkindB : kB.kind = .array c0 .int) (hn : ¬ n < 0) (hk : ¬ k < 0) (hN : n.toNatClampNeg = N) (hK : k.toNatClampNeg = K) (hl : ¬ N > e.platform.arrayLengthLimit) (hh : ¬ N * 4 > e.platform.maxHeapBytes) (hl2 : ¬ K > e.platform.arrayLengthLimit) (hh2 : ¬ K * 4 > e.platform.maxHeapBytes) (h1 : S.heap.size + (1 + N) ≤ e.platform.maxCells) (h2 : S.slotsUsed + (N + N * K) ≤ e.platform.maxSlots) (hq : ∀ d acts, Q S.heap.size d acts (mz S cA cB N K N)) : wp (multianewarray.make cA [n, k]) Q E e d acts S := by
  subst hN
  subst hK
  have hfd : ([k].find? (· < 0)) = none := by simp [hk]
  unfold multianewarray.make
  simp only [wp_bind', W.ite, hn, if_false, wp_pure', W.theClass, hkA, Option.some.injEq, exists_eq_left', hkindA]
  refine mz_row hkA hkindA rfl rfl hl hh (by omega) (by omega) ?_
  rw [mzO_new cA n.toNatClampNeg S.heap.size]
  rw [hfd]
  simp only [ite_self, wp_bind', Std.Legacy.Range.forIn_eq_forIn_range', Std.Legacy.Range.size]
  refine wp_forIn_inv (fun rest s' => ∃ i, i ≤ n.toNatClampNeg ∧ rest = List.range' i (n.toNatClampNeg - i) ∧ s' = mz S cA cB n.toNatClampNeg k.toNatClampNeg i) _ _ ⟨0, Nat.zero_le _, by simp, rfl⟩ ?_ ?_
  · rintro x rest s' d' acts' Q' ⟨i, hi, hr, rfl⟩ hy
    have hlt : i < n.toNatClampNeg := by
      rcases Nat.lt_or_ge i n.toNatClampNeg with h | h
      · exact h
      · rw [show n.toNatClampNeg - i = 0 by omega] at hr
        cases hr
    rw [show n.toNatClampNeg - i = (n.toNatClampNeg - (i + 1)) + 1 by omega, List.range'_succ] at hr
    obtain ⟨rfl, rfl⟩ := List.cons.inj hr
    obtain ⟨f1, f2, f3, f4⟩ := mz_facts S cA cB n.toNatClampNeg k.toNatClampNeg x
    have hu := mz_used S cA cB n.toNatClampNeg k.toNatClampNeg x
    have hm : (x + 1) * k.toNatClampNeg ≤ n.toNatClampNeg * k.toNatClampNeg := Nat.mul_le_mul_right _ hlt
    rw [Nat.succ_mul] at hm
    simp only [wp_bind']
    refine mz_one (K := k.toNatClampNeg) (by rw [mz_vm]; exact hkB) hkindB hk rfl hl2 hh2 (by omega) (by omega) ?_
    simp only [wp_bind', W.writeLoc, wp_pure']
    refine ⟨mzO cA n.toNatClampNeg S.heap.size x, ?_, ?_, ?_, ?_, ?_⟩
    · exact (State.heap_pushCell_of_lt _ _ (show S.heap.size < (mz S cA cB n.toNatClampNeg k.toNatClampNeg x).heap.size by rw [f1]; omega)).trans f2
    · intro h
      cases h
    · rw [arrV_size]
      exact hlt
    · have e1 : ((mz S cA cB n.toNatClampNeg k.toNatClampNeg x).pushCell (mzI cB k.toNatClampNeg)).vm = S.vm := mz_vm S cA cB _ _ x
      show State.fitsSlot _ cA .none x _ = true
      simp [State.fitsSlot, State.slotType?, mz_vm, hkA, hkindA]
      rfl
    · rw [f1, mzO_put]
      exact hy _ _ _ ⟨x + 1, hlt, rfl, rfl⟩
  · rintro s' d' acts' ⟨i, hi, hr, rfl⟩
    have : i = n.toNatClampNeg := by
      rcases Nat.lt_or_ge i n.toNatClampNeg with h | h
      · rw [show n.toNatClampNeg - i = (n.toNatClampNeg - (i + 1)) + 1 by omega, List.range'_succ] at hr
        cases hr
      · omega
    subst this
    simp only [wp_pure']
    exact hq _ _
theorem mz_sem {f : JFrame} {n k : Int32} {rest : List Value} {index : Nat} {vm' : Vm} {Q : Unit → Pre} (hs : S.topJava?.isSome) (hg : (Jvm.resolveClass f.method.cls index).Gives e.toSetting S.vm (.ok cA) vm') (hr : vm'.classReady f.method.cls index cA) (hsz : vm'.classes.size ≤ S.vm.classes.size) (hst : f.stack = .int k :: .int n :: rest) (hkA : vm'.classes[cA]? = some kA) (hkindA : kA.kind = .array cB (.array .int)) (hkB : vm'.classes[cB]? = some kB) (hkindB : kB.kind = .array c0 .int) (hn : ¬ n < 0) (hk : ¬ k < 0) (hN : n.toNatClampNeg = N) (hK : k.toNatClampNeg = K) (hl : ¬ N > e.platform.arrayLengthLimit) (hh : ¬ N * 4 > e.platform.maxHeapBytes) (hl2 : ¬ K > e.platform.arrayLengthLimit) (hh2 : ¬ K * 4 > e.platform.maxHeapBytes) (h1 : S.heap.size + (1 + N) ≤ e.platform.maxCells) (h2 : S.slotsUsed + (N + N * K) ≤ e.platform.maxSlots) (hq : ∀ acts, Q () true acts ((mz (S.setVm vm') cA cB N K N).setTop { f with stack := .ref S.heap.size :: rest })) : wp (multianewarray.sem index 2) Q E e d acts (S.setTop f) := by
  unfold multianewarray.sem
  rw [wp_bind']
  refine (W.resolveClassAt_transfer (s := S.setTop f) (State.method?_setTop f hs) hg hr hsz).mpr ?_
  refine (W.resolveClassAt_ready (s := (S.setVm vm').setTop f) (State.method?_setTop f hs) hr).mpr ?_
  rw [wp_bind']
  refine (popN_top (s := S.setVm vm') (args := [.int n, .int k]) (rest := rest) hs hst).mpr ?_
  simp only [List.mapM_cons, List.mapM_nil, wp_bind', wp_pure']
  refine mz_two (S := (S.setVm vm').setTop { f with stack := rest }) hkA hkindA hkB hkindB hn hk hN hK hl hh hl2 hh2 h1 h2 (fun d acts => ?_)
  rw [mz_top]
  simp only [wp_bind', W.mark, W.pushRef]
  rw [State.topJava?_setTop' _ (show (mz (S.setVm vm') cA cB N K N).topJava?.isSome by rw [mz_tj]; exact hs)]
  refine ⟨_, rfl, ?_⟩
  rw [State.setTop_setTop]
  exact hq acts
end
theorem mz_stand {p : Program} {l : Launch} {e : Env} {R : Room} {s : State} {m : MethodId} {args : Array Value} {below : List Frame} {meth : Method} {c : Code} {T : State} {locs : List Loc} {cells slots : Nat} (X : Stand p l e R s m args below meth c T locs cells slots) (cA cB : ClassId) (N K : Nat) : ∀ i, Stand p l e R s m args below meth c (mz T cA cB N K i) (locs ++ (List.range i).map fun j => (⟨T.heap.size, j⟩ : Loc)) (cells + 1 + i) (slots + N + i * K)
  | 0 => by
    have h := X.pushed (mzO cA N T.heap.size 0)
    rw [arrV_size] at h
    rw [Nat.zero_mul, List.range_zero, List.map_nil, List.append_nil]
    exact h
  | i + 1 => by
    have h := (mz_stand X cA cB N K i).pushed (mzI cB K)
    obtain ⟨f1, f2, -, -⟩ := mz_facts T cA cB N K i
    have h2 := h.stored (a := T.heap.size) (cell := mzO cA N T.heap.size i) ((State.heap_pushCell_of_lt _ _ (show T.heap.size < (mz T cA cB N K i).heap.size by rw [f1]; omega)).trans f2) i (.ref (T.heap.size + 1 + i))
    rw [mzO_put, List.append_assoc] at h2
    rw [List.range_succ, List.map_append, Nat.succ_mul, ← Nat.add_assoc (slots + N)]
    have e1 : (mzI cB K).slots.size = K := Array.size_replicate
    rw [e1] at h2
    exact h2
theorem AAi.kind {U : State} (h : AAi U) {c comp : ClassId} (hc : U.vm.findClass ("[" ++ (FieldType.array .int).toString) = some c) (hB : U.vm.findClass ("[" ++ FieldType.int.toString) = some comp) : ∃ k, U.vm.classes[c]? = some k ∧ k.kind = .array comp (.array .int) := by
  have h : (Cond.arrayOver (.array .int)).before #[] U = true := h
  unfold Cond.before Cond.holds at h
  simp only [Cond.value, beq_iff_eq] at h
  have hB2 : U.vm.findClass (FieldType.array .int).toString = some comp := hB
  rw [hB2] at h
  simp only [Option.bind_some, Option.bind_eq_some_iff, Option.map_eq_some_iff] at h
  obtain ⟨c2, hi, k, hk, hb⟩ := h
  obtain ⟨hlt, hp, -⟩ := Array.findIdx?_eq_some_iff_getElem.mp hi
  rw [(Array.getElem?_eq_some_iff.mp hk).2] at hp
  cases hkind : k.kind <;> rw [hkind] at hb hp <;> simp only [Bool.and_eq_true, decide_eq_true_eq, beq_iff_eq, Bool.false_eq_true] at hb hp
  obtain ⟨rfl, hcc⟩ := hb
  subst hp
  cases Option.some.inj (hcc.symm.trans hc)
  exact ⟨k, hk, hkind⟩
section
variable {l : Launch} {D : va_G} {ac : Nat → ClassId} {p : Program} {e : Env} {R : Room} {s : State} {m : MethodId} {args : Array Value} {below : List Frame} {meth : Method} {c : Code} {own : String} {cc : ByteArray} {nL : Nat} {Q : State → Prop} {pc : Nat} {ls : Array Slot} {rest : List Value} {A : Nat → Prop} {H : Heap} {locs : List Loc} {cells slots : Nat} {ws : va_W}
theorem k_multi (C : Cg p s m args meth c D ac A own cc nL) (hP : va_P D vwCl ws H) (hD : va_D A ws) (hS : va_S A s.heap H locs) {index : Nat} (hlink : Cond.classLink own index "[[I" ∈ WT) {n k : Int32} (N K : Nat) (hn : ¬ n < 0) (hk : ¬ k < 0) (hN : n.toNatClampNeg = N) (hK : k.toNatClampNeg = K) (hb1 : N * 4 ≤ 536870912) (hb2 : K * 4 ≤ 536870912) (hc : cells + (1 + N) ≤ R.cells) (hs : slots + (N + N * K) ≤ R.slots) (hd : decode cc pc = .ok (.multianewarray index 2, 4)) (kk : ∀ (q : Nat) (H : Heap) (locs : List Loc), va_P D vwCl (ws ++ rowsW ac q N K) H → va_D A (ws ++ rowsW ac q N K) → va_S A s.heap H locs → W p l e R s m args below meth c H locs (cells + 1 + N) (slots + N + N * K) Q (F0 m (pc + 4) ls (.ref q :: rest))) : W p l e R s m args below meth c H locs cells slots Q (F0 m pc ls (.int k :: .int n :: rest)) := by
  subst hN
  subst hK
  intro T hT X
  have hpl : e.platform.magicAccessors = ({} : Platform).magicAccessors := by rw [X.admits.platform]
  obtain ⟨cA, hfA, hcl⟩ := Cond.classLink_spec C.ow (C.w hlink) e.platform hpl
  obtain ⟨hg1, hW1, hr1⟩ := State.classEntry (e := e) X.warmed hcl
  have eA : cA = ac 3 := Option.some.inj (hfA.symm.trans (C.K.2 3 (ac 3, .array .int) rfl).2)
  subst eA
  obtain ⟨kA, hkA, hkindA⟩ := AAi.kind C.2.2.1.2.2.2 (C.K.2 3 (ac 3, .array .int) rfl).2 (C.K.2 0 (ac 0, .int) rfl).2
  obtain ⟨cB, kB, c0, hfB, hkB, hkindB⟩ := Cond.arrayClass_spec (C.w at_int)
  have eB : cB = ac 0 := Option.some.inj (hfB.symm.trans (C.K.2 0 (ac 0, .int) rfl).2)
  subst eB
  generalize T.vm.noted m.cls index (.cls (ac 3)) = vm1 at hg1 hW1 hr1
  obtain ⟨kA1, hkA1, hA1⟩ := hW1.alike.2.2 _ _ hkA
  obtain ⟨kB1, hkB1, hB1⟩ := hW1.alike.2.2 _ _ hkB
  have X1 := mz_stand (X.noted hW1) (ac 3) (ac 0) n.toNatClampNeg k.toNatClampNeg n.toNatClampNeg
  obtain ⟨r1, r2⟩ := X.roomAbove (a := 1 + n.toNatClampNeg) (b := n.toNatClampNeg + n.toNatClampNeg * k.toNatClampNeg) hc hs
  have hl : ∀ N : Nat, N * 4 ≤ 536870912 → ¬ N > e.platform.arrayLengthLimit ∧ ¬ N * 4 > e.platform.maxHeapBytes := fun N h => by
    rw [Launch.admits_arrayLengthLimit X.admits, Launch.admits_maxHeapBytes X.admits]
    omega
  have step : ∀ target, Steps p.tables e below ((mz (T.setVm vm1) (ac 3) (ac 0) n.toNatClampNeg k.toNatClampNeg n.toNatClampNeg).setTop (F0 m (pc + 4) ls (.ref T.heap.size :: rest))) target → Steps p.tables e below (T.setTop (F0 m pc ls (.int k :: .int n :: rest))) target := fun target h => by
    have hd2 : decode c.code pc = .ok (.multianewarray index 2, 4) := by rw [C.b]; exact hd
    refine Steps.instr (c := _) (by simpa using X.here) ?_
    simp [jvm, wpRun, exec, X.here.top, C.x, hd2]
    have hj : (mz (T.setVm vm1) (ac 3) (ac 0) n.toNatClampNeg k.toNatClampNeg n.toNatClampNeg).topJava?.isSome := by rw [mz_tj]; exact X.here.top
    refine mz_sem (S := T) (vm' := vm1) (cA := ac 3) (cB := ac 0) X.here.top hg1 hr1 (by no_record) rfl hkA1 (by rw [hA1]; exact hkindA) hkB1 (by rw [hB1]; exact hkindB) hn hk rfl rfl (hl _ hb1).1 (hl _ hb1).2 (hl _ hb2).1 (hl _ hb2).2 r1 r2 (fun acts acts2 => ?_)
    simp [jvm, hj]
    exact h
  obtain ⟨z1, o1, fi, fo⟩ := mz_facts (T.setVm vm1) (ac 3) (ac 0) n.toNatClampNeg k.toNatClampNeg n.toNatClampNeg
  have hTs : (T.setVm vm1).heap = H := hT
  have hT2 : T.heap.size = H.size := by rw [hT]
  rw [hTs] at z1 o1 fi fo X1
  rw [hT2] at step
  generalize mz (T.setVm vm1) (ac 3) (ac 0) n.toNatClampNeg k.toNatClampNeg n.toNatClampNeg = T1 at *
  have hkp : ∀ (j : Nat) (x : Nat × va_E), ws[j]? = some x → T1.heap[x.1]? = H[x.1]? := fun j x hx => fo x.1 ((hP j x hx).lt)
  have row : ∀ (j : Nat) (x : Nat × va_E), (rowsW ac H.size n.toNatClampNeg k.toNatClampNeg)[j]? = some x → x.1 = H.size + j ∧ va_at D vwCl x T1.heap := fun j x hx => by
    cases j with
    | zero =>
      cases hx
      exact ⟨rfl, o1⟩
    | succ j =>
      have hx2 : ((List.range n.toNatClampNeg).map (fun i => ((H.size + 1 + i, .inl (ac 0, k.toNatClampNeg, .inl (fun _ => 0))) : Nat × va_E)))[j]? = some x := hx
      have hj : j < n.toNatClampNeg := by
        have := (List.getElem?_eq_some_iff.mp hx2).1
        simpa using this
      rw [List.getElem?_map, List.getElem?_range hj] at hx2
      cases hx2
      refine ⟨by show H.size + 1 + j = _; omega, ?_⟩
      show T1.heap[H.size + 1 + j]? = some (vp_cell _ _)
      rw [fi j hj]
      exact congrArg some (arrV_new _ _ _)
  have hP1 : va_P D vwCl (ws ++ rowsW ac H.size n.toNatClampNeg k.toNatClampNeg) T1.heap := (hP.kept hkp).app (fun j x hx => (row j x hx).2)
  have hD1 : va_D A (ws ++ rowsW ac H.size n.toNatClampNeg k.toNatClampNeg) := by
    have new : ∀ (j : Nat) (x : Nat × va_E), ¬ j < ws.length → (ws ++ rowsW ac H.size n.toNatClampNeg k.toNatClampNeg)[j]? = some x → x.1 = H.size + (j - ws.length) := fun j x h hx => by
      rw [List.getElem?_append_right (by omega)] at hx
      exact (row _ x hx).1
    have old : ∀ (j : Nat) (x : Nat × va_E), j < ws.length → (ws ++ rowsW ac H.size n.toNatClampNeg k.toNatClampNeg)[j]? = some x → ws[j]? = some x := fun j x h hx => by
      rw [List.getElem?_append_left h] at hx
      exact hx
    refine ⟨fun i j x y hi hj e => ?_, fun j x hx => ?_⟩
    · by_cases h : i < ws.length
      · by_cases g : j < ws.length
        · exact hD.1 i j x y (old i x h hi) (old j y g hj) e
        · have h1 := (hP i x (old i x h hi)).lt
          have h2 := new j y g hj
          omega
      · by_cases g : j < ws.length
        · have h1 := (hP j y (old j y g hj)).lt
          have h2 := new i x h hi
          omega
        · have h1 := new i x h hi
          have h2 := new j y g hj
          omega
    · by_cases h : j < ws.length
      · exact hD.2 j x (old j x h hx)
      · rw [new j x h hx]
        exact C.hA _ (by have := hS.1; omega)
  have hS1 : va_S A s.heap T1.heap (locs ++ (List.range n.toNatClampNeg).map fun j => (⟨H.size, j⟩ : Loc)) := by
    refine ⟨by have := hS.1; omega, fun a h1 h2 => (fo a (Nat.lt_of_lt_of_le h1 hS.1)).trans (hS.2.1 a h1 h2), fun q hq => ?_⟩
    rcases List.mem_append.mp hq with hq | hq
    · exact hS.2.2 q hq
    · obtain ⟨j, -, rfl⟩ := List.mem_map.mp hq
      exact C.hA _ hS.1
  obtain ⟨t, a1, b1⟩ := kk H.size T1.heap _ hP1 hD1 hS1 T1 rfl X1
  exact ⟨t, step t a1, b1⟩
theorem k_cb (C : Cg p s m args meth c D ac A own cc nL) {y : MethodName} {yc : ByteArray} {mL : Nat} (hcode : Cond.code y yc mL none ∈ WT) : ∀ w ∈ (Cond.code y yc mL none :: WT), ∀ (a' : Array Value) (U : State), s.WarmedH U.vm → w.before a' U = true := fun w hw => by
  rcases List.mem_cons.mp hw with rfl | hw
  · exact fun a' U hW => word_at hW (good_of_word (WT_good hcode)) (C.w hcode)
  · exact fun a' U hW => word_at hW (good_of_word (WT_good hw)) (C.w hw)
theorem PI_blind {As : List Value} {sz : Nat} {x : Nat × va_E} : FrameBlind (PI D ac As sz x) := by
  intro a U g mk h
  obtain ⟨h1, h2, h3, h4, h5⟩ := h
  exact ⟨h1, h2, h3, va_K.moved (u := U) (U := U.calling g mk a) (Vm.Alike.refl U.vm) h4, XN_mv (U := U.calling g mk a) (State.WarmedH.refl U) h5⟩
/-- a constructor of another class, of an object just made -/
theorem k_init {S : Type} (C : Cg p s m args meth c D ac A own cc nL) {wr : va_W} {b : Nat} {e0 : va_E} (hP : va_P D vwCl (wr ++ [(b, e0)]) H) (hD : va_D A (wr ++ [(b, e0)])) (hS : va_S A s.heap H locs) {y : MethodName} {yc : ByteArray} {mL n index : Nat} {rm : Room} {post : S → va_W} (As : List Value) (hM : KT l D ac y yc mL rm (.ref b :: As) (b, e0) post) (hcode : Cond.code y yc mL none ∈ WT) (hini : Cond.initialized y.cls ∈ WT) (hinst : Cond.instanceMethod y ∈ WT) (hlink : Cond.methodLink own index y ∈ WT) (hyn : y.name = "<init>") (hy : yOk y n) (hR : rm.frames + 1 ≤ R.frames ∧ 8 + (mL + 11) + rm.locals ≤ R.locals) (hn : As.length = n) (hsz : ls.size = nL) {st : List Value} (hst : st = As.reverse ++ .ref b :: rest) (hrm : (rest.map fun v => v.category).sum ≤ 8) (hc : cells + rm.cells ≤ R.cells) (hs : slots + rm.slots ≤ R.slots) (hd : decode cc pc = .ok (.invokespecial index, 3)) (kk : ∀ (u : S) (H : Heap) (locs : List Loc), va_P D vwCl (wr ++ post u) H → va_D A (wr ++ post u) → va_S A s.heap H locs → W p l e R s m args below meth c H locs (cells + rm.cells) (slots + rm.slots) Q (F0 m (pc + 3) ls rest)) : W p l e R s m args below meth c H locs cells slots Q (F0 m pc ls st) := by
  subst hst
  have hb : (wr ++ [(b, e0)])[wr.length]? = some (b, e0) := by rw [List.getElem?_append_right (Nat.le_refl _), Nat.sub_self]; rfl
  have hF : ∀ q, va_A [(b, e0)] H.size q → A q := va_free (wc := [(b, e0)]) hD hS C.hA [wr.length] (by simp)
  have hPb : va_P D vwCl [(b, e0)] H := hP.sub (ws' := [(b, e0)]) [wr.length] (by simp)
  refine va_callv (va_runI (As := As) (rest := rest) C.1 (hM H.size) ⟨⟨rfl, rfl, hR.1, hR.2, k_cb C hcode, List.mem_cons_self, C.w hcode, C.w hini, ⟨hy.1, hy.2.1⟩, v_par hy, C.w hlink⟩, hyn, C.w hinst⟩ ⟨PI_blind, fun U hU hW => ⟨rfl, by rw [hU], by rw [hU]; exact hPb, va_K.moved hW.alike C.K, XN_mv hW C.2.2.1⟩⟩ rfl hn hsz rfl (lv_room hrm) hd ⟨hc, hs⟩) hS (fun q _ h => hF q h) hF (fun u t H1 locs1 ht hvm hw hB hz1 hk1 hS1 => ?_)
  obtain ⟨hP1, hD1⟩ := hB
  rw [ht] at hP1
  obtain ⟨hP2, hD2⟩ := va_jl hP hD hk1 hF hP1 hD1
  exact kk u H1 locs1 hP2 hD2 hS1
/-- the same of a nest mate's private constructor -/
theorem k_initN {S : Type} (C : Cg p s m args meth c D ac A own cc nL) {wr : va_W} {b : Nat} {e0 : va_E} (hP : va_P D vwCl (wr ++ [(b, e0)]) H) (hD : va_D A (wr ++ [(b, e0)])) (hS : va_S A s.heap H locs) {y : MethodName} {yc : ByteArray} {mL n index : Nat} {rm : Room} {host : String} {post : S → va_W} (As : List Value) (hM : KT l D ac y yc mL rm (.ref b :: As) (b, e0) post) (hcode : Cond.code y yc mL none ∈ WT) (hini : Cond.initialized y.cls ∈ WT) (hinst : Cond.instanceMethod y ∈ WT) (hlink : Cond.methodLinkNest own index y host ∈ NT) (hyn : y.name = "<init>") (hy : yOk y n) (hR : rm.frames + 1 ≤ R.frames ∧ 8 + (mL + 11) + rm.locals ≤ R.locals) (hn : As.length = n) (hsz : ls.size = nL) {st : List Value} (hst : st = As.reverse ++ .ref b :: rest) (hrm : (rest.map fun v => v.category).sum ≤ 8) (hc : cells + rm.cells ≤ R.cells) (hs : slots + rm.slots ≤ R.slots) (hd : decode cc pc = .ok (.invokespecial index, 3)) (kk : ∀ (u : S) (H : Heap) (locs : List Loc), va_P D vwCl (wr ++ post u) H → va_D A (wr ++ post u) → va_S A s.heap H locs → W p l e R s m args below meth c H locs (cells + rm.cells) (slots + rm.slots) Q (F0 m (pc + 3) ls rest)) : W p l e R s m args below meth c H locs cells slots Q (F0 m pc ls st) := by
  subst hst
  have hF : ∀ q, va_A [(b, e0)] H.size q → A q := va_free (wc := [(b, e0)]) hD hS C.hA [wr.length] (by simp)
  have hPb : va_P D vwCl [(b, e0)] H := hP.sub (ws' := [(b, e0)]) [wr.length] (by simp)
  refine va_callv (va_runIN (As := As) (rest := rest) C.1 (hM H.size) ⟨⟨⟨rfl, rfl, hR.1, hR.2, k_cb C hcode, List.mem_cons_self⟩, C.w hcode, C.w hini, ⟨hy.1, hy.2.1⟩, v_par hy, va_Nw.use rfl (C.2.2.1.1 _ hlink)⟩, hyn, C.w hinst⟩ ⟨PI_blind, fun U hU hW => ⟨rfl, by rw [hU], by rw [hU]; exact hPb, va_K.moved hW.alike C.K, XN_mv hW C.2.2.1⟩⟩ rfl hn hsz rfl (lv_room hrm) hd ⟨hc, hs⟩) hS (fun q _ h => hF q h) hF (fun u t H1 locs1 ht hvm hw hB hz1 hk1 hS1 => ?_)
  obtain ⟨hP1, hD1⟩ := hB
  rw [ht] at hP1
  obtain ⟨hP2, hD2⟩ := va_jl hP hD hk1 hF hP1 hD1
  exact kk u H1 locs1 hP2 hD2 hS1
end
/-- a constructor's body -/
theorem KT.of {S : Type} {l : Launch} {D : va_G} {ac : Nat → ClassId} {y : MethodName} {cc : ByteArray} {mL : Nat} {rm : Room} {As : List Value} {x : Nat × va_E} {post : S → va_W} (hy : plainName y.cls = true) (hm : (lg_sl As).length ≤ mL) (hyn : y.name = "<init>") (body : ∀ (p : Program) (e : Env) (s : State) (m : MethodId) (below : List Frame) (meth : Method) (c : Code) (ls : Array Slot) (A : Nat → Prop) (Q : State → Prop), Cg p s m As.toArray meth c D ac A y.cls cc mL → lv_has ls mL (lv_args 0 As) → va_P D vwCl [x] s.heap → va_D A [x] → va_S A s.heap s.heap [] → (∀ (u : S) (H : Heap) (locs : List Loc) (ls : Array Slot) (cells slots pc : Nat), va_P D vwCl (post u) H → va_D A (post u) → va_S A s.heap H locs → cells ≤ rm.cells → slots ≤ rm.slots → decode cc pc = .ok (.return_, 1) → W p l e rm s m As.toArray below meth c H locs cells slots Q (F0 m pc ls [])) → W p l e rm s m As.toArray below meth c s.heap [] 0 0 Q (F0 m 0 ls [])) : KT l D ac y cc mL rm As x post := by
  intro sz
  refine Met.ofW (cc := cc) (maxL := mL) (ret := none) hy rfl ?_
  intro p e s m args below meth c s₁ B hml hv
  obtain ⟨rfl, hsz, hP, hK, hX⟩ := hv
  have hts := atoms_spec (ws := Cond.code y cc mL none :: WT) B.pre
  have hown : s.vm.findClass y.cls = some m.cls := findClass_of_methodNamed B.named
  have hlocks := B.notSynchronized
  have hin : meth.name = "<init>" := (name_of_methodNamed B.named B.method).1.trans hyn
  have hl := lv_entry As (n := mL) hm
  rw [lg_entry_eq]
  generalize (lg_sl As ++ List.replicate (mL - (lg_sl As).length) Slot.unset).toArray = ls at hl ⊢
  subst hsz
  have C : Cg p s m As.toArray meth c D ac (va_A [x] s.heap.size) y.cls cc mL := ⟨⟨B.exec, B.bytes, hml, hown, fun w h => hts w (List.mem_cons_of_mem _ h)⟩, hK, hX, hlocks, hin, fun q h => Or.inr h, B.returns⟩
  refine body p e s m below meth c ls (va_A [x] s.heap.size) _ C hl hP (va_D1 x _) va_S.rf (fun u H locs ls cells slots pc hP hD hS h1 h2 hd => ?_)
  refine W.widen (k := rm.cells) (n := rm.slots) h1 h2 ?_
  exact W.vret C.x C.b C.2.2.2.2.2.2 (fun t ht hW => ⟨⟨u, rfl, trivial, by rw [ht]; exact hP, hD⟩, hS.F ht⟩) hS.2.2 hd
abbrev ap (a b : va_W) : va_W := a ++ b
theorem at_app {α : Type} {t r : List α} {x : α} : (t ++ (x :: r))[t.length]? = some x := by rw [List.getElem?_append_right (Nat.le_refl _), Nat.sub_self]; rfl
/-- the last cell goes behind the first -/
theorem va_swp {D : va_G} {A : Nat → Prop} {y x : Nat × va_E} {r : va_W} {H : Heap} (hP : va_P D vwCl (y :: (r ++ [x])) H) (hD : va_D A (y :: (r ++ [x]))) : va_P D vwCl (y :: x :: r) H ∧ va_D A (y :: x :: r) := by
  have pos : ∀ k z, (y :: x :: r)[k]? = some z → ∃ j, j = (if k = 0 then 0 else if k = 1 then r.length + 1 else k - 1) ∧ (y :: (r ++ [x]))[j]? = some z := fun k z hz => by
    refine ⟨_, rfl, ?_⟩
    match k, hz with
    | 0, hz => exact hz
    | 1, hz =>
      rw [if_neg (by omega), if_pos rfl, List.getElem?_cons_succ, at_app]
      exact hz
    | k + 2, hz =>
      rw [if_neg (by omega), if_neg (by omega), show k + 2 - 1 = k + 1 by omega, List.getElem?_cons_succ]
      have hz2 : r[k]? = some z := hz
      rw [List.getElem?_append_left (List.getElem?_eq_some_iff.mp hz2).1]
      exact hz2
  refine ⟨fun k z hz => ?_, fun i j z w hi hj e => ?_, fun k z hz => ?_⟩
  · obtain ⟨j, -, hj⟩ := pos k z hz
    exact hP j z hj
  · obtain ⟨i', ei, hi'⟩ := pos i z hi
    obtain ⟨j', ej, hj'⟩ := pos j w hj
    have q := hD.1 i' j' z w hi' hj' e
    have l1 : i < r.length + 2 := (List.getElem?_eq_some_iff.mp hi).1
    have l2 : j < r.length + 2 := (List.getElem?_eq_some_iff.mp hj).1
    split at ei <;> split at ej <;> (try split at ei) <;> (try split at ej) <;> omega
  · obtain ⟨j, -, hj⟩ := pos k z hz
    exact hD.2 j z hj
section
variable {l : Launch} {D : va_G} {ac : Nat → ClassId} {p : Program} {e : Env} {R : Room} {s : State} {m : MethodId} {args : Array Value} {below : List Frame} {meth : Method} {c : Code} {own : String} {cc : ByteArray} {nL : Nat} {Q : State → Prop} {pc : Nat} {ls : Array Slot} {rest : List Value} {A : Nat → Prop} {H : Heap} {locs : List Loc} {cells slots : Nat} {ws : va_W}
theorem k_newq (C : Cg p s m args meth c D ac A own cc nL) {y : Nat × va_E} {r : va_W} (hP : va_P D vwCl (y :: r) H) (hD : va_D A (y :: r)) (hS : va_S A s.heap H locs) {E : String} {t index : Nat} (hlink : Cond.classLink own index E ∈ WT) (hover : va_AO E s) (ht : (tysC ac)[t]? = some (ac t, .object E)) {n : Int32} (N : Nat) (hn : ¬ n < 0) (hN : n.toNatClampNeg = N) (hb : N * 4 ≤ 536870912) (hc : cells + 1 ≤ R.cells) (hs : slots + N ≤ R.slots) (hd : decode cc pc = .ok (.anewarray index, 3)) (kk : ∀ (q : Nat) (H : Heap), va_P D vwCl (y :: (q, .inl (ac t, N, .inr (.inr (.inr (.inr (fun _ => none)))))) :: r) H → va_D A (y :: (q, .inl (ac t, N, .inr (.inr (.inr (.inr (fun _ => none)))))) :: r) → va_S A s.heap H locs → W p l e R s m args below meth c H locs (cells + 1) (slots + N) Q (F0 m (pc + 3) ls (.ref q :: rest))) : W p l e R s m args below meth c H locs cells slots Q (F0 m pc ls (.int n :: rest)) := by
  refine va_newq C.x C.b C.ow (C.w hlink) hover C.K hP hD hS C.hA hn hN hb hc hs hd (fun q cA H1 hK1 hP1 hD1 hS1 => ?_)
  have e1 : cA = ac t := by
    obtain ⟨_, _, _, _, _, h1⟩ := (hK1.2 6 (cA, .object E) rfl).2
    obtain ⟨_, _, _, _, _, h2⟩ := (C.K.2 t _ ht).2
    exact Option.some.inj (h1.symm.trans h2)
  subst e1
  obtain ⟨hP2, hD2⟩ := va_swp (r := r) hP1 hD1
  exact kk q H1 hP2 hD2 hS1
end
section
variable {l : Launch} {D : va_G} {ac : Nat → ClassId} {p : Program} {e : Env} {R : Room} {s : State} {m : MethodId} {args : Array Value} {below : List Frame} {meth : Method} {c : Code} {own : String} {cc : ByteArray} {nL : Nat} {Q : State → Prop} {pc : Nat} {ls : Array Slot} {rest : List Value} {A : Nat → Prop} {H : Heap} {locs : List Loc} {cells slots : Nat} {ws : va_W}
theorem k_iast (C : Cg p s m args meth c D ac A own cc nL) (hP : va_P D vwCl ws H) (hD : va_D A ws) (hS : va_S A s.heap H locs) (q0 : Nat) {a n : Nat} {f : Nat → Int32} (ha : ws[q0]? = some (a, .inl (ac 0, n, .inl f))) {i x : Int32} (j : Nat) (hj : i.toNatClampNeg = j) (hin : vp_in i n) (hd : decode cc pc = .ok (.iastore, 1)) (kk : ∀ (H : Heap) (locs : List Loc), va_P D vwCl (ws.set q0 (a, .inl (ac 0, n, .inl (upd f j x)))) H → va_D A (ws.set q0 (a, .inl (ac 0, n, .inl (upd f j x)))) → va_S A s.heap H locs → W p l e R s m args below meth c H locs cells slots Q (F0 m (pc + 1) ls rest)) : W p l e R s m args below meth c H locs cells slots Q (F0 m pc ls (.int x :: .int i :: .ref a :: rest)) := by
  subst hj
  exact va_iast C.x C.b C.K hP hD hS q0 0 ha rfl hin hd kk
theorem k_zast (C : Cg p s m args meth c D ac A own cc nL) (hP : va_P D vwCl ws H) (hD : va_D A ws) (hS : va_S A s.heap H locs) (q0 : Nat) {a n : Nat} {f : Nat → Int32} (ha : ws[q0]? = some (a, .inl (ac 1, n, .inl f))) {i x : Int32} (j : Nat) (hj : i.toNatClampNeg = j) (hx : vp_nar .boolean x = x) (hin : vp_in i n) (hd : decode cc pc = .ok (.bastore, 1)) (kk : ∀ (H : Heap) (locs : List Loc), va_P D vwCl (ws.set q0 (a, .inl (ac 1, n, .inl (upd f j x)))) H → va_D A (ws.set q0 (a, .inl (ac 1, n, .inl (upd f j x)))) → va_S A s.heap H locs → W p l e R s m args below meth c H locs cells slots Q (F0 m (pc + 1) ls rest)) : W p l e R s m args below meth c H locs cells slots Q (F0 m pc ls (.int x :: .int i :: .ref a :: rest)) := by
  subst hj
  refine va_zast C.x C.b C.K hP hD hS q0 1 ha rfl hin hd ?_
  rw [hx]
  exact kk
end
