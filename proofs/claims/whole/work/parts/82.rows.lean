/-! the law: two worlds side by side -/
abbrev A0f (s : State) : Nat → Prop := fun q => s.heap.size ≤ q
theorem XC_sub {xa xv : Nat → Nat} {A B : Nat → Prop} {U : State} (hs : ∀ x, B x → A x) (h : XC xa xv A U) : XC xa xv B U := by
  obtain ⟨h1, h2, h3, h4, h5, h6, h7⟩ := h
  exact ⟨h1, h2, h3, h4, h5.narrow hs, h6.narrow hs, h7.narrow hs⟩
def Cl (p : Program) (s : State) (m : MethodId) (meth : Method) (c : Code) (b L : Nat) (xs : Nat → Int32) (D : va_G) (ac : Nat → ClassId) (q q' xa xv : Nat → Nat) : Prop :=
  CallFix p m c code 4 s #[Value.ref b] WT R_law ∧ va_K D vwCl (tysC ac) s ∧ XC xa xv (A0f s) s ∧ QI 175 q ∧ QI 19 q' ∧ (∀ k, k < 175 → A0f s (q k)) ∧ (∀ k, k < 19 → A0f s (q' k)) ∧ (∀ i j, i < 175 → j < 19 → q i ≠ q' j) ∧ va_X b L xs s s.heap ∧ b < s.heap.size ∧ meth.locks = false ∧ meth.sig.returnType = ret
def Lv (p : Program) (l : Launch) (e : Env) (s : State) (m : MethodId) (below : List Frame) (meth : Method) (c : Code) (b : Nat) (D : va_G) (ac : Nat → ClassId) (q q' : Nat → Nat) (Q : State → Prop) (σ τ : Mm) (g : JFrame) : Prop :=
  ∀ (H : Heap) (locs : List Loc), va_P D vwCl (WS 175 q (cwC ac q) σ) H → va_P D vwCl (WS 19 q' (cwM ac q') τ) H → va_S (A0f s) s.heap H locs → W p l e room_1 s m #[Value.ref b] below meth c H locs 194 4978 Q g
section LAW
variable {p : Program} {l : Launch} {e : Env} {s : State} {m : MethodId} {below : List Frame} {meth : Method} {c : Code} {b L : Nat} {xs : Nat → Int32} {D : va_G} {ac : Nat → ClassId} {q q' xa xv : Nat → Nat} {Q : State → Prop} {σ τ : Mm} {pc : Nat} {ls : Array Slot} {rest : List Value}
theorem Cl.x (C : Cl p s m meth c b L xs D ac q q' xa xv) : p.tables.exec = Jvm.exec := C.1.1
theorem Cl.bc (C : Cl p s m meth c b L xs D ac q q' xa xv) : c.code = code := C.1.2.1
theorem Cl.w (C : Cl p s m meth c b L xs D ac q q' xa xv) {w : Cond} (h : w ∈ WT) : w.before #[Value.ref b] s = true := C.1.2.2.2.2 w h
theorem Cl.bA (C : Cl p s m meth c b L xs D ac q q' xa xv) : ¬ A0f s b := fun h => by
  have := C.2.2.2.2.2.2.2.2.2.1
  have h : s.heap.size ≤ b := h
  omega
theorem l_cb (C : Cl p s m meth c b L xs D ac q q' xa xv) {y : MethodName} {yc : ByteArray} {mL n index : Nat} {ret : Option FieldType} {rm : Room} (hcode : Cond.code y yc mL ret ∈ WT) (hini : Cond.initialized y.cls ∈ WT) (hlink : Cond.methodLink R_law index y ∈ WT) (hy : yOk y n) (hR : rm.cells = 0 ∧ rm.slots = 0 ∧ rm.frames + 1 ≤ room_1.frames ∧ 8 + (mL + 11) + rm.locals ≤ room_1.locals) : CallB room_1 s #[Value.ref b] R_law index y yc mL ret (Cond.code y yc mL ret :: WT) rm 0 0 n :=
  ⟨hR.1, hR.2.1, hR.2.2.1, hR.2.2.2, fun w hw => by
    rcases List.mem_cons.mp hw with rfl | hw
    · exact fun a' U hW => word_at hW (good_of_word (WT_good hcode)) (C.w hcode)
    · exact fun a' U hW => word_at hW (good_of_word (WT_good hw)) (C.w hw), List.mem_cons_self, C.w hcode, C.w hini, ⟨hy.1, hy.2.1⟩, v_par hy, C.w hlink⟩
theorem l_callC (C : Cl p s m meth c b L xs D ac q q' xa xv) {y : MethodName} {yc : ByteArray} {mL n index : Nat} {rm : Room} {r1 : Int × Mm} (As : List Value) (hM : MIC l D ac q xa xv y yc mL (some .int) rm (.ref (q 0) :: As) σ r1) (hcode : Cond.code y yc mL (some .int) ∈ WT) (hini : Cond.initialized y.cls ∈ WT) (hinst : Cond.instanceMethod y ∈ WT) (hsel : Cond.selects "SharedBorders" y y ∈ WT) (hlink : Cond.methodLink R_law index y ∈ WT) (hy : yOk y n) (hR : rm.cells = 0 ∧ rm.slots = 0 ∧ rm.frames + 1 ≤ room_1.frames ∧ 8 + (mL + 11) + rm.locals ≤ room_1.locals) (hn : As.length = n) (hsz : ls.size = 4) {st : List Value} (hst : st = As.reverse ++ .ref (q 0) :: rest) (hrm : (rest.map fun v => v.category).sum ≤ 8) (hd : decode code pc = .ok (.invokevirtual index, 3)) (k : Lv p l e s m below meth c b D ac q q' Q r1.2 τ (F0 m (pc + 3) ls (.int (i32 r1.1) :: rest))) : Lv p l e s m below meth c b D ac q q' Q σ τ (F0 m pc ls st) := fun H locs hP hP' hS => by
  subst hst
  obtain ⟨hF, hK, hXc, hq, hq', hA, hA', hne, hX, hbl, hlk, hrt⟩ := id C
  have hsub : ∀ x, AQ 175 q x → A0f s x := fun x ⟨k, hk, hx⟩ => by rw [← hx]; exact hA k hk
  refine va_calli (va_runV hF hM ⟨l_cb C hcode hini hlink hy hR, C.w hinst, C.w hsel⟩ ⟨blindI XC_M, va_recv hK hP (ci := 7) rfl ((WS_at (k := 0) (by omega)).trans (by rw [ckC1 rfl])), fun U hU hW => ⟨rfl, by rw [hU]; exact hP, va_K.moved hW.alike hK, XC_sub hsub (XC_M s U hXc hW (by rw [hU]; exact hS.1) (fun a h1 h2 => by rw [hU]; exact hS.2.1 a h1 h2))⟩⟩ rfl hn hsz rfl (lv_room hrm) hd ⟨by decide, by decide⟩) hS (fun x _ h => hsub x h) (fun x h => hsub x h) (fun r u t H1 locs1 ht hvm hw hB hz hk hS1 => ?_)
  obtain ⟨rfl, rfl⟩ := hw
  refine k H1 locs1 (by rw [← ht]; exact hB.1) (hP'.kept (fun j x hx => hk x.1 (hP' j x hx).lt (fun ⟨i, hi, hix⟩ => ?_))) hS1
  by_cases hj : j < 19
  · rw [WS_at hj] at hx
    cases hx
    exact hne i j hi hj hix
  · rw [WS_no hj] at hx
    cases hx
theorem tysM_K {ac : Nat → ClassId} {U : State} (h : va_K D vwCl (tysC ac) U) : va_K D vwCl (tysM ac) U := by
  refine ⟨h.1, fun k t ht => ?_⟩
  rcases k with _ | _ | k
  · exact h.2 0 t ht
  · exact h.2 1 t ht
  · cases ht
theorem l_callM (C : Cl p s m meth c b L xs D ac q q' xa xv) {y : MethodName} {yc : ByteArray} {mL n index : Nat} {rm : Room} {r1 : Int × Mm} (As : List Value) (hM : MIM l D ac q' y yc mL (some .int) rm (.ref (q' 0) :: As) τ r1) (hcode : Cond.code y yc mL (some .int) ∈ WT) (hini : Cond.initialized y.cls ∈ WT) (hinst : Cond.instanceMethod y ∈ WT) (hsel : Cond.selects "SharedBordersModel" y y ∈ WT) (hlink : Cond.methodLink R_law index y ∈ WT) (hy : yOk y n) (hR : rm.cells = 0 ∧ rm.slots = 0 ∧ rm.frames + 1 ≤ room_1.frames ∧ 8 + (mL + 11) + rm.locals ≤ room_1.locals) (hn : As.length = n) (hsz : ls.size = 4) {st : List Value} (hst : st = As.reverse ++ .ref (q' 0) :: rest) (hrm : (rest.map fun v => v.category).sum ≤ 8) (hd : decode code pc = .ok (.invokevirtual index, 3)) (k : Lv p l e s m below meth c b D ac q q' Q σ r1.2 (F0 m (pc + 3) ls (.int (i32 r1.1) :: rest))) : Lv p l e s m below meth c b D ac q q' Q σ τ (F0 m pc ls st) := fun H locs hP hP' hS => by
  subst hst
  obtain ⟨hF, hK, hXc, hq, hq', hA, hA', hne, hX, hbl, hlk, hrt⟩ := id C
  have hsub : ∀ x, AQ 19 q' x → A0f s x := fun x ⟨k, hk, hx⟩ => by rw [← hx]; exact hA' k hk
  refine va_calli (va_runV hF hM ⟨l_cb C hcode hini hlink hy hR, C.w hinst, C.w hsel⟩ ⟨blindI XT_M, va_recv hK hP' (ci := 8) rfl ((WS_at (k := 0) (by omega)).trans (by rw [ckM1 rfl])), fun U hU hW => ⟨rfl, by rw [hU]; exact hP', va_K.moved hW.alike (tysM_K hK), trivial⟩⟩ rfl hn hsz rfl (lv_room hrm) hd ⟨by decide, by decide⟩) hS (fun x _ h => hsub x h) (fun x h => hsub x h) (fun r u t H1 locs1 ht hvm hw hB hz hk hS1 => ?_)
  obtain ⟨rfl, rfl⟩ := hw
  refine k H1 locs1 (hP.kept (fun j x hx => hk x.1 (hP j x hx).lt (fun ⟨i, hi, hix⟩ => ?_))) (by rw [← ht]; exact hB.1) hS1
  by_cases hj : j < 175
  · rw [WS_at hj] at hx
    cases hx
    exact hne j i hj hi hix.symm
  · rw [WS_no hj] at hx
    cases hx
/-- one word of the script is read -/
theorem l_arg (C : Cl p s m meth c b L xs D ac q q' xa xv) {lv : List (Nat × Value)} (hl : lv_has ls 4 lv) {i : Nat} (hi : i + 5 ≤ L) (hL : L ≤ 2560) (j0 j3 : Nat) (h0 : lv[j0]? = some (0, .ref b)) (h3 : lv[j3]? = some (3, .int (i32 (i : Int)))) (j : Nat) (hj : j < 5) (hd0 : decode code pc = .ok (.aload_n 0, 1)) (hd1 : decode code (pc + 1) = .ok (.iload_n 3, 1)) (hd2 : decode code (pc + 2) = .ok (.iconst (j : Int), 1)) (hd3 : decode code (pc + 3) = .ok (.iadd, 1)) (hd4 : decode code (pc + 4) = .ok (.iaload, 1)) (k : Lv p l e s m below meth c b D ac q q' Q σ τ (F0 m (pc + 5) ls (.int (i32 (xs (i + j)).toInt) :: rest))) : Lv p l e s m below meth c b D ac q q' Q σ τ (F0 m pc ls rest) := fun H locs hP hP' hS => by
  refine lv_aload_n C.x C.bc hd0 (i := 0) rfl (lv_at hl j0 h0) (lv_iload_n C.x C.bc hd1 (i := 3) rfl (lv_at hl j3 h3) (lv_iconst C.x C.bc hd2 rfl (lv_iadd C.x C.bc hd3 ?_)))
  have ea : i32 (i : Int) + Int32.ofInt (j : Int) = i32 ((i + j : Nat) : Int) := by
    show i32 (i : Int) + i32 (j : Int) = _
    rw [i32_add]
    rfl
  rw [ea]
  refine va_sld C.x C.bc C.2.2.2.2.2.2.2.2.1 C.2.2.2.2.2.2.2.2.2.1 C.bA hS (i := i32 ((i + j : Nat) : Int)) ?_ hd4 ?_
  · exact vp_in_iff.mpr (by rw [i32_toInt (by omega)]; omega)
  · have en : (i32 ((i + j : Nat) : Int)).toNatClampNeg = i + j := by
      show (i32 ((i + j : Nat) : Int)).toInt.toNat = _
      rw [i32_toInt (by omega)]
      rfl
    rw [en]
    have h := k H locs hP hP' hS
    rw [i32_of] at h
    exact h
end LAW
