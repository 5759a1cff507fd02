/-! the String constants: ldc, length(), charAt(int) -/
theorem dJ0_length_0 : decode cJ0_length_8abf5 0 = .ok (.aload_n 0, 1) := by decide +kernel
theorem dJ0_length_1 : decode cJ0_length_8abf5 1 = .ok (.getfield 9, 3) := by decide +kernel
theorem dJ0_length_4 : decode cJ0_length_8abf5 4 = .ok (.arraylength, 1) := by decide +kernel
theorem dJ0_length_5 : decode cJ0_length_8abf5 5 = .ok (.aload_n 0, 1) := by decide +kernel
theorem dJ0_length_6 : decode cJ0_length_8abf5 6 = .ok (.invokevirtual 335, 3) := by decide +kernel
theorem dJ0_length_9 : decode cJ0_length_8abf5 9 = .ok (.ishr, 1) := by decide +kernel
theorem dJ0_length_10 : decode cJ0_length_8abf5 10 = .ok (.ireturn, 1) := by decide +kernel
theorem dJ0_coder_0 : decode cJ0_coder_7d493 0 = .ok (.getstatic 38, 3) := by decide +kernel
theorem dJ0_coder_3 : decode cJ0_coder_7d493 3 = .ok (.ifCond .eq 10, 3) := by decide +kernel
theorem dJ0_coder_6 : decode cJ0_coder_7d493 6 = .ok (.aload_n 0, 1) := by decide +kernel
theorem dJ0_coder_7 : decode cJ0_coder_7d493 7 = .ok (.getfield 15, 3) := by decide +kernel
theorem dJ0_coder_10 : decode cJ0_coder_7d493 10 = .ok (.goto 4, 3) := by decide +kernel
theorem dJ0_coder_14 : decode cJ0_coder_7d493 14 = .ok (.ireturn, 1) := by decide +kernel
theorem dJ0_isLatin1_0 : decode cJ0_isLatin1_aae02 0 = .ok (.getstatic 38, 3) := by decide +kernel
theorem dJ0_isLatin1_3 : decode cJ0_isLatin1_aae02 3 = .ok (.ifCond .eq 14, 3) := by decide +kernel
theorem dJ0_isLatin1_6 : decode cJ0_isLatin1_aae02 6 = .ok (.aload_n 0, 1) := by decide +kernel
theorem dJ0_isLatin1_7 : decode cJ0_isLatin1_aae02 7 = .ok (.getfield 15, 3) := by decide +kernel
theorem dJ0_isLatin1_10 : decode cJ0_isLatin1_aae02 10 = .ok (.ifCond .ne 7, 3) := by decide +kernel
theorem dJ0_isLatin1_13 : decode cJ0_isLatin1_aae02 13 = .ok (.iconst 1, 1) := by decide +kernel
theorem dJ0_isLatin1_14 : decode cJ0_isLatin1_aae02 14 = .ok (.goto 4, 3) := by decide +kernel
theorem dJ0_isLatin1_18 : decode cJ0_isLatin1_aae02 18 = .ok (.ireturn, 1) := by decide +kernel
theorem dJ0_charAt_0 : decode cJ0_charAt_5068e 0 = .ok (.aload_n 0, 1) := by decide +kernel
theorem dJ0_charAt_1 : decode cJ0_charAt_5068e 1 = .ok (.invokevirtual 492, 3) := by decide +kernel
theorem dJ0_charAt_4 : decode cJ0_charAt_5068e 4 = .ok (.ifCond .eq 12, 3) := by decide +kernel
theorem dJ0_charAt_7 : decode cJ0_charAt_5068e 7 = .ok (.aload_n 0, 1) := by decide +kernel
theorem dJ0_charAt_8 : decode cJ0_charAt_5068e 8 = .ok (.getfield 9, 3) := by decide +kernel
theorem dJ0_charAt_11 : decode cJ0_charAt_5068e 11 = .ok (.iload_n 1, 1) := by decide +kernel
theorem dJ0_charAt_12 : decode cJ0_charAt_5068e 12 = .ok (.invokestatic 495, 3) := by decide +kernel
theorem dJ0_charAt_15 : decode cJ0_charAt_5068e 15 = .ok (.ireturn, 1) := by decide +kernel
theorem dJ0_check_0 : decode cJ0_checkIndex_df160 0 = .ok (.iload_n 0, 1) := by decide +kernel
theorem dJ0_check_1 : decode cJ0_checkIndex_df160 1 = .ok (.iload_n 1, 1) := by decide +kernel
theorem dJ0_check_2 : decode cJ0_checkIndex_df160 2 = .ok (.getstatic 1053, 3) := by decide +kernel
theorem dJ0_check_5 : decode cJ0_checkIndex_df160 5 = .ok (.invokestatic 1059, 3) := by decide +kernel
theorem dJ0_check_8 : decode cJ0_checkIndex_df160 8 = .ok (.pop, 1) := by decide +kernel
theorem dJ0_check_9 : decode cJ0_checkIndex_df160 9 = .ok (.return_, 1) := by decide +kernel
theorem dJ1_charAt_0 : decode cJ1_charAt_3b067 0 = .ok (.iload_n 1, 1) := by decide +kernel
theorem dJ1_charAt_1 : decode cJ1_charAt_3b067 1 = .ok (.aload_n 0, 1) := by decide +kernel
theorem dJ1_charAt_2 : decode cJ1_charAt_3b067 2 = .ok (.arraylength, 1) := by decide +kernel
theorem dJ1_charAt_3 : decode cJ1_charAt_3b067 3 = .ok (.invokestatic 9, 3) := by decide +kernel
theorem dJ1_charAt_6 : decode cJ1_charAt_3b067 6 = .ok (.aload_n 0, 1) := by decide +kernel
theorem dJ1_charAt_7 : decode cJ1_charAt_3b067 7 = .ok (.iload_n 1, 1) := by decide +kernel
theorem dJ1_charAt_8 : decode cJ1_charAt_3b067 8 = .ok (.baload, 1) := by decide +kernel
theorem dJ1_charAt_9 : decode cJ1_charAt_3b067 9 = .ok (.sipush 255, 3) := by decide +kernel
theorem dJ1_charAt_12 : decode cJ1_charAt_3b067 12 = .ok (.iand, 1) := by decide +kernel
theorem dJ1_charAt_13 : decode cJ1_charAt_3b067 13 = .ok (.i2c, 1) := by decide +kernel
theorem dJ1_charAt_14 : decode cJ1_charAt_3b067 14 = .ok (.ireturn, 1) := by decide +kernel
theorem dJ3_0 : decode cJ3_checkIndex_8e157 0 = .ok (.iload_n 0, 1) := by decide +kernel
theorem dJ3_1 : decode cJ3_checkIndex_8e157 1 = .ok (.ifCond .lt 8, 3) := by decide +kernel
theorem dJ3_4 : decode cJ3_checkIndex_8e157 4 = .ok (.iload_n 0, 1) := by decide +kernel
theorem dJ3_5 : decode cJ3_checkIndex_8e157 5 = .ok (.iload_n 1, 1) := by decide +kernel
theorem dJ3_6 : decode cJ3_checkIndex_8e157 6 = .ok (.if_icmp .lt 10, 3) := by decide +kernel
theorem dJ3_16 : decode cJ3_checkIndex_8e157 16 = .ok (.iload_n 0, 1) := by decide +kernel
theorem dJ3_17 : decode cJ3_checkIndex_8e157 17 = .ok (.ireturn, 1) := by decide +kernel
abbrev rmJ_0 : Room := { frames := 0, cells := 0, slots := 0, locals := 0 }
abbrev rmJ_1 : Room := { frames := 1, cells := 0, slots := 0, locals := 22 }
abbrev rmJ_2 : Room := { frames := 2, cells := 0, slots := 0, locals := 43 }
abbrev rmJ_3 : Room := { frames := 3, cells := 0, slots := 0, locals := 64 }
def strIx (j : Nat) : Nat := ([68, 77, 82] : List Nat).getD j 0
theorem str_len {j : Nat} (hj : j < 3) : Int32.ofNat (strL.getD j 0) = i32 (strLn j : Int) ∧ strL.getD j 0 = strLn j ∧ strLn j ≤ 5 := by
  rcases (show j = 0 ∨ j = 1 ∨ j = 2 by omega) with rfl | rfl | rfl <;> decide
theorem str_chr {j i : Nat} (hj : j < 3) (hi : i < strLn j) : (((strB.getD j []).getD i 0 &&& 255).toUInt32 % 65536).toInt32 = i32 (strCc j i) ∧ narrow .char (.int (i32 (strCc j i))) = .int (i32 (strCc j i)) := by
  have key : ∀ a : Fin 3, ∀ b : Fin 5, (((strB.getD a []).getD b 0 &&& 255).toUInt32 % 65536).toInt32 = i32 (strCc a b) ∧ narrow .char (.int (i32 (strCc a b))) = .int (i32 (strCc a b)) := by decide +kernel
  exact key ⟨j, hj⟩ ⟨i, by have := (str_len hj).2.2; omega⟩
section
variable {l : Launch} {D : va_G} {ac : Nat → ClassId} {q xa xv : Nat → Nat} {p : Program} {e : Env} {R : Room} {s : State} {m : MethodId} {args : Array Value} {below : List Frame} {meth : Method} {c : Code} {own : String} {cc : ByteArray} {nL : Nat} {Q : State → Prop} {σ : Mm} {pc : Nat} {ls : Array Slot} {rest : List Value}
theorem v_str (C : CxC p R s m args meth c D ac q xa xv RX2 cc nL) (j : Nat) (hj : j < 3) (hd : decode cc pc = .ok (.ldc (strIx j), 2)) (k : VC p l e R s m args below meth c D ac q Q σ (F0 m (pc + 2) ls (.ref (xa j) :: rest))) : VC p l e R s m args below meth c D ac q Q σ (F0 m pc ls rest) := fun H locs hP hS => by
  obtain ⟨-, h0, h1, h2, -⟩ := C.2.2.1
  rcases (show j = 0 ∨ j = 1 ∨ j = 2 by omega) with rfl | rfl | rfl
  · exact va_ldcS C.x C.b C.ow h0 hd (k H locs hP hS)
  · exact va_ldcS C.x C.b C.ow h1 hd (k H locs hP hS)
  · exact va_ldcS C.x C.b C.ow h2 hd (k H locs hP hS)
/-- a call on a String constant -/
theorem v_callT (C : CxC p R s m args meth c D ac q xa xv own cc nL) {j : Nat} (hj : j < 3) {y : MethodName} {yc : ByteArray} {mL n index : Nat} {ret : Option FieldType} {rm : Room} {r1 : Int × Mm} (As : List Value) (hM : MIC l D ac q xa xv y yc mL ret rm (.ref (xa j) :: As) σ r1) (hcode : Cond.code y yc mL ret ∈ WT) (hini : Cond.initialized y.cls ∈ WT) (hinst : Cond.instanceMethod y ∈ WT) (hsel : Cond.selects "java/lang/String" y y ∈ WT) (hlink : Cond.methodLink own index y ∈ WT) (hy : yOk y n) (hR : rm.cells = 0 ∧ rm.slots = 0 ∧ rm.frames + 1 ≤ R.frames ∧ 8 + (mL + 11) + rm.locals ≤ R.locals) (hn : As.length = n) (hsz : ls.size = nL) {st : List Value} (hst : st = As.reverse ++ .ref (xa j) :: rest) (hrm : (rest.map fun v => v.category).sum ≤ 8) (hd : decode cc pc = .ok (.invokevirtual index, 3)) (k : VC p l e R s m args below meth c D ac q Q r1.2 (F0 m (pc + 3) ls (.int (i32 r1.1) :: rest))) : VC p l e R s m args below meth c D ac q Q σ (F0 m pc ls st) := fun H locs hP hS => by
  subst hst
  obtain ⟨-, -, -, -, hE, -⟩ := C.2.2.1
  refine va_calli (va_runV C.1 hM ⟨v_cb C hcode hini hlink hy hR, C.w hinst, C.w hsel⟩ ⟨blindI C.2.2.2.1, vk_recv hE hj hS, fun U hU hW => ⟨rfl, C.wo hP hS hU hW⟩⟩ rfl hn hsz rfl (lv_room hrm) hd ⟨Nat.zero_le _, Nat.zero_le _⟩) hS (fun _ _ h => h) (fun _ h => h) (fun r u t H1 locs1 ht hvm hw hB hz hk hS1 => ?_)
  obtain ⟨rfl, rfl⟩ := hw
  exact k H1 locs1 (by rw [← ht]; exact hB.1) hS1
theorem v_callSV' (C : CxC p R s m args meth c D ac q xa xv own cc nL) {y : MethodName} {yc : ByteArray} {mL n index : Nat} {ret : Option FieldType} {rm : Room} {r1 : Mm} (As : List Value) (hM : MVC l D ac q xa xv y yc mL ret rm As σ r1) (hcode : Cond.code y yc mL ret ∈ WT) (hini : Cond.initialized y.cls ∈ WT) (hstat : Cond.static y ∈ WT) (hlink : Cond.methodLink own index y ∈ WT) (hy : yOk y n) (hR : rm.cells = 0 ∧ rm.slots = 0 ∧ rm.frames + 1 ≤ R.frames ∧ 8 + (mL + 11) + rm.locals ≤ R.locals) (hn : As.length = n) (hsz : ls.size = nL) {st : List Value} (hst : st = As.reverse ++ rest) (hrm : (rest.map fun v => v.category).sum ≤ 8) (hd : decode cc pc = .ok (.invokestatic index, 3)) (k : VC p l e R s m args below meth c D ac q Q r1 (F0 m (pc + 3) ls rest)) : VC p l e R s m args below meth c D ac q Q σ (F0 m pc ls st) := fun H locs hP hS => by
  subst hst
  refine va_callv (va_runS C.1 hM ⟨v_cb C hcode hini hlink hy hR, C.w hstat⟩ ⟨blindI C.2.2.2.1, fun U hU hW => ⟨rfl, C.wo hP hS hU hW⟩⟩ rfl hn hsz rfl (lv_room hrm) hd ⟨Nat.zero_le _, Nat.zero_le _⟩) hS (fun _ _ h => h) (fun _ h => h) (fun u t H1 locs1 ht hvm hw hB hz hk hS1 => ?_)
  subst hw
  exact k H1 locs1 (by rw [← ht]; exact hB.1) hS1
theorem v_tret (C : CxC p R s m args meth c D ac q xa xv own cc nL) {ty : FieldType} (hr : meth.sig.returnType = some ty) {v : Int} {r : Int × Mm} (hv : narrow ty (.int (i32 v)) = .int (i32 v)) (h : some (v, σ) = some r) (hd : decode cc pc = .ok (.ireturn, 1)) : VC p l e R s m args below meth c D ac q (QIC D ac q xa xv below args s r) σ (F0 m pc ls [.int (i32 v)]) := fun H locs hP hS => by
  have hlocks := C.2.2.2.2.2
  cases h
  exact W.zret (ty := ty) C.x C.b hr hv (fun t ht hW => ⟨⟨i32 v, σ, rfl, ⟨rfl, rfl⟩, C.wo hP hS ht hW⟩, hS.F ht⟩) hS.2.2 hd
theorem mJ_pchk (hq : QI 175 q) {i n : Int} (b : Nat) (hi : 0 ≤ i ∧ i < n) (hn : n < 2147483648) : MIC l D ac q xa xv yJ3_checkIndex_8e157 cJ3_checkIndex_8e157 3 (some .int) rmJ_0 [.int (i32 i), .int (i32 n), .ref b] σ (i, σ) := by
  refine MI.of hq XC_M (by decide) (Nat.le_of_ble_eq_true rfl) (fun p e s m below meth c ls C hr hl H locs hP hS => ?_)
  refine lv_iload_n C.x C.b dJ3_0 rfl (lv_at hl 0 rfl) ?_
  refine lv_if_lt C.x C.b dJ3_1 (tgt := 9) rfl (fun z => absurd ((i32_lt (x := i) (y := 0) (by omega) (by omega)).mp z) (by omega)) (fun _ => ?_)
  refine lv_iload_n C.x C.b dJ3_4 rfl (lv_at hl 0 rfl) ?_
  refine lv_iload_n C.x C.b dJ3_5 rfl (lv_at hl 1 rfl) ?_
  refine lv_icmp_lt C.x C.b dJ3_6 (tgt := 16) rfl (fun _ => ?_) (fun z => absurd ((i32_lt (x := i) (y := n) (by omega) (by omega)).mpr hi.2) z)
  refine lv_iload_n C.x C.b dJ3_16 rfl (lv_at hl 0 rfl) ?_
  exact v_iret C hr rfl dJ3_17 H locs hP hS
theorem mJ_pchk0 (hq : QI 175 q) {i n : Int} (hi : 0 ≤ i ∧ i < n) (hn : n < 2147483648) : MIC l D ac q xa xv yJ3_checkIndex_8e157 cJ3_checkIndex_8e157 3 (some .int) rmJ_0 [.int (i32 i), .int (i32 n), .null] σ (i, σ) := by
  refine MI.of hq XC_M (by decide) (Nat.le_of_ble_eq_true rfl) (fun p e s m below meth c ls C hr hl H locs hP hS => ?_)
  refine lv_iload_n C.x C.b dJ3_0 rfl (lv_at hl 0 rfl) ?_
  refine lv_if_lt C.x C.b dJ3_1 (tgt := 9) rfl (fun z => absurd ((i32_lt (x := i) (y := 0) (by omega) (by omega)).mp z) (by omega)) (fun _ => ?_)
  refine lv_iload_n C.x C.b dJ3_4 rfl (lv_at hl 0 rfl) ?_
  refine lv_iload_n C.x C.b dJ3_5 rfl (lv_at hl 1 rfl) ?_
  refine lv_icmp_lt C.x C.b dJ3_6 (tgt := 16) rfl (fun _ => ?_) (fun z => absurd ((i32_lt (x := i) (y := n) (by omega) (by omega)).mpr hi.2) z)
  refine lv_iload_n C.x C.b dJ3_16 rfl (lv_at hl 0 rfl) ?_
  exact v_iret C hr rfl dJ3_17 H locs hP hS
theorem mJ_check (hq : QI 175 q) {i n : Int} (hi : 0 ≤ i ∧ i < n) (hn : n < 2147483648) : MVC l D ac q xa xv yJ0_checkIndex_df160 cJ0_checkIndex_df160 2 none rmJ_1 [.int (i32 i), .int (i32 n)] σ σ := by
  refine MV.of hq XC_M (by decide) (Nat.le_of_ble_eq_true rfl) (fun p e s m below meth c ls C hr hl H locs hP hS => ?_)
  obtain ⟨-, -, -, -, -, -, hZ | ⟨b, hZ⟩⟩ := C.2.2.1
  · refine lv_iload_n C.x C.b dJ0_check_0 rfl (lv_at hl 0 rfl) ?_
    refine lv_iload_n C.x C.b dJ0_check_1 rfl (lv_at hl 1 rfl) ?_
    refine va_gets C.x C.b hZ hS C.ow (C.w fl_J0_1053) (fun x h => h) dJ0_check_2 ?_
    refine v_callSI C (rest := []) [.int (i32 i), .int (i32 n), .null] (mJ_pchk0 hq hi hn) cd_J3_checkIndex_8e157 ic_J3 sm_J3_checkIndex_8e157 ml_J0_1059 yk_J3_checkIndex_8e157 ⟨rfl, rfl, by decide, by decide⟩ rfl hl.1 rfl (Nat.le_of_ble_eq_true rfl) dJ0_check_5 (fun H locs hP hS => ?_) H locs hP hS
    refine lv_pop C.x C.b dJ0_check_8 rfl ?_
    exact v_vret C hr rfl dJ0_check_9 H locs hP hS
  · refine lv_iload_n C.x C.b dJ0_check_0 rfl (lv_at hl 0 rfl) ?_
    refine lv_iload_n C.x C.b dJ0_check_1 rfl (lv_at hl 1 rfl) ?_
    refine va_gets C.x C.b hZ hS C.ow (C.w fl_J0_1053) (fun x h => h) dJ0_check_2 ?_
    refine v_callSI C (rest := []) [.int (i32 i), .int (i32 n), .ref b] (mJ_pchk hq b hi hn) cd_J3_checkIndex_8e157 ic_J3 sm_J3_checkIndex_8e157 ml_J0_1059 yk_J3_checkIndex_8e157 ⟨rfl, rfl, by decide, by decide⟩ rfl hl.1 rfl (Nat.le_of_ble_eq_true rfl) dJ0_check_5 (fun H locs hP hS => ?_) H locs hP hS
    refine lv_pop C.x C.b dJ0_check_8 rfl ?_
    exact v_vret C hr rfl dJ0_check_9 H locs hP hS
theorem mJ_l1 (hq : QI 175 q) {j i : Nat} (hj : j < 3) (hi : i < strLn j) : MIC l D ac q xa xv yJ1_charAt_3b067 cJ1_charAt_3b067 2 (some .char) rmJ_2 [.ref (xv j), .int (i32 (i : Int))] σ (strCc j i, σ) := by
  refine MI.of hq XC_M (by decide) (Nat.le_of_ble_eq_true rfl) (fun p e s m below meth c ls C hr hl H locs hP hS => ?_)
  obtain ⟨-, -, -, -, hE, -⟩ := C.2.2.1
  have hT := (hE.1 j hj).2.2.2
  obtain ⟨n1, n2, n3⟩ := str_len hj
  obtain ⟨k1, k2⟩ := str_chr hj hi
  refine lv_iload_n C.x C.b dJ1_charAt_0 rfl (lv_at hl 1 rfl) ?_
  refine lv_aload_n C.x C.b dJ1_charAt_1 rfl (lv_at hl 0 rfl) ?_
  refine va_tlen C.x C.b hT hS n1 dJ1_charAt_2 ?_
  refine v_callSV' C (rest := []) [.int (i32 (i : Int)), .int (i32 (strLn j : Int))] (mJ_check hq (by omega) (by omega)) cd_J0_checkIndex_df160 ic_J0 sm_J0_checkIndex_df160 ml_J1_9 yk_J0_checkIndex_df160 ⟨rfl, rfl, by decide, by decide⟩ rfl hl.1 rfl (Nat.le_of_ble_eq_true rfl) dJ1_charAt_3 (fun H locs hP hS => ?_) H locs hP hS
  refine lv_aload_n C.x C.b dJ1_charAt_6 rfl (lv_at hl 0 rfl) ?_
  refine lv_iload_n C.x C.b dJ1_charAt_7 rfl (lv_at hl 1 rfl) ?_
  refine va_tb C.x C.b hT hS (vp_inI (n := strL.getD j 0) (by omega) (by omega)) (v := .int ((strB.getD j []).getD i 0)) (by rw [clampI (n := strLn j) (by omega) (by omega)]; rfl) dJ1_charAt_8 ?_
  refine lv_sipush C.x C.b dJ1_charAt_9 (v := 255) (by decide) ?_
  refine lv_iand C.x C.b dJ1_charAt_12 ?_
  refine lv_i2c C.x C.b dJ1_charAt_13 k1 ?_
  exact v_tret C hr k2 rfl dJ1_charAt_14 H locs hP hS
theorem mJ_latin (hq : QI 175 q) {j : Nat} (hj : j < 3) : MIC l D ac q xa xv yJ0_isLatin1_aae02 cJ0_isLatin1_aae02 1 (some .boolean) rmJ_0 [.ref (xa j)] σ (1, σ) := by
  refine MI.of hq XC_M (by decide) (Nat.le_of_ble_eq_true rfl) (fun p e s m below meth c ls C hr hl H locs hP hS => ?_)
  obtain ⟨-, -, -, -, hE, hZ, -⟩ := C.2.2.1
  refine va_gets C.x C.b hZ hS C.ow (C.w fl_J0_38) (fun x h => h) dJ0_isLatin1_0 ?_
  refine lv_if_eq C.x C.b dJ0_isLatin1_3 (tgt := 17) rfl (fun z => absurd z (by decide)) (fun _ => ?_)
  refine lv_aload_n C.x C.b dJ0_isLatin1_6 rfl (lv_at hl 0 rfl) ?_
  refine vk_getf C.x C.b (hE.1 j hj).2.1 hS C.ow (C.w fl_J0_15) (fun x h => h) dJ0_isLatin1_7 ?_
  refine lv_if_ne C.x C.b dJ0_isLatin1_10 (tgt := 17) rfl (fun z => absurd rfl z) (fun _ => ?_)
  refine lv_iconst C.x C.b dJ0_isLatin1_13 rfl ?_
  refine lv_goto C.x C.b dJ0_isLatin1_14 (tgt := 18) rfl ?_
  exact v_tret C (v := 1) hr rfl rfl dJ0_isLatin1_18 H locs hP hS
theorem mJ_coder (hq : QI 175 q) {j : Nat} (hj : j < 3) : MIC l D ac q xa xv yJ0_coder_7d493 cJ0_coder_7d493 1 (some .byte) rmJ_0 [.ref (xa j)] σ (0, σ) := by
  refine MI.of hq XC_M (by decide) (Nat.le_of_ble_eq_true rfl) (fun p e s m below meth c ls C hr hl H locs hP hS => ?_)
  obtain ⟨-, -, -, -, hE, hZ, -⟩ := C.2.2.1
  refine va_gets C.x C.b hZ hS C.ow (C.w fl_J0_38) (fun x h => h) dJ0_coder_0 ?_
  refine lv_if_eq C.x C.b dJ0_coder_3 (tgt := 13) rfl (fun z => absurd z (by decide)) (fun _ => ?_)
  refine lv_aload_n C.x C.b dJ0_coder_6 rfl (lv_at hl 0 rfl) ?_
  refine vk_getf C.x C.b (hE.1 j hj).2.1 hS C.ow (C.w fl_J0_15) (fun x h => h) dJ0_coder_7 ?_
  refine lv_goto C.x C.b dJ0_coder_10 (tgt := 14) rfl ?_
  exact v_tret C (v := 0) hr rfl rfl dJ0_coder_14 H locs hP hS
theorem mJ_length (hq : QI 175 q) {j : Nat} (hj : j < 3) : MIC l D ac q xa xv yJ0_length_8abf5 cJ0_length_8abf5 1 (some .int) rmJ_1 [.ref (xa j)] σ ((strLn j : Int), σ) := by
  refine MI.of hq XC_M (by decide) (Nat.le_of_ble_eq_true rfl) (fun p e s m below meth c ls C hr hl H locs hP hS => ?_)
  obtain ⟨-, -, -, -, hE, -⟩ := C.2.2.1
  obtain ⟨n1, n2, n3⟩ := str_len hj
  refine lv_aload_n C.x C.b dJ0_length_0 rfl (lv_at hl 0 rfl) ?_
  refine vk_getf C.x C.b (hE.1 j hj).2.2.1 hS C.ow (C.w fl_J0_9) (fun x h => h) dJ0_length_1 ?_
  refine va_tlen C.x C.b (hE.1 j hj).2.2.2 hS n1 dJ0_length_4 ?_
  refine lv_aload_n C.x C.b dJ0_length_5 rfl (lv_at hl 0 rfl) ?_
  refine v_callT C hj (rest := [.int (i32 (strLn j : Int))]) [] (mJ_coder hq hj) cd_J0_coder_7d493 ic_J0 im_J0_coder_7d493 se_J0_coder_7d493 ml_J0_335 yk_J0_coder_7d493 ⟨rfl, rfl, by decide, by decide⟩ rfl hl.1 rfl (Nat.le_of_ble_eq_true rfl) dJ0_length_6 (fun H locs hP hS => ?_) H locs hP hS
  refine lv_ishr C.x C.b dJ0_length_9 ?_
  have e1 : i32 (strLn j : Int) >>> (i32 0 &&& 31) = i32 (strLn j : Int) := by
    rcases (show j = 0 ∨ j = 1 ∨ j = 2 by omega) with rfl | rfl | rfl <;> decide +kernel
  rw [e1]
  exact v_iret C hr rfl dJ0_length_10 H locs hP hS
theorem mJ_charAt (hq : QI 175 q) {j i : Nat} (hj : j < 3) (hi : i < strLn j) : MIC l D ac q xa xv yJ0_charAt_5068e cJ0_charAt_5068e 2 (some .char) rmJ_3 [.ref (xa j), .int (i32 (i : Int))] σ (strCc j i, σ) := by
  refine MI.of hq XC_M (by decide) (Nat.le_of_ble_eq_true rfl) (fun p e s m below meth c ls C hr hl H locs hP hS => ?_)
  obtain ⟨-, -, -, -, hE, -⟩ := C.2.2.1
  obtain ⟨k1, k2⟩ := str_chr hj hi
  refine lv_aload_n C.x C.b dJ0_charAt_0 rfl (lv_at hl 0 rfl) ?_
  refine v_callT C hj (rest := []) [] (mJ_latin hq hj) cd_J0_isLatin1_aae02 ic_J0 im_J0_isLatin1_aae02 se_J0_isLatin1_aae02 ml_J0_492 yk_J0_isLatin1_aae02 ⟨rfl, rfl, by decide, by decide⟩ rfl hl.1 rfl (Nat.le_of_ble_eq_true rfl) dJ0_charAt_1 (fun H locs hP hS => ?_) H locs hP hS
  refine lv_if_eq C.x C.b dJ0_charAt_4 (tgt := 16) rfl (fun z => absurd (show i32 1 = 0 from z) (by decide)) (fun _ => ?_)
  refine lv_aload_n C.x C.b dJ0_charAt_7 rfl (lv_at hl 0 rfl) ?_
  refine vk_getf C.x C.b (hE.1 j hj).2.2.1 hS C.ow (C.w fl_J0_9) (fun x h => h) dJ0_charAt_8 ?_
  refine lv_iload_n C.x C.b dJ0_charAt_11 rfl (lv_at hl 1 rfl) ?_
  refine v_callSI C (rest := []) [.ref (xv j), .int (i32 (i : Int))] (mJ_l1 hq hj hi) cd_J1_charAt_3b067 ic_J1 sm_J1_charAt_3b067 ml_J0_495 yk_J1_charAt_3b067 ⟨rfl, rfl, by decide, by decide⟩ rfl hl.1 rfl (Nat.le_of_ble_eq_true rfl) dJ0_charAt_12 (fun H locs hP hS => ?_) H locs hP hS
  exact v_tret C hr k2 rfl dJ0_charAt_15 H locs hP hS
theorem v_slen (C : CxC p R s m args meth c D ac q xa xv own cc nL) {j index : Nat} (hj : j < 3) (hsz : ls.size = nL) (hlink : Cond.methodLink own index yJ0_length_8abf5 ∈ WT) (hfr : 4 ≤ R.frames) (hlo : 85 ≤ R.locals) (hrm : (rest.map fun v => v.category).sum ≤ 8) (hd : decode cc pc = .ok (.invokevirtual index, 3)) (k : VC p l e R s m args below meth c D ac q Q σ (F0 m (pc + 3) ls (.int (i32 (strLn j : Int)) :: rest))) : VC p l e R s m args below meth c D ac q Q σ (F0 m pc ls (.ref (xa j) :: rest)) :=
  v_callT C hj (rest := rest) [] (mJ_length C.2.2.2.2.1 hj) cd_J0_length_8abf5 ic_J0 im_J0_length_8abf5 se_J0_length_8abf5 hlink yk_J0_length_8abf5 ⟨rfl, rfl, by show 1 + 1 ≤ _; omega, by show 8 + (1 + 11) + 22 ≤ _; omega⟩ rfl hsz rfl hrm hd k
theorem v_schr (C : CxC p R s m args meth c D ac q xa xv own cc nL) {j index : Nat} {i : Int} (hj : j < 3) (hsz : ls.size = nL) (hlink : Cond.methodLink own index yJ0_charAt_5068e ∈ WT) (hfr : 4 ≤ R.frames) (hlo : 85 ≤ R.locals) (hrm : (rest.map fun v => v.category).sum ≤ 8) {β : Type} {kx : Option β} {r : β} (h : chk i (strLn j) kx = some r) (hd : decode cc pc = .ok (.invokevirtual index, 3)) (k : kx = some r → VC p l e R s m args below meth c D ac q Q σ (F0 m (pc + 3) ls (.int (i32 (strCc j i.toNat)) :: rest))) : VC p l e R s m args below meth c D ac q Q σ (F0 m pc ls (.int (i32 i) :: .ref (xa j) :: rest)) := by
  obtain ⟨hi, hk⟩ := chk_e h
  obtain ⟨z, rfl⟩ : ∃ z : Nat, i = (z : Int) := ⟨i.toNat, by omega⟩
  have e1 : (z : Int).toNat = z := by omega
  rw [e1] at k
  exact v_callT C hj (rest := rest) [.int (i32 (z : Int))] (mJ_charAt C.2.2.2.2.1 hj (by omega)) cd_J0_charAt_5068e ic_J0 im_J0_charAt_5068e se_J0_charAt_5068e hlink yk_J0_charAt_5068e ⟨rfl, rfl, by show 3 + 1 ≤ _; omega, by show 8 + (2 + 11) + 64 ≤ _; omega⟩ rfl hsz rfl hrm hd (k hk)
end
