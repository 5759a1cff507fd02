section
variable {l : Launch} {D : va_G} {ac : Nat → ClassId} {q : Nat → Nat} {p : Program} {e : Env} {s : State} {m : MethodId} {args : Array Value} {below : List Frame} {meth : Method} {c : Code} {ls : Array Slot}
theorem dX8_sheet_0 : decode cX8_sheet 0 = .ok (.iload_n 1, 1) := by decide +kernel
theorem dX8_sheet_1 : decode cX8_sheet 1 = .ok (.i2l, 1) := by decide +kernel
theorem dX8_sheet_2 : decode cX8_sheet 2 = .ok (.lconst 0, 1) := by decide +kernel
theorem dX8_sheet_3 : decode cX8_sheet 3 = .ok (.ldc2_w 309, 3) := by decide +kernel
theorem dX8_sheet_6 : decode cX8_sheet 6 = .ok (.invokestatic 67, 3) := by decide +kernel
theorem dX8_sheet_9 : decode cX8_sheet 9 = .ok (.ifCond .eq 21, 3) := by decide +kernel
theorem dX8_sheet_12 : decode cX8_sheet 12 = .ok (.iload_n 2, 1) := by decide +kernel
theorem dX8_sheet_13 : decode cX8_sheet 13 = .ok (.i2l, 1) := by decide +kernel
theorem dX8_sheet_14 : decode cX8_sheet 14 = .ok (.lconst 0, 1) := by decide +kernel
theorem dX8_sheet_15 : decode cX8_sheet 15 = .ok (.ldc2_w 281, 3) := by decide +kernel
theorem dX8_sheet_18 : decode cX8_sheet 18 = .ok (.invokestatic 67, 3) := by decide +kernel
theorem dX8_sheet_21 : decode cX8_sheet 21 = .ok (.ifCond .eq 9, 3) := by decide +kernel
theorem dX8_sheet_24 : decode cX8_sheet 24 = .ok (.iload_n 3, 1) := by decide +kernel
theorem dX8_sheet_25 : decode cX8_sheet 25 = .ok (.bipush 40, 2) := by decide +kernel
theorem dX8_sheet_27 : decode cX8_sheet 27 = .ok (.if_icmp .le 5, 3) := by decide +kernel
theorem dX8_sheet_30 : decode cX8_sheet 30 = .ok (.iconst (-1), 1) := by decide +kernel
theorem dX8_sheet_31 : decode cX8_sheet 31 = .ok (.ireturn, 1) := by decide +kernel
theorem dX8_sheet_32 : decode cX8_sheet 32 = .ok (.iload_n 3, 1) := by decide +kernel
theorem dX8_sheet_33 : decode cX8_sheet 33 = .ok (.ifCond .ge 6, 3) := by decide +kernel
theorem dX8_sheet_36 : decode cX8_sheet 36 = .ok (.bipush (-14), 2) := by decide +kernel
theorem dX8_sheet_38 : decode cX8_sheet 38 = .ok (.ireturn, 1) := by decide +kernel
theorem dX8_sheet_39 : decode cX8_sheet 39 = .ok (.aload_n 0, 1) := by decide +kernel
theorem dX8_sheet_40 : decode cX8_sheet 40 = .ok (.getfield 56, 3) := by decide +kernel
theorem dX8_sheet_43 : decode cX8_sheet 43 = .ok (.iload_n 1, 1) := by decide +kernel
theorem dX8_sheet_44 : decode cX8_sheet 44 = .ok (.iload_n 2, 1) := by decide +kernel
theorem dX8_sheet_45 : decode cX8_sheet 45 = .ok (.iastore, 1) := by decide +kernel
theorem dX8_sheet_46 : decode cX8_sheet 46 = .ok (.aload_n 0, 1) := by decide +kernel
theorem dX8_sheet_47 : decode cX8_sheet 47 = .ok (.getfield 59, 3) := by decide +kernel
theorem dX8_sheet_50 : decode cX8_sheet 50 = .ok (.iload_n 1, 1) := by decide +kernel
theorem dX8_sheet_51 : decode cX8_sheet 51 = .ok (.iload_n 3, 1) := by decide +kernel
theorem dX8_sheet_52 : decode cX8_sheet 52 = .ok (.iastore, 1) := by decide +kernel
theorem dX8_sheet_53 : decode cX8_sheet 53 = .ok (.iconst 0, 1) := by decide +kernel
theorem dX8_sheet_54 : decode cX8_sheet 54 = .ok (.istore 4, 2) := by decide +kernel
theorem dX8_sheet_56 : decode cX8_sheet 56 = .ok (.iload 4, 2) := by decide +kernel
theorem dX8_sheet_58 : decode cX8_sheet 58 = .ok (.bipush 40, 2) := by decide +kernel
theorem dX8_sheet_60 : decode cX8_sheet 60 = .ok (.if_icmp .ge 22, 3) := by decide +kernel
theorem dX8_sheet_63 : decode cX8_sheet 63 = .ok (.aload_n 0, 1) := by decide +kernel
theorem dX8_sheet_64 : decode cX8_sheet 64 = .ok (.getfield 62, 3) := by decide +kernel
theorem dX8_sheet_67 : decode cX8_sheet 67 = .ok (.bipush 40, 2) := by decide +kernel
theorem dX8_sheet_69 : decode cX8_sheet 69 = .ok (.iload_n 1, 1) := by decide +kernel
theorem dX8_sheet_70 : decode cX8_sheet 70 = .ok (.imul, 1) := by decide +kernel
theorem dX8_sheet_71 : decode cX8_sheet 71 = .ok (.iload 4, 2) := by decide +kernel
theorem dX8_sheet_73 : decode cX8_sheet 73 = .ok (.iadd, 1) := by decide +kernel
theorem dX8_sheet_74 : decode cX8_sheet 74 = .ok (.iconst 0, 1) := by decide +kernel
theorem dX8_sheet_75 : decode cX8_sheet 75 = .ok (.iastore, 1) := by decide +kernel
theorem dX8_sheet_76 : decode cX8_sheet 76 = .ok (.iinc 4 1, 3) := by decide +kernel
theorem dX8_sheet_79 : decode cX8_sheet 79 = .ok (.goto (-23), 3) := by decide +kernel
theorem dX8_sheet_82 : decode cX8_sheet 82 = .ok (.iconst 1, 1) := by decide +kernel
theorem dX8_sheet_83 : decode cX8_sheet 83 = .ok (.ireturn, 1) := by decide +kernel
theorem wX8_sheet_82 (C : CxM p rmX8_sheet s m args meth c D ac q RX8 cX8_sheet 5) (hr : meth.sig.returnType = (some .int)) {σ : Mm} {r : Int × Mm} (hl : lv_has ls 5 [(0, .ref (q 0))]) (h : fX8_sheet_82 σ = some r) : VM p l e rmX8_sheet s m args below meth c D ac q (QIM D ac q below args s r) σ (F0 m 82 ls []) := by
  have h : some (1, σ) = some r := h
  refine v_iconst C dX8_sheet_82 ?_
  exact v_iret C hr h dX8_sheet_83
theorem wX8_sheet_56 (C : CxM p rmX8_sheet s m args meth c D ac q RX8 cX8_sheet 5) (hr : meth.sig.returnType = (some .int)) {v1 : Int} {v4 : Int} {σ : Mm} {e56 : Mm → Option (Int × Mm)} {c56 : Int → Mm → Option (Int × Mm)} {r : Int × Mm} (he56 : ∀ (σ : Mm) (ls : Array Slot), lv_has ls 5 [(0, .ref (q 0))] → e56 σ = some r → VM p l e rmX8_sheet s m args below meth c D ac q (QIM D ac q below args s r) σ (F0 m 82 ls [])) (hc56 : ∀ (v4x : Int) (σ : Mm) (ls : Array Slot), lv_has ls 5 [(0, .ref (q 0)), (1, .int (i32 v1)), (4, .int (i32 v4x))] → c56 v4x σ = some r → VM p l e rmX8_sheet s m args below meth c D ac q (QIM D ac q below args s r) σ (F0 m 56 ls [])) (hl : lv_has ls 5 [(0, .ref (q 0)), (1, .int (i32 v1)), (4, .int (i32 v4))]) (h : fX8_sheet_56 v1 e56 c56 v4 σ = some r) : VM p l e rmX8_sheet s m args below meth c D ac q (QIM D ac q below args s r) σ (F0 m 56 ls []) := by
  have h : cr v4 ((if v4 < 40 then chk ((40 * v1) + v4) 160 (bindv (sto σ 18 ((40 * v1) + v4).toNat 0) (fun σ_2 => bindv (v4 + 1) (fun v4_3 => c56 v4_3 σ_2))) else e56 σ)) = some r := h
  refine v_iload C hl dX8_sheet_56 2 rfl ?_
  refine v_bipush C dX8_sheet_58 rfl ?_
  have hz1 := (cr_e h).1
  have h := (cr_e h).2
  refine v_icmp_ge C (tgt := 82) hz1 (by decide) h dX8_sheet_60 rfl (fun h => ?_) (fun h => ?_)
  · exact he56 _ _ (lv_sub hl [0] rfl) h
  · refine v_aload_n C hl dX8_sheet_63 rfl 0 rfl ?_
    refine g_X8_29 C kdM_0 fl_X8_62 dX8_sheet_64 ?_
    refine v_bipush C dX8_sheet_67 rfl ?_
    refine v_iload_n C hl dX8_sheet_69 rfl 1 rfl ?_
    refine v_imul C dX8_sheet_70 ?_
    refine v_iload C hl dX8_sheet_71 2 rfl ?_
    refine v_iadd C dX8_sheet_73 ?_
    refine v_iconst C dX8_sheet_74 ?_
    refine asM12 C kdM_18 h dX8_sheet_75 (fun σ_2 h => ?_)
    refine v_iinc C hl (fun x => [(4, .int (i32 x)), (0, .ref (q 0)), (1, .int (i32 v1))]) dX8_sheet_76 2 rfl (by decide) (fun _ => rfl) h (fun v4_3 ls hl h => ?_)
    refine v_goto C (tgt := 56) dX8_sheet_79 rfl ?_
    exact hc56 _ _ _ (lv_sub hl [1, 2, 0] rfl) h
theorem wlX8_sheet_56 (C : CxM p rmX8_sheet s m args meth c D ac q RX8 cX8_sheet 5) (hr : meth.sig.returnType = (some .int)) {v1 : Int} {e56 : Mm → Option (Int × Mm)} {r : Int × Mm} (he56 : ∀ (σ : Mm) (ls : Array Slot), lv_has ls 5 [(0, .ref (q 0))] → e56 σ = some r → VM p l e rmX8_sheet s m args below meth c D ac q (QIM D ac q below args s r) σ (F0 m 82 ls [])) : ∀ (fu : Nat) (v4 : Int) (σ : Mm) (ls : Array Slot) (hl : lv_has ls 5 [(0, .ref (q 0)), (1, .int (i32 v1)), (4, .int (i32 v4))]) (h : lX8_sheet_56 v1 e56 fu v4 σ = some r), VM p l e rmX8_sheet s m args below meth c D ac q (QIM D ac q below args s r) σ (F0 m 56 ls []) := by
  intro fu
  induction fu with
  | zero =>
    intro v4 σ ls hl h
    have h : none = some r := h
    cases h
  | succ fu ih =>
    intro v4 σ ls hl h
    exact wX8_sheet_56 C hr he56 (fun v4 σ ls hl h => ih v4 σ ls hl h) hl h
theorem wX8_sheet_30 (C : CxM p rmX8_sheet s m args meth c D ac q RX8 cX8_sheet 5) (hr : meth.sig.returnType = (some .int)) {σ : Mm} {r : Int × Mm} (hl : lv_has ls 5 [(0, .ref (q 0))]) (h : fX8_sheet_30 σ = some r) : VM p l e rmX8_sheet s m args below meth c D ac q (QIM D ac q below args s r) σ (F0 m 30 ls []) := by
  have h : some ((-1), σ) = some r := h
  refine v_iconst C dX8_sheet_30 ?_
  exact v_iret C hr h dX8_sheet_31
theorem mX8_sheet (hq : QI 19 q) {v1 : Int} {v2 : Int} {v3 : Int} {σ : Mm} {r : Int × Mm} (h : fX8_sheet v1 v2 v3 σ = some r) : MIM l D ac q yX8_sheet cX8_sheet 5 (some .int) rmX8_sheet [.ref (q 0), .int (i32 v1), .int (i32 v2), .int (i32 v3)] σ r := by
  refine MI.of hq XT_M (by decide) (Nat.le_of_ble_eq_true rfl) (fun p e s m below meth c ls C hr hl => ?_)
  have hl : lv_has ls 5 [(0, .ref (q 0)), (1, .int (i32 v1)), (2, .int (i32 v2)), (3, .int (i32 v3))] := hl
  have h : cr v1 (bd (fX8_in v1 0 3 σ) (fun x_1 => cr x_1 ((if x_1 = 0 then fX8_sheet_30 σ else cr v2 (bd (fX8_in v2 0 2 σ) (fun x_3 => cr x_3 ((if x_3 = 0 then fX8_sheet_30 σ else cr v3 ((if 40 < v3 then fX8_sheet_30 σ else cr v3 ((if v3 < 0 then some ((-14), σ) else chk v1 4 (bindv (sto σ 16 (v1).toNat v2) (fun σ_7 => chk v1 4 (bindv (sto σ_7 17 (v1).toNat v3) (fun σ_8 => bindv 0 (fun v4_9 => lX8_sheet_56 v1 (fun σ_10 => fX8_sheet_82 σ_10) 400 v4_9 σ_8))))))))))))))))) = some r := h
  refine v_iload_n C hl dX8_sheet_0 rfl 1 rfl ?_
  refine v_i2l C h dX8_sheet_1 (fun h => ?_)
  refine v_lconst C (v := 0) dX8_sheet_2 rfl ?_
  refine v_ldc2 C (v := 3) kc_X8_309 rfl dX8_sheet_3 ?_
  obtain ⟨x_1, hv1, h⟩ := bd_e h
  refine v_callSI C [.long (i64 v1), .long (i64 0), .long (i64 3)] (mX8_in C.2.2.2.2.1 hv1) cd_X8_in ic_X8 sm_X8_in ml_X8_67 yk_X8_in ⟨rfl, rfl, by decide, by decide⟩ rfl hl.1 (rest := []) rfl (Nat.le_of_ble_eq_true rfl) dX8_sheet_6 ?_
  have hz2 := (cr_e h).1
  have h := (cr_e h).2
  refine v_if_eq C (tgt := 30) hz2 h dX8_sheet_9 rfl (fun h => ?_) (fun h => ?_)
  · exact wX8_sheet_30 C hr (lv_sub hl [0] rfl) h
  · refine v_iload_n C hl dX8_sheet_12 rfl 2 rfl ?_
    refine v_i2l C h dX8_sheet_13 (fun h => ?_)
    refine v_lconst C (v := 0) dX8_sheet_14 rfl ?_
    refine v_ldc2 C (v := 2) kc_X8_281 rfl dX8_sheet_15 ?_
    obtain ⟨x_3, hv3, h⟩ := bd_e h
    refine v_callSI C [.long (i64 v2), .long (i64 0), .long (i64 2)] (mX8_in C.2.2.2.2.1 hv3) cd_X8_in ic_X8 sm_X8_in ml_X8_67 yk_X8_in ⟨rfl, rfl, by decide, by decide⟩ rfl hl.1 (rest := []) rfl (Nat.le_of_ble_eq_true rfl) dX8_sheet_18 ?_
    have hz4 := (cr_e h).1
    have h := (cr_e h).2
    refine v_if_eq C (tgt := 30) hz4 h dX8_sheet_21 rfl (fun h => ?_) (fun h => ?_)
    · exact wX8_sheet_30 C hr (lv_sub hl [0] rfl) h
    · refine v_iload_n C hl dX8_sheet_24 rfl 3 rfl ?_
      refine v_bipush C dX8_sheet_25 rfl ?_
      have hz5 := (cr_e h).1
      have h := (cr_e h).2
      refine v_icmp_le C (tgt := 32) hz5 (by decide) h dX8_sheet_27 rfl (fun h => ?_) (fun h => ?_)
      · refine v_iload_n C hl dX8_sheet_32 rfl 3 rfl ?_
        have hz6 := (cr_e h).1
        have h := (cr_e h).2
        refine v_if_ge C (tgt := 39) hz6 h dX8_sheet_33 rfl (fun h => ?_) (fun h => ?_)
        · refine v_aload_n C hl dX8_sheet_39 rfl 0 rfl ?_
          refine g_X8_27 C kdM_0 fl_X8_56 dX8_sheet_40 ?_
          refine v_iload_n C hl dX8_sheet_43 rfl 1 rfl ?_
          refine v_iload_n C hl dX8_sheet_44 rfl 2 rfl ?_
          refine asM4 C kdM_16 h dX8_sheet_45 (fun σ_7 h => ?_)
          refine v_aload_n C hl dX8_sheet_46 rfl 0 rfl ?_
          refine g_X8_28 C kdM_0 fl_X8_59 dX8_sheet_47 ?_
          refine v_iload_n C hl dX8_sheet_50 rfl 1 rfl ?_
          refine v_iload_n C hl dX8_sheet_51 rfl 3 rfl ?_
          refine asM4 C kdM_17 h dX8_sheet_52 (fun σ_8 h => ?_)
          refine v_iconst C dX8_sheet_53 ?_
          refine v_istore C hl (fun x => [(4, .int (i32 x)), (0, .ref (q 0)), (1, .int (i32 v1)), (2, .int (i32 v2)), (3, .int (i32 v3))]) dX8_sheet_54 (by decide) (fun _ => rfl) h (fun v4_9 ls hl h => ?_)
          exact wlX8_sheet_56 C hr (fun σ_10 ls hl h => wX8_sheet_82 C hr (lv_sub hl [0] rfl) h) _ _ _ _ (lv_sub hl [1, 2, 0] rfl) h
        · refine v_bipush C dX8_sheet_36 rfl ?_
          exact v_iret C hr h dX8_sheet_38
      · exact wX8_sheet_30 C hr (lv_sub hl [0] rfl) h
end
section
variable {l : Launch} {D : va_G} {ac : Nat → ClassId} {q : Nat → Nat} {p : Program} {e : Env} {s : State} {m : MethodId} {args : Array Value} {below : List Frame} {meth : Method} {c : Code} {ls : Array Slot}
theorem dX8_size_0 : decode cX8_size 0 = .ok (.aload_n 0, 1) := by decide +kernel
theorem dX8_size_1 : decode cX8_size 1 = .ok (.iload_n 1, 1) := by decide +kernel
theorem dX8_size_2 : decode cX8_size 2 = .ok (.invokevirtual 266, 3) := by decide +kernel
theorem dX8_size_5 : decode cX8_size 5 = .ok (.ifCond .eq 11, 3) := by decide +kernel
theorem dX8_size_8 : decode cX8_size 8 = .ok (.aload_n 0, 1) := by decide +kernel
theorem dX8_size_9 : decode cX8_size 9 = .ok (.iload_n 2, 1) := by decide +kernel
theorem dX8_size_10 : decode cX8_size 10 = .ok (.invokevirtual 278, 3) := by decide +kernel
theorem dX8_size_13 : decode cX8_size 13 = .ok (.ifCond .ne 5, 3) := by decide +kernel
theorem dX8_size_16 : decode cX8_size 16 = .ok (.iconst (-1), 1) := by decide +kernel
theorem dX8_size_17 : decode cX8_size 17 = .ok (.ireturn, 1) := by decide +kernel
theorem dX8_size_18 : decode cX8_size 18 = .ok (.aload_n 0, 1) := by decide +kernel
theorem dX8_size_19 : decode cX8_size 19 = .ok (.iload_n 1, 1) := by decide +kernel
theorem dX8_size_20 : decode cX8_size 20 = .ok (.invokevirtual 215, 3) := by decide +kernel
theorem dX8_size_23 : decode cX8_size 23 = .ok (.ifCond .ne 12, 3) := by decide +kernel
theorem dX8_size_26 : decode cX8_size 26 = .ok (.aload_n 0, 1) := by decide +kernel
theorem dX8_size_27 : decode cX8_size 27 = .ok (.iload_n 1, 1) := by decide +kernel
theorem dX8_size_28 : decode cX8_size 28 = .ok (.iload_n 2, 1) := by decide +kernel
theorem dX8_size_29 : decode cX8_size 29 = .ok (.invokevirtual 190, 3) := by decide +kernel
theorem dX8_size_32 : decode cX8_size 32 = .ok (.ifCond .ne 8, 3) := by decide +kernel
theorem dX8_size_35 : decode cX8_size 35 = .ok (.bipush (-4), 2) := by decide +kernel
theorem dX8_size_37 : decode cX8_size 37 = .ok (.goto 9, 3) := by decide +kernel
theorem dX8_size_40 : decode cX8_size 40 = .ok (.aload_n 0, 1) := by decide +kernel
theorem dX8_size_41 : decode cX8_size 41 = .ok (.iload_n 1, 1) := by decide +kernel
theorem dX8_size_42 : decode cX8_size 42 = .ok (.iload_n 2, 1) := by decide +kernel
theorem dX8_size_43 : decode cX8_size 43 = .ok (.invokevirtual 236, 3) := by decide +kernel
theorem dX8_size_46 : decode cX8_size 46 = .ok (.ireturn, 1) := by decide +kernel
theorem wX8_size_46 (C : CxM p rmX8_size s m args meth c D ac q RX8 cX8_size 3) (hr : meth.sig.returnType = (some .int)) {t0 : Int} {σ : Mm} {r : Int × Mm} (hl : lv_has ls 3 [(0, .ref (q 0))]) (h : fX8_size_46 t0 σ = some r) : VM p l e rmX8_size s m args below meth c D ac q (QIM D ac q below args s r) σ (F0 m 46 ls [.int (i32 t0)]) := by
  have h : some (t0, σ) = some r := h
  exact v_iret C hr h dX8_size_46
theorem wX8_size_35 (C : CxM p rmX8_size s m args meth c D ac q RX8 cX8_size 3) (hr : meth.sig.returnType = (some .int)) {σ : Mm} {r : Int × Mm} (hl : lv_has ls 3 [(0, .ref (q 0))]) (h : fX8_size_35 σ = some r) : VM p l e rmX8_size s m args below meth c D ac q (QIM D ac q below args s r) σ (F0 m 35 ls []) := by
  have h : fX8_size_46 (-4) σ = some r := h
  refine v_bipush C dX8_size_35 rfl ?_
  refine v_goto C (tgt := 46) dX8_size_37 rfl ?_
  exact wX8_size_46 C hr (lv_sub hl [0] rfl) h
theorem wX8_size_16 (C : CxM p rmX8_size s m args meth c D ac q RX8 cX8_size 3) (hr : meth.sig.returnType = (some .int)) {σ : Mm} {r : Int × Mm} (hl : lv_has ls 3 [(0, .ref (q 0))]) (h : fX8_size_16 σ = some r) : VM p l e rmX8_size s m args below meth c D ac q (QIM D ac q below args s r) σ (F0 m 16 ls []) := by
  have h : some ((-1), σ) = some r := h
  refine v_iconst C dX8_size_16 ?_
  exact v_iret C hr h dX8_size_17
theorem mX8_size (hq : QI 19 q) {v1 : Int} {v2 : Int} {σ : Mm} {r : Int × Mm} (h : fX8_size v1 v2 σ = some r) : MIM l D ac q yX8_size cX8_size 3 (some .int) rmX8_size [.ref (q 0), .int (i32 v1), .int (i32 v2)] σ r := by
  refine MI.of hq XT_M (by decide) (Nat.le_of_ble_eq_true rfl) (fun p e s m below meth c ls C hr hl => ?_)
  have hl : lv_has ls 3 [(0, .ref (q 0)), (1, .int (i32 v1)), (2, .int (i32 v2))] := hl
  have h : bd (fX8_isPoint v1 σ) (fun x_1 => cr x_1 ((if x_1 = 0 then fX8_size_16 σ else bd2 (fX8_isStage v2 σ) (fun x_3 σ_3 => cr x_3 ((if x_3 = 0 then fX8_size_16 σ_3 else bd (fX8_isNode v1 σ_3) (fun x_5 => cr x_5 ((if x_5 = 0 then bd (fX8_isThere v1 v2 σ_3) (fun x_7 => cr x_7 ((if x_7 = 0 then fX8_size_35 σ_3 else bd2 (fX8_sizeOf v1 v2 σ_3) (fun x_9 σ_9 => fX8_size_46 x_9 σ_9)))) else fX8_size_35 σ_3))))))))) = some r := h
  refine v_aload_n C hl dX8_size_0 rfl 0 rfl ?_
  refine v_iload_n C hl dX8_size_1 rfl 1 rfl ?_
  obtain ⟨x_1, hv1, h⟩ := bd_e h
  refine v_callVI C 0 (klM kdM_0) rfl (ckM1 kdM_0 _) rfl [.int (i32 v1)] (mX8_isPoint C.2.2.2.2.1 hv1) cd_X8_isPoint ic_X8 im_X8_isPoint se_X8_isPoint ml_X8_266 yk_X8_isPoint ⟨rfl, rfl, by decide, by decide⟩ rfl hl.1 (rest := []) rfl (Nat.le_of_ble_eq_true rfl) dX8_size_2 ?_
  have hz2 := (cr_e h).1
  have h := (cr_e h).2
  refine v_if_eq C (tgt := 16) hz2 h dX8_size_5 rfl (fun h => ?_) (fun h => ?_)
  · exact wX8_size_16 C hr (lv_sub hl [0] rfl) h
  · refine v_aload_n C hl dX8_size_8 rfl 0 rfl ?_
    refine v_iload_n C hl dX8_size_9 rfl 2 rfl ?_
    obtain ⟨x_3, σ_3, hv3, h⟩ := bd2_e h
    refine v_callVI C 0 (klM kdM_0) rfl (ckM1 kdM_0 _) rfl [.int (i32 v2)] (mX8_isStage C.2.2.2.2.1 hv3) cd_X8_isStage ic_X8 im_X8_isStage se_X8_isStage ml_X8_278 yk_X8_isStage ⟨rfl, rfl, by decide, by decide⟩ rfl hl.1 (rest := []) rfl (Nat.le_of_ble_eq_true rfl) dX8_size_10 ?_
    have hz4 := (cr_e h).1
    have h := (cr_e h).2
    refine v_if_ne C (tgt := 18) hz4 h dX8_size_13 rfl (fun h => ?_) (fun h => ?_)
    · refine v_aload_n C hl dX8_size_18 rfl 0 rfl ?_
      refine v_iload_n C hl dX8_size_19 rfl 1 rfl ?_
      obtain ⟨x_5, hv5, h⟩ := bd_e h
      refine v_callVI C 0 (klM kdM_0) rfl (ckM1 kdM_0 _) rfl [.int (i32 v1)] (mX8_isNode C.2.2.2.2.1 hv5) cd_X8_isNode ic_X8 im_X8_isNode se_X8_isNode ml_X8_215 yk_X8_isNode ⟨rfl, rfl, by decide, by decide⟩ rfl hl.1 (rest := []) rfl (Nat.le_of_ble_eq_true rfl) dX8_size_20 ?_
      have hz6 := (cr_e h).1
      have h := (cr_e h).2
      refine v_if_ne C (tgt := 35) hz6 h dX8_size_23 rfl (fun h => ?_) (fun h => ?_)
      · exact wX8_size_35 C hr (lv_sub hl [0] rfl) h
      · refine v_aload_n C hl dX8_size_26 rfl 0 rfl ?_
        refine v_iload_n C hl dX8_size_27 rfl 1 rfl ?_
        refine v_iload_n C hl dX8_size_28 rfl 2 rfl ?_
        obtain ⟨x_7, hv7, h⟩ := bd_e h
        refine v_callVI C 0 (klM kdM_0) rfl (ckM1 kdM_0 _) rfl [.int (i32 v1), .int (i32 v2)] (mX8_isThere C.2.2.2.2.1 hv7) cd_X8_isThere ic_X8 im_X8_isThere se_X8_isThere ml_X8_190 yk_X8_isThere ⟨rfl, rfl, by decide, by decide⟩ rfl hl.1 (rest := []) rfl (Nat.le_of_ble_eq_true rfl) dX8_size_29 ?_
        have hz8 := (cr_e h).1
        have h := (cr_e h).2
        refine v_if_ne C (tgt := 40) hz8 h dX8_size_32 rfl (fun h => ?_) (fun h => ?_)
        · refine v_aload_n C hl dX8_size_40 rfl 0 rfl ?_
          refine v_iload_n C hl dX8_size_41 rfl 1 rfl ?_
          refine v_iload_n C hl dX8_size_42 rfl 2 rfl ?_
          obtain ⟨x_9, σ_9, hv9, h⟩ := bd2_e h
          refine v_callVI C 0 (klM kdM_0) rfl (ckM1 kdM_0 _) rfl [.int (i32 v1), .int (i32 v2)] (mX8_sizeOf C.2.2.2.2.1 hv9) cd_X8_sizeOf ic_X8 im_X8_sizeOf se_X8_sizeOf ml_X8_236 yk_X8_sizeOf ⟨rfl, rfl, by decide, by decide⟩ rfl hl.1 (rest := []) rfl (Nat.le_of_ble_eq_true rfl) dX8_size_43 ?_
          exact wX8_size_46 C hr (lv_sub hl [0] rfl) h
        · exact wX8_size_35 C hr (lv_sub hl [0] rfl) h
    · exact wX8_size_16 C hr (lv_sub hl [0] rfl) h
end
section
variable {l : Launch} {D : va_G} {ac : Nat → ClassId} {q : Nat → Nat} {p : Program} {e : Env} {s : State} {m : MethodId} {args : Array Value} {below : List Frame} {meth : Method} {c : Code} {ls : Array Slot}
theorem dX8_store_0 : decode cX8_store 0 = .ok (.iload_n 1, 1) := by decide +kernel
theorem dX8_store_1 : decode cX8_store 1 = .ok (.i2l, 1) := by decide +kernel
theorem dX8_store_2 : decode cX8_store 2 = .ok (.lconst 0, 1) := by decide +kernel
theorem dX8_store_3 : decode cX8_store 3 = .ok (.lconst 1, 1) := by decide +kernel
theorem dX8_store_4 : decode cX8_store 4 = .ok (.invokestatic 67, 3) := by decide +kernel
theorem dX8_store_7 : decode cX8_store 7 = .ok (.ifCond .ne 5, 3) := by decide +kernel
theorem dX8_store_10 : decode cX8_store 10 = .ok (.iconst (-1), 1) := by decide +kernel
theorem dX8_store_11 : decode cX8_store 11 = .ok (.ireturn, 1) := by decide +kernel
theorem dX8_store_12 : decode cX8_store 12 = .ok (.aload_n 0, 1) := by decide +kernel
theorem dX8_store_13 : decode cX8_store 13 = .ok (.getfield 53, 3) := by decide +kernel
theorem dX8_store_16 : decode cX8_store 16 = .ok (.iload_n 1, 1) := by decide +kernel
theorem dX8_store_17 : decode cX8_store 17 = .ok (.baload, 1) := by decide +kernel
theorem dX8_store_18 : decode cX8_store 18 = .ok (.ifCond .eq 7, 3) := by decide +kernel
theorem dX8_store_21 : decode cX8_store 21 = .ok (.iconst 1, 1) := by decide +kernel
theorem dX8_store_22 : decode cX8_store 22 = .ok (.goto 4, 3) := by decide +kernel
theorem dX8_store_25 : decode cX8_store 25 = .ok (.iconst 0, 1) := by decide +kernel
theorem dX8_store_26 : decode cX8_store 26 = .ok (.istore_n 2, 1) := by decide +kernel
theorem dX8_store_27 : decode cX8_store 27 = .ok (.aload_n 0, 1) := by decide +kernel
theorem dX8_store_28 : decode cX8_store 28 = .ok (.iconst 0, 1) := by decide +kernel
theorem dX8_store_29 : decode cX8_store 29 = .ok (.sipush 140, 3) := by decide +kernel
theorem dX8_store_32 : decode cX8_store 32 = .ok (.iload_n 1, 1) := by decide +kernel
theorem dX8_store_33 : decode cX8_store 33 = .ok (.imul, 1) := by decide +kernel
theorem dX8_store_34 : decode cX8_store 34 = .ok (.sipush 140, 3) := by decide +kernel
theorem dX8_store_37 : decode cX8_store 37 = .ok (.iadd, 1) := by decide +kernel
theorem dX8_store_38 : decode cX8_store 38 = .ok (.invokevirtual 145, 3) := by decide +kernel
theorem dX8_store_41 : decode cX8_store 41 = .ok (.aload_n 0, 1) := by decide +kernel
theorem dX8_store_42 : decode cX8_store 42 = .ok (.getfield 53, 3) := by decide +kernel
theorem dX8_store_45 : decode cX8_store 45 = .ok (.iload_n 1, 1) := by decide +kernel
theorem dX8_store_46 : decode cX8_store 46 = .ok (.iconst 1, 1) := by decide +kernel
theorem dX8_store_47 : decode cX8_store 47 = .ok (.bastore, 1) := by decide +kernel
theorem dX8_store_48 : decode cX8_store 48 = .ok (.iload_n 2, 1) := by decide +kernel
theorem dX8_store_49 : decode cX8_store 49 = .ok (.ireturn, 1) := by decide +kernel
theorem wX8_store_26 (C : CxM p rmX8_store s m args meth c D ac q RX8 cX8_store 3) (hr : meth.sig.returnType = (some .int)) {v1 : Int} {t0 : Int} {σ : Mm} {r : Int × Mm} (hl : lv_has ls 3 [(0, .ref (q 0)), (1, .int (i32 v1))]) (h : fX8_store_26 v1 t0 σ = some r) : VM p l e rmX8_store s m args below meth c D ac q (QIM D ac q below args s r) σ (F0 m 26 ls [.int (i32 t0)]) := by
  have h : bindv t0 (fun v2_1 => bd (fX8_copies 0 ((140 * v1) + 140) σ) (fun σ_2 => chb 1 (chk v1 2 (bindv (sto σ_2 15 (v1).toNat 1) (fun σ_3 => some (v2_1, σ_3)))))) = some r := h
  refine v_istore_n C hl (fun x => [(2, .int (i32 x)), (0, .ref (q 0)), (1, .int (i32 v1))]) dX8_store_26 rfl (by decide) (fun _ => rfl) h (fun v2_1 ls hl h => ?_)
  refine v_aload_n C hl dX8_store_27 rfl 1 rfl ?_
  refine v_iconst C dX8_store_28 ?_
  refine v_sipush C dX8_store_29 rfl ?_
  refine v_iload_n C hl dX8_store_32 rfl 2 rfl ?_
  refine v_imul C dX8_store_33 ?_
  refine v_sipush C dX8_store_34 rfl ?_
  refine v_iadd C dX8_store_37 ?_
  obtain ⟨σ_2, hv2, h⟩ := bd_e h
  refine v_callVV C 0 (klM kdM_0) rfl (ckM1 kdM_0 _) rfl [.int (i32 0), .int (i32 ((140 * v1) + 140))] (mX8_copies C.2.2.2.2.1 hv2) cd_X8_copies ic_X8 im_X8_copies se_X8_copies ml_X8_145 yk_X8_copies ⟨rfl, rfl, by decide, by decide⟩ rfl hl.1 (rest := []) rfl (Nat.le_of_ble_eq_true rfl) dX8_store_38 ?_
  refine v_aload_n C hl dX8_store_41 rfl 1 rfl ?_
  refine g_X8_26 C kdM_0 fl_X8_53 dX8_store_42 ?_
  refine v_iload_n C hl dX8_store_45 rfl 2 rfl ?_
  refine v_iconst C dX8_store_46 ?_
  refine asM11 C kdM_15 h dX8_store_47 (fun σ_3 h => ?_)
  refine v_iload_n C hl dX8_store_48 rfl 0 rfl ?_
  exact v_iret C hr h dX8_store_49
theorem mX8_store (hq : QI 19 q) {v1 : Int} {σ : Mm} {r : Int × Mm} (h : fX8_store v1 σ = some r) : MIM l D ac q yX8_store cX8_store 3 (some .int) rmX8_store [.ref (q 0), .int (i32 v1)] σ r := by
  refine MI.of hq XT_M (by decide) (Nat.le_of_ble_eq_true rfl) (fun p e s m below meth c ls C hr hl => ?_)
  have hl : lv_has ls 3 [(0, .ref (q 0)), (1, .int (i32 v1))] := hl
  have h : cr v1 (bd (fX8_in v1 0 1 σ) (fun x_1 => cr x_1 ((if x_1 = 0 then some ((-1), σ) else chk v1 2 (cr (σ 15 (v1).toNat) ((if σ 15 (v1).toNat = 0 then fX8_store_26 v1 0 σ else fX8_store_26 v1 1 σ))))))) = some r := h
  refine v_iload_n C hl dX8_store_0 rfl 1 rfl ?_
  refine v_i2l C h dX8_store_1 (fun h => ?_)
  refine v_lconst C (v := 0) dX8_store_2 rfl ?_
  refine v_lconst C (v := 1) dX8_store_3 rfl ?_
  obtain ⟨x_1, hv1, h⟩ := bd_e h
  refine v_callSI C [.long (i64 v1), .long (i64 0), .long (i64 1)] (mX8_in C.2.2.2.2.1 hv1) cd_X8_in ic_X8 sm_X8_in ml_X8_67 yk_X8_in ⟨rfl, rfl, by decide, by decide⟩ rfl hl.1 (rest := []) rfl (Nat.le_of_ble_eq_true rfl) dX8_store_4 ?_
  have hz2 := (cr_e h).1
  have h := (cr_e h).2
  refine v_if_ne C (tgt := 12) hz2 h dX8_store_7 rfl (fun h => ?_) (fun h => ?_)
  · refine v_aload_n C hl dX8_store_12 rfl 0 rfl ?_
    refine g_X8_26 C kdM_0 fl_X8_53 dX8_store_13 ?_
    refine v_iload_n C hl dX8_store_16 rfl 1 rfl ?_
    refine alM11 C kdM_15 h dX8_store_17 (fun h => ?_)
    have hz3 := (cr_e h).1
    have h := (cr_e h).2
    refine v_if_eq C (tgt := 25) hz3 h dX8_store_18 rfl (fun h => ?_) (fun h => ?_)
    · refine v_iconst C dX8_store_25 ?_
      exact wX8_store_26 C hr (lv_sub hl [0, 1] rfl) h
    · refine v_iconst C dX8_store_21 ?_
      refine v_goto C (tgt := 26) dX8_store_22 rfl ?_
      exact wX8_store_26 C hr (lv_sub hl [0, 1] rfl) h
  · refine v_iconst C dX8_store_10 ?_
    exact v_iret C hr h dX8_store_11
end
section
variable {l : Launch} {D : va_G} {ac : Nat → ClassId} {q : Nat → Nat} {p : Program} {e : Env} {s : State} {m : MethodId} {args : Array Value} {below : List Frame} {meth : Method} {c : Code} {ls : Array Slot}
theorem dX8_text_0 : decode cX8_text 0 = .ok (.aload_n 0, 1) := by decide +kernel
theorem dX8_text_1 : decode cX8_text 1 = .ok (.iconst 0, 1) := by decide +kernel
theorem dX8_text_2 : decode cX8_text 2 = .ok (.putfield 75, 3) := by decide +kernel
theorem dX8_text_5 : decode cX8_text 5 = .ok (.aload_n 0, 1) := by decide +kernel
theorem dX8_text_6 : decode cX8_text 6 = .ok (.iconst 0, 1) := by decide +kernel
theorem dX8_text_7 : decode cX8_text 7 = .ok (.putfield 87, 3) := by decide +kernel
theorem dX8_text_10 : decode cX8_text 10 = .ok (.aload_n 0, 1) := by decide +kernel
theorem dX8_text_11 : decode cX8_text 11 = .ok (.iconst 0, 1) := by decide +kernel
theorem dX8_text_12 : decode cX8_text 12 = .ok (.putfield 128, 3) := by decide +kernel
theorem dX8_text_15 : decode cX8_text 15 = .ok (.iconst 0, 1) := by decide +kernel
theorem dX8_text_16 : decode cX8_text 16 = .ok (.istore_n 1, 1) := by decide +kernel
theorem dX8_text_17 : decode cX8_text 17 = .ok (.iconst 0, 1) := by decide +kernel
theorem dX8_text_18 : decode cX8_text 18 = .ok (.istore_n 2, 1) := by decide +kernel
theorem dX8_text_19 : decode cX8_text 19 = .ok (.iload_n 2, 1) := by decide +kernel
theorem dX8_text_20 : decode cX8_text 20 = .ok (.sipush 140, 3) := by decide +kernel
theorem dX8_text_23 : decode cX8_text 23 = .ok (.if_icmp .ge 20, 3) := by decide +kernel
theorem dX8_text_26 : decode cX8_text 26 = .ok (.aload_n 0, 1) := by decide +kernel
theorem dX8_text_27 : decode cX8_text 27 = .ok (.getfield 7, 3) := by decide +kernel
theorem dX8_text_30 : decode cX8_text 30 = .ok (.sipush 420, 3) := by decide +kernel
theorem dX8_text_33 : decode cX8_text 33 = .ok (.iload_n 2, 1) := by decide +kernel
theorem dX8_text_34 : decode cX8_text 34 = .ok (.iadd, 1) := by decide +kernel
theorem dX8_text_35 : decode cX8_text 35 = .ok (.iconst 0, 1) := by decide +kernel
theorem dX8_text_36 : decode cX8_text 36 = .ok (.iastore, 1) := by decide +kernel
theorem dX8_text_37 : decode cX8_text 37 = .ok (.iinc 2 1, 3) := by decide +kernel
theorem dX8_text_40 : decode cX8_text 40 = .ok (.goto (-21), 3) := by decide +kernel
theorem dX8_text_43 : decode cX8_text 43 = .ok (.aload_n 0, 1) := by decide +kernel
theorem dX8_text_44 : decode cX8_text 44 = .ok (.invokevirtual 109, 3) := by decide +kernel
theorem dX8_text_47 : decode cX8_text 47 = .ok (.aload_n 0, 1) := by decide +kernel
theorem dX8_text_48 : decode cX8_text 48 = .ok (.getfield 75, 3) := by decide +kernel
theorem dX8_text_51 : decode cX8_text 51 = .ok (.ifCond .ne 20, 3) := by decide +kernel
theorem dX8_text_54 : decode cX8_text 54 = .ok (.aload_n 0, 1) := by decide +kernel
theorem dX8_text_55 : decode cX8_text 55 = .ok (.getfield 84, 3) := by decide +kernel
theorem dX8_text_58 : decode cX8_text 58 = .ok (.ifCond .eq 13, 3) := by decide +kernel
theorem dX8_text_61 : decode cX8_text 61 = .ok (.aload_n 0, 1) := by decide +kernel
theorem dX8_text_62 : decode cX8_text 62 = .ok (.invokevirtual 135, 3) := by decide +kernel
theorem dX8_text_65 : decode cX8_text 65 = .ok (.iinc 1 1, 3) := by decide +kernel
theorem dX8_text_68 : decode cX8_text 68 = .ok (.goto (-21), 3) := by decide +kernel
theorem dX8_text_71 : decode cX8_text 71 = .ok (.aload_n 0, 1) := by decide +kernel
theorem dX8_text_72 : decode cX8_text 72 = .ok (.getfield 75, 3) := by decide +kernel
theorem dX8_text_75 : decode cX8_text 75 = .ok (.ifCond .ne 16, 3) := by decide +kernel
theorem dX8_text_78 : decode cX8_text 78 = .ok (.aload_n 0, 1) := by decide +kernel
theorem dX8_text_79 : decode cX8_text 79 = .ok (.invokevirtual 138, 3) := by decide +kernel
theorem dX8_text_82 : decode cX8_text 82 = .ok (.ifCond .ne 9, 3) := by decide +kernel
theorem dX8_text_85 : decode cX8_text 85 = .ok (.aload_n 0, 1) := by decide +kernel
theorem dX8_text_86 : decode cX8_text 86 = .ok (.bipush 6, 2) := by decide +kernel
theorem dX8_text_88 : decode cX8_text 88 = .ok (.invokevirtual 105, 3) := by decide +kernel
theorem dX8_text_91 : decode cX8_text 91 = .ok (.aload_n 0, 1) := by decide +kernel
theorem dX8_text_92 : decode cX8_text 92 = .ok (.iconst 0, 1) := by decide +kernel
theorem dX8_text_93 : decode cX8_text 93 = .ok (.putfield 71, 3) := by decide +kernel
theorem dX8_text_96 : decode cX8_text 96 = .ok (.aload_n 0, 1) := by decide +kernel
theorem dX8_text_97 : decode cX8_text 97 = .ok (.aload_n 0, 1) := by decide +kernel
theorem dX8_text_98 : decode cX8_text 98 = .ok (.getfield 75, 3) := by decide +kernel
theorem dX8_text_101 : decode cX8_text 101 = .ok (.putfield 142, 3) := by decide +kernel
theorem dX8_text_104 : decode cX8_text 104 = .ok (.aload_n 0, 1) := by decide +kernel
theorem dX8_text_105 : decode cX8_text 105 = .ok (.getfield 75, 3) := by decide +kernel
theorem dX8_text_108 : decode cX8_text 108 = .ok (.ifCond .le 11, 3) := by decide +kernel
theorem dX8_text_111 : decode cX8_text 111 = .ok (.bipush (-10), 2) := by decide +kernel
theorem dX8_text_113 : decode cX8_text 113 = .ok (.aload_n 0, 1) := by decide +kernel
theorem dX8_text_114 : decode cX8_text 114 = .ok (.getfield 81, 3) := by decide +kernel
theorem dX8_text_117 : decode cX8_text 117 = .ok (.isub, 1) := by decide +kernel
theorem dX8_text_118 : decode cX8_text 118 = .ok (.ireturn, 1) := by decide +kernel
theorem dX8_text_119 : decode cX8_text 119 = .ok (.aload_n 0, 1) := by decide +kernel
theorem dX8_text_120 : decode cX8_text 120 = .ok (.sipush 420, 3) := by decide +kernel
theorem dX8_text_123 : decode cX8_text 123 = .ok (.iconst 0, 1) := by decide +kernel
theorem dX8_text_124 : decode cX8_text 124 = .ok (.invokevirtual 145, 3) := by decide +kernel
theorem dX8_text_127 : decode cX8_text 127 = .ok (.aload_n 0, 1) := by decide +kernel
theorem dX8_text_128 : decode cX8_text 128 = .ok (.iconst 0, 1) := by decide +kernel
theorem dX8_text_129 : decode cX8_text 129 = .ok (.putfield 149, 3) := by decide +kernel
theorem dX8_text_132 : decode cX8_text 132 = .ok (.aload_n 0, 1) := by decide +kernel
theorem dX8_text_133 : decode cX8_text 133 = .ok (.getfield 53, 3) := by decide +kernel
theorem dX8_text_136 : decode cX8_text 136 = .ok (.iconst 0, 1) := by decide +kernel
theorem dX8_text_137 : decode cX8_text 137 = .ok (.iconst 0, 1) := by decide +kernel
theorem dX8_text_138 : decode cX8_text 138 = .ok (.bastore, 1) := by decide +kernel
theorem dX8_text_139 : decode cX8_text 139 = .ok (.aload_n 0, 1) := by decide +kernel
theorem dX8_text_140 : decode cX8_text 140 = .ok (.getfield 53, 3) := by decide +kernel
theorem dX8_text_143 : decode cX8_text 143 = .ok (.iconst 1, 1) := by decide +kernel
theorem dX8_text_144 : decode cX8_text 144 = .ok (.iconst 0, 1) := by decide +kernel
theorem dX8_text_145 : decode cX8_text 145 = .ok (.bastore, 1) := by decide +kernel
theorem dX8_text_146 : decode cX8_text 146 = .ok (.iload_n 1, 1) := by decide +kernel
theorem dX8_text_147 : decode cX8_text 147 = .ok (.ireturn, 1) := by decide +kernel
theorem wX8_text_91 (C : CxM p rmX8_text s m args meth c D ac q RX8 cX8_text 3) (hr : meth.sig.returnType = (some .int)) {v1 : Int} {σ : Mm} {r : Int × Mm} (hl : lv_has ls 3 [(0, .ref (q 0)), (1, .int (i32 v1))]) (h : fX8_text_91 v1 σ = some r) : VM p l e rmX8_text s m args below meth c D ac q (QIM D ac q below args s r) σ (F0 m 91 ls []) := by
  have h : bindv (sto σ 0 2 0) (fun σ_1 => bindv (sto σ_1 0 3 (σ_1 0 4)) (fun σ_2 => cr (σ_2 0 4) ((if 0 < σ_2 0 4 then some ((-10) - (σ_2 0 5), σ_2) else bd (fX8_copies 420 0 σ_2) (fun σ_4 => bindv (sto σ_4 0 17 0) (fun σ_5 => chb 0 (chk 0 2 (bindv (sto σ_5 15 0 0) (fun σ_6 => chb 0 (chk 1 2 (bindv (sto σ_6 15 1 0) (fun σ_7 => some (v1, σ_7))))))))))))) = some r := h
  refine v_aload_n C hl dX8_text_91 rfl 0 rfl ?_
  refine v_iconst C dX8_text_92 ?_
  refine s_X8_2 C kdM_0 fl_X8_71 h dX8_text_93 (fun σ_1 h => ?_)
  refine v_aload_n C hl dX8_text_96 rfl 0 rfl ?_
  refine v_aload_n C hl dX8_text_97 rfl 0 rfl ?_
  refine g_X8_4 C kdM_0 fl_X8_75 dX8_text_98 ?_
  refine s_X8_3 C kdM_0 fl_X8_142 h dX8_text_101 (fun σ_2 h => ?_)
  refine v_aload_n C hl dX8_text_104 rfl 0 rfl ?_
  refine g_X8_4 C kdM_0 fl_X8_75 dX8_text_105 ?_
  have hz3 := (cr_e h).1
  have h := (cr_e h).2
  refine v_if_le C (tgt := 119) hz3 h dX8_text_108 rfl (fun h => ?_) (fun h => ?_)
  · refine v_aload_n C hl dX8_text_119 rfl 0 rfl ?_
    refine v_sipush C dX8_text_120 rfl ?_
    refine v_iconst C dX8_text_123 ?_
    obtain ⟨σ_4, hv4, h⟩ := bd_e h
    refine v_callVV C 0 (klM kdM_0) rfl (ckM1 kdM_0 _) rfl [.int (i32 420), .int (i32 0)] (mX8_copies C.2.2.2.2.1 hv4) cd_X8_copies ic_X8 im_X8_copies se_X8_copies ml_X8_145 yk_X8_copies ⟨rfl, rfl, by decide, by decide⟩ rfl hl.1 (rest := []) rfl (Nat.le_of_ble_eq_true rfl) dX8_text_124 ?_
    refine v_aload_n C hl dX8_text_127 rfl 0 rfl ?_
    refine v_iconst C dX8_text_128 ?_
    refine s_X8_17 C kdM_0 fl_X8_149 (Or.inl rfl) h dX8_text_129 (fun σ_5 h => ?_)
    refine v_aload_n C hl dX8_text_132 rfl 0 rfl ?_
    refine g_X8_26 C kdM_0 fl_X8_53 dX8_text_133 ?_
    refine v_iconst C dX8_text_136 ?_
    refine v_iconst C dX8_text_137 ?_
    refine asM11 C kdM_15 h dX8_text_138 (fun σ_6 h => ?_)
    refine v_aload_n C hl dX8_text_139 rfl 0 rfl ?_
    refine g_X8_26 C kdM_0 fl_X8_53 dX8_text_140 ?_
    refine v_iconst C dX8_text_143 ?_
    refine v_iconst C dX8_text_144 ?_
    refine asM11 C kdM_15 h dX8_text_145 (fun σ_7 h => ?_)
    refine v_iload_n C hl dX8_text_146 rfl 1 rfl ?_
    exact v_iret C hr h dX8_text_147
  · refine v_bipush C dX8_text_111 rfl ?_
    refine v_aload_n C hl dX8_text_113 rfl 0 rfl ?_
    refine g_X8_5 C kdM_0 fl_X8_81 dX8_text_114 ?_
    refine v_isub C dX8_text_117 ?_
    exact v_iret C hr h dX8_text_118
theorem wX8_text_71 (C : CxM p rmX8_text s m args meth c D ac q RX8 cX8_text 3) (hr : meth.sig.returnType = (some .int)) {v1 : Int} {σ : Mm} {r : Int × Mm} (hl : lv_has ls 3 [(0, .ref (q 0)), (1, .int (i32 v1))]) (h : fX8_text_71 v1 σ = some r) : VM p l e rmX8_text s m args below meth c D ac q (QIM D ac q below args s r) σ (F0 m 71 ls []) := by
  have h : cr (σ 0 4) ((if σ 0 4 = 0 then bd (fX8_isWhole σ) (fun x_2 => cr x_2 ((if x_2 = 0 then bd (fX8_fails 6 σ) (fun σ_4 => fX8_text_91 v1 σ_4) else fX8_text_91 v1 σ))) else fX8_text_91 v1 σ)) = some r := h
  refine v_aload_n C hl dX8_text_71 rfl 0 rfl ?_
  refine g_X8_4 C kdM_0 fl_X8_75 dX8_text_72 ?_
  have hz1 := (cr_e h).1
  have h := (cr_e h).2
  refine v_if_ne C (tgt := 91) hz1 h dX8_text_75 rfl (fun h => ?_) (fun h => ?_)
  · exact wX8_text_91 C hr (lv_sub hl [0, 1] rfl) h
  · refine v_aload_n C hl dX8_text_78 rfl 0 rfl ?_
    obtain ⟨x_2, hv2, h⟩ := bd_e h
    refine v_callVI C 0 (klM kdM_0) rfl (ckM1 kdM_0 _) rfl [] (mX8_isWhole C.2.2.2.2.1 hv2) cd_X8_isWhole ic_X8 im_X8_isWhole se_X8_isWhole ml_X8_138 yk_X8_isWhole ⟨rfl, rfl, by decide, by decide⟩ rfl hl.1 (rest := []) rfl (Nat.le_of_ble_eq_true rfl) dX8_text_79 ?_
    have hz3 := (cr_e h).1
    have h := (cr_e h).2
    refine v_if_ne C (tgt := 91) hz3 h dX8_text_82 rfl (fun h => ?_) (fun h => ?_)
    · exact wX8_text_91 C hr (lv_sub hl [0, 1] rfl) h
    · refine v_aload_n C hl dX8_text_85 rfl 0 rfl ?_
      refine v_bipush C dX8_text_86 rfl ?_
      obtain ⟨σ_4, hv4, h⟩ := bd_e h
      refine v_callVV C 0 (klM kdM_0) rfl (ckM1 kdM_0 _) rfl [.int (i32 6)] (mX8_fails C.2.2.2.2.1 hv4) cd_X8_fails ic_X8 im_X8_fails se_X8_fails ml_X8_105 yk_X8_fails ⟨rfl, rfl, by decide, by decide⟩ rfl hl.1 (rest := []) rfl (Nat.le_of_ble_eq_true rfl) dX8_text_88 ?_
      exact wX8_text_91 C hr (lv_sub hl [0, 1] rfl) h
theorem wX8_text_47 (C : CxM p rmX8_text s m args meth c D ac q RX8 cX8_text 3) (hr : meth.sig.returnType = (some .int)) {v1 : Int} {σ : Mm} {e47 : Int → Mm → Option (Int × Mm)} {c47 : Int → Mm → Option (Int × Mm)} {r : Int × Mm} (he47 : ∀ (v1x : Int) (σ : Mm) (ls : Array Slot), lv_has ls 3 [(0, .ref (q 0)), (1, .int (i32 v1x))] → e47 v1x σ = some r → VM p l e rmX8_text s m args below meth c D ac q (QIM D ac q below args s r) σ (F0 m 71 ls [])) (hc47 : ∀ (v1x : Int) (σ : Mm) (ls : Array Slot), lv_has ls 3 [(0, .ref (q 0)), (1, .int (i32 v1x))] → c47 v1x σ = some r → VM p l e rmX8_text s m args below meth c D ac q (QIM D ac q below args s r) σ (F0 m 47 ls [])) (hl : lv_has ls 3 [(0, .ref (q 0)), (1, .int (i32 v1))]) (h : fX8_text_47 e47 c47 v1 σ = some r) : VM p l e rmX8_text s m args below meth c D ac q (QIM D ac q below args s r) σ (F0 m 47 ls []) := by
  have h : cr (σ 0 4) ((if σ 0 4 = 0 then cr (σ 0 8) ((if σ 0 8 = 0 then e47 v1 σ else bd (fX8_readLine σ) (fun σ_3 => bindv (v1 + 1) (fun v1_4 => c47 v1_4 σ_3)))) else e47 v1 σ)) = some r := h
  refine v_aload_n C hl dX8_text_47 rfl 0 rfl ?_
  refine g_X8_4 C kdM_0 fl_X8_75 dX8_text_48 ?_
  have hz1 := (cr_e h).1
  have h := (cr_e h).2
  refine v_if_ne C (tgt := 71) hz1 h dX8_text_51 rfl (fun h => ?_) (fun h => ?_)
  · exact he47 _ _ _ (lv_sub hl [0, 1] rfl) h
  · refine v_aload_n C hl dX8_text_54 rfl 0 rfl ?_
    refine g_X8_8 C kdM_0 fl_X8_84 dX8_text_55 ?_
    have hz2 := (cr_e h).1
    have h := (cr_e h).2
    refine v_if_eq C (tgt := 71) hz2 h dX8_text_58 rfl (fun h => ?_) (fun h => ?_)
    · exact he47 _ _ _ (lv_sub hl [0, 1] rfl) h
    · refine v_aload_n C hl dX8_text_61 rfl 0 rfl ?_
      obtain ⟨σ_3, hv3, h⟩ := bd_e h
      refine v_callVV C 0 (klM kdM_0) rfl (ckM1 kdM_0 _) rfl [] (mX8_readLine C.2.2.2.2.1 hv3) cd_X8_readLine ic_X8 im_X8_readLine se_X8_readLine ml_X8_135 yk_X8_readLine ⟨rfl, rfl, by decide, by decide⟩ rfl hl.1 (rest := []) rfl (Nat.le_of_ble_eq_true rfl) dX8_text_62 ?_
      refine v_iinc C hl (fun x => [(1, .int (i32 x)), (0, .ref (q 0))]) dX8_text_65 1 rfl (by decide) (fun _ => rfl) h (fun v1_4 ls hl h => ?_)
      refine v_goto C (tgt := 47) dX8_text_68 rfl ?_
      exact hc47 _ _ _ (lv_sub hl [1, 0] rfl) h
theorem wlX8_text_47 (C : CxM p rmX8_text s m args meth c D ac q RX8 cX8_text 3) (hr : meth.sig.returnType = (some .int)) {e47 : Int → Mm → Option (Int × Mm)} {r : Int × Mm} (he47 : ∀ (v1x : Int) (σ : Mm) (ls : Array Slot), lv_has ls 3 [(0, .ref (q 0)), (1, .int (i32 v1x))] → e47 v1x σ = some r → VM p l e rmX8_text s m args below meth c D ac q (QIM D ac q below args s r) σ (F0 m 71 ls [])) : ∀ (fu : Nat) (v1 : Int) (σ : Mm) (ls : Array Slot) (hl : lv_has ls 3 [(0, .ref (q 0)), (1, .int (i32 v1))]) (h : lX8_text_47 e47 fu v1 σ = some r), VM p l e rmX8_text s m args below meth c D ac q (QIM D ac q below args s r) σ (F0 m 47 ls []) := by
  intro fu
  induction fu with
  | zero =>
    intro v1 σ ls hl h
    have h : none = some r := h
    cases h
  | succ fu ih =>
    intro v1 σ ls hl h
    exact wX8_text_47 C hr he47 (fun v1 σ ls hl h => ih v1 σ ls hl h) hl h
theorem wX8_text_43 (C : CxM p rmX8_text s m args meth c D ac q RX8 cX8_text 3) (hr : meth.sig.returnType = (some .int)) {v1 : Int} {σ : Mm} {r : Int × Mm} (hl : lv_has ls 3 [(0, .ref (q 0)), (1, .int (i32 v1))]) (h : fX8_text_43 v1 σ = some r) : VM p l e rmX8_text s m args below meth c D ac q (QIM D ac q below args s r) σ (F0 m 43 ls []) := by
  have h : bd (fX8_readsOn σ) (fun σ_1 => lX8_text_47 (fun v1_2 σ_3 => fX8_text_71 v1_2 σ_3) 400 v1 σ_1) = some r := h
  refine v_aload_n C hl dX8_text_43 rfl 0 rfl ?_
  obtain ⟨σ_1, hv1, h⟩ := bd_e h
  refine v_callVV C 0 (klM kdM_0) rfl (ckM1 kdM_0 _) rfl [] (mX8_readsOn C.2.2.2.2.1 hv1) cd_X8_readsOn ic_X8 im_X8_readsOn se_X8_readsOn ml_X8_109 yk_X8_readsOn ⟨rfl, rfl, by decide, by decide⟩ rfl hl.1 (rest := []) rfl (Nat.le_of_ble_eq_true rfl) dX8_text_44 ?_
  exact wlX8_text_47 C hr (fun v1_2 σ_3 ls hl h => wX8_text_71 C hr (lv_sub hl [0, 1] rfl) h) _ _ _ _ (lv_sub hl [0, 1] rfl) h
theorem wX8_text_19 (C : CxM p rmX8_text s m args meth c D ac q RX8 cX8_text 3) (hr : meth.sig.returnType = (some .int)) {v1 : Int} {v2 : Int} {σ : Mm} {e19 : Mm → Option (Int × Mm)} {c19 : Int → Mm → Option (Int × Mm)} {r : Int × Mm} (he19 : ∀ (σ : Mm) (ls : Array Slot), lv_has ls 3 [(0, .ref (q 0)), (1, .int (i32 v1))] → e19 σ = some r → VM p l e rmX8_text s m args below meth c D ac q (QIM D ac q below args s r) σ (F0 m 43 ls [])) (hc19 : ∀ (v2x : Int) (σ : Mm) (ls : Array Slot), lv_has ls 3 [(0, .ref (q 0)), (1, .int (i32 v1)), (2, .int (i32 v2x))] → c19 v2x σ = some r → VM p l e rmX8_text s m args below meth c D ac q (QIM D ac q below args s r) σ (F0 m 19 ls [])) (hl : lv_has ls 3 [(0, .ref (q 0)), (1, .int (i32 v1)), (2, .int (i32 v2))]) (h : fX8_text_19 v1 e19 c19 v2 σ = some r) : VM p l e rmX8_text s m args below meth c D ac q (QIM D ac q below args s r) σ (F0 m 19 ls []) := by
  have h : cr v2 ((if v2 < 140 then chk (420 + v2) 700 (bindv (sto σ 1 (420 + v2).toNat 0) (fun σ_2 => bindv (v2 + 1) (fun v2_3 => c19 v2_3 σ_2))) else e19 σ)) = some r := h
  refine v_iload_n C hl dX8_text_19 rfl 2 rfl ?_
  refine v_sipush C dX8_text_20 rfl ?_
  have hz1 := (cr_e h).1
  have h := (cr_e h).2
  refine v_icmp_ge C (tgt := 43) hz1 (by decide) h dX8_text_23 rfl (fun h => ?_) (fun h => ?_)
  · exact he19 _ _ (lv_sub hl [0, 1] rfl) h
  · refine v_aload_n C hl dX8_text_26 rfl 0 rfl ?_
    refine g_X8_0 C kdM_0 fl_X8_7 dX8_text_27 ?_
    refine v_sipush C dX8_text_30 rfl ?_
    refine v_iload_n C hl dX8_text_33 rfl 2 rfl ?_
    refine v_iadd C dX8_text_34 ?_
    refine v_iconst C dX8_text_35 ?_
    refine asM2 C kdM_1 h dX8_text_36 (fun σ_2 h => ?_)
    refine v_iinc C hl (fun x => [(2, .int (i32 x)), (0, .ref (q 0)), (1, .int (i32 v1))]) dX8_text_37 2 rfl (by decide) (fun _ => rfl) h (fun v2_3 ls hl h => ?_)
    refine v_goto C (tgt := 19) dX8_text_40 rfl ?_
    exact hc19 _ _ _ (lv_sub hl [1, 2, 0] rfl) h
theorem wlX8_text_19 (C : CxM p rmX8_text s m args meth c D ac q RX8 cX8_text 3) (hr : meth.sig.returnType = (some .int)) {v1 : Int} {e19 : Mm → Option (Int × Mm)} {r : Int × Mm} (he19 : ∀ (σ : Mm) (ls : Array Slot), lv_has ls 3 [(0, .ref (q 0)), (1, .int (i32 v1))] → e19 σ = some r → VM p l e rmX8_text s m args below meth c D ac q (QIM D ac q below args s r) σ (F0 m 43 ls [])) : ∀ (fu : Nat) (v2 : Int) (σ : Mm) (ls : Array Slot) (hl : lv_has ls 3 [(0, .ref (q 0)), (1, .int (i32 v1)), (2, .int (i32 v2))]) (h : lX8_text_19 v1 e19 fu v2 σ = some r), VM p l e rmX8_text s m args below meth c D ac q (QIM D ac q below args s r) σ (F0 m 19 ls []) := by
  intro fu
  induction fu with
  | zero =>
    intro v2 σ ls hl h
    have h : none = some r := h
    cases h
  | succ fu ih =>
    intro v2 σ ls hl h
    exact wX8_text_19 C hr he19 (fun v2 σ ls hl h => ih v2 σ ls hl h) hl h
theorem mX8_text (hq : QI 19 q)  {σ : Mm} {r : Int × Mm} (h : fX8_text σ = some r) : MIM l D ac q yX8_text cX8_text 3 (some .int) rmX8_text [.ref (q 0)] σ r := by
  refine MI.of hq XT_M (by decide) (Nat.le_of_ble_eq_true rfl) (fun p e s m below meth c ls C hr hl => ?_)
  have hl : lv_has ls 3 [(0, .ref (q 0))] := hl
  have h : bindv (sto σ 0 4 0) (fun σ_1 => bindv (sto σ_1 0 6 0) (fun σ_2 => bindv (sto σ_2 0 12 0) (fun σ_3 => bindv 0 (fun v1_4 => bindv 0 (fun v2_5 => lX8_text_19 v1_4 (fun σ_6 => fX8_text_43 v1_4 σ_6) 400 v2_5 σ_3))))) = some r := h
  refine v_aload_n C hl dX8_text_0 rfl 0 rfl ?_
  refine v_iconst C dX8_text_1 ?_
  refine s_X8_4 C kdM_0 fl_X8_75 h dX8_text_2 (fun σ_1 h => ?_)
  refine v_aload_n C hl dX8_text_5 rfl 0 rfl ?_
  refine v_iconst C dX8_text_6 ?_
  refine s_X8_6 C kdM_0 fl_X8_87 h dX8_text_7 (fun σ_2 h => ?_)
  refine v_aload_n C hl dX8_text_10 rfl 0 rfl ?_
  refine v_iconst C dX8_text_11 ?_
  refine s_X8_12 C kdM_0 fl_X8_128 h dX8_text_12 (fun σ_3 h => ?_)
  refine v_iconst C dX8_text_15 ?_
  refine v_istore_n C hl (fun x => [(1, .int (i32 x)), (0, .ref (q 0))]) dX8_text_16 rfl (by decide) (fun _ => rfl) h (fun v1_4 ls hl h => ?_)
  refine v_iconst C dX8_text_17 ?_
  refine v_istore_n C hl (fun x => [(2, .int (i32 x)), (1, .int (i32 v1_4)), (0, .ref (q 0))]) dX8_text_18 rfl (by decide) (fun _ => rfl) h (fun v2_5 ls hl h => ?_)
  exact wlX8_text_19 C hr (fun σ_6 ls hl h => wX8_text_43 C hr (lv_sub hl [0, 1] rfl) h) _ _ _ _ (lv_sub hl [2, 1, 0] rfl) h
end
section
variable {l : Launch} {D : va_G} {ac : Nat → ClassId} {q : Nat → Nat} {p : Program} {e : Env} {s : State} {m : MethodId} {args : Array Value} {below : List Frame} {meth : Method} {c : Code} {ls : Array Slot}
theorem dX8_torn_0 : decode cX8_torn 0 = .ok (.aload_n 0, 1) := by decide +kernel
theorem dX8_torn_1 : decode cX8_torn 1 = .ok (.getfield 313, 3) := by decide +kernel
theorem dX8_torn_4 : decode cX8_torn 4 = .ok (.ireturn, 1) := by decide +kernel
theorem mX8_torn (hq : QI 19 q)  {σ : Mm} {r : Int} (h : fX8_torn σ = some r) : MIM l D ac q yX8_torn cX8_torn 1 (some .int) rmX8_torn [.ref (q 0)] σ (r, σ) := by
  refine MI.of hq XT_M (by decide) (Nat.le_of_ble_eq_true rfl) (fun p e s m below meth c ls C hr hl => ?_)
  have hl : lv_has ls 1 [(0, .ref (q 0))] := hl
  have h : some (σ 0 30) = some r := h
  refine v_aload_n C hl dX8_torn_0 rfl 0 rfl ?_
  refine g_X8_30 C kdM_0 fl_X8_313 dX8_torn_1 ?_
  exact v_iret C hr (so1 h) dX8_torn_4
end
section
variable {l : Launch} {D : va_G} {ac : Nat → ClassId} {q : Nat → Nat} {p : Program} {e : Env} {s : State} {m : MethodId} {args : Array Value} {below : List Frame} {meth : Method} {c : Code} {ls : Array Slot}
theorem dX8_why_0 : decode cX8_why 0 = .ok (.aload_n 0, 1) := by decide +kernel
theorem dX8_why_1 : decode cX8_why 1 = .ok (.iload_n 1, 1) := by decide +kernel
theorem dX8_why_2 : decode cX8_why 2 = .ok (.invokevirtual 266, 3) := by decide +kernel
theorem dX8_why_5 : decode cX8_why 5 = .ok (.ifCond .eq 20, 3) := by decide +kernel
theorem dX8_why_8 : decode cX8_why 8 = .ok (.aload_n 0, 1) := by decide +kernel
theorem dX8_why_9 : decode cX8_why 9 = .ok (.iload_n 2, 1) := by decide +kernel
theorem dX8_why_10 : decode cX8_why 10 = .ok (.invokevirtual 278, 3) := by decide +kernel
theorem dX8_why_13 : decode cX8_why 13 = .ok (.ifCond .eq 12, 3) := by decide +kernel
theorem dX8_why_16 : decode cX8_why 16 = .ok (.aload_n 0, 1) := by decide +kernel
theorem dX8_why_17 : decode cX8_why 17 = .ok (.iload_n 1, 1) := by decide +kernel
theorem dX8_why_18 : decode cX8_why 18 = .ok (.iload_n 2, 1) := by decide +kernel
theorem dX8_why_19 : decode cX8_why 19 = .ok (.invokevirtual 242, 3) := by decide +kernel
theorem dX8_why_22 : decode cX8_why 22 = .ok (.goto 4, 3) := by decide +kernel
theorem dX8_why_25 : decode cX8_why 25 = .ok (.iconst (-1), 1) := by decide +kernel
theorem dX8_why_26 : decode cX8_why 26 = .ok (.ireturn, 1) := by decide +kernel
theorem wX8_why_26 (C : CxM p rmX8_why s m args meth c D ac q RX8 cX8_why 3) (hr : meth.sig.returnType = (some .int)) {t0 : Int} {σ : Mm} {r : Int × Mm} (hl : lv_has ls 3 [(0, .ref (q 0))]) (h : fX8_why_26 t0 σ = some r) : VM p l e rmX8_why s m args below meth c D ac q (QIM D ac q below args s r) σ (F0 m 26 ls [.int (i32 t0)]) := by
  have h : some (t0, σ) = some r := h
  exact v_iret C hr h dX8_why_26
theorem wX8_why_25 (C : CxM p rmX8_why s m args meth c D ac q RX8 cX8_why 3) (hr : meth.sig.returnType = (some .int)) {σ : Mm} {r : Int × Mm} (hl : lv_has ls 3 [(0, .ref (q 0))]) (h : fX8_why_25 σ = some r) : VM p l e rmX8_why s m args below meth c D ac q (QIM D ac q below args s r) σ (F0 m 25 ls []) := by
  have h : fX8_why_26 (-1) σ = some r := h
  refine v_iconst C dX8_why_25 ?_
  exact wX8_why_26 C hr (lv_sub hl [0] rfl) h
theorem mX8_why (hq : QI 19 q) {v1 : Int} {v2 : Int} {σ : Mm} {r : Int × Mm} (h : fX8_why v1 v2 σ = some r) : MIM l D ac q yX8_why cX8_why 3 (some .int) rmX8_why [.ref (q 0), .int (i32 v1), .int (i32 v2)] σ r := by
  refine MI.of hq XT_M (by decide) (Nat.le_of_ble_eq_true rfl) (fun p e s m below meth c ls C hr hl => ?_)
  have hl : lv_has ls 3 [(0, .ref (q 0)), (1, .int (i32 v1)), (2, .int (i32 v2))] := hl
  have h : bd (fX8_isPoint v1 σ) (fun x_1 => cr x_1 ((if x_1 = 0 then fX8_why_25 σ else bd2 (fX8_isStage v2 σ) (fun x_3 σ_3 => cr x_3 ((if x_3 = 0 then fX8_why_25 σ_3 else bd2 (fX8_whyNot v1 v2 σ_3) (fun x_5 σ_5 => fX8_why_26 x_5 σ_5))))))) = some r := h
  refine v_aload_n C hl dX8_why_0 rfl 0 rfl ?_
  refine v_iload_n C hl dX8_why_1 rfl 1 rfl ?_
  obtain ⟨x_1, hv1, h⟩ := bd_e h
  refine v_callVI C 0 (klM kdM_0) rfl (ckM1 kdM_0 _) rfl [.int (i32 v1)] (mX8_isPoint C.2.2.2.2.1 hv1) cd_X8_isPoint ic_X8 im_X8_isPoint se_X8_isPoint ml_X8_266 yk_X8_isPoint ⟨rfl, rfl, by decide, by decide⟩ rfl hl.1 (rest := []) rfl (Nat.le_of_ble_eq_true rfl) dX8_why_2 ?_
  have hz2 := (cr_e h).1
  have h := (cr_e h).2
  refine v_if_eq C (tgt := 25) hz2 h dX8_why_5 rfl (fun h => ?_) (fun h => ?_)
  · exact wX8_why_25 C hr (lv_sub hl [0] rfl) h
  · refine v_aload_n C hl dX8_why_8 rfl 0 rfl ?_
    refine v_iload_n C hl dX8_why_9 rfl 2 rfl ?_
    obtain ⟨x_3, σ_3, hv3, h⟩ := bd2_e h
    refine v_callVI C 0 (klM kdM_0) rfl (ckM1 kdM_0 _) rfl [.int (i32 v2)] (mX8_isStage C.2.2.2.2.1 hv3) cd_X8_isStage ic_X8 im_X8_isStage se_X8_isStage ml_X8_278 yk_X8_isStage ⟨rfl, rfl, by decide, by decide⟩ rfl hl.1 (rest := []) rfl (Nat.le_of_ble_eq_true rfl) dX8_why_10 ?_
    have hz4 := (cr_e h).1
    have h := (cr_e h).2
    refine v_if_eq C (tgt := 25) hz4 h dX8_why_13 rfl (fun h => ?_) (fun h => ?_)
    · exact wX8_why_25 C hr (lv_sub hl [0] rfl) h
    · refine v_aload_n C hl dX8_why_16 rfl 0 rfl ?_
      refine v_iload_n C hl dX8_why_17 rfl 1 rfl ?_
      refine v_iload_n C hl dX8_why_18 rfl 2 rfl ?_
      obtain ⟨x_5, σ_5, hv5, h⟩ := bd2_e h
      refine v_callVI C 0 (klM kdM_0) rfl (ckM1 kdM_0 _) rfl [.int (i32 v1), .int (i32 v2)] (mX8_whyNot C.2.2.2.2.1 hv5) cd_X8_whyNot ic_X8 im_X8_whyNot se_X8_whyNot ml_X8_242 yk_X8_whyNot ⟨rfl, rfl, by decide, by decide⟩ rfl hl.1 (rest := []) rfl (Nat.le_of_ble_eq_true rfl) dX8_why_19 ?_
      refine v_goto C (tgt := 26) dX8_why_22 rfl ?_
      exact wX8_why_26 C hr (lv_sub hl [0] rfl) h
end
section
variable {l : Launch} {D : va_G} {ac : Nat → ClassId} {q : Nat → Nat} {p : Program} {e : Env} {s : State} {m : MethodId} {args : Array Value} {below : List Frame} {meth : Method} {c : Code} {ls : Array Slot}
theorem dX8_within_0 : decode cX8_within 0 = .ok (.iload_n 1, 1) := by decide +kernel
theorem dX8_within_1 : decode cX8_within 1 = .ok (.i2l, 1) := by decide +kernel
theorem dX8_within_2 : decode cX8_within 2 = .ok (.lconst 0, 1) := by decide +kernel
theorem dX8_within_3 : decode cX8_within 3 = .ok (.ldc2_w 298, 3) := by decide +kernel
theorem dX8_within_6 : decode cX8_within 6 = .ok (.invokestatic 67, 3) := by decide +kernel
theorem dX8_within_9 : decode cX8_within 9 = .ok (.ifCond .eq 23, 3) := by decide +kernel
theorem dX8_within_12 : decode cX8_within 12 = .ok (.iload_n 2, 1) := by decide +kernel
theorem dX8_within_13 : decode cX8_within 13 = .ok (.i2l, 1) := by decide +kernel
theorem dX8_within_14 : decode cX8_within 14 = .ok (.lconst 0, 1) := by decide +kernel
theorem dX8_within_15 : decode cX8_within 15 = .ok (.ldc2_w 298, 3) := by decide +kernel
theorem dX8_within_18 : decode cX8_within 18 = .ok (.invokestatic 67, 3) := by decide +kernel
theorem dX8_within_21 : decode cX8_within 21 = .ok (.ifCond .eq 11, 3) := by decide +kernel
theorem dX8_within_24 : decode cX8_within 24 = .ok (.aload_n 0, 1) := by decide +kernel
theorem dX8_within_25 : decode cX8_within 25 = .ok (.iload_n 3, 1) := by decide +kernel
theorem dX8_within_26 : decode cX8_within 26 = .ok (.invokevirtual 278, 3) := by decide +kernel
theorem dX8_within_29 : decode cX8_within 29 = .ok (.ifCond .ne 5, 3) := by decide +kernel
theorem dX8_within_32 : decode cX8_within 32 = .ok (.iconst (-1), 1) := by decide +kernel
theorem dX8_within_33 : decode cX8_within 33 = .ok (.ireturn, 1) := by decide +kernel
theorem dX8_within_34 : decode cX8_within 34 = .ok (.bipush (-4), 2) := by decide +kernel
theorem dX8_within_36 : decode cX8_within 36 = .ok (.istore 4, 2) := by decide +kernel
theorem dX8_within_38 : decode cX8_within 38 = .ok (.iconst 0, 1) := by decide +kernel
theorem dX8_within_39 : decode cX8_within 39 = .ok (.istore 5, 2) := by decide +kernel
theorem dX8_within_41 : decode cX8_within 41 = .ok (.iconst 0, 1) := by decide +kernel
theorem dX8_within_42 : decode cX8_within 42 = .ok (.istore 6, 2) := by decide +kernel
theorem dX8_within_44 : decode cX8_within 44 = .ok (.iload 6, 2) := by decide +kernel
theorem dX8_within_46 : decode cX8_within 46 = .ok (.aload_n 0, 1) := by decide +kernel
theorem dX8_within_47 : decode cX8_within 47 = .ok (.invokevirtual 194, 3) := by decide +kernel
theorem dX8_within_50 : decode cX8_within 50 = .ok (.if_icmp .ge 64, 3) := by decide +kernel
theorem dX8_within_53 : decode cX8_within 53 = .ok (.aload_n 0, 1) := by decide +kernel
theorem dX8_within_54 : decode cX8_within 54 = .ok (.iload_n 1, 1) := by decide +kernel
theorem dX8_within_55 : decode cX8_within 55 = .ok (.iload_n 2, 1) := by decide +kernel
theorem dX8_within_56 : decode cX8_within 56 = .ok (.aload_n 0, 1) := by decide +kernel
theorem dX8_within_57 : decode cX8_within 57 = .ok (.iload 6, 2) := by decide +kernel
theorem dX8_within_59 : decode cX8_within 59 = .ok (.iload_n 3, 1) := by decide +kernel
theorem dX8_within_60 : decode cX8_within 60 = .ok (.invokevirtual 197, 3) := by decide +kernel
theorem dX8_within_63 : decode cX8_within 63 = .ok (.invokevirtual 300, 3) := by decide +kernel
theorem dX8_within_66 : decode cX8_within 66 = .ok (.istore 7, 2) := by decide +kernel
theorem dX8_within_68 : decode cX8_within 68 = .ok (.iload 5, 2) := by decide +kernel
theorem dX8_within_70 : decode cX8_within 70 = .ok (.ifCond .ne 9, 3) := by decide +kernel
theorem dX8_within_73 : decode cX8_within 73 = .ok (.iload 7, 2) := by decide +kernel
theorem dX8_within_75 : decode cX8_within 75 = .ok (.iconst 2, 1) := by decide +kernel
theorem dX8_within_76 : decode cX8_within 76 = .ok (.if_icmp .ne 7, 3) := by decide +kernel
theorem dX8_within_79 : decode cX8_within 79 = .ok (.iconst 1, 1) := by decide +kernel
theorem dX8_within_80 : decode cX8_within 80 = .ok (.goto 4, 3) := by decide +kernel
theorem dX8_within_83 : decode cX8_within 83 = .ok (.iconst 0, 1) := by decide +kernel
theorem dX8_within_84 : decode cX8_within 84 = .ok (.istore 5, 2) := by decide +kernel
theorem dX8_within_86 : decode cX8_within 86 = .ok (.iload 7, 2) := by decide +kernel
theorem dX8_within_88 : decode cX8_within 88 = .ok (.iconst 1, 1) := by decide +kernel
theorem dX8_within_89 : decode cX8_within 89 = .ok (.if_icmp .ne 15, 3) := by decide +kernel
theorem dX8_within_92 : decode cX8_within 92 = .ok (.iload 4, 2) := by decide +kernel
theorem dX8_within_94 : decode cX8_within 94 = .ok (.bipush (-4), 2) := by decide +kernel
theorem dX8_within_96 : decode cX8_within 96 = .ok (.if_icmp .ne 8, 3) := by decide +kernel
theorem dX8_within_99 : decode cX8_within 99 = .ok (.iload 6, 2) := by decide +kernel
theorem dX8_within_101 : decode cX8_within 101 = .ok (.goto 5, 3) := by decide +kernel
theorem dX8_within_104 : decode cX8_within 104 = .ok (.iload 4, 2) := by decide +kernel
theorem dX8_within_106 : decode cX8_within 106 = .ok (.istore 4, 2) := by decide +kernel
theorem dX8_within_108 : decode cX8_within 108 = .ok (.iinc 6 1, 3) := by decide +kernel
theorem dX8_within_111 : decode cX8_within 111 = .ok (.goto (-67), 3) := by decide +kernel
theorem dX8_within_114 : decode cX8_within 114 = .ok (.iload 5, 2) := by decide +kernel
theorem dX8_within_116 : decode cX8_within 116 = .ok (.ifCond .eq 8, 3) := by decide +kernel
theorem dX8_within_119 : decode cX8_within 119 = .ok (.bipush (-2), 2) := by decide +kernel
theorem dX8_within_121 : decode cX8_within 121 = .ok (.goto 5, 3) := by decide +kernel
theorem dX8_within_124 : decode cX8_within 124 = .ok (.iload 4, 2) := by decide +kernel
theorem dX8_within_126 : decode cX8_within 126 = .ok (.ireturn, 1) := by decide +kernel
theorem wX8_within_126 (C : CxM p rmX8_within s m args meth c D ac q RX8 cX8_within 8) (hr : meth.sig.returnType = (some .int)) {t0 : Int} {σ : Mm} {r : Int × Mm} (hl : lv_has ls 8 [(0, .ref (q 0))]) (h : fX8_within_126 t0 σ = some r) : VM p l e rmX8_within s m args below meth c D ac q (QIM D ac q below args s r) σ (F0 m 126 ls [.int (i32 t0)]) := by
  have h : some (t0, σ) = some r := h
  exact v_iret C hr h dX8_within_126
theorem wX8_within_114 (C : CxM p rmX8_within s m args meth c D ac q RX8 cX8_within 8) (hr : meth.sig.returnType = (some .int)) {v4 : Int} {v5 : Int} {σ : Mm} {r : Int × Mm} (hl : lv_has ls 8 [(0, .ref (q 0)), (4, .int (i32 v4)), (5, .int (i32 v5))]) (h : fX8_within_114 v4 v5 σ = some r) : VM p l e rmX8_within s m args below meth c D ac q (QIM D ac q below args s r) σ (F0 m 114 ls []) := by
  have h : cr v5 ((if v5 = 0 then fX8_within_126 v4 σ else fX8_within_126 (-2) σ)) = some r := h
  refine v_iload C hl dX8_within_114 2 rfl ?_
  have hz1 := (cr_e h).1
  have h := (cr_e h).2
  refine v_if_eq C (tgt := 124) hz1 h dX8_within_116 rfl (fun h => ?_) (fun h => ?_)
  · refine v_iload C hl dX8_within_124 1 rfl ?_
    exact wX8_within_126 C hr (lv_sub hl [0] rfl) h
  · refine v_bipush C dX8_within_119 rfl ?_
    refine v_goto C (tgt := 126) dX8_within_121 rfl ?_
    exact wX8_within_126 C hr (lv_sub hl [0] rfl) h
theorem wX8_within_106 (C : CxM p rmX8_within s m args meth c D ac q RX8 cX8_within 8) (hr : meth.sig.returnType = (some .int)) {v1 : Int} {v2 : Int} {v3 : Int} {v5 : Int} {v6 : Int} {t0 : Int} {c44 : Int → Int → Int → Mm → Option (Int × Mm)} {σ : Mm} {r : Int × Mm} (hc44 : ∀ (v4x : Int) (v5x : Int) (v6x : Int) (σ : Mm) (ls : Array Slot), lv_has ls 8 [(0, .ref (q 0)), (1, .int (i32 v1)), (2, .int (i32 v2)), (3, .int (i32 v3)), (4, .int (i32 v4x)), (5, .int (i32 v5x)), (6, .int (i32 v6x))] → c44 v4x v5x v6x σ = some r → VM p l e rmX8_within s m args below meth c D ac q (QIM D ac q below args s r) σ (F0 m 44 ls [])) (hl : lv_has ls 8 [(0, .ref (q 0)), (1, .int (i32 v1)), (2, .int (i32 v2)), (3, .int (i32 v3)), (5, .int (i32 v5)), (6, .int (i32 v6))]) (h : fX8_within_106 c44 v1 v2 v3 v5 v6 t0 σ = some r) : VM p l e rmX8_within s m args below meth c D ac q (QIM D ac q below args s r) σ (F0 m 106 ls [.int (i32 t0)]) := by
  have h : bindv t0 (fun v4_1 => bindv (v6 + 1) (fun v6_2 => c44 v4_1 v5 v6_2 σ)) = some r := h
  refine v_istore C hl (fun x => [(4, .int (i32 x)), (0, .ref (q 0)), (1, .int (i32 v1)), (2, .int (i32 v2)), (3, .int (i32 v3)), (5, .int (i32 v5)), (6, .int (i32 v6))]) dX8_within_106 (by decide) (fun _ => rfl) h (fun v4_1 ls hl h => ?_)
  refine v_iinc C hl (fun x => [(6, .int (i32 x)), (4, .int (i32 v4_1)), (0, .ref (q 0)), (1, .int (i32 v1)), (2, .int (i32 v2)), (3, .int (i32 v3)), (5, .int (i32 v5))]) dX8_within_108 6 rfl (by decide) (fun _ => rfl) h (fun v6_2 ls hl h => ?_)
  refine v_goto C (tgt := 44) dX8_within_111 rfl ?_
  exact hc44 _ _ _ _ _ (lv_sub hl [2, 3, 4, 5, 1, 6, 0] rfl) h
theorem wX8_within_104 (C : CxM p rmX8_within s m args meth c D ac q RX8 cX8_within 8) (hr : meth.sig.returnType = (some .int)) {v1 : Int} {v2 : Int} {v3 : Int} {v4 : Int} {v5 : Int} {v6 : Int} {c44 : Int → Int → Int → Mm → Option (Int × Mm)} {σ : Mm} {r : Int × Mm} (hc44 : ∀ (v4x : Int) (v5x : Int) (v6x : Int) (σ : Mm) (ls : Array Slot), lv_has ls 8 [(0, .ref (q 0)), (1, .int (i32 v1)), (2, .int (i32 v2)), (3, .int (i32 v3)), (4, .int (i32 v4x)), (5, .int (i32 v5x)), (6, .int (i32 v6x))] → c44 v4x v5x v6x σ = some r → VM p l e rmX8_within s m args below meth c D ac q (QIM D ac q below args s r) σ (F0 m 44 ls [])) (hl : lv_has ls 8 [(0, .ref (q 0)), (1, .int (i32 v1)), (2, .int (i32 v2)), (3, .int (i32 v3)), (4, .int (i32 v4)), (5, .int (i32 v5)), (6, .int (i32 v6))]) (h : fX8_within_104 c44 v1 v2 v3 v4 v5 v6 σ = some r) : VM p l e rmX8_within s m args below meth c D ac q (QIM D ac q below args s r) σ (F0 m 104 ls []) := by
  have h : fX8_within_106 c44 v1 v2 v3 v5 v6 v4 σ = some r := h
  refine v_iload C hl dX8_within_104 4 rfl ?_
  exact wX8_within_106 C hr hc44 (lv_sub hl [0, 1, 2, 3, 5, 6] rfl) h
theorem wX8_within_84 (C : CxM p rmX8_within s m args meth c D ac q RX8 cX8_within 8) (hr : meth.sig.returnType = (some .int)) {v1 : Int} {v2 : Int} {v3 : Int} {v4 : Int} {v6 : Int} {v7 : Int} {t0 : Int} {c44 : Int → Int → Int → Mm → Option (Int × Mm)} {σ : Mm} {r : Int × Mm} (hc44 : ∀ (v4x : Int) (v5x : Int) (v6x : Int) (σ : Mm) (ls : Array Slot), lv_has ls 8 [(0, .ref (q 0)), (1, .int (i32 v1)), (2, .int (i32 v2)), (3, .int (i32 v3)), (4, .int (i32 v4x)), (5, .int (i32 v5x)), (6, .int (i32 v6x))] → c44 v4x v5x v6x σ = some r → VM p l e rmX8_within s m args below meth c D ac q (QIM D ac q below args s r) σ (F0 m 44 ls [])) (hl : lv_has ls 8 [(0, .ref (q 0)), (1, .int (i32 v1)), (2, .int (i32 v2)), (3, .int (i32 v3)), (4, .int (i32 v4)), (6, .int (i32 v6)), (7, .int (i32 v7))]) (h : fX8_within_84 c44 v1 v2 v3 v4 v6 v7 t0 σ = some r) : VM p l e rmX8_within s m args below meth c D ac q (QIM D ac q below args s r) σ (F0 m 84 ls [.int (i32 t0)]) := by
  have h : bindv t0 (fun v5_1 => cr v7 ((if v7 = 1 then cr v4 ((if v4 = (-4) then fX8_within_106 c44 v1 v2 v3 v5_1 v6 v6 σ else fX8_within_104 c44 v1 v2 v3 v4 v5_1 v6 σ)) else fX8_within_104 c44 v1 v2 v3 v4 v5_1 v6 σ))) = some r := h
  refine v_istore C hl (fun x => [(5, .int (i32 x)), (0, .ref (q 0)), (1, .int (i32 v1)), (2, .int (i32 v2)), (3, .int (i32 v3)), (4, .int (i32 v4)), (6, .int (i32 v6)), (7, .int (i32 v7))]) dX8_within_84 (by decide) (fun _ => rfl) h (fun v5_1 ls hl h => ?_)
  refine v_iload C hl dX8_within_86 7 rfl ?_
  refine v_iconst C dX8_within_88 ?_
  have hz2 := (cr_e h).1
  have h := (cr_e h).2
  refine v_icmp_ne C (tgt := 104) hz2 (by decide) h dX8_within_89 rfl (fun h => ?_) (fun h => ?_)
  · exact wX8_within_104 C hr hc44 (lv_sub hl [1, 2, 3, 4, 5, 0, 6] rfl) h
  · refine v_iload C hl dX8_within_92 5 rfl ?_
    refine v_bipush C dX8_within_94 rfl ?_
    have hz3 := (cr_e h).1
    have h := (cr_e h).2
    refine v_icmp_ne C (tgt := 104) hz3 (by decide) h dX8_within_96 rfl (fun h => ?_) (fun h => ?_)
    · exact wX8_within_104 C hr hc44 (lv_sub hl [1, 2, 3, 4, 5, 0, 6] rfl) h
    · refine v_iload C hl dX8_within_99 6 rfl ?_
      refine v_goto C (tgt := 106) dX8_within_101 rfl ?_
      exact wX8_within_106 C hr hc44 (lv_sub hl [1, 2, 3, 4, 0, 6] rfl) h
theorem wX8_within_79 (C : CxM p rmX8_within s m args meth c D ac q RX8 cX8_within 8) (hr : meth.sig.returnType = (some .int)) {v1 : Int} {v2 : Int} {v3 : Int} {v4 : Int} {v6 : Int} {v7 : Int} {c44 : Int → Int → Int → Mm → Option (Int × Mm)} {σ : Mm} {r : Int × Mm} (hc44 : ∀ (v4x : Int) (v5x : Int) (v6x : Int) (σ : Mm) (ls : Array Slot), lv_has ls 8 [(0, .ref (q 0)), (1, .int (i32 v1)), (2, .int (i32 v2)), (3, .int (i32 v3)), (4, .int (i32 v4x)), (5, .int (i32 v5x)), (6, .int (i32 v6x))] → c44 v4x v5x v6x σ = some r → VM p l e rmX8_within s m args below meth c D ac q (QIM D ac q below args s r) σ (F0 m 44 ls [])) (hl : lv_has ls 8 [(0, .ref (q 0)), (1, .int (i32 v1)), (2, .int (i32 v2)), (3, .int (i32 v3)), (4, .int (i32 v4)), (6, .int (i32 v6)), (7, .int (i32 v7))]) (h : fX8_within_79 c44 v1 v2 v3 v4 v6 v7 σ = some r) : VM p l e rmX8_within s m args below meth c D ac q (QIM D ac q below args s r) σ (F0 m 79 ls []) := by
  have h : fX8_within_84 c44 v1 v2 v3 v4 v6 v7 1 σ = some r := h
  refine v_iconst C dX8_within_79 ?_
  refine v_goto C (tgt := 84) dX8_within_80 rfl ?_
  exact wX8_within_84 C hr hc44 (lv_sub hl [0, 1, 2, 3, 4, 5, 6] rfl) h
theorem wX8_within_44 (C : CxM p rmX8_within s m args meth c D ac q RX8 cX8_within 8) (hr : meth.sig.returnType = (some .int)) {v1 : Int} {v2 : Int} {v3 : Int} {v4 : Int} {v5 : Int} {v6 : Int} {σ : Mm} {e44 : Int → Int → Mm → Option (Int × Mm)} {c44 : Int → Int → Int → Mm → Option (Int × Mm)} {r : Int × Mm} (he44 : ∀ (v4x : Int) (v5x : Int) (σ : Mm) (ls : Array Slot), lv_has ls 8 [(0, .ref (q 0)), (4, .int (i32 v4x)), (5, .int (i32 v5x))] → e44 v4x v5x σ = some r → VM p l e rmX8_within s m args below meth c D ac q (QIM D ac q below args s r) σ (F0 m 114 ls [])) (hc44 : ∀ (v4x : Int) (v5x : Int) (v6x : Int) (σ : Mm) (ls : Array Slot), lv_has ls 8 [(0, .ref (q 0)), (1, .int (i32 v1)), (2, .int (i32 v2)), (3, .int (i32 v3)), (4, .int (i32 v4x)), (5, .int (i32 v5x)), (6, .int (i32 v6x))] → c44 v4x v5x v6x σ = some r → VM p l e rmX8_within s m args below meth c D ac q (QIM D ac q below args s r) σ (F0 m 44 ls [])) (hl : lv_has ls 8 [(0, .ref (q 0)), (1, .int (i32 v1)), (2, .int (i32 v2)), (3, .int (i32 v3)), (4, .int (i32 v4)), (5, .int (i32 v5)), (6, .int (i32 v6))]) (h : fX8_within_44 v1 v2 v3 e44 c44 v4 v5 v6 σ = some r) : VM p l e rmX8_within s m args below meth c D ac q (QIM D ac q below args s r) σ (F0 m 44 ls []) := by
  have h : bd (fX8_rings σ) (fun x_1 => cr v6 (cr x_1 ((if v6 < x_1 then bd2 (fX8_ringAt v6 v3 σ) (fun x_4 σ_4 => bd (fX8_lies v1 v2 x_4 σ_4) (fun x_5 => bindv x_5 (fun v7_6 => cr v5 ((if v5 = 0 then cr v7_6 ((if v7_6 = 2 then fX8_within_79 c44 v1 v2 v3 v4 v6 v7_6 σ_4 else fX8_within_84 c44 v1 v2 v3 v4 v6 v7_6 0 σ_4)) else fX8_within_79 c44 v1 v2 v3 v4 v6 v7_6 σ_4))))) else e44 v4 v5 σ)))) = some r := h
  refine v_iload C hl dX8_within_44 6 rfl ?_
  refine v_aload_n C hl dX8_within_46 rfl 0 rfl ?_
  obtain ⟨x_1, hv1, h⟩ := bd_e h
  refine v_callVI C 0 (klM kdM_0) rfl (ckM1 kdM_0 _) rfl [] (mX8_rings C.2.2.2.2.1 hv1) cd_X8_rings ic_X8 im_X8_rings se_X8_rings ml_X8_194 yk_X8_rings ⟨rfl, rfl, by decide, by decide⟩ rfl hl.1 (rest := [.int (i32 v6)]) rfl (Nat.le_of_ble_eq_true rfl) dX8_within_47 ?_
  have hz2 := (cr_e h).1
  have h := (cr_e h).2
  have hz3 := (cr_e h).1
  have h := (cr_e h).2
  refine v_icmp_ge C (tgt := 114) hz2 hz3 h dX8_within_50 rfl (fun h => ?_) (fun h => ?_)
  · exact he44 _ _ _ _ (lv_sub hl [0, 4, 5] rfl) h
  · refine v_aload_n C hl dX8_within_53 rfl 0 rfl ?_
    refine v_iload_n C hl dX8_within_54 rfl 1 rfl ?_
    refine v_iload_n C hl dX8_within_55 rfl 2 rfl ?_
    refine v_aload_n C hl dX8_within_56 rfl 0 rfl ?_
    refine v_iload C hl dX8_within_57 6 rfl ?_
    refine v_iload_n C hl dX8_within_59 rfl 3 rfl ?_
    obtain ⟨x_4, σ_4, hv4, h⟩ := bd2_e h
    refine v_callVI C 0 (klM kdM_0) rfl (ckM1 kdM_0 _) rfl [.int (i32 v6), .int (i32 v3)] (mX8_ringAt C.2.2.2.2.1 hv4) cd_X8_ringAt ic_X8 im_X8_ringAt se_X8_ringAt ml_X8_197 yk_X8_ringAt ⟨rfl, rfl, by decide, by decide⟩ rfl hl.1 (rest := [.int (i32 v2), .int (i32 v1), .ref (q 0)]) rfl (Nat.le_of_ble_eq_true rfl) dX8_within_60 ?_
    obtain ⟨x_5, hv5, h⟩ := bd_e h
    refine v_callVI C 0 (klM kdM_0) rfl (ckM1 kdM_0 _) rfl [.int (i32 v1), .int (i32 v2), .int (i32 x_4)] (mX8_lies C.2.2.2.2.1 hv5) cd_X8_lies ic_X8 im_X8_lies se_X8_lies ml_X8_300 yk_X8_lies ⟨rfl, rfl, by decide, by decide⟩ rfl hl.1 (rest := []) rfl (Nat.le_of_ble_eq_true rfl) dX8_within_63 ?_
    refine v_istore C hl (fun x => [(7, .int (i32 x)), (0, .ref (q 0)), (1, .int (i32 v1)), (2, .int (i32 v2)), (3, .int (i32 v3)), (4, .int (i32 v4)), (5, .int (i32 v5)), (6, .int (i32 v6))]) dX8_within_66 (by decide) (fun _ => rfl) h (fun v7_6 ls hl h => ?_)
    refine v_iload C hl dX8_within_68 6 rfl ?_
    have hz7 := (cr_e h).1
    have h := (cr_e h).2
    refine v_if_ne C (tgt := 79) hz7 h dX8_within_70 rfl (fun h => ?_) (fun h => ?_)
    · exact wX8_within_79 C hr hc44 (lv_sub hl [1, 2, 3, 4, 5, 7, 0] rfl) h
    · refine v_iload C hl dX8_within_73 0 rfl ?_
      refine v_iconst C dX8_within_75 ?_
      have hz8 := (cr_e h).1
      have h := (cr_e h).2
      refine v_icmp_ne C (tgt := 83) hz8 (by decide) h dX8_within_76 rfl (fun h => ?_) (fun h => ?_)
      · refine v_iconst C dX8_within_83 ?_
        exact wX8_within_84 C hr hc44 (lv_sub hl [1, 2, 3, 4, 5, 7, 0] rfl) h
      · exact wX8_within_79 C hr hc44 (lv_sub hl [1, 2, 3, 4, 5, 7, 0] rfl) h
theorem wlX8_within_44 (C : CxM p rmX8_within s m args meth c D ac q RX8 cX8_within 8) (hr : meth.sig.returnType = (some .int)) {v1 : Int} {v2 : Int} {v3 : Int} {e44 : Int → Int → Mm → Option (Int × Mm)} {r : Int × Mm} (he44 : ∀ (v4x : Int) (v5x : Int) (σ : Mm) (ls : Array Slot), lv_has ls 8 [(0, .ref (q 0)), (4, .int (i32 v4x)), (5, .int (i32 v5x))] → e44 v4x v5x σ = some r → VM p l e rmX8_within s m args below meth c D ac q (QIM D ac q below args s r) σ (F0 m 114 ls [])) : ∀ (fu : Nat) (v4 : Int) (v5 : Int) (v6 : Int) (σ : Mm) (ls : Array Slot) (hl : lv_has ls 8 [(0, .ref (q 0)), (1, .int (i32 v1)), (2, .int (i32 v2)), (3, .int (i32 v3)), (4, .int (i32 v4)), (5, .int (i32 v5)), (6, .int (i32 v6))]) (h : lX8_within_44 v1 v2 v3 e44 fu v4 v5 v6 σ = some r), VM p l e rmX8_within s m args below meth c D ac q (QIM D ac q below args s r) σ (F0 m 44 ls []) := by
  intro fu
  induction fu with
  | zero =>
    intro v4 v5 v6 σ ls hl h
    have h : none = some r := h
    cases h
  | succ fu ih =>
    intro v4 v5 v6 σ ls hl h
    exact wX8_within_44 C hr he44 (fun v4 v5 v6 σ ls hl h => ih v4 v5 v6 σ ls hl h) hl h
theorem wX8_within_32 (C : CxM p rmX8_within s m args meth c D ac q RX8 cX8_within 8) (hr : meth.sig.returnType = (some .int)) {σ : Mm} {r : Int × Mm} (hl : lv_has ls 8 [(0, .ref (q 0))]) (h : fX8_within_32 σ = some r) : VM p l e rmX8_within s m args below meth c D ac q (QIM D ac q below args s r) σ (F0 m 32 ls []) := by
  have h : some ((-1), σ) = some r := h
  refine v_iconst C dX8_within_32 ?_
  exact v_iret C hr h dX8_within_33
theorem mX8_within (hq : QI 19 q) {v1 : Int} {v2 : Int} {v3 : Int} {σ : Mm} {r : Int × Mm} (h : fX8_within v1 v2 v3 σ = some r) : MIM l D ac q yX8_within cX8_within 8 (some .int) rmX8_within [.ref (q 0), .int (i32 v1), .int (i32 v2), .int (i32 v3)] σ r := by
  refine MI.of hq XT_M (by decide) (Nat.le_of_ble_eq_true rfl) (fun p e s m below meth c ls C hr hl => ?_)
  have hl : lv_has ls 8 [(0, .ref (q 0)), (1, .int (i32 v1)), (2, .int (i32 v2)), (3, .int (i32 v3))] := hl
  have h : cr v1 (bd (fX8_in v1 0 199 σ) (fun x_1 => cr x_1 ((if x_1 = 0 then fX8_within_32 σ else cr v2 (bd (fX8_in v2 0 199 σ) (fun x_3 => cr x_3 ((if x_3 = 0 then fX8_within_32 σ else bd2 (fX8_isStage v3 σ) (fun x_5 σ_5 => cr x_5 ((if x_5 = 0 then fX8_within_32 σ_5 else bindv (-4) (fun v4_7 => bindv 0 (fun v5_8 => bindv 0 (fun v6_9 => lX8_within_44 v1 v2 v3 (fun v4_10 v5_11 σ_12 => fX8_within_114 v4_10 v5_11 σ_12) 400 v4_7 v5_8 v6_9 σ_5)))))))))))))) = some r := h
  refine v_iload_n C hl dX8_within_0 rfl 1 rfl ?_
  refine v_i2l C h dX8_within_1 (fun h => ?_)
  refine v_lconst C (v := 0) dX8_within_2 rfl ?_
  refine v_ldc2 C (v := 199) kc_X8_298 rfl dX8_within_3 ?_
  obtain ⟨x_1, hv1, h⟩ := bd_e h
  refine v_callSI C [.long (i64 v1), .long (i64 0), .long (i64 199)] (mX8_in C.2.2.2.2.1 hv1) cd_X8_in ic_X8 sm_X8_in ml_X8_67 yk_X8_in ⟨rfl, rfl, by decide, by decide⟩ rfl hl.1 (rest := []) rfl (Nat.le_of_ble_eq_true rfl) dX8_within_6 ?_
  have hz2 := (cr_e h).1
  have h := (cr_e h).2
  refine v_if_eq C (tgt := 32) hz2 h dX8_within_9 rfl (fun h => ?_) (fun h => ?_)
  · exact wX8_within_32 C hr (lv_sub hl [0] rfl) h
  · refine v_iload_n C hl dX8_within_12 rfl 2 rfl ?_
    refine v_i2l C h dX8_within_13 (fun h => ?_)
    refine v_lconst C (v := 0) dX8_within_14 rfl ?_
    refine v_ldc2 C (v := 199) kc_X8_298 rfl dX8_within_15 ?_
    obtain ⟨x_3, hv3, h⟩ := bd_e h
    refine v_callSI C [.long (i64 v2), .long (i64 0), .long (i64 199)] (mX8_in C.2.2.2.2.1 hv3) cd_X8_in ic_X8 sm_X8_in ml_X8_67 yk_X8_in ⟨rfl, rfl, by decide, by decide⟩ rfl hl.1 (rest := []) rfl (Nat.le_of_ble_eq_true rfl) dX8_within_18 ?_
    have hz4 := (cr_e h).1
    have h := (cr_e h).2
    refine v_if_eq C (tgt := 32) hz4 h dX8_within_21 rfl (fun h => ?_) (fun h => ?_)
    · exact wX8_within_32 C hr (lv_sub hl [0] rfl) h
    · refine v_aload_n C hl dX8_within_24 rfl 0 rfl ?_
      refine v_iload_n C hl dX8_within_25 rfl 3 rfl ?_
      obtain ⟨x_5, σ_5, hv5, h⟩ := bd2_e h
      refine v_callVI C 0 (klM kdM_0) rfl (ckM1 kdM_0 _) rfl [.int (i32 v3)] (mX8_isStage C.2.2.2.2.1 hv5) cd_X8_isStage ic_X8 im_X8_isStage se_X8_isStage ml_X8_278 yk_X8_isStage ⟨rfl, rfl, by decide, by decide⟩ rfl hl.1 (rest := []) rfl (Nat.le_of_ble_eq_true rfl) dX8_within_26 ?_
      have hz6 := (cr_e h).1
      have h := (cr_e h).2
      refine v_if_ne C (tgt := 34) hz6 h dX8_within_29 rfl (fun h => ?_) (fun h => ?_)
      · refine v_bipush C dX8_within_34 rfl ?_
        refine v_istore C hl (fun x => [(4, .int (i32 x)), (0, .ref (q 0)), (1, .int (i32 v1)), (2, .int (i32 v2)), (3, .int (i32 v3))]) dX8_within_36 (by decide) (fun _ => rfl) h (fun v4_7 ls hl h => ?_)
        refine v_iconst C dX8_within_38 ?_
        refine v_istore C hl (fun x => [(5, .int (i32 x)), (4, .int (i32 v4_7)), (0, .ref (q 0)), (1, .int (i32 v1)), (2, .int (i32 v2)), (3, .int (i32 v3))]) dX8_within_39 (by decide) (fun _ => rfl) h (fun v5_8 ls hl h => ?_)
        refine v_iconst C dX8_within_41 ?_
        refine v_istore C hl (fun x => [(6, .int (i32 x)), (5, .int (i32 v5_8)), (4, .int (i32 v4_7)), (0, .ref (q 0)), (1, .int (i32 v1)), (2, .int (i32 v2)), (3, .int (i32 v3))]) dX8_within_42 (by decide) (fun _ => rfl) h (fun v6_9 ls hl h => ?_)
        exact wlX8_within_44 C hr (fun v4_10 v5_11 σ_12 ls hl h => wX8_within_114 C hr (lv_sub hl [0, 1, 2] rfl) h) _ _ _ _ _ _ (lv_sub hl [3, 4, 5, 6, 2, 1, 0] rfl) h
      · exact wX8_within_32 C hr (lv_sub hl [0] rfl) h
end
