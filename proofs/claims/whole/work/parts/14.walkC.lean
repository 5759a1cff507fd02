section
variable {l : Launch} {D : va_G} {ac : Nat → ClassId} {q xa xv : Nat → Nat} {p : Program} {e : Env} {s : State} {m : MethodId} {args : Array Value} {below : List Frame} {meth : Method} {c : Code} {ls : Array Slot}
theorem dX7_shake_0 : decode cX7_shake 0 = .ok (.iload_n 2, 1) := by decide +kernel
theorem dX7_shake_1 : decode cX7_shake 1 = .ok (.iconst 1, 1) := by decide +kernel
theorem dX7_shake_2 : decode cX7_shake 2 = .ok (.if_icmp .lt 9, 3) := by decide +kernel
theorem dX7_shake_5 : decode cX7_shake 5 = .ok (.iload_n 2, 1) := by decide +kernel
theorem dX7_shake_6 : decode cX7_shake 6 = .ok (.bipush 40, 2) := by decide +kernel
theorem dX7_shake_8 : decode cX7_shake 8 = .ok (.if_icmp .le 5, 3) := by decide +kernel
theorem dX7_shake_11 : decode cX7_shake 11 = .ok (.iconst (-1), 1) := by decide +kernel
theorem dX7_shake_12 : decode cX7_shake 12 = .ok (.ireturn, 1) := by decide +kernel
theorem dX7_shake_13 : decode cX7_shake 13 = .ok (.aload_n 0, 1) := by decide +kernel
theorem dX7_shake_14 : decode cX7_shake 14 = .ok (.getfield 19, 3) := by decide +kernel
theorem dX7_shake_17 : decode cX7_shake 17 = .ok (.getfield 109, 3) := by decide +kernel
theorem dX7_shake_20 : decode cX7_shake 20 = .ok (.ifCond .gt 6, 3) := by decide +kernel
theorem dX7_shake_23 : decode cX7_shake 23 = .ok (.bipush (-2), 2) := by decide +kernel
theorem dX7_shake_25 : decode cX7_shake 25 = .ok (.ireturn, 1) := by decide +kernel
theorem dX7_shake_26 : decode cX7_shake 26 = .ok (.iload_n 1, 1) := by decide +kernel
theorem dX7_shake_27 : decode cX7_shake 27 = .ok (.istore_n 3, 1) := by decide +kernel
theorem dX7_shake_28 : decode cX7_shake 28 = .ok (.iconst 0, 1) := by decide +kernel
theorem dX7_shake_29 : decode cX7_shake 29 = .ok (.istore 4, 2) := by decide +kernel
theorem dX7_shake_31 : decode cX7_shake 31 = .ok (.iconst 0, 1) := by decide +kernel
theorem dX7_shake_32 : decode cX7_shake 32 = .ok (.istore 5, 2) := by decide +kernel
theorem dX7_shake_34 : decode cX7_shake 34 = .ok (.iload 5, 2) := by decide +kernel
theorem dX7_shake_36 : decode cX7_shake 36 = .ok (.iload_n 2, 1) := by decide +kernel
theorem dX7_shake_37 : decode cX7_shake 37 = .ok (.if_icmp .ge 102, 3) := by decide +kernel
theorem dX7_shake_40 : decode cX7_shake 40 = .ok (.iload_n 3, 1) := by decide +kernel
theorem dX7_shake_41 : decode cX7_shake 41 = .ok (.ldc 234, 2) := by decide +kernel
theorem dX7_shake_43 : decode cX7_shake 43 = .ok (.imul, 1) := by decide +kernel
theorem dX7_shake_44 : decode cX7_shake 44 = .ok (.sipush 12345, 3) := by decide +kernel
theorem dX7_shake_47 : decode cX7_shake 47 = .ok (.iadd, 1) := by decide +kernel
theorem dX7_shake_48 : decode cX7_shake 48 = .ok (.istore_n 3, 1) := by decide +kernel
theorem dX7_shake_49 : decode cX7_shake 49 = .ok (.iload_n 3, 1) := by decide +kernel
theorem dX7_shake_50 : decode cX7_shake 50 = .ok (.bipush 16, 2) := by decide +kernel
theorem dX7_shake_52 : decode cX7_shake 52 = .ok (.iushr, 1) := by decide +kernel
theorem dX7_shake_53 : decode cX7_shake 53 = .ok (.sipush 32767, 3) := by decide +kernel
theorem dX7_shake_56 : decode cX7_shake 56 = .ok (.iand, 1) := by decide +kernel
theorem dX7_shake_57 : decode cX7_shake 57 = .ok (.istore 6, 2) := by decide +kernel
theorem dX7_shake_59 : decode cX7_shake 59 = .ok (.iload 6, 2) := by decide +kernel
theorem dX7_shake_61 : decode cX7_shake 61 = .ok (.aload_n 0, 1) := by decide +kernel
theorem dX7_shake_62 : decode cX7_shake 62 = .ok (.getfield 19, 3) := by decide +kernel
theorem dX7_shake_65 : decode cX7_shake 65 = .ok (.getfield 109, 3) := by decide +kernel
theorem dX7_shake_68 : decode cX7_shake 68 = .ok (.irem, 1) := by decide +kernel
theorem dX7_shake_69 : decode cX7_shake 69 = .ok (.istore 7, 2) := by decide +kernel
theorem dX7_shake_71 : decode cX7_shake 71 = .ok (.aload_n 0, 1) := by decide +kernel
theorem dX7_shake_72 : decode cX7_shake 72 = .ok (.getfield 19, 3) := by decide +kernel
theorem dX7_shake_75 : decode cX7_shake 75 = .ok (.getfield 134, 3) := by decide +kernel
theorem dX7_shake_78 : decode cX7_shake 78 = .ok (.iload 7, 2) := by decide +kernel
theorem dX7_shake_80 : decode cX7_shake 80 = .ok (.iaload, 1) := by decide +kernel
theorem dX7_shake_81 : decode cX7_shake 81 = .ok (.iload 6, 2) := by decide +kernel
theorem dX7_shake_83 : decode cX7_shake 83 = .ok (.bipush 32, 2) := by decide +kernel
theorem dX7_shake_85 : decode cX7_shake 85 = .ok (.idiv, 1) := by decide +kernel
theorem dX7_shake_86 : decode cX7_shake 86 = .ok (.iconst 5, 1) := by decide +kernel
theorem dX7_shake_87 : decode cX7_shake 87 = .ok (.irem, 1) := by decide +kernel
theorem dX7_shake_88 : decode cX7_shake 88 = .ok (.iadd, 1) := by decide +kernel
theorem dX7_shake_89 : decode cX7_shake 89 = .ok (.iconst 2, 1) := by decide +kernel
theorem dX7_shake_90 : decode cX7_shake 90 = .ok (.isub, 1) := by decide +kernel
theorem dX7_shake_91 : decode cX7_shake 91 = .ok (.istore 8, 2) := by decide +kernel
theorem dX7_shake_93 : decode cX7_shake 93 = .ok (.aload_n 0, 1) := by decide +kernel
theorem dX7_shake_94 : decode cX7_shake 94 = .ok (.getfield 19, 3) := by decide +kernel
theorem dX7_shake_97 : decode cX7_shake 97 = .ok (.getfield 138, 3) := by decide +kernel
theorem dX7_shake_100 : decode cX7_shake 100 = .ok (.iload 7, 2) := by decide +kernel
theorem dX7_shake_102 : decode cX7_shake 102 = .ok (.iaload, 1) := by decide +kernel
theorem dX7_shake_103 : decode cX7_shake 103 = .ok (.iload 6, 2) := by decide +kernel
theorem dX7_shake_105 : decode cX7_shake 105 = .ok (.sipush 256, 3) := by decide +kernel
theorem dX7_shake_108 : decode cX7_shake 108 = .ok (.idiv, 1) := by decide +kernel
theorem dX7_shake_109 : decode cX7_shake 109 = .ok (.iconst 5, 1) := by decide +kernel
theorem dX7_shake_110 : decode cX7_shake 110 = .ok (.irem, 1) := by decide +kernel
theorem dX7_shake_111 : decode cX7_shake 111 = .ok (.iadd, 1) := by decide +kernel
theorem dX7_shake_112 : decode cX7_shake 112 = .ok (.iconst 2, 1) := by decide +kernel
theorem dX7_shake_113 : decode cX7_shake 113 = .ok (.isub, 1) := by decide +kernel
theorem dX7_shake_114 : decode cX7_shake 114 = .ok (.istore 9, 2) := by decide +kernel
theorem dX7_shake_116 : decode cX7_shake 116 = .ok (.aload_n 0, 1) := by decide +kernel
theorem dX7_shake_117 : decode cX7_shake 117 = .ok (.iload 7, 2) := by decide +kernel
theorem dX7_shake_119 : decode cX7_shake 119 = .ok (.iload 8, 2) := by decide +kernel
theorem dX7_shake_121 : decode cX7_shake 121 = .ok (.iload 9, 2) := by decide +kernel
theorem dX7_shake_123 : decode cX7_shake 123 = .ok (.invokevirtual 230, 3) := by decide +kernel
theorem dX7_shake_126 : decode cX7_shake 126 = .ok (.iconst 1, 1) := by decide +kernel
theorem dX7_shake_127 : decode cX7_shake 127 = .ok (.if_icmp .ne 6, 3) := by decide +kernel
theorem dX7_shake_130 : decode cX7_shake 130 = .ok (.iinc 4 1, 3) := by decide +kernel
theorem dX7_shake_133 : decode cX7_shake 133 = .ok (.iinc 5 1, 3) := by decide +kernel
theorem dX7_shake_136 : decode cX7_shake 136 = .ok (.goto (-102), 3) := by decide +kernel
theorem dX7_shake_139 : decode cX7_shake 139 = .ok (.aload_n 0, 1) := by decide +kernel
theorem dX7_shake_140 : decode cX7_shake 140 = .ok (.invokevirtual 103, 3) := by decide +kernel
theorem dX7_shake_143 : decode cX7_shake 143 = .ok (.iload 4, 2) := by decide +kernel
theorem dX7_shake_145 : decode cX7_shake 145 = .ok (.ireturn, 1) := by decide +kernel
theorem wX7_shake_139 (C : CxC p rmX7_shake s m args meth c D ac q xa xv RX7 cX7_shake 10) (hr : meth.sig.returnType = (some .int)) {v4 : Int} {σ : Mm} {r : Int × Mm} (hl : lv_has ls 10 [(0, .ref (q 0)), (4, .int (i32 v4))]) (h : fX7_shake_139 v4 σ = some r) : VC p l e rmX7_shake s m args below meth c D ac q (QIC D ac q xa xv below args s r) σ (F0 m 139 ls []) := by
  have h : bd (fX7_refresh σ) (fun σ_1 => some (v4, σ_1)) = some r := h
  refine v_aload_n C hl dX7_shake_139 rfl 0 rfl ?_
  obtain ⟨σ_1, hv1, h⟩ := bd_e h
  refine v_callVV C 0 (klC kdC_0) rfl (ckC1 kdC_0 _) rfl [] (mX7_refresh C.2.2.2.2.1 hv1) cd_X7_refresh ic_X7 im_X7_refresh se_X7_refresh ml_X7_103 yk_X7_refresh ⟨rfl, rfl, by decide, by decide⟩ rfl hl.1 (rest := []) rfl (Nat.le_of_ble_eq_true rfl) dX7_shake_140 ?_
  refine v_iload C hl dX7_shake_143 1 rfl ?_
  exact v_iret C hr h dX7_shake_145
theorem wX7_shake_133 (C : CxC p rmX7_shake s m args meth c D ac q xa xv RX7 cX7_shake 10) (hr : meth.sig.returnType = (some .int)) {v2 : Int} {v3 : Int} {v4 : Int} {v5 : Int} {c34 : Int → Int → Int → Mm → Option (Int × Mm)} {σ : Mm} {r : Int × Mm} (hc34 : ∀ (v3x : Int) (v4x : Int) (v5x : Int) (σ : Mm) (ls : Array Slot), lv_has ls 10 [(0, .ref (q 0)), (2, .int (i32 v2)), (3, .int (i32 v3x)), (4, .int (i32 v4x)), (5, .int (i32 v5x))] → c34 v3x v4x v5x σ = some r → VC p l e rmX7_shake s m args below meth c D ac q (QIC D ac q xa xv below args s r) σ (F0 m 34 ls [])) (hl : lv_has ls 10 [(0, .ref (q 0)), (2, .int (i32 v2)), (3, .int (i32 v3)), (4, .int (i32 v4)), (5, .int (i32 v5))]) (h : fX7_shake_133 c34 v2 v3 v4 v5 σ = some r) : VC p l e rmX7_shake s m args below meth c D ac q (QIC D ac q xa xv below args s r) σ (F0 m 133 ls []) := by
  have h : bindv (v5 + 1) (fun v5_1 => c34 v3 v4 v5_1 σ) = some r := h
  refine v_iinc C hl (fun x => [(5, .int (i32 x)), (0, .ref (q 0)), (2, .int (i32 v2)), (3, .int (i32 v3)), (4, .int (i32 v4))]) dX7_shake_133 4 rfl (by decide) (fun _ => rfl) h (fun v5_1 ls hl h => ?_)
  refine v_goto C (tgt := 34) dX7_shake_136 rfl ?_
  exact hc34 _ _ _ _ _ (lv_sub hl [1, 2, 3, 4, 0] rfl) h
theorem wX7_shake_34 (C : CxC p rmX7_shake s m args meth c D ac q xa xv RX7 cX7_shake 10) (hr : meth.sig.returnType = (some .int)) {v2 : Int} {v3 : Int} {v4 : Int} {v5 : Int} {σ : Mm} {e34 : Int → Mm → Option (Int × Mm)} {c34 : Int → Int → Int → Mm → Option (Int × Mm)} {r : Int × Mm} (he34 : ∀ (v4x : Int) (σ : Mm) (ls : Array Slot), lv_has ls 10 [(0, .ref (q 0)), (4, .int (i32 v4x))] → e34 v4x σ = some r → VC p l e rmX7_shake s m args below meth c D ac q (QIC D ac q xa xv below args s r) σ (F0 m 139 ls [])) (hc34 : ∀ (v3x : Int) (v4x : Int) (v5x : Int) (σ : Mm) (ls : Array Slot), lv_has ls 10 [(0, .ref (q 0)), (2, .int (i32 v2)), (3, .int (i32 v3x)), (4, .int (i32 v4x)), (5, .int (i32 v5x))] → c34 v3x v4x v5x σ = some r → VC p l e rmX7_shake s m args below meth c D ac q (QIC D ac q xa xv below args s r) σ (F0 m 34 ls [])) (hl : lv_has ls 10 [(0, .ref (q 0)), (2, .int (i32 v2)), (3, .int (i32 v3)), (4, .int (i32 v4)), (5, .int (i32 v5))]) (h : fX7_shake_34 v2 e34 c34 v3 v4 v5 σ = some r) : VC p l e rmX7_shake s m args below meth c D ac q (QIC D ac q xa xv below args s r) σ (F0 m 34 ls []) := by
  have h : cr v5 (cr v2 ((if v5 < v2 then bindv ((v3 * 1103515245) + 12345) (fun v3_3 => bindv (andI (ushrI v3_3 16) 32767) (fun v6_4 => chd v6_4 (σ 95 9) (bindv (v6_4 % (σ 95 9)) (fun v7_5 => chk v7_5 24 (chd v6_4 32 (chd (v6_4 / 32) 5 (bindv (((σ 96 (v7_5).toNat) + ((v6_4 / 32) % 5)) - 2) (fun v8_6 => chk v7_5 24 (chd v6_4 256 (chd (v6_4 / 256) 5 (bindv (((σ 97 (v7_5).toNat) + ((v6_4 / 256) % 5)) - 2) (fun v9_7 => bd2 (fX7_shift v7_5 v8_6 v9_7 σ) (fun x_8 σ_8 => cr x_8 ((if x_8 = 1 then bindv (v4 + 1) (fun v4_10 => fX7_shake_133 c34 v2 v3_3 v4_10 v5 σ_8) else fX7_shake_133 c34 v2 v3_3 v4 v5 σ_8))))))))))))))) else e34 v4 σ))) = some r := h
  refine v_iload C hl dX7_shake_34 4 rfl ?_
  refine v_iload_n C hl dX7_shake_36 rfl 1 rfl ?_
  have hz1 := (cr_e h).1
  have h := (cr_e h).2
  have hz2 := (cr_e h).1
  have h := (cr_e h).2
  refine v_icmp_ge C (tgt := 139) hz1 hz2 h dX7_shake_37 rfl (fun h => ?_) (fun h => ?_)
  · exact he34 _ _ _ (lv_sub hl [0, 3] rfl) h
  · refine v_iload_n C hl dX7_shake_40 rfl 2 rfl ?_
    refine v_ldc C (v := 1103515245) kc_X7_234 rfl dX7_shake_41 ?_
    refine v_imul C dX7_shake_43 ?_
    refine v_sipush C dX7_shake_44 rfl ?_
    refine v_iadd C dX7_shake_47 ?_
    refine v_istore_n C hl (fun x => [(3, .int (i32 x)), (0, .ref (q 0)), (2, .int (i32 v2)), (4, .int (i32 v4)), (5, .int (i32 v5))]) dX7_shake_48 rfl (by decide) (fun _ => rfl) h (fun v3_3 ls hl h => ?_)
    refine v_iload_n C hl dX7_shake_49 rfl 0 rfl ?_
    refine v_bipush C dX7_shake_50 rfl ?_
    refine v_iushr C dX7_shake_52 ?_
    refine v_sipush C dX7_shake_53 rfl ?_
    refine v_iand C dX7_shake_56 ?_
    refine v_istore C hl (fun x => [(6, .int (i32 x)), (3, .int (i32 v3_3)), (0, .ref (q 0)), (2, .int (i32 v2)), (4, .int (i32 v4)), (5, .int (i32 v5))]) dX7_shake_57 (by decide) (fun _ => rfl) h (fun v6_4 ls hl h => ?_)
    refine v_iload C hl dX7_shake_59 0 rfl ?_
    refine v_aload_n C hl dX7_shake_61 rfl 2 rfl ?_
    refine g_X7_1 C kdC_0 fl_X7_19 dX7_shake_62 ?_
    refine g_X1_9 C kdC_95 fl_X7_109 dX7_shake_65 ?_
    refine v_irem C h dX7_shake_68 (fun h => ?_)
    refine v_istore C hl (fun x => [(7, .int (i32 x)), (6, .int (i32 v6_4)), (3, .int (i32 v3_3)), (0, .ref (q 0)), (2, .int (i32 v2)), (4, .int (i32 v4)), (5, .int (i32 v5))]) dX7_shake_69 (by decide) (fun _ => rfl) h (fun v7_5 ls hl h => ?_)
    refine v_aload_n C hl dX7_shake_71 rfl 3 rfl ?_
    refine g_X7_1 C kdC_0 fl_X7_19 dX7_shake_72 ?_
    refine g_X1_0 C kdC_95 fl_X7_134 dX7_shake_75 ?_
    refine v_iload C hl dX7_shake_78 0 rfl ?_
    refine alC8 C kdC_96 h dX7_shake_80 (fun h => ?_)
    refine v_iload C hl dX7_shake_81 1 rfl ?_
    refine v_bipush C dX7_shake_83 rfl ?_
    refine v_idiv C h dX7_shake_85 (fun h => ?_)
    refine v_iconst C dX7_shake_86 ?_
    refine v_irem C h dX7_shake_87 (fun h => ?_)
    refine v_iadd C dX7_shake_88 ?_
    refine v_iconst C dX7_shake_89 ?_
    refine v_isub C dX7_shake_90 ?_
    refine v_istore C hl (fun x => [(8, .int (i32 x)), (7, .int (i32 v7_5)), (6, .int (i32 v6_4)), (3, .int (i32 v3_3)), (0, .ref (q 0)), (2, .int (i32 v2)), (4, .int (i32 v4)), (5, .int (i32 v5))]) dX7_shake_91 (by decide) (fun _ => rfl) h (fun v8_6 ls hl h => ?_)
    refine v_aload_n C hl dX7_shake_93 rfl 4 rfl ?_
    refine g_X7_1 C kdC_0 fl_X7_19 dX7_shake_94 ?_
    refine g_X1_1 C kdC_95 fl_X7_138 dX7_shake_97 ?_
    refine v_iload C hl dX7_shake_100 1 rfl ?_
    refine alC8 C kdC_97 h dX7_shake_102 (fun h => ?_)
    refine v_iload C hl dX7_shake_103 2 rfl ?_
    refine v_sipush C dX7_shake_105 rfl ?_
    refine v_idiv C h dX7_shake_108 (fun h => ?_)
    refine v_iconst C dX7_shake_109 ?_
    refine v_irem C h dX7_shake_110 (fun h => ?_)
    refine v_iadd C dX7_shake_111 ?_
    refine v_iconst C dX7_shake_112 ?_
    refine v_isub C dX7_shake_113 ?_
    refine v_istore C hl (fun x => [(9, .int (i32 x)), (8, .int (i32 v8_6)), (7, .int (i32 v7_5)), (6, .int (i32 v6_4)), (3, .int (i32 v3_3)), (0, .ref (q 0)), (2, .int (i32 v2)), (4, .int (i32 v4)), (5, .int (i32 v5))]) dX7_shake_114 (by decide) (fun _ => rfl) h (fun v9_7 ls hl h => ?_)
    refine v_aload_n C hl dX7_shake_116 rfl 5 rfl ?_
    refine v_iload C hl dX7_shake_117 2 rfl ?_
    refine v_iload C hl dX7_shake_119 1 rfl ?_
    refine v_iload C hl dX7_shake_121 0 rfl ?_
    obtain ⟨x_8, σ_8, hv8, h⟩ := bd2_e h
    refine v_callVI C 0 (klC kdC_0) rfl (ckC1 kdC_0 _) rfl [.int (i32 v7_5), .int (i32 v8_6), .int (i32 v9_7)] (mX7_shift C.2.2.2.2.1 hv8) cd_X7_shift ic_X7 im_X7_shift se_X7_shift ml_X7_230 yk_X7_shift ⟨rfl, rfl, by decide, by decide⟩ rfl hl.1 (rest := []) rfl (Nat.le_of_ble_eq_true rfl) dX7_shake_123 ?_
    refine v_iconst C dX7_shake_126 ?_
    have hz9 := (cr_e h).1
    have h := (cr_e h).2
    refine v_icmp_ne C (tgt := 133) hz9 (by decide) h dX7_shake_127 rfl (fun h => ?_) (fun h => ?_)
    · exact wX7_shake_133 C hr hc34 (lv_sub hl [5, 6, 4, 7, 8] rfl) h
    · refine v_iinc C hl (fun x => [(4, .int (i32 x)), (9, .int (i32 v9_7)), (8, .int (i32 v8_6)), (7, .int (i32 v7_5)), (6, .int (i32 v6_4)), (3, .int (i32 v3_3)), (0, .ref (q 0)), (2, .int (i32 v2)), (5, .int (i32 v5))]) dX7_shake_130 7 rfl (by decide) (fun _ => rfl) h (fun v4_10 ls hl h => ?_)
      exact wX7_shake_133 C hr hc34 (lv_sub hl [6, 7, 5, 0, 8] rfl) h
theorem wlX7_shake_34 (C : CxC p rmX7_shake s m args meth c D ac q xa xv RX7 cX7_shake 10) (hr : meth.sig.returnType = (some .int)) {v2 : Int} {e34 : Int → Mm → Option (Int × Mm)} {r : Int × Mm} (he34 : ∀ (v4x : Int) (σ : Mm) (ls : Array Slot), lv_has ls 10 [(0, .ref (q 0)), (4, .int (i32 v4x))] → e34 v4x σ = some r → VC p l e rmX7_shake s m args below meth c D ac q (QIC D ac q xa xv below args s r) σ (F0 m 139 ls [])) : ∀ (fu : Nat) (v3 : Int) (v4 : Int) (v5 : Int) (σ : Mm) (ls : Array Slot) (hl : lv_has ls 10 [(0, .ref (q 0)), (2, .int (i32 v2)), (3, .int (i32 v3)), (4, .int (i32 v4)), (5, .int (i32 v5))]) (h : lX7_shake_34 v2 e34 fu v3 v4 v5 σ = some r), VC p l e rmX7_shake s m args below meth c D ac q (QIC D ac q xa xv below args s r) σ (F0 m 34 ls []) := by
  intro fu
  induction fu with
  | zero =>
    intro v3 v4 v5 σ ls hl h
    have h : none = some r := h
    cases h
  | succ fu ih =>
    intro v3 v4 v5 σ ls hl h
    exact wX7_shake_34 C hr he34 (fun v3 v4 v5 σ ls hl h => ih v3 v4 v5 σ ls hl h) hl h
theorem wX7_shake_11 (C : CxC p rmX7_shake s m args meth c D ac q xa xv RX7 cX7_shake 10) (hr : meth.sig.returnType = (some .int)) {σ : Mm} {r : Int × Mm} (hl : lv_has ls 10 [(0, .ref (q 0))]) (h : fX7_shake_11 σ = some r) : VC p l e rmX7_shake s m args below meth c D ac q (QIC D ac q xa xv below args s r) σ (F0 m 11 ls []) := by
  have h : some ((-1), σ) = some r := h
  refine v_iconst C dX7_shake_11 ?_
  exact v_iret C hr h dX7_shake_12
theorem mX7_shake (hq : QI 175 q) {v1 : Int} {v2 : Int} {σ : Mm} {r : Int × Mm} (h : fX7_shake v1 v2 σ = some r) : MIC l D ac q xa xv yX7_shake cX7_shake 10 (some .int) rmX7_shake [.ref (q 0), .int (i32 v1), .int (i32 v2)] σ r := by
  refine MI.of hq XC_M (by decide) (Nat.le_of_ble_eq_true rfl) (fun p e s m below meth c ls C hr hl => ?_)
  have hl : lv_has ls 10 [(0, .ref (q 0)), (1, .int (i32 v1)), (2, .int (i32 v2))] := hl
  have h : cr v2 ((if v2 < 1 then fX7_shake_11 σ else cr v2 ((if 40 < v2 then fX7_shake_11 σ else cr (σ 95 9) ((if 0 < σ 95 9 then bindv v1 (fun v3_4 => bindv 0 (fun v4_5 => bindv 0 (fun v5_6 => lX7_shake_34 v2 (fun v4_7 σ_8 => fX7_shake_139 v4_7 σ_8) 400 v3_4 v4_5 v5_6 σ))) else some ((-2), σ))))))) = some r := h
  refine v_iload_n C hl dX7_shake_0 rfl 2 rfl ?_
  refine v_iconst C dX7_shake_1 ?_
  have hz1 := (cr_e h).1
  have h := (cr_e h).2
  refine v_icmp_lt C (tgt := 11) hz1 (by decide) h dX7_shake_2 rfl (fun h => ?_) (fun h => ?_)
  · exact wX7_shake_11 C hr (lv_sub hl [0] rfl) h
  · refine v_iload_n C hl dX7_shake_5 rfl 2 rfl ?_
    refine v_bipush C dX7_shake_6 rfl ?_
    have hz2 := (cr_e h).1
    have h := (cr_e h).2
    refine v_icmp_le C (tgt := 13) hz2 (by decide) h dX7_shake_8 rfl (fun h => ?_) (fun h => ?_)
    · refine v_aload_n C hl dX7_shake_13 rfl 0 rfl ?_
      refine g_X7_1 C kdC_0 fl_X7_19 dX7_shake_14 ?_
      refine g_X1_9 C kdC_95 fl_X7_109 dX7_shake_17 ?_
      have hz3 := (cr_e h).1
      have h := (cr_e h).2
      refine v_if_gt C (tgt := 26) hz3 h dX7_shake_20 rfl (fun h => ?_) (fun h => ?_)
      · refine v_iload_n C hl dX7_shake_26 rfl 1 rfl ?_
        refine v_istore_n C hl (fun x => [(3, .int (i32 x)), (0, .ref (q 0)), (1, .int (i32 v1)), (2, .int (i32 v2))]) dX7_shake_27 rfl (by decide) (fun _ => rfl) h (fun v3_4 ls hl h => ?_)
        refine v_iconst C dX7_shake_28 ?_
        refine v_istore C hl (fun x => [(4, .int (i32 x)), (3, .int (i32 v3_4)), (0, .ref (q 0)), (1, .int (i32 v1)), (2, .int (i32 v2))]) dX7_shake_29 (by decide) (fun _ => rfl) h (fun v4_5 ls hl h => ?_)
        refine v_iconst C dX7_shake_31 ?_
        refine v_istore C hl (fun x => [(5, .int (i32 x)), (4, .int (i32 v4_5)), (3, .int (i32 v3_4)), (0, .ref (q 0)), (1, .int (i32 v1)), (2, .int (i32 v2))]) dX7_shake_32 (by decide) (fun _ => rfl) h (fun v5_6 ls hl h => ?_)
        exact wlX7_shake_34 C hr (fun v4_7 σ_8 ls hl h => wX7_shake_139 C hr (lv_sub hl [0, 1] rfl) h) _ _ _ _ _ _ (lv_sub hl [3, 5, 2, 1, 0] rfl) h
      · refine v_bipush C dX7_shake_23 rfl ?_
        exact v_iret C hr h dX7_shake_25
    · exact wX7_shake_11 C hr (lv_sub hl [0] rfl) h
end
section
variable {l : Launch} {D : va_G} {ac : Nat → ClassId} {q xa xv : Nat → Nat} {p : Program} {e : Env} {s : State} {m : MethodId} {args : Array Value} {below : List Frame} {meth : Method} {c : Code} {ls : Array Slot}
theorem dX7_sheet_0 : decode cX7_sheet 0 = .ok (.iload_n 1, 1) := by decide +kernel
theorem dX7_sheet_1 : decode cX7_sheet 1 = .ok (.iconst 4, 1) := by decide +kernel
theorem dX7_sheet_2 : decode cX7_sheet 2 = .ok (.invokestatic 69, 3) := by decide +kernel
theorem dX7_sheet_5 : decode cX7_sheet 5 = .ok (.ifCond .eq 17, 3) := by decide +kernel
theorem dX7_sheet_8 : decode cX7_sheet 8 = .ok (.iload_n 2, 1) := by decide +kernel
theorem dX7_sheet_9 : decode cX7_sheet 9 = .ok (.iconst 3, 1) := by decide +kernel
theorem dX7_sheet_10 : decode cX7_sheet 10 = .ok (.invokestatic 69, 3) := by decide +kernel
theorem dX7_sheet_13 : decode cX7_sheet 13 = .ok (.ifCond .eq 9, 3) := by decide +kernel
theorem dX7_sheet_16 : decode cX7_sheet 16 = .ok (.iload_n 3, 1) := by decide +kernel
theorem dX7_sheet_17 : decode cX7_sheet 17 = .ok (.bipush 40, 2) := by decide +kernel
theorem dX7_sheet_19 : decode cX7_sheet 19 = .ok (.if_icmp .le 5, 3) := by decide +kernel
theorem dX7_sheet_22 : decode cX7_sheet 22 = .ok (.iconst (-1), 1) := by decide +kernel
theorem dX7_sheet_23 : decode cX7_sheet 23 = .ok (.ireturn, 1) := by decide +kernel
theorem dX7_sheet_24 : decode cX7_sheet 24 = .ok (.iload_n 3, 1) := by decide +kernel
theorem dX7_sheet_25 : decode cX7_sheet 25 = .ok (.ifCond .ge 6, 3) := by decide +kernel
theorem dX7_sheet_28 : decode cX7_sheet 28 = .ok (.bipush (-14), 2) := by decide +kernel
theorem dX7_sheet_30 : decode cX7_sheet 30 = .ok (.ireturn, 1) := by decide +kernel
theorem dX7_sheet_31 : decode cX7_sheet 31 = .ok (.aload_n 0, 1) := by decide +kernel
theorem dX7_sheet_32 : decode cX7_sheet 32 = .ok (.getfield 64, 3) := by decide +kernel
theorem dX7_sheet_35 : decode cX7_sheet 35 = .ok (.iload_n 1, 1) := by decide +kernel
theorem dX7_sheet_36 : decode cX7_sheet 36 = .ok (.aaload, 1) := by decide +kernel
theorem dX7_sheet_37 : decode cX7_sheet 37 = .ok (.iload_n 2, 1) := by decide +kernel
theorem dX7_sheet_38 : decode cX7_sheet 38 = .ok (.iload_n 3, 1) := by decide +kernel
theorem dX7_sheet_39 : decode cX7_sheet 39 = .ok (.invokevirtual 235, 3) := by decide +kernel
theorem dX7_sheet_42 : decode cX7_sheet 42 = .ok (.iconst 1, 1) := by decide +kernel
theorem dX7_sheet_43 : decode cX7_sheet 43 = .ok (.ireturn, 1) := by decide +kernel
theorem wX7_sheet_22 (C : CxC p rmX7_sheet s m args meth c D ac q xa xv RX7 cX7_sheet 4) (hr : meth.sig.returnType = (some .int)) {σ : Mm} {r : Int × Mm} (hl : lv_has ls 4 [(0, .ref (q 0))]) (h : fX7_sheet_22 σ = some r) : VC p l e rmX7_sheet s m args below meth c D ac q (QIC D ac q xa xv below args s r) σ (F0 m 22 ls []) := by
  have h : some ((-1), σ) = some r := h
  refine v_iconst C dX7_sheet_22 ?_
  exact v_iret C hr h dX7_sheet_23
theorem mX7_sheet (hq : QI 175 q) {v1 : Int} {v2 : Int} {v3 : Int} {σ : Mm} {r : Int × Mm} (h : fX7_sheet v1 v2 v3 σ = some r) : MIC l D ac q xa xv yX7_sheet cX7_sheet 4 (some .int) rmX7_sheet [.ref (q 0), .int (i32 v1), .int (i32 v2), .int (i32 v3)] σ r := by
  refine MI.of hq XC_M (by decide) (Nat.le_of_ble_eq_true rfl) (fun p e s m below meth c ls C hr hl => ?_)
  have hl : lv_has ls 4 [(0, .ref (q 0)), (1, .int (i32 v1)), (2, .int (i32 v2)), (3, .int (i32 v3))] := hl
  have h : bd (fX7_isBelow v1 4 σ) (fun x_1 => cr x_1 ((if x_1 = 0 then fX7_sheet_22 σ else bd (fX7_isBelow v2 3 σ) (fun x_3 => cr x_3 ((if x_3 = 0 then fX7_sheet_22 σ else cr v3 ((if 40 < v3 then fX7_sheet_22 σ else cr v3 ((if v3 < 0 then some ((-14), σ) else chk v1 4 (bd (fX4_renew (21 + 2 * (v1).toNat) v2 v3 σ) (fun σ_8 => some (1, σ_8))))))))))))) = some r := h
  refine v_iload_n C hl dX7_sheet_0 rfl 1 rfl ?_
  refine v_iconst C dX7_sheet_1 ?_
  obtain ⟨x_1, hv1, h⟩ := bd_e h
  refine v_callSI C [.int (i32 v1), .int (i32 4)] (mX7_isBelow C.2.2.2.2.1 hv1) cd_X7_isBelow ic_X7 sm_X7_isBelow ml_X7_69 yk_X7_isBelow ⟨rfl, rfl, by decide, by decide⟩ rfl hl.1 (rest := []) rfl (Nat.le_of_ble_eq_true rfl) dX7_sheet_2 ?_
  have hz2 := (cr_e h).1
  have h := (cr_e h).2
  refine v_if_eq C (tgt := 22) hz2 h dX7_sheet_5 rfl (fun h => ?_) (fun h => ?_)
  · exact wX7_sheet_22 C hr (lv_sub hl [0] rfl) h
  · refine v_iload_n C hl dX7_sheet_8 rfl 2 rfl ?_
    refine v_iconst C dX7_sheet_9 ?_
    obtain ⟨x_3, hv3, h⟩ := bd_e h
    refine v_callSI C [.int (i32 v2), .int (i32 3)] (mX7_isBelow C.2.2.2.2.1 hv3) cd_X7_isBelow ic_X7 sm_X7_isBelow ml_X7_69 yk_X7_isBelow ⟨rfl, rfl, by decide, by decide⟩ rfl hl.1 (rest := []) rfl (Nat.le_of_ble_eq_true rfl) dX7_sheet_10 ?_
    have hz4 := (cr_e h).1
    have h := (cr_e h).2
    refine v_if_eq C (tgt := 22) hz4 h dX7_sheet_13 rfl (fun h => ?_) (fun h => ?_)
    · exact wX7_sheet_22 C hr (lv_sub hl [0] rfl) h
    · refine v_iload_n C hl dX7_sheet_16 rfl 3 rfl ?_
      refine v_bipush C dX7_sheet_17 rfl ?_
      have hz5 := (cr_e h).1
      have h := (cr_e h).2
      refine v_icmp_le C (tgt := 24) hz5 (by decide) h dX7_sheet_19 rfl (fun h => ?_) (fun h => ?_)
      · refine v_iload_n C hl dX7_sheet_24 rfl 3 rfl ?_
        have hz6 := (cr_e h).1
        have h := (cr_e h).2
        refine v_if_ge C (tgt := 31) hz6 h dX7_sheet_25 rfl (fun h => ?_) (fun h => ?_)
        · refine v_aload_n C hl dX7_sheet_31 rfl 0 rfl ?_
          refine g_X7_9 C kdC_0 fl_X7_64 dX7_sheet_32 ?_
          refine v_iload_n C hl dX7_sheet_35 rfl 1 rfl ?_
          have hi7 := (chk_e h).1
          refine arC19 C kdC_20 h dX7_sheet_36 (fun h => ?_)
          refine v_iload_n C hl dX7_sheet_37 rfl 2 rfl ?_
          refine v_iload_n C hl dX7_sheet_38 rfl 3 rfl ?_
          obtain ⟨σ_8, hv8, h⟩ := bd_e h
          refine v_callVV C (21 + 2 * (v1).toNat) (klC (keC19 kdC_20 hi7)) rfl (ckC20 (keC19 kdC_20 hi7) _) rfl [.int (i32 v2), .int (i32 v3)] (mX4_renew C.2.2.2.2.1 (keC19 kdC_20 hi7) hv8) cd_X4_renew ic_X4 im_X4_renew se_X4_renew ml_X7_235 yk_X4_renew ⟨rfl, rfl, by decide, by decide⟩ rfl hl.1 (rest := []) rfl (Nat.le_of_ble_eq_true rfl) dX7_sheet_39 ?_
          refine v_iconst C dX7_sheet_42 ?_
          exact v_iret C hr h dX7_sheet_43
        · refine v_bipush C dX7_sheet_28 rfl ?_
          exact v_iret C hr h dX7_sheet_30
      · exact wX7_sheet_22 C hr (lv_sub hl [0] rfl) h
end
section
variable {l : Launch} {D : va_G} {ac : Nat → ClassId} {q xa xv : Nat → Nat} {p : Program} {e : Env} {s : State} {m : MethodId} {args : Array Value} {below : List Frame} {meth : Method} {c : Code} {ls : Array Slot}
theorem dX7_size_0 : decode cX7_size 0 = .ok (.iload_n 1, 1) := by decide +kernel
theorem dX7_size_1 : decode cX7_size 1 = .ok (.aload_n 0, 1) := by decide +kernel
theorem dX7_size_2 : decode cX7_size 2 = .ok (.getfield 19, 3) := by decide +kernel
theorem dX7_size_5 : decode cX7_size 5 = .ok (.getfield 109, 3) := by decide +kernel
theorem dX7_size_8 : decode cX7_size 8 = .ok (.invokestatic 69, 3) := by decide +kernel
theorem dX7_size_11 : decode cX7_size 11 = .ok (.ifCond .eq 11, 3) := by decide +kernel
theorem dX7_size_14 : decode cX7_size 14 = .ok (.aload_n 0, 1) := by decide +kernel
theorem dX7_size_15 : decode cX7_size 15 = .ok (.iload_n 2, 1) := by decide +kernel
theorem dX7_size_16 : decode cX7_size 16 = .ok (.invokevirtual 160, 3) := by decide +kernel
theorem dX7_size_19 : decode cX7_size 19 = .ok (.ifCond .ne 5, 3) := by decide +kernel
theorem dX7_size_22 : decode cX7_size 22 = .ok (.iconst (-1), 1) := by decide +kernel
theorem dX7_size_23 : decode cX7_size 23 = .ok (.ireturn, 1) := by decide +kernel
theorem dX7_size_24 : decode cX7_size 24 = .ok (.aload_n 0, 1) := by decide +kernel
theorem dX7_size_25 : decode cX7_size 25 = .ok (.getfield 50, 3) := by decide +kernel
theorem dX7_size_28 : decode cX7_size 28 = .ok (.iload_n 2, 1) := by decide +kernel
theorem dX7_size_29 : decode cX7_size 29 = .ok (.invokevirtual 163, 3) := by decide +kernel
theorem dX7_size_32 : decode cX7_size 32 = .ok (.astore_n 3, 1) := by decide +kernel
theorem dX7_size_33 : decode cX7_size 33 = .ok (.aload_n 0, 1) := by decide +kernel
theorem dX7_size_34 : decode cX7_size 34 = .ok (.getfield 19, 3) := by decide +kernel
theorem dX7_size_37 : decode cX7_size 37 = .ok (.iload_n 1, 1) := by decide +kernel
theorem dX7_size_38 : decode cX7_size 38 = .ok (.invokevirtual 144, 3) := by decide +kernel
theorem dX7_size_41 : decode cX7_size 41 = .ok (.ifCond .ne 12, 3) := by decide +kernel
theorem dX7_size_44 : decode cX7_size 44 = .ok (.aload_n 3, 1) := by decide +kernel
theorem dX7_size_45 : decode cX7_size 45 = .ok (.getfield 209, 3) := by decide +kernel
theorem dX7_size_48 : decode cX7_size 48 = .ok (.iload_n 1, 1) := by decide +kernel
theorem dX7_size_49 : decode cX7_size 49 = .ok (.baload, 1) := by decide +kernel
theorem dX7_size_50 : decode cX7_size 50 = .ok (.ifCond .ne 8, 3) := by decide +kernel
theorem dX7_size_53 : decode cX7_size 53 = .ok (.bipush (-4), 2) := by decide +kernel
theorem dX7_size_55 : decode cX7_size 55 = .ok (.goto 8, 3) := by decide +kernel
theorem dX7_size_58 : decode cX7_size 58 = .ok (.aload_n 3, 1) := by decide +kernel
theorem dX7_size_59 : decode cX7_size 59 = .ok (.iload_n 1, 1) := by decide +kernel
theorem dX7_size_60 : decode cX7_size 60 = .ok (.invokevirtual 212, 3) := by decide +kernel
theorem dX7_size_63 : decode cX7_size 63 = .ok (.ireturn, 1) := by decide +kernel
theorem wX7_size_63 (C : CxC p rmX7_size s m args meth c D ac q xa xv RX7 cX7_size 4) (hr : meth.sig.returnType = (some .int)) {t0 : Int} {σ : Mm} {r : Int × Mm} (hl : lv_has ls 4 [(0, .ref (q 0))]) (h : fX7_size_63 t0 σ = some r) : VC p l e rmX7_size s m args below meth c D ac q (QIC D ac q xa xv below args s r) σ (F0 m 63 ls [.int (i32 t0)]) := by
  have h : some (t0, σ) = some r := h
  exact v_iret C hr h dX7_size_63
theorem wX7_size_53 (C : CxC p rmX7_size s m args meth c D ac q xa xv RX7 cX7_size 4) (hr : meth.sig.returnType = (some .int)) {σ : Mm} {r : Int × Mm} (hl : lv_has ls 4 [(0, .ref (q 0))]) (h : fX7_size_53 σ = some r) : VC p l e rmX7_size s m args below meth c D ac q (QIC D ac q xa xv below args s r) σ (F0 m 53 ls []) := by
  have h : fX7_size_63 (-4) σ = some r := h
  refine v_bipush C dX7_size_53 rfl ?_
  refine v_goto C (tgt := 63) dX7_size_55 rfl ?_
  exact wX7_size_63 C hr (lv_sub hl [0] rfl) h
theorem wX7_size_22 (C : CxC p rmX7_size s m args meth c D ac q xa xv RX7 cX7_size 4) (hr : meth.sig.returnType = (some .int)) {σ : Mm} {r : Int × Mm} (hl : lv_has ls 4 [(0, .ref (q 0))]) (h : fX7_size_22 σ = some r) : VC p l e rmX7_size s m args below meth c D ac q (QIC D ac q xa xv below args s r) σ (F0 m 22 ls []) := by
  have h : some ((-1), σ) = some r := h
  refine v_iconst C dX7_size_22 ?_
  exact v_iret C hr h dX7_size_23
theorem mX7_size (hq : QI 175 q) {v1 : Int} {v2 : Int} {σ : Mm} {r : Int × Mm} (h : fX7_size v1 v2 σ = some r) : MIC l D ac q xa xv yX7_size cX7_size 4 (some .int) rmX7_size [.ref (q 0), .int (i32 v1), .int (i32 v2)] σ r := by
  refine MI.of hq XC_M (by decide) (Nat.le_of_ble_eq_true rfl) (fun p e s m below meth c ls C hr hl => ?_)
  have hl : lv_has ls 4 [(0, .ref (q 0)), (1, .int (i32 v1)), (2, .int (i32 v2))] := hl
  have h : bd (fX7_isBelow v1 (σ 95 9) σ) (fun x_1 => cr x_1 ((if x_1 = 0 then fX7_size_22 σ else bd (fX7_isStage v2 σ) (fun x_3 => cr x_3 ((if x_3 = 0 then fX7_size_22 σ else bd (fX5_sceneAt v2 σ) (fun σ_5 => bd (fX1_isNode 95 v1 σ_5) (fun x_6 => cr x_6 ((if x_6 = 0 then chk v1 24 (cr (σ_5 16 (v1).toNat) ((if σ_5 16 (v1).toNat = 0 then fX7_size_53 σ_5 else bd (fX3_triangleOf v1 σ_5) (fun x_9 => fX7_size_63 x_9 σ_5)))) else fX7_size_53 σ_5)))))))))) = some r := h
  refine v_iload_n C hl dX7_size_0 rfl 1 rfl ?_
  refine v_aload_n C hl dX7_size_1 rfl 0 rfl ?_
  refine g_X7_1 C kdC_0 fl_X7_19 dX7_size_2 ?_
  refine g_X1_9 C kdC_95 fl_X7_109 dX7_size_5 ?_
  obtain ⟨x_1, hv1, h⟩ := bd_e h
  refine v_callSI C [.int (i32 v1), .int (i32 (σ 95 9))] (mX7_isBelow C.2.2.2.2.1 hv1) cd_X7_isBelow ic_X7 sm_X7_isBelow ml_X7_69 yk_X7_isBelow ⟨rfl, rfl, by decide, by decide⟩ rfl hl.1 (rest := []) rfl (Nat.le_of_ble_eq_true rfl) dX7_size_8 ?_
  have hz2 := (cr_e h).1
  have h := (cr_e h).2
  refine v_if_eq C (tgt := 22) hz2 h dX7_size_11 rfl (fun h => ?_) (fun h => ?_)
  · exact wX7_size_22 C hr (lv_sub hl [0] rfl) h
  · refine v_aload_n C hl dX7_size_14 rfl 0 rfl ?_
    refine v_iload_n C hl dX7_size_15 rfl 2 rfl ?_
    obtain ⟨x_3, hv3, h⟩ := bd_e h
    refine v_callVI C 0 (klC kdC_0) rfl (ckC1 kdC_0 _) rfl [.int (i32 v2)] (mX7_isStage C.2.2.2.2.1 hv3) cd_X7_isStage ic_X7 im_X7_isStage se_X7_isStage ml_X7_160 yk_X7_isStage ⟨rfl, rfl, by decide, by decide⟩ rfl hl.1 (rest := []) rfl (Nat.le_of_ble_eq_true rfl) dX7_size_16 ?_
    have hz4 := (cr_e h).1
    have h := (cr_e h).2
    refine v_if_ne C (tgt := 24) hz4 h dX7_size_19 rfl (fun h => ?_) (fun h => ?_)
    · refine v_aload_n C hl dX7_size_24 rfl 0 rfl ?_
      refine g_X7_6 C kdC_0 fl_X7_50 dX7_size_25 ?_
      refine v_iload_n C hl dX7_size_28 rfl 2 rfl ?_
      obtain ⟨σ_5, hv5, h⟩ := bd_e h
      refine v_callVR C 9 (klC kdC_9) rfl (ckC10 kdC_9 _) rfl [.int (i32 v2)] (mX5_sceneAt C.2.2.2.2.1 hv5) cd_X5_sceneAt ic_X5 im_X5_sceneAt se_X5_sceneAt ml_X7_163 yk_X5_sceneAt ⟨rfl, rfl, by decide, by decide⟩ rfl hl.1 (rest := []) rfl (Nat.le_of_ble_eq_true rfl) dX7_size_29 ?_
      refine v_astore_n C hl ([(3, .ref (q 13)), (0, .ref (q 0)), (1, .int (i32 v1)), (2, .int (i32 v2))]) dX7_size_32 rfl (by decide) rfl (fun ls hl => ?_)
      refine v_aload_n C hl dX7_size_33 rfl 1 rfl ?_
      refine g_X7_1 C kdC_0 fl_X7_19 dX7_size_34 ?_
      refine v_iload_n C hl dX7_size_37 rfl 2 rfl ?_
      obtain ⟨x_6, hv6, h⟩ := bd_e h
      refine v_callVI C 95 (klC kdC_95) rfl (ckC23 kdC_95 _) rfl [.int (i32 v1)] (mX1_isNode C.2.2.2.2.1 kdC_95 hv6) cd_X1_isNode ic_X1 im_X1_isNode se_X1_isNode ml_X7_144 yk_X1_isNode ⟨rfl, rfl, by decide, by decide⟩ rfl hl.1 (rest := []) rfl (Nat.le_of_ble_eq_true rfl) dX7_size_38 ?_
      have hz7 := (cr_e h).1
      have h := (cr_e h).2
      refine v_if_ne C (tgt := 53) hz7 h dX7_size_41 rfl (fun h => ?_) (fun h => ?_)
      · exact wX7_size_53 C hr (lv_sub hl [1] rfl) h
      · refine v_aload_n C hl dX7_size_44 rfl 0 rfl ?_
        refine g_X3_3 C kdC_13 fl_X7_209 dX7_size_45 ?_
        refine v_iload_n C hl dX7_size_48 rfl 2 rfl ?_
        refine alC15 C kdC_16 h dX7_size_49 (fun h => ?_)
        have hz8 := (cr_e h).1
        have h := (cr_e h).2
        refine v_if_ne C (tgt := 58) hz8 h dX7_size_50 rfl (fun h => ?_) (fun h => ?_)
        · refine v_aload_n C hl dX7_size_58 rfl 0 rfl ?_
          refine v_iload_n C hl dX7_size_59 rfl 2 rfl ?_
          obtain ⟨x_9, hv9, h⟩ := bd_e h
          refine v_callVI C 13 (klC kdC_13) rfl (ckC12 kdC_13 _) rfl [.int (i32 v1)] (mX3_triangleOf C.2.2.2.2.1 hv9) cd_X3_triangleOf ic_X3 im_X3_triangleOf se_X3_triangleOf ml_X7_212 yk_X3_triangleOf ⟨rfl, rfl, by decide, by decide⟩ rfl hl.1 (rest := []) rfl (Nat.le_of_ble_eq_true rfl) dX7_size_60 ?_
          exact wX7_size_63 C hr (lv_sub hl [1] rfl) h
        · exact wX7_size_53 C hr (lv_sub hl [1] rfl) h
    · exact wX7_size_22 C hr (lv_sub hl [0] rfl) h
end
section
variable {l : Launch} {D : va_G} {ac : Nat → ClassId} {q xa xv : Nat → Nat} {p : Program} {e : Env} {s : State} {m : MethodId} {args : Array Value} {below : List Frame} {meth : Method} {c : Code} {ls : Array Slot}
theorem dX7_store_0 : decode cX7_store 0 = .ok (.iload_n 1, 1) := by decide +kernel
theorem dX7_store_1 : decode cX7_store 1 = .ok (.iconst 2, 1) := by decide +kernel
theorem dX7_store_2 : decode cX7_store 2 = .ok (.invokestatic 69, 3) := by decide +kernel
theorem dX7_store_5 : decode cX7_store 5 = .ok (.ifCond .ne 5, 3) := by decide +kernel
theorem dX7_store_8 : decode cX7_store 8 = .ok (.iconst (-1), 1) := by decide +kernel
theorem dX7_store_9 : decode cX7_store 9 = .ok (.ireturn, 1) := by decide +kernel
theorem dX7_store_10 : decode cX7_store 10 = .ok (.aload_n 0, 1) := by decide +kernel
theorem dX7_store_11 : decode cX7_store 11 = .ok (.getfield 54, 3) := by decide +kernel
theorem dX7_store_14 : decode cX7_store 14 = .ok (.iload_n 1, 1) := by decide +kernel
theorem dX7_store_15 : decode cX7_store 15 = .ok (.baload, 1) := by decide +kernel
theorem dX7_store_16 : decode cX7_store 16 = .ok (.ifCond .eq 7, 3) := by decide +kernel
theorem dX7_store_19 : decode cX7_store 19 = .ok (.iconst 1, 1) := by decide +kernel
theorem dX7_store_20 : decode cX7_store 20 = .ok (.goto 4, 3) := by decide +kernel
theorem dX7_store_23 : decode cX7_store 23 = .ok (.iconst 0, 1) := by decide +kernel
theorem dX7_store_24 : decode cX7_store 24 = .ok (.istore_n 2, 1) := by decide +kernel
theorem dX7_store_25 : decode cX7_store 25 = .ok (.aload_n 0, 1) := by decide +kernel
theorem dX7_store_26 : decode cX7_store 26 = .ok (.getfield 58, 3) := by decide +kernel
theorem dX7_store_29 : decode cX7_store 29 = .ok (.iload_n 1, 1) := by decide +kernel
theorem dX7_store_30 : decode cX7_store 30 = .ok (.aaload, 1) := by decide +kernel
theorem dX7_store_31 : decode cX7_store 31 = .ok (.aload_n 0, 1) := by decide +kernel
theorem dX7_store_32 : decode cX7_store 32 = .ok (.getfield 19, 3) := by decide +kernel
theorem dX7_store_35 : decode cX7_store 35 = .ok (.invokevirtual 97, 3) := by decide +kernel
theorem dX7_store_38 : decode cX7_store 38 = .ok (.aload_n 0, 1) := by decide +kernel
theorem dX7_store_39 : decode cX7_store 39 = .ok (.getfield 54, 3) := by decide +kernel
theorem dX7_store_42 : decode cX7_store 42 = .ok (.iload_n 1, 1) := by decide +kernel
theorem dX7_store_43 : decode cX7_store 43 = .ok (.iconst 1, 1) := by decide +kernel
theorem dX7_store_44 : decode cX7_store 44 = .ok (.bastore, 1) := by decide +kernel
theorem dX7_store_45 : decode cX7_store 45 = .ok (.iload_n 2, 1) := by decide +kernel
theorem dX7_store_46 : decode cX7_store 46 = .ok (.ireturn, 1) := by decide +kernel
theorem wX7_store_24 (C : CxC p rmX7_store s m args meth c D ac q xa xv RX7 cX7_store 3) (hr : meth.sig.returnType = (some .int)) {v1 : Int} {t0 : Int} {σ : Mm} {r : Int × Mm} (hl : lv_has ls 3 [(0, .ref (q 0)), (1, .int (i32 v1))]) (h : fX7_store_24 v1 t0 σ = some r) : VC p l e rmX7_store s m args below meth c D ac q (QIC D ac q xa xv below args s r) σ (F0 m 24 ls [.int (i32 t0)]) := by
  have h : bindv t0 (fun v2_1 => chk v1 2 (bd (fX1_copyFrom (143 + 16 * (v1).toNat) 95 σ) (fun σ_3 => chb 1 (chk v1 2 (bindv (sto σ_3 19 (v1).toNat 1) (fun σ_4 => some (v2_1, σ_4))))))) = some r := h
  refine v_istore_n C hl (fun x => [(2, .int (i32 x)), (0, .ref (q 0)), (1, .int (i32 v1))]) dX7_store_24 rfl (by decide) (fun _ => rfl) h (fun v2_1 ls hl h => ?_)
  refine v_aload_n C hl dX7_store_25 rfl 1 rfl ?_
  refine g_X7_7 C kdC_0 fl_X7_58 dX7_store_26 ?_
  refine v_iload_n C hl dX7_store_29 rfl 2 rfl ?_
  have hi2 := (chk_e h).1
  refine arC17 C kdC_18 h dX7_store_30 (fun h => ?_)
  refine v_aload_n C hl dX7_store_31 rfl 1 rfl ?_
  refine g_X7_1 C kdC_0 fl_X7_19 dX7_store_32 ?_
  obtain ⟨σ_3, hv3, h⟩ := bd_e h
  refine v_callVV C (143 + 16 * (v1).toNat) (klC (keC17 kdC_18 hi2)) rfl (ckC23 (keC17 kdC_18 hi2) _) rfl [.ref (q 95)] (mX1_copyFrom C.2.2.2.2.1 (keC17 kdC_18 hi2) kdC_95 hv3) cd_X1_copyFrom ic_X1 im_X1_copyFrom se_X1_copyFrom ml_X7_97 yk_X1_copyFrom ⟨rfl, rfl, by decide, by decide⟩ rfl hl.1 (rest := []) rfl (Nat.le_of_ble_eq_true rfl) dX7_store_35 ?_
  refine v_aload_n C hl dX7_store_38 rfl 1 rfl ?_
  refine g_X7_8 C kdC_0 fl_X7_54 dX7_store_39 ?_
  refine v_iload_n C hl dX7_store_42 rfl 2 rfl ?_
  refine v_iconst C dX7_store_43 ?_
  refine asC18 C kdC_19 h dX7_store_44 (fun σ_4 h => ?_)
  refine v_iload_n C hl dX7_store_45 rfl 0 rfl ?_
  exact v_iret C hr h dX7_store_46
theorem mX7_store (hq : QI 175 q) {v1 : Int} {σ : Mm} {r : Int × Mm} (h : fX7_store v1 σ = some r) : MIC l D ac q xa xv yX7_store cX7_store 3 (some .int) rmX7_store [.ref (q 0), .int (i32 v1)] σ r := by
  refine MI.of hq XC_M (by decide) (Nat.le_of_ble_eq_true rfl) (fun p e s m below meth c ls C hr hl => ?_)
  have hl : lv_has ls 3 [(0, .ref (q 0)), (1, .int (i32 v1))] := hl
  have h : bd (fX7_isBelow v1 2 σ) (fun x_1 => cr x_1 ((if x_1 = 0 then some ((-1), σ) else chk v1 2 (cr (σ 19 (v1).toNat) ((if σ 19 (v1).toNat = 0 then fX7_store_24 v1 0 σ else fX7_store_24 v1 1 σ)))))) = some r := h
  refine v_iload_n C hl dX7_store_0 rfl 1 rfl ?_
  refine v_iconst C dX7_store_1 ?_
  obtain ⟨x_1, hv1, h⟩ := bd_e h
  refine v_callSI C [.int (i32 v1), .int (i32 2)] (mX7_isBelow C.2.2.2.2.1 hv1) cd_X7_isBelow ic_X7 sm_X7_isBelow ml_X7_69 yk_X7_isBelow ⟨rfl, rfl, by decide, by decide⟩ rfl hl.1 (rest := []) rfl (Nat.le_of_ble_eq_true rfl) dX7_store_2 ?_
  have hz2 := (cr_e h).1
  have h := (cr_e h).2
  refine v_if_ne C (tgt := 10) hz2 h dX7_store_5 rfl (fun h => ?_) (fun h => ?_)
  · refine v_aload_n C hl dX7_store_10 rfl 0 rfl ?_
    refine g_X7_8 C kdC_0 fl_X7_54 dX7_store_11 ?_
    refine v_iload_n C hl dX7_store_14 rfl 1 rfl ?_
    refine alC18 C kdC_19 h dX7_store_15 (fun h => ?_)
    have hz3 := (cr_e h).1
    have h := (cr_e h).2
    refine v_if_eq C (tgt := 23) hz3 h dX7_store_16 rfl (fun h => ?_) (fun h => ?_)
    · refine v_iconst C dX7_store_23 ?_
      exact wX7_store_24 C hr (lv_sub hl [0, 1] rfl) h
    · refine v_iconst C dX7_store_19 ?_
      refine v_goto C (tgt := 24) dX7_store_20 rfl ?_
      exact wX7_store_24 C hr (lv_sub hl [0, 1] rfl) h
  · refine v_iconst C dX7_store_8 ?_
    exact v_iret C hr h dX7_store_9
end
section
variable {l : Launch} {D : va_G} {ac : Nat → ClassId} {q xa xv : Nat → Nat} {p : Program} {e : Env} {s : State} {m : MethodId} {args : Array Value} {below : List Frame} {meth : Method} {c : Code} {ls : Array Slot}
theorem dX7_text_0 : decode cX7_text 0 = .ok (.aload_n 0, 1) := by decide +kernel
theorem dX7_text_1 : decode cX7_text 1 = .ok (.getfield 34, 3) := by decide +kernel
theorem dX7_text_4 : decode cX7_text 4 = .ok (.invokevirtual 81, 3) := by decide +kernel
theorem dX7_text_7 : decode cX7_text 7 = .ok (.ifCond .eq 17, 3) := by decide +kernel
theorem dX7_text_10 : decode cX7_text 10 = .ok (.aload_n 0, 1) := by decide +kernel
theorem dX7_text_11 : decode cX7_text 11 = .ok (.getfield 34, 3) := by decide +kernel
theorem dX7_text_14 : decode cX7_text 14 = .ok (.invokevirtual 85, 3) := by decide +kernel
theorem dX7_text_17 : decode cX7_text 17 = .ok (.ifCond .eq 7, 3) := by decide +kernel
theorem dX7_text_20 : decode cX7_text 20 = .ok (.iconst 1, 1) := by decide +kernel
theorem dX7_text_21 : decode cX7_text 21 = .ok (.goto 4, 3) := by decide +kernel
theorem dX7_text_24 : decode cX7_text 24 = .ok (.iconst 0, 1) := by decide +kernel
theorem dX7_text_25 : decode cX7_text 25 = .ok (.istore_n 1, 1) := by decide +kernel
theorem dX7_text_26 : decode cX7_text 26 = .ok (.aload_n 0, 1) := by decide +kernel
theorem dX7_text_27 : decode cX7_text 27 = .ok (.getfield 12, 3) := by decide +kernel
theorem dX7_text_30 : decode cX7_text 30 = .ok (.iconst 0, 1) := by decide +kernel
theorem dX7_text_31 : decode cX7_text 31 = .ok (.putfield 73, 3) := by decide +kernel
theorem dX7_text_34 : decode cX7_text 34 = .ok (.aload_n 0, 1) := by decide +kernel
theorem dX7_text_35 : decode cX7_text 35 = .ok (.aload_n 0, 1) := by decide +kernel
theorem dX7_text_36 : decode cX7_text 36 = .ok (.getfield 34, 3) := by decide +kernel
theorem dX7_text_39 : decode cX7_text 39 = .ok (.getfield 88, 3) := by decide +kernel
theorem dX7_text_42 : decode cX7_text 42 = .ok (.putfield 91, 3) := by decide +kernel
theorem dX7_text_45 : decode cX7_text 45 = .ok (.iload_n 1, 1) := by decide +kernel
theorem dX7_text_46 : decode cX7_text 46 = .ok (.ifCond .ne 14, 3) := by decide +kernel
theorem dX7_text_49 : decode cX7_text 49 = .ok (.bipush (-10), 2) := by decide +kernel
theorem dX7_text_51 : decode cX7_text 51 = .ok (.aload_n 0, 1) := by decide +kernel
theorem dX7_text_52 : decode cX7_text 52 = .ok (.getfield 34, 3) := by decide +kernel
theorem dX7_text_55 : decode cX7_text 55 = .ok (.getfield 94, 3) := by decide +kernel
theorem dX7_text_58 : decode cX7_text 58 = .ok (.isub, 1) := by decide +kernel
theorem dX7_text_59 : decode cX7_text 59 = .ok (.ireturn, 1) := by decide +kernel
theorem dX7_text_60 : decode cX7_text 60 = .ok (.aload_n 0, 1) := by decide +kernel
theorem dX7_text_61 : decode cX7_text 61 = .ok (.getfield 19, 3) := by decide +kernel
theorem dX7_text_64 : decode cX7_text 64 = .ok (.aload_n 0, 1) := by decide +kernel
theorem dX7_text_65 : decode cX7_text 65 = .ok (.getfield 23, 3) := by decide +kernel
theorem dX7_text_68 : decode cX7_text 68 = .ok (.invokevirtual 97, 3) := by decide +kernel
theorem dX7_text_71 : decode cX7_text 71 = .ok (.aload_n 0, 1) := by decide +kernel
theorem dX7_text_72 : decode cX7_text 72 = .ok (.invokevirtual 100, 3) := by decide +kernel
theorem dX7_text_75 : decode cX7_text 75 = .ok (.aload_n 0, 1) := by decide +kernel
theorem dX7_text_76 : decode cX7_text 76 = .ok (.invokevirtual 103, 3) := by decide +kernel
theorem dX7_text_79 : decode cX7_text 79 = .ok (.aload_n 0, 1) := by decide +kernel
theorem dX7_text_80 : decode cX7_text 80 = .ok (.getfield 34, 3) := by decide +kernel
theorem dX7_text_83 : decode cX7_text 83 = .ok (.getfield 106, 3) := by decide +kernel
theorem dX7_text_86 : decode cX7_text 86 = .ok (.ireturn, 1) := by decide +kernel
theorem wX7_text_25 (C : CxC p rmX7_text s m args meth c D ac q xa xv RX7 cX7_text 2) (hr : meth.sig.returnType = (some .int)) {t0 : Int} {σ : Mm} {r : Int × Mm} (hl : lv_has ls 2 [(0, .ref (q 0))]) (h : fX7_text_25 t0 σ = some r) : VC p l e rmX7_text s m args below meth c D ac q (QIC D ac q xa xv below args s r) σ (F0 m 25 ls [.int (i32 t0)]) := by
  have h : bindv t0 (fun v1_1 => bindv (sto σ 1 1 0) (fun σ_2 => bindv (sto σ_2 0 10 (σ_2 3 6)) (fun σ_3 => cr v1_1 ((if v1_1 = 0 then some ((-10) - (σ_3 3 7), σ_3) else bd (fX1_copyFrom 95 111 σ_3) (fun σ_5 => bd (fX7_forgetImages σ_5) (fun σ_6 => bd (fX7_refresh σ_6) (fun σ_7 => some (σ_7 3 8, σ_7))))))))) = some r := h
  refine v_istore_n C hl (fun x => [(1, .int (i32 x)), (0, .ref (q 0))]) dX7_text_25 rfl (by decide) (fun _ => rfl) h (fun v1_1 ls hl h => ?_)
  refine v_aload_n C hl dX7_text_26 rfl 1 rfl ?_
  refine g_X7_0 C kdC_0 fl_X7_12 dX7_text_27 ?_
  refine v_iconst C dX7_text_30 ?_
  refine s_X6_1 C kdC_1 fl_X7_73 h dX7_text_31 (fun σ_2 h => ?_)
  refine v_aload_n C hl dX7_text_34 rfl 1 rfl ?_
  refine v_aload_n C hl dX7_text_35 rfl 1 rfl ?_
  refine g_X7_4 C kdC_0 fl_X7_34 dX7_text_36 ?_
  refine g_X2_6 C kdC_3 fl_X7_88 dX7_text_39 ?_
  refine s_X7_10 C kdC_0 fl_X7_91 h dX7_text_42 (fun σ_3 h => ?_)
  refine v_iload_n C hl dX7_text_45 rfl 0 rfl ?_
  have hz4 := (cr_e h).1
  have h := (cr_e h).2
  refine v_if_ne C (tgt := 60) hz4 h dX7_text_46 rfl (fun h => ?_) (fun h => ?_)
  · refine v_aload_n C hl dX7_text_60 rfl 1 rfl ?_
    refine g_X7_1 C kdC_0 fl_X7_19 dX7_text_61 ?_
    refine v_aload_n C hl dX7_text_64 rfl 1 rfl ?_
    refine g_X7_2 C kdC_0 fl_X7_23 dX7_text_65 ?_
    obtain ⟨σ_5, hv5, h⟩ := bd_e h
    refine v_callVV C 95 (klC kdC_95) rfl (ckC23 kdC_95 _) rfl [.ref (q 111)] (mX1_copyFrom C.2.2.2.2.1 kdC_95 kdC_111 hv5) cd_X1_copyFrom ic_X1 im_X1_copyFrom se_X1_copyFrom ml_X7_97 yk_X1_copyFrom ⟨rfl, rfl, by decide, by decide⟩ rfl hl.1 (rest := []) rfl (Nat.le_of_ble_eq_true rfl) dX7_text_68 ?_
    refine v_aload_n C hl dX7_text_71 rfl 1 rfl ?_
    obtain ⟨σ_6, hv6, h⟩ := bd_e h
    refine v_callVV C 0 (klC kdC_0) rfl (ckC1 kdC_0 _) rfl [] (mX7_forgetImages C.2.2.2.2.1 hv6) cd_X7_forgetImages ic_X7 im_X7_forgetImages se_X7_forgetImages ml_X7_100 yk_X7_forgetImages ⟨rfl, rfl, by decide, by decide⟩ rfl hl.1 (rest := []) rfl (Nat.le_of_ble_eq_true rfl) dX7_text_72 ?_
    refine v_aload_n C hl dX7_text_75 rfl 1 rfl ?_
    obtain ⟨σ_7, hv7, h⟩ := bd_e h
    refine v_callVV C 0 (klC kdC_0) rfl (ckC1 kdC_0 _) rfl [] (mX7_refresh C.2.2.2.2.1 hv7) cd_X7_refresh ic_X7 im_X7_refresh se_X7_refresh ml_X7_103 yk_X7_refresh ⟨rfl, rfl, by decide, by decide⟩ rfl hl.1 (rest := []) rfl (Nat.le_of_ble_eq_true rfl) dX7_text_76 ?_
    refine v_aload_n C hl dX7_text_79 rfl 1 rfl ?_
    refine g_X7_4 C kdC_0 fl_X7_34 dX7_text_80 ?_
    refine g_X2_8 C kdC_3 fl_X7_106 dX7_text_83 ?_
    exact v_iret C hr h dX7_text_86
  · refine v_bipush C dX7_text_49 rfl ?_
    refine v_aload_n C hl dX7_text_51 rfl 1 rfl ?_
    refine g_X7_4 C kdC_0 fl_X7_34 dX7_text_52 ?_
    refine g_X2_7 C kdC_3 fl_X7_94 dX7_text_55 ?_
    refine v_isub C dX7_text_58 ?_
    exact v_iret C hr h dX7_text_59
theorem wX7_text_24 (C : CxC p rmX7_text s m args meth c D ac q xa xv RX7 cX7_text 2) (hr : meth.sig.returnType = (some .int)) {σ : Mm} {r : Int × Mm} (hl : lv_has ls 2 [(0, .ref (q 0))]) (h : fX7_text_24 σ = some r) : VC p l e rmX7_text s m args below meth c D ac q (QIC D ac q xa xv below args s r) σ (F0 m 24 ls []) := by
  have h : fX7_text_25 0 σ = some r := h
  refine v_iconst C dX7_text_24 ?_
  exact wX7_text_25 C hr (lv_sub hl [0] rfl) h
theorem mX7_text (hq : QI 175 q)  {σ : Mm} {r : Int × Mm} (h : fX7_text σ = some r) : MIC l D ac q xa xv yX7_text cX7_text 2 (some .int) rmX7_text [.ref (q 0)] σ r := by
  refine MI.of hq XC_M (by decide) (Nat.le_of_ble_eq_true rfl) (fun p e s m below meth c ls C hr hl => ?_)
  have hl : lv_has ls 2 [(0, .ref (q 0))] := hl
  have h : bd2 (fX2_readAll σ) (fun x_1 σ_1 => cr x_1 ((if x_1 = 0 then fX7_text_24 σ_1 else bd2 (fX2_judgeAll σ_1) (fun x_3 σ_3 => cr x_3 ((if x_3 = 0 then fX7_text_24 σ_3 else fX7_text_25 1 σ_3)))))) = some r := h
  refine v_aload_n C hl dX7_text_0 rfl 0 rfl ?_
  refine g_X7_4 C kdC_0 fl_X7_34 dX7_text_1 ?_
  obtain ⟨x_1, σ_1, hv1, h⟩ := bd2_e h
  refine v_callVI C 3 (klC kdC_3) rfl (ckC4 kdC_3 _) rfl [] (mX2_readAll C.2.2.2.2.1 hv1) cd_X2_readAll ic_X2 im_X2_readAll se_X2_readAll ml_X7_81 yk_X2_readAll ⟨rfl, rfl, by decide, by decide⟩ rfl hl.1 (rest := []) rfl (Nat.le_of_ble_eq_true rfl) dX7_text_4 ?_
  have hz2 := (cr_e h).1
  have h := (cr_e h).2
  refine v_if_eq C (tgt := 24) hz2 h dX7_text_7 rfl (fun h => ?_) (fun h => ?_)
  · exact wX7_text_24 C hr (lv_sub hl [0] rfl) h
  · refine v_aload_n C hl dX7_text_10 rfl 0 rfl ?_
    refine g_X7_4 C kdC_0 fl_X7_34 dX7_text_11 ?_
    obtain ⟨x_3, σ_3, hv3, h⟩ := bd2_e h
    refine v_callVI C 3 (klC kdC_3) rfl (ckC4 kdC_3 _) rfl [] (mX2_judgeAll C.2.2.2.2.1 hv3) cd_X2_judgeAll ic_X2 im_X2_judgeAll se_X2_judgeAll ml_X7_85 yk_X2_judgeAll ⟨rfl, rfl, by decide, by decide⟩ rfl hl.1 (rest := []) rfl (Nat.le_of_ble_eq_true rfl) dX7_text_14 ?_
    have hz4 := (cr_e h).1
    have h := (cr_e h).2
    refine v_if_eq C (tgt := 24) hz4 h dX7_text_17 rfl (fun h => ?_) (fun h => ?_)
    · exact wX7_text_24 C hr (lv_sub hl [0] rfl) h
    · refine v_iconst C dX7_text_20 ?_
      refine v_goto C (tgt := 25) dX7_text_21 rfl ?_
      exact wX7_text_25 C hr (lv_sub hl [0] rfl) h
end
section
variable {l : Launch} {D : va_G} {ac : Nat → ClassId} {q xa xv : Nat → Nat} {p : Program} {e : Env} {s : State} {m : MethodId} {args : Array Value} {below : List Frame} {meth : Method} {c : Code} {ls : Array Slot}
theorem dX7_torn_0 : decode cX7_torn 0 = .ok (.aload_n 0, 1) := by decide +kernel
theorem dX7_torn_1 : decode cX7_torn 1 = .ok (.getfield 255, 3) := by decide +kernel
theorem dX7_torn_4 : decode cX7_torn 4 = .ok (.ireturn, 1) := by decide +kernel
theorem mX7_torn (hq : QI 175 q)  {σ : Mm} {r : Int} (h : fX7_torn σ = some r) : MIC l D ac q xa xv yX7_torn cX7_torn 1 (some .int) rmX7_torn [.ref (q 0)] σ (r, σ) := by
  refine MI.of hq XC_M (by decide) (Nat.le_of_ble_eq_true rfl) (fun p e s m below meth c ls C hr hl => ?_)
  have hl : lv_has ls 1 [(0, .ref (q 0))] := hl
  have h : some (σ 0 11) = some r := h
  refine v_aload_n C hl dX7_torn_0 rfl 0 rfl ?_
  refine g_X7_11 C kdC_0 fl_X7_255 dX7_torn_1 ?_
  exact v_iret C hr (so1 h) dX7_torn_4
end
section
variable {l : Launch} {D : va_G} {ac : Nat → ClassId} {q xa xv : Nat → Nat} {p : Program} {e : Env} {s : State} {m : MethodId} {args : Array Value} {below : List Frame} {meth : Method} {c : Code} {ls : Array Slot}
theorem dX7_why_0 : decode cX7_why 0 = .ok (.iload_n 1, 1) := by decide +kernel
theorem dX7_why_1 : decode cX7_why 1 = .ok (.aload_n 0, 1) := by decide +kernel
theorem dX7_why_2 : decode cX7_why 2 = .ok (.getfield 19, 3) := by decide +kernel
theorem dX7_why_5 : decode cX7_why 5 = .ok (.getfield 109, 3) := by decide +kernel
theorem dX7_why_8 : decode cX7_why 8 = .ok (.invokestatic 69, 3) := by decide +kernel
theorem dX7_why_11 : decode cX7_why 11 = .ok (.ifCond .eq 11, 3) := by decide +kernel
theorem dX7_why_14 : decode cX7_why 14 = .ok (.aload_n 0, 1) := by decide +kernel
theorem dX7_why_15 : decode cX7_why 15 = .ok (.iload_n 2, 1) := by decide +kernel
theorem dX7_why_16 : decode cX7_why 16 = .ok (.invokevirtual 160, 3) := by decide +kernel
theorem dX7_why_19 : decode cX7_why 19 = .ok (.ifCond .ne 5, 3) := by decide +kernel
theorem dX7_why_22 : decode cX7_why 22 = .ok (.iconst (-1), 1) := by decide +kernel
theorem dX7_why_23 : decode cX7_why 23 = .ok (.ireturn, 1) := by decide +kernel
theorem dX7_why_24 : decode cX7_why 24 = .ok (.aload_n 0, 1) := by decide +kernel
theorem dX7_why_25 : decode cX7_why 25 = .ok (.getfield 50, 3) := by decide +kernel
theorem dX7_why_28 : decode cX7_why 28 = .ok (.iload_n 2, 1) := by decide +kernel
theorem dX7_why_29 : decode cX7_why 29 = .ok (.invokevirtual 163, 3) := by decide +kernel
theorem dX7_why_32 : decode cX7_why 32 = .ok (.iload_n 1, 1) := by decide +kernel
theorem dX7_why_33 : decode cX7_why 33 = .ok (.invokevirtual 206, 3) := by decide +kernel
theorem dX7_why_36 : decode cX7_why 36 = .ok (.ireturn, 1) := by decide +kernel
theorem wX7_why_22 (C : CxC p rmX7_why s m args meth c D ac q xa xv RX7 cX7_why 3) (hr : meth.sig.returnType = (some .int)) {σ : Mm} {r : Int × Mm} (hl : lv_has ls 3 [(0, .ref (q 0))]) (h : fX7_why_22 σ = some r) : VC p l e rmX7_why s m args below meth c D ac q (QIC D ac q xa xv below args s r) σ (F0 m 22 ls []) := by
  have h : some ((-1), σ) = some r := h
  refine v_iconst C dX7_why_22 ?_
  exact v_iret C hr h dX7_why_23
theorem mX7_why (hq : QI 175 q) {v1 : Int} {v2 : Int} {σ : Mm} {r : Int × Mm} (h : fX7_why v1 v2 σ = some r) : MIC l D ac q xa xv yX7_why cX7_why 3 (some .int) rmX7_why [.ref (q 0), .int (i32 v1), .int (i32 v2)] σ r := by
  refine MI.of hq XC_M (by decide) (Nat.le_of_ble_eq_true rfl) (fun p e s m below meth c ls C hr hl => ?_)
  have hl : lv_has ls 3 [(0, .ref (q 0)), (1, .int (i32 v1)), (2, .int (i32 v2))] := hl
  have h : bd (fX7_isBelow v1 (σ 95 9) σ) (fun x_1 => cr x_1 ((if x_1 = 0 then fX7_why_22 σ else bd (fX7_isStage v2 σ) (fun x_3 => cr x_3 ((if x_3 = 0 then fX7_why_22 σ else bd (fX5_sceneAt v2 σ) (fun σ_5 => bd2 (fX3_reasonOf v1 σ_5) (fun x_6 σ_6 => some (x_6, σ_6))))))))) = some r := h
  refine v_iload_n C hl dX7_why_0 rfl 1 rfl ?_
  refine v_aload_n C hl dX7_why_1 rfl 0 rfl ?_
  refine g_X7_1 C kdC_0 fl_X7_19 dX7_why_2 ?_
  refine g_X1_9 C kdC_95 fl_X7_109 dX7_why_5 ?_
  obtain ⟨x_1, hv1, h⟩ := bd_e h
  refine v_callSI C [.int (i32 v1), .int (i32 (σ 95 9))] (mX7_isBelow C.2.2.2.2.1 hv1) cd_X7_isBelow ic_X7 sm_X7_isBelow ml_X7_69 yk_X7_isBelow ⟨rfl, rfl, by decide, by decide⟩ rfl hl.1 (rest := []) rfl (Nat.le_of_ble_eq_true rfl) dX7_why_8 ?_
  have hz2 := (cr_e h).1
  have h := (cr_e h).2
  refine v_if_eq C (tgt := 22) hz2 h dX7_why_11 rfl (fun h => ?_) (fun h => ?_)
  · exact wX7_why_22 C hr (lv_sub hl [0] rfl) h
  · refine v_aload_n C hl dX7_why_14 rfl 0 rfl ?_
    refine v_iload_n C hl dX7_why_15 rfl 2 rfl ?_
    obtain ⟨x_3, hv3, h⟩ := bd_e h
    refine v_callVI C 0 (klC kdC_0) rfl (ckC1 kdC_0 _) rfl [.int (i32 v2)] (mX7_isStage C.2.2.2.2.1 hv3) cd_X7_isStage ic_X7 im_X7_isStage se_X7_isStage ml_X7_160 yk_X7_isStage ⟨rfl, rfl, by decide, by decide⟩ rfl hl.1 (rest := []) rfl (Nat.le_of_ble_eq_true rfl) dX7_why_16 ?_
    have hz4 := (cr_e h).1
    have h := (cr_e h).2
    refine v_if_ne C (tgt := 24) hz4 h dX7_why_19 rfl (fun h => ?_) (fun h => ?_)
    · refine v_aload_n C hl dX7_why_24 rfl 0 rfl ?_
      refine g_X7_6 C kdC_0 fl_X7_50 dX7_why_25 ?_
      refine v_iload_n C hl dX7_why_28 rfl 2 rfl ?_
      obtain ⟨σ_5, hv5, h⟩ := bd_e h
      refine v_callVR C 9 (klC kdC_9) rfl (ckC10 kdC_9 _) rfl [.int (i32 v2)] (mX5_sceneAt C.2.2.2.2.1 hv5) cd_X5_sceneAt ic_X5 im_X5_sceneAt se_X5_sceneAt ml_X7_163 yk_X5_sceneAt ⟨rfl, rfl, by decide, by decide⟩ rfl hl.1 (rest := []) rfl (Nat.le_of_ble_eq_true rfl) dX7_why_29 ?_
      refine v_iload_n C hl dX7_why_32 rfl 1 rfl ?_
      obtain ⟨x_6, σ_6, hv6, h⟩ := bd2_e h
      refine v_callVI C 13 (klC kdC_13) rfl (ckC12 kdC_13 _) rfl [.int (i32 v1)] (mX3_reasonOf C.2.2.2.2.1 hv6) cd_X3_reasonOf ic_X3 im_X3_reasonOf se_X3_reasonOf ml_X7_206 yk_X3_reasonOf ⟨rfl, rfl, by decide, by decide⟩ rfl hl.1 (rest := []) rfl (Nat.le_of_ble_eq_true rfl) dX7_why_33 ?_
      exact v_iret C hr h dX7_why_36
    · exact wX7_why_22 C hr (lv_sub hl [0] rfl) h
end
section
variable {l : Launch} {D : va_G} {ac : Nat → ClassId} {q xa xv : Nat → Nat} {p : Program} {e : Env} {s : State} {m : MethodId} {args : Array Value} {below : List Frame} {meth : Method} {c : Code} {ls : Array Slot}
theorem dX7_within_0 : decode cX7_within 0 = .ok (.iload_n 1, 1) := by decide +kernel
theorem dX7_within_1 : decode cX7_within 1 = .ok (.iload_n 2, 1) := by decide +kernel
theorem dX7_within_2 : decode cX7_within 2 = .ok (.invokestatic 220, 3) := by decide +kernel
theorem dX7_within_5 : decode cX7_within 5 = .ok (.ifCond .eq 11, 3) := by decide +kernel
theorem dX7_within_8 : decode cX7_within 8 = .ok (.aload_n 0, 1) := by decide +kernel
theorem dX7_within_9 : decode cX7_within 9 = .ok (.iload_n 3, 1) := by decide +kernel
theorem dX7_within_10 : decode cX7_within 10 = .ok (.invokevirtual 160, 3) := by decide +kernel
theorem dX7_within_13 : decode cX7_within 13 = .ok (.ifCond .ne 5, 3) := by decide +kernel
theorem dX7_within_16 : decode cX7_within 16 = .ok (.iconst (-1), 1) := by decide +kernel
theorem dX7_within_17 : decode cX7_within 17 = .ok (.ireturn, 1) := by decide +kernel
theorem dX7_within_18 : decode cX7_within 18 = .ok (.aload_n 0, 1) := by decide +kernel
theorem dX7_within_19 : decode cX7_within 19 = .ok (.getfield 50, 3) := by decide +kernel
theorem dX7_within_22 : decode cX7_within 22 = .ok (.iload_n 3, 1) := by decide +kernel
theorem dX7_within_23 : decode cX7_within 23 = .ok (.invokevirtual 163, 3) := by decide +kernel
theorem dX7_within_26 : decode cX7_within 26 = .ok (.astore 4, 2) := by decide +kernel
theorem dX7_within_28 : decode cX7_within 28 = .ok (.iconst 0, 1) := by decide +kernel
theorem dX7_within_29 : decode cX7_within 29 = .ok (.istore 5, 2) := by decide +kernel
theorem dX7_within_31 : decode cX7_within 31 = .ok (.iload 5, 2) := by decide +kernel
theorem dX7_within_33 : decode cX7_within 33 = .ok (.aload_n 0, 1) := by decide +kernel
theorem dX7_within_34 : decode cX7_within 34 = .ok (.getfield 19, 3) := by decide +kernel
theorem dX7_within_37 : decode cX7_within 37 = .ok (.getfield 112, 3) := by decide +kernel
theorem dX7_within_40 : decode cX7_within 40 = .ok (.if_icmp .ge 24, 3) := by decide +kernel
theorem dX7_within_43 : decode cX7_within 43 = .ok (.aload 4, 2) := by decide +kernel
theorem dX7_within_45 : decode cX7_within 45 = .ok (.iload 5, 2) := by decide +kernel
theorem dX7_within_47 : decode cX7_within 47 = .ok (.iload_n 1, 1) := by decide +kernel
theorem dX7_within_48 : decode cX7_within 48 = .ok (.iload_n 2, 1) := by decide +kernel
theorem dX7_within_49 : decode cX7_within 49 = .ok (.invokevirtual 223, 3) := by decide +kernel
theorem dX7_within_52 : decode cX7_within 52 = .ok (.ifCond .eq 6, 3) := by decide +kernel
theorem dX7_within_55 : decode cX7_within 55 = .ok (.bipush (-2), 2) := by decide +kernel
theorem dX7_within_57 : decode cX7_within 57 = .ok (.ireturn, 1) := by decide +kernel
theorem dX7_within_58 : decode cX7_within 58 = .ok (.iinc 5 1, 3) := by decide +kernel
theorem dX7_within_61 : decode cX7_within 61 = .ok (.goto (-30), 3) := by decide +kernel
theorem dX7_within_64 : decode cX7_within 64 = .ok (.iconst 0, 1) := by decide +kernel
theorem dX7_within_65 : decode cX7_within 65 = .ok (.istore 5, 2) := by decide +kernel
theorem dX7_within_67 : decode cX7_within 67 = .ok (.iload 5, 2) := by decide +kernel
theorem dX7_within_69 : decode cX7_within 69 = .ok (.aload_n 0, 1) := by decide +kernel
theorem dX7_within_70 : decode cX7_within 70 = .ok (.getfield 19, 3) := by decide +kernel
theorem dX7_within_73 : decode cX7_within 73 = .ok (.getfield 112, 3) := by decide +kernel
theorem dX7_within_76 : decode cX7_within 76 = .ok (.if_icmp .ge 24, 3) := by decide +kernel
theorem dX7_within_79 : decode cX7_within 79 = .ok (.aload 4, 2) := by decide +kernel
theorem dX7_within_81 : decode cX7_within 81 = .ok (.iload 5, 2) := by decide +kernel
theorem dX7_within_83 : decode cX7_within 83 = .ok (.iload_n 1, 1) := by decide +kernel
theorem dX7_within_84 : decode cX7_within 84 = .ok (.iload_n 2, 1) := by decide +kernel
theorem dX7_within_85 : decode cX7_within 85 = .ok (.invokevirtual 227, 3) := by decide +kernel
theorem dX7_within_88 : decode cX7_within 88 = .ok (.ifCond .eq 6, 3) := by decide +kernel
theorem dX7_within_91 : decode cX7_within 91 = .ok (.iload 5, 2) := by decide +kernel
theorem dX7_within_93 : decode cX7_within 93 = .ok (.ireturn, 1) := by decide +kernel
theorem dX7_within_94 : decode cX7_within 94 = .ok (.iinc 5 1, 3) := by decide +kernel
theorem dX7_within_97 : decode cX7_within 97 = .ok (.goto (-30), 3) := by decide +kernel
theorem dX7_within_100 : decode cX7_within 100 = .ok (.bipush (-4), 2) := by decide +kernel
theorem dX7_within_102 : decode cX7_within 102 = .ok (.ireturn, 1) := by decide +kernel
theorem wX7_within_100 (C : CxC p rmX7_within s m args meth c D ac q xa xv RX7 cX7_within 6) (hr : meth.sig.returnType = (some .int)) {σ : Mm} {r : Int × Mm} (hl : lv_has ls 6 [(0, .ref (q 0))]) (h : fX7_within_100 σ = some r) : VC p l e rmX7_within s m args below meth c D ac q (QIC D ac q xa xv below args s r) σ (F0 m 100 ls []) := by
  have h : some ((-4), σ) = some r := h
  refine v_bipush C dX7_within_100 rfl ?_
  exact v_iret C hr h dX7_within_102
theorem wX7_within_67 (C : CxC p rmX7_within s m args meth c D ac q xa xv RX7 cX7_within 6) (hr : meth.sig.returnType = (some .int)) {v1 : Int} {v2 : Int} {σ : Mm} {v5 : Int} {e67 : Option (Int × Mm)} {c67 : Int → Option (Int × Mm)} {r : Int × Mm} (he67 : ∀ (ls : Array Slot), lv_has ls 6 [(0, .ref (q 0))] → e67 = some r → VC p l e rmX7_within s m args below meth c D ac q (QIC D ac q xa xv below args s r) σ (F0 m 100 ls [])) (hc67 : ∀ (v5x : Int) (ls : Array Slot), lv_has ls 6 [(0, .ref (q 0)), (1, .int (i32 v1)), (2, .int (i32 v2)), (4, .ref (q 13)), (5, .int (i32 v5x))] → c67 v5x = some r → VC p l e rmX7_within s m args below meth c D ac q (QIC D ac q xa xv below args s r) σ (F0 m 67 ls [])) (hl : lv_has ls 6 [(0, .ref (q 0)), (1, .int (i32 v1)), (2, .int (i32 v2)), (4, .ref (q 13)), (5, .int (i32 v5))]) (h : fX7_within_67 v1 v2 σ e67 c67 v5 = some r) : VC p l e rmX7_within s m args below meth c D ac q (QIC D ac q xa xv below args s r) σ (F0 m 67 ls []) := by
  have h : cr v5 (cr (σ 95 10) ((if v5 < σ 95 10 then bd (fX3_holds v5 v1 v2 σ) (fun x_3 => cr x_3 ((if x_3 = 0 then bindv (v5 + 1) (fun v5_5 => c67 v5_5) else some (v5, σ)))) else e67))) = some r := h
  refine v_iload C hl dX7_within_67 4 rfl ?_
  refine v_aload_n C hl dX7_within_69 rfl 0 rfl ?_
  refine g_X7_1 C kdC_0 fl_X7_19 dX7_within_70 ?_
  refine g_X1_10 C kdC_95 fl_X7_112 dX7_within_73 ?_
  have hz1 := (cr_e h).1
  have h := (cr_e h).2
  have hz2 := (cr_e h).1
  have h := (cr_e h).2
  refine v_icmp_ge C (tgt := 100) hz1 hz2 h dX7_within_76 rfl (fun h => ?_) (fun h => ?_)
  · exact he67  _ (lv_sub hl [0] rfl) h
  · refine v_aload C hl dX7_within_79 3 rfl ?_
    refine v_iload C hl dX7_within_81 4 rfl ?_
    refine v_iload_n C hl dX7_within_83 rfl 1 rfl ?_
    refine v_iload_n C hl dX7_within_84 rfl 2 rfl ?_
    obtain ⟨x_3, hv3, h⟩ := bd_e h
    refine v_callVI C 13 (klC kdC_13) rfl (ckC12 kdC_13 _) rfl [.int (i32 v5), .int (i32 v1), .int (i32 v2)] (mX3_holds C.2.2.2.2.1 hv3) cd_X3_holds ic_X3 im_X3_holds se_X3_holds ml_X7_227 yk_X3_holds ⟨rfl, rfl, by decide, by decide⟩ rfl hl.1 (rest := []) rfl (Nat.le_of_ble_eq_true rfl) dX7_within_85 ?_
    have hz4 := (cr_e h).1
    have h := (cr_e h).2
    refine v_if_eq C (tgt := 94) hz4 h dX7_within_88 rfl (fun h => ?_) (fun h => ?_)
    · refine v_iinc C hl (fun x => [(5, .int (i32 x)), (0, .ref (q 0)), (1, .int (i32 v1)), (2, .int (i32 v2)), (4, .ref (q 13))]) dX7_within_94 4 rfl (by decide) (fun _ => rfl) h (fun v5_5 ls hl h => ?_)
      refine v_goto C (tgt := 67) dX7_within_97 rfl ?_
      exact hc67 _ _ (lv_sub hl [1, 2, 3, 4, 0] rfl) h
    · refine v_iload C hl dX7_within_91 4 rfl ?_
      exact v_iret C hr h dX7_within_93
theorem wlX7_within_67 (C : CxC p rmX7_within s m args meth c D ac q xa xv RX7 cX7_within 6) (hr : meth.sig.returnType = (some .int)) {v1 : Int} {v2 : Int} {σ : Mm} {e67 : Option (Int × Mm)} {r : Int × Mm} (he67 : ∀ (ls : Array Slot), lv_has ls 6 [(0, .ref (q 0))] → e67 = some r → VC p l e rmX7_within s m args below meth c D ac q (QIC D ac q xa xv below args s r) σ (F0 m 100 ls [])) : ∀ (fu : Nat) (v5 : Int) (ls : Array Slot) (hl : lv_has ls 6 [(0, .ref (q 0)), (1, .int (i32 v1)), (2, .int (i32 v2)), (4, .ref (q 13)), (5, .int (i32 v5))]) (h : lX7_within_67 v1 v2 σ e67 fu v5 = some r), VC p l e rmX7_within s m args below meth c D ac q (QIC D ac q xa xv below args s r) σ (F0 m 67 ls []) := by
  intro fu
  induction fu with
  | zero =>
    intro v5 ls hl h
    have h : none = some r := h
    cases h
  | succ fu ih =>
    intro v5 ls hl h
    exact wX7_within_67 C hr he67 (fun v5 ls hl h => ih v5 ls hl h) hl h
theorem wX7_within_64 (C : CxC p rmX7_within s m args meth c D ac q xa xv RX7 cX7_within 6) (hr : meth.sig.returnType = (some .int)) {v1 : Int} {v2 : Int} {σ : Mm} {r : Int × Mm} (hl : lv_has ls 6 [(0, .ref (q 0)), (1, .int (i32 v1)), (2, .int (i32 v2)), (4, .ref (q 13))]) (h : fX7_within_64 v1 v2 σ = some r) : VC p l e rmX7_within s m args below meth c D ac q (QIC D ac q xa xv below args s r) σ (F0 m 64 ls []) := by
  have h : bindv 0 (fun v5_1 => lX7_within_67 v1 v2 σ (fX7_within_100 σ) 400 v5_1) = some r := h
  refine v_iconst C dX7_within_64 ?_
  refine v_istore C hl (fun x => [(5, .int (i32 x)), (0, .ref (q 0)), (1, .int (i32 v1)), (2, .int (i32 v2)), (4, .ref (q 13))]) dX7_within_65 (by decide) (fun _ => rfl) h (fun v5_1 ls hl h => ?_)
  exact wlX7_within_67 C hr (fun ls hl h => wX7_within_100 C hr (lv_sub hl [0] rfl) h) _ _ _ (lv_sub hl [1, 2, 3, 4, 0] rfl) h
theorem wX7_within_31 (C : CxC p rmX7_within s m args meth c D ac q xa xv RX7 cX7_within 6) (hr : meth.sig.returnType = (some .int)) {v1 : Int} {v2 : Int} {σ : Mm} {v5 : Int} {e31 : Option (Int × Mm)} {c31 : Int → Option (Int × Mm)} {r : Int × Mm} (he31 : ∀ (ls : Array Slot), lv_has ls 6 [(0, .ref (q 0)), (1, .int (i32 v1)), (2, .int (i32 v2)), (4, .ref (q 13))] → e31 = some r → VC p l e rmX7_within s m args below meth c D ac q (QIC D ac q xa xv below args s r) σ (F0 m 64 ls [])) (hc31 : ∀ (v5x : Int) (ls : Array Slot), lv_has ls 6 [(0, .ref (q 0)), (1, .int (i32 v1)), (2, .int (i32 v2)), (4, .ref (q 13)), (5, .int (i32 v5x))] → c31 v5x = some r → VC p l e rmX7_within s m args below meth c D ac q (QIC D ac q xa xv below args s r) σ (F0 m 31 ls [])) (hl : lv_has ls 6 [(0, .ref (q 0)), (1, .int (i32 v1)), (2, .int (i32 v2)), (4, .ref (q 13)), (5, .int (i32 v5))]) (h : fX7_within_31 v1 v2 σ e31 c31 v5 = some r) : VC p l e rmX7_within s m args below meth c D ac q (QIC D ac q xa xv below args s r) σ (F0 m 31 ls []) := by
  have h : cr v5 (cr (σ 95 10) ((if v5 < σ 95 10 then bd (fX3_isOnBorder v5 v1 v2 σ) (fun x_3 => cr x_3 ((if x_3 = 0 then bindv (v5 + 1) (fun v5_5 => c31 v5_5) else some ((-2), σ)))) else e31))) = some r := h
  refine v_iload C hl dX7_within_31 4 rfl ?_
  refine v_aload_n C hl dX7_within_33 rfl 0 rfl ?_
  refine g_X7_1 C kdC_0 fl_X7_19 dX7_within_34 ?_
  refine g_X1_10 C kdC_95 fl_X7_112 dX7_within_37 ?_
  have hz1 := (cr_e h).1
  have h := (cr_e h).2
  have hz2 := (cr_e h).1
  have h := (cr_e h).2
  refine v_icmp_ge C (tgt := 64) hz1 hz2 h dX7_within_40 rfl (fun h => ?_) (fun h => ?_)
  · exact he31  _ (lv_sub hl [0, 1, 2, 3] rfl) h
  · refine v_aload C hl dX7_within_43 3 rfl ?_
    refine v_iload C hl dX7_within_45 4 rfl ?_
    refine v_iload_n C hl dX7_within_47 rfl 1 rfl ?_
    refine v_iload_n C hl dX7_within_48 rfl 2 rfl ?_
    obtain ⟨x_3, hv3, h⟩ := bd_e h
    refine v_callVI C 13 (klC kdC_13) rfl (ckC12 kdC_13 _) rfl [.int (i32 v5), .int (i32 v1), .int (i32 v2)] (mX3_isOnBorder C.2.2.2.2.1 hv3) cd_X3_isOnBorder ic_X3 im_X3_isOnBorder se_X3_isOnBorder ml_X7_223 yk_X3_isOnBorder ⟨rfl, rfl, by decide, by decide⟩ rfl hl.1 (rest := []) rfl (Nat.le_of_ble_eq_true rfl) dX7_within_49 ?_
    have hz4 := (cr_e h).1
    have h := (cr_e h).2
    refine v_if_eq C (tgt := 58) hz4 h dX7_within_52 rfl (fun h => ?_) (fun h => ?_)
    · refine v_iinc C hl (fun x => [(5, .int (i32 x)), (0, .ref (q 0)), (1, .int (i32 v1)), (2, .int (i32 v2)), (4, .ref (q 13))]) dX7_within_58 4 rfl (by decide) (fun _ => rfl) h (fun v5_5 ls hl h => ?_)
      refine v_goto C (tgt := 31) dX7_within_61 rfl ?_
      exact hc31 _ _ (lv_sub hl [1, 2, 3, 4, 0] rfl) h
    · refine v_bipush C dX7_within_55 rfl ?_
      exact v_iret C hr h dX7_within_57
theorem wlX7_within_31 (C : CxC p rmX7_within s m args meth c D ac q xa xv RX7 cX7_within 6) (hr : meth.sig.returnType = (some .int)) {v1 : Int} {v2 : Int} {σ : Mm} {e31 : Option (Int × Mm)} {r : Int × Mm} (he31 : ∀ (ls : Array Slot), lv_has ls 6 [(0, .ref (q 0)), (1, .int (i32 v1)), (2, .int (i32 v2)), (4, .ref (q 13))] → e31 = some r → VC p l e rmX7_within s m args below meth c D ac q (QIC D ac q xa xv below args s r) σ (F0 m 64 ls [])) : ∀ (fu : Nat) (v5 : Int) (ls : Array Slot) (hl : lv_has ls 6 [(0, .ref (q 0)), (1, .int (i32 v1)), (2, .int (i32 v2)), (4, .ref (q 13)), (5, .int (i32 v5))]) (h : lX7_within_31 v1 v2 σ e31 fu v5 = some r), VC p l e rmX7_within s m args below meth c D ac q (QIC D ac q xa xv below args s r) σ (F0 m 31 ls []) := by
  intro fu
  induction fu with
  | zero =>
    intro v5 ls hl h
    have h : none = some r := h
    cases h
  | succ fu ih =>
    intro v5 ls hl h
    exact wX7_within_31 C hr he31 (fun v5 ls hl h => ih v5 ls hl h) hl h
theorem wX7_within_16 (C : CxC p rmX7_within s m args meth c D ac q xa xv RX7 cX7_within 6) (hr : meth.sig.returnType = (some .int)) {σ : Mm} {r : Int × Mm} (hl : lv_has ls 6 [(0, .ref (q 0))]) (h : fX7_within_16 σ = some r) : VC p l e rmX7_within s m args below meth c D ac q (QIC D ac q xa xv below args s r) σ (F0 m 16 ls []) := by
  have h : some ((-1), σ) = some r := h
  refine v_iconst C dX7_within_16 ?_
  exact v_iret C hr h dX7_within_17
theorem mX7_within (hq : QI 175 q) {v1 : Int} {v2 : Int} {v3 : Int} {σ : Mm} {r : Int × Mm} (h : fX7_within v1 v2 v3 σ = some r) : MIC l D ac q xa xv yX7_within cX7_within 6 (some .int) rmX7_within [.ref (q 0), .int (i32 v1), .int (i32 v2), .int (i32 v3)] σ r := by
  refine MI.of hq XC_M (by decide) (Nat.le_of_ble_eq_true rfl) (fun p e s m below meth c ls C hr hl => ?_)
  have hl : lv_has ls 6 [(0, .ref (q 0)), (1, .int (i32 v1)), (2, .int (i32 v2)), (3, .int (i32 v3))] := hl
  have h : bd (fX7_isPlace v1 v2 σ) (fun x_1 => cr x_1 ((if x_1 = 0 then fX7_within_16 σ else bd (fX7_isStage v3 σ) (fun x_3 => cr x_3 ((if x_3 = 0 then fX7_within_16 σ else bd (fX5_sceneAt v3 σ) (fun σ_5 => bindv 0 (fun v5_6 => lX7_within_31 v1 v2 σ_5 (fX7_within_64 v1 v2 σ_5) 400 v5_6)))))))) = some r := h
  refine v_iload_n C hl dX7_within_0 rfl 1 rfl ?_
  refine v_iload_n C hl dX7_within_1 rfl 2 rfl ?_
  obtain ⟨x_1, hv1, h⟩ := bd_e h
  refine v_callSI C [.int (i32 v1), .int (i32 v2)] (mX7_isPlace C.2.2.2.2.1 hv1) cd_X7_isPlace ic_X7 sm_X7_isPlace ml_X7_220 yk_X7_isPlace ⟨rfl, rfl, by decide, by decide⟩ rfl hl.1 (rest := []) rfl (Nat.le_of_ble_eq_true rfl) dX7_within_2 ?_
  have hz2 := (cr_e h).1
  have h := (cr_e h).2
  refine v_if_eq C (tgt := 16) hz2 h dX7_within_5 rfl (fun h => ?_) (fun h => ?_)
  · exact wX7_within_16 C hr (lv_sub hl [0] rfl) h
  · refine v_aload_n C hl dX7_within_8 rfl 0 rfl ?_
    refine v_iload_n C hl dX7_within_9 rfl 3 rfl ?_
    obtain ⟨x_3, hv3, h⟩ := bd_e h
    refine v_callVI C 0 (klC kdC_0) rfl (ckC1 kdC_0 _) rfl [.int (i32 v3)] (mX7_isStage C.2.2.2.2.1 hv3) cd_X7_isStage ic_X7 im_X7_isStage se_X7_isStage ml_X7_160 yk_X7_isStage ⟨rfl, rfl, by decide, by decide⟩ rfl hl.1 (rest := []) rfl (Nat.le_of_ble_eq_true rfl) dX7_within_10 ?_
    have hz4 := (cr_e h).1
    have h := (cr_e h).2
    refine v_if_ne C (tgt := 18) hz4 h dX7_within_13 rfl (fun h => ?_) (fun h => ?_)
    · refine v_aload_n C hl dX7_within_18 rfl 0 rfl ?_
      refine g_X7_6 C kdC_0 fl_X7_50 dX7_within_19 ?_
      refine v_iload_n C hl dX7_within_22 rfl 3 rfl ?_
      obtain ⟨σ_5, hv5, h⟩ := bd_e h
      refine v_callVR C 9 (klC kdC_9) rfl (ckC10 kdC_9 _) rfl [.int (i32 v3)] (mX5_sceneAt C.2.2.2.2.1 hv5) cd_X5_sceneAt ic_X5 im_X5_sceneAt se_X5_sceneAt ml_X7_163 yk_X5_sceneAt ⟨rfl, rfl, by decide, by decide⟩ rfl hl.1 (rest := []) rfl (Nat.le_of_ble_eq_true rfl) dX7_within_23 ?_
      refine v_astore C hl ([(4, .ref (q 13)), (0, .ref (q 0)), (1, .int (i32 v1)), (2, .int (i32 v2)), (3, .int (i32 v3))]) dX7_within_26 (by decide) rfl (fun ls hl => ?_)
      refine v_iconst C dX7_within_28 ?_
      refine v_istore C hl (fun x => [(5, .int (i32 x)), (4, .ref (q 13)), (0, .ref (q 0)), (1, .int (i32 v1)), (2, .int (i32 v2)), (3, .int (i32 v3))]) dX7_within_29 (by decide) (fun _ => rfl) h (fun v5_6 ls hl h => ?_)
      exact wlX7_within_31 C hr (fun ls hl h => wX7_within_64 C hr (lv_sub hl [0, 1, 2, 3] rfl) h) _ _ _ (lv_sub hl [2, 3, 4, 1, 0] rfl) h
    · exact wX7_within_16 C hr (lv_sub hl [0] rfl) h
end
