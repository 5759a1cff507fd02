section
variable {l : Launch} {D : va_G} {ac : Nat → ClassId} {q : Nat → Nat} {p : Program} {e : Env} {s : State} {m : MethodId} {args : Array Value} {below : List Frame} {meth : Method} {c : Code} {ls : Array Slot}
theorem dX8_points_0 : decode cX8_points 0 = .ok (.aload_n 0, 1) := by decide +kernel
theorem dX8_points_1 : decode cX8_points 1 = .ok (.getfield 7, 3) := by decide +kernel
theorem dX8_points_4 : decode cX8_points 4 = .ok (.sipush 138, 3) := by decide +kernel
theorem dX8_points_7 : decode cX8_points 7 = .ok (.iaload, 1) := by decide +kernel
theorem dX8_points_8 : decode cX8_points 8 = .ok (.ireturn, 1) := by decide +kernel
theorem mX8_points (hq : QI 19 q)  {σ : Mm} {r : Int} (h : fX8_points σ = some r) : MIM l D ac q yX8_points cX8_points 1 (some .int) rmX8_points [.ref (q 0)] σ (r, σ) := by
  refine MI.of hq XT_M (by decide) (Nat.le_of_ble_eq_true rfl) (fun p e s m below meth c ls C hr hl => ?_)
  have hl : lv_has ls 1 [(0, .ref (q 0))] := hl
  have h : chk 138 700 (some (σ 1 138)) = some r := h
  refine v_aload_n C hl dX8_points_0 rfl 0 rfl ?_
  refine g_X8_0 C kdM_0 fl_X8_7 dX8_points_1 ?_
  refine v_sipush C dX8_points_4 rfl ?_
  refine alM2 C kdM_1 h dX8_points_7 (fun h => ?_)
  exact v_iret C hr (so1 h) dX8_points_8
end
section
variable {l : Launch} {D : va_G} {ac : Nat → ClassId} {q : Nat → Nat} {p : Program} {e : Env} {s : State} {m : MethodId} {args : Array Value} {below : List Frame} {meth : Method} {c : Code} {ls : Array Slot}
theorem dX8_cornerOf_0 : decode cX8_cornerOf 0 = .ok (.aload_n 0, 1) := by decide +kernel
theorem dX8_cornerOf_1 : decode cX8_cornerOf 1 = .ok (.getfield 7, 3) := by decide +kernel
theorem dX8_cornerOf_4 : decode cX8_cornerOf 4 = .ok (.iload_n 1, 1) := by decide +kernel
theorem dX8_cornerOf_5 : decode cX8_cornerOf 5 = .ok (.bipush 72, 2) := by decide +kernel
theorem dX8_cornerOf_7 : decode cX8_cornerOf 7 = .ok (.iadd, 1) := by decide +kernel
theorem dX8_cornerOf_8 : decode cX8_cornerOf 8 = .ok (.bipush 10, 2) := by decide +kernel
theorem dX8_cornerOf_10 : decode cX8_cornerOf 10 = .ok (.iload_n 2, 1) := by decide +kernel
theorem dX8_cornerOf_11 : decode cX8_cornerOf 11 = .ok (.imul, 1) := by decide +kernel
theorem dX8_cornerOf_12 : decode cX8_cornerOf 12 = .ok (.iadd, 1) := by decide +kernel
theorem dX8_cornerOf_13 : decode cX8_cornerOf 13 = .ok (.iload_n 3, 1) := by decide +kernel
theorem dX8_cornerOf_14 : decode cX8_cornerOf 14 = .ok (.aload_n 0, 1) := by decide +kernel
theorem dX8_cornerOf_15 : decode cX8_cornerOf 15 = .ok (.getfield 7, 3) := by decide +kernel
theorem dX8_cornerOf_18 : decode cX8_cornerOf 18 = .ok (.iload_n 1, 1) := by decide +kernel
theorem dX8_cornerOf_19 : decode cX8_cornerOf 19 = .ok (.sipush 132, 3) := by decide +kernel
theorem dX8_cornerOf_22 : decode cX8_cornerOf 22 = .ok (.iadd, 1) := by decide +kernel
theorem dX8_cornerOf_23 : decode cX8_cornerOf 23 = .ok (.iload_n 2, 1) := by decide +kernel
theorem dX8_cornerOf_24 : decode cX8_cornerOf 24 = .ok (.iadd, 1) := by decide +kernel
theorem dX8_cornerOf_25 : decode cX8_cornerOf 25 = .ok (.iaload, 1) := by decide +kernel
theorem dX8_cornerOf_26 : decode cX8_cornerOf 26 = .ok (.irem, 1) := by decide +kernel
theorem dX8_cornerOf_27 : decode cX8_cornerOf 27 = .ok (.iadd, 1) := by decide +kernel
theorem dX8_cornerOf_28 : decode cX8_cornerOf 28 = .ok (.iaload, 1) := by decide +kernel
theorem dX8_cornerOf_29 : decode cX8_cornerOf 29 = .ok (.ireturn, 1) := by decide +kernel
theorem mX8_cornerOf (hq : QI 19 q) {v1 : Int} {v2 : Int} {v3 : Int} {σ : Mm} {r : Int} (h : fX8_cornerOf v1 v2 v3 σ = some r) : MIM l D ac q yX8_cornerOf cX8_cornerOf 4 (some .int) rmX8_cornerOf [.ref (q 0), .int (i32 v1), .int (i32 v2), .int (i32 v3)] σ (r, σ) := by
  refine MI.of hq XT_M (by decide) (Nat.le_of_ble_eq_true rfl) (fun p e s m below meth c ls C hr hl => ?_)
  have hl : lv_has ls 4 [(0, .ref (q 0)), (1, .int (i32 v1)), (2, .int (i32 v2)), (3, .int (i32 v3))] := hl
  have h : chk ((v1 + 132) + v2) 700 (chd v3 (σ 1 ((v1 + 132) + v2).toNat) (chk (((v1 + 72) + (10 * v2)) + (v3 % (σ 1 ((v1 + 132) + v2).toNat))) 700 (some (σ 1 (((v1 + 72) + (10 * v2)) + (v3 % (σ 1 ((v1 + 132) + v2).toNat))).toNat)))) = some r := h
  refine v_aload_n C hl dX8_cornerOf_0 rfl 0 rfl ?_
  refine g_X8_0 C kdM_0 fl_X8_7 dX8_cornerOf_1 ?_
  refine v_iload_n C hl dX8_cornerOf_4 rfl 1 rfl ?_
  refine v_bipush C dX8_cornerOf_5 rfl ?_
  refine v_iadd C dX8_cornerOf_7 ?_
  refine v_bipush C dX8_cornerOf_8 rfl ?_
  refine v_iload_n C hl dX8_cornerOf_10 rfl 2 rfl ?_
  refine v_imul C dX8_cornerOf_11 ?_
  refine v_iadd C dX8_cornerOf_12 ?_
  refine v_iload_n C hl dX8_cornerOf_13 rfl 3 rfl ?_
  refine v_aload_n C hl dX8_cornerOf_14 rfl 0 rfl ?_
  refine g_X8_0 C kdM_0 fl_X8_7 dX8_cornerOf_15 ?_
  refine v_iload_n C hl dX8_cornerOf_18 rfl 1 rfl ?_
  refine v_sipush C dX8_cornerOf_19 rfl ?_
  refine v_iadd C dX8_cornerOf_22 ?_
  refine v_iload_n C hl dX8_cornerOf_23 rfl 2 rfl ?_
  refine v_iadd C dX8_cornerOf_24 ?_
  refine alM2 C kdM_1 h dX8_cornerOf_25 (fun h => ?_)
  refine v_irem C h dX8_cornerOf_26 (fun h => ?_)
  refine v_iadd C dX8_cornerOf_27 ?_
  refine alM2 C kdM_1 h dX8_cornerOf_28 (fun h => ?_)
  exact v_iret C hr (so1 h) dX8_cornerOf_29
end
section
variable {l : Launch} {D : va_G} {ac : Nat → ClassId} {q : Nat → Nat} {p : Program} {e : Env} {s : State} {m : MethodId} {args : Array Value} {below : List Frame} {meth : Method} {c : Code} {ls : Array Slot}
theorem dX8_edgesOf_0 : decode cX8_edgesOf 0 = .ok (.iconst 0, 1) := by decide +kernel
theorem dX8_edgesOf_1 : decode cX8_edgesOf 1 = .ok (.istore 4, 2) := by decide +kernel
theorem dX8_edgesOf_3 : decode cX8_edgesOf 3 = .ok (.iconst 0, 1) := by decide +kernel
theorem dX8_edgesOf_4 : decode cX8_edgesOf 4 = .ok (.istore 5, 2) := by decide +kernel
theorem dX8_edgesOf_6 : decode cX8_edgesOf 6 = .ok (.iload 5, 2) := by decide +kernel
theorem dX8_edgesOf_8 : decode cX8_edgesOf 8 = .ok (.aload_n 0, 1) := by decide +kernel
theorem dX8_edgesOf_9 : decode cX8_edgesOf 9 = .ok (.getfield 7, 3) := by decide +kernel
theorem dX8_edgesOf_12 : decode cX8_edgesOf 12 = .ok (.iload_n 1, 1) := by decide +kernel
theorem dX8_edgesOf_13 : decode cX8_edgesOf 13 = .ok (.sipush 139, 3) := by decide +kernel
theorem dX8_edgesOf_16 : decode cX8_edgesOf 16 = .ok (.iadd, 1) := by decide +kernel
theorem dX8_edgesOf_17 : decode cX8_edgesOf 17 = .ok (.iaload, 1) := by decide +kernel
theorem dX8_edgesOf_18 : decode cX8_edgesOf 18 = .ok (.if_icmp .ge 94, 3) := by decide +kernel
theorem dX8_edgesOf_21 : decode cX8_edgesOf 21 = .ok (.iconst 0, 1) := by decide +kernel
theorem dX8_edgesOf_22 : decode cX8_edgesOf 22 = .ok (.istore 6, 2) := by decide +kernel
theorem dX8_edgesOf_24 : decode cX8_edgesOf 24 = .ok (.iload 6, 2) := by decide +kernel
theorem dX8_edgesOf_26 : decode cX8_edgesOf 26 = .ok (.aload_n 0, 1) := by decide +kernel
theorem dX8_edgesOf_27 : decode cX8_edgesOf 27 = .ok (.getfield 7, 3) := by decide +kernel
theorem dX8_edgesOf_30 : decode cX8_edgesOf 30 = .ok (.iload_n 1, 1) := by decide +kernel
theorem dX8_edgesOf_31 : decode cX8_edgesOf 31 = .ok (.sipush 132, 3) := by decide +kernel
theorem dX8_edgesOf_34 : decode cX8_edgesOf 34 = .ok (.iadd, 1) := by decide +kernel
theorem dX8_edgesOf_35 : decode cX8_edgesOf 35 = .ok (.iload 5, 2) := by decide +kernel
theorem dX8_edgesOf_37 : decode cX8_edgesOf 37 = .ok (.iadd, 1) := by decide +kernel
theorem dX8_edgesOf_38 : decode cX8_edgesOf 38 = .ok (.iaload, 1) := by decide +kernel
theorem dX8_edgesOf_39 : decode cX8_edgesOf 39 = .ok (.if_icmp .ge 67, 3) := by decide +kernel
theorem dX8_edgesOf_42 : decode cX8_edgesOf 42 = .ok (.aload_n 0, 1) := by decide +kernel
theorem dX8_edgesOf_43 : decode cX8_edgesOf 43 = .ok (.iload_n 1, 1) := by decide +kernel
theorem dX8_edgesOf_44 : decode cX8_edgesOf 44 = .ok (.iload 5, 2) := by decide +kernel
theorem dX8_edgesOf_46 : decode cX8_edgesOf 46 = .ok (.iload 6, 2) := by decide +kernel
theorem dX8_edgesOf_48 : decode cX8_edgesOf 48 = .ok (.invokevirtual 168, 3) := by decide +kernel
theorem dX8_edgesOf_51 : decode cX8_edgesOf 51 = .ok (.istore 7, 2) := by decide +kernel
theorem dX8_edgesOf_53 : decode cX8_edgesOf 53 = .ok (.aload_n 0, 1) := by decide +kernel
theorem dX8_edgesOf_54 : decode cX8_edgesOf 54 = .ok (.iload_n 1, 1) := by decide +kernel
theorem dX8_edgesOf_55 : decode cX8_edgesOf 55 = .ok (.iload 5, 2) := by decide +kernel
theorem dX8_edgesOf_57 : decode cX8_edgesOf 57 = .ok (.iload 6, 2) := by decide +kernel
theorem dX8_edgesOf_59 : decode cX8_edgesOf 59 = .ok (.iconst 1, 1) := by decide +kernel
theorem dX8_edgesOf_60 : decode cX8_edgesOf 60 = .ok (.iadd, 1) := by decide +kernel
theorem dX8_edgesOf_61 : decode cX8_edgesOf 61 = .ok (.invokevirtual 168, 3) := by decide +kernel
theorem dX8_edgesOf_64 : decode cX8_edgesOf 64 = .ok (.istore 8, 2) := by decide +kernel
theorem dX8_edgesOf_66 : decode cX8_edgesOf 66 = .ok (.iload 4, 2) := by decide +kernel
theorem dX8_edgesOf_68 : decode cX8_edgesOf 68 = .ok (.iload 7, 2) := by decide +kernel
theorem dX8_edgesOf_70 : decode cX8_edgesOf 70 = .ok (.iload_n 2, 1) := by decide +kernel
theorem dX8_edgesOf_71 : decode cX8_edgesOf 71 = .ok (.if_icmp .ne 9, 3) := by decide +kernel
theorem dX8_edgesOf_74 : decode cX8_edgesOf 74 = .ok (.iload 8, 2) := by decide +kernel
theorem dX8_edgesOf_76 : decode cX8_edgesOf 76 = .ok (.iload_n 3, 1) := by decide +kernel
theorem dX8_edgesOf_77 : decode cX8_edgesOf 77 = .ok (.if_icmp .eq 15, 3) := by decide +kernel
theorem dX8_edgesOf_80 : decode cX8_edgesOf 80 = .ok (.iload 7, 2) := by decide +kernel
theorem dX8_edgesOf_82 : decode cX8_edgesOf 82 = .ok (.iload_n 3, 1) := by decide +kernel
theorem dX8_edgesOf_83 : decode cX8_edgesOf 83 = .ok (.if_icmp .ne 13, 3) := by decide +kernel
theorem dX8_edgesOf_86 : decode cX8_edgesOf 86 = .ok (.iload 8, 2) := by decide +kernel
theorem dX8_edgesOf_88 : decode cX8_edgesOf 88 = .ok (.iload_n 2, 1) := by decide +kernel
theorem dX8_edgesOf_89 : decode cX8_edgesOf 89 = .ok (.if_icmp .ne 7, 3) := by decide +kernel
theorem dX8_edgesOf_92 : decode cX8_edgesOf 92 = .ok (.iconst 1, 1) := by decide +kernel
theorem dX8_edgesOf_93 : decode cX8_edgesOf 93 = .ok (.goto 4, 3) := by decide +kernel
theorem dX8_edgesOf_96 : decode cX8_edgesOf 96 = .ok (.iconst 0, 1) := by decide +kernel
theorem dX8_edgesOf_97 : decode cX8_edgesOf 97 = .ok (.iadd, 1) := by decide +kernel
theorem dX8_edgesOf_98 : decode cX8_edgesOf 98 = .ok (.istore 4, 2) := by decide +kernel
theorem dX8_edgesOf_100 : decode cX8_edgesOf 100 = .ok (.iinc 6 1, 3) := by decide +kernel
theorem dX8_edgesOf_103 : decode cX8_edgesOf 103 = .ok (.goto (-79), 3) := by decide +kernel
theorem dX8_edgesOf_106 : decode cX8_edgesOf 106 = .ok (.iinc 5 1, 3) := by decide +kernel
theorem dX8_edgesOf_109 : decode cX8_edgesOf 109 = .ok (.goto (-103), 3) := by decide +kernel
theorem dX8_edgesOf_112 : decode cX8_edgesOf 112 = .ok (.iload 4, 2) := by decide +kernel
theorem dX8_edgesOf_114 : decode cX8_edgesOf 114 = .ok (.ireturn, 1) := by decide +kernel
theorem wX8_edgesOf_112 (C : CxM p rmX8_edgesOf s m args meth c D ac q RX8 cX8_edgesOf 9) (hr : meth.sig.returnType = (some .int)) {v4 : Int} {σ : Mm} {r : Int} (hl : lv_has ls 9 [(0, .ref (q 0)), (4, .int (i32 v4))]) (h : fX8_edgesOf_112 v4 σ = some r) : VM p l e rmX8_edgesOf s m args below meth c D ac q (QIM D ac q below args s (r, σ)) σ (F0 m 112 ls []) := by
  have h : some v4 = some r := h
  refine v_iload C hl dX8_edgesOf_112 1 rfl ?_
  exact v_iret C hr (so1 h) dX8_edgesOf_114
theorem wX8_edgesOf_106 (C : CxM p rmX8_edgesOf s m args meth c D ac q RX8 cX8_edgesOf 9) (hr : meth.sig.returnType = (some .int)) {v1 : Int} {v2 : Int} {v3 : Int} {v4 : Int} {v5 : Int} {c6 : Int → Int → Option (Int)} {σ : Mm} {r : Int} (hc6 : ∀ (v4x : Int) (v5x : Int) (ls : Array Slot), lv_has ls 9 [(0, .ref (q 0)), (1, .int (i32 v1)), (2, .int (i32 v2)), (3, .int (i32 v3)), (4, .int (i32 v4x)), (5, .int (i32 v5x))] → c6 v4x v5x = some r → VM p l e rmX8_edgesOf s m args below meth c D ac q (QIM D ac q below args s (r, σ)) σ (F0 m 6 ls [])) (hl : lv_has ls 9 [(0, .ref (q 0)), (1, .int (i32 v1)), (2, .int (i32 v2)), (3, .int (i32 v3)), (4, .int (i32 v4)), (5, .int (i32 v5))]) (h : fX8_edgesOf_106 c6 v1 v2 v3 v4 v5 σ = some r) : VM p l e rmX8_edgesOf s m args below meth c D ac q (QIM D ac q below args s (r, σ)) σ (F0 m 106 ls []) := by
  have h : bindv (v5 + 1) (fun v5_1 => c6 v4 v5_1) = some r := h
  refine v_iinc C hl (fun x => [(5, .int (i32 x)), (0, .ref (q 0)), (1, .int (i32 v1)), (2, .int (i32 v2)), (3, .int (i32 v3)), (4, .int (i32 v4))]) dX8_edgesOf_106 5 rfl (by decide) (fun _ => rfl) h (fun v5_1 ls hl h => ?_)
  refine v_goto C (tgt := 6) dX8_edgesOf_109 rfl ?_
  exact hc6 _ _ _ (lv_sub hl [1, 2, 3, 4, 5, 0] rfl) h
theorem wX8_edgesOf_97 (C : CxM p rmX8_edgesOf s m args meth c D ac q RX8 cX8_edgesOf 9) (hr : meth.sig.returnType = (some .int)) {v1 : Int} {v2 : Int} {v3 : Int} {v5 : Int} {v6 : Int} {t0 : Int} {t1 : Int} {c24 : Int → Int → Option (Int)} {σ : Mm} {r : Int} (hc24 : ∀ (v4x : Int) (v6x : Int) (ls : Array Slot), lv_has ls 9 [(0, .ref (q 0)), (1, .int (i32 v1)), (2, .int (i32 v2)), (3, .int (i32 v3)), (4, .int (i32 v4x)), (5, .int (i32 v5)), (6, .int (i32 v6x))] → c24 v4x v6x = some r → VM p l e rmX8_edgesOf s m args below meth c D ac q (QIM D ac q below args s (r, σ)) σ (F0 m 24 ls [])) (hl : lv_has ls 9 [(0, .ref (q 0)), (1, .int (i32 v1)), (2, .int (i32 v2)), (3, .int (i32 v3)), (5, .int (i32 v5)), (6, .int (i32 v6))]) (h : fX8_edgesOf_97 c24 v1 v2 v3 v5 v6 t0 t1 σ = some r) : VM p l e rmX8_edgesOf s m args below meth c D ac q (QIM D ac q below args s (r, σ)) σ (F0 m 97 ls [.int (i32 t1), .int (i32 t0)]) := by
  have h : bindv (t0 + t1) (fun v4_1 => bindv (v6 + 1) (fun v6_2 => c24 v4_1 v6_2)) = some r := h
  refine v_iadd C dX8_edgesOf_97 ?_
  refine v_istore C hl (fun x => [(4, .int (i32 x)), (0, .ref (q 0)), (1, .int (i32 v1)), (2, .int (i32 v2)), (3, .int (i32 v3)), (5, .int (i32 v5)), (6, .int (i32 v6))]) dX8_edgesOf_98 (by decide) (fun _ => rfl) h (fun v4_1 ls hl h => ?_)
  refine v_iinc C hl (fun x => [(6, .int (i32 x)), (4, .int (i32 v4_1)), (0, .ref (q 0)), (1, .int (i32 v1)), (2, .int (i32 v2)), (3, .int (i32 v3)), (5, .int (i32 v5))]) dX8_edgesOf_100 6 rfl (by decide) (fun _ => rfl) h (fun v6_2 ls hl h => ?_)
  refine v_goto C (tgt := 24) dX8_edgesOf_103 rfl ?_
  exact hc24 _ _ _ (lv_sub hl [2, 3, 4, 5, 1, 6, 0] rfl) h
theorem wX8_edgesOf_96 (C : CxM p rmX8_edgesOf s m args meth c D ac q RX8 cX8_edgesOf 9) (hr : meth.sig.returnType = (some .int)) {v1 : Int} {v2 : Int} {v3 : Int} {v5 : Int} {v6 : Int} {t0 : Int} {c24 : Int → Int → Option (Int)} {σ : Mm} {r : Int} (hc24 : ∀ (v4x : Int) (v6x : Int) (ls : Array Slot), lv_has ls 9 [(0, .ref (q 0)), (1, .int (i32 v1)), (2, .int (i32 v2)), (3, .int (i32 v3)), (4, .int (i32 v4x)), (5, .int (i32 v5)), (6, .int (i32 v6x))] → c24 v4x v6x = some r → VM p l e rmX8_edgesOf s m args below meth c D ac q (QIM D ac q below args s (r, σ)) σ (F0 m 24 ls [])) (hl : lv_has ls 9 [(0, .ref (q 0)), (1, .int (i32 v1)), (2, .int (i32 v2)), (3, .int (i32 v3)), (5, .int (i32 v5)), (6, .int (i32 v6))]) (h : fX8_edgesOf_96 c24 v1 v2 v3 v5 v6 t0 σ = some r) : VM p l e rmX8_edgesOf s m args below meth c D ac q (QIM D ac q below args s (r, σ)) σ (F0 m 96 ls [.int (i32 t0)]) := by
  have h : fX8_edgesOf_97 c24 v1 v2 v3 v5 v6 t0 0 σ = some r := h
  refine v_iconst C dX8_edgesOf_96 ?_
  exact wX8_edgesOf_97 C hr hc24 (lv_sub hl [0, 1, 2, 3, 4, 5] rfl) h
theorem wX8_edgesOf_92 (C : CxM p rmX8_edgesOf s m args meth c D ac q RX8 cX8_edgesOf 9) (hr : meth.sig.returnType = (some .int)) {v1 : Int} {v2 : Int} {v3 : Int} {v5 : Int} {v6 : Int} {t0 : Int} {c24 : Int → Int → Option (Int)} {σ : Mm} {r : Int} (hc24 : ∀ (v4x : Int) (v6x : Int) (ls : Array Slot), lv_has ls 9 [(0, .ref (q 0)), (1, .int (i32 v1)), (2, .int (i32 v2)), (3, .int (i32 v3)), (4, .int (i32 v4x)), (5, .int (i32 v5)), (6, .int (i32 v6x))] → c24 v4x v6x = some r → VM p l e rmX8_edgesOf s m args below meth c D ac q (QIM D ac q below args s (r, σ)) σ (F0 m 24 ls [])) (hl : lv_has ls 9 [(0, .ref (q 0)), (1, .int (i32 v1)), (2, .int (i32 v2)), (3, .int (i32 v3)), (5, .int (i32 v5)), (6, .int (i32 v6))]) (h : fX8_edgesOf_92 c24 v1 v2 v3 v5 v6 t0 σ = some r) : VM p l e rmX8_edgesOf s m args below meth c D ac q (QIM D ac q below args s (r, σ)) σ (F0 m 92 ls [.int (i32 t0)]) := by
  have h : fX8_edgesOf_97 c24 v1 v2 v3 v5 v6 t0 1 σ = some r := h
  refine v_iconst C dX8_edgesOf_92 ?_
  refine v_goto C (tgt := 97) dX8_edgesOf_93 rfl ?_
  exact wX8_edgesOf_97 C hr hc24 (lv_sub hl [0, 1, 2, 3, 4, 5] rfl) h
theorem wX8_edgesOf_80 (C : CxM p rmX8_edgesOf s m args meth c D ac q RX8 cX8_edgesOf 9) (hr : meth.sig.returnType = (some .int)) {v1 : Int} {v2 : Int} {v3 : Int} {v5 : Int} {v6 : Int} {v7 : Int} {v8 : Int} {t0 : Int} {c24 : Int → Int → Option (Int)} {σ : Mm} {r : Int} (hc24 : ∀ (v4x : Int) (v6x : Int) (ls : Array Slot), lv_has ls 9 [(0, .ref (q 0)), (1, .int (i32 v1)), (2, .int (i32 v2)), (3, .int (i32 v3)), (4, .int (i32 v4x)), (5, .int (i32 v5)), (6, .int (i32 v6x))] → c24 v4x v6x = some r → VM p l e rmX8_edgesOf s m args below meth c D ac q (QIM D ac q below args s (r, σ)) σ (F0 m 24 ls [])) (hl : lv_has ls 9 [(0, .ref (q 0)), (1, .int (i32 v1)), (2, .int (i32 v2)), (3, .int (i32 v3)), (5, .int (i32 v5)), (6, .int (i32 v6)), (7, .int (i32 v7)), (8, .int (i32 v8))]) (h : fX8_edgesOf_80 c24 v1 v2 v3 v5 v6 v7 v8 t0 σ = some r) : VM p l e rmX8_edgesOf s m args below meth c D ac q (QIM D ac q below args s (r, σ)) σ (F0 m 80 ls [.int (i32 t0)]) := by
  have h : cr v7 (cr v3 ((if v7 = v3 then cr v8 (cr v2 ((if v8 = v2 then fX8_edgesOf_92 c24 v1 v2 v3 v5 v6 t0 σ else fX8_edgesOf_96 c24 v1 v2 v3 v5 v6 t0 σ))) else fX8_edgesOf_96 c24 v1 v2 v3 v5 v6 t0 σ))) = some r := h
  refine v_iload C hl dX8_edgesOf_80 6 rfl ?_
  refine v_iload_n C hl dX8_edgesOf_82 rfl 3 rfl ?_
  have hz1 := (cr_e h).1
  have h := (cr_e h).2
  have hz2 := (cr_e h).1
  have h := (cr_e h).2
  refine v_icmp_ne C (tgt := 96) hz1 hz2 h dX8_edgesOf_83 rfl (fun h => ?_) (fun h => ?_)
  · exact wX8_edgesOf_96 C hr hc24 (lv_sub hl [0, 1, 2, 3, 4, 5] rfl) h
  · refine v_iload C hl dX8_edgesOf_86 7 rfl ?_
    refine v_iload_n C hl dX8_edgesOf_88 rfl 2 rfl ?_
    have hz3 := (cr_e h).1
    have h := (cr_e h).2
    have hz4 := (cr_e h).1
    have h := (cr_e h).2
    refine v_icmp_ne C (tgt := 96) hz3 hz4 h dX8_edgesOf_89 rfl (fun h => ?_) (fun h => ?_)
    · exact wX8_edgesOf_96 C hr hc24 (lv_sub hl [0, 1, 2, 3, 4, 5] rfl) h
    · exact wX8_edgesOf_92 C hr hc24 (lv_sub hl [0, 1, 2, 3, 4, 5] rfl) h
theorem wX8_edgesOf_24 (C : CxM p rmX8_edgesOf s m args meth c D ac q RX8 cX8_edgesOf 9) (hr : meth.sig.returnType = (some .int)) {v1 : Int} {v2 : Int} {v3 : Int} {v5 : Int} {σ : Mm} {v4 : Int} {v6 : Int} {e24 : Int → Option (Int)} {c24 : Int → Int → Option (Int)} {r : Int} (he24 : ∀ (v4x : Int) (ls : Array Slot), lv_has ls 9 [(0, .ref (q 0)), (1, .int (i32 v1)), (2, .int (i32 v2)), (3, .int (i32 v3)), (4, .int (i32 v4x)), (5, .int (i32 v5))] → e24 v4x = some r → VM p l e rmX8_edgesOf s m args below meth c D ac q (QIM D ac q below args s (r, σ)) σ (F0 m 106 ls [])) (hc24 : ∀ (v4x : Int) (v6x : Int) (ls : Array Slot), lv_has ls 9 [(0, .ref (q 0)), (1, .int (i32 v1)), (2, .int (i32 v2)), (3, .int (i32 v3)), (4, .int (i32 v4x)), (5, .int (i32 v5)), (6, .int (i32 v6x))] → c24 v4x v6x = some r → VM p l e rmX8_edgesOf s m args below meth c D ac q (QIM D ac q below args s (r, σ)) σ (F0 m 24 ls [])) (hl : lv_has ls 9 [(0, .ref (q 0)), (1, .int (i32 v1)), (2, .int (i32 v2)), (3, .int (i32 v3)), (4, .int (i32 v4)), (5, .int (i32 v5)), (6, .int (i32 v6))]) (h : fX8_edgesOf_24 v1 v2 v3 v5 σ e24 c24 v4 v6 = some r) : VM p l e rmX8_edgesOf s m args below meth c D ac q (QIM D ac q below args s (r, σ)) σ (F0 m 24 ls []) := by
  have h : chk ((v1 + 132) + v5) 700 (cr v6 (cr (σ 1 ((v1 + 132) + v5).toNat) ((if v6 < σ 1 ((v1 + 132) + v5).toNat then bd (fX8_cornerOf v1 v5 v6 σ) (fun x_3 => bindv x_3 (fun v7_4 => bd (fX8_cornerOf v1 v5 (v6 + 1) σ) (fun x_5 => bindv x_5 (fun v8_6 => cr v7_4 (cr v2 ((if v7_4 = v2 then cr v8_6 (cr v3 ((if v8_6 = v3 then fX8_edgesOf_92 c24 v1 v2 v3 v5 v6 v4 σ else fX8_edgesOf_80 c24 v1 v2 v3 v5 v6 v7_4 v8_6 v4 σ))) else fX8_edgesOf_80 c24 v1 v2 v3 v5 v6 v7_4 v8_6 v4 σ))))))) else e24 v4)))) = some r := h
  refine v_iload C hl dX8_edgesOf_24 6 rfl ?_
  refine v_aload_n C hl dX8_edgesOf_26 rfl 0 rfl ?_
  refine g_X8_0 C kdM_0 fl_X8_7 dX8_edgesOf_27 ?_
  refine v_iload_n C hl dX8_edgesOf_30 rfl 1 rfl ?_
  refine v_sipush C dX8_edgesOf_31 rfl ?_
  refine v_iadd C dX8_edgesOf_34 ?_
  refine v_iload C hl dX8_edgesOf_35 5 rfl ?_
  refine v_iadd C dX8_edgesOf_37 ?_
  refine alM2 C kdM_1 h dX8_edgesOf_38 (fun h => ?_)
  have hz1 := (cr_e h).1
  have h := (cr_e h).2
  have hz2 := (cr_e h).1
  have h := (cr_e h).2
  refine v_icmp_ge C (tgt := 106) hz1 hz2 h dX8_edgesOf_39 rfl (fun h => ?_) (fun h => ?_)
  · exact he24 _ _ (lv_sub hl [0, 1, 2, 3, 4, 5] rfl) h
  · refine v_aload_n C hl dX8_edgesOf_42 rfl 0 rfl ?_
    refine v_iload_n C hl dX8_edgesOf_43 rfl 1 rfl ?_
    refine v_iload C hl dX8_edgesOf_44 5 rfl ?_
    refine v_iload C hl dX8_edgesOf_46 6 rfl ?_
    obtain ⟨x_3, hv3, h⟩ := bd_e h
    refine v_callVI C 0 (klM kdM_0) rfl (ckM1 kdM_0 _) rfl [.int (i32 v1), .int (i32 v5), .int (i32 v6)] (mX8_cornerOf C.2.2.2.2.1 hv3) cd_X8_cornerOf ic_X8 im_X8_cornerOf se_X8_cornerOf ml_X8_168 yk_X8_cornerOf ⟨rfl, rfl, by decide, by decide⟩ rfl hl.1 (rest := []) rfl (Nat.le_of_ble_eq_true rfl) dX8_edgesOf_48 ?_
    refine v_istore C hl (fun x => [(7, .int (i32 x)), (0, .ref (q 0)), (1, .int (i32 v1)), (2, .int (i32 v2)), (3, .int (i32 v3)), (4, .int (i32 v4)), (5, .int (i32 v5)), (6, .int (i32 v6))]) dX8_edgesOf_51 (by decide) (fun _ => rfl) h (fun v7_4 ls hl h => ?_)
    refine v_aload_n C hl dX8_edgesOf_53 rfl 1 rfl ?_
    refine v_iload_n C hl dX8_edgesOf_54 rfl 2 rfl ?_
    refine v_iload C hl dX8_edgesOf_55 6 rfl ?_
    refine v_iload C hl dX8_edgesOf_57 7 rfl ?_
    refine v_iconst C dX8_edgesOf_59 ?_
    refine v_iadd C dX8_edgesOf_60 ?_
    obtain ⟨x_5, hv5, h⟩ := bd_e h
    refine v_callVI C 0 (klM kdM_0) rfl (ckM1 kdM_0 _) rfl [.int (i32 v1), .int (i32 v5), .int (i32 (v6 + 1))] (mX8_cornerOf C.2.2.2.2.1 hv5) cd_X8_cornerOf ic_X8 im_X8_cornerOf se_X8_cornerOf ml_X8_168 yk_X8_cornerOf ⟨rfl, rfl, by decide, by decide⟩ rfl hl.1 (rest := []) rfl (Nat.le_of_ble_eq_true rfl) dX8_edgesOf_61 ?_
    refine v_istore C hl (fun x => [(8, .int (i32 x)), (7, .int (i32 v7_4)), (0, .ref (q 0)), (1, .int (i32 v1)), (2, .int (i32 v2)), (3, .int (i32 v3)), (4, .int (i32 v4)), (5, .int (i32 v5)), (6, .int (i32 v6))]) dX8_edgesOf_64 (by decide) (fun _ => rfl) h (fun v8_6 ls hl h => ?_)
    refine v_iload C hl dX8_edgesOf_66 6 rfl ?_
    refine v_iload C hl dX8_edgesOf_68 1 rfl ?_
    refine v_iload_n C hl dX8_edgesOf_70 rfl 4 rfl ?_
    have hz7 := (cr_e h).1
    have h := (cr_e h).2
    have hz8 := (cr_e h).1
    have h := (cr_e h).2
    refine v_icmp_ne C (tgt := 80) hz7 hz8 h dX8_edgesOf_71 rfl (fun h => ?_) (fun h => ?_)
    · exact wX8_edgesOf_80 C hr hc24 (lv_sub hl [2, 3, 4, 5, 7, 8, 1, 0] rfl) h
    · refine v_iload C hl dX8_edgesOf_74 0 rfl ?_
      refine v_iload_n C hl dX8_edgesOf_76 rfl 5 rfl ?_
      have hz9 := (cr_e h).1
      have h := (cr_e h).2
      have hz10 := (cr_e h).1
      have h := (cr_e h).2
      refine v_icmp_eq C (tgt := 92) hz9 hz10 h dX8_edgesOf_77 rfl (fun h => ?_) (fun h => ?_)
      · exact wX8_edgesOf_92 C hr hc24 (lv_sub hl [2, 3, 4, 5, 7, 8] rfl) h
      · exact wX8_edgesOf_80 C hr hc24 (lv_sub hl [2, 3, 4, 5, 7, 8, 1, 0] rfl) h
theorem wlX8_edgesOf_24 (C : CxM p rmX8_edgesOf s m args meth c D ac q RX8 cX8_edgesOf 9) (hr : meth.sig.returnType = (some .int)) {v1 : Int} {v2 : Int} {v3 : Int} {v5 : Int} {σ : Mm} {e24 : Int → Option (Int)} {r : Int} (he24 : ∀ (v4x : Int) (ls : Array Slot), lv_has ls 9 [(0, .ref (q 0)), (1, .int (i32 v1)), (2, .int (i32 v2)), (3, .int (i32 v3)), (4, .int (i32 v4x)), (5, .int (i32 v5))] → e24 v4x = some r → VM p l e rmX8_edgesOf s m args below meth c D ac q (QIM D ac q below args s (r, σ)) σ (F0 m 106 ls [])) : ∀ (fu : Nat) (v4 : Int) (v6 : Int) (ls : Array Slot) (hl : lv_has ls 9 [(0, .ref (q 0)), (1, .int (i32 v1)), (2, .int (i32 v2)), (3, .int (i32 v3)), (4, .int (i32 v4)), (5, .int (i32 v5)), (6, .int (i32 v6))]) (h : lX8_edgesOf_24 v1 v2 v3 v5 σ e24 fu v4 v6 = some r), VM p l e rmX8_edgesOf s m args below meth c D ac q (QIM D ac q below args s (r, σ)) σ (F0 m 24 ls []) := by
  intro fu
  induction fu with
  | zero =>
    intro v4 v6 ls hl h
    have h : none = some r := h
    cases h
  | succ fu ih =>
    intro v4 v6 ls hl h
    exact wX8_edgesOf_24 C hr he24 (fun v4 v6 ls hl h => ih v4 v6 ls hl h) hl h
theorem wX8_edgesOf_6 (C : CxM p rmX8_edgesOf s m args meth c D ac q RX8 cX8_edgesOf 9) (hr : meth.sig.returnType = (some .int)) {v1 : Int} {v2 : Int} {v3 : Int} {σ : Mm} {v4 : Int} {v5 : Int} {e6 : Int → Option (Int)} {c6 : Int → Int → Option (Int)} {r : Int} (he6 : ∀ (v4x : Int) (ls : Array Slot), lv_has ls 9 [(0, .ref (q 0)), (4, .int (i32 v4x))] → e6 v4x = some r → VM p l e rmX8_edgesOf s m args below meth c D ac q (QIM D ac q below args s (r, σ)) σ (F0 m 112 ls [])) (hc6 : ∀ (v4x : Int) (v5x : Int) (ls : Array Slot), lv_has ls 9 [(0, .ref (q 0)), (1, .int (i32 v1)), (2, .int (i32 v2)), (3, .int (i32 v3)), (4, .int (i32 v4x)), (5, .int (i32 v5x))] → c6 v4x v5x = some r → VM p l e rmX8_edgesOf s m args below meth c D ac q (QIM D ac q below args s (r, σ)) σ (F0 m 6 ls [])) (hl : lv_has ls 9 [(0, .ref (q 0)), (1, .int (i32 v1)), (2, .int (i32 v2)), (3, .int (i32 v3)), (4, .int (i32 v4)), (5, .int (i32 v5))]) (h : fX8_edgesOf_6 v1 v2 v3 σ e6 c6 v4 v5 = some r) : VM p l e rmX8_edgesOf s m args below meth c D ac q (QIM D ac q below args s (r, σ)) σ (F0 m 6 ls []) := by
  have h : chk (v1 + 139) 700 (cr v5 (cr (σ 1 (v1 + 139).toNat) ((if v5 < σ 1 (v1 + 139).toNat then bindv 0 (fun v6_3 => lX8_edgesOf_24 v1 v2 v3 v5 σ (fun v4_4 => fX8_edgesOf_106 c6 v1 v2 v3 v4_4 v5 σ) 400 v4 v6_3) else e6 v4)))) = some r := h
  refine v_iload C hl dX8_edgesOf_6 5 rfl ?_
  refine v_aload_n C hl dX8_edgesOf_8 rfl 0 rfl ?_
  refine g_X8_0 C kdM_0 fl_X8_7 dX8_edgesOf_9 ?_
  refine v_iload_n C hl dX8_edgesOf_12 rfl 1 rfl ?_
  refine v_sipush C dX8_edgesOf_13 rfl ?_
  refine v_iadd C dX8_edgesOf_16 ?_
  refine alM2 C kdM_1 h dX8_edgesOf_17 (fun h => ?_)
  have hz1 := (cr_e h).1
  have h := (cr_e h).2
  have hz2 := (cr_e h).1
  have h := (cr_e h).2
  refine v_icmp_ge C (tgt := 112) hz1 hz2 h dX8_edgesOf_18 rfl (fun h => ?_) (fun h => ?_)
  · exact he6 _ _ (lv_sub hl [0, 4] rfl) h
  · refine v_iconst C dX8_edgesOf_21 ?_
    refine v_istore C hl (fun x => [(6, .int (i32 x)), (0, .ref (q 0)), (1, .int (i32 v1)), (2, .int (i32 v2)), (3, .int (i32 v3)), (4, .int (i32 v4)), (5, .int (i32 v5))]) dX8_edgesOf_22 (by decide) (fun _ => rfl) h (fun v6_3 ls hl h => ?_)
    exact wlX8_edgesOf_24 C hr (fun v4_4 ls hl h => wX8_edgesOf_106 C hr hc6 (lv_sub hl [0, 1, 2, 3, 4, 5] rfl) h) _ _ _ _ (lv_sub hl [1, 2, 3, 4, 5, 6, 0] rfl) h
theorem wlX8_edgesOf_6 (C : CxM p rmX8_edgesOf s m args meth c D ac q RX8 cX8_edgesOf 9) (hr : meth.sig.returnType = (some .int)) {v1 : Int} {v2 : Int} {v3 : Int} {σ : Mm} {e6 : Int → Option (Int)} {r : Int} (he6 : ∀ (v4x : Int) (ls : Array Slot), lv_has ls 9 [(0, .ref (q 0)), (4, .int (i32 v4x))] → e6 v4x = some r → VM p l e rmX8_edgesOf s m args below meth c D ac q (QIM D ac q below args s (r, σ)) σ (F0 m 112 ls [])) : ∀ (fu : Nat) (v4 : Int) (v5 : Int) (ls : Array Slot) (hl : lv_has ls 9 [(0, .ref (q 0)), (1, .int (i32 v1)), (2, .int (i32 v2)), (3, .int (i32 v3)), (4, .int (i32 v4)), (5, .int (i32 v5))]) (h : lX8_edgesOf_6 v1 v2 v3 σ e6 fu v4 v5 = some r), VM p l e rmX8_edgesOf s m args below meth c D ac q (QIM D ac q below args s (r, σ)) σ (F0 m 6 ls []) := by
  intro fu
  induction fu with
  | zero =>
    intro v4 v5 ls hl h
    have h : none = some r := h
    cases h
  | succ fu ih =>
    intro v4 v5 ls hl h
    exact wX8_edgesOf_6 C hr he6 (fun v4 v5 ls hl h => ih v4 v5 ls hl h) hl h
theorem mX8_edgesOf (hq : QI 19 q) {v1 : Int} {v2 : Int} {v3 : Int} {σ : Mm} {r : Int} (h : fX8_edgesOf v1 v2 v3 σ = some r) : MIM l D ac q yX8_edgesOf cX8_edgesOf 9 (some .int) rmX8_edgesOf [.ref (q 0), .int (i32 v1), .int (i32 v2), .int (i32 v3)] σ (r, σ) := by
  refine MI.of hq XT_M (by decide) (Nat.le_of_ble_eq_true rfl) (fun p e s m below meth c ls C hr hl => ?_)
  have hl : lv_has ls 9 [(0, .ref (q 0)), (1, .int (i32 v1)), (2, .int (i32 v2)), (3, .int (i32 v3))] := hl
  have h : bindv 0 (fun v4_1 => bindv 0 (fun v5_2 => lX8_edgesOf_6 v1 v2 v3 σ (fun v4_3 => fX8_edgesOf_112 v4_3 σ) 400 v4_1 v5_2)) = some r := h
  refine v_iconst C dX8_edgesOf_0 ?_
  refine v_istore C hl (fun x => [(4, .int (i32 x)), (0, .ref (q 0)), (1, .int (i32 v1)), (2, .int (i32 v2)), (3, .int (i32 v3))]) dX8_edgesOf_1 (by decide) (fun _ => rfl) h (fun v4_1 ls hl h => ?_)
  refine v_iconst C dX8_edgesOf_3 ?_
  refine v_istore C hl (fun x => [(5, .int (i32 x)), (4, .int (i32 v4_1)), (0, .ref (q 0)), (1, .int (i32 v1)), (2, .int (i32 v2)), (3, .int (i32 v3))]) dX8_edgesOf_4 (by decide) (fun _ => rfl) h (fun v5_2 ls hl h => ?_)
  exact wlX8_edgesOf_6 C hr (fun v4_3 ls hl h => wX8_edgesOf_112 C hr (lv_sub hl [0, 1] rfl) h) _ _ _ _ (lv_sub hl [2, 3, 4, 5, 1, 0] rfl) h
end
section
variable {l : Launch} {D : va_G} {ac : Nat → ClassId} {q : Nat → Nat} {p : Program} {e : Env} {s : State} {m : MethodId} {args : Array Value} {below : List Frame} {meth : Method} {c : Code} {ls : Array Slot}
theorem dX8_degreeOf_0 : decode cX8_degreeOf 0 = .ok (.iconst 0, 1) := by decide +kernel
theorem dX8_degreeOf_1 : decode cX8_degreeOf 1 = .ok (.istore_n 2, 1) := by decide +kernel
theorem dX8_degreeOf_2 : decode cX8_degreeOf 2 = .ok (.iconst 0, 1) := by decide +kernel
theorem dX8_degreeOf_3 : decode cX8_degreeOf 3 = .ok (.istore_n 3, 1) := by decide +kernel
theorem dX8_degreeOf_4 : decode cX8_degreeOf 4 = .ok (.iload_n 3, 1) := by decide +kernel
theorem dX8_degreeOf_5 : decode cX8_degreeOf 5 = .ok (.aload_n 0, 1) := by decide +kernel
theorem dX8_degreeOf_6 : decode cX8_degreeOf 6 = .ok (.invokevirtual 206, 3) := by decide +kernel
theorem dX8_degreeOf_9 : decode cX8_degreeOf 9 = .ok (.if_icmp .ge 32, 3) := by decide +kernel
theorem dX8_degreeOf_12 : decode cX8_degreeOf 12 = .ok (.iload_n 2, 1) := by decide +kernel
theorem dX8_degreeOf_13 : decode cX8_degreeOf 13 = .ok (.iload_n 3, 1) := by decide +kernel
theorem dX8_degreeOf_14 : decode cX8_degreeOf 14 = .ok (.iload_n 1, 1) := by decide +kernel
theorem dX8_degreeOf_15 : decode cX8_degreeOf 15 = .ok (.if_icmp .eq 17, 3) := by decide +kernel
theorem dX8_degreeOf_18 : decode cX8_degreeOf 18 = .ok (.aload_n 0, 1) := by decide +kernel
theorem dX8_degreeOf_19 : decode cX8_degreeOf 19 = .ok (.iconst 0, 1) := by decide +kernel
theorem dX8_degreeOf_20 : decode cX8_degreeOf 20 = .ok (.iload_n 1, 1) := by decide +kernel
theorem dX8_degreeOf_21 : decode cX8_degreeOf 21 = .ok (.iload_n 3, 1) := by decide +kernel
theorem dX8_degreeOf_22 : decode cX8_degreeOf 22 = .ok (.invokevirtual 172, 3) := by decide +kernel
theorem dX8_degreeOf_25 : decode cX8_degreeOf 25 = .ok (.ifCond .le 7, 3) := by decide +kernel
theorem dX8_degreeOf_28 : decode cX8_degreeOf 28 = .ok (.iconst 1, 1) := by decide +kernel
theorem dX8_degreeOf_29 : decode cX8_degreeOf 29 = .ok (.goto 4, 3) := by decide +kernel
theorem dX8_degreeOf_32 : decode cX8_degreeOf 32 = .ok (.iconst 0, 1) := by decide +kernel
theorem dX8_degreeOf_33 : decode cX8_degreeOf 33 = .ok (.iadd, 1) := by decide +kernel
theorem dX8_degreeOf_34 : decode cX8_degreeOf 34 = .ok (.istore_n 2, 1) := by decide +kernel
theorem dX8_degreeOf_35 : decode cX8_degreeOf 35 = .ok (.iinc 3 1, 3) := by decide +kernel
theorem dX8_degreeOf_38 : decode cX8_degreeOf 38 = .ok (.goto (-34), 3) := by decide +kernel
theorem dX8_degreeOf_41 : decode cX8_degreeOf 41 = .ok (.iload_n 2, 1) := by decide +kernel
theorem dX8_degreeOf_42 : decode cX8_degreeOf 42 = .ok (.ireturn, 1) := by decide +kernel
theorem wX8_degreeOf_41 (C : CxM p rmX8_degreeOf s m args meth c D ac q RX8 cX8_degreeOf 4) (hr : meth.sig.returnType = (some .int)) {v2 : Int} {σ : Mm} {r : Int} (hl : lv_has ls 4 [(0, .ref (q 0)), (2, .int (i32 v2))]) (h : fX8_degreeOf_41 v2 σ = some r) : VM p l e rmX8_degreeOf s m args below meth c D ac q (QIM D ac q below args s (r, σ)) σ (F0 m 41 ls []) := by
  have h : some v2 = some r := h
  refine v_iload_n C hl dX8_degreeOf_41 rfl 1 rfl ?_
  exact v_iret C hr (so1 h) dX8_degreeOf_42
theorem wX8_degreeOf_33 (C : CxM p rmX8_degreeOf s m args meth c D ac q RX8 cX8_degreeOf 4) (hr : meth.sig.returnType = (some .int)) {v1 : Int} {v3 : Int} {t0 : Int} {t1 : Int} {c4 : Int → Int → Option (Int)} {σ : Mm} {r : Int} (hc4 : ∀ (v2x : Int) (v3x : Int) (ls : Array Slot), lv_has ls 4 [(0, .ref (q 0)), (1, .int (i32 v1)), (2, .int (i32 v2x)), (3, .int (i32 v3x))] → c4 v2x v3x = some r → VM p l e rmX8_degreeOf s m args below meth c D ac q (QIM D ac q below args s (r, σ)) σ (F0 m 4 ls [])) (hl : lv_has ls 4 [(0, .ref (q 0)), (1, .int (i32 v1)), (3, .int (i32 v3))]) (h : fX8_degreeOf_33 c4 v1 v3 t0 t1 σ = some r) : VM p l e rmX8_degreeOf s m args below meth c D ac q (QIM D ac q below args s (r, σ)) σ (F0 m 33 ls [.int (i32 t1), .int (i32 t0)]) := by
  have h : bindv (t0 + t1) (fun v2_1 => bindv (v3 + 1) (fun v3_2 => c4 v2_1 v3_2)) = some r := h
  refine v_iadd C dX8_degreeOf_33 ?_
  refine v_istore_n C hl (fun x => [(2, .int (i32 x)), (0, .ref (q 0)), (1, .int (i32 v1)), (3, .int (i32 v3))]) dX8_degreeOf_34 rfl (by decide) (fun _ => rfl) h (fun v2_1 ls hl h => ?_)
  refine v_iinc C hl (fun x => [(3, .int (i32 x)), (2, .int (i32 v2_1)), (0, .ref (q 0)), (1, .int (i32 v1))]) dX8_degreeOf_35 3 rfl (by decide) (fun _ => rfl) h (fun v3_2 ls hl h => ?_)
  refine v_goto C (tgt := 4) dX8_degreeOf_38 rfl ?_
  exact hc4 _ _ _ (lv_sub hl [2, 3, 1, 0] rfl) h
theorem wX8_degreeOf_32 (C : CxM p rmX8_degreeOf s m args meth c D ac q RX8 cX8_degreeOf 4) (hr : meth.sig.returnType = (some .int)) {v1 : Int} {v3 : Int} {t0 : Int} {c4 : Int → Int → Option (Int)} {σ : Mm} {r : Int} (hc4 : ∀ (v2x : Int) (v3x : Int) (ls : Array Slot), lv_has ls 4 [(0, .ref (q 0)), (1, .int (i32 v1)), (2, .int (i32 v2x)), (3, .int (i32 v3x))] → c4 v2x v3x = some r → VM p l e rmX8_degreeOf s m args below meth c D ac q (QIM D ac q below args s (r, σ)) σ (F0 m 4 ls [])) (hl : lv_has ls 4 [(0, .ref (q 0)), (1, .int (i32 v1)), (3, .int (i32 v3))]) (h : fX8_degreeOf_32 c4 v1 v3 t0 σ = some r) : VM p l e rmX8_degreeOf s m args below meth c D ac q (QIM D ac q below args s (r, σ)) σ (F0 m 32 ls [.int (i32 t0)]) := by
  have h : fX8_degreeOf_33 c4 v1 v3 t0 0 σ = some r := h
  refine v_iconst C dX8_degreeOf_32 ?_
  exact wX8_degreeOf_33 C hr hc4 (lv_sub hl [0, 1, 2] rfl) h
theorem wX8_degreeOf_4 (C : CxM p rmX8_degreeOf s m args meth c D ac q RX8 cX8_degreeOf 4) (hr : meth.sig.returnType = (some .int)) {v1 : Int} {σ : Mm} {v2 : Int} {v3 : Int} {e4 : Int → Option (Int)} {c4 : Int → Int → Option (Int)} {r : Int} (he4 : ∀ (v2x : Int) (ls : Array Slot), lv_has ls 4 [(0, .ref (q 0)), (2, .int (i32 v2x))] → e4 v2x = some r → VM p l e rmX8_degreeOf s m args below meth c D ac q (QIM D ac q below args s (r, σ)) σ (F0 m 41 ls [])) (hc4 : ∀ (v2x : Int) (v3x : Int) (ls : Array Slot), lv_has ls 4 [(0, .ref (q 0)), (1, .int (i32 v1)), (2, .int (i32 v2x)), (3, .int (i32 v3x))] → c4 v2x v3x = some r → VM p l e rmX8_degreeOf s m args below meth c D ac q (QIM D ac q below args s (r, σ)) σ (F0 m 4 ls [])) (hl : lv_has ls 4 [(0, .ref (q 0)), (1, .int (i32 v1)), (2, .int (i32 v2)), (3, .int (i32 v3))]) (h : fX8_degreeOf_4 v1 σ e4 c4 v2 v3 = some r) : VM p l e rmX8_degreeOf s m args below meth c D ac q (QIM D ac q below args s (r, σ)) σ (F0 m 4 ls []) := by
  have h : bd (fX8_points σ) (fun x_1 => cr v3 (cr x_1 ((if v3 < x_1 then cr v3 (cr v1 ((if v3 = v1 then fX8_degreeOf_32 c4 v1 v3 v2 σ else bd (fX8_edgesOf 0 v1 v3 σ) (fun x_6 => cr x_6 ((if 0 < x_6 then fX8_degreeOf_33 c4 v1 v3 v2 1 σ else fX8_degreeOf_32 c4 v1 v3 v2 σ)))))) else e4 v2)))) = some r := h
  refine v_iload_n C hl dX8_degreeOf_4 rfl 3 rfl ?_
  refine v_aload_n C hl dX8_degreeOf_5 rfl 0 rfl ?_
  obtain ⟨x_1, hv1, h⟩ := bd_e h
  refine v_callVI C 0 (klM kdM_0) rfl (ckM1 kdM_0 _) rfl [] (mX8_points C.2.2.2.2.1 hv1) cd_X8_points ic_X8 im_X8_points se_X8_points ml_X8_206 yk_X8_points ⟨rfl, rfl, by decide, by decide⟩ rfl hl.1 (rest := [.int (i32 v3)]) rfl (Nat.le_of_ble_eq_true rfl) dX8_degreeOf_6 ?_
  have hz2 := (cr_e h).1
  have h := (cr_e h).2
  have hz3 := (cr_e h).1
  have h := (cr_e h).2
  refine v_icmp_ge C (tgt := 41) hz2 hz3 h dX8_degreeOf_9 rfl (fun h => ?_) (fun h => ?_)
  · exact he4 _ _ (lv_sub hl [0, 2] rfl) h
  · refine v_iload_n C hl dX8_degreeOf_12 rfl 2 rfl ?_
    refine v_iload_n C hl dX8_degreeOf_13 rfl 3 rfl ?_
    refine v_iload_n C hl dX8_degreeOf_14 rfl 1 rfl ?_
    have hz4 := (cr_e h).1
    have h := (cr_e h).2
    have hz5 := (cr_e h).1
    have h := (cr_e h).2
    refine v_icmp_eq C (tgt := 32) hz4 hz5 h dX8_degreeOf_15 rfl (fun h => ?_) (fun h => ?_)
    · exact wX8_degreeOf_32 C hr hc4 (lv_sub hl [0, 1, 3] rfl) h
    · refine v_aload_n C hl dX8_degreeOf_18 rfl 0 rfl ?_
      refine v_iconst C dX8_degreeOf_19 ?_
      refine v_iload_n C hl dX8_degreeOf_20 rfl 1 rfl ?_
      refine v_iload_n C hl dX8_degreeOf_21 rfl 3 rfl ?_
      obtain ⟨x_6, hv6, h⟩ := bd_e h
      refine v_callVI C 0 (klM kdM_0) rfl (ckM1 kdM_0 _) rfl [.int (i32 0), .int (i32 v1), .int (i32 v3)] (mX8_edgesOf C.2.2.2.2.1 hv6) cd_X8_edgesOf ic_X8 im_X8_edgesOf se_X8_edgesOf ml_X8_172 yk_X8_edgesOf ⟨rfl, rfl, by decide, by decide⟩ rfl hl.1 (rest := [.int (i32 v2)]) rfl (Nat.le_of_ble_eq_true rfl) dX8_degreeOf_22 ?_
      have hz7 := (cr_e h).1
      have h := (cr_e h).2
      refine v_if_le C (tgt := 32) hz7 h dX8_degreeOf_25 rfl (fun h => ?_) (fun h => ?_)
      · exact wX8_degreeOf_32 C hr hc4 (lv_sub hl [0, 1, 3] rfl) h
      · refine v_iconst C dX8_degreeOf_28 ?_
        refine v_goto C (tgt := 33) dX8_degreeOf_29 rfl ?_
        exact wX8_degreeOf_33 C hr hc4 (lv_sub hl [0, 1, 3] rfl) h
theorem wlX8_degreeOf_4 (C : CxM p rmX8_degreeOf s m args meth c D ac q RX8 cX8_degreeOf 4) (hr : meth.sig.returnType = (some .int)) {v1 : Int} {σ : Mm} {e4 : Int → Option (Int)} {r : Int} (he4 : ∀ (v2x : Int) (ls : Array Slot), lv_has ls 4 [(0, .ref (q 0)), (2, .int (i32 v2x))] → e4 v2x = some r → VM p l e rmX8_degreeOf s m args below meth c D ac q (QIM D ac q below args s (r, σ)) σ (F0 m 41 ls [])) : ∀ (fu : Nat) (v2 : Int) (v3 : Int) (ls : Array Slot) (hl : lv_has ls 4 [(0, .ref (q 0)), (1, .int (i32 v1)), (2, .int (i32 v2)), (3, .int (i32 v3))]) (h : lX8_degreeOf_4 v1 σ e4 fu v2 v3 = some r), VM p l e rmX8_degreeOf s m args below meth c D ac q (QIM D ac q below args s (r, σ)) σ (F0 m 4 ls []) := by
  intro fu
  induction fu with
  | zero =>
    intro v2 v3 ls hl h
    have h : none = some r := h
    cases h
  | succ fu ih =>
    intro v2 v3 ls hl h
    exact wX8_degreeOf_4 C hr he4 (fun v2 v3 ls hl h => ih v2 v3 ls hl h) hl h
theorem mX8_degreeOf (hq : QI 19 q) {v1 : Int} {σ : Mm} {r : Int} (h : fX8_degreeOf v1 σ = some r) : MIM l D ac q yX8_degreeOf cX8_degreeOf 4 (some .int) rmX8_degreeOf [.ref (q 0), .int (i32 v1)] σ (r, σ) := by
  refine MI.of hq XT_M (by decide) (Nat.le_of_ble_eq_true rfl) (fun p e s m below meth c ls C hr hl => ?_)
  have hl : lv_has ls 4 [(0, .ref (q 0)), (1, .int (i32 v1))] := hl
  have h : bindv 0 (fun v2_1 => bindv 0 (fun v3_2 => lX8_degreeOf_4 v1 σ (fun v2_3 => fX8_degreeOf_41 v2_3 σ) 400 v2_1 v3_2)) = some r := h
  refine v_iconst C dX8_degreeOf_0 ?_
  refine v_istore_n C hl (fun x => [(2, .int (i32 x)), (0, .ref (q 0)), (1, .int (i32 v1))]) dX8_degreeOf_1 rfl (by decide) (fun _ => rfl) h (fun v2_1 ls hl h => ?_)
  refine v_iconst C dX8_degreeOf_2 ?_
  refine v_istore_n C hl (fun x => [(3, .int (i32 x)), (2, .int (i32 v2_1)), (0, .ref (q 0)), (1, .int (i32 v1))]) dX8_degreeOf_3 rfl (by decide) (fun _ => rfl) h (fun v3_2 ls hl h => ?_)
  exact wlX8_degreeOf_4 C hr (fun v2_3 ls hl h => wX8_degreeOf_41 C hr (lv_sub hl [0, 1] rfl) h) _ _ _ _ (lv_sub hl [2, 3, 1, 0] rfl) h
end
section
variable {l : Launch} {D : va_G} {ac : Nat → ClassId} {q : Nat → Nat} {p : Program} {e : Env} {s : State} {m : MethodId} {args : Array Value} {below : List Frame} {meth : Method} {c : Code} {ls : Array Slot}
theorem dX8_isNode_0 : decode cX8_isNode 0 = .ok (.aload_n 0, 1) := by decide +kernel
theorem dX8_isNode_1 : decode cX8_isNode 1 = .ok (.getfield 7, 3) := by decide +kernel
theorem dX8_isNode_4 : decode cX8_isNode 4 = .ok (.bipush 48, 2) := by decide +kernel
theorem dX8_isNode_6 : decode cX8_isNode 6 = .ok (.iload_n 1, 1) := by decide +kernel
theorem dX8_isNode_7 : decode cX8_isNode 7 = .ok (.iadd, 1) := by decide +kernel
theorem dX8_isNode_8 : decode cX8_isNode 8 = .ok (.iaload, 1) := by decide +kernel
theorem dX8_isNode_9 : decode cX8_isNode 9 = .ok (.iconst 1, 1) := by decide +kernel
theorem dX8_isNode_10 : decode cX8_isNode 10 = .ok (.if_icmp .eq 13, 3) := by decide +kernel
theorem dX8_isNode_13 : decode cX8_isNode 13 = .ok (.aload_n 0, 1) := by decide +kernel
theorem dX8_isNode_14 : decode cX8_isNode 14 = .ok (.getfield 31, 3) := by decide +kernel
theorem dX8_isNode_17 : decode cX8_isNode 17 = .ok (.iload_n 1, 1) := by decide +kernel
theorem dX8_isNode_18 : decode cX8_isNode 18 = .ok (.iaload, 1) := by decide +kernel
theorem dX8_isNode_19 : decode cX8_isNode 19 = .ok (.iconst 2, 1) := by decide +kernel
theorem dX8_isNode_20 : decode cX8_isNode 20 = .ok (.if_icmp .eq 7, 3) := by decide +kernel
theorem dX8_isNode_23 : decode cX8_isNode 23 = .ok (.iconst 1, 1) := by decide +kernel
theorem dX8_isNode_24 : decode cX8_isNode 24 = .ok (.goto 4, 3) := by decide +kernel
theorem dX8_isNode_27 : decode cX8_isNode 27 = .ok (.iconst 0, 1) := by decide +kernel
theorem dX8_isNode_28 : decode cX8_isNode 28 = .ok (.ireturn, 1) := by decide +kernel
theorem wX8_isNode_28 (C : CxM p rmX8_isNode s m args meth c D ac q RX8 cX8_isNode 2) (hr : meth.sig.returnType = (some .boolean)) {t0 : Int} {σ : Mm} {r : Int} (hl : lv_has ls 2 [(0, .ref (q 0))]) (h : fX8_isNode_28 t0 σ = some r) : VM p l e rmX8_isNode s m args below meth c D ac q (QIM D ac q below args s (r, σ)) σ (F0 m 28 ls [.int (i32 t0)]) := by
  have h : chb t0 (some t0) = some r := h
  have hz1 := (chb_e h).1
  have h := (chb_e h).2
  exact v_zret C hr hz1 (so1 h) dX8_isNode_28
theorem wX8_isNode_23 (C : CxM p rmX8_isNode s m args meth c D ac q RX8 cX8_isNode 2) (hr : meth.sig.returnType = (some .boolean)) {σ : Mm} {r : Int} (hl : lv_has ls 2 [(0, .ref (q 0))]) (h : fX8_isNode_23 σ = some r) : VM p l e rmX8_isNode s m args below meth c D ac q (QIM D ac q below args s (r, σ)) σ (F0 m 23 ls []) := by
  have h : fX8_isNode_28 1 σ = some r := h
  refine v_iconst C dX8_isNode_23 ?_
  refine v_goto C (tgt := 28) dX8_isNode_24 rfl ?_
  exact wX8_isNode_28 C hr (lv_sub hl [0] rfl) h
theorem mX8_isNode (hq : QI 19 q) {v1 : Int} {σ : Mm} {r : Int} (h : fX8_isNode v1 σ = some r) : MIM l D ac q yX8_isNode cX8_isNode 2 (some .boolean) rmX8_isNode [.ref (q 0), .int (i32 v1)] σ (r, σ) := by
  refine MI.of hq XT_M (by decide) (Nat.le_of_ble_eq_true rfl) (fun p e s m below meth c ls C hr hl => ?_)
  have hl : lv_has ls 2 [(0, .ref (q 0)), (1, .int (i32 v1))] := hl
  have h : chk (48 + v1) 700 (cr (σ 1 (48 + v1).toNat) ((if σ 1 (48 + v1).toNat = 1 then fX8_isNode_23 σ else chk v1 24 (cr (σ 8 (v1).toNat) ((if σ 8 (v1).toNat = 2 then fX8_isNode_28 0 σ else fX8_isNode_23 σ)))))) = some r := h
  refine v_aload_n C hl dX8_isNode_0 rfl 0 rfl ?_
  refine g_X8_0 C kdM_0 fl_X8_7 dX8_isNode_1 ?_
  refine v_bipush C dX8_isNode_4 rfl ?_
  refine v_iload_n C hl dX8_isNode_6 rfl 1 rfl ?_
  refine v_iadd C dX8_isNode_7 ?_
  refine alM2 C kdM_1 h dX8_isNode_8 (fun h => ?_)
  refine v_iconst C dX8_isNode_9 ?_
  have hz1 := (cr_e h).1
  have h := (cr_e h).2
  refine v_icmp_eq C (tgt := 23) hz1 (by decide) h dX8_isNode_10 rfl (fun h => ?_) (fun h => ?_)
  · exact wX8_isNode_23 C hr (lv_sub hl [0] rfl) h
  · refine v_aload_n C hl dX8_isNode_13 rfl 0 rfl ?_
    refine g_X8_18 C kdM_0 fl_X8_31 dX8_isNode_14 ?_
    refine v_iload_n C hl dX8_isNode_17 rfl 1 rfl ?_
    refine alM6 C kdM_8 h dX8_isNode_18 (fun h => ?_)
    refine v_iconst C dX8_isNode_19 ?_
    have hz2 := (cr_e h).1
    have h := (cr_e h).2
    refine v_icmp_eq C (tgt := 27) hz2 (by decide) h dX8_isNode_20 rfl (fun h => ?_) (fun h => ?_)
    · refine v_iconst C dX8_isNode_27 ?_
      exact wX8_isNode_28 C hr (lv_sub hl [0] rfl) h
    · exact wX8_isNode_23 C hr (lv_sub hl [0] rfl) h
end
section
variable {l : Launch} {D : va_G} {ac : Nat → ClassId} {q : Nat → Nat} {p : Program} {e : Env} {s : State} {m : MethodId} {args : Array Value} {below : List Frame} {meth : Method} {c : Code} {ls : Array Slot}
theorem dX8_isThere_0 : decode cX8_isThere 0 = .ok (.aload_n 0, 1) := by decide +kernel
theorem dX8_isThere_1 : decode cX8_isThere 1 = .ok (.getfield 22, 3) := by decide +kernel
theorem dX8_isThere_4 : decode cX8_isThere 4 = .ok (.iload_n 1, 1) := by decide +kernel
theorem dX8_isThere_5 : decode cX8_isThere 5 = .ok (.iaload, 1) := by decide +kernel
theorem dX8_isThere_6 : decode cX8_isThere 6 = .ok (.ifCond .eq 13, 3) := by decide +kernel
theorem dX8_isThere_9 : decode cX8_isThere 9 = .ok (.aload_n 0, 1) := by decide +kernel
theorem dX8_isThere_10 : decode cX8_isThere 10 = .ok (.getfield 22, 3) := by decide +kernel
theorem dX8_isThere_13 : decode cX8_isThere 13 = .ok (.iload_n 1, 1) := by decide +kernel
theorem dX8_isThere_14 : decode cX8_isThere 14 = .ok (.iaload, 1) := by decide +kernel
theorem dX8_isThere_15 : decode cX8_isThere 15 = .ok (.iload_n 2, 1) := by decide +kernel
theorem dX8_isThere_16 : decode cX8_isThere 16 = .ok (.if_icmp .le 7, 3) := by decide +kernel
theorem dX8_isThere_19 : decode cX8_isThere 19 = .ok (.iconst 1, 1) := by decide +kernel
theorem dX8_isThere_20 : decode cX8_isThere 20 = .ok (.goto 4, 3) := by decide +kernel
theorem dX8_isThere_23 : decode cX8_isThere 23 = .ok (.iconst 0, 1) := by decide +kernel
theorem dX8_isThere_24 : decode cX8_isThere 24 = .ok (.ireturn, 1) := by decide +kernel
theorem wX8_isThere_24 (C : CxM p rmX8_isThere s m args meth c D ac q RX8 cX8_isThere 3) (hr : meth.sig.returnType = (some .boolean)) {t0 : Int} {σ : Mm} {r : Int} (hl : lv_has ls 3 [(0, .ref (q 0))]) (h : fX8_isThere_24 t0 σ = some r) : VM p l e rmX8_isThere s m args below meth c D ac q (QIM D ac q below args s (r, σ)) σ (F0 m 24 ls [.int (i32 t0)]) := by
  have h : chb t0 (some t0) = some r := h
  have hz1 := (chb_e h).1
  have h := (chb_e h).2
  exact v_zret C hr hz1 (so1 h) dX8_isThere_24
theorem wX8_isThere_19 (C : CxM p rmX8_isThere s m args meth c D ac q RX8 cX8_isThere 3) (hr : meth.sig.returnType = (some .boolean)) {σ : Mm} {r : Int} (hl : lv_has ls 3 [(0, .ref (q 0))]) (h : fX8_isThere_19 σ = some r) : VM p l e rmX8_isThere s m args below meth c D ac q (QIM D ac q below args s (r, σ)) σ (F0 m 19 ls []) := by
  have h : fX8_isThere_24 1 σ = some r := h
  refine v_iconst C dX8_isThere_19 ?_
  refine v_goto C (tgt := 24) dX8_isThere_20 rfl ?_
  exact wX8_isThere_24 C hr (lv_sub hl [0] rfl) h
theorem mX8_isThere (hq : QI 19 q) {v1 : Int} {v2 : Int} {σ : Mm} {r : Int} (h : fX8_isThere v1 v2 σ = some r) : MIM l D ac q yX8_isThere cX8_isThere 3 (some .boolean) rmX8_isThere [.ref (q 0), .int (i32 v1), .int (i32 v2)] σ (r, σ) := by
  refine MI.of hq XT_M (by decide) (Nat.le_of_ble_eq_true rfl) (fun p e s m below meth c ls C hr hl => ?_)
  have hl : lv_has ls 3 [(0, .ref (q 0)), (1, .int (i32 v1)), (2, .int (i32 v2))] := hl
  have h : chk v1 24 (cr (σ 5 (v1).toNat) ((if σ 5 (v1).toNat = 0 then fX8_isThere_19 σ else chk v1 24 (cr (σ 5 (v1).toNat) (cr v2 ((if v2 < σ 5 (v1).toNat then fX8_isThere_19 σ else fX8_isThere_24 0 σ))))))) = some r := h
  refine v_aload_n C hl dX8_isThere_0 rfl 0 rfl ?_
  refine g_X8_13 C kdM_0 fl_X8_22 dX8_isThere_1 ?_
  refine v_iload_n C hl dX8_isThere_4 rfl 1 rfl ?_
  refine alM6 C kdM_5 h dX8_isThere_5 (fun h => ?_)
  have hz1 := (cr_e h).1
  have h := (cr_e h).2
  refine v_if_eq C (tgt := 19) hz1 h dX8_isThere_6 rfl (fun h => ?_) (fun h => ?_)
  · exact wX8_isThere_19 C hr (lv_sub hl [0] rfl) h
  · refine v_aload_n C hl dX8_isThere_9 rfl 0 rfl ?_
    refine g_X8_13 C kdM_0 fl_X8_22 dX8_isThere_10 ?_
    refine v_iload_n C hl dX8_isThere_13 rfl 1 rfl ?_
    refine alM6 C kdM_5 h dX8_isThere_14 (fun h => ?_)
    refine v_iload_n C hl dX8_isThere_15 rfl 2 rfl ?_
    have hz2 := (cr_e h).1
    have h := (cr_e h).2
    have hz3 := (cr_e h).1
    have h := (cr_e h).2
    refine v_icmp_le C (tgt := 23) hz2 hz3 h dX8_isThere_16 rfl (fun h => ?_) (fun h => ?_)
    · refine v_iconst C dX8_isThere_23 ?_
      exact wX8_isThere_24 C hr (lv_sub hl [0] rfl) h
    · exact wX8_isThere_19 C hr (lv_sub hl [0] rfl) h
end
section
variable {l : Launch} {D : va_G} {ac : Nat → ClassId} {q : Nat → Nat} {p : Program} {e : Env} {s : State} {m : MethodId} {args : Array Value} {below : List Frame} {meth : Method} {c : Code} {ls : Array Slot}
theorem dX8_rings_0 : decode cX8_rings 0 = .ok (.aload_n 0, 1) := by decide +kernel
theorem dX8_rings_1 : decode cX8_rings 1 = .ok (.getfield 7, 3) := by decide +kernel
theorem dX8_rings_4 : decode cX8_rings 4 = .ok (.sipush 139, 3) := by decide +kernel
theorem dX8_rings_7 : decode cX8_rings 7 = .ok (.iaload, 1) := by decide +kernel
theorem dX8_rings_8 : decode cX8_rings 8 = .ok (.ireturn, 1) := by decide +kernel
theorem mX8_rings (hq : QI 19 q)  {σ : Mm} {r : Int} (h : fX8_rings σ = some r) : MIM l D ac q yX8_rings cX8_rings 1 (some .int) rmX8_rings [.ref (q 0)] σ (r, σ) := by
  refine MI.of hq XT_M (by decide) (Nat.le_of_ble_eq_true rfl) (fun p e s m below meth c ls C hr hl => ?_)
  have hl : lv_has ls 1 [(0, .ref (q 0))] := hl
  have h : chk 139 700 (some (σ 1 139)) = some r := h
  refine v_aload_n C hl dX8_rings_0 rfl 0 rfl ?_
  refine g_X8_0 C kdM_0 fl_X8_7 dX8_rings_1 ?_
  refine v_sipush C dX8_rings_4 rfl ?_
  refine alM2 C kdM_1 h dX8_rings_7 (fun h => ?_)
  exact v_iret C hr (so1 h) dX8_rings_8
end
section
variable {l : Launch} {D : va_G} {ac : Nat → ClassId} {q : Nat → Nat} {p : Program} {e : Env} {s : State} {m : MethodId} {args : Array Value} {below : List Frame} {meth : Method} {c : Code} {ls : Array Slot}
theorem dX8_ringAt_0 : decode cX8_ringAt 0 = .ok (.iconst 0, 1) := by decide +kernel
theorem dX8_ringAt_1 : decode cX8_ringAt 1 = .ok (.istore_n 3, 1) := by decide +kernel
theorem dX8_ringAt_2 : decode cX8_ringAt 2 = .ok (.iconst 0, 1) := by decide +kernel
theorem dX8_ringAt_3 : decode cX8_ringAt 3 = .ok (.istore 4, 2) := by decide +kernel
theorem dX8_ringAt_5 : decode cX8_ringAt 5 = .ok (.iload 4, 2) := by decide +kernel
theorem dX8_ringAt_7 : decode cX8_ringAt 7 = .ok (.aload_n 0, 1) := by decide +kernel
theorem dX8_ringAt_8 : decode cX8_ringAt 8 = .ok (.getfield 7, 3) := by decide +kernel
theorem dX8_ringAt_11 : decode cX8_ringAt 11 = .ok (.sipush 132, 3) := by decide +kernel
theorem dX8_ringAt_14 : decode cX8_ringAt 14 = .ok (.iload_n 1, 1) := by decide +kernel
theorem dX8_ringAt_15 : decode cX8_ringAt 15 = .ok (.iadd, 1) := by decide +kernel
theorem dX8_ringAt_16 : decode cX8_ringAt 16 = .ok (.iaload, 1) := by decide +kernel
theorem dX8_ringAt_17 : decode cX8_ringAt 17 = .ok (.if_icmp .ge 47, 3) := by decide +kernel
theorem dX8_ringAt_20 : decode cX8_ringAt 20 = .ok (.aload_n 0, 1) := by decide +kernel
theorem dX8_ringAt_21 : decode cX8_ringAt 21 = .ok (.getfield 7, 3) := by decide +kernel
theorem dX8_ringAt_24 : decode cX8_ringAt 24 = .ok (.bipush 72, 2) := by decide +kernel
theorem dX8_ringAt_26 : decode cX8_ringAt 26 = .ok (.bipush 10, 2) := by decide +kernel
theorem dX8_ringAt_28 : decode cX8_ringAt 28 = .ok (.iload_n 1, 1) := by decide +kernel
theorem dX8_ringAt_29 : decode cX8_ringAt 29 = .ok (.imul, 1) := by decide +kernel
theorem dX8_ringAt_30 : decode cX8_ringAt 30 = .ok (.iadd, 1) := by decide +kernel
theorem dX8_ringAt_31 : decode cX8_ringAt 31 = .ok (.iload 4, 2) := by decide +kernel
theorem dX8_ringAt_33 : decode cX8_ringAt 33 = .ok (.iadd, 1) := by decide +kernel
theorem dX8_ringAt_34 : decode cX8_ringAt 34 = .ok (.iaload, 1) := by decide +kernel
theorem dX8_ringAt_35 : decode cX8_ringAt 35 = .ok (.istore 5, 2) := by decide +kernel
theorem dX8_ringAt_37 : decode cX8_ringAt 37 = .ok (.aload_n 0, 1) := by decide +kernel
theorem dX8_ringAt_38 : decode cX8_ringAt 38 = .ok (.iload 5, 2) := by decide +kernel
theorem dX8_ringAt_40 : decode cX8_ringAt 40 = .ok (.iload_n 2, 1) := by decide +kernel
theorem dX8_ringAt_41 : decode cX8_ringAt 41 = .ok (.invokevirtual 190, 3) := by decide +kernel
theorem dX8_ringAt_44 : decode cX8_ringAt 44 = .ok (.ifCond .eq 14, 3) := by decide +kernel
theorem dX8_ringAt_47 : decode cX8_ringAt 47 = .ok (.aload_n 0, 1) := by decide +kernel
theorem dX8_ringAt_48 : decode cX8_ringAt 48 = .ok (.getfield 34, 3) := by decide +kernel
theorem dX8_ringAt_51 : decode cX8_ringAt 51 = .ok (.iload_n 3, 1) := by decide +kernel
theorem dX8_ringAt_52 : decode cX8_ringAt 52 = .ok (.iload 5, 2) := by decide +kernel
theorem dX8_ringAt_54 : decode cX8_ringAt 54 = .ok (.iastore, 1) := by decide +kernel
theorem dX8_ringAt_55 : decode cX8_ringAt 55 = .ok (.iinc 3 1, 3) := by decide +kernel
theorem dX8_ringAt_58 : decode cX8_ringAt 58 = .ok (.iinc 4 1, 3) := by decide +kernel
theorem dX8_ringAt_61 : decode cX8_ringAt 61 = .ok (.goto (-56), 3) := by decide +kernel
theorem dX8_ringAt_64 : decode cX8_ringAt 64 = .ok (.iload_n 3, 1) := by decide +kernel
theorem dX8_ringAt_65 : decode cX8_ringAt 65 = .ok (.ireturn, 1) := by decide +kernel
theorem wX8_ringAt_64 (C : CxM p rmX8_ringAt s m args meth c D ac q RX8 cX8_ringAt 6) (hr : meth.sig.returnType = (some .int)) {v3 : Int} {σ : Mm} {r : Int × Mm} (hl : lv_has ls 6 [(0, .ref (q 0)), (3, .int (i32 v3))]) (h : fX8_ringAt_64 v3 σ = some r) : VM p l e rmX8_ringAt s m args below meth c D ac q (QIM D ac q below args s r) σ (F0 m 64 ls []) := by
  have h : some (v3, σ) = some r := h
  refine v_iload_n C hl dX8_ringAt_64 rfl 1 rfl ?_
  exact v_iret C hr h dX8_ringAt_65
theorem wX8_ringAt_58 (C : CxM p rmX8_ringAt s m args meth c D ac q RX8 cX8_ringAt 6) (hr : meth.sig.returnType = (some .int)) {v1 : Int} {v2 : Int} {v3 : Int} {v4 : Int} {c5 : Int → Int → Mm → Option (Int × Mm)} {σ : Mm} {r : Int × Mm} (hc5 : ∀ (v3x : Int) (v4x : Int) (σ : Mm) (ls : Array Slot), lv_has ls 6 [(0, .ref (q 0)), (1, .int (i32 v1)), (2, .int (i32 v2)), (3, .int (i32 v3x)), (4, .int (i32 v4x))] → c5 v3x v4x σ = some r → VM p l e rmX8_ringAt s m args below meth c D ac q (QIM D ac q below args s r) σ (F0 m 5 ls [])) (hl : lv_has ls 6 [(0, .ref (q 0)), (1, .int (i32 v1)), (2, .int (i32 v2)), (3, .int (i32 v3)), (4, .int (i32 v4))]) (h : fX8_ringAt_58 c5 v1 v2 v3 v4 σ = some r) : VM p l e rmX8_ringAt s m args below meth c D ac q (QIM D ac q below args s r) σ (F0 m 58 ls []) := by
  have h : bindv (v4 + 1) (fun v4_1 => c5 v3 v4_1 σ) = some r := h
  refine v_iinc C hl (fun x => [(4, .int (i32 x)), (0, .ref (q 0)), (1, .int (i32 v1)), (2, .int (i32 v2)), (3, .int (i32 v3))]) dX8_ringAt_58 4 rfl (by decide) (fun _ => rfl) h (fun v4_1 ls hl h => ?_)
  refine v_goto C (tgt := 5) dX8_ringAt_61 rfl ?_
  exact hc5 _ _ _ _ (lv_sub hl [1, 2, 3, 4, 0] rfl) h
theorem wX8_ringAt_5 (C : CxM p rmX8_ringAt s m args meth c D ac q RX8 cX8_ringAt 6) (hr : meth.sig.returnType = (some .int)) {v1 : Int} {v2 : Int} {v3 : Int} {v4 : Int} {σ : Mm} {e5 : Int → Mm → Option (Int × Mm)} {c5 : Int → Int → Mm → Option (Int × Mm)} {r : Int × Mm} (he5 : ∀ (v3x : Int) (σ : Mm) (ls : Array Slot), lv_has ls 6 [(0, .ref (q 0)), (3, .int (i32 v3x))] → e5 v3x σ = some r → VM p l e rmX8_ringAt s m args below meth c D ac q (QIM D ac q below args s r) σ (F0 m 64 ls [])) (hc5 : ∀ (v3x : Int) (v4x : Int) (σ : Mm) (ls : Array Slot), lv_has ls 6 [(0, .ref (q 0)), (1, .int (i32 v1)), (2, .int (i32 v2)), (3, .int (i32 v3x)), (4, .int (i32 v4x))] → c5 v3x v4x σ = some r → VM p l e rmX8_ringAt s m args below meth c D ac q (QIM D ac q below args s r) σ (F0 m 5 ls [])) (hl : lv_has ls 6 [(0, .ref (q 0)), (1, .int (i32 v1)), (2, .int (i32 v2)), (3, .int (i32 v3)), (4, .int (i32 v4))]) (h : fX8_ringAt_5 v1 v2 e5 c5 v3 v4 σ = some r) : VM p l e rmX8_ringAt s m args below meth c D ac q (QIM D ac q below args s r) σ (F0 m 5 ls []) := by
  have h : chk (132 + v1) 700 (cr v4 (cr (σ 1 (132 + v1).toNat) ((if v4 < σ 1 (132 + v1).toNat then chk ((72 + (10 * v1)) + v4) 700 (bindv (σ 1 ((72 + (10 * v1)) + v4).toNat) (fun v5_3 => bd (fX8_isThere v5_3 v2 σ) (fun x_4 => cr x_4 ((if x_4 = 0 then fX8_ringAt_58 c5 v1 v2 v3 v4 σ else chk v3 10 (bindv (sto σ 9 (v3).toNat v5_3) (fun σ_6 => bindv (v3 + 1) (fun v3_7 => fX8_ringAt_58 c5 v1 v2 v3_7 v4 σ_6)))))))) else e5 v3 σ)))) = some r := h
  refine v_iload C hl dX8_ringAt_5 4 rfl ?_
  refine v_aload_n C hl dX8_ringAt_7 rfl 0 rfl ?_
  refine g_X8_0 C kdM_0 fl_X8_7 dX8_ringAt_8 ?_
  refine v_sipush C dX8_ringAt_11 rfl ?_
  refine v_iload_n C hl dX8_ringAt_14 rfl 1 rfl ?_
  refine v_iadd C dX8_ringAt_15 ?_
  refine alM2 C kdM_1 h dX8_ringAt_16 (fun h => ?_)
  have hz1 := (cr_e h).1
  have h := (cr_e h).2
  have hz2 := (cr_e h).1
  have h := (cr_e h).2
  refine v_icmp_ge C (tgt := 64) hz1 hz2 h dX8_ringAt_17 rfl (fun h => ?_) (fun h => ?_)
  · exact he5 _ _ _ (lv_sub hl [0, 3] rfl) h
  · refine v_aload_n C hl dX8_ringAt_20 rfl 0 rfl ?_
    refine g_X8_0 C kdM_0 fl_X8_7 dX8_ringAt_21 ?_
    refine v_bipush C dX8_ringAt_24 rfl ?_
    refine v_bipush C dX8_ringAt_26 rfl ?_
    refine v_iload_n C hl dX8_ringAt_28 rfl 1 rfl ?_
    refine v_imul C dX8_ringAt_29 ?_
    refine v_iadd C dX8_ringAt_30 ?_
    refine v_iload C hl dX8_ringAt_31 4 rfl ?_
    refine v_iadd C dX8_ringAt_33 ?_
    refine alM2 C kdM_1 h dX8_ringAt_34 (fun h => ?_)
    refine v_istore C hl (fun x => [(5, .int (i32 x)), (0, .ref (q 0)), (1, .int (i32 v1)), (2, .int (i32 v2)), (3, .int (i32 v3)), (4, .int (i32 v4))]) dX8_ringAt_35 (by decide) (fun _ => rfl) h (fun v5_3 ls hl h => ?_)
    refine v_aload_n C hl dX8_ringAt_37 rfl 1 rfl ?_
    refine v_iload C hl dX8_ringAt_38 0 rfl ?_
    refine v_iload_n C hl dX8_ringAt_40 rfl 3 rfl ?_
    obtain ⟨x_4, hv4, h⟩ := bd_e h
    refine v_callVI C 0 (klM kdM_0) rfl (ckM1 kdM_0 _) rfl [.int (i32 v5_3), .int (i32 v2)] (mX8_isThere C.2.2.2.2.1 hv4) cd_X8_isThere ic_X8 im_X8_isThere se_X8_isThere ml_X8_190 yk_X8_isThere ⟨rfl, rfl, by decide, by decide⟩ rfl hl.1 (rest := []) rfl (Nat.le_of_ble_eq_true rfl) dX8_ringAt_41 ?_
    have hz5 := (cr_e h).1
    have h := (cr_e h).2
    refine v_if_eq C (tgt := 58) hz5 h dX8_ringAt_44 rfl (fun h => ?_) (fun h => ?_)
    · exact wX8_ringAt_58 C hr hc5 (lv_sub hl [1, 2, 3, 4, 5] rfl) h
    · refine v_aload_n C hl dX8_ringAt_47 rfl 1 rfl ?_
      refine g_X8_19 C kdM_0 fl_X8_34 dX8_ringAt_48 ?_
      refine v_iload_n C hl dX8_ringAt_51 rfl 4 rfl ?_
      refine v_iload C hl dX8_ringAt_52 0 rfl ?_
      refine asM8 C kdM_9 h dX8_ringAt_54 (fun σ_6 h => ?_)
      refine v_iinc C hl (fun x => [(3, .int (i32 x)), (5, .int (i32 v5_3)), (0, .ref (q 0)), (1, .int (i32 v1)), (2, .int (i32 v2)), (4, .int (i32 v4))]) dX8_ringAt_55 4 rfl (by decide) (fun _ => rfl) h (fun v3_7 ls hl h => ?_)
      exact wX8_ringAt_58 C hr hc5 (lv_sub hl [2, 3, 4, 0, 5] rfl) h
theorem wlX8_ringAt_5 (C : CxM p rmX8_ringAt s m args meth c D ac q RX8 cX8_ringAt 6) (hr : meth.sig.returnType = (some .int)) {v1 : Int} {v2 : Int} {e5 : Int → Mm → Option (Int × Mm)} {r : Int × Mm} (he5 : ∀ (v3x : Int) (σ : Mm) (ls : Array Slot), lv_has ls 6 [(0, .ref (q 0)), (3, .int (i32 v3x))] → e5 v3x σ = some r → VM p l e rmX8_ringAt s m args below meth c D ac q (QIM D ac q below args s r) σ (F0 m 64 ls [])) : ∀ (fu : Nat) (v3 : Int) (v4 : Int) (σ : Mm) (ls : Array Slot) (hl : lv_has ls 6 [(0, .ref (q 0)), (1, .int (i32 v1)), (2, .int (i32 v2)), (3, .int (i32 v3)), (4, .int (i32 v4))]) (h : lX8_ringAt_5 v1 v2 e5 fu v3 v4 σ = some r), VM p l e rmX8_ringAt s m args below meth c D ac q (QIM D ac q below args s r) σ (F0 m 5 ls []) := by
  intro fu
  induction fu with
  | zero =>
    intro v3 v4 σ ls hl h
    have h : none = some r := h
    cases h
  | succ fu ih =>
    intro v3 v4 σ ls hl h
    exact wX8_ringAt_5 C hr he5 (fun v3 v4 σ ls hl h => ih v3 v4 σ ls hl h) hl h
theorem mX8_ringAt (hq : QI 19 q) {v1 : Int} {v2 : Int} {σ : Mm} {r : Int × Mm} (h : fX8_ringAt v1 v2 σ = some r) : MIM l D ac q yX8_ringAt cX8_ringAt 6 (some .int) rmX8_ringAt [.ref (q 0), .int (i32 v1), .int (i32 v2)] σ r := by
  refine MI.of hq XT_M (by decide) (Nat.le_of_ble_eq_true rfl) (fun p e s m below meth c ls C hr hl => ?_)
  have hl : lv_has ls 6 [(0, .ref (q 0)), (1, .int (i32 v1)), (2, .int (i32 v2))] := hl
  have h : bindv 0 (fun v3_1 => bindv 0 (fun v4_2 => lX8_ringAt_5 v1 v2 (fun v3_3 σ_4 => fX8_ringAt_64 v3_3 σ_4) 400 v3_1 v4_2 σ)) = some r := h
  refine v_iconst C dX8_ringAt_0 ?_
  refine v_istore_n C hl (fun x => [(3, .int (i32 x)), (0, .ref (q 0)), (1, .int (i32 v1)), (2, .int (i32 v2))]) dX8_ringAt_1 rfl (by decide) (fun _ => rfl) h (fun v3_1 ls hl h => ?_)
  refine v_iconst C dX8_ringAt_2 ?_
  refine v_istore C hl (fun x => [(4, .int (i32 x)), (3, .int (i32 v3_1)), (0, .ref (q 0)), (1, .int (i32 v1)), (2, .int (i32 v2))]) dX8_ringAt_3 (by decide) (fun _ => rfl) h (fun v4_2 ls hl h => ?_)
  exact wlX8_ringAt_5 C hr (fun v3_3 σ_4 ls hl h => wX8_ringAt_64 C hr (lv_sub hl [0, 1] rfl) h) _ _ _ _ _ (lv_sub hl [2, 3, 4, 1, 0] rfl) h
end
section
variable {l : Launch} {D : va_G} {ac : Nat → ClassId} {q : Nat → Nat} {p : Program} {e : Env} {s : State} {m : MethodId} {args : Array Value} {below : List Frame} {meth : Method} {c : Code} {ls : Array Slot}
theorem dX8_placeIn_0 : decode cX8_placeIn 0 = .ok (.bipush (-4), 2) := by decide +kernel
theorem dX8_placeIn_2 : decode cX8_placeIn 2 = .ok (.istore_n 3, 1) := by decide +kernel
theorem dX8_placeIn_3 : decode cX8_placeIn 3 = .ok (.iconst 0, 1) := by decide +kernel
theorem dX8_placeIn_4 : decode cX8_placeIn 4 = .ok (.istore 4, 2) := by decide +kernel
theorem dX8_placeIn_6 : decode cX8_placeIn 6 = .ok (.iload 4, 2) := by decide +kernel
theorem dX8_placeIn_8 : decode cX8_placeIn 8 = .ok (.iload_n 1, 1) := by decide +kernel
theorem dX8_placeIn_9 : decode cX8_placeIn 9 = .ok (.if_icmp .ge 27, 3) := by decide +kernel
theorem dX8_placeIn_12 : decode cX8_placeIn 12 = .ok (.aload_n 0, 1) := by decide +kernel
theorem dX8_placeIn_13 : decode cX8_placeIn 13 = .ok (.getfield 34, 3) := by decide +kernel
theorem dX8_placeIn_16 : decode cX8_placeIn 16 = .ok (.iload 4, 2) := by decide +kernel
theorem dX8_placeIn_18 : decode cX8_placeIn 18 = .ok (.iaload, 1) := by decide +kernel
theorem dX8_placeIn_19 : decode cX8_placeIn 19 = .ok (.iload_n 2, 1) := by decide +kernel
theorem dX8_placeIn_20 : decode cX8_placeIn 20 = .ok (.if_icmp .ne 8, 3) := by decide +kernel
theorem dX8_placeIn_23 : decode cX8_placeIn 23 = .ok (.iload 4, 2) := by decide +kernel
theorem dX8_placeIn_25 : decode cX8_placeIn 25 = .ok (.goto 4, 3) := by decide +kernel
theorem dX8_placeIn_28 : decode cX8_placeIn 28 = .ok (.iload_n 3, 1) := by decide +kernel
theorem dX8_placeIn_29 : decode cX8_placeIn 29 = .ok (.istore_n 3, 1) := by decide +kernel
theorem dX8_placeIn_30 : decode cX8_placeIn 30 = .ok (.iinc 4 1, 3) := by decide +kernel
theorem dX8_placeIn_33 : decode cX8_placeIn 33 = .ok (.goto (-27), 3) := by decide +kernel
theorem dX8_placeIn_36 : decode cX8_placeIn 36 = .ok (.iload_n 3, 1) := by decide +kernel
theorem dX8_placeIn_37 : decode cX8_placeIn 37 = .ok (.ireturn, 1) := by decide +kernel
theorem wX8_placeIn_36 (C : CxM p rmX8_placeIn s m args meth c D ac q RX8 cX8_placeIn 5) (hr : meth.sig.returnType = (some .int)) {v3 : Int} {σ : Mm} {r : Int} (hl : lv_has ls 5 [(0, .ref (q 0)), (3, .int (i32 v3))]) (h : fX8_placeIn_36 v3 σ = some r) : VM p l e rmX8_placeIn s m args below meth c D ac q (QIM D ac q below args s (r, σ)) σ (F0 m 36 ls []) := by
  have h : some v3 = some r := h
  refine v_iload_n C hl dX8_placeIn_36 rfl 1 rfl ?_
  exact v_iret C hr (so1 h) dX8_placeIn_37
theorem wX8_placeIn_29 (C : CxM p rmX8_placeIn s m args meth c D ac q RX8 cX8_placeIn 5) (hr : meth.sig.returnType = (some .int)) {v1 : Int} {v2 : Int} {v4 : Int} {t0 : Int} {c6 : Int → Int → Option (Int)} {σ : Mm} {r : Int} (hc6 : ∀ (v3x : Int) (v4x : Int) (ls : Array Slot), lv_has ls 5 [(0, .ref (q 0)), (1, .int (i32 v1)), (2, .int (i32 v2)), (3, .int (i32 v3x)), (4, .int (i32 v4x))] → c6 v3x v4x = some r → VM p l e rmX8_placeIn s m args below meth c D ac q (QIM D ac q below args s (r, σ)) σ (F0 m 6 ls [])) (hl : lv_has ls 5 [(0, .ref (q 0)), (1, .int (i32 v1)), (2, .int (i32 v2)), (4, .int (i32 v4))]) (h : fX8_placeIn_29 c6 v1 v2 v4 t0 σ = some r) : VM p l e rmX8_placeIn s m args below meth c D ac q (QIM D ac q below args s (r, σ)) σ (F0 m 29 ls [.int (i32 t0)]) := by
  have h : bindv t0 (fun v3_1 => bindv (v4 + 1) (fun v4_2 => c6 v3_1 v4_2)) = some r := h
  refine v_istore_n C hl (fun x => [(3, .int (i32 x)), (0, .ref (q 0)), (1, .int (i32 v1)), (2, .int (i32 v2)), (4, .int (i32 v4))]) dX8_placeIn_29 rfl (by decide) (fun _ => rfl) h (fun v3_1 ls hl h => ?_)
  refine v_iinc C hl (fun x => [(4, .int (i32 x)), (3, .int (i32 v3_1)), (0, .ref (q 0)), (1, .int (i32 v1)), (2, .int (i32 v2))]) dX8_placeIn_30 4 rfl (by decide) (fun _ => rfl) h (fun v4_2 ls hl h => ?_)
  refine v_goto C (tgt := 6) dX8_placeIn_33 rfl ?_
  exact hc6 _ _ _ (lv_sub hl [2, 3, 4, 1, 0] rfl) h
theorem wX8_placeIn_6 (C : CxM p rmX8_placeIn s m args meth c D ac q RX8 cX8_placeIn 5) (hr : meth.sig.returnType = (some .int)) {v1 : Int} {v2 : Int} {σ : Mm} {v3 : Int} {v4 : Int} {e6 : Int → Option (Int)} {c6 : Int → Int → Option (Int)} {r : Int} (he6 : ∀ (v3x : Int) (ls : Array Slot), lv_has ls 5 [(0, .ref (q 0)), (3, .int (i32 v3x))] → e6 v3x = some r → VM p l e rmX8_placeIn s m args below meth c D ac q (QIM D ac q below args s (r, σ)) σ (F0 m 36 ls [])) (hc6 : ∀ (v3x : Int) (v4x : Int) (ls : Array Slot), lv_has ls 5 [(0, .ref (q 0)), (1, .int (i32 v1)), (2, .int (i32 v2)), (3, .int (i32 v3x)), (4, .int (i32 v4x))] → c6 v3x v4x = some r → VM p l e rmX8_placeIn s m args below meth c D ac q (QIM D ac q below args s (r, σ)) σ (F0 m 6 ls [])) (hl : lv_has ls 5 [(0, .ref (q 0)), (1, .int (i32 v1)), (2, .int (i32 v2)), (3, .int (i32 v3)), (4, .int (i32 v4))]) (h : fX8_placeIn_6 v1 v2 σ e6 c6 v3 v4 = some r) : VM p l e rmX8_placeIn s m args below meth c D ac q (QIM D ac q below args s (r, σ)) σ (F0 m 6 ls []) := by
  have h : cr v4 (cr v1 ((if v4 < v1 then chk v4 10 (cr (σ 9 (v4).toNat) (cr v2 ((if σ 9 (v4).toNat = v2 then fX8_placeIn_29 c6 v1 v2 v4 v4 σ else fX8_placeIn_29 c6 v1 v2 v4 v3 σ)))) else e6 v3))) = some r := h
  refine v_iload C hl dX8_placeIn_6 4 rfl ?_
  refine v_iload_n C hl dX8_placeIn_8 rfl 1 rfl ?_
  have hz1 := (cr_e h).1
  have h := (cr_e h).2
  have hz2 := (cr_e h).1
  have h := (cr_e h).2
  refine v_icmp_ge C (tgt := 36) hz1 hz2 h dX8_placeIn_9 rfl (fun h => ?_) (fun h => ?_)
  · exact he6 _ _ (lv_sub hl [0, 3] rfl) h
  · refine v_aload_n C hl dX8_placeIn_12 rfl 0 rfl ?_
    refine g_X8_19 C kdM_0 fl_X8_34 dX8_placeIn_13 ?_
    refine v_iload C hl dX8_placeIn_16 4 rfl ?_
    refine alM8 C kdM_9 h dX8_placeIn_18 (fun h => ?_)
    refine v_iload_n C hl dX8_placeIn_19 rfl 2 rfl ?_
    have hz3 := (cr_e h).1
    have h := (cr_e h).2
    have hz4 := (cr_e h).1
    have h := (cr_e h).2
    refine v_icmp_ne C (tgt := 28) hz3 hz4 h dX8_placeIn_20 rfl (fun h => ?_) (fun h => ?_)
    · refine v_iload_n C hl dX8_placeIn_28 rfl 3 rfl ?_
      exact wX8_placeIn_29 C hr hc6 (lv_sub hl [0, 1, 2, 4] rfl) h
    · refine v_iload C hl dX8_placeIn_23 4 rfl ?_
      refine v_goto C (tgt := 29) dX8_placeIn_25 rfl ?_
      exact wX8_placeIn_29 C hr hc6 (lv_sub hl [0, 1, 2, 4] rfl) h
theorem wlX8_placeIn_6 (C : CxM p rmX8_placeIn s m args meth c D ac q RX8 cX8_placeIn 5) (hr : meth.sig.returnType = (some .int)) {v1 : Int} {v2 : Int} {σ : Mm} {e6 : Int → Option (Int)} {r : Int} (he6 : ∀ (v3x : Int) (ls : Array Slot), lv_has ls 5 [(0, .ref (q 0)), (3, .int (i32 v3x))] → e6 v3x = some r → VM p l e rmX8_placeIn s m args below meth c D ac q (QIM D ac q below args s (r, σ)) σ (F0 m 36 ls [])) : ∀ (fu : Nat) (v3 : Int) (v4 : Int) (ls : Array Slot) (hl : lv_has ls 5 [(0, .ref (q 0)), (1, .int (i32 v1)), (2, .int (i32 v2)), (3, .int (i32 v3)), (4, .int (i32 v4))]) (h : lX8_placeIn_6 v1 v2 σ e6 fu v3 v4 = some r), VM p l e rmX8_placeIn s m args below meth c D ac q (QIM D ac q below args s (r, σ)) σ (F0 m 6 ls []) := by
  intro fu
  induction fu with
  | zero =>
    intro v3 v4 ls hl h
    have h : none = some r := h
    cases h
  | succ fu ih =>
    intro v3 v4 ls hl h
    exact wX8_placeIn_6 C hr he6 (fun v3 v4 ls hl h => ih v3 v4 ls hl h) hl h
theorem mX8_placeIn (hq : QI 19 q) {v1 : Int} {v2 : Int} {σ : Mm} {r : Int} (h : fX8_placeIn v1 v2 σ = some r) : MIM l D ac q yX8_placeIn cX8_placeIn 5 (some .int) rmX8_placeIn [.ref (q 0), .int (i32 v1), .int (i32 v2)] σ (r, σ) := by
  refine MI.of hq XT_M (by decide) (Nat.le_of_ble_eq_true rfl) (fun p e s m below meth c ls C hr hl => ?_)
  have hl : lv_has ls 5 [(0, .ref (q 0)), (1, .int (i32 v1)), (2, .int (i32 v2))] := hl
  have h : bindv (-4) (fun v3_1 => bindv 0 (fun v4_2 => lX8_placeIn_6 v1 v2 σ (fun v3_3 => fX8_placeIn_36 v3_3 σ) 400 v3_1 v4_2)) = some r := h
  refine v_bipush C dX8_placeIn_0 rfl ?_
  refine v_istore_n C hl (fun x => [(3, .int (i32 x)), (0, .ref (q 0)), (1, .int (i32 v1)), (2, .int (i32 v2))]) dX8_placeIn_2 rfl (by decide) (fun _ => rfl) h (fun v3_1 ls hl h => ?_)
  refine v_iconst C dX8_placeIn_3 ?_
  refine v_istore C hl (fun x => [(4, .int (i32 x)), (3, .int (i32 v3_1)), (0, .ref (q 0)), (1, .int (i32 v1)), (2, .int (i32 v2))]) dX8_placeIn_4 (by decide) (fun _ => rfl) h (fun v4_2 ls hl h => ?_)
  exact wlX8_placeIn_6 C hr (fun v3_3 ls hl h => wX8_placeIn_36 C hr (lv_sub hl [0, 1] rfl) h) _ _ _ _ (lv_sub hl [2, 3, 4, 1, 0] rfl) h
end
section
variable {l : Launch} {D : va_G} {ac : Nat → ClassId} {q : Nat → Nat} {p : Program} {e : Env} {s : State} {m : MethodId} {args : Array Value} {below : List Frame} {meth : Method} {c : Code} {ls : Array Slot}
theorem dX8_neighbour_0 : decode cX8_neighbour 0 = .ok (.iconst 0, 1) := by decide +kernel
theorem dX8_neighbour_1 : decode cX8_neighbour 1 = .ok (.istore 4, 2) := by decide +kernel
theorem dX8_neighbour_3 : decode cX8_neighbour 3 = .ok (.iload 4, 2) := by decide +kernel
theorem dX8_neighbour_5 : decode cX8_neighbour 5 = .ok (.aload_n 0, 1) := by decide +kernel
theorem dX8_neighbour_6 : decode cX8_neighbour 6 = .ok (.invokevirtual 194, 3) := by decide +kernel
theorem dX8_neighbour_9 : decode cX8_neighbour 9 = .ok (.if_icmp .ge 50, 3) := by decide +kernel
theorem dX8_neighbour_12 : decode cX8_neighbour 12 = .ok (.aload_n 0, 1) := by decide +kernel
theorem dX8_neighbour_13 : decode cX8_neighbour 13 = .ok (.iload 4, 2) := by decide +kernel
theorem dX8_neighbour_15 : decode cX8_neighbour 15 = .ok (.iload_n 2, 1) := by decide +kernel
theorem dX8_neighbour_16 : decode cX8_neighbour 16 = .ok (.invokevirtual 197, 3) := by decide +kernel
theorem dX8_neighbour_19 : decode cX8_neighbour 19 = .ok (.istore 5, 2) := by decide +kernel
theorem dX8_neighbour_21 : decode cX8_neighbour 21 = .ok (.aload_n 0, 1) := by decide +kernel
theorem dX8_neighbour_22 : decode cX8_neighbour 22 = .ok (.iload 5, 2) := by decide +kernel
theorem dX8_neighbour_24 : decode cX8_neighbour 24 = .ok (.iload_n 1, 1) := by decide +kernel
theorem dX8_neighbour_25 : decode cX8_neighbour 25 = .ok (.invokevirtual 200, 3) := by decide +kernel
theorem dX8_neighbour_28 : decode cX8_neighbour 28 = .ok (.istore 6, 2) := by decide +kernel
theorem dX8_neighbour_30 : decode cX8_neighbour 30 = .ok (.iload 6, 2) := by decide +kernel
theorem dX8_neighbour_32 : decode cX8_neighbour 32 = .ok (.bipush (-4), 2) := by decide +kernel
theorem dX8_neighbour_34 : decode cX8_neighbour 34 = .ok (.if_icmp .eq 19, 3) := by decide +kernel
theorem dX8_neighbour_37 : decode cX8_neighbour 37 = .ok (.aload_n 0, 1) := by decide +kernel
theorem dX8_neighbour_38 : decode cX8_neighbour 38 = .ok (.getfield 34, 3) := by decide +kernel
theorem dX8_neighbour_41 : decode cX8_neighbour 41 = .ok (.iload 6, 2) := by decide +kernel
theorem dX8_neighbour_43 : decode cX8_neighbour 43 = .ok (.iload 5, 2) := by decide +kernel
theorem dX8_neighbour_45 : decode cX8_neighbour 45 = .ok (.iadd, 1) := by decide +kernel
theorem dX8_neighbour_46 : decode cX8_neighbour 46 = .ok (.iload_n 3, 1) := by decide +kernel
theorem dX8_neighbour_47 : decode cX8_neighbour 47 = .ok (.iadd, 1) := by decide +kernel
theorem dX8_neighbour_48 : decode cX8_neighbour 48 = .ok (.iload 5, 2) := by decide +kernel
theorem dX8_neighbour_50 : decode cX8_neighbour 50 = .ok (.irem, 1) := by decide +kernel
theorem dX8_neighbour_51 : decode cX8_neighbour 51 = .ok (.iaload, 1) := by decide +kernel
theorem dX8_neighbour_52 : decode cX8_neighbour 52 = .ok (.ireturn, 1) := by decide +kernel
theorem dX8_neighbour_53 : decode cX8_neighbour 53 = .ok (.iinc 4 1, 3) := by decide +kernel
theorem dX8_neighbour_56 : decode cX8_neighbour 56 = .ok (.goto (-53), 3) := by decide +kernel
theorem dX8_neighbour_59 : decode cX8_neighbour 59 = .ok (.bipush (-4), 2) := by decide +kernel
theorem dX8_neighbour_61 : decode cX8_neighbour 61 = .ok (.ireturn, 1) := by decide +kernel
theorem wX8_neighbour_59 (C : CxM p rmX8_neighbour s m args meth c D ac q RX8 cX8_neighbour 7) (hr : meth.sig.returnType = (some .int)) {σ : Mm} {r : Int × Mm} (hl : lv_has ls 7 [(0, .ref (q 0))]) (h : fX8_neighbour_59 σ = some r) : VM p l e rmX8_neighbour s m args below meth c D ac q (QIM D ac q below args s r) σ (F0 m 59 ls []) := by
  have h : some ((-4), σ) = some r := h
  refine v_bipush C dX8_neighbour_59 rfl ?_
  exact v_iret C hr h dX8_neighbour_61
theorem wX8_neighbour_3 (C : CxM p rmX8_neighbour s m args meth c D ac q RX8 cX8_neighbour 7) (hr : meth.sig.returnType = (some .int)) {v1 : Int} {v2 : Int} {v3 : Int} {v4 : Int} {σ : Mm} {e3 : Mm → Option (Int × Mm)} {c3 : Int → Mm → Option (Int × Mm)} {r : Int × Mm} (he3 : ∀ (σ : Mm) (ls : Array Slot), lv_has ls 7 [(0, .ref (q 0))] → e3 σ = some r → VM p l e rmX8_neighbour s m args below meth c D ac q (QIM D ac q below args s r) σ (F0 m 59 ls [])) (hc3 : ∀ (v4x : Int) (σ : Mm) (ls : Array Slot), lv_has ls 7 [(0, .ref (q 0)), (1, .int (i32 v1)), (2, .int (i32 v2)), (3, .int (i32 v3)), (4, .int (i32 v4x))] → c3 v4x σ = some r → VM p l e rmX8_neighbour s m args below meth c D ac q (QIM D ac q below args s r) σ (F0 m 3 ls [])) (hl : lv_has ls 7 [(0, .ref (q 0)), (1, .int (i32 v1)), (2, .int (i32 v2)), (3, .int (i32 v3)), (4, .int (i32 v4))]) (h : fX8_neighbour_3 v1 v2 v3 e3 c3 v4 σ = some r) : VM p l e rmX8_neighbour s m args below meth c D ac q (QIM D ac q below args s r) σ (F0 m 3 ls []) := by
  have h : bd (fX8_rings σ) (fun x_1 => cr v4 (cr x_1 ((if v4 < x_1 then bd2 (fX8_ringAt v4 v2 σ) (fun x_4 σ_4 => bindv x_4 (fun v5_5 => bd (fX8_placeIn v5_5 v1 σ_4) (fun x_6 => bindv x_6 (fun v6_7 => cr v6_7 ((if v6_7 = (-4) then bindv (v4 + 1) (fun v4_9 => c3 v4_9 σ_4) else chd ((v6_7 + v5_5) + v3) v5_5 (chk (((v6_7 + v5_5) + v3) % v5_5) 10 (some (σ_4 9 (((v6_7 + v5_5) + v3) % v5_5).toNat, σ_4))))))))) else e3 σ)))) = some r := h
  refine v_iload C hl dX8_neighbour_3 4 rfl ?_
  refine v_aload_n C hl dX8_neighbour_5 rfl 0 rfl ?_
  obtain ⟨x_1, hv1, h⟩ := bd_e h
  refine v_callVI C 0 (klM kdM_0) rfl (ckM1 kdM_0 _) rfl [] (mX8_rings C.2.2.2.2.1 hv1) cd_X8_rings ic_X8 im_X8_rings se_X8_rings ml_X8_194 yk_X8_rings ⟨rfl, rfl, by decide, by decide⟩ rfl hl.1 (rest := [.int (i32 v4)]) rfl (Nat.le_of_ble_eq_true rfl) dX8_neighbour_6 ?_
  have hz2 := (cr_e h).1
  have h := (cr_e h).2
  have hz3 := (cr_e h).1
  have h := (cr_e h).2
  refine v_icmp_ge C (tgt := 59) hz2 hz3 h dX8_neighbour_9 rfl (fun h => ?_) (fun h => ?_)
  · exact he3 _ _ (lv_sub hl [0] rfl) h
  · refine v_aload_n C hl dX8_neighbour_12 rfl 0 rfl ?_
    refine v_iload C hl dX8_neighbour_13 4 rfl ?_
    refine v_iload_n C hl dX8_neighbour_15 rfl 2 rfl ?_
    obtain ⟨x_4, σ_4, hv4, h⟩ := bd2_e h
    refine v_callVI C 0 (klM kdM_0) rfl (ckM1 kdM_0 _) rfl [.int (i32 v4), .int (i32 v2)] (mX8_ringAt C.2.2.2.2.1 hv4) cd_X8_ringAt ic_X8 im_X8_ringAt se_X8_ringAt ml_X8_197 yk_X8_ringAt ⟨rfl, rfl, by decide, by decide⟩ rfl hl.1 (rest := []) rfl (Nat.le_of_ble_eq_true rfl) dX8_neighbour_16 ?_
    refine v_istore C hl (fun x => [(5, .int (i32 x)), (0, .ref (q 0)), (1, .int (i32 v1)), (2, .int (i32 v2)), (3, .int (i32 v3)), (4, .int (i32 v4))]) dX8_neighbour_19 (by decide) (fun _ => rfl) h (fun v5_5 ls hl h => ?_)
    refine v_aload_n C hl dX8_neighbour_21 rfl 1 rfl ?_
    refine v_iload C hl dX8_neighbour_22 0 rfl ?_
    refine v_iload_n C hl dX8_neighbour_24 rfl 2 rfl ?_
    obtain ⟨x_6, hv6, h⟩ := bd_e h
    refine v_callVI C 0 (klM kdM_0) rfl (ckM1 kdM_0 _) rfl [.int (i32 v5_5), .int (i32 v1)] (mX8_placeIn C.2.2.2.2.1 hv6) cd_X8_placeIn ic_X8 im_X8_placeIn se_X8_placeIn ml_X8_200 yk_X8_placeIn ⟨rfl, rfl, by decide, by decide⟩ rfl hl.1 (rest := []) rfl (Nat.le_of_ble_eq_true rfl) dX8_neighbour_25 ?_
    refine v_istore C hl (fun x => [(6, .int (i32 x)), (5, .int (i32 v5_5)), (0, .ref (q 0)), (1, .int (i32 v1)), (2, .int (i32 v2)), (3, .int (i32 v3)), (4, .int (i32 v4))]) dX8_neighbour_28 (by decide) (fun _ => rfl) h (fun v6_7 ls hl h => ?_)
    refine v_iload C hl dX8_neighbour_30 0 rfl ?_
    refine v_bipush C dX8_neighbour_32 rfl ?_
    have hz8 := (cr_e h).1
    have h := (cr_e h).2
    refine v_icmp_eq C (tgt := 53) hz8 (by decide) h dX8_neighbour_34 rfl (fun h => ?_) (fun h => ?_)
    · refine v_iinc C hl (fun x => [(4, .int (i32 x)), (6, .int (i32 v6_7)), (5, .int (i32 v5_5)), (0, .ref (q 0)), (1, .int (i32 v1)), (2, .int (i32 v2)), (3, .int (i32 v3))]) dX8_neighbour_53 6 rfl (by decide) (fun _ => rfl) h (fun v4_9 ls hl h => ?_)
      refine v_goto C (tgt := 3) dX8_neighbour_56 rfl ?_
      exact hc3 _ _ _ (lv_sub hl [3, 4, 5, 6, 0] rfl) h
    · refine v_aload_n C hl dX8_neighbour_37 rfl 2 rfl ?_
      refine g_X8_19 C kdM_0 fl_X8_34 dX8_neighbour_38 ?_
      refine v_iload C hl dX8_neighbour_41 0 rfl ?_
      refine v_iload C hl dX8_neighbour_43 1 rfl ?_
      refine v_iadd C dX8_neighbour_45 ?_
      refine v_iload_n C hl dX8_neighbour_46 rfl 5 rfl ?_
      refine v_iadd C dX8_neighbour_47 ?_
      refine v_iload C hl dX8_neighbour_48 1 rfl ?_
      refine v_irem C h dX8_neighbour_50 (fun h => ?_)
      refine alM8 C kdM_9 h dX8_neighbour_51 (fun h => ?_)
      exact v_iret C hr h dX8_neighbour_52
theorem wlX8_neighbour_3 (C : CxM p rmX8_neighbour s m args meth c D ac q RX8 cX8_neighbour 7) (hr : meth.sig.returnType = (some .int)) {v1 : Int} {v2 : Int} {v3 : Int} {e3 : Mm → Option (Int × Mm)} {r : Int × Mm} (he3 : ∀ (σ : Mm) (ls : Array Slot), lv_has ls 7 [(0, .ref (q 0))] → e3 σ = some r → VM p l e rmX8_neighbour s m args below meth c D ac q (QIM D ac q below args s r) σ (F0 m 59 ls [])) : ∀ (fu : Nat) (v4 : Int) (σ : Mm) (ls : Array Slot) (hl : lv_has ls 7 [(0, .ref (q 0)), (1, .int (i32 v1)), (2, .int (i32 v2)), (3, .int (i32 v3)), (4, .int (i32 v4))]) (h : lX8_neighbour_3 v1 v2 v3 e3 fu v4 σ = some r), VM p l e rmX8_neighbour s m args below meth c D ac q (QIM D ac q below args s r) σ (F0 m 3 ls []) := by
  intro fu
  induction fu with
  | zero =>
    intro v4 σ ls hl h
    have h : none = some r := h
    cases h
  | succ fu ih =>
    intro v4 σ ls hl h
    exact wX8_neighbour_3 C hr he3 (fun v4 σ ls hl h => ih v4 σ ls hl h) hl h
theorem mX8_neighbour (hq : QI 19 q) {v1 : Int} {v2 : Int} {v3 : Int} {σ : Mm} {r : Int × Mm} (h : fX8_neighbour v1 v2 v3 σ = some r) : MIM l D ac q yX8_neighbour cX8_neighbour 7 (some .int) rmX8_neighbour [.ref (q 0), .int (i32 v1), .int (i32 v2), .int (i32 v3)] σ r := by
  refine MI.of hq XT_M (by decide) (Nat.le_of_ble_eq_true rfl) (fun p e s m below meth c ls C hr hl => ?_)
  have hl : lv_has ls 7 [(0, .ref (q 0)), (1, .int (i32 v1)), (2, .int (i32 v2)), (3, .int (i32 v3))] := hl
  have h : bindv 0 (fun v4_1 => lX8_neighbour_3 v1 v2 v3 (fun σ_2 => fX8_neighbour_59 σ_2) 400 v4_1 σ) = some r := h
  refine v_iconst C dX8_neighbour_0 ?_
  refine v_istore C hl (fun x => [(4, .int (i32 x)), (0, .ref (q 0)), (1, .int (i32 v1)), (2, .int (i32 v2)), (3, .int (i32 v3))]) dX8_neighbour_1 (by decide) (fun _ => rfl) h (fun v4_1 ls hl h => ?_)
  exact wlX8_neighbour_3 C hr (fun σ_2 ls hl h => wX8_neighbour_59 C hr (lv_sub hl [0] rfl) h) _ _ _ _ (lv_sub hl [1, 2, 3, 4, 0] rfl) h
end
section
variable {l : Launch} {D : va_G} {ac : Nat → ClassId} {q : Nat → Nat} {p : Program} {e : Env} {s : State} {m : MethodId} {args : Array Value} {below : List Frame} {meth : Method} {c : Code} {ls : Array Slot}
theorem dX8_edgesAt_0 : decode cX8_edgesAt 0 = .ok (.iconst 0, 1) := by decide +kernel
theorem dX8_edgesAt_1 : decode cX8_edgesAt 1 = .ok (.istore 4, 2) := by decide +kernel
theorem dX8_edgesAt_3 : decode cX8_edgesAt 3 = .ok (.iconst 0, 1) := by decide +kernel
theorem dX8_edgesAt_4 : decode cX8_edgesAt 4 = .ok (.istore 5, 2) := by decide +kernel
theorem dX8_edgesAt_6 : decode cX8_edgesAt 6 = .ok (.iload 5, 2) := by decide +kernel
theorem dX8_edgesAt_8 : decode cX8_edgesAt 8 = .ok (.aload_n 0, 1) := by decide +kernel
theorem dX8_edgesAt_9 : decode cX8_edgesAt 9 = .ok (.invokevirtual 194, 3) := by decide +kernel
theorem dX8_edgesAt_12 : decode cX8_edgesAt 12 = .ok (.if_icmp .ge 91, 3) := by decide +kernel
theorem dX8_edgesAt_15 : decode cX8_edgesAt 15 = .ok (.aload_n 0, 1) := by decide +kernel
theorem dX8_edgesAt_16 : decode cX8_edgesAt 16 = .ok (.iload 5, 2) := by decide +kernel
theorem dX8_edgesAt_18 : decode cX8_edgesAt 18 = .ok (.iload_n 3, 1) := by decide +kernel
theorem dX8_edgesAt_19 : decode cX8_edgesAt 19 = .ok (.invokevirtual 197, 3) := by decide +kernel
theorem dX8_edgesAt_22 : decode cX8_edgesAt 22 = .ok (.istore 6, 2) := by decide +kernel
theorem dX8_edgesAt_24 : decode cX8_edgesAt 24 = .ok (.iconst 0, 1) := by decide +kernel
theorem dX8_edgesAt_25 : decode cX8_edgesAt 25 = .ok (.istore 7, 2) := by decide +kernel
theorem dX8_edgesAt_27 : decode cX8_edgesAt 27 = .ok (.iload 7, 2) := by decide +kernel
theorem dX8_edgesAt_29 : decode cX8_edgesAt 29 = .ok (.iload 6, 2) := by decide +kernel
theorem dX8_edgesAt_31 : decode cX8_edgesAt 31 = .ok (.if_icmp .ge 66, 3) := by decide +kernel
theorem dX8_edgesAt_34 : decode cX8_edgesAt 34 = .ok (.aload_n 0, 1) := by decide +kernel
theorem dX8_edgesAt_35 : decode cX8_edgesAt 35 = .ok (.getfield 34, 3) := by decide +kernel
theorem dX8_edgesAt_38 : decode cX8_edgesAt 38 = .ok (.iload 7, 2) := by decide +kernel
theorem dX8_edgesAt_40 : decode cX8_edgesAt 40 = .ok (.iaload, 1) := by decide +kernel
theorem dX8_edgesAt_41 : decode cX8_edgesAt 41 = .ok (.istore 8, 2) := by decide +kernel
theorem dX8_edgesAt_43 : decode cX8_edgesAt 43 = .ok (.aload_n 0, 1) := by decide +kernel
theorem dX8_edgesAt_44 : decode cX8_edgesAt 44 = .ok (.getfield 34, 3) := by decide +kernel
theorem dX8_edgesAt_47 : decode cX8_edgesAt 47 = .ok (.iload 7, 2) := by decide +kernel
theorem dX8_edgesAt_49 : decode cX8_edgesAt 49 = .ok (.iconst 1, 1) := by decide +kernel
theorem dX8_edgesAt_50 : decode cX8_edgesAt 50 = .ok (.iadd, 1) := by decide +kernel
theorem dX8_edgesAt_51 : decode cX8_edgesAt 51 = .ok (.iload 6, 2) := by decide +kernel
theorem dX8_edgesAt_53 : decode cX8_edgesAt 53 = .ok (.irem, 1) := by decide +kernel
theorem dX8_edgesAt_54 : decode cX8_edgesAt 54 = .ok (.iaload, 1) := by decide +kernel
theorem dX8_edgesAt_55 : decode cX8_edgesAt 55 = .ok (.istore 9, 2) := by decide +kernel
theorem dX8_edgesAt_57 : decode cX8_edgesAt 57 = .ok (.iload 4, 2) := by decide +kernel
theorem dX8_edgesAt_59 : decode cX8_edgesAt 59 = .ok (.iload 8, 2) := by decide +kernel
theorem dX8_edgesAt_61 : decode cX8_edgesAt 61 = .ok (.iload_n 1, 1) := by decide +kernel
theorem dX8_edgesAt_62 : decode cX8_edgesAt 62 = .ok (.if_icmp .ne 9, 3) := by decide +kernel
theorem dX8_edgesAt_65 : decode cX8_edgesAt 65 = .ok (.iload 9, 2) := by decide +kernel
theorem dX8_edgesAt_67 : decode cX8_edgesAt 67 = .ok (.iload_n 2, 1) := by decide +kernel
theorem dX8_edgesAt_68 : decode cX8_edgesAt 68 = .ok (.if_icmp .eq 15, 3) := by decide +kernel
theorem dX8_edgesAt_71 : decode cX8_edgesAt 71 = .ok (.iload 8, 2) := by decide +kernel
theorem dX8_edgesAt_73 : decode cX8_edgesAt 73 = .ok (.iload_n 2, 1) := by decide +kernel
theorem dX8_edgesAt_74 : decode cX8_edgesAt 74 = .ok (.if_icmp .ne 13, 3) := by decide +kernel
theorem dX8_edgesAt_77 : decode cX8_edgesAt 77 = .ok (.iload 9, 2) := by decide +kernel
theorem dX8_edgesAt_79 : decode cX8_edgesAt 79 = .ok (.iload_n 1, 1) := by decide +kernel
theorem dX8_edgesAt_80 : decode cX8_edgesAt 80 = .ok (.if_icmp .ne 7, 3) := by decide +kernel
theorem dX8_edgesAt_83 : decode cX8_edgesAt 83 = .ok (.iconst 1, 1) := by decide +kernel
theorem dX8_edgesAt_84 : decode cX8_edgesAt 84 = .ok (.goto 4, 3) := by decide +kernel
theorem dX8_edgesAt_87 : decode cX8_edgesAt 87 = .ok (.iconst 0, 1) := by decide +kernel
theorem dX8_edgesAt_88 : decode cX8_edgesAt 88 = .ok (.iadd, 1) := by decide +kernel
theorem dX8_edgesAt_89 : decode cX8_edgesAt 89 = .ok (.istore 4, 2) := by decide +kernel
theorem dX8_edgesAt_91 : decode cX8_edgesAt 91 = .ok (.iinc 7 1, 3) := by decide +kernel
theorem dX8_edgesAt_94 : decode cX8_edgesAt 94 = .ok (.goto (-67), 3) := by decide +kernel
theorem dX8_edgesAt_97 : decode cX8_edgesAt 97 = .ok (.iinc 5 1, 3) := by decide +kernel
theorem dX8_edgesAt_100 : decode cX8_edgesAt 100 = .ok (.goto (-94), 3) := by decide +kernel
theorem dX8_edgesAt_103 : decode cX8_edgesAt 103 = .ok (.iload 4, 2) := by decide +kernel
theorem dX8_edgesAt_105 : decode cX8_edgesAt 105 = .ok (.ireturn, 1) := by decide +kernel
theorem wX8_edgesAt_103 (C : CxM p rmX8_edgesAt s m args meth c D ac q RX8 cX8_edgesAt 10) (hr : meth.sig.returnType = (some .int)) {v4 : Int} {σ : Mm} {r : Int × Mm} (hl : lv_has ls 10 [(0, .ref (q 0)), (4, .int (i32 v4))]) (h : fX8_edgesAt_103 v4 σ = some r) : VM p l e rmX8_edgesAt s m args below meth c D ac q (QIM D ac q below args s r) σ (F0 m 103 ls []) := by
  have h : some (v4, σ) = some r := h
  refine v_iload C hl dX8_edgesAt_103 1 rfl ?_
  exact v_iret C hr h dX8_edgesAt_105
theorem wX8_edgesAt_97 (C : CxM p rmX8_edgesAt s m args meth c D ac q RX8 cX8_edgesAt 10) (hr : meth.sig.returnType = (some .int)) {v1 : Int} {v2 : Int} {v3 : Int} {v4 : Int} {v5 : Int} {c6 : Int → Int → Mm → Option (Int × Mm)} {σ : Mm} {r : Int × Mm} (hc6 : ∀ (v4x : Int) (v5x : Int) (σ : Mm) (ls : Array Slot), lv_has ls 10 [(0, .ref (q 0)), (1, .int (i32 v1)), (2, .int (i32 v2)), (3, .int (i32 v3)), (4, .int (i32 v4x)), (5, .int (i32 v5x))] → c6 v4x v5x σ = some r → VM p l e rmX8_edgesAt s m args below meth c D ac q (QIM D ac q below args s r) σ (F0 m 6 ls [])) (hl : lv_has ls 10 [(0, .ref (q 0)), (1, .int (i32 v1)), (2, .int (i32 v2)), (3, .int (i32 v3)), (4, .int (i32 v4)), (5, .int (i32 v5))]) (h : fX8_edgesAt_97 c6 v1 v2 v3 v4 v5 σ = some r) : VM p l e rmX8_edgesAt s m args below meth c D ac q (QIM D ac q below args s r) σ (F0 m 97 ls []) := by
  have h : bindv (v5 + 1) (fun v5_1 => c6 v4 v5_1 σ) = some r := h
  refine v_iinc C hl (fun x => [(5, .int (i32 x)), (0, .ref (q 0)), (1, .int (i32 v1)), (2, .int (i32 v2)), (3, .int (i32 v3)), (4, .int (i32 v4))]) dX8_edgesAt_97 5 rfl (by decide) (fun _ => rfl) h (fun v5_1 ls hl h => ?_)
  refine v_goto C (tgt := 6) dX8_edgesAt_100 rfl ?_
  exact hc6 _ _ _ _ (lv_sub hl [1, 2, 3, 4, 5, 0] rfl) h
theorem wX8_edgesAt_88 (C : CxM p rmX8_edgesAt s m args meth c D ac q RX8 cX8_edgesAt 10) (hr : meth.sig.returnType = (some .int)) {v1 : Int} {v2 : Int} {v3 : Int} {v5 : Int} {v6 : Int} {v7 : Int} {t0 : Int} {t1 : Int} {c27 : Int → Int → Option (Int × Mm)} {σ : Mm} {r : Int × Mm} (hc27 : ∀ (v4x : Int) (v7x : Int) (ls : Array Slot), lv_has ls 10 [(0, .ref (q 0)), (1, .int (i32 v1)), (2, .int (i32 v2)), (3, .int (i32 v3)), (4, .int (i32 v4x)), (5, .int (i32 v5)), (6, .int (i32 v6)), (7, .int (i32 v7x))] → c27 v4x v7x = some r → VM p l e rmX8_edgesAt s m args below meth c D ac q (QIM D ac q below args s r) σ (F0 m 27 ls [])) (hl : lv_has ls 10 [(0, .ref (q 0)), (1, .int (i32 v1)), (2, .int (i32 v2)), (3, .int (i32 v3)), (5, .int (i32 v5)), (6, .int (i32 v6)), (7, .int (i32 v7))]) (h : fX8_edgesAt_88 c27 v1 v2 v3 v5 v6 v7 t0 t1 σ = some r) : VM p l e rmX8_edgesAt s m args below meth c D ac q (QIM D ac q below args s r) σ (F0 m 88 ls [.int (i32 t1), .int (i32 t0)]) := by
  have h : bindv (t0 + t1) (fun v4_1 => bindv (v7 + 1) (fun v7_2 => c27 v4_1 v7_2)) = some r := h
  refine v_iadd C dX8_edgesAt_88 ?_
  refine v_istore C hl (fun x => [(4, .int (i32 x)), (0, .ref (q 0)), (1, .int (i32 v1)), (2, .int (i32 v2)), (3, .int (i32 v3)), (5, .int (i32 v5)), (6, .int (i32 v6)), (7, .int (i32 v7))]) dX8_edgesAt_89 (by decide) (fun _ => rfl) h (fun v4_1 ls hl h => ?_)
  refine v_iinc C hl (fun x => [(7, .int (i32 x)), (4, .int (i32 v4_1)), (0, .ref (q 0)), (1, .int (i32 v1)), (2, .int (i32 v2)), (3, .int (i32 v3)), (5, .int (i32 v5)), (6, .int (i32 v6))]) dX8_edgesAt_91 7 rfl (by decide) (fun _ => rfl) h (fun v7_2 ls hl h => ?_)
  refine v_goto C (tgt := 27) dX8_edgesAt_94 rfl ?_
  exact hc27 _ _ _ (lv_sub hl [2, 3, 4, 5, 1, 6, 7, 0] rfl) h
theorem wX8_edgesAt_87 (C : CxM p rmX8_edgesAt s m args meth c D ac q RX8 cX8_edgesAt 10) (hr : meth.sig.returnType = (some .int)) {v1 : Int} {v2 : Int} {v3 : Int} {v5 : Int} {v6 : Int} {v7 : Int} {t0 : Int} {c27 : Int → Int → Option (Int × Mm)} {σ : Mm} {r : Int × Mm} (hc27 : ∀ (v4x : Int) (v7x : Int) (ls : Array Slot), lv_has ls 10 [(0, .ref (q 0)), (1, .int (i32 v1)), (2, .int (i32 v2)), (3, .int (i32 v3)), (4, .int (i32 v4x)), (5, .int (i32 v5)), (6, .int (i32 v6)), (7, .int (i32 v7x))] → c27 v4x v7x = some r → VM p l e rmX8_edgesAt s m args below meth c D ac q (QIM D ac q below args s r) σ (F0 m 27 ls [])) (hl : lv_has ls 10 [(0, .ref (q 0)), (1, .int (i32 v1)), (2, .int (i32 v2)), (3, .int (i32 v3)), (5, .int (i32 v5)), (6, .int (i32 v6)), (7, .int (i32 v7))]) (h : fX8_edgesAt_87 c27 v1 v2 v3 v5 v6 v7 t0 σ = some r) : VM p l e rmX8_edgesAt s m args below meth c D ac q (QIM D ac q below args s r) σ (F0 m 87 ls [.int (i32 t0)]) := by
  have h : fX8_edgesAt_88 c27 v1 v2 v3 v5 v6 v7 t0 0 σ = some r := h
  refine v_iconst C dX8_edgesAt_87 ?_
  exact wX8_edgesAt_88 C hr hc27 (lv_sub hl [0, 1, 2, 3, 4, 5, 6] rfl) h
theorem wX8_edgesAt_83 (C : CxM p rmX8_edgesAt s m args meth c D ac q RX8 cX8_edgesAt 10) (hr : meth.sig.returnType = (some .int)) {v1 : Int} {v2 : Int} {v3 : Int} {v5 : Int} {v6 : Int} {v7 : Int} {t0 : Int} {c27 : Int → Int → Option (Int × Mm)} {σ : Mm} {r : Int × Mm} (hc27 : ∀ (v4x : Int) (v7x : Int) (ls : Array Slot), lv_has ls 10 [(0, .ref (q 0)), (1, .int (i32 v1)), (2, .int (i32 v2)), (3, .int (i32 v3)), (4, .int (i32 v4x)), (5, .int (i32 v5)), (6, .int (i32 v6)), (7, .int (i32 v7x))] → c27 v4x v7x = some r → VM p l e rmX8_edgesAt s m args below meth c D ac q (QIM D ac q below args s r) σ (F0 m 27 ls [])) (hl : lv_has ls 10 [(0, .ref (q 0)), (1, .int (i32 v1)), (2, .int (i32 v2)), (3, .int (i32 v3)), (5, .int (i32 v5)), (6, .int (i32 v6)), (7, .int (i32 v7))]) (h : fX8_edgesAt_83 c27 v1 v2 v3 v5 v6 v7 t0 σ = some r) : VM p l e rmX8_edgesAt s m args below meth c D ac q (QIM D ac q below args s r) σ (F0 m 83 ls [.int (i32 t0)]) := by
  have h : fX8_edgesAt_88 c27 v1 v2 v3 v5 v6 v7 t0 1 σ = some r := h
  refine v_iconst C dX8_edgesAt_83 ?_
  refine v_goto C (tgt := 88) dX8_edgesAt_84 rfl ?_
  exact wX8_edgesAt_88 C hr hc27 (lv_sub hl [0, 1, 2, 3, 4, 5, 6] rfl) h
theorem wX8_edgesAt_71 (C : CxM p rmX8_edgesAt s m args meth c D ac q RX8 cX8_edgesAt 10) (hr : meth.sig.returnType = (some .int)) {v1 : Int} {v2 : Int} {v3 : Int} {v5 : Int} {v6 : Int} {v7 : Int} {v8 : Int} {v9 : Int} {t0 : Int} {c27 : Int → Int → Option (Int × Mm)} {σ : Mm} {r : Int × Mm} (hc27 : ∀ (v4x : Int) (v7x : Int) (ls : Array Slot), lv_has ls 10 [(0, .ref (q 0)), (1, .int (i32 v1)), (2, .int (i32 v2)), (3, .int (i32 v3)), (4, .int (i32 v4x)), (5, .int (i32 v5)), (6, .int (i32 v6)), (7, .int (i32 v7x))] → c27 v4x v7x = some r → VM p l e rmX8_edgesAt s m args below meth c D ac q (QIM D ac q below args s r) σ (F0 m 27 ls [])) (hl : lv_has ls 10 [(0, .ref (q 0)), (1, .int (i32 v1)), (2, .int (i32 v2)), (3, .int (i32 v3)), (5, .int (i32 v5)), (6, .int (i32 v6)), (7, .int (i32 v7)), (8, .int (i32 v8)), (9, .int (i32 v9))]) (h : fX8_edgesAt_71 c27 v1 v2 v3 v5 v6 v7 v8 v9 t0 σ = some r) : VM p l e rmX8_edgesAt s m args below meth c D ac q (QIM D ac q below args s r) σ (F0 m 71 ls [.int (i32 t0)]) := by
  have h : cr v8 (cr v2 ((if v8 = v2 then cr v9 (cr v1 ((if v9 = v1 then fX8_edgesAt_83 c27 v1 v2 v3 v5 v6 v7 t0 σ else fX8_edgesAt_87 c27 v1 v2 v3 v5 v6 v7 t0 σ))) else fX8_edgesAt_87 c27 v1 v2 v3 v5 v6 v7 t0 σ))) = some r := h
  refine v_iload C hl dX8_edgesAt_71 7 rfl ?_
  refine v_iload_n C hl dX8_edgesAt_73 rfl 2 rfl ?_
  have hz1 := (cr_e h).1
  have h := (cr_e h).2
  have hz2 := (cr_e h).1
  have h := (cr_e h).2
  refine v_icmp_ne C (tgt := 87) hz1 hz2 h dX8_edgesAt_74 rfl (fun h => ?_) (fun h => ?_)
  · exact wX8_edgesAt_87 C hr hc27 (lv_sub hl [0, 1, 2, 3, 4, 5, 6] rfl) h
  · refine v_iload C hl dX8_edgesAt_77 8 rfl ?_
    refine v_iload_n C hl dX8_edgesAt_79 rfl 1 rfl ?_
    have hz3 := (cr_e h).1
    have h := (cr_e h).2
    have hz4 := (cr_e h).1
    have h := (cr_e h).2
    refine v_icmp_ne C (tgt := 87) hz3 hz4 h dX8_edgesAt_80 rfl (fun h => ?_) (fun h => ?_)
    · exact wX8_edgesAt_87 C hr hc27 (lv_sub hl [0, 1, 2, 3, 4, 5, 6] rfl) h
    · exact wX8_edgesAt_83 C hr hc27 (lv_sub hl [0, 1, 2, 3, 4, 5, 6] rfl) h
theorem wX8_edgesAt_27 (C : CxM p rmX8_edgesAt s m args meth c D ac q RX8 cX8_edgesAt 10) (hr : meth.sig.returnType = (some .int)) {v1 : Int} {v2 : Int} {v3 : Int} {v5 : Int} {v6 : Int} {σ : Mm} {v4 : Int} {v7 : Int} {e27 : Int → Option (Int × Mm)} {c27 : Int → Int → Option (Int × Mm)} {r : Int × Mm} (he27 : ∀ (v4x : Int) (ls : Array Slot), lv_has ls 10 [(0, .ref (q 0)), (1, .int (i32 v1)), (2, .int (i32 v2)), (3, .int (i32 v3)), (4, .int (i32 v4x)), (5, .int (i32 v5))] → e27 v4x = some r → VM p l e rmX8_edgesAt s m args below meth c D ac q (QIM D ac q below args s r) σ (F0 m 97 ls [])) (hc27 : ∀ (v4x : Int) (v7x : Int) (ls : Array Slot), lv_has ls 10 [(0, .ref (q 0)), (1, .int (i32 v1)), (2, .int (i32 v2)), (3, .int (i32 v3)), (4, .int (i32 v4x)), (5, .int (i32 v5)), (6, .int (i32 v6)), (7, .int (i32 v7x))] → c27 v4x v7x = some r → VM p l e rmX8_edgesAt s m args below meth c D ac q (QIM D ac q below args s r) σ (F0 m 27 ls [])) (hl : lv_has ls 10 [(0, .ref (q 0)), (1, .int (i32 v1)), (2, .int (i32 v2)), (3, .int (i32 v3)), (4, .int (i32 v4)), (5, .int (i32 v5)), (6, .int (i32 v6)), (7, .int (i32 v7))]) (h : fX8_edgesAt_27 v1 v2 v3 v5 v6 σ e27 c27 v4 v7 = some r) : VM p l e rmX8_edgesAt s m args below meth c D ac q (QIM D ac q below args s r) σ (F0 m 27 ls []) := by
  have h : cr v7 (cr v6 ((if v7 < v6 then chk v7 10 (bindv (σ 9 (v7).toNat) (fun v8_3 => chd (v7 + 1) v6 (chk ((v7 + 1) % v6) 10 (bindv (σ 9 ((v7 + 1) % v6).toNat) (fun v9_4 => cr v8_3 (cr v1 ((if v8_3 = v1 then cr v9_4 (cr v2 ((if v9_4 = v2 then fX8_edgesAt_83 c27 v1 v2 v3 v5 v6 v7 v4 σ else fX8_edgesAt_71 c27 v1 v2 v3 v5 v6 v7 v8_3 v9_4 v4 σ))) else fX8_edgesAt_71 c27 v1 v2 v3 v5 v6 v7 v8_3 v9_4 v4 σ)))))))) else e27 v4))) = some r := h
  refine v_iload C hl dX8_edgesAt_27 7 rfl ?_
  refine v_iload C hl dX8_edgesAt_29 6 rfl ?_
  have hz1 := (cr_e h).1
  have h := (cr_e h).2
  have hz2 := (cr_e h).1
  have h := (cr_e h).2
  refine v_icmp_ge C (tgt := 97) hz1 hz2 h dX8_edgesAt_31 rfl (fun h => ?_) (fun h => ?_)
  · exact he27 _ _ (lv_sub hl [0, 1, 2, 3, 4, 5] rfl) h
  · refine v_aload_n C hl dX8_edgesAt_34 rfl 0 rfl ?_
    refine g_X8_19 C kdM_0 fl_X8_34 dX8_edgesAt_35 ?_
    refine v_iload C hl dX8_edgesAt_38 7 rfl ?_
    refine alM8 C kdM_9 h dX8_edgesAt_40 (fun h => ?_)
    refine v_istore C hl (fun x => [(8, .int (i32 x)), (0, .ref (q 0)), (1, .int (i32 v1)), (2, .int (i32 v2)), (3, .int (i32 v3)), (4, .int (i32 v4)), (5, .int (i32 v5)), (6, .int (i32 v6)), (7, .int (i32 v7))]) dX8_edgesAt_41 (by decide) (fun _ => rfl) h (fun v8_3 ls hl h => ?_)
    refine v_aload_n C hl dX8_edgesAt_43 rfl 1 rfl ?_
    refine g_X8_19 C kdM_0 fl_X8_34 dX8_edgesAt_44 ?_
    refine v_iload C hl dX8_edgesAt_47 8 rfl ?_
    refine v_iconst C dX8_edgesAt_49 ?_
    refine v_iadd C dX8_edgesAt_50 ?_
    refine v_iload C hl dX8_edgesAt_51 7 rfl ?_
    refine v_irem C h dX8_edgesAt_53 (fun h => ?_)
    refine alM8 C kdM_9 h dX8_edgesAt_54 (fun h => ?_)
    refine v_istore C hl (fun x => [(9, .int (i32 x)), (8, .int (i32 v8_3)), (0, .ref (q 0)), (1, .int (i32 v1)), (2, .int (i32 v2)), (3, .int (i32 v3)), (4, .int (i32 v4)), (5, .int (i32 v5)), (6, .int (i32 v6)), (7, .int (i32 v7))]) dX8_edgesAt_55 (by decide) (fun _ => rfl) h (fun v9_4 ls hl h => ?_)
    refine v_iload C hl dX8_edgesAt_57 6 rfl ?_
    refine v_iload C hl dX8_edgesAt_59 1 rfl ?_
    refine v_iload_n C hl dX8_edgesAt_61 rfl 3 rfl ?_
    have hz5 := (cr_e h).1
    have h := (cr_e h).2
    have hz6 := (cr_e h).1
    have h := (cr_e h).2
    refine v_icmp_ne C (tgt := 71) hz5 hz6 h dX8_edgesAt_62 rfl (fun h => ?_) (fun h => ?_)
    · exact wX8_edgesAt_71 C hr hc27 (lv_sub hl [2, 3, 4, 5, 7, 8, 9, 1, 0] rfl) h
    · refine v_iload C hl dX8_edgesAt_65 0 rfl ?_
      refine v_iload_n C hl dX8_edgesAt_67 rfl 4 rfl ?_
      have hz7 := (cr_e h).1
      have h := (cr_e h).2
      have hz8 := (cr_e h).1
      have h := (cr_e h).2
      refine v_icmp_eq C (tgt := 83) hz7 hz8 h dX8_edgesAt_68 rfl (fun h => ?_) (fun h => ?_)
      · exact wX8_edgesAt_83 C hr hc27 (lv_sub hl [2, 3, 4, 5, 7, 8, 9] rfl) h
      · exact wX8_edgesAt_71 C hr hc27 (lv_sub hl [2, 3, 4, 5, 7, 8, 9, 1, 0] rfl) h
theorem wlX8_edgesAt_27 (C : CxM p rmX8_edgesAt s m args meth c D ac q RX8 cX8_edgesAt 10) (hr : meth.sig.returnType = (some .int)) {v1 : Int} {v2 : Int} {v3 : Int} {v5 : Int} {v6 : Int} {σ : Mm} {e27 : Int → Option (Int × Mm)} {r : Int × Mm} (he27 : ∀ (v4x : Int) (ls : Array Slot), lv_has ls 10 [(0, .ref (q 0)), (1, .int (i32 v1)), (2, .int (i32 v2)), (3, .int (i32 v3)), (4, .int (i32 v4x)), (5, .int (i32 v5))] → e27 v4x = some r → VM p l e rmX8_edgesAt s m args below meth c D ac q (QIM D ac q below args s r) σ (F0 m 97 ls [])) : ∀ (fu : Nat) (v4 : Int) (v7 : Int) (ls : Array Slot) (hl : lv_has ls 10 [(0, .ref (q 0)), (1, .int (i32 v1)), (2, .int (i32 v2)), (3, .int (i32 v3)), (4, .int (i32 v4)), (5, .int (i32 v5)), (6, .int (i32 v6)), (7, .int (i32 v7))]) (h : lX8_edgesAt_27 v1 v2 v3 v5 v6 σ e27 fu v4 v7 = some r), VM p l e rmX8_edgesAt s m args below meth c D ac q (QIM D ac q below args s r) σ (F0 m 27 ls []) := by
  intro fu
  induction fu with
  | zero =>
    intro v4 v7 ls hl h
    have h : none = some r := h
    cases h
  | succ fu ih =>
    intro v4 v7 ls hl h
    exact wX8_edgesAt_27 C hr he27 (fun v4 v7 ls hl h => ih v4 v7 ls hl h) hl h
theorem wX8_edgesAt_6 (C : CxM p rmX8_edgesAt s m args meth c D ac q RX8 cX8_edgesAt 10) (hr : meth.sig.returnType = (some .int)) {v1 : Int} {v2 : Int} {v3 : Int} {v4 : Int} {v5 : Int} {σ : Mm} {e6 : Int → Mm → Option (Int × Mm)} {c6 : Int → Int → Mm → Option (Int × Mm)} {r : Int × Mm} (he6 : ∀ (v4x : Int) (σ : Mm) (ls : Array Slot), lv_has ls 10 [(0, .ref (q 0)), (4, .int (i32 v4x))] → e6 v4x σ = some r → VM p l e rmX8_edgesAt s m args below meth c D ac q (QIM D ac q below args s r) σ (F0 m 103 ls [])) (hc6 : ∀ (v4x : Int) (v5x : Int) (σ : Mm) (ls : Array Slot), lv_has ls 10 [(0, .ref (q 0)), (1, .int (i32 v1)), (2, .int (i32 v2)), (3, .int (i32 v3)), (4, .int (i32 v4x)), (5, .int (i32 v5x))] → c6 v4x v5x σ = some r → VM p l e rmX8_edgesAt s m args below meth c D ac q (QIM D ac q below args s r) σ (F0 m 6 ls [])) (hl : lv_has ls 10 [(0, .ref (q 0)), (1, .int (i32 v1)), (2, .int (i32 v2)), (3, .int (i32 v3)), (4, .int (i32 v4)), (5, .int (i32 v5))]) (h : fX8_edgesAt_6 v1 v2 v3 e6 c6 v4 v5 σ = some r) : VM p l e rmX8_edgesAt s m args below meth c D ac q (QIM D ac q below args s r) σ (F0 m 6 ls []) := by
  have h : bd (fX8_rings σ) (fun x_1 => cr v5 (cr x_1 ((if v5 < x_1 then bd2 (fX8_ringAt v5 v3 σ) (fun x_4 σ_4 => bindv x_4 (fun v6_5 => bindv 0 (fun v7_6 => lX8_edgesAt_27 v1 v2 v3 v5 v6_5 σ_4 (fun v4_7 => fX8_edgesAt_97 c6 v1 v2 v3 v4_7 v5 σ_4) 400 v4 v7_6))) else e6 v4 σ)))) = some r := h
  refine v_iload C hl dX8_edgesAt_6 5 rfl ?_
  refine v_aload_n C hl dX8_edgesAt_8 rfl 0 rfl ?_
  obtain ⟨x_1, hv1, h⟩ := bd_e h
  refine v_callVI C 0 (klM kdM_0) rfl (ckM1 kdM_0 _) rfl [] (mX8_rings C.2.2.2.2.1 hv1) cd_X8_rings ic_X8 im_X8_rings se_X8_rings ml_X8_194 yk_X8_rings ⟨rfl, rfl, by decide, by decide⟩ rfl hl.1 (rest := [.int (i32 v5)]) rfl (Nat.le_of_ble_eq_true rfl) dX8_edgesAt_9 ?_
  have hz2 := (cr_e h).1
  have h := (cr_e h).2
  have hz3 := (cr_e h).1
  have h := (cr_e h).2
  refine v_icmp_ge C (tgt := 103) hz2 hz3 h dX8_edgesAt_12 rfl (fun h => ?_) (fun h => ?_)
  · exact he6 _ _ _ (lv_sub hl [0, 4] rfl) h
  · refine v_aload_n C hl dX8_edgesAt_15 rfl 0 rfl ?_
    refine v_iload C hl dX8_edgesAt_16 5 rfl ?_
    refine v_iload_n C hl dX8_edgesAt_18 rfl 3 rfl ?_
    obtain ⟨x_4, σ_4, hv4, h⟩ := bd2_e h
    refine v_callVI C 0 (klM kdM_0) rfl (ckM1 kdM_0 _) rfl [.int (i32 v5), .int (i32 v3)] (mX8_ringAt C.2.2.2.2.1 hv4) cd_X8_ringAt ic_X8 im_X8_ringAt se_X8_ringAt ml_X8_197 yk_X8_ringAt ⟨rfl, rfl, by decide, by decide⟩ rfl hl.1 (rest := []) rfl (Nat.le_of_ble_eq_true rfl) dX8_edgesAt_19 ?_
    refine v_istore C hl (fun x => [(6, .int (i32 x)), (0, .ref (q 0)), (1, .int (i32 v1)), (2, .int (i32 v2)), (3, .int (i32 v3)), (4, .int (i32 v4)), (5, .int (i32 v5))]) dX8_edgesAt_22 (by decide) (fun _ => rfl) h (fun v6_5 ls hl h => ?_)
    refine v_iconst C dX8_edgesAt_24 ?_
    refine v_istore C hl (fun x => [(7, .int (i32 x)), (6, .int (i32 v6_5)), (0, .ref (q 0)), (1, .int (i32 v1)), (2, .int (i32 v2)), (3, .int (i32 v3)), (4, .int (i32 v4)), (5, .int (i32 v5))]) dX8_edgesAt_25 (by decide) (fun _ => rfl) h (fun v7_6 ls hl h => ?_)
    exact wlX8_edgesAt_27 C hr (fun v4_7 ls hl h => wX8_edgesAt_97 C hr hc6 (lv_sub hl [0, 1, 2, 3, 4, 5] rfl) h) _ _ _ _ (lv_sub hl [2, 3, 4, 5, 6, 7, 1, 0] rfl) h
theorem wlX8_edgesAt_6 (C : CxM p rmX8_edgesAt s m args meth c D ac q RX8 cX8_edgesAt 10) (hr : meth.sig.returnType = (some .int)) {v1 : Int} {v2 : Int} {v3 : Int} {e6 : Int → Mm → Option (Int × Mm)} {r : Int × Mm} (he6 : ∀ (v4x : Int) (σ : Mm) (ls : Array Slot), lv_has ls 10 [(0, .ref (q 0)), (4, .int (i32 v4x))] → e6 v4x σ = some r → VM p l e rmX8_edgesAt s m args below meth c D ac q (QIM D ac q below args s r) σ (F0 m 103 ls [])) : ∀ (fu : Nat) (v4 : Int) (v5 : Int) (σ : Mm) (ls : Array Slot) (hl : lv_has ls 10 [(0, .ref (q 0)), (1, .int (i32 v1)), (2, .int (i32 v2)), (3, .int (i32 v3)), (4, .int (i32 v4)), (5, .int (i32 v5))]) (h : lX8_edgesAt_6 v1 v2 v3 e6 fu v4 v5 σ = some r), VM p l e rmX8_edgesAt s m args below meth c D ac q (QIM D ac q below args s r) σ (F0 m 6 ls []) := by
  intro fu
  induction fu with
  | zero =>
    intro v4 v5 σ ls hl h
    have h : none = some r := h
    cases h
  | succ fu ih =>
    intro v4 v5 σ ls hl h
    exact wX8_edgesAt_6 C hr he6 (fun v4 v5 σ ls hl h => ih v4 v5 σ ls hl h) hl h
theorem mX8_edgesAt (hq : QI 19 q) {v1 : Int} {v2 : Int} {v3 : Int} {σ : Mm} {r : Int × Mm} (h : fX8_edgesAt v1 v2 v3 σ = some r) : MIM l D ac q yX8_edgesAt cX8_edgesAt 10 (some .int) rmX8_edgesAt [.ref (q 0), .int (i32 v1), .int (i32 v2), .int (i32 v3)] σ r := by
  refine MI.of hq XT_M (by decide) (Nat.le_of_ble_eq_true rfl) (fun p e s m below meth c ls C hr hl => ?_)
  have hl : lv_has ls 10 [(0, .ref (q 0)), (1, .int (i32 v1)), (2, .int (i32 v2)), (3, .int (i32 v3))] := hl
  have h : bindv 0 (fun v4_1 => bindv 0 (fun v5_2 => lX8_edgesAt_6 v1 v2 v3 (fun v4_3 σ_4 => fX8_edgesAt_103 v4_3 σ_4) 400 v4_1 v5_2 σ)) = some r := h
  refine v_iconst C dX8_edgesAt_0 ?_
  refine v_istore C hl (fun x => [(4, .int (i32 x)), (0, .ref (q 0)), (1, .int (i32 v1)), (2, .int (i32 v2)), (3, .int (i32 v3))]) dX8_edgesAt_1 (by decide) (fun _ => rfl) h (fun v4_1 ls hl h => ?_)
  refine v_iconst C dX8_edgesAt_3 ?_
  refine v_istore C hl (fun x => [(5, .int (i32 x)), (4, .int (i32 v4_1)), (0, .ref (q 0)), (1, .int (i32 v1)), (2, .int (i32 v2)), (3, .int (i32 v3))]) dX8_edgesAt_4 (by decide) (fun _ => rfl) h (fun v5_2 ls hl h => ?_)
  exact wlX8_edgesAt_6 C hr (fun v4_3 σ_4 ls hl h => wX8_edgesAt_103 C hr (lv_sub hl [0, 1] rfl) h) _ _ _ _ _ (lv_sub hl [2, 3, 4, 5, 1, 0] rfl) h
end
section
variable {l : Launch} {D : va_G} {ac : Nat → ClassId} {q : Nat → Nat} {p : Program} {e : Env} {s : State} {m : MethodId} {args : Array Value} {below : List Frame} {meth : Method} {c : Code} {ls : Array Slot}
theorem dX8_ringArea_0 : decode cX8_ringArea 0 = .ok (.iconst 0, 1) := by decide +kernel
theorem dX8_ringArea_1 : decode cX8_ringArea 1 = .ok (.istore_n 2, 1) := by decide +kernel
theorem dX8_ringArea_2 : decode cX8_ringArea 2 = .ok (.iconst 0, 1) := by decide +kernel
theorem dX8_ringArea_3 : decode cX8_ringArea 3 = .ok (.istore_n 3, 1) := by decide +kernel
theorem dX8_ringArea_4 : decode cX8_ringArea 4 = .ok (.iload_n 3, 1) := by decide +kernel
theorem dX8_ringArea_5 : decode cX8_ringArea 5 = .ok (.iload_n 1, 1) := by decide +kernel
theorem dX8_ringArea_6 : decode cX8_ringArea 6 = .ok (.if_icmp .ge 69, 3) := by decide +kernel
theorem dX8_ringArea_9 : decode cX8_ringArea 9 = .ok (.aload_n 0, 1) := by decide +kernel
theorem dX8_ringArea_10 : decode cX8_ringArea 10 = .ok (.getfield 34, 3) := by decide +kernel
theorem dX8_ringArea_13 : decode cX8_ringArea 13 = .ok (.iload_n 3, 1) := by decide +kernel
theorem dX8_ringArea_14 : decode cX8_ringArea 14 = .ok (.iaload, 1) := by decide +kernel
theorem dX8_ringArea_15 : decode cX8_ringArea 15 = .ok (.istore 4, 2) := by decide +kernel
theorem dX8_ringArea_17 : decode cX8_ringArea 17 = .ok (.aload_n 0, 1) := by decide +kernel
theorem dX8_ringArea_18 : decode cX8_ringArea 18 = .ok (.getfield 34, 3) := by decide +kernel
theorem dX8_ringArea_21 : decode cX8_ringArea 21 = .ok (.iload_n 3, 1) := by decide +kernel
theorem dX8_ringArea_22 : decode cX8_ringArea 22 = .ok (.iconst 1, 1) := by decide +kernel
theorem dX8_ringArea_23 : decode cX8_ringArea 23 = .ok (.iadd, 1) := by decide +kernel
theorem dX8_ringArea_24 : decode cX8_ringArea 24 = .ok (.iload_n 1, 1) := by decide +kernel
theorem dX8_ringArea_25 : decode cX8_ringArea 25 = .ok (.irem, 1) := by decide +kernel
theorem dX8_ringArea_26 : decode cX8_ringArea 26 = .ok (.iaload, 1) := by decide +kernel
theorem dX8_ringArea_27 : decode cX8_ringArea 27 = .ok (.istore 5, 2) := by decide +kernel
theorem dX8_ringArea_29 : decode cX8_ringArea 29 = .ok (.iload_n 2, 1) := by decide +kernel
theorem dX8_ringArea_30 : decode cX8_ringArea 30 = .ok (.aload_n 0, 1) := by decide +kernel
theorem dX8_ringArea_31 : decode cX8_ringArea 31 = .ok (.getfield 7, 3) := by decide +kernel
theorem dX8_ringArea_34 : decode cX8_ringArea 34 = .ok (.iload 4, 2) := by decide +kernel
theorem dX8_ringArea_36 : decode cX8_ringArea 36 = .ok (.iaload, 1) := by decide +kernel
theorem dX8_ringArea_37 : decode cX8_ringArea 37 = .ok (.aload_n 0, 1) := by decide +kernel
theorem dX8_ringArea_38 : decode cX8_ringArea 38 = .ok (.getfield 7, 3) := by decide +kernel
theorem dX8_ringArea_41 : decode cX8_ringArea 41 = .ok (.bipush 24, 2) := by decide +kernel
theorem dX8_ringArea_43 : decode cX8_ringArea 43 = .ok (.iload 5, 2) := by decide +kernel
theorem dX8_ringArea_45 : decode cX8_ringArea 45 = .ok (.iadd, 1) := by decide +kernel
theorem dX8_ringArea_46 : decode cX8_ringArea 46 = .ok (.iaload, 1) := by decide +kernel
theorem dX8_ringArea_47 : decode cX8_ringArea 47 = .ok (.imul, 1) := by decide +kernel
theorem dX8_ringArea_48 : decode cX8_ringArea 48 = .ok (.aload_n 0, 1) := by decide +kernel
theorem dX8_ringArea_49 : decode cX8_ringArea 49 = .ok (.getfield 7, 3) := by decide +kernel
theorem dX8_ringArea_52 : decode cX8_ringArea 52 = .ok (.iload 5, 2) := by decide +kernel
theorem dX8_ringArea_54 : decode cX8_ringArea 54 = .ok (.iaload, 1) := by decide +kernel
theorem dX8_ringArea_55 : decode cX8_ringArea 55 = .ok (.aload_n 0, 1) := by decide +kernel
theorem dX8_ringArea_56 : decode cX8_ringArea 56 = .ok (.getfield 7, 3) := by decide +kernel
theorem dX8_ringArea_59 : decode cX8_ringArea 59 = .ok (.bipush 24, 2) := by decide +kernel
theorem dX8_ringArea_61 : decode cX8_ringArea 61 = .ok (.iload 4, 2) := by decide +kernel
theorem dX8_ringArea_63 : decode cX8_ringArea 63 = .ok (.iadd, 1) := by decide +kernel
theorem dX8_ringArea_64 : decode cX8_ringArea 64 = .ok (.iaload, 1) := by decide +kernel
theorem dX8_ringArea_65 : decode cX8_ringArea 65 = .ok (.imul, 1) := by decide +kernel
theorem dX8_ringArea_66 : decode cX8_ringArea 66 = .ok (.isub, 1) := by decide +kernel
theorem dX8_ringArea_67 : decode cX8_ringArea 67 = .ok (.iadd, 1) := by decide +kernel
theorem dX8_ringArea_68 : decode cX8_ringArea 68 = .ok (.istore_n 2, 1) := by decide +kernel
theorem dX8_ringArea_69 : decode cX8_ringArea 69 = .ok (.iinc 3 1, 3) := by decide +kernel
theorem dX8_ringArea_72 : decode cX8_ringArea 72 = .ok (.goto (-68), 3) := by decide +kernel
theorem dX8_ringArea_75 : decode cX8_ringArea 75 = .ok (.iload_n 2, 1) := by decide +kernel
theorem dX8_ringArea_76 : decode cX8_ringArea 76 = .ok (.ireturn, 1) := by decide +kernel
theorem wX8_ringArea_75 (C : CxM p rmX8_ringArea s m args meth c D ac q RX8 cX8_ringArea 6) (hr : meth.sig.returnType = (some .int)) {v2 : Int} {σ : Mm} {r : Int} (hl : lv_has ls 6 [(0, .ref (q 0)), (2, .int (i32 v2))]) (h : fX8_ringArea_75 v2 σ = some r) : VM p l e rmX8_ringArea s m args below meth c D ac q (QIM D ac q below args s (r, σ)) σ (F0 m 75 ls []) := by
  have h : some v2 = some r := h
  refine v_iload_n C hl dX8_ringArea_75 rfl 1 rfl ?_
  exact v_iret C hr (so1 h) dX8_ringArea_76
theorem wX8_ringArea_4 (C : CxM p rmX8_ringArea s m args meth c D ac q RX8 cX8_ringArea 6) (hr : meth.sig.returnType = (some .int)) {v1 : Int} {σ : Mm} {v2 : Int} {v3 : Int} {e4 : Int → Option (Int)} {c4 : Int → Int → Option (Int)} {r : Int} (he4 : ∀ (v2x : Int) (ls : Array Slot), lv_has ls 6 [(0, .ref (q 0)), (2, .int (i32 v2x))] → e4 v2x = some r → VM p l e rmX8_ringArea s m args below meth c D ac q (QIM D ac q below args s (r, σ)) σ (F0 m 75 ls [])) (hc4 : ∀ (v2x : Int) (v3x : Int) (ls : Array Slot), lv_has ls 6 [(0, .ref (q 0)), (1, .int (i32 v1)), (2, .int (i32 v2x)), (3, .int (i32 v3x))] → c4 v2x v3x = some r → VM p l e rmX8_ringArea s m args below meth c D ac q (QIM D ac q below args s (r, σ)) σ (F0 m 4 ls [])) (hl : lv_has ls 6 [(0, .ref (q 0)), (1, .int (i32 v1)), (2, .int (i32 v2)), (3, .int (i32 v3))]) (h : fX8_ringArea_4 v1 σ e4 c4 v2 v3 = some r) : VM p l e rmX8_ringArea s m args below meth c D ac q (QIM D ac q below args s (r, σ)) σ (F0 m 4 ls []) := by
  have h : cr v3 (cr v1 ((if v3 < v1 then chk v3 10 (bindv (σ 9 (v3).toNat) (fun v4_3 => chd (v3 + 1) v1 (chk ((v3 + 1) % v1) 10 (bindv (σ 9 ((v3 + 1) % v1).toNat) (fun v5_4 => chk v4_3 700 (chk (24 + v5_4) 700 (chk v5_4 700 (chk (24 + v4_3) 700 (bindv (v2 + (((σ 1 (v4_3).toNat) * (σ 1 (24 + v5_4).toNat)) - ((σ 1 (v5_4).toNat) * (σ 1 (24 + v4_3).toNat)))) (fun v2_5 => bindv (v3 + 1) (fun v3_6 => c4 v2_5 v3_6))))))))))) else e4 v2))) = some r := h
  refine v_iload_n C hl dX8_ringArea_4 rfl 3 rfl ?_
  refine v_iload_n C hl dX8_ringArea_5 rfl 1 rfl ?_
  have hz1 := (cr_e h).1
  have h := (cr_e h).2
  have hz2 := (cr_e h).1
  have h := (cr_e h).2
  refine v_icmp_ge C (tgt := 75) hz1 hz2 h dX8_ringArea_6 rfl (fun h => ?_) (fun h => ?_)
  · exact he4 _ _ (lv_sub hl [0, 2] rfl) h
  · refine v_aload_n C hl dX8_ringArea_9 rfl 0 rfl ?_
    refine g_X8_19 C kdM_0 fl_X8_34 dX8_ringArea_10 ?_
    refine v_iload_n C hl dX8_ringArea_13 rfl 3 rfl ?_
    refine alM8 C kdM_9 h dX8_ringArea_14 (fun h => ?_)
    refine v_istore C hl (fun x => [(4, .int (i32 x)), (0, .ref (q 0)), (1, .int (i32 v1)), (2, .int (i32 v2)), (3, .int (i32 v3))]) dX8_ringArea_15 (by decide) (fun _ => rfl) h (fun v4_3 ls hl h => ?_)
    refine v_aload_n C hl dX8_ringArea_17 rfl 1 rfl ?_
    refine g_X8_19 C kdM_0 fl_X8_34 dX8_ringArea_18 ?_
    refine v_iload_n C hl dX8_ringArea_21 rfl 4 rfl ?_
    refine v_iconst C dX8_ringArea_22 ?_
    refine v_iadd C dX8_ringArea_23 ?_
    refine v_iload_n C hl dX8_ringArea_24 rfl 2 rfl ?_
    refine v_irem C h dX8_ringArea_25 (fun h => ?_)
    refine alM8 C kdM_9 h dX8_ringArea_26 (fun h => ?_)
    refine v_istore C hl (fun x => [(5, .int (i32 x)), (4, .int (i32 v4_3)), (0, .ref (q 0)), (1, .int (i32 v1)), (2, .int (i32 v2)), (3, .int (i32 v3))]) dX8_ringArea_27 (by decide) (fun _ => rfl) h (fun v5_4 ls hl h => ?_)
    refine v_iload_n C hl dX8_ringArea_29 rfl 4 rfl ?_
    refine v_aload_n C hl dX8_ringArea_30 rfl 2 rfl ?_
    refine g_X8_0 C kdM_0 fl_X8_7 dX8_ringArea_31 ?_
    refine v_iload C hl dX8_ringArea_34 1 rfl ?_
    refine alM2 C kdM_1 h dX8_ringArea_36 (fun h => ?_)
    refine v_aload_n C hl dX8_ringArea_37 rfl 2 rfl ?_
    refine g_X8_0 C kdM_0 fl_X8_7 dX8_ringArea_38 ?_
    refine v_bipush C dX8_ringArea_41 rfl ?_
    refine v_iload C hl dX8_ringArea_43 0 rfl ?_
    refine v_iadd C dX8_ringArea_45 ?_
    refine alM2 C kdM_1 h dX8_ringArea_46 (fun h => ?_)
    refine v_imul C dX8_ringArea_47 ?_
    refine v_aload_n C hl dX8_ringArea_48 rfl 2 rfl ?_
    refine g_X8_0 C kdM_0 fl_X8_7 dX8_ringArea_49 ?_
    refine v_iload C hl dX8_ringArea_52 0 rfl ?_
    refine alM2 C kdM_1 h dX8_ringArea_54 (fun h => ?_)
    refine v_aload_n C hl dX8_ringArea_55 rfl 2 rfl ?_
    refine g_X8_0 C kdM_0 fl_X8_7 dX8_ringArea_56 ?_
    refine v_bipush C dX8_ringArea_59 rfl ?_
    refine v_iload C hl dX8_ringArea_61 1 rfl ?_
    refine v_iadd C dX8_ringArea_63 ?_
    refine alM2 C kdM_1 h dX8_ringArea_64 (fun h => ?_)
    refine v_imul C dX8_ringArea_65 ?_
    refine v_isub C dX8_ringArea_66 ?_
    refine v_iadd C dX8_ringArea_67 ?_
    refine v_istore_n C hl (fun x => [(2, .int (i32 x)), (5, .int (i32 v5_4)), (4, .int (i32 v4_3)), (0, .ref (q 0)), (1, .int (i32 v1)), (3, .int (i32 v3))]) dX8_ringArea_68 rfl (by decide) (fun _ => rfl) h (fun v2_5 ls hl h => ?_)
    refine v_iinc C hl (fun x => [(3, .int (i32 x)), (2, .int (i32 v2_5)), (5, .int (i32 v5_4)), (4, .int (i32 v4_3)), (0, .ref (q 0)), (1, .int (i32 v1))]) dX8_ringArea_69 5 rfl (by decide) (fun _ => rfl) h (fun v3_6 ls hl h => ?_)
    refine v_goto C (tgt := 4) dX8_ringArea_72 rfl ?_
    exact hc4 _ _ _ (lv_sub hl [4, 5, 1, 0] rfl) h
theorem wlX8_ringArea_4 (C : CxM p rmX8_ringArea s m args meth c D ac q RX8 cX8_ringArea 6) (hr : meth.sig.returnType = (some .int)) {v1 : Int} {σ : Mm} {e4 : Int → Option (Int)} {r : Int} (he4 : ∀ (v2x : Int) (ls : Array Slot), lv_has ls 6 [(0, .ref (q 0)), (2, .int (i32 v2x))] → e4 v2x = some r → VM p l e rmX8_ringArea s m args below meth c D ac q (QIM D ac q below args s (r, σ)) σ (F0 m 75 ls [])) : ∀ (fu : Nat) (v2 : Int) (v3 : Int) (ls : Array Slot) (hl : lv_has ls 6 [(0, .ref (q 0)), (1, .int (i32 v1)), (2, .int (i32 v2)), (3, .int (i32 v3))]) (h : lX8_ringArea_4 v1 σ e4 fu v2 v3 = some r), VM p l e rmX8_ringArea s m args below meth c D ac q (QIM D ac q below args s (r, σ)) σ (F0 m 4 ls []) := by
  intro fu
  induction fu with
  | zero =>
    intro v2 v3 ls hl h
    have h : none = some r := h
    cases h
  | succ fu ih =>
    intro v2 v3 ls hl h
    exact wX8_ringArea_4 C hr he4 (fun v2 v3 ls hl h => ih v2 v3 ls hl h) hl h
theorem mX8_ringArea (hq : QI 19 q) {v1 : Int} {σ : Mm} {r : Int} (h : fX8_ringArea v1 σ = some r) : MIM l D ac q yX8_ringArea cX8_ringArea 6 (some .int) rmX8_ringArea [.ref (q 0), .int (i32 v1)] σ (r, σ) := by
  refine MI.of hq XT_M (by decide) (Nat.le_of_ble_eq_true rfl) (fun p e s m below meth c ls C hr hl => ?_)
  have hl : lv_has ls 6 [(0, .ref (q 0)), (1, .int (i32 v1))] := hl
  have h : bindv 0 (fun v2_1 => bindv 0 (fun v3_2 => lX8_ringArea_4 v1 σ (fun v2_3 => fX8_ringArea_75 v2_3 σ) 400 v2_1 v3_2)) = some r := h
  refine v_iconst C dX8_ringArea_0 ?_
  refine v_istore_n C hl (fun x => [(2, .int (i32 x)), (0, .ref (q 0)), (1, .int (i32 v1))]) dX8_ringArea_1 rfl (by decide) (fun _ => rfl) h (fun v2_1 ls hl h => ?_)
  refine v_iconst C dX8_ringArea_2 ?_
  refine v_istore_n C hl (fun x => [(3, .int (i32 x)), (2, .int (i32 v2_1)), (0, .ref (q 0)), (1, .int (i32 v1))]) dX8_ringArea_3 rfl (by decide) (fun _ => rfl) h (fun v3_2 ls hl h => ?_)
  exact wlX8_ringArea_4 C hr (fun v2_3 ls hl h => wX8_ringArea_75 C hr (lv_sub hl [0, 1] rfl) h) _ _ _ _ (lv_sub hl [2, 3, 1, 0] rfl) h
end
section
variable {l : Launch} {D : va_G} {ac : Nat → ClassId} {q : Nat → Nat} {p : Program} {e : Env} {s : State} {m : MethodId} {args : Array Value} {below : List Frame} {meth : Method} {c : Code} {ls : Array Slot}
theorem dX8_signOf_0 : decode cX8_signOf 0 = .ok (.iload_n 0, 1) := by decide +kernel
theorem dX8_signOf_1 : decode cX8_signOf 1 = .ok (.ifCond .le 7, 3) := by decide +kernel
theorem dX8_signOf_4 : decode cX8_signOf 4 = .ok (.iconst 1, 1) := by decide +kernel
theorem dX8_signOf_5 : decode cX8_signOf 5 = .ok (.goto 12, 3) := by decide +kernel
theorem dX8_signOf_8 : decode cX8_signOf 8 = .ok (.iload_n 0, 1) := by decide +kernel
theorem dX8_signOf_9 : decode cX8_signOf 9 = .ok (.ifCond .ge 7, 3) := by decide +kernel
theorem dX8_signOf_12 : decode cX8_signOf 12 = .ok (.iconst (-1), 1) := by decide +kernel
theorem dX8_signOf_13 : decode cX8_signOf 13 = .ok (.goto 4, 3) := by decide +kernel
theorem dX8_signOf_16 : decode cX8_signOf 16 = .ok (.iconst 0, 1) := by decide +kernel
theorem dX8_signOf_17 : decode cX8_signOf 17 = .ok (.ireturn, 1) := by decide +kernel
theorem wX8_signOf_17 (C : CxM p rmX8_signOf s m args meth c D ac q RX8 cX8_signOf 1) (hr : meth.sig.returnType = (some .int)) {t0 : Int} {σ : Mm} {r : Int} (hl : lv_has ls 1 []) (h : fX8_signOf_17 t0 σ = some r) : VM p l e rmX8_signOf s m args below meth c D ac q (QIM D ac q below args s (r, σ)) σ (F0 m 17 ls [.int (i32 t0)]) := by
  have h : some t0 = some r := h
  exact v_iret C hr (so1 h) dX8_signOf_17
theorem mX8_signOf (hq : QI 19 q) {v0 : Int} {σ : Mm} {r : Int} (h : fX8_signOf v0 σ = some r) : MIM l D ac q yX8_signOf cX8_signOf 1 (some .int) rmX8_signOf [.int (i32 v0)] σ (r, σ) := by
  refine MI.of hq XT_M (by decide) (Nat.le_of_ble_eq_true rfl) (fun p e s m below meth c ls C hr hl => ?_)
  have hl : lv_has ls 1 [(0, .int (i32 v0))] := hl
  have h : cr v0 ((if 0 < v0 then fX8_signOf_17 1 σ else cr v0 ((if v0 < 0 then fX8_signOf_17 (-1) σ else fX8_signOf_17 0 σ)))) = some r := h
  refine v_iload_n C hl dX8_signOf_0 rfl 0 rfl ?_
  have hz1 := (cr_e h).1
  have h := (cr_e h).2
  refine v_if_le C (tgt := 8) hz1 h dX8_signOf_1 rfl (fun h => ?_) (fun h => ?_)
  · refine v_iload_n C hl dX8_signOf_8 rfl 0 rfl ?_
    have hz2 := (cr_e h).1
    have h := (cr_e h).2
    refine v_if_ge C (tgt := 16) hz2 h dX8_signOf_9 rfl (fun h => ?_) (fun h => ?_)
    · refine v_iconst C dX8_signOf_16 ?_
      exact wX8_signOf_17 C hr (lv_sub hl [] rfl) h
    · refine v_iconst C dX8_signOf_12 ?_
      refine v_goto C (tgt := 17) dX8_signOf_13 rfl ?_
      exact wX8_signOf_17 C hr (lv_sub hl [] rfl) h
  · refine v_iconst C dX8_signOf_4 ?_
    refine v_goto C (tgt := 17) dX8_signOf_5 rfl ?_
    exact wX8_signOf_17 C hr (lv_sub hl [] rfl) h
end
section
variable {l : Launch} {D : va_G} {ac : Nat → ClassId} {q : Nat → Nat} {p : Program} {e : Env} {s : State} {m : MethodId} {args : Array Value} {below : List Frame} {meth : Method} {c : Code} {ls : Array Slot}
theorem dX8_ringsWhy_0 : decode cX8_ringsWhy 0 = .ok (.iconst 0, 1) := by decide +kernel
theorem dX8_ringsWhy_1 : decode cX8_ringsWhy 1 = .ok (.istore 4, 2) := by decide +kernel
theorem dX8_ringsWhy_3 : decode cX8_ringsWhy 3 = .ok (.iload 4, 2) := by decide +kernel
theorem dX8_ringsWhy_5 : decode cX8_ringsWhy 5 = .ok (.aload_n 0, 1) := by decide +kernel
theorem dX8_ringsWhy_6 : decode cX8_ringsWhy 6 = .ok (.invokevirtual 194, 3) := by decide +kernel
theorem dX8_ringsWhy_9 : decode cX8_ringsWhy 9 = .ok (.if_icmp .ge 124, 3) := by decide +kernel
theorem dX8_ringsWhy_12 : decode cX8_ringsWhy 12 = .ok (.aload_n 0, 1) := by decide +kernel
theorem dX8_ringsWhy_13 : decode cX8_ringsWhy 13 = .ok (.iload 4, 2) := by decide +kernel
theorem dX8_ringsWhy_15 : decode cX8_ringsWhy 15 = .ok (.iload_n 2, 1) := by decide +kernel
theorem dX8_ringsWhy_16 : decode cX8_ringsWhy 16 = .ok (.invokevirtual 197, 3) := by decide +kernel
theorem dX8_ringsWhy_19 : decode cX8_ringsWhy 19 = .ok (.istore 5, 2) := by decide +kernel
theorem dX8_ringsWhy_21 : decode cX8_ringsWhy 21 = .ok (.aload_n 0, 1) := by decide +kernel
theorem dX8_ringsWhy_22 : decode cX8_ringsWhy 22 = .ok (.iload 5, 2) := by decide +kernel
theorem dX8_ringsWhy_24 : decode cX8_ringsWhy 24 = .ok (.iload_n 1, 1) := by decide +kernel
theorem dX8_ringsWhy_25 : decode cX8_ringsWhy 25 = .ok (.invokevirtual 200, 3) := by decide +kernel
theorem dX8_ringsWhy_28 : decode cX8_ringsWhy 28 = .ok (.istore 6, 2) := by decide +kernel
theorem dX8_ringsWhy_30 : decode cX8_ringsWhy 30 = .ok (.iload 6, 2) := by decide +kernel
theorem dX8_ringsWhy_32 : decode cX8_ringsWhy 32 = .ok (.bipush (-4), 2) := by decide +kernel
theorem dX8_ringsWhy_34 : decode cX8_ringsWhy 34 = .ok (.if_icmp .eq 93, 3) := by decide +kernel
theorem dX8_ringsWhy_37 : decode cX8_ringsWhy 37 = .ok (.aload_n 0, 1) := by decide +kernel
theorem dX8_ringsWhy_38 : decode cX8_ringsWhy 38 = .ok (.iload 5, 2) := by decide +kernel
theorem dX8_ringsWhy_40 : decode cX8_ringsWhy 40 = .ok (.invokevirtual 212, 3) := by decide +kernel
theorem dX8_ringsWhy_43 : decode cX8_ringsWhy 43 = .ok (.istore 7, 2) := by decide +kernel
theorem dX8_ringsWhy_45 : decode cX8_ringsWhy 45 = .ok (.iload 6, 2) := by decide +kernel
theorem dX8_ringsWhy_47 : decode cX8_ringsWhy 47 = .ok (.istore 8, 2) := by decide +kernel
theorem dX8_ringsWhy_49 : decode cX8_ringsWhy 49 = .ok (.iload 8, 2) := by decide +kernel
theorem dX8_ringsWhy_51 : decode cX8_ringsWhy 51 = .ok (.iconst 1, 1) := by decide +kernel
theorem dX8_ringsWhy_52 : decode cX8_ringsWhy 52 = .ok (.iadd, 1) := by decide +kernel
theorem dX8_ringsWhy_53 : decode cX8_ringsWhy 53 = .ok (.iload 5, 2) := by decide +kernel
theorem dX8_ringsWhy_55 : decode cX8_ringsWhy 55 = .ok (.if_icmp .ge 25, 3) := by decide +kernel
theorem dX8_ringsWhy_58 : decode cX8_ringsWhy 58 = .ok (.aload_n 0, 1) := by decide +kernel
theorem dX8_ringsWhy_59 : decode cX8_ringsWhy 59 = .ok (.getfield 34, 3) := by decide +kernel
theorem dX8_ringsWhy_62 : decode cX8_ringsWhy 62 = .ok (.iload 8, 2) := by decide +kernel
theorem dX8_ringsWhy_64 : decode cX8_ringsWhy 64 = .ok (.aload_n 0, 1) := by decide +kernel
theorem dX8_ringsWhy_65 : decode cX8_ringsWhy 65 = .ok (.getfield 34, 3) := by decide +kernel
theorem dX8_ringsWhy_68 : decode cX8_ringsWhy 68 = .ok (.iload 8, 2) := by decide +kernel
theorem dX8_ringsWhy_70 : decode cX8_ringsWhy 70 = .ok (.iconst 1, 1) := by decide +kernel
theorem dX8_ringsWhy_71 : decode cX8_ringsWhy 71 = .ok (.iadd, 1) := by decide +kernel
theorem dX8_ringsWhy_72 : decode cX8_ringsWhy 72 = .ok (.iaload, 1) := by decide +kernel
theorem dX8_ringsWhy_73 : decode cX8_ringsWhy 73 = .ok (.iastore, 1) := by decide +kernel
theorem dX8_ringsWhy_74 : decode cX8_ringsWhy 74 = .ok (.iinc 8 1, 3) := by decide +kernel
theorem dX8_ringsWhy_77 : decode cX8_ringsWhy 77 = .ok (.goto (-28), 3) := by decide +kernel
theorem dX8_ringsWhy_80 : decode cX8_ringsWhy 80 = .ok (.aload_n 0, 1) := by decide +kernel
theorem dX8_ringsWhy_81 : decode cX8_ringsWhy 81 = .ok (.iload 5, 2) := by decide +kernel
theorem dX8_ringsWhy_83 : decode cX8_ringsWhy 83 = .ok (.iconst 1, 1) := by decide +kernel
theorem dX8_ringsWhy_84 : decode cX8_ringsWhy 84 = .ok (.isub, 1) := by decide +kernel
theorem dX8_ringsWhy_85 : decode cX8_ringsWhy 85 = .ok (.invokevirtual 212, 3) := by decide +kernel
theorem dX8_ringsWhy_88 : decode cX8_ringsWhy 88 = .ok (.istore 8, 2) := by decide +kernel
theorem dX8_ringsWhy_90 : decode cX8_ringsWhy 90 = .ok (.iload_n 3, 1) := by decide +kernel
theorem dX8_ringsWhy_91 : decode cX8_ringsWhy 91 = .ok (.iconst 3, 1) := by decide +kernel
theorem dX8_ringsWhy_92 : decode cX8_ringsWhy 92 = .ok (.if_icmp .ne 12, 3) := by decide +kernel
theorem dX8_ringsWhy_95 : decode cX8_ringsWhy 95 = .ok (.iload 5, 2) := by decide +kernel
theorem dX8_ringsWhy_97 : decode cX8_ringsWhy 97 = .ok (.iconst 3, 1) := by decide +kernel
theorem dX8_ringsWhy_98 : decode cX8_ringsWhy 98 = .ok (.if_icmp .gt 29, 3) := by decide +kernel
theorem dX8_ringsWhy_101 : decode cX8_ringsWhy 101 = .ok (.goto 24, 3) := by decide +kernel
theorem dX8_ringsWhy_104 : decode cX8_ringsWhy 104 = .ok (.iload 8, 2) := by decide +kernel
theorem dX8_ringsWhy_106 : decode cX8_ringsWhy 106 = .ok (.invokestatic 165, 3) := by decide +kernel
theorem dX8_ringsWhy_109 : decode cX8_ringsWhy 109 = .ok (.ifCond .eq 16, 3) := by decide +kernel
theorem dX8_ringsWhy_112 : decode cX8_ringsWhy 112 = .ok (.iload 8, 2) := by decide +kernel
theorem dX8_ringsWhy_114 : decode cX8_ringsWhy 114 = .ok (.invokestatic 165, 3) := by decide +kernel
theorem dX8_ringsWhy_117 : decode cX8_ringsWhy 117 = .ok (.iload 7, 2) := by decide +kernel
theorem dX8_ringsWhy_119 : decode cX8_ringsWhy 119 = .ok (.invokestatic 165, 3) := by decide +kernel
theorem dX8_ringsWhy_122 : decode cX8_ringsWhy 122 = .ok (.if_icmp .eq 5, 3) := by decide +kernel
theorem dX8_ringsWhy_125 : decode cX8_ringsWhy 125 = .ok (.iload_n 3, 1) := by decide +kernel
theorem dX8_ringsWhy_126 : decode cX8_ringsWhy 126 = .ok (.ireturn, 1) := by decide +kernel
theorem dX8_ringsWhy_127 : decode cX8_ringsWhy 127 = .ok (.iinc 4 1, 3) := by decide +kernel
theorem dX8_ringsWhy_130 : decode cX8_ringsWhy 130 = .ok (.goto (-127), 3) := by decide +kernel
theorem dX8_ringsWhy_133 : decode cX8_ringsWhy 133 = .ok (.iconst 0, 1) := by decide +kernel
theorem dX8_ringsWhy_134 : decode cX8_ringsWhy 134 = .ok (.ireturn, 1) := by decide +kernel
theorem wX8_ringsWhy_133 (C : CxM p rmX8_ringsWhy s m args meth c D ac q RX8 cX8_ringsWhy 9) (hr : meth.sig.returnType = (some .int)) {σ : Mm} {r : Int × Mm} (hl : lv_has ls 9 [(0, .ref (q 0))]) (h : fX8_ringsWhy_133 σ = some r) : VM p l e rmX8_ringsWhy s m args below meth c D ac q (QIM D ac q below args s r) σ (F0 m 133 ls []) := by
  have h : some (0, σ) = some r := h
  refine v_iconst C dX8_ringsWhy_133 ?_
  exact v_iret C hr h dX8_ringsWhy_134
theorem wX8_ringsWhy_127 (C : CxM p rmX8_ringsWhy s m args meth c D ac q RX8 cX8_ringsWhy 9) (hr : meth.sig.returnType = (some .int)) {v1 : Int} {v2 : Int} {v3 : Int} {v4 : Int} {c3 : Int → Mm → Option (Int × Mm)} {σ : Mm} {r : Int × Mm} (hc3 : ∀ (v4x : Int) (σ : Mm) (ls : Array Slot), lv_has ls 9 [(0, .ref (q 0)), (1, .int (i32 v1)), (2, .int (i32 v2)), (3, .int (i32 v3)), (4, .int (i32 v4x))] → c3 v4x σ = some r → VM p l e rmX8_ringsWhy s m args below meth c D ac q (QIM D ac q below args s r) σ (F0 m 3 ls [])) (hl : lv_has ls 9 [(0, .ref (q 0)), (1, .int (i32 v1)), (2, .int (i32 v2)), (3, .int (i32 v3)), (4, .int (i32 v4))]) (h : fX8_ringsWhy_127 c3 v1 v2 v3 v4 σ = some r) : VM p l e rmX8_ringsWhy s m args below meth c D ac q (QIM D ac q below args s r) σ (F0 m 127 ls []) := by
  have h : bindv (v4 + 1) (fun v4_1 => c3 v4_1 σ) = some r := h
  refine v_iinc C hl (fun x => [(4, .int (i32 x)), (0, .ref (q 0)), (1, .int (i32 v1)), (2, .int (i32 v2)), (3, .int (i32 v3))]) dX8_ringsWhy_127 4 rfl (by decide) (fun _ => rfl) h (fun v4_1 ls hl h => ?_)
  refine v_goto C (tgt := 3) dX8_ringsWhy_130 rfl ?_
  exact hc3 _ _ _ (lv_sub hl [1, 2, 3, 4, 0] rfl) h
theorem wX8_ringsWhy_125 (C : CxM p rmX8_ringsWhy s m args meth c D ac q RX8 cX8_ringsWhy 9) (hr : meth.sig.returnType = (some .int)) {v3 : Int} {σ : Mm} {r : Int × Mm} (hl : lv_has ls 9 [(0, .ref (q 0)), (3, .int (i32 v3))]) (h : fX8_ringsWhy_125 v3 σ = some r) : VM p l e rmX8_ringsWhy s m args below meth c D ac q (QIM D ac q below args s r) σ (F0 m 125 ls []) := by
  have h : some (v3, σ) = some r := h
  refine v_iload_n C hl dX8_ringsWhy_125 rfl 1 rfl ?_
  exact v_iret C hr h dX8_ringsWhy_126
theorem wX8_ringsWhy_80 (C : CxM p rmX8_ringsWhy s m args meth c D ac q RX8 cX8_ringsWhy 9) (hr : meth.sig.returnType = (some .int)) {v1 : Int} {v2 : Int} {v3 : Int} {v4 : Int} {v5 : Int} {v7 : Int} {c3 : Int → Mm → Option (Int × Mm)} {σ : Mm} {r : Int × Mm} (hc3 : ∀ (v4x : Int) (σ : Mm) (ls : Array Slot), lv_has ls 9 [(0, .ref (q 0)), (1, .int (i32 v1)), (2, .int (i32 v2)), (3, .int (i32 v3)), (4, .int (i32 v4x))] → c3 v4x σ = some r → VM p l e rmX8_ringsWhy s m args below meth c D ac q (QIM D ac q below args s r) σ (F0 m 3 ls [])) (hl : lv_has ls 9 [(0, .ref (q 0)), (1, .int (i32 v1)), (2, .int (i32 v2)), (3, .int (i32 v3)), (4, .int (i32 v4)), (5, .int (i32 v5)), (7, .int (i32 v7))]) (h : fX8_ringsWhy_80 c3 v1 v2 v3 v4 v5 v7 σ = some r) : VM p l e rmX8_ringsWhy s m args below meth c D ac q (QIM D ac q below args s r) σ (F0 m 80 ls []) := by
  have h : bd (fX8_ringArea (v5 - 1) σ) (fun x_1 => bindv x_1 (fun v8_2 => cr v3 ((if v3 = 3 then cr v5 ((if 3 < v5 then fX8_ringsWhy_127 c3 v1 v2 v3 v4 σ else fX8_ringsWhy_125 v3 σ)) else bd (fX8_signOf v8_2 σ) (fun x_4 => cr x_4 ((if x_4 = 0 then fX8_ringsWhy_125 v3 σ else bd (fX8_signOf v8_2 σ) (fun x_6 => bd (fX8_signOf v7 σ) (fun x_7 => cr x_6 (cr x_7 ((if x_6 = x_7 then fX8_ringsWhy_127 c3 v1 v2 v3 v4 σ else fX8_ringsWhy_125 v3 σ)))))))))))) = some r := h
  refine v_aload_n C hl dX8_ringsWhy_80 rfl 0 rfl ?_
  refine v_iload C hl dX8_ringsWhy_81 5 rfl ?_
  refine v_iconst C dX8_ringsWhy_83 ?_
  refine v_isub C dX8_ringsWhy_84 ?_
  obtain ⟨x_1, hv1, h⟩ := bd_e h
  refine v_callVI C 0 (klM kdM_0) rfl (ckM1 kdM_0 _) rfl [.int (i32 (v5 - 1))] (mX8_ringArea C.2.2.2.2.1 hv1) cd_X8_ringArea ic_X8 im_X8_ringArea se_X8_ringArea ml_X8_212 yk_X8_ringArea ⟨rfl, rfl, by decide, by decide⟩ rfl hl.1 (rest := []) rfl (Nat.le_of_ble_eq_true rfl) dX8_ringsWhy_85 ?_
  refine v_istore C hl (fun x => [(8, .int (i32 x)), (0, .ref (q 0)), (1, .int (i32 v1)), (2, .int (i32 v2)), (3, .int (i32 v3)), (4, .int (i32 v4)), (5, .int (i32 v5)), (7, .int (i32 v7))]) dX8_ringsWhy_88 (by decide) (fun _ => rfl) h (fun v8_2 ls hl h => ?_)
  refine v_iload_n C hl dX8_ringsWhy_90 rfl 4 rfl ?_
  refine v_iconst C dX8_ringsWhy_91 ?_
  have hz3 := (cr_e h).1
  have h := (cr_e h).2
  refine v_icmp_ne C (tgt := 104) hz3 (by decide) h dX8_ringsWhy_92 rfl (fun h => ?_) (fun h => ?_)
  · refine v_iload C hl dX8_ringsWhy_104 0 rfl ?_
    obtain ⟨x_4, hv4, h⟩ := bd_e h
    refine v_callSI C [.int (i32 v8_2)] (mX8_signOf C.2.2.2.2.1 hv4) cd_X8_signOf ic_X8 sm_X8_signOf ml_X8_165 yk_X8_signOf ⟨rfl, rfl, by decide, by decide⟩ rfl hl.1 (rest := []) rfl (Nat.le_of_ble_eq_true rfl) dX8_ringsWhy_106 ?_
    have hz5 := (cr_e h).1
    have h := (cr_e h).2
    refine v_if_eq C (tgt := 125) hz5 h dX8_ringsWhy_109 rfl (fun h => ?_) (fun h => ?_)
    · exact wX8_ringsWhy_125 C hr (lv_sub hl [1, 4] rfl) h
    · refine v_iload C hl dX8_ringsWhy_112 0 rfl ?_
      obtain ⟨x_6, hv6, h⟩ := bd_e h
      refine v_callSI C [.int (i32 v8_2)] (mX8_signOf C.2.2.2.2.1 hv6) cd_X8_signOf ic_X8 sm_X8_signOf ml_X8_165 yk_X8_signOf ⟨rfl, rfl, by decide, by decide⟩ rfl hl.1 (rest := []) rfl (Nat.le_of_ble_eq_true rfl) dX8_ringsWhy_114 ?_
      refine v_iload C hl dX8_ringsWhy_117 7 rfl ?_
      obtain ⟨x_7, hv7, h⟩ := bd_e h
      refine v_callSI C [.int (i32 v7)] (mX8_signOf C.2.2.2.2.1 hv7) cd_X8_signOf ic_X8 sm_X8_signOf ml_X8_165 yk_X8_signOf ⟨rfl, rfl, by decide, by decide⟩ rfl hl.1 (rest := [.int (i32 x_6)]) rfl (Nat.le_of_ble_eq_true rfl) dX8_ringsWhy_119 ?_
      have hz8 := (cr_e h).1
      have h := (cr_e h).2
      have hz9 := (cr_e h).1
      have h := (cr_e h).2
      refine v_icmp_eq C (tgt := 127) hz8 hz9 h dX8_ringsWhy_122 rfl (fun h => ?_) (fun h => ?_)
      · exact wX8_ringsWhy_127 C hr hc3 (lv_sub hl [1, 2, 3, 4, 5] rfl) h
      · exact wX8_ringsWhy_125 C hr (lv_sub hl [1, 4] rfl) h
  · refine v_iload C hl dX8_ringsWhy_95 6 rfl ?_
    refine v_iconst C dX8_ringsWhy_97 ?_
    have hz10 := (cr_e h).1
    have h := (cr_e h).2
    refine v_icmp_gt C (tgt := 127) hz10 (by decide) h dX8_ringsWhy_98 rfl (fun h => ?_) (fun h => ?_)
    · exact wX8_ringsWhy_127 C hr hc3 (lv_sub hl [1, 2, 3, 4, 5] rfl) h
    · refine v_goto C (tgt := 125) dX8_ringsWhy_101 rfl ?_
      exact wX8_ringsWhy_125 C hr (lv_sub hl [1, 4] rfl) h
theorem wX8_ringsWhy_49 (C : CxM p rmX8_ringsWhy s m args meth c D ac q RX8 cX8_ringsWhy 9) (hr : meth.sig.returnType = (some .int)) {v1 : Int} {v2 : Int} {v3 : Int} {v4 : Int} {v5 : Int} {v7 : Int} {v8 : Int} {σ : Mm} {e49 : Mm → Option (Int × Mm)} {c49 : Int → Mm → Option (Int × Mm)} {r : Int × Mm} (he49 : ∀ (σ : Mm) (ls : Array Slot), lv_has ls 9 [(0, .ref (q 0)), (1, .int (i32 v1)), (2, .int (i32 v2)), (3, .int (i32 v3)), (4, .int (i32 v4)), (5, .int (i32 v5)), (7, .int (i32 v7))] → e49 σ = some r → VM p l e rmX8_ringsWhy s m args below meth c D ac q (QIM D ac q below args s r) σ (F0 m 80 ls [])) (hc49 : ∀ (v8x : Int) (σ : Mm) (ls : Array Slot), lv_has ls 9 [(0, .ref (q 0)), (1, .int (i32 v1)), (2, .int (i32 v2)), (3, .int (i32 v3)), (4, .int (i32 v4)), (5, .int (i32 v5)), (7, .int (i32 v7)), (8, .int (i32 v8x))] → c49 v8x σ = some r → VM p l e rmX8_ringsWhy s m args below meth c D ac q (QIM D ac q below args s r) σ (F0 m 49 ls [])) (hl : lv_has ls 9 [(0, .ref (q 0)), (1, .int (i32 v1)), (2, .int (i32 v2)), (3, .int (i32 v3)), (4, .int (i32 v4)), (5, .int (i32 v5)), (7, .int (i32 v7)), (8, .int (i32 v8))]) (h : fX8_ringsWhy_49 v1 v2 v3 v4 v5 v7 e49 c49 v8 σ = some r) : VM p l e rmX8_ringsWhy s m args below meth c D ac q (QIM D ac q below args s r) σ (F0 m 49 ls []) := by
  have h : cr (v8 + 1) (cr v5 ((if v8 + 1 < v5 then chk (v8 + 1) 10 (chk v8 10 (bindv (sto σ 9 (v8).toNat (σ 9 (v8 + 1).toNat)) (fun σ_3 => bindv (v8 + 1) (fun v8_4 => c49 v8_4 σ_3)))) else e49 σ))) = some r := h
  refine v_iload C hl dX8_ringsWhy_49 7 rfl ?_
  refine v_iconst C dX8_ringsWhy_51 ?_
  refine v_iadd C dX8_ringsWhy_52 ?_
  refine v_iload C hl dX8_ringsWhy_53 5 rfl ?_
  have hz1 := (cr_e h).1
  have h := (cr_e h).2
  have hz2 := (cr_e h).1
  have h := (cr_e h).2
  refine v_icmp_ge C (tgt := 80) hz1 hz2 h dX8_ringsWhy_55 rfl (fun h => ?_) (fun h => ?_)
  · exact he49 _ _ (lv_sub hl [0, 1, 2, 3, 4, 5, 6] rfl) h
  · refine v_aload_n C hl dX8_ringsWhy_58 rfl 0 rfl ?_
    refine g_X8_19 C kdM_0 fl_X8_34 dX8_ringsWhy_59 ?_
    refine v_iload C hl dX8_ringsWhy_62 7 rfl ?_
    refine v_aload_n C hl dX8_ringsWhy_64 rfl 0 rfl ?_
    refine g_X8_19 C kdM_0 fl_X8_34 dX8_ringsWhy_65 ?_
    refine v_iload C hl dX8_ringsWhy_68 7 rfl ?_
    refine v_iconst C dX8_ringsWhy_70 ?_
    refine v_iadd C dX8_ringsWhy_71 ?_
    refine alM8 C kdM_9 h dX8_ringsWhy_72 (fun h => ?_)
    refine asM8 C kdM_9 h dX8_ringsWhy_73 (fun σ_3 h => ?_)
    refine v_iinc C hl (fun x => [(8, .int (i32 x)), (0, .ref (q 0)), (1, .int (i32 v1)), (2, .int (i32 v2)), (3, .int (i32 v3)), (4, .int (i32 v4)), (5, .int (i32 v5)), (7, .int (i32 v7))]) dX8_ringsWhy_74 7 rfl (by decide) (fun _ => rfl) h (fun v8_4 ls hl h => ?_)
    refine v_goto C (tgt := 49) dX8_ringsWhy_77 rfl ?_
    exact hc49 _ _ _ (lv_sub hl [1, 2, 3, 4, 5, 6, 7, 0] rfl) h
theorem wlX8_ringsWhy_49 (C : CxM p rmX8_ringsWhy s m args meth c D ac q RX8 cX8_ringsWhy 9) (hr : meth.sig.returnType = (some .int)) {v1 : Int} {v2 : Int} {v3 : Int} {v4 : Int} {v5 : Int} {v7 : Int} {e49 : Mm → Option (Int × Mm)} {r : Int × Mm} (he49 : ∀ (σ : Mm) (ls : Array Slot), lv_has ls 9 [(0, .ref (q 0)), (1, .int (i32 v1)), (2, .int (i32 v2)), (3, .int (i32 v3)), (4, .int (i32 v4)), (5, .int (i32 v5)), (7, .int (i32 v7))] → e49 σ = some r → VM p l e rmX8_ringsWhy s m args below meth c D ac q (QIM D ac q below args s r) σ (F0 m 80 ls [])) : ∀ (fu : Nat) (v8 : Int) (σ : Mm) (ls : Array Slot) (hl : lv_has ls 9 [(0, .ref (q 0)), (1, .int (i32 v1)), (2, .int (i32 v2)), (3, .int (i32 v3)), (4, .int (i32 v4)), (5, .int (i32 v5)), (7, .int (i32 v7)), (8, .int (i32 v8))]) (h : lX8_ringsWhy_49 v1 v2 v3 v4 v5 v7 e49 fu v8 σ = some r), VM p l e rmX8_ringsWhy s m args below meth c D ac q (QIM D ac q below args s r) σ (F0 m 49 ls []) := by
  intro fu
  induction fu with
  | zero =>
    intro v8 σ ls hl h
    have h : none = some r := h
    cases h
  | succ fu ih =>
    intro v8 σ ls hl h
    exact wX8_ringsWhy_49 C hr he49 (fun v8 σ ls hl h => ih v8 σ ls hl h) hl h
theorem wX8_ringsWhy_3 (C : CxM p rmX8_ringsWhy s m args meth c D ac q RX8 cX8_ringsWhy 9) (hr : meth.sig.returnType = (some .int)) {v1 : Int} {v2 : Int} {v3 : Int} {v4 : Int} {σ : Mm} {e3 : Mm → Option (Int × Mm)} {c3 : Int → Mm → Option (Int × Mm)} {r : Int × Mm} (he3 : ∀ (σ : Mm) (ls : Array Slot), lv_has ls 9 [(0, .ref (q 0))] → e3 σ = some r → VM p l e rmX8_ringsWhy s m args below meth c D ac q (QIM D ac q below args s r) σ (F0 m 133 ls [])) (hc3 : ∀ (v4x : Int) (σ : Mm) (ls : Array Slot), lv_has ls 9 [(0, .ref (q 0)), (1, .int (i32 v1)), (2, .int (i32 v2)), (3, .int (i32 v3)), (4, .int (i32 v4x))] → c3 v4x σ = some r → VM p l e rmX8_ringsWhy s m args below meth c D ac q (QIM D ac q below args s r) σ (F0 m 3 ls [])) (hl : lv_has ls 9 [(0, .ref (q 0)), (1, .int (i32 v1)), (2, .int (i32 v2)), (3, .int (i32 v3)), (4, .int (i32 v4))]) (h : fX8_ringsWhy_3 v1 v2 v3 e3 c3 v4 σ = some r) : VM p l e rmX8_ringsWhy s m args below meth c D ac q (QIM D ac q below args s r) σ (F0 m 3 ls []) := by
  have h : bd (fX8_rings σ) (fun x_1 => cr v4 (cr x_1 ((if v4 < x_1 then bd2 (fX8_ringAt v4 v2 σ) (fun x_4 σ_4 => bindv x_4 (fun v5_5 => bd (fX8_placeIn v5_5 v1 σ_4) (fun x_6 => bindv x_6 (fun v6_7 => cr v6_7 ((if v6_7 = (-4) then fX8_ringsWhy_127 c3 v1 v2 v3 v4 σ_4 else bd (fX8_ringArea v5_5 σ_4) (fun x_9 => bindv x_9 (fun v7_10 => bindv v6_7 (fun v8_11 => lX8_ringsWhy_49 v1 v2 v3 v4 v5_5 v7_10 (fun σ_12 => fX8_ringsWhy_80 c3 v1 v2 v3 v4 v5_5 v7_10 σ_12) 400 v8_11 σ_4))))))))) else e3 σ)))) = some r := h
  refine v_iload C hl dX8_ringsWhy_3 4 rfl ?_
  refine v_aload_n C hl dX8_ringsWhy_5 rfl 0 rfl ?_
  obtain ⟨x_1, hv1, h⟩ := bd_e h
  refine v_callVI C 0 (klM kdM_0) rfl (ckM1 kdM_0 _) rfl [] (mX8_rings C.2.2.2.2.1 hv1) cd_X8_rings ic_X8 im_X8_rings se_X8_rings ml_X8_194 yk_X8_rings ⟨rfl, rfl, by decide, by decide⟩ rfl hl.1 (rest := [.int (i32 v4)]) rfl (Nat.le_of_ble_eq_true rfl) dX8_ringsWhy_6 ?_
  have hz2 := (cr_e h).1
  have h := (cr_e h).2
  have hz3 := (cr_e h).1
  have h := (cr_e h).2
  refine v_icmp_ge C (tgt := 133) hz2 hz3 h dX8_ringsWhy_9 rfl (fun h => ?_) (fun h => ?_)
  · exact he3 _ _ (lv_sub hl [0] rfl) h
  · refine v_aload_n C hl dX8_ringsWhy_12 rfl 0 rfl ?_
    refine v_iload C hl dX8_ringsWhy_13 4 rfl ?_
    refine v_iload_n C hl dX8_ringsWhy_15 rfl 2 rfl ?_
    obtain ⟨x_4, σ_4, hv4, h⟩ := bd2_e h
    refine v_callVI C 0 (klM kdM_0) rfl (ckM1 kdM_0 _) rfl [.int (i32 v4), .int (i32 v2)] (mX8_ringAt C.2.2.2.2.1 hv4) cd_X8_ringAt ic_X8 im_X8_ringAt se_X8_ringAt ml_X8_197 yk_X8_ringAt ⟨rfl, rfl, by decide, by decide⟩ rfl hl.1 (rest := []) rfl (Nat.le_of_ble_eq_true rfl) dX8_ringsWhy_16 ?_
    refine v_istore C hl (fun x => [(5, .int (i32 x)), (0, .ref (q 0)), (1, .int (i32 v1)), (2, .int (i32 v2)), (3, .int (i32 v3)), (4, .int (i32 v4))]) dX8_ringsWhy_19 (by decide) (fun _ => rfl) h (fun v5_5 ls hl h => ?_)
    refine v_aload_n C hl dX8_ringsWhy_21 rfl 1 rfl ?_
    refine v_iload C hl dX8_ringsWhy_22 0 rfl ?_
    refine v_iload_n C hl dX8_ringsWhy_24 rfl 2 rfl ?_
    obtain ⟨x_6, hv6, h⟩ := bd_e h
    refine v_callVI C 0 (klM kdM_0) rfl (ckM1 kdM_0 _) rfl [.int (i32 v5_5), .int (i32 v1)] (mX8_placeIn C.2.2.2.2.1 hv6) cd_X8_placeIn ic_X8 im_X8_placeIn se_X8_placeIn ml_X8_200 yk_X8_placeIn ⟨rfl, rfl, by decide, by decide⟩ rfl hl.1 (rest := []) rfl (Nat.le_of_ble_eq_true rfl) dX8_ringsWhy_25 ?_
    refine v_istore C hl (fun x => [(6, .int (i32 x)), (5, .int (i32 v5_5)), (0, .ref (q 0)), (1, .int (i32 v1)), (2, .int (i32 v2)), (3, .int (i32 v3)), (4, .int (i32 v4))]) dX8_ringsWhy_28 (by decide) (fun _ => rfl) h (fun v6_7 ls hl h => ?_)
    refine v_iload C hl dX8_ringsWhy_30 0 rfl ?_
    refine v_bipush C dX8_ringsWhy_32 rfl ?_
    have hz8 := (cr_e h).1
    have h := (cr_e h).2
    refine v_icmp_eq C (tgt := 127) hz8 (by decide) h dX8_ringsWhy_34 rfl (fun h => ?_) (fun h => ?_)
    · exact wX8_ringsWhy_127 C hr hc3 (lv_sub hl [2, 3, 4, 5, 6] rfl) h
    · refine v_aload_n C hl dX8_ringsWhy_37 rfl 2 rfl ?_
      refine v_iload C hl dX8_ringsWhy_38 1 rfl ?_
      obtain ⟨x_9, hv9, h⟩ := bd_e h
      refine v_callVI C 0 (klM kdM_0) rfl (ckM1 kdM_0 _) rfl [.int (i32 v5_5)] (mX8_ringArea C.2.2.2.2.1 hv9) cd_X8_ringArea ic_X8 im_X8_ringArea se_X8_ringArea ml_X8_212 yk_X8_ringArea ⟨rfl, rfl, by decide, by decide⟩ rfl hl.1 (rest := []) rfl (Nat.le_of_ble_eq_true rfl) dX8_ringsWhy_40 ?_
      refine v_istore C hl (fun x => [(7, .int (i32 x)), (6, .int (i32 v6_7)), (5, .int (i32 v5_5)), (0, .ref (q 0)), (1, .int (i32 v1)), (2, .int (i32 v2)), (3, .int (i32 v3)), (4, .int (i32 v4))]) dX8_ringsWhy_43 (by decide) (fun _ => rfl) h (fun v7_10 ls hl h => ?_)
      refine v_iload C hl dX8_ringsWhy_45 1 rfl ?_
      refine v_istore C hl (fun x => [(8, .int (i32 x)), (7, .int (i32 v7_10)), (6, .int (i32 v6_7)), (5, .int (i32 v5_5)), (0, .ref (q 0)), (1, .int (i32 v1)), (2, .int (i32 v2)), (3, .int (i32 v3)), (4, .int (i32 v4))]) dX8_ringsWhy_47 (by decide) (fun _ => rfl) h (fun v8_11 ls hl h => ?_)
      exact wlX8_ringsWhy_49 C hr (fun σ_12 ls hl h => wX8_ringsWhy_80 C hr hc3 (lv_sub hl [0, 1, 2, 3, 4, 5, 6] rfl) h) _ _ _ _ (lv_sub hl [4, 5, 6, 7, 8, 3, 1, 0] rfl) h
theorem wlX8_ringsWhy_3 (C : CxM p rmX8_ringsWhy s m args meth c D ac q RX8 cX8_ringsWhy 9) (hr : meth.sig.returnType = (some .int)) {v1 : Int} {v2 : Int} {v3 : Int} {e3 : Mm → Option (Int × Mm)} {r : Int × Mm} (he3 : ∀ (σ : Mm) (ls : Array Slot), lv_has ls 9 [(0, .ref (q 0))] → e3 σ = some r → VM p l e rmX8_ringsWhy s m args below meth c D ac q (QIM D ac q below args s r) σ (F0 m 133 ls [])) : ∀ (fu : Nat) (v4 : Int) (σ : Mm) (ls : Array Slot) (hl : lv_has ls 9 [(0, .ref (q 0)), (1, .int (i32 v1)), (2, .int (i32 v2)), (3, .int (i32 v3)), (4, .int (i32 v4))]) (h : lX8_ringsWhy_3 v1 v2 v3 e3 fu v4 σ = some r), VM p l e rmX8_ringsWhy s m args below meth c D ac q (QIM D ac q below args s r) σ (F0 m 3 ls []) := by
  intro fu
  induction fu with
  | zero =>
    intro v4 σ ls hl h
    have h : none = some r := h
    cases h
  | succ fu ih =>
    intro v4 σ ls hl h
    exact wX8_ringsWhy_3 C hr he3 (fun v4 σ ls hl h => ih v4 σ ls hl h) hl h
theorem mX8_ringsWhy (hq : QI 19 q) {v1 : Int} {v2 : Int} {v3 : Int} {σ : Mm} {r : Int × Mm} (h : fX8_ringsWhy v1 v2 v3 σ = some r) : MIM l D ac q yX8_ringsWhy cX8_ringsWhy 9 (some .int) rmX8_ringsWhy [.ref (q 0), .int (i32 v1), .int (i32 v2), .int (i32 v3)] σ r := by
  refine MI.of hq XT_M (by decide) (Nat.le_of_ble_eq_true rfl) (fun p e s m below meth c ls C hr hl => ?_)
  have hl : lv_has ls 9 [(0, .ref (q 0)), (1, .int (i32 v1)), (2, .int (i32 v2)), (3, .int (i32 v3))] := hl
  have h : bindv 0 (fun v4_1 => lX8_ringsWhy_3 v1 v2 v3 (fun σ_2 => fX8_ringsWhy_133 σ_2) 400 v4_1 σ) = some r := h
  refine v_iconst C dX8_ringsWhy_0 ?_
  refine v_istore C hl (fun x => [(4, .int (i32 x)), (0, .ref (q 0)), (1, .int (i32 v1)), (2, .int (i32 v2)), (3, .int (i32 v3))]) dX8_ringsWhy_1 (by decide) (fun _ => rfl) h (fun v4_1 ls hl h => ?_)
  exact wlX8_ringsWhy_3 C hr (fun σ_2 ls hl h => wX8_ringsWhy_133 C hr (lv_sub hl [0] rfl) h) _ _ _ _ (lv_sub hl [1, 2, 3, 4, 0] rfl) h
end
section
variable {l : Launch} {D : va_G} {ac : Nat → ClassId} {q : Nat → Nat} {p : Program} {e : Env} {s : State} {m : MethodId} {args : Array Value} {below : List Frame} {meth : Method} {c : Code} {ls : Array Slot}
theorem dX8_cross_0 : decode cX8_cross 0 = .ok (.iload_n 2, 1) := by decide +kernel
theorem dX8_cross_1 : decode cX8_cross 1 = .ok (.iload_n 0, 1) := by decide +kernel
theorem dX8_cross_2 : decode cX8_cross 2 = .ok (.isub, 1) := by decide +kernel
theorem dX8_cross_3 : decode cX8_cross 3 = .ok (.iload 5, 2) := by decide +kernel
theorem dX8_cross_5 : decode cX8_cross 5 = .ok (.iload_n 1, 1) := by decide +kernel
theorem dX8_cross_6 : decode cX8_cross 6 = .ok (.isub, 1) := by decide +kernel
theorem dX8_cross_7 : decode cX8_cross 7 = .ok (.imul, 1) := by decide +kernel
theorem dX8_cross_8 : decode cX8_cross 8 = .ok (.iload_n 3, 1) := by decide +kernel
theorem dX8_cross_9 : decode cX8_cross 9 = .ok (.iload_n 1, 1) := by decide +kernel
theorem dX8_cross_10 : decode cX8_cross 10 = .ok (.isub, 1) := by decide +kernel
theorem dX8_cross_11 : decode cX8_cross 11 = .ok (.iload 4, 2) := by decide +kernel
theorem dX8_cross_13 : decode cX8_cross 13 = .ok (.iload_n 0, 1) := by decide +kernel
theorem dX8_cross_14 : decode cX8_cross 14 = .ok (.isub, 1) := by decide +kernel
theorem dX8_cross_15 : decode cX8_cross 15 = .ok (.imul, 1) := by decide +kernel
theorem dX8_cross_16 : decode cX8_cross 16 = .ok (.isub, 1) := by decide +kernel
theorem dX8_cross_17 : decode cX8_cross 17 = .ok (.ireturn, 1) := by decide +kernel
theorem mX8_cross (hq : QI 19 q) {v0 : Int} {v1 : Int} {v2 : Int} {v3 : Int} {v4 : Int} {v5 : Int} {σ : Mm} {r : Int} (h : fX8_cross v0 v1 v2 v3 v4 v5 σ = some r) : MIM l D ac q yX8_cross cX8_cross 6 (some .int) rmX8_cross [.int (i32 v0), .int (i32 v1), .int (i32 v2), .int (i32 v3), .int (i32 v4), .int (i32 v5)] σ (r, σ) := by
  refine MI.of hq XT_M (by decide) (Nat.le_of_ble_eq_true rfl) (fun p e s m below meth c ls C hr hl => ?_)
  have hl : lv_has ls 6 [(0, .int (i32 v0)), (1, .int (i32 v1)), (2, .int (i32 v2)), (3, .int (i32 v3)), (4, .int (i32 v4)), (5, .int (i32 v5))] := hl
  have h : some (((v2 - v0) * (v5 - v1)) - ((v3 - v1) * (v4 - v0))) = some r := h
  refine v_iload_n C hl dX8_cross_0 rfl 2 rfl ?_
  refine v_iload_n C hl dX8_cross_1 rfl 0 rfl ?_
  refine v_isub C dX8_cross_2 ?_
  refine v_iload C hl dX8_cross_3 5 rfl ?_
  refine v_iload_n C hl dX8_cross_5 rfl 1 rfl ?_
  refine v_isub C dX8_cross_6 ?_
  refine v_imul C dX8_cross_7 ?_
  refine v_iload_n C hl dX8_cross_8 rfl 3 rfl ?_
  refine v_iload_n C hl dX8_cross_9 rfl 1 rfl ?_
  refine v_isub C dX8_cross_10 ?_
  refine v_iload C hl dX8_cross_11 4 rfl ?_
  refine v_iload_n C hl dX8_cross_13 rfl 0 rfl ?_
  refine v_isub C dX8_cross_14 ?_
  refine v_imul C dX8_cross_15 ?_
  refine v_isub C dX8_cross_16 ?_
  exact v_iret C hr (so1 h) dX8_cross_17
end
section
variable {l : Launch} {D : va_G} {ac : Nat → ClassId} {q : Nat → Nat} {p : Program} {e : Env} {s : State} {m : MethodId} {args : Array Value} {below : List Frame} {meth : Method} {c : Code} {ls : Array Slot}
theorem dX8_turned_0 : decode cX8_turned 0 = .ok (.aload_n 0, 1) := by decide +kernel
theorem dX8_turned_1 : decode cX8_turned 1 = .ok (.getfield 7, 3) := by decide +kernel
theorem dX8_turned_4 : decode cX8_turned 4 = .ok (.iload_n 1, 1) := by decide +kernel
theorem dX8_turned_5 : decode cX8_turned 5 = .ok (.iload_n 2, 1) := by decide +kernel
theorem dX8_turned_6 : decode cX8_turned 6 = .ok (.iadd, 1) := by decide +kernel
theorem dX8_turned_7 : decode cX8_turned 7 = .ok (.iaload, 1) := by decide +kernel
theorem dX8_turned_8 : decode cX8_turned 8 = .ok (.aload_n 0, 1) := by decide +kernel
theorem dX8_turned_9 : decode cX8_turned 9 = .ok (.getfield 7, 3) := by decide +kernel
theorem dX8_turned_12 : decode cX8_turned 12 = .ok (.iload_n 1, 1) := by decide +kernel
theorem dX8_turned_13 : decode cX8_turned 13 = .ok (.bipush 24, 2) := by decide +kernel
theorem dX8_turned_15 : decode cX8_turned 15 = .ok (.iadd, 1) := by decide +kernel
theorem dX8_turned_16 : decode cX8_turned 16 = .ok (.iload_n 2, 1) := by decide +kernel
theorem dX8_turned_17 : decode cX8_turned 17 = .ok (.iadd, 1) := by decide +kernel
theorem dX8_turned_18 : decode cX8_turned 18 = .ok (.iaload, 1) := by decide +kernel
theorem dX8_turned_19 : decode cX8_turned 19 = .ok (.aload_n 0, 1) := by decide +kernel
theorem dX8_turned_20 : decode cX8_turned 20 = .ok (.getfield 7, 3) := by decide +kernel
theorem dX8_turned_23 : decode cX8_turned 23 = .ok (.iload_n 1, 1) := by decide +kernel
theorem dX8_turned_24 : decode cX8_turned 24 = .ok (.iload_n 3, 1) := by decide +kernel
theorem dX8_turned_25 : decode cX8_turned 25 = .ok (.iadd, 1) := by decide +kernel
theorem dX8_turned_26 : decode cX8_turned 26 = .ok (.iaload, 1) := by decide +kernel
theorem dX8_turned_27 : decode cX8_turned 27 = .ok (.aload_n 0, 1) := by decide +kernel
theorem dX8_turned_28 : decode cX8_turned 28 = .ok (.getfield 7, 3) := by decide +kernel
theorem dX8_turned_31 : decode cX8_turned 31 = .ok (.iload_n 1, 1) := by decide +kernel
theorem dX8_turned_32 : decode cX8_turned 32 = .ok (.bipush 24, 2) := by decide +kernel
theorem dX8_turned_34 : decode cX8_turned 34 = .ok (.iadd, 1) := by decide +kernel
theorem dX8_turned_35 : decode cX8_turned 35 = .ok (.iload_n 3, 1) := by decide +kernel
theorem dX8_turned_36 : decode cX8_turned 36 = .ok (.iadd, 1) := by decide +kernel
theorem dX8_turned_37 : decode cX8_turned 37 = .ok (.iaload, 1) := by decide +kernel
theorem dX8_turned_38 : decode cX8_turned 38 = .ok (.aload_n 0, 1) := by decide +kernel
theorem dX8_turned_39 : decode cX8_turned 39 = .ok (.getfield 7, 3) := by decide +kernel
theorem dX8_turned_42 : decode cX8_turned 42 = .ok (.iload_n 1, 1) := by decide +kernel
theorem dX8_turned_43 : decode cX8_turned 43 = .ok (.iload 4, 2) := by decide +kernel
theorem dX8_turned_45 : decode cX8_turned 45 = .ok (.iadd, 1) := by decide +kernel
theorem dX8_turned_46 : decode cX8_turned 46 = .ok (.iaload, 1) := by decide +kernel
theorem dX8_turned_47 : decode cX8_turned 47 = .ok (.aload_n 0, 1) := by decide +kernel
theorem dX8_turned_48 : decode cX8_turned 48 = .ok (.getfield 7, 3) := by decide +kernel
theorem dX8_turned_51 : decode cX8_turned 51 = .ok (.iload_n 1, 1) := by decide +kernel
theorem dX8_turned_52 : decode cX8_turned 52 = .ok (.bipush 24, 2) := by decide +kernel
theorem dX8_turned_54 : decode cX8_turned 54 = .ok (.iadd, 1) := by decide +kernel
theorem dX8_turned_55 : decode cX8_turned 55 = .ok (.iload 4, 2) := by decide +kernel
theorem dX8_turned_57 : decode cX8_turned 57 = .ok (.iadd, 1) := by decide +kernel
theorem dX8_turned_58 : decode cX8_turned 58 = .ok (.iaload, 1) := by decide +kernel
theorem dX8_turned_59 : decode cX8_turned 59 = .ok (.invokestatic 153, 3) := by decide +kernel
theorem dX8_turned_62 : decode cX8_turned 62 = .ok (.ireturn, 1) := by decide +kernel
theorem mX8_turned (hq : QI 19 q) {v1 : Int} {v2 : Int} {v3 : Int} {v4 : Int} {σ : Mm} {r : Int} (h : fX8_turned v1 v2 v3 v4 σ = some r) : MIM l D ac q yX8_turned cX8_turned 5 (some .int) rmX8_turned [.ref (q 0), .int (i32 v1), .int (i32 v2), .int (i32 v3), .int (i32 v4)] σ (r, σ) := by
  refine MI.of hq XT_M (by decide) (Nat.le_of_ble_eq_true rfl) (fun p e s m below meth c ls C hr hl => ?_)
  have hl : lv_has ls 5 [(0, .ref (q 0)), (1, .int (i32 v1)), (2, .int (i32 v2)), (3, .int (i32 v3)), (4, .int (i32 v4))] := hl
  have h : chk (v1 + v2) 700 (chk ((v1 + 24) + v2) 700 (chk (v1 + v3) 700 (chk ((v1 + 24) + v3) 700 (chk (v1 + v4) 700 (chk ((v1 + 24) + v4) 700 (bd (fX8_cross (σ 1 (v1 + v2).toNat) (σ 1 ((v1 + 24) + v2).toNat) (σ 1 (v1 + v3).toNat) (σ 1 ((v1 + 24) + v3).toNat) (σ 1 (v1 + v4).toNat) (σ 1 ((v1 + 24) + v4).toNat) σ) (fun x_1 => some x_1))))))) = some r := h
  refine v_aload_n C hl dX8_turned_0 rfl 0 rfl ?_
  refine g_X8_0 C kdM_0 fl_X8_7 dX8_turned_1 ?_
  refine v_iload_n C hl dX8_turned_4 rfl 1 rfl ?_
  refine v_iload_n C hl dX8_turned_5 rfl 2 rfl ?_
  refine v_iadd C dX8_turned_6 ?_
  refine alM2 C kdM_1 h dX8_turned_7 (fun h => ?_)
  refine v_aload_n C hl dX8_turned_8 rfl 0 rfl ?_
  refine g_X8_0 C kdM_0 fl_X8_7 dX8_turned_9 ?_
  refine v_iload_n C hl dX8_turned_12 rfl 1 rfl ?_
  refine v_bipush C dX8_turned_13 rfl ?_
  refine v_iadd C dX8_turned_15 ?_
  refine v_iload_n C hl dX8_turned_16 rfl 2 rfl ?_
  refine v_iadd C dX8_turned_17 ?_
  refine alM2 C kdM_1 h dX8_turned_18 (fun h => ?_)
  refine v_aload_n C hl dX8_turned_19 rfl 0 rfl ?_
  refine g_X8_0 C kdM_0 fl_X8_7 dX8_turned_20 ?_
  refine v_iload_n C hl dX8_turned_23 rfl 1 rfl ?_
  refine v_iload_n C hl dX8_turned_24 rfl 3 rfl ?_
  refine v_iadd C dX8_turned_25 ?_
  refine alM2 C kdM_1 h dX8_turned_26 (fun h => ?_)
  refine v_aload_n C hl dX8_turned_27 rfl 0 rfl ?_
  refine g_X8_0 C kdM_0 fl_X8_7 dX8_turned_28 ?_
  refine v_iload_n C hl dX8_turned_31 rfl 1 rfl ?_
  refine v_bipush C dX8_turned_32 rfl ?_
  refine v_iadd C dX8_turned_34 ?_
  refine v_iload_n C hl dX8_turned_35 rfl 3 rfl ?_
  refine v_iadd C dX8_turned_36 ?_
  refine alM2 C kdM_1 h dX8_turned_37 (fun h => ?_)
  refine v_aload_n C hl dX8_turned_38 rfl 0 rfl ?_
  refine g_X8_0 C kdM_0 fl_X8_7 dX8_turned_39 ?_
  refine v_iload_n C hl dX8_turned_42 rfl 1 rfl ?_
  refine v_iload C hl dX8_turned_43 4 rfl ?_
  refine v_iadd C dX8_turned_45 ?_
  refine alM2 C kdM_1 h dX8_turned_46 (fun h => ?_)
  refine v_aload_n C hl dX8_turned_47 rfl 0 rfl ?_
  refine g_X8_0 C kdM_0 fl_X8_7 dX8_turned_48 ?_
  refine v_iload_n C hl dX8_turned_51 rfl 1 rfl ?_
  refine v_bipush C dX8_turned_52 rfl ?_
  refine v_iadd C dX8_turned_54 ?_
  refine v_iload C hl dX8_turned_55 4 rfl ?_
  refine v_iadd C dX8_turned_57 ?_
  refine alM2 C kdM_1 h dX8_turned_58 (fun h => ?_)
  obtain ⟨x_1, hv1, h⟩ := bd_e h
  refine v_callSI C [.int (i32 (σ 1 (v1 + v2).toNat)), .int (i32 (σ 1 ((v1 + 24) + v2).toNat)), .int (i32 (σ 1 (v1 + v3).toNat)), .int (i32 (σ 1 ((v1 + 24) + v3).toNat)), .int (i32 (σ 1 (v1 + v4).toNat)), .int (i32 (σ 1 ((v1 + 24) + v4).toNat))] (mX8_cross C.2.2.2.2.1 hv1) cd_X8_cross ic_X8 sm_X8_cross ml_X8_153 yk_X8_cross ⟨rfl, rfl, by decide, by decide⟩ rfl hl.1 (rest := []) rfl (Nat.le_of_ble_eq_true rfl) dX8_turned_59 ?_
  exact v_iret C hr (so1 h) dX8_turned_62
end
section
variable {l : Launch} {D : va_G} {ac : Nat → ClassId} {q : Nat → Nat} {p : Program} {e : Env} {s : State} {m : MethodId} {args : Array Value} {below : List Frame} {meth : Method} {c : Code} {ls : Array Slot}
theorem dX8_isBetween_0 : decode cX8_isBetween 0 = .ok (.iload_n 0, 1) := by decide +kernel
theorem dX8_isBetween_1 : decode cX8_isBetween 1 = .ok (.iload_n 1, 1) := by decide +kernel
theorem dX8_isBetween_2 : decode cX8_isBetween 2 = .ok (.if_icmp .lt 8, 3) := by decide +kernel
theorem dX8_isBetween_5 : decode cX8_isBetween 5 = .ok (.iload_n 0, 1) := by decide +kernel
theorem dX8_isBetween_6 : decode cX8_isBetween 6 = .ok (.iload_n 2, 1) := by decide +kernel
theorem dX8_isBetween_7 : decode cX8_isBetween 7 = .ok (.if_icmp .le 13, 3) := by decide +kernel
theorem dX8_isBetween_10 : decode cX8_isBetween 10 = .ok (.iload_n 0, 1) := by decide +kernel
theorem dX8_isBetween_11 : decode cX8_isBetween 11 = .ok (.iload_n 2, 1) := by decide +kernel
theorem dX8_isBetween_12 : decode cX8_isBetween 12 = .ok (.if_icmp .lt 12, 3) := by decide +kernel
theorem dX8_isBetween_15 : decode cX8_isBetween 15 = .ok (.iload_n 0, 1) := by decide +kernel
theorem dX8_isBetween_16 : decode cX8_isBetween 16 = .ok (.iload_n 1, 1) := by decide +kernel
theorem dX8_isBetween_17 : decode cX8_isBetween 17 = .ok (.if_icmp .gt 7, 3) := by decide +kernel
theorem dX8_isBetween_20 : decode cX8_isBetween 20 = .ok (.iconst 1, 1) := by decide +kernel
theorem dX8_isBetween_21 : decode cX8_isBetween 21 = .ok (.goto 4, 3) := by decide +kernel
theorem dX8_isBetween_24 : decode cX8_isBetween 24 = .ok (.iconst 0, 1) := by decide +kernel
theorem dX8_isBetween_25 : decode cX8_isBetween 25 = .ok (.ireturn, 1) := by decide +kernel
theorem wX8_isBetween_25 (C : CxM p rmX8_isBetween s m args meth c D ac q RX8 cX8_isBetween 3) (hr : meth.sig.returnType = (some .boolean)) {t0 : Int} {σ : Mm} {r : Int} (hl : lv_has ls 3 []) (h : fX8_isBetween_25 t0 σ = some r) : VM p l e rmX8_isBetween s m args below meth c D ac q (QIM D ac q below args s (r, σ)) σ (F0 m 25 ls [.int (i32 t0)]) := by
  have h : chb t0 (some t0) = some r := h
  have hz1 := (chb_e h).1
  have h := (chb_e h).2
  exact v_zret C hr hz1 (so1 h) dX8_isBetween_25
theorem wX8_isBetween_24 (C : CxM p rmX8_isBetween s m args meth c D ac q RX8 cX8_isBetween 3) (hr : meth.sig.returnType = (some .boolean)) {σ : Mm} {r : Int} (hl : lv_has ls 3 []) (h : fX8_isBetween_24 σ = some r) : VM p l e rmX8_isBetween s m args below meth c D ac q (QIM D ac q below args s (r, σ)) σ (F0 m 24 ls []) := by
  have h : fX8_isBetween_25 0 σ = some r := h
  refine v_iconst C dX8_isBetween_24 ?_
  exact wX8_isBetween_25 C hr (lv_sub hl [] rfl) h
theorem wX8_isBetween_20 (C : CxM p rmX8_isBetween s m args meth c D ac q RX8 cX8_isBetween 3) (hr : meth.sig.returnType = (some .boolean)) {σ : Mm} {r : Int} (hl : lv_has ls 3 []) (h : fX8_isBetween_20 σ = some r) : VM p l e rmX8_isBetween s m args below meth c D ac q (QIM D ac q below args s (r, σ)) σ (F0 m 20 ls []) := by
  have h : fX8_isBetween_25 1 σ = some r := h
  refine v_iconst C dX8_isBetween_20 ?_
  refine v_goto C (tgt := 25) dX8_isBetween_21 rfl ?_
  exact wX8_isBetween_25 C hr (lv_sub hl [] rfl) h
theorem wX8_isBetween_10 (C : CxM p rmX8_isBetween s m args meth c D ac q RX8 cX8_isBetween 3) (hr : meth.sig.returnType = (some .boolean)) {v0 : Int} {v1 : Int} {v2 : Int} {σ : Mm} {r : Int} (hl : lv_has ls 3 [(0, .int (i32 v0)), (1, .int (i32 v1)), (2, .int (i32 v2))]) (h : fX8_isBetween_10 v0 v1 v2 σ = some r) : VM p l e rmX8_isBetween s m args below meth c D ac q (QIM D ac q below args s (r, σ)) σ (F0 m 10 ls []) := by
  have h : cr v0 (cr v2 ((if v0 < v2 then fX8_isBetween_24 σ else cr v0 (cr v1 ((if v1 < v0 then fX8_isBetween_24 σ else fX8_isBetween_20 σ)))))) = some r := h
  refine v_iload_n C hl dX8_isBetween_10 rfl 0 rfl ?_
  refine v_iload_n C hl dX8_isBetween_11 rfl 2 rfl ?_
  have hz1 := (cr_e h).1
  have h := (cr_e h).2
  have hz2 := (cr_e h).1
  have h := (cr_e h).2
  refine v_icmp_lt C (tgt := 24) hz1 hz2 h dX8_isBetween_12 rfl (fun h => ?_) (fun h => ?_)
  · exact wX8_isBetween_24 C hr (lv_sub hl [] rfl) h
  · refine v_iload_n C hl dX8_isBetween_15 rfl 0 rfl ?_
    refine v_iload_n C hl dX8_isBetween_16 rfl 1 rfl ?_
    have hz3 := (cr_e h).1
    have h := (cr_e h).2
    have hz4 := (cr_e h).1
    have h := (cr_e h).2
    refine v_icmp_gt C (tgt := 24) hz3 hz4 h dX8_isBetween_17 rfl (fun h => ?_) (fun h => ?_)
    · exact wX8_isBetween_24 C hr (lv_sub hl [] rfl) h
    · exact wX8_isBetween_20 C hr (lv_sub hl [] rfl) h
theorem mX8_isBetween (hq : QI 19 q) {v0 : Int} {v1 : Int} {v2 : Int} {σ : Mm} {r : Int} (h : fX8_isBetween v0 v1 v2 σ = some r) : MIM l D ac q yX8_isBetween cX8_isBetween 3 (some .boolean) rmX8_isBetween [.int (i32 v0), .int (i32 v1), .int (i32 v2)] σ (r, σ) := by
  refine MI.of hq XT_M (by decide) (Nat.le_of_ble_eq_true rfl) (fun p e s m below meth c ls C hr hl => ?_)
  have hl : lv_has ls 3 [(0, .int (i32 v0)), (1, .int (i32 v1)), (2, .int (i32 v2))] := hl
  have h : cr v0 (cr v1 ((if v0 < v1 then fX8_isBetween_10 v0 v1 v2 σ else cr v0 (cr v2 ((if v2 < v0 then fX8_isBetween_10 v0 v1 v2 σ else fX8_isBetween_20 σ)))))) = some r := h
  refine v_iload_n C hl dX8_isBetween_0 rfl 0 rfl ?_
  refine v_iload_n C hl dX8_isBetween_1 rfl 1 rfl ?_
  have hz1 := (cr_e h).1
  have h := (cr_e h).2
  have hz2 := (cr_e h).1
  have h := (cr_e h).2
  refine v_icmp_lt C (tgt := 10) hz1 hz2 h dX8_isBetween_2 rfl (fun h => ?_) (fun h => ?_)
  · exact wX8_isBetween_10 C hr (lv_sub hl [0, 1, 2] rfl) h
  · refine v_iload_n C hl dX8_isBetween_5 rfl 0 rfl ?_
    refine v_iload_n C hl dX8_isBetween_6 rfl 2 rfl ?_
    have hz3 := (cr_e h).1
    have h := (cr_e h).2
    have hz4 := (cr_e h).1
    have h := (cr_e h).2
    refine v_icmp_le C (tgt := 20) hz3 hz4 h dX8_isBetween_7 rfl (fun h => ?_) (fun h => ?_)
    · exact wX8_isBetween_20 C hr (lv_sub hl [] rfl) h
    · exact wX8_isBetween_10 C hr (lv_sub hl [0, 1, 2] rfl) h
end
section
variable {l : Launch} {D : va_G} {ac : Nat → ClassId} {q : Nat → Nat} {p : Program} {e : Env} {s : State} {m : MethodId} {args : Array Value} {below : List Frame} {meth : Method} {c : Code} {ls : Array Slot}
theorem dX8_isOn_0 : decode cX8_isOn 0 = .ok (.aload_n 0, 1) := by decide +kernel
theorem dX8_isOn_1 : decode cX8_isOn 1 = .ok (.iload_n 1, 1) := by decide +kernel
theorem dX8_isOn_2 : decode cX8_isOn 2 = .ok (.iload_n 3, 1) := by decide +kernel
theorem dX8_isOn_3 : decode cX8_isOn 3 = .ok (.iload 4, 2) := by decide +kernel
theorem dX8_isOn_5 : decode cX8_isOn 5 = .ok (.iload_n 2, 1) := by decide +kernel
theorem dX8_isOn_6 : decode cX8_isOn 6 = .ok (.invokevirtual 157, 3) := by decide +kernel
theorem dX8_isOn_9 : decode cX8_isOn 9 = .ok (.ifCond .ne 78, 3) := by decide +kernel
theorem dX8_isOn_12 : decode cX8_isOn 12 = .ok (.aload_n 0, 1) := by decide +kernel
theorem dX8_isOn_13 : decode cX8_isOn 13 = .ok (.getfield 7, 3) := by decide +kernel
theorem dX8_isOn_16 : decode cX8_isOn 16 = .ok (.iload_n 1, 1) := by decide +kernel
theorem dX8_isOn_17 : decode cX8_isOn 17 = .ok (.iload_n 2, 1) := by decide +kernel
theorem dX8_isOn_18 : decode cX8_isOn 18 = .ok (.iadd, 1) := by decide +kernel
theorem dX8_isOn_19 : decode cX8_isOn 19 = .ok (.iaload, 1) := by decide +kernel
theorem dX8_isOn_20 : decode cX8_isOn 20 = .ok (.aload_n 0, 1) := by decide +kernel
theorem dX8_isOn_21 : decode cX8_isOn 21 = .ok (.getfield 7, 3) := by decide +kernel
theorem dX8_isOn_24 : decode cX8_isOn 24 = .ok (.iload_n 1, 1) := by decide +kernel
theorem dX8_isOn_25 : decode cX8_isOn 25 = .ok (.iload_n 3, 1) := by decide +kernel
theorem dX8_isOn_26 : decode cX8_isOn 26 = .ok (.iadd, 1) := by decide +kernel
theorem dX8_isOn_27 : decode cX8_isOn 27 = .ok (.iaload, 1) := by decide +kernel
theorem dX8_isOn_28 : decode cX8_isOn 28 = .ok (.aload_n 0, 1) := by decide +kernel
theorem dX8_isOn_29 : decode cX8_isOn 29 = .ok (.getfield 7, 3) := by decide +kernel
theorem dX8_isOn_32 : decode cX8_isOn 32 = .ok (.iload_n 1, 1) := by decide +kernel
theorem dX8_isOn_33 : decode cX8_isOn 33 = .ok (.iload 4, 2) := by decide +kernel
theorem dX8_isOn_35 : decode cX8_isOn 35 = .ok (.iadd, 1) := by decide +kernel
theorem dX8_isOn_36 : decode cX8_isOn 36 = .ok (.iaload, 1) := by decide +kernel
theorem dX8_isOn_37 : decode cX8_isOn 37 = .ok (.invokestatic 161, 3) := by decide +kernel
theorem dX8_isOn_40 : decode cX8_isOn 40 = .ok (.ifCond .eq 47, 3) := by decide +kernel
theorem dX8_isOn_43 : decode cX8_isOn 43 = .ok (.aload_n 0, 1) := by decide +kernel
theorem dX8_isOn_44 : decode cX8_isOn 44 = .ok (.getfield 7, 3) := by decide +kernel
theorem dX8_isOn_47 : decode cX8_isOn 47 = .ok (.iload_n 1, 1) := by decide +kernel
theorem dX8_isOn_48 : decode cX8_isOn 48 = .ok (.bipush 24, 2) := by decide +kernel
theorem dX8_isOn_50 : decode cX8_isOn 50 = .ok (.iadd, 1) := by decide +kernel
theorem dX8_isOn_51 : decode cX8_isOn 51 = .ok (.iload_n 2, 1) := by decide +kernel
theorem dX8_isOn_52 : decode cX8_isOn 52 = .ok (.iadd, 1) := by decide +kernel
theorem dX8_isOn_53 : decode cX8_isOn 53 = .ok (.iaload, 1) := by decide +kernel
theorem dX8_isOn_54 : decode cX8_isOn 54 = .ok (.aload_n 0, 1) := by decide +kernel
theorem dX8_isOn_55 : decode cX8_isOn 55 = .ok (.getfield 7, 3) := by decide +kernel
theorem dX8_isOn_58 : decode cX8_isOn 58 = .ok (.iload_n 1, 1) := by decide +kernel
theorem dX8_isOn_59 : decode cX8_isOn 59 = .ok (.bipush 24, 2) := by decide +kernel
theorem dX8_isOn_61 : decode cX8_isOn 61 = .ok (.iadd, 1) := by decide +kernel
theorem dX8_isOn_62 : decode cX8_isOn 62 = .ok (.iload_n 3, 1) := by decide +kernel
theorem dX8_isOn_63 : decode cX8_isOn 63 = .ok (.iadd, 1) := by decide +kernel
theorem dX8_isOn_64 : decode cX8_isOn 64 = .ok (.iaload, 1) := by decide +kernel
theorem dX8_isOn_65 : decode cX8_isOn 65 = .ok (.aload_n 0, 1) := by decide +kernel
theorem dX8_isOn_66 : decode cX8_isOn 66 = .ok (.getfield 7, 3) := by decide +kernel
theorem dX8_isOn_69 : decode cX8_isOn 69 = .ok (.iload_n 1, 1) := by decide +kernel
theorem dX8_isOn_70 : decode cX8_isOn 70 = .ok (.bipush 24, 2) := by decide +kernel
theorem dX8_isOn_72 : decode cX8_isOn 72 = .ok (.iadd, 1) := by decide +kernel
theorem dX8_isOn_73 : decode cX8_isOn 73 = .ok (.iload 4, 2) := by decide +kernel
theorem dX8_isOn_75 : decode cX8_isOn 75 = .ok (.iadd, 1) := by decide +kernel
theorem dX8_isOn_76 : decode cX8_isOn 76 = .ok (.iaload, 1) := by decide +kernel
theorem dX8_isOn_77 : decode cX8_isOn 77 = .ok (.invokestatic 161, 3) := by decide +kernel
theorem dX8_isOn_80 : decode cX8_isOn 80 = .ok (.ifCond .eq 7, 3) := by decide +kernel
theorem dX8_isOn_83 : decode cX8_isOn 83 = .ok (.iconst 1, 1) := by decide +kernel
theorem dX8_isOn_84 : decode cX8_isOn 84 = .ok (.goto 4, 3) := by decide +kernel
theorem dX8_isOn_87 : decode cX8_isOn 87 = .ok (.iconst 0, 1) := by decide +kernel
theorem dX8_isOn_88 : decode cX8_isOn 88 = .ok (.ireturn, 1) := by decide +kernel
theorem wX8_isOn_88 (C : CxM p rmX8_isOn s m args meth c D ac q RX8 cX8_isOn 5) (hr : meth.sig.returnType = (some .boolean)) {t0 : Int} {σ : Mm} {r : Int} (hl : lv_has ls 5 [(0, .ref (q 0))]) (h : fX8_isOn_88 t0 σ = some r) : VM p l e rmX8_isOn s m args below meth c D ac q (QIM D ac q below args s (r, σ)) σ (F0 m 88 ls [.int (i32 t0)]) := by
  have h : chb t0 (some t0) = some r := h
  have hz1 := (chb_e h).1
  have h := (chb_e h).2
  exact v_zret C hr hz1 (so1 h) dX8_isOn_88
theorem wX8_isOn_87 (C : CxM p rmX8_isOn s m args meth c D ac q RX8 cX8_isOn 5) (hr : meth.sig.returnType = (some .boolean)) {σ : Mm} {r : Int} (hl : lv_has ls 5 [(0, .ref (q 0))]) (h : fX8_isOn_87 σ = some r) : VM p l e rmX8_isOn s m args below meth c D ac q (QIM D ac q below args s (r, σ)) σ (F0 m 87 ls []) := by
  have h : fX8_isOn_88 0 σ = some r := h
  refine v_iconst C dX8_isOn_87 ?_
  exact wX8_isOn_88 C hr (lv_sub hl [0] rfl) h
theorem mX8_isOn (hq : QI 19 q) {v1 : Int} {v2 : Int} {v3 : Int} {v4 : Int} {σ : Mm} {r : Int} (h : fX8_isOn v1 v2 v3 v4 σ = some r) : MIM l D ac q yX8_isOn cX8_isOn 5 (some .boolean) rmX8_isOn [.ref (q 0), .int (i32 v1), .int (i32 v2), .int (i32 v3), .int (i32 v4)] σ (r, σ) := by
  refine MI.of hq XT_M (by decide) (Nat.le_of_ble_eq_true rfl) (fun p e s m below meth c ls C hr hl => ?_)
  have hl : lv_has ls 5 [(0, .ref (q 0)), (1, .int (i32 v1)), (2, .int (i32 v2)), (3, .int (i32 v3)), (4, .int (i32 v4))] := hl
  have h : bd (fX8_turned v1 v3 v4 v2 σ) (fun x_1 => cr x_1 ((if x_1 = 0 then chk (v1 + v2) 700 (chk (v1 + v3) 700 (chk (v1 + v4) 700 (bd (fX8_isBetween (σ 1 (v1 + v2).toNat) (σ 1 (v1 + v3).toNat) (σ 1 (v1 + v4).toNat) σ) (fun x_3 => cr x_3 ((if x_3 = 0 then fX8_isOn_87 σ else chk ((v1 + 24) + v2) 700 (chk ((v1 + 24) + v3) 700 (chk ((v1 + 24) + v4) 700 (bd (fX8_isBetween (σ 1 ((v1 + 24) + v2).toNat) (σ 1 ((v1 + 24) + v3).toNat) (σ 1 ((v1 + 24) + v4).toNat) σ) (fun x_5 => cr x_5 ((if x_5 = 0 then fX8_isOn_87 σ else fX8_isOn_88 1 σ)))))))))))) else fX8_isOn_87 σ))) = some r := h
  refine v_aload_n C hl dX8_isOn_0 rfl 0 rfl ?_
  refine v_iload_n C hl dX8_isOn_1 rfl 1 rfl ?_
  refine v_iload_n C hl dX8_isOn_2 rfl 3 rfl ?_
  refine v_iload C hl dX8_isOn_3 4 rfl ?_
  refine v_iload_n C hl dX8_isOn_5 rfl 2 rfl ?_
  obtain ⟨x_1, hv1, h⟩ := bd_e h
  refine v_callVI C 0 (klM kdM_0) rfl (ckM1 kdM_0 _) rfl [.int (i32 v1), .int (i32 v3), .int (i32 v4), .int (i32 v2)] (mX8_turned C.2.2.2.2.1 hv1) cd_X8_turned ic_X8 im_X8_turned se_X8_turned ml_X8_157 yk_X8_turned ⟨rfl, rfl, by decide, by decide⟩ rfl hl.1 (rest := []) rfl (Nat.le_of_ble_eq_true rfl) dX8_isOn_6 ?_
  have hz2 := (cr_e h).1
  have h := (cr_e h).2
  refine v_if_ne C (tgt := 87) hz2 h dX8_isOn_9 rfl (fun h => ?_) (fun h => ?_)
  · exact wX8_isOn_87 C hr (lv_sub hl [0] rfl) h
  · refine v_aload_n C hl dX8_isOn_12 rfl 0 rfl ?_
    refine g_X8_0 C kdM_0 fl_X8_7 dX8_isOn_13 ?_
    refine v_iload_n C hl dX8_isOn_16 rfl 1 rfl ?_
    refine v_iload_n C hl dX8_isOn_17 rfl 2 rfl ?_
    refine v_iadd C dX8_isOn_18 ?_
    refine alM2 C kdM_1 h dX8_isOn_19 (fun h => ?_)
    refine v_aload_n C hl dX8_isOn_20 rfl 0 rfl ?_
    refine g_X8_0 C kdM_0 fl_X8_7 dX8_isOn_21 ?_
    refine v_iload_n C hl dX8_isOn_24 rfl 1 rfl ?_
    refine v_iload_n C hl dX8_isOn_25 rfl 3 rfl ?_
    refine v_iadd C dX8_isOn_26 ?_
    refine alM2 C kdM_1 h dX8_isOn_27 (fun h => ?_)
    refine v_aload_n C hl dX8_isOn_28 rfl 0 rfl ?_
    refine g_X8_0 C kdM_0 fl_X8_7 dX8_isOn_29 ?_
    refine v_iload_n C hl dX8_isOn_32 rfl 1 rfl ?_
    refine v_iload C hl dX8_isOn_33 4 rfl ?_
    refine v_iadd C dX8_isOn_35 ?_
    refine alM2 C kdM_1 h dX8_isOn_36 (fun h => ?_)
    obtain ⟨x_3, hv3, h⟩ := bd_e h
    refine v_callSI C [.int (i32 (σ 1 (v1 + v2).toNat)), .int (i32 (σ 1 (v1 + v3).toNat)), .int (i32 (σ 1 (v1 + v4).toNat))] (mX8_isBetween C.2.2.2.2.1 hv3) cd_X8_isBetween ic_X8 sm_X8_isBetween ml_X8_161 yk_X8_isBetween ⟨rfl, rfl, by decide, by decide⟩ rfl hl.1 (rest := []) rfl (Nat.le_of_ble_eq_true rfl) dX8_isOn_37 ?_
    have hz4 := (cr_e h).1
    have h := (cr_e h).2
    refine v_if_eq C (tgt := 87) hz4 h dX8_isOn_40 rfl (fun h => ?_) (fun h => ?_)
    · exact wX8_isOn_87 C hr (lv_sub hl [0] rfl) h
    · refine v_aload_n C hl dX8_isOn_43 rfl 0 rfl ?_
      refine g_X8_0 C kdM_0 fl_X8_7 dX8_isOn_44 ?_
      refine v_iload_n C hl dX8_isOn_47 rfl 1 rfl ?_
      refine v_bipush C dX8_isOn_48 rfl ?_
      refine v_iadd C dX8_isOn_50 ?_
      refine v_iload_n C hl dX8_isOn_51 rfl 2 rfl ?_
      refine v_iadd C dX8_isOn_52 ?_
      refine alM2 C kdM_1 h dX8_isOn_53 (fun h => ?_)
      refine v_aload_n C hl dX8_isOn_54 rfl 0 rfl ?_
      refine g_X8_0 C kdM_0 fl_X8_7 dX8_isOn_55 ?_
      refine v_iload_n C hl dX8_isOn_58 rfl 1 rfl ?_
      refine v_bipush C dX8_isOn_59 rfl ?_
      refine v_iadd C dX8_isOn_61 ?_
      refine v_iload_n C hl dX8_isOn_62 rfl 3 rfl ?_
      refine v_iadd C dX8_isOn_63 ?_
      refine alM2 C kdM_1 h dX8_isOn_64 (fun h => ?_)
      refine v_aload_n C hl dX8_isOn_65 rfl 0 rfl ?_
      refine g_X8_0 C kdM_0 fl_X8_7 dX8_isOn_66 ?_
      refine v_iload_n C hl dX8_isOn_69 rfl 1 rfl ?_
      refine v_bipush C dX8_isOn_70 rfl ?_
      refine v_iadd C dX8_isOn_72 ?_
      refine v_iload C hl dX8_isOn_73 4 rfl ?_
      refine v_iadd C dX8_isOn_75 ?_
      refine alM2 C kdM_1 h dX8_isOn_76 (fun h => ?_)
      obtain ⟨x_5, hv5, h⟩ := bd_e h
      refine v_callSI C [.int (i32 (σ 1 ((v1 + 24) + v2).toNat)), .int (i32 (σ 1 ((v1 + 24) + v3).toNat)), .int (i32 (σ 1 ((v1 + 24) + v4).toNat))] (mX8_isBetween C.2.2.2.2.1 hv5) cd_X8_isBetween ic_X8 sm_X8_isBetween ml_X8_161 yk_X8_isBetween ⟨rfl, rfl, by decide, by decide⟩ rfl hl.1 (rest := []) rfl (Nat.le_of_ble_eq_true rfl) dX8_isOn_77 ?_
      have hz6 := (cr_e h).1
      have h := (cr_e h).2
      refine v_if_eq C (tgt := 87) hz6 h dX8_isOn_80 rfl (fun h => ?_) (fun h => ?_)
      · exact wX8_isOn_87 C hr (lv_sub hl [0] rfl) h
      · refine v_iconst C dX8_isOn_83 ?_
        refine v_goto C (tgt := 88) dX8_isOn_84 rfl ?_
        exact wX8_isOn_88 C hr (lv_sub hl [0] rfl) h
end
section
variable {l : Launch} {D : va_G} {ac : Nat → ClassId} {q : Nat → Nat} {p : Program} {e : Env} {s : State} {m : MethodId} {args : Array Value} {below : List Frame} {meth : Method} {c : Code} {ls : Array Slot}
theorem dX8_isInTriangle_0 : decode cX8_isInTriangle 0 = .ok (.aload_n 0, 1) := by decide +kernel
theorem dX8_isInTriangle_1 : decode cX8_isInTriangle 1 = .ok (.iconst 0, 1) := by decide +kernel
theorem dX8_isInTriangle_2 : decode cX8_isInTriangle 2 = .ok (.iload_n 2, 1) := by decide +kernel
theorem dX8_isInTriangle_3 : decode cX8_isInTriangle 3 = .ok (.iload_n 3, 1) := by decide +kernel
theorem dX8_isInTriangle_4 : decode cX8_isInTriangle 4 = .ok (.iload_n 1, 1) := by decide +kernel
theorem dX8_isInTriangle_5 : decode cX8_isInTriangle 5 = .ok (.invokevirtual 157, 3) := by decide +kernel
theorem dX8_isInTriangle_8 : decode cX8_isInTriangle 8 = .ok (.invokestatic 165, 3) := by decide +kernel
theorem dX8_isInTriangle_11 : decode cX8_isInTriangle 11 = .ok (.istore 5, 2) := by decide +kernel
theorem dX8_isInTriangle_13 : decode cX8_isInTriangle 13 = .ok (.aload_n 0, 1) := by decide +kernel
theorem dX8_isInTriangle_14 : decode cX8_isInTriangle 14 = .ok (.iconst 0, 1) := by decide +kernel
theorem dX8_isInTriangle_15 : decode cX8_isInTriangle 15 = .ok (.iload_n 3, 1) := by decide +kernel
theorem dX8_isInTriangle_16 : decode cX8_isInTriangle 16 = .ok (.iload 4, 2) := by decide +kernel
theorem dX8_isInTriangle_18 : decode cX8_isInTriangle 18 = .ok (.iload_n 1, 1) := by decide +kernel
theorem dX8_isInTriangle_19 : decode cX8_isInTriangle 19 = .ok (.invokevirtual 157, 3) := by decide +kernel
theorem dX8_isInTriangle_22 : decode cX8_isInTriangle 22 = .ok (.invokestatic 165, 3) := by decide +kernel
theorem dX8_isInTriangle_25 : decode cX8_isInTriangle 25 = .ok (.istore 6, 2) := by decide +kernel
theorem dX8_isInTriangle_27 : decode cX8_isInTriangle 27 = .ok (.aload_n 0, 1) := by decide +kernel
theorem dX8_isInTriangle_28 : decode cX8_isInTriangle 28 = .ok (.iconst 0, 1) := by decide +kernel
theorem dX8_isInTriangle_29 : decode cX8_isInTriangle 29 = .ok (.iload 4, 2) := by decide +kernel
theorem dX8_isInTriangle_31 : decode cX8_isInTriangle 31 = .ok (.iload_n 2, 1) := by decide +kernel
theorem dX8_isInTriangle_32 : decode cX8_isInTriangle 32 = .ok (.iload_n 1, 1) := by decide +kernel
theorem dX8_isInTriangle_33 : decode cX8_isInTriangle 33 = .ok (.invokevirtual 157, 3) := by decide +kernel
theorem dX8_isInTriangle_36 : decode cX8_isInTriangle 36 = .ok (.invokestatic 165, 3) := by decide +kernel
theorem dX8_isInTriangle_39 : decode cX8_isInTriangle 39 = .ok (.istore 7, 2) := by decide +kernel
theorem dX8_isInTriangle_41 : decode cX8_isInTriangle 41 = .ok (.iload 5, 2) := by decide +kernel
theorem dX8_isInTriangle_43 : decode cX8_isInTriangle 43 = .ok (.iload 6, 2) := by decide +kernel
theorem dX8_isInTriangle_45 : decode cX8_isInTriangle 45 = .ok (.if_icmp .ne 19, 3) := by decide +kernel
theorem dX8_isInTriangle_48 : decode cX8_isInTriangle 48 = .ok (.iload 6, 2) := by decide +kernel
theorem dX8_isInTriangle_50 : decode cX8_isInTriangle 50 = .ok (.iload 7, 2) := by decide +kernel
theorem dX8_isInTriangle_52 : decode cX8_isInTriangle 52 = .ok (.if_icmp .ne 12, 3) := by decide +kernel
theorem dX8_isInTriangle_55 : decode cX8_isInTriangle 55 = .ok (.iload 5, 2) := by decide +kernel
theorem dX8_isInTriangle_57 : decode cX8_isInTriangle 57 = .ok (.ifCond .eq 7, 3) := by decide +kernel
theorem dX8_isInTriangle_60 : decode cX8_isInTriangle 60 = .ok (.iconst 1, 1) := by decide +kernel
theorem dX8_isInTriangle_61 : decode cX8_isInTriangle 61 = .ok (.goto 4, 3) := by decide +kernel
theorem dX8_isInTriangle_64 : decode cX8_isInTriangle 64 = .ok (.iconst 0, 1) := by decide +kernel
theorem dX8_isInTriangle_65 : decode cX8_isInTriangle 65 = .ok (.istore 8, 2) := by decide +kernel
theorem dX8_isInTriangle_67 : decode cX8_isInTriangle 67 = .ok (.iload 8, 2) := by decide +kernel
theorem dX8_isInTriangle_69 : decode cX8_isInTriangle 69 = .ok (.ifCond .ne 38, 3) := by decide +kernel
theorem dX8_isInTriangle_72 : decode cX8_isInTriangle 72 = .ok (.aload_n 0, 1) := by decide +kernel
theorem dX8_isInTriangle_73 : decode cX8_isInTriangle 73 = .ok (.iconst 0, 1) := by decide +kernel
theorem dX8_isInTriangle_74 : decode cX8_isInTriangle 74 = .ok (.iload_n 1, 1) := by decide +kernel
theorem dX8_isInTriangle_75 : decode cX8_isInTriangle 75 = .ok (.iload_n 2, 1) := by decide +kernel
theorem dX8_isInTriangle_76 : decode cX8_isInTriangle 76 = .ok (.iload_n 3, 1) := by decide +kernel
theorem dX8_isInTriangle_77 : decode cX8_isInTriangle 77 = .ok (.invokevirtual 175, 3) := by decide +kernel
theorem dX8_isInTriangle_80 : decode cX8_isInTriangle 80 = .ok (.ifCond .ne 27, 3) := by decide +kernel
theorem dX8_isInTriangle_83 : decode cX8_isInTriangle 83 = .ok (.aload_n 0, 1) := by decide +kernel
theorem dX8_isInTriangle_84 : decode cX8_isInTriangle 84 = .ok (.iconst 0, 1) := by decide +kernel
theorem dX8_isInTriangle_85 : decode cX8_isInTriangle 85 = .ok (.iload_n 1, 1) := by decide +kernel
theorem dX8_isInTriangle_86 : decode cX8_isInTriangle 86 = .ok (.iload_n 3, 1) := by decide +kernel
theorem dX8_isInTriangle_87 : decode cX8_isInTriangle 87 = .ok (.iload 4, 2) := by decide +kernel
theorem dX8_isInTriangle_89 : decode cX8_isInTriangle 89 = .ok (.invokevirtual 175, 3) := by decide +kernel
theorem dX8_isInTriangle_92 : decode cX8_isInTriangle 92 = .ok (.ifCond .ne 15, 3) := by decide +kernel
theorem dX8_isInTriangle_95 : decode cX8_isInTriangle 95 = .ok (.aload_n 0, 1) := by decide +kernel
theorem dX8_isInTriangle_96 : decode cX8_isInTriangle 96 = .ok (.iconst 0, 1) := by decide +kernel
theorem dX8_isInTriangle_97 : decode cX8_isInTriangle 97 = .ok (.iload_n 1, 1) := by decide +kernel
theorem dX8_isInTriangle_98 : decode cX8_isInTriangle 98 = .ok (.iload 4, 2) := by decide +kernel
theorem dX8_isInTriangle_100 : decode cX8_isInTriangle 100 = .ok (.iload_n 2, 1) := by decide +kernel
theorem dX8_isInTriangle_101 : decode cX8_isInTriangle 101 = .ok (.invokevirtual 175, 3) := by decide +kernel
theorem dX8_isInTriangle_104 : decode cX8_isInTriangle 104 = .ok (.ifCond .eq 7, 3) := by decide +kernel
theorem dX8_isInTriangle_107 : decode cX8_isInTriangle 107 = .ok (.iconst 1, 1) := by decide +kernel
theorem dX8_isInTriangle_108 : decode cX8_isInTriangle 108 = .ok (.goto 4, 3) := by decide +kernel
theorem dX8_isInTriangle_111 : decode cX8_isInTriangle 111 = .ok (.iconst 0, 1) := by decide +kernel
theorem dX8_isInTriangle_112 : decode cX8_isInTriangle 112 = .ok (.ireturn, 1) := by decide +kernel
theorem wX8_isInTriangle_112 (C : CxM p rmX8_isInTriangle s m args meth c D ac q RX8 cX8_isInTriangle 9) (hr : meth.sig.returnType = (some .boolean)) {t0 : Int} {σ : Mm} {r : Int} (hl : lv_has ls 9 [(0, .ref (q 0))]) (h : fX8_isInTriangle_112 t0 σ = some r) : VM p l e rmX8_isInTriangle s m args below meth c D ac q (QIM D ac q below args s (r, σ)) σ (F0 m 112 ls [.int (i32 t0)]) := by
  have h : chb t0 (some t0) = some r := h
  have hz1 := (chb_e h).1
  have h := (chb_e h).2
  exact v_zret C hr hz1 (so1 h) dX8_isInTriangle_112
theorem wX8_isInTriangle_107 (C : CxM p rmX8_isInTriangle s m args meth c D ac q RX8 cX8_isInTriangle 9) (hr : meth.sig.returnType = (some .boolean)) {σ : Mm} {r : Int} (hl : lv_has ls 9 [(0, .ref (q 0))]) (h : fX8_isInTriangle_107 σ = some r) : VM p l e rmX8_isInTriangle s m args below meth c D ac q (QIM D ac q below args s (r, σ)) σ (F0 m 107 ls []) := by
  have h : fX8_isInTriangle_112 1 σ = some r := h
  refine v_iconst C dX8_isInTriangle_107 ?_
  refine v_goto C (tgt := 112) dX8_isInTriangle_108 rfl ?_
  exact wX8_isInTriangle_112 C hr (lv_sub hl [0] rfl) h
theorem wX8_isInTriangle_65 (C : CxM p rmX8_isInTriangle s m args meth c D ac q RX8 cX8_isInTriangle 9) (hr : meth.sig.returnType = (some .boolean)) {v1 : Int} {v2 : Int} {v3 : Int} {v4 : Int} {t0 : Int} {σ : Mm} {r : Int} (hl : lv_has ls 9 [(0, .ref (q 0)), (1, .int (i32 v1)), (2, .int (i32 v2)), (3, .int (i32 v3)), (4, .int (i32 v4))]) (h : fX8_isInTriangle_65 v1 v2 v3 v4 t0 σ = some r) : VM p l e rmX8_isInTriangle s m args below meth c D ac q (QIM D ac q below args s (r, σ)) σ (F0 m 65 ls [.int (i32 t0)]) := by
  have h : bindv t0 (fun v8_1 => cr v8_1 ((if v8_1 = 0 then bd (fX8_isOn 0 v1 v2 v3 σ) (fun x_3 => cr x_3 ((if x_3 = 0 then bd (fX8_isOn 0 v1 v3 v4 σ) (fun x_5 => cr x_5 ((if x_5 = 0 then bd (fX8_isOn 0 v1 v4 v2 σ) (fun x_7 => cr x_7 ((if x_7 = 0 then fX8_isInTriangle_112 0 σ else fX8_isInTriangle_107 σ))) else fX8_isInTriangle_107 σ))) else fX8_isInTriangle_107 σ))) else fX8_isInTriangle_107 σ))) = some r := h
  refine v_istore C hl (fun x => [(8, .int (i32 x)), (0, .ref (q 0)), (1, .int (i32 v1)), (2, .int (i32 v2)), (3, .int (i32 v3)), (4, .int (i32 v4))]) dX8_isInTriangle_65 (by decide) (fun _ => rfl) h (fun v8_1 ls hl h => ?_)
  refine v_iload C hl dX8_isInTriangle_67 0 rfl ?_
  have hz2 := (cr_e h).1
  have h := (cr_e h).2
  refine v_if_ne C (tgt := 107) hz2 h dX8_isInTriangle_69 rfl (fun h => ?_) (fun h => ?_)
  · exact wX8_isInTriangle_107 C hr (lv_sub hl [1] rfl) h
  · refine v_aload_n C hl dX8_isInTriangle_72 rfl 1 rfl ?_
    refine v_iconst C dX8_isInTriangle_73 ?_
    refine v_iload_n C hl dX8_isInTriangle_74 rfl 2 rfl ?_
    refine v_iload_n C hl dX8_isInTriangle_75 rfl 3 rfl ?_
    refine v_iload_n C hl dX8_isInTriangle_76 rfl 4 rfl ?_
    obtain ⟨x_3, hv3, h⟩ := bd_e h
    refine v_callVI C 0 (klM kdM_0) rfl (ckM1 kdM_0 _) rfl [.int (i32 0), .int (i32 v1), .int (i32 v2), .int (i32 v3)] (mX8_isOn C.2.2.2.2.1 hv3) cd_X8_isOn ic_X8 im_X8_isOn se_X8_isOn ml_X8_175 yk_X8_isOn ⟨rfl, rfl, by decide, by decide⟩ rfl hl.1 (rest := []) rfl (Nat.le_of_ble_eq_true rfl) dX8_isInTriangle_77 ?_
    have hz4 := (cr_e h).1
    have h := (cr_e h).2
    refine v_if_ne C (tgt := 107) hz4 h dX8_isInTriangle_80 rfl (fun h => ?_) (fun h => ?_)
    · exact wX8_isInTriangle_107 C hr (lv_sub hl [1] rfl) h
    · refine v_aload_n C hl dX8_isInTriangle_83 rfl 1 rfl ?_
      refine v_iconst C dX8_isInTriangle_84 ?_
      refine v_iload_n C hl dX8_isInTriangle_85 rfl 2 rfl ?_
      refine v_iload_n C hl dX8_isInTriangle_86 rfl 4 rfl ?_
      refine v_iload C hl dX8_isInTriangle_87 5 rfl ?_
      obtain ⟨x_5, hv5, h⟩ := bd_e h
      refine v_callVI C 0 (klM kdM_0) rfl (ckM1 kdM_0 _) rfl [.int (i32 0), .int (i32 v1), .int (i32 v3), .int (i32 v4)] (mX8_isOn C.2.2.2.2.1 hv5) cd_X8_isOn ic_X8 im_X8_isOn se_X8_isOn ml_X8_175 yk_X8_isOn ⟨rfl, rfl, by decide, by decide⟩ rfl hl.1 (rest := []) rfl (Nat.le_of_ble_eq_true rfl) dX8_isInTriangle_89 ?_
      have hz6 := (cr_e h).1
      have h := (cr_e h).2
      refine v_if_ne C (tgt := 107) hz6 h dX8_isInTriangle_92 rfl (fun h => ?_) (fun h => ?_)
      · exact wX8_isInTriangle_107 C hr (lv_sub hl [1] rfl) h
      · refine v_aload_n C hl dX8_isInTriangle_95 rfl 1 rfl ?_
        refine v_iconst C dX8_isInTriangle_96 ?_
        refine v_iload_n C hl dX8_isInTriangle_97 rfl 2 rfl ?_
        refine v_iload C hl dX8_isInTriangle_98 5 rfl ?_
        refine v_iload_n C hl dX8_isInTriangle_100 rfl 3 rfl ?_
        obtain ⟨x_7, hv7, h⟩ := bd_e h
        refine v_callVI C 0 (klM kdM_0) rfl (ckM1 kdM_0 _) rfl [.int (i32 0), .int (i32 v1), .int (i32 v4), .int (i32 v2)] (mX8_isOn C.2.2.2.2.1 hv7) cd_X8_isOn ic_X8 im_X8_isOn se_X8_isOn ml_X8_175 yk_X8_isOn ⟨rfl, rfl, by decide, by decide⟩ rfl hl.1 (rest := []) rfl (Nat.le_of_ble_eq_true rfl) dX8_isInTriangle_101 ?_
        have hz8 := (cr_e h).1
        have h := (cr_e h).2
        refine v_if_eq C (tgt := 111) hz8 h dX8_isInTriangle_104 rfl (fun h => ?_) (fun h => ?_)
        · refine v_iconst C dX8_isInTriangle_111 ?_
          exact wX8_isInTriangle_112 C hr (lv_sub hl [1] rfl) h
        · exact wX8_isInTriangle_107 C hr (lv_sub hl [1] rfl) h
theorem wX8_isInTriangle_64 (C : CxM p rmX8_isInTriangle s m args meth c D ac q RX8 cX8_isInTriangle 9) (hr : meth.sig.returnType = (some .boolean)) {v1 : Int} {v2 : Int} {v3 : Int} {v4 : Int} {σ : Mm} {r : Int} (hl : lv_has ls 9 [(0, .ref (q 0)), (1, .int (i32 v1)), (2, .int (i32 v2)), (3, .int (i32 v3)), (4, .int (i32 v4))]) (h : fX8_isInTriangle_64 v1 v2 v3 v4 σ = some r) : VM p l e rmX8_isInTriangle s m args below meth c D ac q (QIM D ac q below args s (r, σ)) σ (F0 m 64 ls []) := by
  have h : fX8_isInTriangle_65 v1 v2 v3 v4 0 σ = some r := h
  refine v_iconst C dX8_isInTriangle_64 ?_
  exact wX8_isInTriangle_65 C hr (lv_sub hl [0, 1, 2, 3, 4] rfl) h
theorem mX8_isInTriangle (hq : QI 19 q) {v1 : Int} {v2 : Int} {v3 : Int} {v4 : Int} {σ : Mm} {r : Int} (h : fX8_isInTriangle v1 v2 v3 v4 σ = some r) : MIM l D ac q yX8_isInTriangle cX8_isInTriangle 9 (some .boolean) rmX8_isInTriangle [.ref (q 0), .int (i32 v1), .int (i32 v2), .int (i32 v3), .int (i32 v4)] σ (r, σ) := by
  refine MI.of hq XT_M (by decide) (Nat.le_of_ble_eq_true rfl) (fun p e s m below meth c ls C hr hl => ?_)
  have hl : lv_has ls 9 [(0, .ref (q 0)), (1, .int (i32 v1)), (2, .int (i32 v2)), (3, .int (i32 v3)), (4, .int (i32 v4))] := hl
  have h : bd (fX8_turned 0 v2 v3 v1 σ) (fun x_1 => bd (fX8_signOf x_1 σ) (fun x_2 => bindv x_2 (fun v5_3 => bd (fX8_turned 0 v3 v4 v1 σ) (fun x_4 => bd (fX8_signOf x_4 σ) (fun x_5 => bindv x_5 (fun v6_6 => bd (fX8_turned 0 v4 v2 v1 σ) (fun x_7 => bd (fX8_signOf x_7 σ) (fun x_8 => bindv x_8 (fun v7_9 => cr v5_3 (cr v6_6 ((if v5_3 = v6_6 then cr v6_6 (cr v7_9 ((if v6_6 = v7_9 then cr v5_3 ((if v5_3 = 0 then fX8_isInTriangle_64 v1 v2 v3 v4 σ else fX8_isInTriangle_65 v1 v2 v3 v4 1 σ)) else fX8_isInTriangle_64 v1 v2 v3 v4 σ))) else fX8_isInTriangle_64 v1 v2 v3 v4 σ)))))))))))) = some r := h
  refine v_aload_n C hl dX8_isInTriangle_0 rfl 0 rfl ?_
  refine v_iconst C dX8_isInTriangle_1 ?_
  refine v_iload_n C hl dX8_isInTriangle_2 rfl 2 rfl ?_
  refine v_iload_n C hl dX8_isInTriangle_3 rfl 3 rfl ?_
  refine v_iload_n C hl dX8_isInTriangle_4 rfl 1 rfl ?_
  obtain ⟨x_1, hv1, h⟩ := bd_e h
  refine v_callVI C 0 (klM kdM_0) rfl (ckM1 kdM_0 _) rfl [.int (i32 0), .int (i32 v2), .int (i32 v3), .int (i32 v1)] (mX8_turned C.2.2.2.2.1 hv1) cd_X8_turned ic_X8 im_X8_turned se_X8_turned ml_X8_157 yk_X8_turned ⟨rfl, rfl, by decide, by decide⟩ rfl hl.1 (rest := []) rfl (Nat.le_of_ble_eq_true rfl) dX8_isInTriangle_5 ?_
  obtain ⟨x_2, hv2, h⟩ := bd_e h
  refine v_callSI C [.int (i32 x_1)] (mX8_signOf C.2.2.2.2.1 hv2) cd_X8_signOf ic_X8 sm_X8_signOf ml_X8_165 yk_X8_signOf ⟨rfl, rfl, by decide, by decide⟩ rfl hl.1 (rest := []) rfl (Nat.le_of_ble_eq_true rfl) dX8_isInTriangle_8 ?_
  refine v_istore C hl (fun x => [(5, .int (i32 x)), (0, .ref (q 0)), (1, .int (i32 v1)), (2, .int (i32 v2)), (3, .int (i32 v3)), (4, .int (i32 v4))]) dX8_isInTriangle_11 (by decide) (fun _ => rfl) h (fun v5_3 ls hl h => ?_)
  refine v_aload_n C hl dX8_isInTriangle_13 rfl 1 rfl ?_
  refine v_iconst C dX8_isInTriangle_14 ?_
  refine v_iload_n C hl dX8_isInTriangle_15 rfl 4 rfl ?_
  refine v_iload C hl dX8_isInTriangle_16 5 rfl ?_
  refine v_iload_n C hl dX8_isInTriangle_18 rfl 2 rfl ?_
  obtain ⟨x_4, hv4, h⟩ := bd_e h
  refine v_callVI C 0 (klM kdM_0) rfl (ckM1 kdM_0 _) rfl [.int (i32 0), .int (i32 v3), .int (i32 v4), .int (i32 v1)] (mX8_turned C.2.2.2.2.1 hv4) cd_X8_turned ic_X8 im_X8_turned se_X8_turned ml_X8_157 yk_X8_turned ⟨rfl, rfl, by decide, by decide⟩ rfl hl.1 (rest := []) rfl (Nat.le_of_ble_eq_true rfl) dX8_isInTriangle_19 ?_
  obtain ⟨x_5, hv5, h⟩ := bd_e h
  refine v_callSI C [.int (i32 x_4)] (mX8_signOf C.2.2.2.2.1 hv5) cd_X8_signOf ic_X8 sm_X8_signOf ml_X8_165 yk_X8_signOf ⟨rfl, rfl, by decide, by decide⟩ rfl hl.1 (rest := []) rfl (Nat.le_of_ble_eq_true rfl) dX8_isInTriangle_22 ?_
  refine v_istore C hl (fun x => [(6, .int (i32 x)), (5, .int (i32 v5_3)), (0, .ref (q 0)), (1, .int (i32 v1)), (2, .int (i32 v2)), (3, .int (i32 v3)), (4, .int (i32 v4))]) dX8_isInTriangle_25 (by decide) (fun _ => rfl) h (fun v6_6 ls hl h => ?_)
  refine v_aload_n C hl dX8_isInTriangle_27 rfl 2 rfl ?_
  refine v_iconst C dX8_isInTriangle_28 ?_
  refine v_iload C hl dX8_isInTriangle_29 6 rfl ?_
  refine v_iload_n C hl dX8_isInTriangle_31 rfl 4 rfl ?_
  refine v_iload_n C hl dX8_isInTriangle_32 rfl 3 rfl ?_
  obtain ⟨x_7, hv7, h⟩ := bd_e h
  refine v_callVI C 0 (klM kdM_0) rfl (ckM1 kdM_0 _) rfl [.int (i32 0), .int (i32 v4), .int (i32 v2), .int (i32 v1)] (mX8_turned C.2.2.2.2.1 hv7) cd_X8_turned ic_X8 im_X8_turned se_X8_turned ml_X8_157 yk_X8_turned ⟨rfl, rfl, by decide, by decide⟩ rfl hl.1 (rest := []) rfl (Nat.le_of_ble_eq_true rfl) dX8_isInTriangle_33 ?_
  obtain ⟨x_8, hv8, h⟩ := bd_e h
  refine v_callSI C [.int (i32 x_7)] (mX8_signOf C.2.2.2.2.1 hv8) cd_X8_signOf ic_X8 sm_X8_signOf ml_X8_165 yk_X8_signOf ⟨rfl, rfl, by decide, by decide⟩ rfl hl.1 (rest := []) rfl (Nat.le_of_ble_eq_true rfl) dX8_isInTriangle_36 ?_
  refine v_istore C hl (fun x => [(7, .int (i32 x)), (6, .int (i32 v6_6)), (5, .int (i32 v5_3)), (0, .ref (q 0)), (1, .int (i32 v1)), (2, .int (i32 v2)), (3, .int (i32 v3)), (4, .int (i32 v4))]) dX8_isInTriangle_39 (by decide) (fun _ => rfl) h (fun v7_9 ls hl h => ?_)
  refine v_iload C hl dX8_isInTriangle_41 2 rfl ?_
  refine v_iload C hl dX8_isInTriangle_43 1 rfl ?_
  have hz10 := (cr_e h).1
  have h := (cr_e h).2
  have hz11 := (cr_e h).1
  have h := (cr_e h).2
  refine v_icmp_ne C (tgt := 64) hz10 hz11 h dX8_isInTriangle_45 rfl (fun h => ?_) (fun h => ?_)
  · exact wX8_isInTriangle_64 C hr (lv_sub hl [3, 4, 5, 6, 7] rfl) h
  · refine v_iload C hl dX8_isInTriangle_48 1 rfl ?_
    refine v_iload C hl dX8_isInTriangle_50 0 rfl ?_
    have hz12 := (cr_e h).1
    have h := (cr_e h).2
    have hz13 := (cr_e h).1
    have h := (cr_e h).2
    refine v_icmp_ne C (tgt := 64) hz12 hz13 h dX8_isInTriangle_52 rfl (fun h => ?_) (fun h => ?_)
    · exact wX8_isInTriangle_64 C hr (lv_sub hl [3, 4, 5, 6, 7] rfl) h
    · refine v_iload C hl dX8_isInTriangle_55 2 rfl ?_
      have hz14 := (cr_e h).1
      have h := (cr_e h).2
      refine v_if_eq C (tgt := 64) hz14 h dX8_isInTriangle_57 rfl (fun h => ?_) (fun h => ?_)
      · exact wX8_isInTriangle_64 C hr (lv_sub hl [3, 4, 5, 6, 7] rfl) h
      · refine v_iconst C dX8_isInTriangle_60 ?_
        refine v_goto C (tgt := 65) dX8_isInTriangle_61 rfl ?_
        exact wX8_isInTriangle_65 C hr (lv_sub hl [3, 4, 5, 6, 7] rfl) h
end
section
variable {l : Launch} {D : va_G} {ac : Nat → ClassId} {q : Nat → Nat} {p : Program} {e : Env} {s : State} {m : MethodId} {args : Array Value} {below : List Frame} {meth : Method} {c : Code} {ls : Array Slot}
theorem dX8_isEmpty_0 : decode cX8_isEmpty 0 = .ok (.iconst 0, 1) := by decide +kernel
theorem dX8_isEmpty_1 : decode cX8_isEmpty 1 = .ok (.istore 5, 2) := by decide +kernel
theorem dX8_isEmpty_3 : decode cX8_isEmpty 3 = .ok (.iload 5, 2) := by decide +kernel
theorem dX8_isEmpty_5 : decode cX8_isEmpty 5 = .ok (.aload_n 0, 1) := by decide +kernel
theorem dX8_isEmpty_6 : decode cX8_isEmpty 6 = .ok (.invokevirtual 206, 3) := by decide +kernel
theorem dX8_isEmpty_9 : decode cX8_isEmpty 9 = .ok (.if_icmp .ge 53, 3) := by decide +kernel
theorem dX8_isEmpty_12 : decode cX8_isEmpty 12 = .ok (.iload 5, 2) := by decide +kernel
theorem dX8_isEmpty_14 : decode cX8_isEmpty 14 = .ok (.iload_n 1, 1) := by decide +kernel
theorem dX8_isEmpty_15 : decode cX8_isEmpty 15 = .ok (.if_icmp .eq 41, 3) := by decide +kernel
theorem dX8_isEmpty_18 : decode cX8_isEmpty 18 = .ok (.iload 5, 2) := by decide +kernel
theorem dX8_isEmpty_20 : decode cX8_isEmpty 20 = .ok (.iload_n 3, 1) := by decide +kernel
theorem dX8_isEmpty_21 : decode cX8_isEmpty 21 = .ok (.if_icmp .eq 35, 3) := by decide +kernel
theorem dX8_isEmpty_24 : decode cX8_isEmpty 24 = .ok (.iload 5, 2) := by decide +kernel
theorem dX8_isEmpty_26 : decode cX8_isEmpty 26 = .ok (.iload 4, 2) := by decide +kernel
theorem dX8_isEmpty_28 : decode cX8_isEmpty 28 = .ok (.if_icmp .eq 28, 3) := by decide +kernel
theorem dX8_isEmpty_31 : decode cX8_isEmpty 31 = .ok (.aload_n 0, 1) := by decide +kernel
theorem dX8_isEmpty_32 : decode cX8_isEmpty 32 = .ok (.iload 5, 2) := by decide +kernel
theorem dX8_isEmpty_34 : decode cX8_isEmpty 34 = .ok (.iload_n 2, 1) := by decide +kernel
theorem dX8_isEmpty_35 : decode cX8_isEmpty 35 = .ok (.invokevirtual 190, 3) := by decide +kernel
theorem dX8_isEmpty_38 : decode cX8_isEmpty 38 = .ok (.ifCond .eq 18, 3) := by decide +kernel
theorem dX8_isEmpty_41 : decode cX8_isEmpty 41 = .ok (.aload_n 0, 1) := by decide +kernel
theorem dX8_isEmpty_42 : decode cX8_isEmpty 42 = .ok (.iload 5, 2) := by decide +kernel
theorem dX8_isEmpty_44 : decode cX8_isEmpty 44 = .ok (.iload_n 3, 1) := by decide +kernel
theorem dX8_isEmpty_45 : decode cX8_isEmpty 45 = .ok (.iload_n 1, 1) := by decide +kernel
theorem dX8_isEmpty_46 : decode cX8_isEmpty 46 = .ok (.iload 4, 2) := by decide +kernel
theorem dX8_isEmpty_48 : decode cX8_isEmpty 48 = .ok (.invokevirtual 209, 3) := by decide +kernel
theorem dX8_isEmpty_51 : decode cX8_isEmpty 51 = .ok (.ifCond .eq 5, 3) := by decide +kernel
theorem dX8_isEmpty_54 : decode cX8_isEmpty 54 = .ok (.iconst 0, 1) := by decide +kernel
theorem dX8_isEmpty_55 : decode cX8_isEmpty 55 = .ok (.ireturn, 1) := by decide +kernel
theorem dX8_isEmpty_56 : decode cX8_isEmpty 56 = .ok (.iinc 5 1, 3) := by decide +kernel
theorem dX8_isEmpty_59 : decode cX8_isEmpty 59 = .ok (.goto (-56), 3) := by decide +kernel
theorem dX8_isEmpty_62 : decode cX8_isEmpty 62 = .ok (.iconst 1, 1) := by decide +kernel
theorem dX8_isEmpty_63 : decode cX8_isEmpty 63 = .ok (.ireturn, 1) := by decide +kernel
theorem wX8_isEmpty_62 (C : CxM p rmX8_isEmpty s m args meth c D ac q RX8 cX8_isEmpty 6) (hr : meth.sig.returnType = (some .boolean)) {σ : Mm} {r : Int} (hl : lv_has ls 6 [(0, .ref (q 0))]) (h : fX8_isEmpty_62 σ = some r) : VM p l e rmX8_isEmpty s m args below meth c D ac q (QIM D ac q below args s (r, σ)) σ (F0 m 62 ls []) := by
  have h : some 1 = some r := h
  refine v_iconst C dX8_isEmpty_62 ?_
  exact v_zret C hr (Or.inr rfl) (so1 h) dX8_isEmpty_63
theorem wX8_isEmpty_56 (C : CxM p rmX8_isEmpty s m args meth c D ac q RX8 cX8_isEmpty 6) (hr : meth.sig.returnType = (some .boolean)) {v1 : Int} {v2 : Int} {v3 : Int} {v4 : Int} {v5 : Int} {c3 : Int → Option (Int)} {σ : Mm} {r : Int} (hc3 : ∀ (v5x : Int) (ls : Array Slot), lv_has ls 6 [(0, .ref (q 0)), (1, .int (i32 v1)), (2, .int (i32 v2)), (3, .int (i32 v3)), (4, .int (i32 v4)), (5, .int (i32 v5x))] → c3 v5x = some r → VM p l e rmX8_isEmpty s m args below meth c D ac q (QIM D ac q below args s (r, σ)) σ (F0 m 3 ls [])) (hl : lv_has ls 6 [(0, .ref (q 0)), (1, .int (i32 v1)), (2, .int (i32 v2)), (3, .int (i32 v3)), (4, .int (i32 v4)), (5, .int (i32 v5))]) (h : fX8_isEmpty_56 c3 v1 v2 v3 v4 v5 σ = some r) : VM p l e rmX8_isEmpty s m args below meth c D ac q (QIM D ac q below args s (r, σ)) σ (F0 m 56 ls []) := by
  have h : bindv (v5 + 1) (fun v5_1 => c3 v5_1) = some r := h
  refine v_iinc C hl (fun x => [(5, .int (i32 x)), (0, .ref (q 0)), (1, .int (i32 v1)), (2, .int (i32 v2)), (3, .int (i32 v3)), (4, .int (i32 v4))]) dX8_isEmpty_56 5 rfl (by decide) (fun _ => rfl) h (fun v5_1 ls hl h => ?_)
  refine v_goto C (tgt := 3) dX8_isEmpty_59 rfl ?_
  exact hc3 _ _ (lv_sub hl [1, 2, 3, 4, 5, 0] rfl) h
theorem wX8_isEmpty_3 (C : CxM p rmX8_isEmpty s m args meth c D ac q RX8 cX8_isEmpty 6) (hr : meth.sig.returnType = (some .boolean)) {v1 : Int} {v2 : Int} {v3 : Int} {v4 : Int} {σ : Mm} {v5 : Int} {e3 : Option (Int)} {c3 : Int → Option (Int)} {r : Int} (he3 : ∀ (ls : Array Slot), lv_has ls 6 [(0, .ref (q 0))] → e3 = some r → VM p l e rmX8_isEmpty s m args below meth c D ac q (QIM D ac q below args s (r, σ)) σ (F0 m 62 ls [])) (hc3 : ∀ (v5x : Int) (ls : Array Slot), lv_has ls 6 [(0, .ref (q 0)), (1, .int (i32 v1)), (2, .int (i32 v2)), (3, .int (i32 v3)), (4, .int (i32 v4)), (5, .int (i32 v5x))] → c3 v5x = some r → VM p l e rmX8_isEmpty s m args below meth c D ac q (QIM D ac q below args s (r, σ)) σ (F0 m 3 ls [])) (hl : lv_has ls 6 [(0, .ref (q 0)), (1, .int (i32 v1)), (2, .int (i32 v2)), (3, .int (i32 v3)), (4, .int (i32 v4)), (5, .int (i32 v5))]) (h : fX8_isEmpty_3 v1 v2 v3 v4 σ e3 c3 v5 = some r) : VM p l e rmX8_isEmpty s m args below meth c D ac q (QIM D ac q below args s (r, σ)) σ (F0 m 3 ls []) := by
  have h : bd (fX8_points σ) (fun x_1 => cr v5 (cr x_1 ((if v5 < x_1 then cr v5 (cr v1 ((if v5 = v1 then fX8_isEmpty_56 c3 v1 v2 v3 v4 v5 σ else cr v5 (cr v3 ((if v5 = v3 then fX8_isEmpty_56 c3 v1 v2 v3 v4 v5 σ else cr v5 (cr v4 ((if v5 = v4 then fX8_isEmpty_56 c3 v1 v2 v3 v4 v5 σ else bd (fX8_isThere v5 v2 σ) (fun x_10 => cr x_10 ((if x_10 = 0 then fX8_isEmpty_56 c3 v1 v2 v3 v4 v5 σ else bd (fX8_isInTriangle v5 v3 v1 v4 σ) (fun x_12 => cr x_12 ((if x_12 = 0 then fX8_isEmpty_56 c3 v1 v2 v3 v4 v5 σ else some 0))))))))))))))) else e3)))) = some r := h
  refine v_iload C hl dX8_isEmpty_3 5 rfl ?_
  refine v_aload_n C hl dX8_isEmpty_5 rfl 0 rfl ?_
  obtain ⟨x_1, hv1, h⟩ := bd_e h
  refine v_callVI C 0 (klM kdM_0) rfl (ckM1 kdM_0 _) rfl [] (mX8_points C.2.2.2.2.1 hv1) cd_X8_points ic_X8 im_X8_points se_X8_points ml_X8_206 yk_X8_points ⟨rfl, rfl, by decide, by decide⟩ rfl hl.1 (rest := [.int (i32 v5)]) rfl (Nat.le_of_ble_eq_true rfl) dX8_isEmpty_6 ?_
  have hz2 := (cr_e h).1
  have h := (cr_e h).2
  have hz3 := (cr_e h).1
  have h := (cr_e h).2
  refine v_icmp_ge C (tgt := 62) hz2 hz3 h dX8_isEmpty_9 rfl (fun h => ?_) (fun h => ?_)
  · exact he3  _ (lv_sub hl [0] rfl) h
  · refine v_iload C hl dX8_isEmpty_12 5 rfl ?_
    refine v_iload_n C hl dX8_isEmpty_14 rfl 1 rfl ?_
    have hz4 := (cr_e h).1
    have h := (cr_e h).2
    have hz5 := (cr_e h).1
    have h := (cr_e h).2
    refine v_icmp_eq C (tgt := 56) hz4 hz5 h dX8_isEmpty_15 rfl (fun h => ?_) (fun h => ?_)
    · exact wX8_isEmpty_56 C hr hc3 (lv_sub hl [0, 1, 2, 3, 4, 5] rfl) h
    · refine v_iload C hl dX8_isEmpty_18 5 rfl ?_
      refine v_iload_n C hl dX8_isEmpty_20 rfl 3 rfl ?_
      have hz6 := (cr_e h).1
      have h := (cr_e h).2
      have hz7 := (cr_e h).1
      have h := (cr_e h).2
      refine v_icmp_eq C (tgt := 56) hz6 hz7 h dX8_isEmpty_21 rfl (fun h => ?_) (fun h => ?_)
      · exact wX8_isEmpty_56 C hr hc3 (lv_sub hl [0, 1, 2, 3, 4, 5] rfl) h
      · refine v_iload C hl dX8_isEmpty_24 5 rfl ?_
        refine v_iload C hl dX8_isEmpty_26 4 rfl ?_
        have hz8 := (cr_e h).1
        have h := (cr_e h).2
        have hz9 := (cr_e h).1
        have h := (cr_e h).2
        refine v_icmp_eq C (tgt := 56) hz8 hz9 h dX8_isEmpty_28 rfl (fun h => ?_) (fun h => ?_)
        · exact wX8_isEmpty_56 C hr hc3 (lv_sub hl [0, 1, 2, 3, 4, 5] rfl) h
        · refine v_aload_n C hl dX8_isEmpty_31 rfl 0 rfl ?_
          refine v_iload C hl dX8_isEmpty_32 5 rfl ?_
          refine v_iload_n C hl dX8_isEmpty_34 rfl 2 rfl ?_
          obtain ⟨x_10, hv10, h⟩ := bd_e h
          refine v_callVI C 0 (klM kdM_0) rfl (ckM1 kdM_0 _) rfl [.int (i32 v5), .int (i32 v2)] (mX8_isThere C.2.2.2.2.1 hv10) cd_X8_isThere ic_X8 im_X8_isThere se_X8_isThere ml_X8_190 yk_X8_isThere ⟨rfl, rfl, by decide, by decide⟩ rfl hl.1 (rest := []) rfl (Nat.le_of_ble_eq_true rfl) dX8_isEmpty_35 ?_
          have hz11 := (cr_e h).1
          have h := (cr_e h).2
          refine v_if_eq C (tgt := 56) hz11 h dX8_isEmpty_38 rfl (fun h => ?_) (fun h => ?_)
          · exact wX8_isEmpty_56 C hr hc3 (lv_sub hl [0, 1, 2, 3, 4, 5] rfl) h
          · refine v_aload_n C hl dX8_isEmpty_41 rfl 0 rfl ?_
            refine v_iload C hl dX8_isEmpty_42 5 rfl ?_
            refine v_iload_n C hl dX8_isEmpty_44 rfl 3 rfl ?_
            refine v_iload_n C hl dX8_isEmpty_45 rfl 1 rfl ?_
            refine v_iload C hl dX8_isEmpty_46 4 rfl ?_
            obtain ⟨x_12, hv12, h⟩ := bd_e h
            refine v_callVI C 0 (klM kdM_0) rfl (ckM1 kdM_0 _) rfl [.int (i32 v5), .int (i32 v3), .int (i32 v1), .int (i32 v4)] (mX8_isInTriangle C.2.2.2.2.1 hv12) cd_X8_isInTriangle ic_X8 im_X8_isInTriangle se_X8_isInTriangle ml_X8_209 yk_X8_isInTriangle ⟨rfl, rfl, by decide, by decide⟩ rfl hl.1 (rest := []) rfl (Nat.le_of_ble_eq_true rfl) dX8_isEmpty_48 ?_
            have hz13 := (cr_e h).1
            have h := (cr_e h).2
            refine v_if_eq C (tgt := 56) hz13 h dX8_isEmpty_51 rfl (fun h => ?_) (fun h => ?_)
            · exact wX8_isEmpty_56 C hr hc3 (lv_sub hl [0, 1, 2, 3, 4, 5] rfl) h
            · refine v_iconst C dX8_isEmpty_54 ?_
              exact v_zret C hr (Or.inl rfl) (so1 h) dX8_isEmpty_55
theorem wlX8_isEmpty_3 (C : CxM p rmX8_isEmpty s m args meth c D ac q RX8 cX8_isEmpty 6) (hr : meth.sig.returnType = (some .boolean)) {v1 : Int} {v2 : Int} {v3 : Int} {v4 : Int} {σ : Mm} {e3 : Option (Int)} {r : Int} (he3 : ∀ (ls : Array Slot), lv_has ls 6 [(0, .ref (q 0))] → e3 = some r → VM p l e rmX8_isEmpty s m args below meth c D ac q (QIM D ac q below args s (r, σ)) σ (F0 m 62 ls [])) : ∀ (fu : Nat) (v5 : Int) (ls : Array Slot) (hl : lv_has ls 6 [(0, .ref (q 0)), (1, .int (i32 v1)), (2, .int (i32 v2)), (3, .int (i32 v3)), (4, .int (i32 v4)), (5, .int (i32 v5))]) (h : lX8_isEmpty_3 v1 v2 v3 v4 σ e3 fu v5 = some r), VM p l e rmX8_isEmpty s m args below meth c D ac q (QIM D ac q below args s (r, σ)) σ (F0 m 3 ls []) := by
  intro fu
  induction fu with
  | zero =>
    intro v5 ls hl h
    have h : none = some r := h
    cases h
  | succ fu ih =>
    intro v5 ls hl h
    exact wX8_isEmpty_3 C hr he3 (fun v5 ls hl h => ih v5 ls hl h) hl h
theorem mX8_isEmpty (hq : QI 19 q) {v1 : Int} {v2 : Int} {v3 : Int} {v4 : Int} {σ : Mm} {r : Int} (h : fX8_isEmpty v1 v2 v3 v4 σ = some r) : MIM l D ac q yX8_isEmpty cX8_isEmpty 6 (some .boolean) rmX8_isEmpty [.ref (q 0), .int (i32 v1), .int (i32 v2), .int (i32 v3), .int (i32 v4)] σ (r, σ) := by
  refine MI.of hq XT_M (by decide) (Nat.le_of_ble_eq_true rfl) (fun p e s m below meth c ls C hr hl => ?_)
  have hl : lv_has ls 6 [(0, .ref (q 0)), (1, .int (i32 v1)), (2, .int (i32 v2)), (3, .int (i32 v3)), (4, .int (i32 v4))] := hl
  have h : bindv 0 (fun v5_1 => lX8_isEmpty_3 v1 v2 v3 v4 σ (fX8_isEmpty_62 σ) 400 v5_1) = some r := h
  refine v_iconst C dX8_isEmpty_0 ?_
  refine v_istore C hl (fun x => [(5, .int (i32 x)), (0, .ref (q 0)), (1, .int (i32 v1)), (2, .int (i32 v2)), (3, .int (i32 v3)), (4, .int (i32 v4))]) dX8_isEmpty_1 (by decide) (fun _ => rfl) h (fun v5_1 ls hl h => ?_)
  exact wlX8_isEmpty_3 C hr (fun ls hl h => wX8_isEmpty_62 C hr (lv_sub hl [0] rfl) h) _ _ _ (lv_sub hl [1, 2, 3, 4, 5, 0] rfl) h
end
section
variable {l : Launch} {D : va_G} {ac : Nat → ClassId} {q : Nat → Nat} {p : Program} {e : Env} {s : State} {m : MethodId} {args : Array Value} {below : List Frame} {meth : Method} {c : Code} {ls : Array Slot}
theorem dX8_whyNot_0 : decode cX8_whyNot 0 = .ok (.aload_n 0, 1) := by decide +kernel
theorem dX8_whyNot_1 : decode cX8_whyNot 1 = .ok (.iload_n 1, 1) := by decide +kernel
theorem dX8_whyNot_2 : decode cX8_whyNot 2 = .ok (.invokevirtual 215, 3) := by decide +kernel
theorem dX8_whyNot_5 : decode cX8_whyNot 5 = .ok (.ifCond .ne 12, 3) := by decide +kernel
theorem dX8_whyNot_8 : decode cX8_whyNot 8 = .ok (.aload_n 0, 1) := by decide +kernel
theorem dX8_whyNot_9 : decode cX8_whyNot 9 = .ok (.iload_n 1, 1) := by decide +kernel
theorem dX8_whyNot_10 : decode cX8_whyNot 10 = .ok (.iload_n 2, 1) := by decide +kernel
theorem dX8_whyNot_11 : decode cX8_whyNot 11 = .ok (.invokevirtual 190, 3) := by decide +kernel
theorem dX8_whyNot_14 : decode cX8_whyNot 14 = .ok (.ifCond .ne 5, 3) := by decide +kernel
theorem dX8_whyNot_17 : decode cX8_whyNot 17 = .ok (.iconst 1, 1) := by decide +kernel
theorem dX8_whyNot_18 : decode cX8_whyNot 18 = .ok (.ireturn, 1) := by decide +kernel
theorem dX8_whyNot_19 : decode cX8_whyNot 19 = .ok (.aload_n 0, 1) := by decide +kernel
theorem dX8_whyNot_20 : decode cX8_whyNot 20 = .ok (.iload_n 1, 1) := by decide +kernel
theorem dX8_whyNot_21 : decode cX8_whyNot 21 = .ok (.iload_n 2, 1) := by decide +kernel
theorem dX8_whyNot_22 : decode cX8_whyNot 22 = .ok (.iconst (-1), 1) := by decide +kernel
theorem dX8_whyNot_23 : decode cX8_whyNot 23 = .ok (.invokevirtual 203, 3) := by decide +kernel
theorem dX8_whyNot_26 : decode cX8_whyNot 26 = .ok (.istore_n 3, 1) := by decide +kernel
theorem dX8_whyNot_27 : decode cX8_whyNot 27 = .ok (.aload_n 0, 1) := by decide +kernel
theorem dX8_whyNot_28 : decode cX8_whyNot 28 = .ok (.iload_n 1, 1) := by decide +kernel
theorem dX8_whyNot_29 : decode cX8_whyNot 29 = .ok (.iload_n 2, 1) := by decide +kernel
theorem dX8_whyNot_30 : decode cX8_whyNot 30 = .ok (.iconst 1, 1) := by decide +kernel
theorem dX8_whyNot_31 : decode cX8_whyNot 31 = .ok (.invokevirtual 203, 3) := by decide +kernel
theorem dX8_whyNot_34 : decode cX8_whyNot 34 = .ok (.istore 4, 2) := by decide +kernel
theorem dX8_whyNot_36 : decode cX8_whyNot 36 = .ok (.aload_n 0, 1) := by decide +kernel
theorem dX8_whyNot_37 : decode cX8_whyNot 37 = .ok (.iload_n 3, 1) := by decide +kernel
theorem dX8_whyNot_38 : decode cX8_whyNot 38 = .ok (.iload 4, 2) := by decide +kernel
theorem dX8_whyNot_40 : decode cX8_whyNot 40 = .ok (.iload_n 2, 1) := by decide +kernel
theorem dX8_whyNot_41 : decode cX8_whyNot 41 = .ok (.invokevirtual 218, 3) := by decide +kernel
theorem dX8_whyNot_44 : decode cX8_whyNot 44 = .ok (.ifCond .le 5, 3) := by decide +kernel
theorem dX8_whyNot_47 : decode cX8_whyNot 47 = .ok (.iconst 2, 1) := by decide +kernel
theorem dX8_whyNot_48 : decode cX8_whyNot 48 = .ok (.ireturn, 1) := by decide +kernel
theorem dX8_whyNot_49 : decode cX8_whyNot 49 = .ok (.aload_n 0, 1) := by decide +kernel
theorem dX8_whyNot_50 : decode cX8_whyNot 50 = .ok (.iload_n 1, 1) := by decide +kernel
theorem dX8_whyNot_51 : decode cX8_whyNot 51 = .ok (.iload_n 2, 1) := by decide +kernel
theorem dX8_whyNot_52 : decode cX8_whyNot 52 = .ok (.iconst 3, 1) := by decide +kernel
theorem dX8_whyNot_53 : decode cX8_whyNot 53 = .ok (.invokevirtual 221, 3) := by decide +kernel
theorem dX8_whyNot_56 : decode cX8_whyNot 56 = .ok (.ifCond .eq 5, 3) := by decide +kernel
theorem dX8_whyNot_59 : decode cX8_whyNot 59 = .ok (.iconst 3, 1) := by decide +kernel
theorem dX8_whyNot_60 : decode cX8_whyNot 60 = .ok (.ireturn, 1) := by decide +kernel
theorem dX8_whyNot_61 : decode cX8_whyNot 61 = .ok (.aload_n 0, 1) := by decide +kernel
theorem dX8_whyNot_62 : decode cX8_whyNot 62 = .ok (.iload_n 1, 1) := by decide +kernel
theorem dX8_whyNot_63 : decode cX8_whyNot 63 = .ok (.iload_n 2, 1) := by decide +kernel
theorem dX8_whyNot_64 : decode cX8_whyNot 64 = .ok (.iload_n 3, 1) := by decide +kernel
theorem dX8_whyNot_65 : decode cX8_whyNot 65 = .ok (.iload 4, 2) := by decide +kernel
theorem dX8_whyNot_67 : decode cX8_whyNot 67 = .ok (.invokevirtual 224, 3) := by decide +kernel
theorem dX8_whyNot_70 : decode cX8_whyNot 70 = .ok (.ifCond .ne 7, 3) := by decide +kernel
theorem dX8_whyNot_73 : decode cX8_whyNot 73 = .ok (.iconst 4, 1) := by decide +kernel
theorem dX8_whyNot_74 : decode cX8_whyNot 74 = .ok (.goto 10, 3) := by decide +kernel
theorem dX8_whyNot_77 : decode cX8_whyNot 77 = .ok (.aload_n 0, 1) := by decide +kernel
theorem dX8_whyNot_78 : decode cX8_whyNot 78 = .ok (.iload_n 1, 1) := by decide +kernel
theorem dX8_whyNot_79 : decode cX8_whyNot 79 = .ok (.iload_n 2, 1) := by decide +kernel
theorem dX8_whyNot_80 : decode cX8_whyNot 80 = .ok (.iconst 5, 1) := by decide +kernel
theorem dX8_whyNot_81 : decode cX8_whyNot 81 = .ok (.invokevirtual 221, 3) := by decide +kernel
theorem dX8_whyNot_84 : decode cX8_whyNot 84 = .ok (.ireturn, 1) := by decide +kernel
theorem wX8_whyNot_84 (C : CxM p rmX8_whyNot s m args meth c D ac q RX8 cX8_whyNot 5) (hr : meth.sig.returnType = (some .int)) {t0 : Int} {σ : Mm} {r : Int × Mm} (hl : lv_has ls 5 [(0, .ref (q 0))]) (h : fX8_whyNot_84 t0 σ = some r) : VM p l e rmX8_whyNot s m args below meth c D ac q (QIM D ac q below args s r) σ (F0 m 84 ls [.int (i32 t0)]) := by
  have h : some (t0, σ) = some r := h
  exact v_iret C hr h dX8_whyNot_84
theorem wX8_whyNot_17 (C : CxM p rmX8_whyNot s m args meth c D ac q RX8 cX8_whyNot 5) (hr : meth.sig.returnType = (some .int)) {σ : Mm} {r : Int × Mm} (hl : lv_has ls 5 [(0, .ref (q 0))]) (h : fX8_whyNot_17 σ = some r) : VM p l e rmX8_whyNot s m args below meth c D ac q (QIM D ac q below args s r) σ (F0 m 17 ls []) := by
  have h : some (1, σ) = some r := h
  refine v_iconst C dX8_whyNot_17 ?_
  exact v_iret C hr h dX8_whyNot_18
theorem mX8_whyNot (hq : QI 19 q) {v1 : Int} {v2 : Int} {σ : Mm} {r : Int × Mm} (h : fX8_whyNot v1 v2 σ = some r) : MIM l D ac q yX8_whyNot cX8_whyNot 5 (some .int) rmX8_whyNot [.ref (q 0), .int (i32 v1), .int (i32 v2)] σ r := by
  refine MI.of hq XT_M (by decide) (Nat.le_of_ble_eq_true rfl) (fun p e s m below meth c ls C hr hl => ?_)
  have hl : lv_has ls 5 [(0, .ref (q 0)), (1, .int (i32 v1)), (2, .int (i32 v2))] := hl
  have h : bd (fX8_isNode v1 σ) (fun x_1 => cr x_1 ((if x_1 = 0 then bd (fX8_isThere v1 v2 σ) (fun x_3 => cr x_3 ((if x_3 = 0 then fX8_whyNot_17 σ else bd2 (fX8_neighbour v1 v2 (-1) σ) (fun x_5 σ_5 => bindv x_5 (fun v3_6 => bd2 (fX8_neighbour v1 v2 1 σ_5) (fun x_7 σ_7 => bindv x_7 (fun v4_8 => bd2 (fX8_edgesAt v3_6 v4_8 v2 σ_7) (fun x_9 σ_9 => cr x_9 ((if 0 < x_9 then some (2, σ_9) else bd2 (fX8_ringsWhy v1 v2 3 σ_9) (fun x_11 σ_11 => cr x_11 ((if x_11 = 0 then bd (fX8_isEmpty v1 v2 v3_6 v4_8 σ_11) (fun x_13 => cr x_13 ((if x_13 = 0 then fX8_whyNot_84 4 σ_11 else bd2 (fX8_ringsWhy v1 v2 5 σ_11) (fun x_15 σ_15 => fX8_whyNot_84 x_15 σ_15)))) else some (3, σ_11)))))))))))))) else fX8_whyNot_17 σ))) = some r := h
  refine v_aload_n C hl dX8_whyNot_0 rfl 0 rfl ?_
  refine v_iload_n C hl dX8_whyNot_1 rfl 1 rfl ?_
  obtain ⟨x_1, hv1, h⟩ := bd_e h
  refine v_callVI C 0 (klM kdM_0) rfl (ckM1 kdM_0 _) rfl [.int (i32 v1)] (mX8_isNode C.2.2.2.2.1 hv1) cd_X8_isNode ic_X8 im_X8_isNode se_X8_isNode ml_X8_215 yk_X8_isNode ⟨rfl, rfl, by decide, by decide⟩ rfl hl.1 (rest := []) rfl (Nat.le_of_ble_eq_true rfl) dX8_whyNot_2 ?_
  have hz2 := (cr_e h).1
  have h := (cr_e h).2
  refine v_if_ne C (tgt := 17) hz2 h dX8_whyNot_5 rfl (fun h => ?_) (fun h => ?_)
  · exact wX8_whyNot_17 C hr (lv_sub hl [0] rfl) h
  · refine v_aload_n C hl dX8_whyNot_8 rfl 0 rfl ?_
    refine v_iload_n C hl dX8_whyNot_9 rfl 1 rfl ?_
    refine v_iload_n C hl dX8_whyNot_10 rfl 2 rfl ?_
    obtain ⟨x_3, hv3, h⟩ := bd_e h
    refine v_callVI C 0 (klM kdM_0) rfl (ckM1 kdM_0 _) rfl [.int (i32 v1), .int (i32 v2)] (mX8_isThere C.2.2.2.2.1 hv3) cd_X8_isThere ic_X8 im_X8_isThere se_X8_isThere ml_X8_190 yk_X8_isThere ⟨rfl, rfl, by decide, by decide⟩ rfl hl.1 (rest := []) rfl (Nat.le_of_ble_eq_true rfl) dX8_whyNot_11 ?_
    have hz4 := (cr_e h).1
    have h := (cr_e h).2
    refine v_if_ne C (tgt := 19) hz4 h dX8_whyNot_14 rfl (fun h => ?_) (fun h => ?_)
    · refine v_aload_n C hl dX8_whyNot_19 rfl 0 rfl ?_
      refine v_iload_n C hl dX8_whyNot_20 rfl 1 rfl ?_
      refine v_iload_n C hl dX8_whyNot_21 rfl 2 rfl ?_
      refine v_iconst C dX8_whyNot_22 ?_
      obtain ⟨x_5, σ_5, hv5, h⟩ := bd2_e h
      refine v_callVI C 0 (klM kdM_0) rfl (ckM1 kdM_0 _) rfl [.int (i32 v1), .int (i32 v2), .int (i32 (-1))] (mX8_neighbour C.2.2.2.2.1 hv5) cd_X8_neighbour ic_X8 im_X8_neighbour se_X8_neighbour ml_X8_203 yk_X8_neighbour ⟨rfl, rfl, by decide, by decide⟩ rfl hl.1 (rest := []) rfl (Nat.le_of_ble_eq_true rfl) dX8_whyNot_23 ?_
      refine v_istore_n C hl (fun x => [(3, .int (i32 x)), (0, .ref (q 0)), (1, .int (i32 v1)), (2, .int (i32 v2))]) dX8_whyNot_26 rfl (by decide) (fun _ => rfl) h (fun v3_6 ls hl h => ?_)
      refine v_aload_n C hl dX8_whyNot_27 rfl 1 rfl ?_
      refine v_iload_n C hl dX8_whyNot_28 rfl 2 rfl ?_
      refine v_iload_n C hl dX8_whyNot_29 rfl 3 rfl ?_
      refine v_iconst C dX8_whyNot_30 ?_
      obtain ⟨x_7, σ_7, hv7, h⟩ := bd2_e h
      refine v_callVI C 0 (klM kdM_0) rfl (ckM1 kdM_0 _) rfl [.int (i32 v1), .int (i32 v2), .int (i32 1)] (mX8_neighbour C.2.2.2.2.1 hv7) cd_X8_neighbour ic_X8 im_X8_neighbour se_X8_neighbour ml_X8_203 yk_X8_neighbour ⟨rfl, rfl, by decide, by decide⟩ rfl hl.1 (rest := []) rfl (Nat.le_of_ble_eq_true rfl) dX8_whyNot_31 ?_
      refine v_istore C hl (fun x => [(4, .int (i32 x)), (3, .int (i32 v3_6)), (0, .ref (q 0)), (1, .int (i32 v1)), (2, .int (i32 v2))]) dX8_whyNot_34 (by decide) (fun _ => rfl) h (fun v4_8 ls hl h => ?_)
      refine v_aload_n C hl dX8_whyNot_36 rfl 2 rfl ?_
      refine v_iload_n C hl dX8_whyNot_37 rfl 1 rfl ?_
      refine v_iload C hl dX8_whyNot_38 0 rfl ?_
      refine v_iload_n C hl dX8_whyNot_40 rfl 4 rfl ?_
      obtain ⟨x_9, σ_9, hv9, h⟩ := bd2_e h
      refine v_callVI C 0 (klM kdM_0) rfl (ckM1 kdM_0 _) rfl [.int (i32 v3_6), .int (i32 v4_8), .int (i32 v2)] (mX8_edgesAt C.2.2.2.2.1 hv9) cd_X8_edgesAt ic_X8 im_X8_edgesAt se_X8_edgesAt ml_X8_218 yk_X8_edgesAt ⟨rfl, rfl, by decide, by decide⟩ rfl hl.1 (rest := []) rfl (Nat.le_of_ble_eq_true rfl) dX8_whyNot_41 ?_
      have hz10 := (cr_e h).1
      have h := (cr_e h).2
      refine v_if_le C (tgt := 49) hz10 h dX8_whyNot_44 rfl (fun h => ?_) (fun h => ?_)
      · refine v_aload_n C hl dX8_whyNot_49 rfl 2 rfl ?_
        refine v_iload_n C hl dX8_whyNot_50 rfl 3 rfl ?_
        refine v_iload_n C hl dX8_whyNot_51 rfl 4 rfl ?_
        refine v_iconst C dX8_whyNot_52 ?_
        obtain ⟨x_11, σ_11, hv11, h⟩ := bd2_e h
        refine v_callVI C 0 (klM kdM_0) rfl (ckM1 kdM_0 _) rfl [.int (i32 v1), .int (i32 v2), .int (i32 3)] (mX8_ringsWhy C.2.2.2.2.1 hv11) cd_X8_ringsWhy ic_X8 im_X8_ringsWhy se_X8_ringsWhy ml_X8_221 yk_X8_ringsWhy ⟨rfl, rfl, by decide, by decide⟩ rfl hl.1 (rest := []) rfl (Nat.le_of_ble_eq_true rfl) dX8_whyNot_53 ?_
        have hz12 := (cr_e h).1
        have h := (cr_e h).2
        refine v_if_eq C (tgt := 61) hz12 h dX8_whyNot_56 rfl (fun h => ?_) (fun h => ?_)
        · refine v_aload_n C hl dX8_whyNot_61 rfl 2 rfl ?_
          refine v_iload_n C hl dX8_whyNot_62 rfl 3 rfl ?_
          refine v_iload_n C hl dX8_whyNot_63 rfl 4 rfl ?_
          refine v_iload_n C hl dX8_whyNot_64 rfl 1 rfl ?_
          refine v_iload C hl dX8_whyNot_65 0 rfl ?_
          obtain ⟨x_13, hv13, h⟩ := bd_e h
          refine v_callVI C 0 (klM kdM_0) rfl (ckM1 kdM_0 _) rfl [.int (i32 v1), .int (i32 v2), .int (i32 v3_6), .int (i32 v4_8)] (mX8_isEmpty C.2.2.2.2.1 hv13) cd_X8_isEmpty ic_X8 im_X8_isEmpty se_X8_isEmpty ml_X8_224 yk_X8_isEmpty ⟨rfl, rfl, by decide, by decide⟩ rfl hl.1 (rest := []) rfl (Nat.le_of_ble_eq_true rfl) dX8_whyNot_67 ?_
          have hz14 := (cr_e h).1
          have h := (cr_e h).2
          refine v_if_ne C (tgt := 77) hz14 h dX8_whyNot_70 rfl (fun h => ?_) (fun h => ?_)
          · refine v_aload_n C hl dX8_whyNot_77 rfl 2 rfl ?_
            refine v_iload_n C hl dX8_whyNot_78 rfl 3 rfl ?_
            refine v_iload_n C hl dX8_whyNot_79 rfl 4 rfl ?_
            refine v_iconst C dX8_whyNot_80 ?_
            obtain ⟨x_15, σ_15, hv15, h⟩ := bd2_e h
            refine v_callVI C 0 (klM kdM_0) rfl (ckM1 kdM_0 _) rfl [.int (i32 v1), .int (i32 v2), .int (i32 5)] (mX8_ringsWhy C.2.2.2.2.1 hv15) cd_X8_ringsWhy ic_X8 im_X8_ringsWhy se_X8_ringsWhy ml_X8_221 yk_X8_ringsWhy ⟨rfl, rfl, by decide, by decide⟩ rfl hl.1 (rest := []) rfl (Nat.le_of_ble_eq_true rfl) dX8_whyNot_81 ?_
            exact wX8_whyNot_84 C hr (lv_sub hl [2] rfl) h
          · refine v_iconst C dX8_whyNot_73 ?_
            refine v_goto C (tgt := 84) dX8_whyNot_74 rfl ?_
            exact wX8_whyNot_84 C hr (lv_sub hl [2] rfl) h
        · refine v_iconst C dX8_whyNot_59 ?_
          exact v_iret C hr h dX8_whyNot_60
      · refine v_iconst C dX8_whyNot_47 ?_
        exact v_iret C hr h dX8_whyNot_48
    · exact wX8_whyNot_17 C hr (lv_sub hl [0] rfl) h
end
section
variable {l : Launch} {D : va_G} {ac : Nat → ClassId} {q : Nat → Nat} {p : Program} {e : Env} {s : State} {m : MethodId} {args : Array Value} {below : List Frame} {meth : Method} {c : Code} {ls : Array Slot}
theorem dX8_sizeOf_0 : decode cX8_sizeOf 0 = .ok (.aload_n 0, 1) := by decide +kernel
theorem dX8_sizeOf_1 : decode cX8_sizeOf 1 = .ok (.iconst 0, 1) := by decide +kernel
theorem dX8_sizeOf_2 : decode cX8_sizeOf 2 = .ok (.aload_n 0, 1) := by decide +kernel
theorem dX8_sizeOf_3 : decode cX8_sizeOf 3 = .ok (.iload_n 1, 1) := by decide +kernel
theorem dX8_sizeOf_4 : decode cX8_sizeOf 4 = .ok (.iload_n 2, 1) := by decide +kernel
theorem dX8_sizeOf_5 : decode cX8_sizeOf 5 = .ok (.iconst (-1), 1) := by decide +kernel
theorem dX8_sizeOf_6 : decode cX8_sizeOf 6 = .ok (.invokevirtual 203, 3) := by decide +kernel
theorem dX8_sizeOf_9 : decode cX8_sizeOf 9 = .ok (.iload_n 1, 1) := by decide +kernel
theorem dX8_sizeOf_10 : decode cX8_sizeOf 10 = .ok (.aload_n 0, 1) := by decide +kernel
theorem dX8_sizeOf_11 : decode cX8_sizeOf 11 = .ok (.iload_n 1, 1) := by decide +kernel
theorem dX8_sizeOf_12 : decode cX8_sizeOf 12 = .ok (.iload_n 2, 1) := by decide +kernel
theorem dX8_sizeOf_13 : decode cX8_sizeOf 13 = .ok (.iconst 1, 1) := by decide +kernel
theorem dX8_sizeOf_14 : decode cX8_sizeOf 14 = .ok (.invokevirtual 203, 3) := by decide +kernel
theorem dX8_sizeOf_17 : decode cX8_sizeOf 17 = .ok (.invokevirtual 157, 3) := by decide +kernel
theorem dX8_sizeOf_20 : decode cX8_sizeOf 20 = .ok (.istore_n 3, 1) := by decide +kernel
theorem dX8_sizeOf_21 : decode cX8_sizeOf 21 = .ok (.iload_n 3, 1) := by decide +kernel
theorem dX8_sizeOf_22 : decode cX8_sizeOf 22 = .ok (.ifCond .ge 8, 3) := by decide +kernel
theorem dX8_sizeOf_25 : decode cX8_sizeOf 25 = .ok (.iload_n 3, 1) := by decide +kernel
theorem dX8_sizeOf_26 : decode cX8_sizeOf 26 = .ok (.ineg, 1) := by decide +kernel
theorem dX8_sizeOf_27 : decode cX8_sizeOf 27 = .ok (.goto 4, 3) := by decide +kernel
theorem dX8_sizeOf_30 : decode cX8_sizeOf 30 = .ok (.iload_n 3, 1) := by decide +kernel
theorem dX8_sizeOf_31 : decode cX8_sizeOf 31 = .ok (.ireturn, 1) := by decide +kernel
theorem wX8_sizeOf_31 (C : CxM p rmX8_sizeOf s m args meth c D ac q RX8 cX8_sizeOf 4) (hr : meth.sig.returnType = (some .int)) {t0 : Int} {σ : Mm} {r : Int × Mm} (hl : lv_has ls 4 [(0, .ref (q 0))]) (h : fX8_sizeOf_31 t0 σ = some r) : VM p l e rmX8_sizeOf s m args below meth c D ac q (QIM D ac q below args s r) σ (F0 m 31 ls [.int (i32 t0)]) := by
  have h : some (t0, σ) = some r := h
  exact v_iret C hr h dX8_sizeOf_31
theorem mX8_sizeOf (hq : QI 19 q) {v1 : Int} {v2 : Int} {σ : Mm} {r : Int × Mm} (h : fX8_sizeOf v1 v2 σ = some r) : MIM l D ac q yX8_sizeOf cX8_sizeOf 4 (some .int) rmX8_sizeOf [.ref (q 0), .int (i32 v1), .int (i32 v2)] σ r := by
  refine MI.of hq XT_M (by decide) (Nat.le_of_ble_eq_true rfl) (fun p e s m below meth c ls C hr hl => ?_)
  have hl : lv_has ls 4 [(0, .ref (q 0)), (1, .int (i32 v1)), (2, .int (i32 v2))] := hl
  have h : bd2 (fX8_neighbour v1 v2 (-1) σ) (fun x_1 σ_1 => bd2 (fX8_neighbour v1 v2 1 σ_1) (fun x_2 σ_2 => bd (fX8_turned 0 x_1 v1 x_2 σ_2) (fun x_3 => bindv x_3 (fun v3_4 => cr v3_4 ((if v3_4 < 0 then fX8_sizeOf_31 (-v3_4) σ_2 else fX8_sizeOf_31 v3_4 σ_2)))))) = some r := h
  refine v_aload_n C hl dX8_sizeOf_0 rfl 0 rfl ?_
  refine v_iconst C dX8_sizeOf_1 ?_
  refine v_aload_n C hl dX8_sizeOf_2 rfl 0 rfl ?_
  refine v_iload_n C hl dX8_sizeOf_3 rfl 1 rfl ?_
  refine v_iload_n C hl dX8_sizeOf_4 rfl 2 rfl ?_
  refine v_iconst C dX8_sizeOf_5 ?_
  obtain ⟨x_1, σ_1, hv1, h⟩ := bd2_e h
  refine v_callVI C 0 (klM kdM_0) rfl (ckM1 kdM_0 _) rfl [.int (i32 v1), .int (i32 v2), .int (i32 (-1))] (mX8_neighbour C.2.2.2.2.1 hv1) cd_X8_neighbour ic_X8 im_X8_neighbour se_X8_neighbour ml_X8_203 yk_X8_neighbour ⟨rfl, rfl, by decide, by decide⟩ rfl hl.1 (rest := [.int (i32 0), .ref (q 0)]) rfl (Nat.le_of_ble_eq_true rfl) dX8_sizeOf_6 ?_
  refine v_iload_n C hl dX8_sizeOf_9 rfl 1 rfl ?_
  refine v_aload_n C hl dX8_sizeOf_10 rfl 0 rfl ?_
  refine v_iload_n C hl dX8_sizeOf_11 rfl 1 rfl ?_
  refine v_iload_n C hl dX8_sizeOf_12 rfl 2 rfl ?_
  refine v_iconst C dX8_sizeOf_13 ?_
  obtain ⟨x_2, σ_2, hv2, h⟩ := bd2_e h
  refine v_callVI C 0 (klM kdM_0) rfl (ckM1 kdM_0 _) rfl [.int (i32 v1), .int (i32 v2), .int (i32 1)] (mX8_neighbour C.2.2.2.2.1 hv2) cd_X8_neighbour ic_X8 im_X8_neighbour se_X8_neighbour ml_X8_203 yk_X8_neighbour ⟨rfl, rfl, by decide, by decide⟩ rfl hl.1 (rest := [.int (i32 v1), .int (i32 x_1), .int (i32 0), .ref (q 0)]) rfl (Nat.le_of_ble_eq_true rfl) dX8_sizeOf_14 ?_
  obtain ⟨x_3, hv3, h⟩ := bd_e h
  refine v_callVI C 0 (klM kdM_0) rfl (ckM1 kdM_0 _) rfl [.int (i32 0), .int (i32 x_1), .int (i32 v1), .int (i32 x_2)] (mX8_turned C.2.2.2.2.1 hv3) cd_X8_turned ic_X8 im_X8_turned se_X8_turned ml_X8_157 yk_X8_turned ⟨rfl, rfl, by decide, by decide⟩ rfl hl.1 (rest := []) rfl (Nat.le_of_ble_eq_true rfl) dX8_sizeOf_17 ?_
  refine v_istore_n C hl (fun x => [(3, .int (i32 x)), (0, .ref (q 0)), (1, .int (i32 v1)), (2, .int (i32 v2))]) dX8_sizeOf_20 rfl (by decide) (fun _ => rfl) h (fun v3_4 ls hl h => ?_)
  refine v_iload_n C hl dX8_sizeOf_21 rfl 0 rfl ?_
  have hz5 := (cr_e h).1
  have h := (cr_e h).2
  refine v_if_ge C (tgt := 30) hz5 h dX8_sizeOf_22 rfl (fun h => ?_) (fun h => ?_)
  · refine v_iload_n C hl dX8_sizeOf_30 rfl 0 rfl ?_
    exact wX8_sizeOf_31 C hr (lv_sub hl [1] rfl) h
  · refine v_iload_n C hl dX8_sizeOf_25 rfl 0 rfl ?_
    refine v_ineg C dX8_sizeOf_26 ?_
    refine v_goto C (tgt := 31) dX8_sizeOf_27 rfl ?_
    exact wX8_sizeOf_31 C hr (lv_sub hl [1] rfl) h
end
section
variable {l : Launch} {D : va_G} {ac : Nat → ClassId} {q : Nat → Nat} {p : Program} {e : Env} {s : State} {m : MethodId} {args : Array Value} {below : List Frame} {meth : Method} {c : Code} {ls : Array Slot}
theorem dX8_least_0 : decode cX8_least 0 = .ok (.bipush (-4), 2) := by decide +kernel
theorem dX8_least_2 : decode cX8_least 2 = .ok (.istore_n 2, 1) := by decide +kernel
theorem dX8_least_3 : decode cX8_least 3 = .ok (.iconst 0, 1) := by decide +kernel
theorem dX8_least_4 : decode cX8_least 4 = .ok (.istore_n 3, 1) := by decide +kernel
theorem dX8_least_5 : decode cX8_least 5 = .ok (.iconst 0, 1) := by decide +kernel
theorem dX8_least_6 : decode cX8_least 6 = .ok (.istore 4, 2) := by decide +kernel
theorem dX8_least_8 : decode cX8_least 8 = .ok (.iload 4, 2) := by decide +kernel
theorem dX8_least_10 : decode cX8_least 10 = .ok (.aload_n 0, 1) := by decide +kernel
theorem dX8_least_11 : decode cX8_least 11 = .ok (.invokevirtual 206, 3) := by decide +kernel
theorem dX8_least_14 : decode cX8_least 14 = .ok (.if_icmp .ge 71, 3) := by decide +kernel
theorem dX8_least_17 : decode cX8_least 17 = .ok (.aload_n 0, 1) := by decide +kernel
theorem dX8_least_18 : decode cX8_least 18 = .ok (.iload 4, 2) := by decide +kernel
theorem dX8_least_20 : decode cX8_least 20 = .ok (.iload_n 1, 1) := by decide +kernel
theorem dX8_least_21 : decode cX8_least 21 = .ok (.invokevirtual 242, 3) := by decide +kernel
theorem dX8_least_24 : decode cX8_least 24 = .ok (.ifCond .ne 55, 3) := by decide +kernel
theorem dX8_least_27 : decode cX8_least 27 = .ok (.aload_n 0, 1) := by decide +kernel
theorem dX8_least_28 : decode cX8_least 28 = .ok (.iload 4, 2) := by decide +kernel
theorem dX8_least_30 : decode cX8_least 30 = .ok (.iload_n 1, 1) := by decide +kernel
theorem dX8_least_31 : decode cX8_least 31 = .ok (.invokevirtual 236, 3) := by decide +kernel
theorem dX8_least_34 : decode cX8_least 34 = .ok (.istore 5, 2) := by decide +kernel
theorem dX8_least_36 : decode cX8_least 36 = .ok (.iload_n 2, 1) := by decide +kernel
theorem dX8_least_37 : decode cX8_least 37 = .ok (.bipush (-4), 2) := by decide +kernel
theorem dX8_least_39 : decode cX8_least 39 = .ok (.if_icmp .eq 9, 3) := by decide +kernel
theorem dX8_least_42 : decode cX8_least 42 = .ok (.iload 5, 2) := by decide +kernel
theorem dX8_least_44 : decode cX8_least 44 = .ok (.iload_n 3, 1) := by decide +kernel
theorem dX8_least_45 : decode cX8_least 45 = .ok (.if_icmp .ge 7, 3) := by decide +kernel
theorem dX8_least_48 : decode cX8_least 48 = .ok (.iconst 1, 1) := by decide +kernel
theorem dX8_least_49 : decode cX8_least 49 = .ok (.goto 4, 3) := by decide +kernel
theorem dX8_least_52 : decode cX8_least 52 = .ok (.iconst 0, 1) := by decide +kernel
theorem dX8_least_53 : decode cX8_least 53 = .ok (.istore 6, 2) := by decide +kernel
theorem dX8_least_55 : decode cX8_least 55 = .ok (.iload 6, 2) := by decide +kernel
theorem dX8_least_57 : decode cX8_least 57 = .ok (.ifCond .eq 8, 3) := by decide +kernel
theorem dX8_least_60 : decode cX8_least 60 = .ok (.iload 4, 2) := by decide +kernel
theorem dX8_least_62 : decode cX8_least 62 = .ok (.goto 4, 3) := by decide +kernel
theorem dX8_least_65 : decode cX8_least 65 = .ok (.iload_n 2, 1) := by decide +kernel
theorem dX8_least_66 : decode cX8_least 66 = .ok (.istore_n 2, 1) := by decide +kernel
theorem dX8_least_67 : decode cX8_least 67 = .ok (.iload 6, 2) := by decide +kernel
theorem dX8_least_69 : decode cX8_least 69 = .ok (.ifCond .eq 8, 3) := by decide +kernel
theorem dX8_least_72 : decode cX8_least 72 = .ok (.iload 5, 2) := by decide +kernel
theorem dX8_least_74 : decode cX8_least 74 = .ok (.goto 4, 3) := by decide +kernel
theorem dX8_least_77 : decode cX8_least 77 = .ok (.iload_n 3, 1) := by decide +kernel
theorem dX8_least_78 : decode cX8_least 78 = .ok (.istore_n 3, 1) := by decide +kernel
theorem dX8_least_79 : decode cX8_least 79 = .ok (.iinc 4 1, 3) := by decide +kernel
theorem dX8_least_82 : decode cX8_least 82 = .ok (.goto (-74), 3) := by decide +kernel
theorem dX8_least_85 : decode cX8_least 85 = .ok (.iload_n 2, 1) := by decide +kernel
theorem dX8_least_86 : decode cX8_least 86 = .ok (.ireturn, 1) := by decide +kernel
theorem wX8_least_85 (C : CxM p rmX8_least s m args meth c D ac q RX8 cX8_least 7) (hr : meth.sig.returnType = (some .int)) {v2 : Int} {σ : Mm} {r : Int × Mm} (hl : lv_has ls 7 [(0, .ref (q 0)), (2, .int (i32 v2))]) (h : fX8_least_85 v2 σ = some r) : VM p l e rmX8_least s m args below meth c D ac q (QIM D ac q below args s r) σ (F0 m 85 ls []) := by
  have h : some (v2, σ) = some r := h
  refine v_iload_n C hl dX8_least_85 rfl 1 rfl ?_
  exact v_iret C hr h dX8_least_86
theorem wX8_least_79 (C : CxM p rmX8_least s m args meth c D ac q RX8 cX8_least 7) (hr : meth.sig.returnType = (some .int)) {v1 : Int} {v2 : Int} {v3 : Int} {v4 : Int} {c8 : Int → Int → Int → Mm → Option (Int × Mm)} {σ : Mm} {r : Int × Mm} (hc8 : ∀ (v2x : Int) (v3x : Int) (v4x : Int) (σ : Mm) (ls : Array Slot), lv_has ls 7 [(0, .ref (q 0)), (1, .int (i32 v1)), (2, .int (i32 v2x)), (3, .int (i32 v3x)), (4, .int (i32 v4x))] → c8 v2x v3x v4x σ = some r → VM p l e rmX8_least s m args below meth c D ac q (QIM D ac q below args s r) σ (F0 m 8 ls [])) (hl : lv_has ls 7 [(0, .ref (q 0)), (1, .int (i32 v1)), (2, .int (i32 v2)), (3, .int (i32 v3)), (4, .int (i32 v4))]) (h : fX8_least_79 c8 v1 v2 v3 v4 σ = some r) : VM p l e rmX8_least s m args below meth c D ac q (QIM D ac q below args s r) σ (F0 m 79 ls []) := by
  have h : bindv (v4 + 1) (fun v4_1 => c8 v2 v3 v4_1 σ) = some r := h
  refine v_iinc C hl (fun x => [(4, .int (i32 x)), (0, .ref (q 0)), (1, .int (i32 v1)), (2, .int (i32 v2)), (3, .int (i32 v3))]) dX8_least_79 4 rfl (by decide) (fun _ => rfl) h (fun v4_1 ls hl h => ?_)
  refine v_goto C (tgt := 8) dX8_least_82 rfl ?_
  exact hc8 _ _ _ _ _ (lv_sub hl [1, 2, 3, 4, 0] rfl) h
theorem wX8_least_78 (C : CxM p rmX8_least s m args meth c D ac q RX8 cX8_least 7) (hr : meth.sig.returnType = (some .int)) {v1 : Int} {v2 : Int} {v4 : Int} {t0 : Int} {c8 : Int → Int → Int → Mm → Option (Int × Mm)} {σ : Mm} {r : Int × Mm} (hc8 : ∀ (v2x : Int) (v3x : Int) (v4x : Int) (σ : Mm) (ls : Array Slot), lv_has ls 7 [(0, .ref (q 0)), (1, .int (i32 v1)), (2, .int (i32 v2x)), (3, .int (i32 v3x)), (4, .int (i32 v4x))] → c8 v2x v3x v4x σ = some r → VM p l e rmX8_least s m args below meth c D ac q (QIM D ac q below args s r) σ (F0 m 8 ls [])) (hl : lv_has ls 7 [(0, .ref (q 0)), (1, .int (i32 v1)), (2, .int (i32 v2)), (4, .int (i32 v4))]) (h : fX8_least_78 c8 v1 v2 v4 t0 σ = some r) : VM p l e rmX8_least s m args below meth c D ac q (QIM D ac q below args s r) σ (F0 m 78 ls [.int (i32 t0)]) := by
  have h : bindv t0 (fun v3_1 => fX8_least_79 c8 v1 v2 v3_1 v4 σ) = some r := h
  refine v_istore_n C hl (fun x => [(3, .int (i32 x)), (0, .ref (q 0)), (1, .int (i32 v1)), (2, .int (i32 v2)), (4, .int (i32 v4))]) dX8_least_78 rfl (by decide) (fun _ => rfl) h (fun v3_1 ls hl h => ?_)
  exact wX8_least_79 C hr hc8 (lv_sub hl [1, 2, 3, 0, 4] rfl) h
theorem wX8_least_66 (C : CxM p rmX8_least s m args meth c D ac q RX8 cX8_least 7) (hr : meth.sig.returnType = (some .int)) {v1 : Int} {v3 : Int} {v4 : Int} {v5 : Int} {v6 : Int} {t0 : Int} {c8 : Int → Int → Int → Mm → Option (Int × Mm)} {σ : Mm} {r : Int × Mm} (hc8 : ∀ (v2x : Int) (v3x : Int) (v4x : Int) (σ : Mm) (ls : Array Slot), lv_has ls 7 [(0, .ref (q 0)), (1, .int (i32 v1)), (2, .int (i32 v2x)), (3, .int (i32 v3x)), (4, .int (i32 v4x))] → c8 v2x v3x v4x σ = some r → VM p l e rmX8_least s m args below meth c D ac q (QIM D ac q below args s r) σ (F0 m 8 ls [])) (hl : lv_has ls 7 [(0, .ref (q 0)), (1, .int (i32 v1)), (3, .int (i32 v3)), (4, .int (i32 v4)), (5, .int (i32 v5)), (6, .int (i32 v6))]) (h : fX8_least_66 c8 v1 v3 v4 v5 v6 t0 σ = some r) : VM p l e rmX8_least s m args below meth c D ac q (QIM D ac q below args s r) σ (F0 m 66 ls [.int (i32 t0)]) := by
  have h : bindv t0 (fun v2_1 => cr v6 ((if v6 = 0 then fX8_least_78 c8 v1 v2_1 v4 v3 σ else fX8_least_78 c8 v1 v2_1 v4 v5 σ))) = some r := h
  refine v_istore_n C hl (fun x => [(2, .int (i32 x)), (0, .ref (q 0)), (1, .int (i32 v1)), (3, .int (i32 v3)), (4, .int (i32 v4)), (5, .int (i32 v5)), (6, .int (i32 v6))]) dX8_least_66 rfl (by decide) (fun _ => rfl) h (fun v2_1 ls hl h => ?_)
  refine v_iload C hl dX8_least_67 6 rfl ?_
  have hz2 := (cr_e h).1
  have h := (cr_e h).2
  refine v_if_eq C (tgt := 77) hz2 h dX8_least_69 rfl (fun h => ?_) (fun h => ?_)
  · refine v_iload_n C hl dX8_least_77 rfl 3 rfl ?_
    exact wX8_least_78 C hr hc8 (lv_sub hl [1, 2, 0, 4] rfl) h
  · refine v_iload C hl dX8_least_72 5 rfl ?_
    refine v_goto C (tgt := 78) dX8_least_74 rfl ?_
    exact wX8_least_78 C hr hc8 (lv_sub hl [1, 2, 0, 4] rfl) h
theorem wX8_least_53 (C : CxM p rmX8_least s m args meth c D ac q RX8 cX8_least 7) (hr : meth.sig.returnType = (some .int)) {v1 : Int} {v2 : Int} {v3 : Int} {v4 : Int} {v5 : Int} {t0 : Int} {c8 : Int → Int → Int → Mm → Option (Int × Mm)} {σ : Mm} {r : Int × Mm} (hc8 : ∀ (v2x : Int) (v3x : Int) (v4x : Int) (σ : Mm) (ls : Array Slot), lv_has ls 7 [(0, .ref (q 0)), (1, .int (i32 v1)), (2, .int (i32 v2x)), (3, .int (i32 v3x)), (4, .int (i32 v4x))] → c8 v2x v3x v4x σ = some r → VM p l e rmX8_least s m args below meth c D ac q (QIM D ac q below args s r) σ (F0 m 8 ls [])) (hl : lv_has ls 7 [(0, .ref (q 0)), (1, .int (i32 v1)), (2, .int (i32 v2)), (3, .int (i32 v3)), (4, .int (i32 v4)), (5, .int (i32 v5))]) (h : fX8_least_53 c8 v1 v2 v3 v4 v5 t0 σ = some r) : VM p l e rmX8_least s m args below meth c D ac q (QIM D ac q below args s r) σ (F0 m 53 ls [.int (i32 t0)]) := by
  have h : bindv t0 (fun v6_1 => cr v6_1 ((if v6_1 = 0 then fX8_least_66 c8 v1 v3 v4 v5 v6_1 v2 σ else fX8_least_66 c8 v1 v3 v4 v5 v6_1 v4 σ))) = some r := h
  refine v_istore C hl (fun x => [(6, .int (i32 x)), (0, .ref (q 0)), (1, .int (i32 v1)), (2, .int (i32 v2)), (3, .int (i32 v3)), (4, .int (i32 v4)), (5, .int (i32 v5))]) dX8_least_53 (by decide) (fun _ => rfl) h (fun v6_1 ls hl h => ?_)
  refine v_iload C hl dX8_least_55 0 rfl ?_
  have hz2 := (cr_e h).1
  have h := (cr_e h).2
  refine v_if_eq C (tgt := 65) hz2 h dX8_least_57 rfl (fun h => ?_) (fun h => ?_)
  · refine v_iload_n C hl dX8_least_65 rfl 3 rfl ?_
    exact wX8_least_66 C hr hc8 (lv_sub hl [1, 2, 4, 5, 6, 0] rfl) h
  · refine v_iload C hl dX8_least_60 5 rfl ?_
    refine v_goto C (tgt := 66) dX8_least_62 rfl ?_
    exact wX8_least_66 C hr hc8 (lv_sub hl [1, 2, 4, 5, 6, 0] rfl) h
theorem wX8_least_48 (C : CxM p rmX8_least s m args meth c D ac q RX8 cX8_least 7) (hr : meth.sig.returnType = (some .int)) {v1 : Int} {v2 : Int} {v3 : Int} {v4 : Int} {v5 : Int} {c8 : Int → Int → Int → Mm → Option (Int × Mm)} {σ : Mm} {r : Int × Mm} (hc8 : ∀ (v2x : Int) (v3x : Int) (v4x : Int) (σ : Mm) (ls : Array Slot), lv_has ls 7 [(0, .ref (q 0)), (1, .int (i32 v1)), (2, .int (i32 v2x)), (3, .int (i32 v3x)), (4, .int (i32 v4x))] → c8 v2x v3x v4x σ = some r → VM p l e rmX8_least s m args below meth c D ac q (QIM D ac q below args s r) σ (F0 m 8 ls [])) (hl : lv_has ls 7 [(0, .ref (q 0)), (1, .int (i32 v1)), (2, .int (i32 v2)), (3, .int (i32 v3)), (4, .int (i32 v4)), (5, .int (i32 v5))]) (h : fX8_least_48 c8 v1 v2 v3 v4 v5 σ = some r) : VM p l e rmX8_least s m args below meth c D ac q (QIM D ac q below args s r) σ (F0 m 48 ls []) := by
  have h : fX8_least_53 c8 v1 v2 v3 v4 v5 1 σ = some r := h
  refine v_iconst C dX8_least_48 ?_
  refine v_goto C (tgt := 53) dX8_least_49 rfl ?_
  exact wX8_least_53 C hr hc8 (lv_sub hl [0, 1, 2, 3, 4, 5] rfl) h
theorem wX8_least_8 (C : CxM p rmX8_least s m args meth c D ac q RX8 cX8_least 7) (hr : meth.sig.returnType = (some .int)) {v1 : Int} {v2 : Int} {v3 : Int} {v4 : Int} {σ : Mm} {e8 : Int → Mm → Option (Int × Mm)} {c8 : Int → Int → Int → Mm → Option (Int × Mm)} {r : Int × Mm} (he8 : ∀ (v2x : Int) (σ : Mm) (ls : Array Slot), lv_has ls 7 [(0, .ref (q 0)), (2, .int (i32 v2x))] → e8 v2x σ = some r → VM p l e rmX8_least s m args below meth c D ac q (QIM D ac q below args s r) σ (F0 m 85 ls [])) (hc8 : ∀ (v2x : Int) (v3x : Int) (v4x : Int) (σ : Mm) (ls : Array Slot), lv_has ls 7 [(0, .ref (q 0)), (1, .int (i32 v1)), (2, .int (i32 v2x)), (3, .int (i32 v3x)), (4, .int (i32 v4x))] → c8 v2x v3x v4x σ = some r → VM p l e rmX8_least s m args below meth c D ac q (QIM D ac q below args s r) σ (F0 m 8 ls [])) (hl : lv_has ls 7 [(0, .ref (q 0)), (1, .int (i32 v1)), (2, .int (i32 v2)), (3, .int (i32 v3)), (4, .int (i32 v4))]) (h : fX8_least_8 v1 e8 c8 v2 v3 v4 σ = some r) : VM p l e rmX8_least s m args below meth c D ac q (QIM D ac q below args s r) σ (F0 m 8 ls []) := by
  have h : bd (fX8_points σ) (fun x_1 => cr v4 (cr x_1 ((if v4 < x_1 then bd2 (fX8_whyNot v4 v1 σ) (fun x_4 σ_4 => cr x_4 ((if x_4 = 0 then bd2 (fX8_sizeOf v4 v1 σ_4) (fun x_6 σ_6 => bindv x_6 (fun v5_7 => cr v2 ((if v2 = (-4) then fX8_least_48 c8 v1 v2 v3 v4 v5_7 σ_6 else cr v5_7 (cr v3 ((if v5_7 < v3 then fX8_least_48 c8 v1 v2 v3 v4 v5_7 σ_6 else fX8_least_53 c8 v1 v2 v3 v4 v5_7 0 σ_6))))))) else fX8_least_79 c8 v1 v2 v3 v4 σ_4))) else e8 v2 σ)))) = some r := h
  refine v_iload C hl dX8_least_8 4 rfl ?_
  refine v_aload_n C hl dX8_least_10 rfl 0 rfl ?_
  obtain ⟨x_1, hv1, h⟩ := bd_e h
  refine v_callVI C 0 (klM kdM_0) rfl (ckM1 kdM_0 _) rfl [] (mX8_points C.2.2.2.2.1 hv1) cd_X8_points ic_X8 im_X8_points se_X8_points ml_X8_206 yk_X8_points ⟨rfl, rfl, by decide, by decide⟩ rfl hl.1 (rest := [.int (i32 v4)]) rfl (Nat.le_of_ble_eq_true rfl) dX8_least_11 ?_
  have hz2 := (cr_e h).1
  have h := (cr_e h).2
  have hz3 := (cr_e h).1
  have h := (cr_e h).2
  refine v_icmp_ge C (tgt := 85) hz2 hz3 h dX8_least_14 rfl (fun h => ?_) (fun h => ?_)
  · exact he8 _ _ _ (lv_sub hl [0, 2] rfl) h
  · refine v_aload_n C hl dX8_least_17 rfl 0 rfl ?_
    refine v_iload C hl dX8_least_18 4 rfl ?_
    refine v_iload_n C hl dX8_least_20 rfl 1 rfl ?_
    obtain ⟨x_4, σ_4, hv4, h⟩ := bd2_e h
    refine v_callVI C 0 (klM kdM_0) rfl (ckM1 kdM_0 _) rfl [.int (i32 v4), .int (i32 v1)] (mX8_whyNot C.2.2.2.2.1 hv4) cd_X8_whyNot ic_X8 im_X8_whyNot se_X8_whyNot ml_X8_242 yk_X8_whyNot ⟨rfl, rfl, by decide, by decide⟩ rfl hl.1 (rest := []) rfl (Nat.le_of_ble_eq_true rfl) dX8_least_21 ?_
    have hz5 := (cr_e h).1
    have h := (cr_e h).2
    refine v_if_ne C (tgt := 79) hz5 h dX8_least_24 rfl (fun h => ?_) (fun h => ?_)
    · exact wX8_least_79 C hr hc8 (lv_sub hl [0, 1, 2, 3, 4] rfl) h
    · refine v_aload_n C hl dX8_least_27 rfl 0 rfl ?_
      refine v_iload C hl dX8_least_28 4 rfl ?_
      refine v_iload_n C hl dX8_least_30 rfl 1 rfl ?_
      obtain ⟨x_6, σ_6, hv6, h⟩ := bd2_e h
      refine v_callVI C 0 (klM kdM_0) rfl (ckM1 kdM_0 _) rfl [.int (i32 v4), .int (i32 v1)] (mX8_sizeOf C.2.2.2.2.1 hv6) cd_X8_sizeOf ic_X8 im_X8_sizeOf se_X8_sizeOf ml_X8_236 yk_X8_sizeOf ⟨rfl, rfl, by decide, by decide⟩ rfl hl.1 (rest := []) rfl (Nat.le_of_ble_eq_true rfl) dX8_least_31 ?_
      refine v_istore C hl (fun x => [(5, .int (i32 x)), (0, .ref (q 0)), (1, .int (i32 v1)), (2, .int (i32 v2)), (3, .int (i32 v3)), (4, .int (i32 v4))]) dX8_least_34 (by decide) (fun _ => rfl) h (fun v5_7 ls hl h => ?_)
      refine v_iload_n C hl dX8_least_36 rfl 3 rfl ?_
      refine v_bipush C dX8_least_37 rfl ?_
      have hz8 := (cr_e h).1
      have h := (cr_e h).2
      refine v_icmp_eq C (tgt := 48) hz8 (by decide) h dX8_least_39 rfl (fun h => ?_) (fun h => ?_)
      · exact wX8_least_48 C hr hc8 (lv_sub hl [1, 2, 3, 4, 5, 0] rfl) h
      · refine v_iload C hl dX8_least_42 0 rfl ?_
        refine v_iload_n C hl dX8_least_44 rfl 4 rfl ?_
        have hz9 := (cr_e h).1
        have h := (cr_e h).2
        have hz10 := (cr_e h).1
        have h := (cr_e h).2
        refine v_icmp_ge C (tgt := 52) hz9 hz10 h dX8_least_45 rfl (fun h => ?_) (fun h => ?_)
        · refine v_iconst C dX8_least_52 ?_
          exact wX8_least_53 C hr hc8 (lv_sub hl [1, 2, 3, 4, 5, 0] rfl) h
        · exact wX8_least_48 C hr hc8 (lv_sub hl [1, 2, 3, 4, 5, 0] rfl) h
theorem wlX8_least_8 (C : CxM p rmX8_least s m args meth c D ac q RX8 cX8_least 7) (hr : meth.sig.returnType = (some .int)) {v1 : Int} {e8 : Int → Mm → Option (Int × Mm)} {r : Int × Mm} (he8 : ∀ (v2x : Int) (σ : Mm) (ls : Array Slot), lv_has ls 7 [(0, .ref (q 0)), (2, .int (i32 v2x))] → e8 v2x σ = some r → VM p l e rmX8_least s m args below meth c D ac q (QIM D ac q below args s r) σ (F0 m 85 ls [])) : ∀ (fu : Nat) (v2 : Int) (v3 : Int) (v4 : Int) (σ : Mm) (ls : Array Slot) (hl : lv_has ls 7 [(0, .ref (q 0)), (1, .int (i32 v1)), (2, .int (i32 v2)), (3, .int (i32 v3)), (4, .int (i32 v4))]) (h : lX8_least_8 v1 e8 fu v2 v3 v4 σ = some r), VM p l e rmX8_least s m args below meth c D ac q (QIM D ac q below args s r) σ (F0 m 8 ls []) := by
  intro fu
  induction fu with
  | zero =>
    intro v2 v3 v4 σ ls hl h
    have h : none = some r := h
    cases h
  | succ fu ih =>
    intro v2 v3 v4 σ ls hl h
    exact wX8_least_8 C hr he8 (fun v2 v3 v4 σ ls hl h => ih v2 v3 v4 σ ls hl h) hl h
theorem mX8_least (hq : QI 19 q) {v1 : Int} {σ : Mm} {r : Int × Mm} (h : fX8_least v1 σ = some r) : MIM l D ac q yX8_least cX8_least 7 (some .int) rmX8_least [.ref (q 0), .int (i32 v1)] σ r := by
  refine MI.of hq XT_M (by decide) (Nat.le_of_ble_eq_true rfl) (fun p e s m below meth c ls C hr hl => ?_)
  have hl : lv_has ls 7 [(0, .ref (q 0)), (1, .int (i32 v1))] := hl
  have h : bindv (-4) (fun v2_1 => bindv 0 (fun v3_2 => bindv 0 (fun v4_3 => lX8_least_8 v1 (fun v2_4 σ_5 => fX8_least_85 v2_4 σ_5) 400 v2_1 v3_2 v4_3 σ))) = some r := h
  refine v_bipush C dX8_least_0 rfl ?_
  refine v_istore_n C hl (fun x => [(2, .int (i32 x)), (0, .ref (q 0)), (1, .int (i32 v1))]) dX8_least_2 rfl (by decide) (fun _ => rfl) h (fun v2_1 ls hl h => ?_)
  refine v_iconst C dX8_least_3 ?_
  refine v_istore_n C hl (fun x => [(3, .int (i32 x)), (2, .int (i32 v2_1)), (0, .ref (q 0)), (1, .int (i32 v1))]) dX8_least_4 rfl (by decide) (fun _ => rfl) h (fun v3_2 ls hl h => ?_)
  refine v_iconst C dX8_least_5 ?_
  refine v_istore C hl (fun x => [(4, .int (i32 x)), (3, .int (i32 v3_2)), (2, .int (i32 v2_1)), (0, .ref (q 0)), (1, .int (i32 v1))]) dX8_least_6 (by decide) (fun _ => rfl) h (fun v4_3 ls hl h => ?_)
  exact wlX8_least_8 C hr (fun v2_4 σ_5 ls hl h => wX8_least_85 C hr (lv_sub hl [0, 1] rfl) h) _ _ _ _ _ _ (lv_sub hl [3, 4, 2, 1, 0] rfl) h
end
section
variable {l : Launch} {D : va_G} {ac : Nat → ClassId} {q : Nat → Nat} {p : Program} {e : Env} {s : State} {m : MethodId} {args : Array Value} {below : List Frame} {meth : Method} {c : Code} {ls : Array Slot}
theorem dX8_arcPoint_0 : decode cX8_arcPoint 0 = .ok (.aload_n 0, 1) := by decide +kernel
theorem dX8_arcPoint_1 : decode cX8_arcPoint 1 = .ok (.iconst 0, 1) := by decide +kernel
theorem dX8_arcPoint_2 : decode cX8_arcPoint 2 = .ok (.aload_n 0, 1) := by decide +kernel
theorem dX8_arcPoint_3 : decode cX8_arcPoint 3 = .ok (.getfield 37, 3) := by decide +kernel
theorem dX8_arcPoint_6 : decode cX8_arcPoint 6 = .ok (.iload_n 1, 1) := by decide +kernel
theorem dX8_arcPoint_7 : decode cX8_arcPoint 7 = .ok (.iaload, 1) := by decide +kernel
theorem dX8_arcPoint_8 : decode cX8_arcPoint 8 = .ok (.aload_n 0, 1) := by decide +kernel
theorem dX8_arcPoint_9 : decode cX8_arcPoint 9 = .ok (.getfield 40, 3) := by decide +kernel
theorem dX8_arcPoint_12 : decode cX8_arcPoint 12 = .ok (.iload_n 1, 1) := by decide +kernel
theorem dX8_arcPoint_13 : decode cX8_arcPoint 13 = .ok (.iaload, 1) := by decide +kernel
theorem dX8_arcPoint_14 : decode cX8_arcPoint 14 = .ok (.iload_n 2, 1) := by decide +kernel
theorem dX8_arcPoint_15 : decode cX8_arcPoint 15 = .ok (.iadd, 1) := by decide +kernel
theorem dX8_arcPoint_16 : decode cX8_arcPoint 16 = .ok (.invokevirtual 168, 3) := by decide +kernel
theorem dX8_arcPoint_19 : decode cX8_arcPoint 19 = .ok (.ireturn, 1) := by decide +kernel
theorem mX8_arcPoint (hq : QI 19 q) {v1 : Int} {v2 : Int} {σ : Mm} {r : Int} (h : fX8_arcPoint v1 v2 σ = some r) : MIM l D ac q yX8_arcPoint cX8_arcPoint 3 (some .int) rmX8_arcPoint [.ref (q 0), .int (i32 v1), .int (i32 v2)] σ (r, σ) := by
  refine MI.of hq XT_M (by decide) (Nat.le_of_ble_eq_true rfl) (fun p e s m below meth c ls C hr hl => ?_)
  have hl : lv_has ls 3 [(0, .ref (q 0)), (1, .int (i32 v1)), (2, .int (i32 v2))] := hl
  have h : chk v1 60 (chk v1 60 (bd (fX8_cornerOf 0 (σ 10 (v1).toNat) ((σ 11 (v1).toNat) + v2) σ) (fun x_1 => some x_1))) = some r := h
  refine v_aload_n C hl dX8_arcPoint_0 rfl 0 rfl ?_
  refine v_iconst C dX8_arcPoint_1 ?_
  refine v_aload_n C hl dX8_arcPoint_2 rfl 0 rfl ?_
  refine g_X8_20 C kdM_0 fl_X8_37 dX8_arcPoint_3 ?_
  refine v_iload_n C hl dX8_arcPoint_6 rfl 1 rfl ?_
  refine alM9 C kdM_10 h dX8_arcPoint_7 (fun h => ?_)
  refine v_aload_n C hl dX8_arcPoint_8 rfl 0 rfl ?_
  refine g_X8_21 C kdM_0 fl_X8_40 dX8_arcPoint_9 ?_
  refine v_iload_n C hl dX8_arcPoint_12 rfl 1 rfl ?_
  refine alM9 C kdM_11 h dX8_arcPoint_13 (fun h => ?_)
  refine v_iload_n C hl dX8_arcPoint_14 rfl 2 rfl ?_
  refine v_iadd C dX8_arcPoint_15 ?_
  obtain ⟨x_1, hv1, h⟩ := bd_e h
  refine v_callVI C 0 (klM kdM_0) rfl (ckM1 kdM_0 _) rfl [.int (i32 0), .int (i32 (σ 10 (v1).toNat)), .int (i32 ((σ 11 (v1).toNat) + v2))] (mX8_cornerOf C.2.2.2.2.1 hv1) cd_X8_cornerOf ic_X8 im_X8_cornerOf se_X8_cornerOf ml_X8_168 yk_X8_cornerOf ⟨rfl, rfl, by decide, by decide⟩ rfl hl.1 (rest := []) rfl (Nat.le_of_ble_eq_true rfl) dX8_arcPoint_16 ?_
  exact v_iret C hr (so1 h) dX8_arcPoint_19
end
section
variable {l : Launch} {D : va_G} {ac : Nat → ClassId} {q : Nat → Nat} {p : Program} {e : Env} {s : State} {m : MethodId} {args : Array Value} {below : List Frame} {meth : Method} {c : Code} {ls : Array Slot}
theorem dX8_isInArc_0 : decode cX8_isInArc 0 = .ok (.iconst 0, 1) := by decide +kernel
theorem dX8_isInArc_1 : decode cX8_isInArc 1 = .ok (.istore_n 3, 1) := by decide +kernel
theorem dX8_isInArc_2 : decode cX8_isInArc 2 = .ok (.iload_n 3, 1) := by decide +kernel
theorem dX8_isInArc_3 : decode cX8_isInArc 3 = .ok (.aload_n 0, 1) := by decide +kernel
theorem dX8_isInArc_4 : decode cX8_isInArc 4 = .ok (.getfield 245, 3) := by decide +kernel
theorem dX8_isInArc_7 : decode cX8_isInArc 7 = .ok (.if_icmp .ge 99, 3) := by decide +kernel
theorem dX8_isInArc_10 : decode cX8_isInArc 10 = .ok (.aload_n 0, 1) := by decide +kernel
theorem dX8_isInArc_11 : decode cX8_isInArc 11 = .ok (.getfield 46, 3) := by decide +kernel
theorem dX8_isInArc_14 : decode cX8_isInArc 14 = .ok (.iload_n 3, 1) := by decide +kernel
theorem dX8_isInArc_15 : decode cX8_isInArc 15 = .ok (.baload, 1) := by decide +kernel
theorem dX8_isInArc_16 : decode cX8_isInArc 16 = .ok (.ifCond .eq 12, 3) := by decide +kernel
theorem dX8_isInArc_19 : decode cX8_isInArc 19 = .ok (.aload_n 0, 1) := by decide +kernel
theorem dX8_isInArc_20 : decode cX8_isInArc 20 = .ok (.getfield 43, 3) := by decide +kernel
theorem dX8_isInArc_23 : decode cX8_isInArc 23 = .ok (.iload_n 3, 1) := by decide +kernel
theorem dX8_isInArc_24 : decode cX8_isInArc 24 = .ok (.iaload, 1) := by decide +kernel
theorem dX8_isInArc_25 : decode cX8_isInArc 25 = .ok (.goto 11, 3) := by decide +kernel
theorem dX8_isInArc_28 : decode cX8_isInArc 28 = .ok (.aload_n 0, 1) := by decide +kernel
theorem dX8_isInArc_29 : decode cX8_isInArc 29 = .ok (.getfield 43, 3) := by decide +kernel
theorem dX8_isInArc_32 : decode cX8_isInArc 32 = .ok (.iload_n 3, 1) := by decide +kernel
theorem dX8_isInArc_33 : decode cX8_isInArc 33 = .ok (.iaload, 1) := by decide +kernel
theorem dX8_isInArc_34 : decode cX8_isInArc 34 = .ok (.iconst 1, 1) := by decide +kernel
theorem dX8_isInArc_35 : decode cX8_isInArc 35 = .ok (.isub, 1) := by decide +kernel
theorem dX8_isInArc_36 : decode cX8_isInArc 36 = .ok (.istore 4, 2) := by decide +kernel
theorem dX8_isInArc_38 : decode cX8_isInArc 38 = .ok (.iconst 0, 1) := by decide +kernel
theorem dX8_isInArc_39 : decode cX8_isInArc 39 = .ok (.istore 5, 2) := by decide +kernel
theorem dX8_isInArc_41 : decode cX8_isInArc 41 = .ok (.iload 5, 2) := by decide +kernel
theorem dX8_isInArc_43 : decode cX8_isInArc 43 = .ok (.iload 4, 2) := by decide +kernel
theorem dX8_isInArc_45 : decode cX8_isInArc 45 = .ok (.if_icmp .ge 55, 3) := by decide +kernel
theorem dX8_isInArc_48 : decode cX8_isInArc 48 = .ok (.aload_n 0, 1) := by decide +kernel
theorem dX8_isInArc_49 : decode cX8_isInArc 49 = .ok (.iload_n 3, 1) := by decide +kernel
theorem dX8_isInArc_50 : decode cX8_isInArc 50 = .ok (.iload 5, 2) := by decide +kernel
theorem dX8_isInArc_52 : decode cX8_isInArc 52 = .ok (.invokevirtual 248, 3) := by decide +kernel
theorem dX8_isInArc_55 : decode cX8_isInArc 55 = .ok (.istore 6, 2) := by decide +kernel
theorem dX8_isInArc_57 : decode cX8_isInArc 57 = .ok (.aload_n 0, 1) := by decide +kernel
theorem dX8_isInArc_58 : decode cX8_isInArc 58 = .ok (.iload_n 3, 1) := by decide +kernel
theorem dX8_isInArc_59 : decode cX8_isInArc 59 = .ok (.iload 5, 2) := by decide +kernel
theorem dX8_isInArc_61 : decode cX8_isInArc 61 = .ok (.iconst 1, 1) := by decide +kernel
theorem dX8_isInArc_62 : decode cX8_isInArc 62 = .ok (.iadd, 1) := by decide +kernel
theorem dX8_isInArc_63 : decode cX8_isInArc 63 = .ok (.invokevirtual 248, 3) := by decide +kernel
theorem dX8_isInArc_66 : decode cX8_isInArc 66 = .ok (.istore 7, 2) := by decide +kernel
theorem dX8_isInArc_68 : decode cX8_isInArc 68 = .ok (.iload 6, 2) := by decide +kernel
theorem dX8_isInArc_70 : decode cX8_isInArc 70 = .ok (.iload_n 1, 1) := by decide +kernel
theorem dX8_isInArc_71 : decode cX8_isInArc 71 = .ok (.if_icmp .ne 9, 3) := by decide +kernel
theorem dX8_isInArc_74 : decode cX8_isInArc 74 = .ok (.iload 7, 2) := by decide +kernel
theorem dX8_isInArc_76 : decode cX8_isInArc 76 = .ok (.iload_n 2, 1) := by decide +kernel
theorem dX8_isInArc_77 : decode cX8_isInArc 77 = .ok (.if_icmp .eq 15, 3) := by decide +kernel
theorem dX8_isInArc_80 : decode cX8_isInArc 80 = .ok (.iload 6, 2) := by decide +kernel
theorem dX8_isInArc_82 : decode cX8_isInArc 82 = .ok (.iload_n 2, 1) := by decide +kernel
theorem dX8_isInArc_83 : decode cX8_isInArc 83 = .ok (.if_icmp .ne 11, 3) := by decide +kernel
theorem dX8_isInArc_86 : decode cX8_isInArc 86 = .ok (.iload 7, 2) := by decide +kernel
theorem dX8_isInArc_88 : decode cX8_isInArc 88 = .ok (.iload_n 1, 1) := by decide +kernel
theorem dX8_isInArc_89 : decode cX8_isInArc 89 = .ok (.if_icmp .ne 5, 3) := by decide +kernel
theorem dX8_isInArc_92 : decode cX8_isInArc 92 = .ok (.iconst 1, 1) := by decide +kernel
theorem dX8_isInArc_93 : decode cX8_isInArc 93 = .ok (.ireturn, 1) := by decide +kernel
theorem dX8_isInArc_94 : decode cX8_isInArc 94 = .ok (.iinc 5 1, 3) := by decide +kernel
theorem dX8_isInArc_97 : decode cX8_isInArc 97 = .ok (.goto (-56), 3) := by decide +kernel
theorem dX8_isInArc_100 : decode cX8_isInArc 100 = .ok (.iinc 3 1, 3) := by decide +kernel
theorem dX8_isInArc_103 : decode cX8_isInArc 103 = .ok (.goto (-101), 3) := by decide +kernel
theorem dX8_isInArc_106 : decode cX8_isInArc 106 = .ok (.iconst 0, 1) := by decide +kernel
theorem dX8_isInArc_107 : decode cX8_isInArc 107 = .ok (.ireturn, 1) := by decide +kernel
theorem wX8_isInArc_106 (C : CxM p rmX8_isInArc s m args meth c D ac q RX8 cX8_isInArc 8) (hr : meth.sig.returnType = (some .boolean)) {σ : Mm} {r : Int} (hl : lv_has ls 8 [(0, .ref (q 0))]) (h : fX8_isInArc_106 σ = some r) : VM p l e rmX8_isInArc s m args below meth c D ac q (QIM D ac q below args s (r, σ)) σ (F0 m 106 ls []) := by
  have h : some 0 = some r := h
  refine v_iconst C dX8_isInArc_106 ?_
  exact v_zret C hr (Or.inl rfl) (so1 h) dX8_isInArc_107
theorem wX8_isInArc_100 (C : CxM p rmX8_isInArc s m args meth c D ac q RX8 cX8_isInArc 8) (hr : meth.sig.returnType = (some .boolean)) {v1 : Int} {v2 : Int} {v3 : Int} {c2 : Int → Option (Int)} {σ : Mm} {r : Int} (hc2 : ∀ (v3x : Int) (ls : Array Slot), lv_has ls 8 [(0, .ref (q 0)), (1, .int (i32 v1)), (2, .int (i32 v2)), (3, .int (i32 v3x))] → c2 v3x = some r → VM p l e rmX8_isInArc s m args below meth c D ac q (QIM D ac q below args s (r, σ)) σ (F0 m 2 ls [])) (hl : lv_has ls 8 [(0, .ref (q 0)), (1, .int (i32 v1)), (2, .int (i32 v2)), (3, .int (i32 v3))]) (h : fX8_isInArc_100 c2 v1 v2 v3 σ = some r) : VM p l e rmX8_isInArc s m args below meth c D ac q (QIM D ac q below args s (r, σ)) σ (F0 m 100 ls []) := by
  have h : bindv (v3 + 1) (fun v3_1 => c2 v3_1) = some r := h
  refine v_iinc C hl (fun x => [(3, .int (i32 x)), (0, .ref (q 0)), (1, .int (i32 v1)), (2, .int (i32 v2))]) dX8_isInArc_100 3 rfl (by decide) (fun _ => rfl) h (fun v3_1 ls hl h => ?_)
  refine v_goto C (tgt := 2) dX8_isInArc_103 rfl ?_
  exact hc2 _ _ (lv_sub hl [1, 2, 3, 0] rfl) h
theorem wX8_isInArc_94 (C : CxM p rmX8_isInArc s m args meth c D ac q RX8 cX8_isInArc 8) (hr : meth.sig.returnType = (some .boolean)) {v1 : Int} {v2 : Int} {v3 : Int} {v4 : Int} {v5 : Int} {c41 : Int → Option (Int)} {σ : Mm} {r : Int} (hc41 : ∀ (v5x : Int) (ls : Array Slot), lv_has ls 8 [(0, .ref (q 0)), (1, .int (i32 v1)), (2, .int (i32 v2)), (3, .int (i32 v3)), (4, .int (i32 v4)), (5, .int (i32 v5x))] → c41 v5x = some r → VM p l e rmX8_isInArc s m args below meth c D ac q (QIM D ac q below args s (r, σ)) σ (F0 m 41 ls [])) (hl : lv_has ls 8 [(0, .ref (q 0)), (1, .int (i32 v1)), (2, .int (i32 v2)), (3, .int (i32 v3)), (4, .int (i32 v4)), (5, .int (i32 v5))]) (h : fX8_isInArc_94 c41 v1 v2 v3 v4 v5 σ = some r) : VM p l e rmX8_isInArc s m args below meth c D ac q (QIM D ac q below args s (r, σ)) σ (F0 m 94 ls []) := by
  have h : bindv (v5 + 1) (fun v5_1 => c41 v5_1) = some r := h
  refine v_iinc C hl (fun x => [(5, .int (i32 x)), (0, .ref (q 0)), (1, .int (i32 v1)), (2, .int (i32 v2)), (3, .int (i32 v3)), (4, .int (i32 v4))]) dX8_isInArc_94 5 rfl (by decide) (fun _ => rfl) h (fun v5_1 ls hl h => ?_)
  refine v_goto C (tgt := 41) dX8_isInArc_97 rfl ?_
  exact hc41 _ _ (lv_sub hl [1, 2, 3, 4, 5, 0] rfl) h
theorem wX8_isInArc_92 (C : CxM p rmX8_isInArc s m args meth c D ac q RX8 cX8_isInArc 8) (hr : meth.sig.returnType = (some .boolean)) {σ : Mm} {r : Int} (hl : lv_has ls 8 [(0, .ref (q 0))]) (h : fX8_isInArc_92 σ = some r) : VM p l e rmX8_isInArc s m args below meth c D ac q (QIM D ac q below args s (r, σ)) σ (F0 m 92 ls []) := by
  have h : some 1 = some r := h
  refine v_iconst C dX8_isInArc_92 ?_
  exact v_zret C hr (Or.inr rfl) (so1 h) dX8_isInArc_93
theorem wX8_isInArc_80 (C : CxM p rmX8_isInArc s m args meth c D ac q RX8 cX8_isInArc 8) (hr : meth.sig.returnType = (some .boolean)) {v1 : Int} {v2 : Int} {v3 : Int} {v4 : Int} {v5 : Int} {v6 : Int} {v7 : Int} {c41 : Int → Option (Int)} {σ : Mm} {r : Int} (hc41 : ∀ (v5x : Int) (ls : Array Slot), lv_has ls 8 [(0, .ref (q 0)), (1, .int (i32 v1)), (2, .int (i32 v2)), (3, .int (i32 v3)), (4, .int (i32 v4)), (5, .int (i32 v5x))] → c41 v5x = some r → VM p l e rmX8_isInArc s m args below meth c D ac q (QIM D ac q below args s (r, σ)) σ (F0 m 41 ls [])) (hl : lv_has ls 8 [(0, .ref (q 0)), (1, .int (i32 v1)), (2, .int (i32 v2)), (3, .int (i32 v3)), (4, .int (i32 v4)), (5, .int (i32 v5)), (6, .int (i32 v6)), (7, .int (i32 v7))]) (h : fX8_isInArc_80 c41 v1 v2 v3 v4 v5 v6 v7 σ = some r) : VM p l e rmX8_isInArc s m args below meth c D ac q (QIM D ac q below args s (r, σ)) σ (F0 m 80 ls []) := by
  have h : cr v6 (cr v2 ((if v6 = v2 then cr v7 (cr v1 ((if v7 = v1 then fX8_isInArc_92 σ else fX8_isInArc_94 c41 v1 v2 v3 v4 v5 σ))) else fX8_isInArc_94 c41 v1 v2 v3 v4 v5 σ))) = some r := h
  refine v_iload C hl dX8_isInArc_80 6 rfl ?_
  refine v_iload_n C hl dX8_isInArc_82 rfl 2 rfl ?_
  have hz1 := (cr_e h).1
  have h := (cr_e h).2
  have hz2 := (cr_e h).1
  have h := (cr_e h).2
  refine v_icmp_ne C (tgt := 94) hz1 hz2 h dX8_isInArc_83 rfl (fun h => ?_) (fun h => ?_)
  · exact wX8_isInArc_94 C hr hc41 (lv_sub hl [0, 1, 2, 3, 4, 5] rfl) h
  · refine v_iload C hl dX8_isInArc_86 7 rfl ?_
    refine v_iload_n C hl dX8_isInArc_88 rfl 1 rfl ?_
    have hz3 := (cr_e h).1
    have h := (cr_e h).2
    have hz4 := (cr_e h).1
    have h := (cr_e h).2
    refine v_icmp_ne C (tgt := 94) hz3 hz4 h dX8_isInArc_89 rfl (fun h => ?_) (fun h => ?_)
    · exact wX8_isInArc_94 C hr hc41 (lv_sub hl [0, 1, 2, 3, 4, 5] rfl) h
    · exact wX8_isInArc_92 C hr (lv_sub hl [0] rfl) h
theorem wX8_isInArc_41 (C : CxM p rmX8_isInArc s m args meth c D ac q RX8 cX8_isInArc 8) (hr : meth.sig.returnType = (some .boolean)) {v1 : Int} {v2 : Int} {v3 : Int} {v4 : Int} {σ : Mm} {v5 : Int} {e41 : Option (Int)} {c41 : Int → Option (Int)} {r : Int} (he41 : ∀ (ls : Array Slot), lv_has ls 8 [(0, .ref (q 0)), (1, .int (i32 v1)), (2, .int (i32 v2)), (3, .int (i32 v3))] → e41 = some r → VM p l e rmX8_isInArc s m args below meth c D ac q (QIM D ac q below args s (r, σ)) σ (F0 m 100 ls [])) (hc41 : ∀ (v5x : Int) (ls : Array Slot), lv_has ls 8 [(0, .ref (q 0)), (1, .int (i32 v1)), (2, .int (i32 v2)), (3, .int (i32 v3)), (4, .int (i32 v4)), (5, .int (i32 v5x))] → c41 v5x = some r → VM p l e rmX8_isInArc s m args below meth c D ac q (QIM D ac q below args s (r, σ)) σ (F0 m 41 ls [])) (hl : lv_has ls 8 [(0, .ref (q 0)), (1, .int (i32 v1)), (2, .int (i32 v2)), (3, .int (i32 v3)), (4, .int (i32 v4)), (5, .int (i32 v5))]) (h : fX8_isInArc_41 v1 v2 v3 v4 σ e41 c41 v5 = some r) : VM p l e rmX8_isInArc s m args below meth c D ac q (QIM D ac q below args s (r, σ)) σ (F0 m 41 ls []) := by
  have h : cr v5 (cr v4 ((if v5 < v4 then bd (fX8_arcPoint v3 v5 σ) (fun x_3 => bindv x_3 (fun v6_4 => bd (fX8_arcPoint v3 (v5 + 1) σ) (fun x_5 => bindv x_5 (fun v7_6 => cr v6_4 (cr v1 ((if v6_4 = v1 then cr v7_6 (cr v2 ((if v7_6 = v2 then fX8_isInArc_92 σ else fX8_isInArc_80 c41 v1 v2 v3 v4 v5 v6_4 v7_6 σ))) else fX8_isInArc_80 c41 v1 v2 v3 v4 v5 v6_4 v7_6 σ))))))) else e41))) = some r := h
  refine v_iload C hl dX8_isInArc_41 5 rfl ?_
  refine v_iload C hl dX8_isInArc_43 4 rfl ?_
  have hz1 := (cr_e h).1
  have h := (cr_e h).2
  have hz2 := (cr_e h).1
  have h := (cr_e h).2
  refine v_icmp_ge C (tgt := 100) hz1 hz2 h dX8_isInArc_45 rfl (fun h => ?_) (fun h => ?_)
  · exact he41  _ (lv_sub hl [0, 1, 2, 3] rfl) h
  · refine v_aload_n C hl dX8_isInArc_48 rfl 0 rfl ?_
    refine v_iload_n C hl dX8_isInArc_49 rfl 3 rfl ?_
    refine v_iload C hl dX8_isInArc_50 5 rfl ?_
    obtain ⟨x_3, hv3, h⟩ := bd_e h
    refine v_callVI C 0 (klM kdM_0) rfl (ckM1 kdM_0 _) rfl [.int (i32 v3), .int (i32 v5)] (mX8_arcPoint C.2.2.2.2.1 hv3) cd_X8_arcPoint ic_X8 im_X8_arcPoint se_X8_arcPoint ml_X8_248 yk_X8_arcPoint ⟨rfl, rfl, by decide, by decide⟩ rfl hl.1 (rest := []) rfl (Nat.le_of_ble_eq_true rfl) dX8_isInArc_52 ?_
    refine v_istore C hl (fun x => [(6, .int (i32 x)), (0, .ref (q 0)), (1, .int (i32 v1)), (2, .int (i32 v2)), (3, .int (i32 v3)), (4, .int (i32 v4)), (5, .int (i32 v5))]) dX8_isInArc_55 (by decide) (fun _ => rfl) h (fun v6_4 ls hl h => ?_)
    refine v_aload_n C hl dX8_isInArc_57 rfl 1 rfl ?_
    refine v_iload_n C hl dX8_isInArc_58 rfl 4 rfl ?_
    refine v_iload C hl dX8_isInArc_59 6 rfl ?_
    refine v_iconst C dX8_isInArc_61 ?_
    refine v_iadd C dX8_isInArc_62 ?_
    obtain ⟨x_5, hv5, h⟩ := bd_e h
    refine v_callVI C 0 (klM kdM_0) rfl (ckM1 kdM_0 _) rfl [.int (i32 v3), .int (i32 (v5 + 1))] (mX8_arcPoint C.2.2.2.2.1 hv5) cd_X8_arcPoint ic_X8 im_X8_arcPoint se_X8_arcPoint ml_X8_248 yk_X8_arcPoint ⟨rfl, rfl, by decide, by decide⟩ rfl hl.1 (rest := []) rfl (Nat.le_of_ble_eq_true rfl) dX8_isInArc_63 ?_
    refine v_istore C hl (fun x => [(7, .int (i32 x)), (6, .int (i32 v6_4)), (0, .ref (q 0)), (1, .int (i32 v1)), (2, .int (i32 v2)), (3, .int (i32 v3)), (4, .int (i32 v4)), (5, .int (i32 v5))]) dX8_isInArc_66 (by decide) (fun _ => rfl) h (fun v7_6 ls hl h => ?_)
    refine v_iload C hl dX8_isInArc_68 1 rfl ?_
    refine v_iload_n C hl dX8_isInArc_70 rfl 3 rfl ?_
    have hz7 := (cr_e h).1
    have h := (cr_e h).2
    have hz8 := (cr_e h).1
    have h := (cr_e h).2
    refine v_icmp_ne C (tgt := 80) hz7 hz8 h dX8_isInArc_71 rfl (fun h => ?_) (fun h => ?_)
    · exact wX8_isInArc_80 C hr hc41 (lv_sub hl [2, 3, 4, 5, 6, 7, 1, 0] rfl) h
    · refine v_iload C hl dX8_isInArc_74 0 rfl ?_
      refine v_iload_n C hl dX8_isInArc_76 rfl 4 rfl ?_
      have hz9 := (cr_e h).1
      have h := (cr_e h).2
      have hz10 := (cr_e h).1
      have h := (cr_e h).2
      refine v_icmp_eq C (tgt := 92) hz9 hz10 h dX8_isInArc_77 rfl (fun h => ?_) (fun h => ?_)
      · exact wX8_isInArc_92 C hr (lv_sub hl [2] rfl) h
      · exact wX8_isInArc_80 C hr hc41 (lv_sub hl [2, 3, 4, 5, 6, 7, 1, 0] rfl) h
theorem wlX8_isInArc_41 (C : CxM p rmX8_isInArc s m args meth c D ac q RX8 cX8_isInArc 8) (hr : meth.sig.returnType = (some .boolean)) {v1 : Int} {v2 : Int} {v3 : Int} {v4 : Int} {σ : Mm} {e41 : Option (Int)} {r : Int} (he41 : ∀ (ls : Array Slot), lv_has ls 8 [(0, .ref (q 0)), (1, .int (i32 v1)), (2, .int (i32 v2)), (3, .int (i32 v3))] → e41 = some r → VM p l e rmX8_isInArc s m args below meth c D ac q (QIM D ac q below args s (r, σ)) σ (F0 m 100 ls [])) : ∀ (fu : Nat) (v5 : Int) (ls : Array Slot) (hl : lv_has ls 8 [(0, .ref (q 0)), (1, .int (i32 v1)), (2, .int (i32 v2)), (3, .int (i32 v3)), (4, .int (i32 v4)), (5, .int (i32 v5))]) (h : lX8_isInArc_41 v1 v2 v3 v4 σ e41 fu v5 = some r), VM p l e rmX8_isInArc s m args below meth c D ac q (QIM D ac q below args s (r, σ)) σ (F0 m 41 ls []) := by
  intro fu
  induction fu with
  | zero =>
    intro v5 ls hl h
    have h : none = some r := h
    cases h
  | succ fu ih =>
    intro v5 ls hl h
    exact wX8_isInArc_41 C hr he41 (fun v5 ls hl h => ih v5 ls hl h) hl h
theorem wX8_isInArc_36 (C : CxM p rmX8_isInArc s m args meth c D ac q RX8 cX8_isInArc 8) (hr : meth.sig.returnType = (some .boolean)) {v1 : Int} {v2 : Int} {v3 : Int} {t0 : Int} {c2 : Int → Option (Int)} {σ : Mm} {r : Int} (hc2 : ∀ (v3x : Int) (ls : Array Slot), lv_has ls 8 [(0, .ref (q 0)), (1, .int (i32 v1)), (2, .int (i32 v2)), (3, .int (i32 v3x))] → c2 v3x = some r → VM p l e rmX8_isInArc s m args below meth c D ac q (QIM D ac q below args s (r, σ)) σ (F0 m 2 ls [])) (hl : lv_has ls 8 [(0, .ref (q 0)), (1, .int (i32 v1)), (2, .int (i32 v2)), (3, .int (i32 v3))]) (h : fX8_isInArc_36 c2 v1 v2 v3 t0 σ = some r) : VM p l e rmX8_isInArc s m args below meth c D ac q (QIM D ac q below args s (r, σ)) σ (F0 m 36 ls [.int (i32 t0)]) := by
  have h : bindv t0 (fun v4_1 => bindv 0 (fun v5_2 => lX8_isInArc_41 v1 v2 v3 v4_1 σ (fX8_isInArc_100 c2 v1 v2 v3 σ) 400 v5_2)) = some r := h
  refine v_istore C hl (fun x => [(4, .int (i32 x)), (0, .ref (q 0)), (1, .int (i32 v1)), (2, .int (i32 v2)), (3, .int (i32 v3))]) dX8_isInArc_36 (by decide) (fun _ => rfl) h (fun v4_1 ls hl h => ?_)
  refine v_iconst C dX8_isInArc_38 ?_
  refine v_istore C hl (fun x => [(5, .int (i32 x)), (4, .int (i32 v4_1)), (0, .ref (q 0)), (1, .int (i32 v1)), (2, .int (i32 v2)), (3, .int (i32 v3))]) dX8_isInArc_39 (by decide) (fun _ => rfl) h (fun v5_2 ls hl h => ?_)
  exact wlX8_isInArc_41 C hr (fun ls hl h => wX8_isInArc_100 C hr hc2 (lv_sub hl [0, 1, 2, 3] rfl) h) _ _ _ (lv_sub hl [2, 3, 4, 5, 1, 0] rfl) h
theorem wX8_isInArc_2 (C : CxM p rmX8_isInArc s m args meth c D ac q RX8 cX8_isInArc 8) (hr : meth.sig.returnType = (some .boolean)) {v1 : Int} {v2 : Int} {σ : Mm} {v3 : Int} {e2 : Option (Int)} {c2 : Int → Option (Int)} {r : Int} (he2 : ∀ (ls : Array Slot), lv_has ls 8 [(0, .ref (q 0))] → e2 = some r → VM p l e rmX8_isInArc s m args below meth c D ac q (QIM D ac q below args s (r, σ)) σ (F0 m 106 ls [])) (hc2 : ∀ (v3x : Int) (ls : Array Slot), lv_has ls 8 [(0, .ref (q 0)), (1, .int (i32 v1)), (2, .int (i32 v2)), (3, .int (i32 v3x))] → c2 v3x = some r → VM p l e rmX8_isInArc s m args below meth c D ac q (QIM D ac q below args s (r, σ)) σ (F0 m 2 ls [])) (hl : lv_has ls 8 [(0, .ref (q 0)), (1, .int (i32 v1)), (2, .int (i32 v2)), (3, .int (i32 v3))]) (h : fX8_isInArc_2 v1 v2 σ e2 c2 v3 = some r) : VM p l e rmX8_isInArc s m args below meth c D ac q (QIM D ac q below args s (r, σ)) σ (F0 m 2 ls []) := by
  have h : cr v3 (cr (σ 0 24) ((if v3 < σ 0 24 then chk v3 60 (cr (σ 13 (v3).toNat) ((if σ 13 (v3).toNat = 0 then chk v3 60 (fX8_isInArc_36 c2 v1 v2 v3 ((σ 12 (v3).toNat) - 1) σ) else chk v3 60 (fX8_isInArc_36 c2 v1 v2 v3 (σ 12 (v3).toNat) σ)))) else e2))) = some r := h
  refine v_iload_n C hl dX8_isInArc_2 rfl 3 rfl ?_
  refine v_aload_n C hl dX8_isInArc_3 rfl 0 rfl ?_
  refine g_X8_24 C kdM_0 fl_X8_245 dX8_isInArc_4 ?_
  have hz1 := (cr_e h).1
  have h := (cr_e h).2
  have hz2 := (cr_e h).1
  have h := (cr_e h).2
  refine v_icmp_ge C (tgt := 106) hz1 hz2 h dX8_isInArc_7 rfl (fun h => ?_) (fun h => ?_)
  · exact he2  _ (lv_sub hl [0] rfl) h
  · refine v_aload_n C hl dX8_isInArc_10 rfl 0 rfl ?_
    refine g_X8_23 C kdM_0 fl_X8_46 dX8_isInArc_11 ?_
    refine v_iload_n C hl dX8_isInArc_14 rfl 3 rfl ?_
    refine alM10 C kdM_13 h dX8_isInArc_15 (fun h => ?_)
    have hz3 := (cr_e h).1
    have h := (cr_e h).2
    refine v_if_eq C (tgt := 28) hz3 h dX8_isInArc_16 rfl (fun h => ?_) (fun h => ?_)
    · refine v_aload_n C hl dX8_isInArc_28 rfl 0 rfl ?_
      refine g_X8_22 C kdM_0 fl_X8_43 dX8_isInArc_29 ?_
      refine v_iload_n C hl dX8_isInArc_32 rfl 3 rfl ?_
      refine alM9 C kdM_12 h dX8_isInArc_33 (fun h => ?_)
      refine v_iconst C dX8_isInArc_34 ?_
      refine v_isub C dX8_isInArc_35 ?_
      exact wX8_isInArc_36 C hr hc2 (lv_sub hl [0, 1, 2, 3] rfl) h
    · refine v_aload_n C hl dX8_isInArc_19 rfl 0 rfl ?_
      refine g_X8_22 C kdM_0 fl_X8_43 dX8_isInArc_20 ?_
      refine v_iload_n C hl dX8_isInArc_23 rfl 3 rfl ?_
      refine alM9 C kdM_12 h dX8_isInArc_24 (fun h => ?_)
      refine v_goto C (tgt := 36) dX8_isInArc_25 rfl ?_
      exact wX8_isInArc_36 C hr hc2 (lv_sub hl [0, 1, 2, 3] rfl) h
theorem wlX8_isInArc_2 (C : CxM p rmX8_isInArc s m args meth c D ac q RX8 cX8_isInArc 8) (hr : meth.sig.returnType = (some .boolean)) {v1 : Int} {v2 : Int} {σ : Mm} {e2 : Option (Int)} {r : Int} (he2 : ∀ (ls : Array Slot), lv_has ls 8 [(0, .ref (q 0))] → e2 = some r → VM p l e rmX8_isInArc s m args below meth c D ac q (QIM D ac q below args s (r, σ)) σ (F0 m 106 ls [])) : ∀ (fu : Nat) (v3 : Int) (ls : Array Slot) (hl : lv_has ls 8 [(0, .ref (q 0)), (1, .int (i32 v1)), (2, .int (i32 v2)), (3, .int (i32 v3))]) (h : lX8_isInArc_2 v1 v2 σ e2 fu v3 = some r), VM p l e rmX8_isInArc s m args below meth c D ac q (QIM D ac q below args s (r, σ)) σ (F0 m 2 ls []) := by
  intro fu
  induction fu with
  | zero =>
    intro v3 ls hl h
    have h : none = some r := h
    cases h
  | succ fu ih =>
    intro v3 ls hl h
    exact wX8_isInArc_2 C hr he2 (fun v3 ls hl h => ih v3 ls hl h) hl h
theorem mX8_isInArc (hq : QI 19 q) {v1 : Int} {v2 : Int} {σ : Mm} {r : Int} (h : fX8_isInArc v1 v2 σ = some r) : MIM l D ac q yX8_isInArc cX8_isInArc 8 (some .boolean) rmX8_isInArc [.ref (q 0), .int (i32 v1), .int (i32 v2)] σ (r, σ) := by
  refine MI.of hq XT_M (by decide) (Nat.le_of_ble_eq_true rfl) (fun p e s m below meth c ls C hr hl => ?_)
  have hl : lv_has ls 8 [(0, .ref (q 0)), (1, .int (i32 v1)), (2, .int (i32 v2))] := hl
  have h : bindv 0 (fun v3_1 => lX8_isInArc_2 v1 v2 σ (fX8_isInArc_106 σ) 400 v3_1) = some r := h
  refine v_iconst C dX8_isInArc_0 ?_
  refine v_istore_n C hl (fun x => [(3, .int (i32 x)), (0, .ref (q 0)), (1, .int (i32 v1)), (2, .int (i32 v2))]) dX8_isInArc_1 rfl (by decide) (fun _ => rfl) h (fun v3_1 ls hl h => ?_)
  exact wlX8_isInArc_2 C hr (fun ls hl h => wX8_isInArc_106 C hr (lv_sub hl [0] rfl) h) _ _ _ (lv_sub hl [1, 2, 3, 0] rfl) h
end
