section
variable {l : Launch} {D : va_G} {ac : Nat → ClassId} {q : Nat → Nat} {p : Program} {e : Env} {s : State} {m : MethodId} {args : Array Value} {below : List Frame} {meth : Method} {c : Code} {ls : Array Slot}
theorem dX8_isEdgeFair_0 : decode cX8_isEdgeFair 0 = .ok (.aload_n 0, 1) := by decide +kernel
theorem dX8_isEdgeFair_1 : decode cX8_isEdgeFair 1 = .ok (.iload_n 1, 1) := by decide +kernel
theorem dX8_isEdgeFair_2 : decode cX8_isEdgeFair 2 = .ok (.iload_n 2, 1) := by decide +kernel
theorem dX8_isEdgeFair_3 : decode cX8_isEdgeFair 3 = .ok (.iload_n 3, 1) := by decide +kernel
theorem dX8_isEdgeFair_4 : decode cX8_isEdgeFair 4 = .ok (.invokevirtual 172, 3) := by decide +kernel
theorem dX8_isEdgeFair_7 : decode cX8_isEdgeFair 7 = .ok (.iconst 2, 1) := by decide +kernel
theorem dX8_isEdgeFair_8 : decode cX8_isEdgeFair 8 = .ok (.if_icmp .le 5, 3) := by decide +kernel
theorem dX8_isEdgeFair_11 : decode cX8_isEdgeFair 11 = .ok (.iconst 0, 1) := by decide +kernel
theorem dX8_isEdgeFair_12 : decode cX8_isEdgeFair 12 = .ok (.ireturn, 1) := by decide +kernel
theorem dX8_isEdgeFair_13 : decode cX8_isEdgeFair 13 = .ok (.iconst 0, 1) := by decide +kernel
theorem dX8_isEdgeFair_14 : decode cX8_isEdgeFair 14 = .ok (.istore 4, 2) := by decide +kernel
theorem dX8_isEdgeFair_16 : decode cX8_isEdgeFair 16 = .ok (.iload 4, 2) := by decide +kernel
theorem dX8_isEdgeFair_18 : decode cX8_isEdgeFair 18 = .ok (.aload_n 0, 1) := by decide +kernel
theorem dX8_isEdgeFair_19 : decode cX8_isEdgeFair 19 = .ok (.getfield 7, 3) := by decide +kernel
theorem dX8_isEdgeFair_22 : decode cX8_isEdgeFair 22 = .ok (.iload_n 1, 1) := by decide +kernel
theorem dX8_isEdgeFair_23 : decode cX8_isEdgeFair 23 = .ok (.sipush 138, 3) := by decide +kernel
theorem dX8_isEdgeFair_26 : decode cX8_isEdgeFair 26 = .ok (.iadd, 1) := by decide +kernel
theorem dX8_isEdgeFair_27 : decode cX8_isEdgeFair 27 = .ok (.iaload, 1) := by decide +kernel
theorem dX8_isEdgeFair_28 : decode cX8_isEdgeFair 28 = .ok (.if_icmp .ge 35, 3) := by decide +kernel
theorem dX8_isEdgeFair_31 : decode cX8_isEdgeFair 31 = .ok (.iload 4, 2) := by decide +kernel
theorem dX8_isEdgeFair_33 : decode cX8_isEdgeFair 33 = .ok (.iload_n 2, 1) := by decide +kernel
theorem dX8_isEdgeFair_34 : decode cX8_isEdgeFair 34 = .ok (.if_icmp .eq 23, 3) := by decide +kernel
theorem dX8_isEdgeFair_37 : decode cX8_isEdgeFair 37 = .ok (.iload 4, 2) := by decide +kernel
theorem dX8_isEdgeFair_39 : decode cX8_isEdgeFair 39 = .ok (.iload_n 3, 1) := by decide +kernel
theorem dX8_isEdgeFair_40 : decode cX8_isEdgeFair 40 = .ok (.if_icmp .eq 17, 3) := by decide +kernel
theorem dX8_isEdgeFair_43 : decode cX8_isEdgeFair 43 = .ok (.aload_n 0, 1) := by decide +kernel
theorem dX8_isEdgeFair_44 : decode cX8_isEdgeFair 44 = .ok (.iload_n 1, 1) := by decide +kernel
theorem dX8_isEdgeFair_45 : decode cX8_isEdgeFair 45 = .ok (.iload 4, 2) := by decide +kernel
theorem dX8_isEdgeFair_47 : decode cX8_isEdgeFair 47 = .ok (.iload_n 2, 1) := by decide +kernel
theorem dX8_isEdgeFair_48 : decode cX8_isEdgeFair 48 = .ok (.iload_n 3, 1) := by decide +kernel
theorem dX8_isEdgeFair_49 : decode cX8_isEdgeFair 49 = .ok (.invokevirtual 175, 3) := by decide +kernel
theorem dX8_isEdgeFair_52 : decode cX8_isEdgeFair 52 = .ok (.ifCond .eq 5, 3) := by decide +kernel
theorem dX8_isEdgeFair_55 : decode cX8_isEdgeFair 55 = .ok (.iconst 0, 1) := by decide +kernel
theorem dX8_isEdgeFair_56 : decode cX8_isEdgeFair 56 = .ok (.ireturn, 1) := by decide +kernel
theorem dX8_isEdgeFair_57 : decode cX8_isEdgeFair 57 = .ok (.iinc 4 1, 3) := by decide +kernel
theorem dX8_isEdgeFair_60 : decode cX8_isEdgeFair 60 = .ok (.goto (-44), 3) := by decide +kernel
theorem dX8_isEdgeFair_63 : decode cX8_isEdgeFair 63 = .ok (.iconst 0, 1) := by decide +kernel
theorem dX8_isEdgeFair_64 : decode cX8_isEdgeFair 64 = .ok (.istore 4, 2) := by decide +kernel
theorem dX8_isEdgeFair_66 : decode cX8_isEdgeFair 66 = .ok (.iload 4, 2) := by decide +kernel
theorem dX8_isEdgeFair_68 : decode cX8_isEdgeFair 68 = .ok (.aload_n 0, 1) := by decide +kernel
theorem dX8_isEdgeFair_69 : decode cX8_isEdgeFair 69 = .ok (.getfield 7, 3) := by decide +kernel
theorem dX8_isEdgeFair_72 : decode cX8_isEdgeFair 72 = .ok (.iload_n 1, 1) := by decide +kernel
theorem dX8_isEdgeFair_73 : decode cX8_isEdgeFair 73 = .ok (.sipush 139, 3) := by decide +kernel
theorem dX8_isEdgeFair_76 : decode cX8_isEdgeFair 76 = .ok (.iadd, 1) := by decide +kernel
theorem dX8_isEdgeFair_77 : decode cX8_isEdgeFair 77 = .ok (.iaload, 1) := by decide +kernel
theorem dX8_isEdgeFair_78 : decode cX8_isEdgeFair 78 = .ok (.if_icmp .ge 68, 3) := by decide +kernel
theorem dX8_isEdgeFair_81 : decode cX8_isEdgeFair 81 = .ok (.iconst 0, 1) := by decide +kernel
theorem dX8_isEdgeFair_82 : decode cX8_isEdgeFair 82 = .ok (.istore 5, 2) := by decide +kernel
theorem dX8_isEdgeFair_84 : decode cX8_isEdgeFair 84 = .ok (.iload 5, 2) := by decide +kernel
theorem dX8_isEdgeFair_86 : decode cX8_isEdgeFair 86 = .ok (.aload_n 0, 1) := by decide +kernel
theorem dX8_isEdgeFair_87 : decode cX8_isEdgeFair 87 = .ok (.getfield 7, 3) := by decide +kernel
theorem dX8_isEdgeFair_90 : decode cX8_isEdgeFair 90 = .ok (.iload_n 1, 1) := by decide +kernel
theorem dX8_isEdgeFair_91 : decode cX8_isEdgeFair 91 = .ok (.sipush 132, 3) := by decide +kernel
theorem dX8_isEdgeFair_94 : decode cX8_isEdgeFair 94 = .ok (.iadd, 1) := by decide +kernel
theorem dX8_isEdgeFair_95 : decode cX8_isEdgeFair 95 = .ok (.iload 4, 2) := by decide +kernel
theorem dX8_isEdgeFair_97 : decode cX8_isEdgeFair 97 = .ok (.iadd, 1) := by decide +kernel
theorem dX8_isEdgeFair_98 : decode cX8_isEdgeFair 98 = .ok (.iaload, 1) := by decide +kernel
theorem dX8_isEdgeFair_99 : decode cX8_isEdgeFair 99 = .ok (.if_icmp .ge 41, 3) := by decide +kernel
theorem dX8_isEdgeFair_102 : decode cX8_isEdgeFair 102 = .ok (.aload_n 0, 1) := by decide +kernel
theorem dX8_isEdgeFair_103 : decode cX8_isEdgeFair 103 = .ok (.iload_n 1, 1) := by decide +kernel
theorem dX8_isEdgeFair_104 : decode cX8_isEdgeFair 104 = .ok (.iload_n 2, 1) := by decide +kernel
theorem dX8_isEdgeFair_105 : decode cX8_isEdgeFair 105 = .ok (.iload_n 3, 1) := by decide +kernel
theorem dX8_isEdgeFair_106 : decode cX8_isEdgeFair 106 = .ok (.aload_n 0, 1) := by decide +kernel
theorem dX8_isEdgeFair_107 : decode cX8_isEdgeFair 107 = .ok (.iload_n 1, 1) := by decide +kernel
theorem dX8_isEdgeFair_108 : decode cX8_isEdgeFair 108 = .ok (.iload 4, 2) := by decide +kernel
theorem dX8_isEdgeFair_110 : decode cX8_isEdgeFair 110 = .ok (.iload 5, 2) := by decide +kernel
theorem dX8_isEdgeFair_112 : decode cX8_isEdgeFair 112 = .ok (.invokevirtual 168, 3) := by decide +kernel
theorem dX8_isEdgeFair_115 : decode cX8_isEdgeFair 115 = .ok (.aload_n 0, 1) := by decide +kernel
theorem dX8_isEdgeFair_116 : decode cX8_isEdgeFair 116 = .ok (.iload_n 1, 1) := by decide +kernel
theorem dX8_isEdgeFair_117 : decode cX8_isEdgeFair 117 = .ok (.iload 4, 2) := by decide +kernel
theorem dX8_isEdgeFair_119 : decode cX8_isEdgeFair 119 = .ok (.iload 5, 2) := by decide +kernel
theorem dX8_isEdgeFair_121 : decode cX8_isEdgeFair 121 = .ok (.iconst 1, 1) := by decide +kernel
theorem dX8_isEdgeFair_122 : decode cX8_isEdgeFair 122 = .ok (.iadd, 1) := by decide +kernel
theorem dX8_isEdgeFair_123 : decode cX8_isEdgeFair 123 = .ok (.invokevirtual 168, 3) := by decide +kernel
theorem dX8_isEdgeFair_126 : decode cX8_isEdgeFair 126 = .ok (.invokevirtual 179, 3) := by decide +kernel
theorem dX8_isEdgeFair_129 : decode cX8_isEdgeFair 129 = .ok (.ifCond .eq 5, 3) := by decide +kernel
theorem dX8_isEdgeFair_132 : decode cX8_isEdgeFair 132 = .ok (.iconst 0, 1) := by decide +kernel
theorem dX8_isEdgeFair_133 : decode cX8_isEdgeFair 133 = .ok (.ireturn, 1) := by decide +kernel
theorem dX8_isEdgeFair_134 : decode cX8_isEdgeFair 134 = .ok (.iinc 5 1, 3) := by decide +kernel
theorem dX8_isEdgeFair_137 : decode cX8_isEdgeFair 137 = .ok (.goto (-53), 3) := by decide +kernel
theorem dX8_isEdgeFair_140 : decode cX8_isEdgeFair 140 = .ok (.iinc 4 1, 3) := by decide +kernel
theorem dX8_isEdgeFair_143 : decode cX8_isEdgeFair 143 = .ok (.goto (-77), 3) := by decide +kernel
theorem dX8_isEdgeFair_146 : decode cX8_isEdgeFair 146 = .ok (.iconst 1, 1) := by decide +kernel
theorem dX8_isEdgeFair_147 : decode cX8_isEdgeFair 147 = .ok (.ireturn, 1) := by decide +kernel
theorem wX8_isEdgeFair_146 (C : CxM p rmX8_isEdgeFair s m args meth c D ac q RX8 cX8_isEdgeFair 6) (hr : meth.sig.returnType = (some .boolean)) {σ : Mm} {r : Int} (hl : lv_has ls 6 [(0, .ref (q 0))]) (h : fX8_isEdgeFair_146 σ = some r) : VM p l e rmX8_isEdgeFair s m args below meth c D ac q (QIM D ac q below args s (r, σ)) σ (F0 m 146 ls []) := by
  have h : some 1 = some r := h
  refine v_iconst C dX8_isEdgeFair_146 ?_
  exact v_zret C hr (Or.inr rfl) (so1 h) dX8_isEdgeFair_147
theorem wX8_isEdgeFair_140 (C : CxM p rmX8_isEdgeFair s m args meth c D ac q RX8 cX8_isEdgeFair 6) (hr : meth.sig.returnType = (some .boolean)) {v1 : Int} {v2 : Int} {v3 : Int} {v4 : Int} {c66 : Int → Option (Int)} {σ : Mm} {r : Int} (hc66 : ∀ (v4x : Int) (ls : Array Slot), lv_has ls 6 [(0, .ref (q 0)), (1, .int (i32 v1)), (2, .int (i32 v2)), (3, .int (i32 v3)), (4, .int (i32 v4x))] → c66 v4x = some r → VM p l e rmX8_isEdgeFair s m args below meth c D ac q (QIM D ac q below args s (r, σ)) σ (F0 m 66 ls [])) (hl : lv_has ls 6 [(0, .ref (q 0)), (1, .int (i32 v1)), (2, .int (i32 v2)), (3, .int (i32 v3)), (4, .int (i32 v4))]) (h : fX8_isEdgeFair_140 c66 v1 v2 v3 v4 σ = some r) : VM p l e rmX8_isEdgeFair s m args below meth c D ac q (QIM D ac q below args s (r, σ)) σ (F0 m 140 ls []) := by
  have h : bindv (v4 + 1) (fun v4_1 => c66 v4_1) = some r := h
  refine v_iinc C hl (fun x => [(4, .int (i32 x)), (0, .ref (q 0)), (1, .int (i32 v1)), (2, .int (i32 v2)), (3, .int (i32 v3))]) dX8_isEdgeFair_140 4 rfl (by decide) (fun _ => rfl) h (fun v4_1 ls hl h => ?_)
  refine v_goto C (tgt := 66) dX8_isEdgeFair_143 rfl ?_
  exact hc66 _ _ (lv_sub hl [1, 2, 3, 4, 0] rfl) h
theorem wX8_isEdgeFair_84 (C : CxM p rmX8_isEdgeFair s m args meth c D ac q RX8 cX8_isEdgeFair 6) (hr : meth.sig.returnType = (some .boolean)) {v1 : Int} {v2 : Int} {v3 : Int} {v4 : Int} {σ : Mm} {v5 : Int} {e84 : Option (Int)} {c84 : Int → Option (Int)} {r : Int} (he84 : ∀ (ls : Array Slot), lv_has ls 6 [(0, .ref (q 0)), (1, .int (i32 v1)), (2, .int (i32 v2)), (3, .int (i32 v3)), (4, .int (i32 v4))] → e84 = some r → VM p l e rmX8_isEdgeFair s m args below meth c D ac q (QIM D ac q below args s (r, σ)) σ (F0 m 140 ls [])) (hc84 : ∀ (v5x : Int) (ls : Array Slot), lv_has ls 6 [(0, .ref (q 0)), (1, .int (i32 v1)), (2, .int (i32 v2)), (3, .int (i32 v3)), (4, .int (i32 v4)), (5, .int (i32 v5x))] → c84 v5x = some r → VM p l e rmX8_isEdgeFair s m args below meth c D ac q (QIM D ac q below args s (r, σ)) σ (F0 m 84 ls [])) (hl : lv_has ls 6 [(0, .ref (q 0)), (1, .int (i32 v1)), (2, .int (i32 v2)), (3, .int (i32 v3)), (4, .int (i32 v4)), (5, .int (i32 v5))]) (h : fX8_isEdgeFair_84 v1 v2 v3 v4 σ e84 c84 v5 = some r) : VM p l e rmX8_isEdgeFair s m args below meth c D ac q (QIM D ac q below args s (r, σ)) σ (F0 m 84 ls []) := by
  have h : chk ((v1 + 132) + v4) 700 (cr v5 (cr (σ 1 ((v1 + 132) + v4).toNat) ((if v5 < σ 1 ((v1 + 132) + v4).toNat then bd (fX8_cornerOf v1 v4 v5 σ) (fun x_3 => bd (fX8_cornerOf v1 v4 (v5 + 1) σ) (fun x_4 => bd (fX8_isCrossing v1 v2 v3 x_3 x_4 σ) (fun x_5 => cr x_5 ((if x_5 = 0 then bindv (v5 + 1) (fun v5_7 => c84 v5_7) else some 0))))) else e84)))) = some r := h
  refine v_iload C hl dX8_isEdgeFair_84 5 rfl ?_
  refine v_aload_n C hl dX8_isEdgeFair_86 rfl 0 rfl ?_
  refine g_X8_0 C kdM_0 fl_X8_7 dX8_isEdgeFair_87 ?_
  refine v_iload_n C hl dX8_isEdgeFair_90 rfl 1 rfl ?_
  refine v_sipush C dX8_isEdgeFair_91 rfl ?_
  refine v_iadd C dX8_isEdgeFair_94 ?_
  refine v_iload C hl dX8_isEdgeFair_95 4 rfl ?_
  refine v_iadd C dX8_isEdgeFair_97 ?_
  refine alM2 C kdM_1 h dX8_isEdgeFair_98 (fun h => ?_)
  have hz1 := (cr_e h).1
  have h := (cr_e h).2
  have hz2 := (cr_e h).1
  have h := (cr_e h).2
  refine v_icmp_ge C (tgt := 140) hz1 hz2 h dX8_isEdgeFair_99 rfl (fun h => ?_) (fun h => ?_)
  · exact he84  _ (lv_sub hl [0, 1, 2, 3, 4] rfl) h
  · refine v_aload_n C hl dX8_isEdgeFair_102 rfl 0 rfl ?_
    refine v_iload_n C hl dX8_isEdgeFair_103 rfl 1 rfl ?_
    refine v_iload_n C hl dX8_isEdgeFair_104 rfl 2 rfl ?_
    refine v_iload_n C hl dX8_isEdgeFair_105 rfl 3 rfl ?_
    refine v_aload_n C hl dX8_isEdgeFair_106 rfl 0 rfl ?_
    refine v_iload_n C hl dX8_isEdgeFair_107 rfl 1 rfl ?_
    refine v_iload C hl dX8_isEdgeFair_108 4 rfl ?_
    refine v_iload C hl dX8_isEdgeFair_110 5 rfl ?_
    obtain ⟨x_3, hv3, h⟩ := bd_e h
    refine v_callVI C 0 (klM kdM_0) rfl (ckM1 kdM_0 _) rfl [.int (i32 v1), .int (i32 v4), .int (i32 v5)] (mX8_cornerOf C.2.2.2.2.1 hv3) cd_X8_cornerOf ic_X8 im_X8_cornerOf se_X8_cornerOf ml_X8_168 yk_X8_cornerOf ⟨rfl, rfl, by decide, by decide⟩ rfl hl.1 (rest := [.int (i32 v3), .int (i32 v2), .int (i32 v1), .ref (q 0)]) rfl (Nat.le_of_ble_eq_true rfl) dX8_isEdgeFair_112 ?_
    refine v_aload_n C hl dX8_isEdgeFair_115 rfl 0 rfl ?_
    refine v_iload_n C hl dX8_isEdgeFair_116 rfl 1 rfl ?_
    refine v_iload C hl dX8_isEdgeFair_117 4 rfl ?_
    refine v_iload C hl dX8_isEdgeFair_119 5 rfl ?_
    refine v_iconst C dX8_isEdgeFair_121 ?_
    refine v_iadd C dX8_isEdgeFair_122 ?_
    obtain ⟨x_4, hv4, h⟩ := bd_e h
    refine v_callVI C 0 (klM kdM_0) rfl (ckM1 kdM_0 _) rfl [.int (i32 v1), .int (i32 v4), .int (i32 (v5 + 1))] (mX8_cornerOf C.2.2.2.2.1 hv4) cd_X8_cornerOf ic_X8 im_X8_cornerOf se_X8_cornerOf ml_X8_168 yk_X8_cornerOf ⟨rfl, rfl, by decide, by decide⟩ rfl hl.1 (rest := [.int (i32 x_3), .int (i32 v3), .int (i32 v2), .int (i32 v1), .ref (q 0)]) rfl (Nat.le_of_ble_eq_true rfl) dX8_isEdgeFair_123 ?_
    obtain ⟨x_5, hv5, h⟩ := bd_e h
    refine v_callVI C 0 (klM kdM_0) rfl (ckM1 kdM_0 _) rfl [.int (i32 v1), .int (i32 v2), .int (i32 v3), .int (i32 x_3), .int (i32 x_4)] (mX8_isCrossing C.2.2.2.2.1 hv5) cd_X8_isCrossing ic_X8 im_X8_isCrossing se_X8_isCrossing ml_X8_179 yk_X8_isCrossing ⟨rfl, rfl, by decide, by decide⟩ rfl hl.1 (rest := []) rfl (Nat.le_of_ble_eq_true rfl) dX8_isEdgeFair_126 ?_
    have hz6 := (cr_e h).1
    have h := (cr_e h).2
    refine v_if_eq C (tgt := 134) hz6 h dX8_isEdgeFair_129 rfl (fun h => ?_) (fun h => ?_)
    · refine v_iinc C hl (fun x => [(5, .int (i32 x)), (0, .ref (q 0)), (1, .int (i32 v1)), (2, .int (i32 v2)), (3, .int (i32 v3)), (4, .int (i32 v4))]) dX8_isEdgeFair_134 5 rfl (by decide) (fun _ => rfl) h (fun v5_7 ls hl h => ?_)
      refine v_goto C (tgt := 84) dX8_isEdgeFair_137 rfl ?_
      exact hc84 _ _ (lv_sub hl [1, 2, 3, 4, 5, 0] rfl) h
    · refine v_iconst C dX8_isEdgeFair_132 ?_
      exact v_zret C hr (Or.inl rfl) (so1 h) dX8_isEdgeFair_133
theorem wlX8_isEdgeFair_84 (C : CxM p rmX8_isEdgeFair s m args meth c D ac q RX8 cX8_isEdgeFair 6) (hr : meth.sig.returnType = (some .boolean)) {v1 : Int} {v2 : Int} {v3 : Int} {v4 : Int} {σ : Mm} {e84 : Option (Int)} {r : Int} (he84 : ∀ (ls : Array Slot), lv_has ls 6 [(0, .ref (q 0)), (1, .int (i32 v1)), (2, .int (i32 v2)), (3, .int (i32 v3)), (4, .int (i32 v4))] → e84 = some r → VM p l e rmX8_isEdgeFair s m args below meth c D ac q (QIM D ac q below args s (r, σ)) σ (F0 m 140 ls [])) : ∀ (fu : Nat) (v5 : Int) (ls : Array Slot) (hl : lv_has ls 6 [(0, .ref (q 0)), (1, .int (i32 v1)), (2, .int (i32 v2)), (3, .int (i32 v3)), (4, .int (i32 v4)), (5, .int (i32 v5))]) (h : lX8_isEdgeFair_84 v1 v2 v3 v4 σ e84 fu v5 = some r), VM p l e rmX8_isEdgeFair s m args below meth c D ac q (QIM D ac q below args s (r, σ)) σ (F0 m 84 ls []) := by
  intro fu
  induction fu with
  | zero =>
    intro v5 ls hl h
    have h : none = some r := h
    cases h
  | succ fu ih =>
    intro v5 ls hl h
    exact wX8_isEdgeFair_84 C hr he84 (fun v5 ls hl h => ih v5 ls hl h) hl h
theorem wX8_isEdgeFair_66 (C : CxM p rmX8_isEdgeFair s m args meth c D ac q RX8 cX8_isEdgeFair 6) (hr : meth.sig.returnType = (some .boolean)) {v1 : Int} {v2 : Int} {v3 : Int} {σ : Mm} {v4 : Int} {e66 : Option (Int)} {c66 : Int → Option (Int)} {r : Int} (he66 : ∀ (ls : Array Slot), lv_has ls 6 [(0, .ref (q 0))] → e66 = some r → VM p l e rmX8_isEdgeFair s m args below meth c D ac q (QIM D ac q below args s (r, σ)) σ (F0 m 146 ls [])) (hc66 : ∀ (v4x : Int) (ls : Array Slot), lv_has ls 6 [(0, .ref (q 0)), (1, .int (i32 v1)), (2, .int (i32 v2)), (3, .int (i32 v3)), (4, .int (i32 v4x))] → c66 v4x = some r → VM p l e rmX8_isEdgeFair s m args below meth c D ac q (QIM D ac q below args s (r, σ)) σ (F0 m 66 ls [])) (hl : lv_has ls 6 [(0, .ref (q 0)), (1, .int (i32 v1)), (2, .int (i32 v2)), (3, .int (i32 v3)), (4, .int (i32 v4))]) (h : fX8_isEdgeFair_66 v1 v2 v3 σ e66 c66 v4 = some r) : VM p l e rmX8_isEdgeFair s m args below meth c D ac q (QIM D ac q below args s (r, σ)) σ (F0 m 66 ls []) := by
  have h : chk (v1 + 139) 700 (cr v4 (cr (σ 1 (v1 + 139).toNat) ((if v4 < σ 1 (v1 + 139).toNat then bindv 0 (fun v5_3 => lX8_isEdgeFair_84 v1 v2 v3 v4 σ (fX8_isEdgeFair_140 c66 v1 v2 v3 v4 σ) 400 v5_3) else e66)))) = some r := h
  refine v_iload C hl dX8_isEdgeFair_66 4 rfl ?_
  refine v_aload_n C hl dX8_isEdgeFair_68 rfl 0 rfl ?_
  refine g_X8_0 C kdM_0 fl_X8_7 dX8_isEdgeFair_69 ?_
  refine v_iload_n C hl dX8_isEdgeFair_72 rfl 1 rfl ?_
  refine v_sipush C dX8_isEdgeFair_73 rfl ?_
  refine v_iadd C dX8_isEdgeFair_76 ?_
  refine alM2 C kdM_1 h dX8_isEdgeFair_77 (fun h => ?_)
  have hz1 := (cr_e h).1
  have h := (cr_e h).2
  have hz2 := (cr_e h).1
  have h := (cr_e h).2
  refine v_icmp_ge C (tgt := 146) hz1 hz2 h dX8_isEdgeFair_78 rfl (fun h => ?_) (fun h => ?_)
  · exact he66  _ (lv_sub hl [0] rfl) h
  · refine v_iconst C dX8_isEdgeFair_81 ?_
    refine v_istore C hl (fun x => [(5, .int (i32 x)), (0, .ref (q 0)), (1, .int (i32 v1)), (2, .int (i32 v2)), (3, .int (i32 v3)), (4, .int (i32 v4))]) dX8_isEdgeFair_82 (by decide) (fun _ => rfl) h (fun v5_3 ls hl h => ?_)
    exact wlX8_isEdgeFair_84 C hr (fun ls hl h => wX8_isEdgeFair_140 C hr hc66 (lv_sub hl [0, 1, 2, 3, 4] rfl) h) _ _ _ (lv_sub hl [1, 2, 3, 4, 5, 0] rfl) h
theorem wlX8_isEdgeFair_66 (C : CxM p rmX8_isEdgeFair s m args meth c D ac q RX8 cX8_isEdgeFair 6) (hr : meth.sig.returnType = (some .boolean)) {v1 : Int} {v2 : Int} {v3 : Int} {σ : Mm} {e66 : Option (Int)} {r : Int} (he66 : ∀ (ls : Array Slot), lv_has ls 6 [(0, .ref (q 0))] → e66 = some r → VM p l e rmX8_isEdgeFair s m args below meth c D ac q (QIM D ac q below args s (r, σ)) σ (F0 m 146 ls [])) : ∀ (fu : Nat) (v4 : Int) (ls : Array Slot) (hl : lv_has ls 6 [(0, .ref (q 0)), (1, .int (i32 v1)), (2, .int (i32 v2)), (3, .int (i32 v3)), (4, .int (i32 v4))]) (h : lX8_isEdgeFair_66 v1 v2 v3 σ e66 fu v4 = some r), VM p l e rmX8_isEdgeFair s m args below meth c D ac q (QIM D ac q below args s (r, σ)) σ (F0 m 66 ls []) := by
  intro fu
  induction fu with
  | zero =>
    intro v4 ls hl h
    have h : none = some r := h
    cases h
  | succ fu ih =>
    intro v4 ls hl h
    exact wX8_isEdgeFair_66 C hr he66 (fun v4 ls hl h => ih v4 ls hl h) hl h
theorem wX8_isEdgeFair_63 (C : CxM p rmX8_isEdgeFair s m args meth c D ac q RX8 cX8_isEdgeFair 6) (hr : meth.sig.returnType = (some .boolean)) {v1 : Int} {v2 : Int} {v3 : Int} {σ : Mm} {r : Int} (hl : lv_has ls 6 [(0, .ref (q 0)), (1, .int (i32 v1)), (2, .int (i32 v2)), (3, .int (i32 v3))]) (h : fX8_isEdgeFair_63 v1 v2 v3 σ = some r) : VM p l e rmX8_isEdgeFair s m args below meth c D ac q (QIM D ac q below args s (r, σ)) σ (F0 m 63 ls []) := by
  have h : bindv 0 (fun v4_1 => lX8_isEdgeFair_66 v1 v2 v3 σ (fX8_isEdgeFair_146 σ) 400 v4_1) = some r := h
  refine v_iconst C dX8_isEdgeFair_63 ?_
  refine v_istore C hl (fun x => [(4, .int (i32 x)), (0, .ref (q 0)), (1, .int (i32 v1)), (2, .int (i32 v2)), (3, .int (i32 v3))]) dX8_isEdgeFair_64 (by decide) (fun _ => rfl) h (fun v4_1 ls hl h => ?_)
  exact wlX8_isEdgeFair_66 C hr (fun ls hl h => wX8_isEdgeFair_146 C hr (lv_sub hl [0] rfl) h) _ _ _ (lv_sub hl [1, 2, 3, 4, 0] rfl) h
theorem wX8_isEdgeFair_57 (C : CxM p rmX8_isEdgeFair s m args meth c D ac q RX8 cX8_isEdgeFair 6) (hr : meth.sig.returnType = (some .boolean)) {v1 : Int} {v2 : Int} {v3 : Int} {v4 : Int} {c16 : Int → Option (Int)} {σ : Mm} {r : Int} (hc16 : ∀ (v4x : Int) (ls : Array Slot), lv_has ls 6 [(0, .ref (q 0)), (1, .int (i32 v1)), (2, .int (i32 v2)), (3, .int (i32 v3)), (4, .int (i32 v4x))] → c16 v4x = some r → VM p l e rmX8_isEdgeFair s m args below meth c D ac q (QIM D ac q below args s (r, σ)) σ (F0 m 16 ls [])) (hl : lv_has ls 6 [(0, .ref (q 0)), (1, .int (i32 v1)), (2, .int (i32 v2)), (3, .int (i32 v3)), (4, .int (i32 v4))]) (h : fX8_isEdgeFair_57 c16 v1 v2 v3 v4 σ = some r) : VM p l e rmX8_isEdgeFair s m args below meth c D ac q (QIM D ac q below args s (r, σ)) σ (F0 m 57 ls []) := by
  have h : bindv (v4 + 1) (fun v4_1 => c16 v4_1) = some r := h
  refine v_iinc C hl (fun x => [(4, .int (i32 x)), (0, .ref (q 0)), (1, .int (i32 v1)), (2, .int (i32 v2)), (3, .int (i32 v3))]) dX8_isEdgeFair_57 4 rfl (by decide) (fun _ => rfl) h (fun v4_1 ls hl h => ?_)
  refine v_goto C (tgt := 16) dX8_isEdgeFair_60 rfl ?_
  exact hc16 _ _ (lv_sub hl [1, 2, 3, 4, 0] rfl) h
theorem wX8_isEdgeFair_16 (C : CxM p rmX8_isEdgeFair s m args meth c D ac q RX8 cX8_isEdgeFair 6) (hr : meth.sig.returnType = (some .boolean)) {v1 : Int} {v2 : Int} {v3 : Int} {σ : Mm} {v4 : Int} {e16 : Option (Int)} {c16 : Int → Option (Int)} {r : Int} (he16 : ∀ (ls : Array Slot), lv_has ls 6 [(0, .ref (q 0)), (1, .int (i32 v1)), (2, .int (i32 v2)), (3, .int (i32 v3))] → e16 = some r → VM p l e rmX8_isEdgeFair s m args below meth c D ac q (QIM D ac q below args s (r, σ)) σ (F0 m 63 ls [])) (hc16 : ∀ (v4x : Int) (ls : Array Slot), lv_has ls 6 [(0, .ref (q 0)), (1, .int (i32 v1)), (2, .int (i32 v2)), (3, .int (i32 v3)), (4, .int (i32 v4x))] → c16 v4x = some r → VM p l e rmX8_isEdgeFair s m args below meth c D ac q (QIM D ac q below args s (r, σ)) σ (F0 m 16 ls [])) (hl : lv_has ls 6 [(0, .ref (q 0)), (1, .int (i32 v1)), (2, .int (i32 v2)), (3, .int (i32 v3)), (4, .int (i32 v4))]) (h : fX8_isEdgeFair_16 v1 v2 v3 σ e16 c16 v4 = some r) : VM p l e rmX8_isEdgeFair s m args below meth c D ac q (QIM D ac q below args s (r, σ)) σ (F0 m 16 ls []) := by
  have h : chk (v1 + 138) 700 (cr v4 (cr (σ 1 (v1 + 138).toNat) ((if v4 < σ 1 (v1 + 138).toNat then cr v4 (cr v2 ((if v4 = v2 then fX8_isEdgeFair_57 c16 v1 v2 v3 v4 σ else cr v4 (cr v3 ((if v4 = v3 then fX8_isEdgeFair_57 c16 v1 v2 v3 v4 σ else bd (fX8_isOn v1 v4 v2 v3 σ) (fun x_7 => cr x_7 ((if x_7 = 0 then fX8_isEdgeFair_57 c16 v1 v2 v3 v4 σ else some 0))))))))) else e16)))) = some r := h
  refine v_iload C hl dX8_isEdgeFair_16 4 rfl ?_
  refine v_aload_n C hl dX8_isEdgeFair_18 rfl 0 rfl ?_
  refine g_X8_0 C kdM_0 fl_X8_7 dX8_isEdgeFair_19 ?_
  refine v_iload_n C hl dX8_isEdgeFair_22 rfl 1 rfl ?_
  refine v_sipush C dX8_isEdgeFair_23 rfl ?_
  refine v_iadd C dX8_isEdgeFair_26 ?_
  refine alM2 C kdM_1 h dX8_isEdgeFair_27 (fun h => ?_)
  have hz1 := (cr_e h).1
  have h := (cr_e h).2
  have hz2 := (cr_e h).1
  have h := (cr_e h).2
  refine v_icmp_ge C (tgt := 63) hz1 hz2 h dX8_isEdgeFair_28 rfl (fun h => ?_) (fun h => ?_)
  · exact he16  _ (lv_sub hl [0, 1, 2, 3] rfl) h
  · refine v_iload C hl dX8_isEdgeFair_31 4 rfl ?_
    refine v_iload_n C hl dX8_isEdgeFair_33 rfl 2 rfl ?_
    have hz3 := (cr_e h).1
    have h := (cr_e h).2
    have hz4 := (cr_e h).1
    have h := (cr_e h).2
    refine v_icmp_eq C (tgt := 57) hz3 hz4 h dX8_isEdgeFair_34 rfl (fun h => ?_) (fun h => ?_)
    · exact wX8_isEdgeFair_57 C hr hc16 (lv_sub hl [0, 1, 2, 3, 4] rfl) h
    · refine v_iload C hl dX8_isEdgeFair_37 4 rfl ?_
      refine v_iload_n C hl dX8_isEdgeFair_39 rfl 3 rfl ?_
      have hz5 := (cr_e h).1
      have h := (cr_e h).2
      have hz6 := (cr_e h).1
      have h := (cr_e h).2
      refine v_icmp_eq C (tgt := 57) hz5 hz6 h dX8_isEdgeFair_40 rfl (fun h => ?_) (fun h => ?_)
      · exact wX8_isEdgeFair_57 C hr hc16 (lv_sub hl [0, 1, 2, 3, 4] rfl) h
      · refine v_aload_n C hl dX8_isEdgeFair_43 rfl 0 rfl ?_
        refine v_iload_n C hl dX8_isEdgeFair_44 rfl 1 rfl ?_
        refine v_iload C hl dX8_isEdgeFair_45 4 rfl ?_
        refine v_iload_n C hl dX8_isEdgeFair_47 rfl 2 rfl ?_
        refine v_iload_n C hl dX8_isEdgeFair_48 rfl 3 rfl ?_
        obtain ⟨x_7, hv7, h⟩ := bd_e h
        refine v_callVI C 0 (klM kdM_0) rfl (ckM1 kdM_0 _) rfl [.int (i32 v1), .int (i32 v4), .int (i32 v2), .int (i32 v3)] (mX8_isOn C.2.2.2.2.1 hv7) cd_X8_isOn ic_X8 im_X8_isOn se_X8_isOn ml_X8_175 yk_X8_isOn ⟨rfl, rfl, by decide, by decide⟩ rfl hl.1 (rest := []) rfl (Nat.le_of_ble_eq_true rfl) dX8_isEdgeFair_49 ?_
        have hz8 := (cr_e h).1
        have h := (cr_e h).2
        refine v_if_eq C (tgt := 57) hz8 h dX8_isEdgeFair_52 rfl (fun h => ?_) (fun h => ?_)
        · exact wX8_isEdgeFair_57 C hr hc16 (lv_sub hl [0, 1, 2, 3, 4] rfl) h
        · refine v_iconst C dX8_isEdgeFair_55 ?_
          exact v_zret C hr (Or.inl rfl) (so1 h) dX8_isEdgeFair_56
theorem wlX8_isEdgeFair_16 (C : CxM p rmX8_isEdgeFair s m args meth c D ac q RX8 cX8_isEdgeFair 6) (hr : meth.sig.returnType = (some .boolean)) {v1 : Int} {v2 : Int} {v3 : Int} {σ : Mm} {e16 : Option (Int)} {r : Int} (he16 : ∀ (ls : Array Slot), lv_has ls 6 [(0, .ref (q 0)), (1, .int (i32 v1)), (2, .int (i32 v2)), (3, .int (i32 v3))] → e16 = some r → VM p l e rmX8_isEdgeFair s m args below meth c D ac q (QIM D ac q below args s (r, σ)) σ (F0 m 63 ls [])) : ∀ (fu : Nat) (v4 : Int) (ls : Array Slot) (hl : lv_has ls 6 [(0, .ref (q 0)), (1, .int (i32 v1)), (2, .int (i32 v2)), (3, .int (i32 v3)), (4, .int (i32 v4))]) (h : lX8_isEdgeFair_16 v1 v2 v3 σ e16 fu v4 = some r), VM p l e rmX8_isEdgeFair s m args below meth c D ac q (QIM D ac q below args s (r, σ)) σ (F0 m 16 ls []) := by
  intro fu
  induction fu with
  | zero =>
    intro v4 ls hl h
    have h : none = some r := h
    cases h
  | succ fu ih =>
    intro v4 ls hl h
    exact wX8_isEdgeFair_16 C hr he16 (fun v4 ls hl h => ih v4 ls hl h) hl h
theorem mX8_isEdgeFair (hq : QI 19 q) {v1 : Int} {v2 : Int} {v3 : Int} {σ : Mm} {r : Int} (h : fX8_isEdgeFair v1 v2 v3 σ = some r) : MIM l D ac q yX8_isEdgeFair cX8_isEdgeFair 6 (some .boolean) rmX8_isEdgeFair [.ref (q 0), .int (i32 v1), .int (i32 v2), .int (i32 v3)] σ (r, σ) := by
  refine MI.of hq XT_M (by decide) (Nat.le_of_ble_eq_true rfl) (fun p e s m below meth c ls C hr hl => ?_)
  have hl : lv_has ls 6 [(0, .ref (q 0)), (1, .int (i32 v1)), (2, .int (i32 v2)), (3, .int (i32 v3))] := hl
  have h : bd (fX8_edgesOf v1 v2 v3 σ) (fun x_1 => cr x_1 ((if 2 < x_1 then some 0 else bindv 0 (fun v4_3 => lX8_isEdgeFair_16 v1 v2 v3 σ (fX8_isEdgeFair_63 v1 v2 v3 σ) 400 v4_3)))) = some r := h
  refine v_aload_n C hl dX8_isEdgeFair_0 rfl 0 rfl ?_
  refine v_iload_n C hl dX8_isEdgeFair_1 rfl 1 rfl ?_
  refine v_iload_n C hl dX8_isEdgeFair_2 rfl 2 rfl ?_
  refine v_iload_n C hl dX8_isEdgeFair_3 rfl 3 rfl ?_
  obtain ⟨x_1, hv1, h⟩ := bd_e h
  refine v_callVI C 0 (klM kdM_0) rfl (ckM1 kdM_0 _) rfl [.int (i32 v1), .int (i32 v2), .int (i32 v3)] (mX8_edgesOf C.2.2.2.2.1 hv1) cd_X8_edgesOf ic_X8 im_X8_edgesOf se_X8_edgesOf ml_X8_172 yk_X8_edgesOf ⟨rfl, rfl, by decide, by decide⟩ rfl hl.1 (rest := []) rfl (Nat.le_of_ble_eq_true rfl) dX8_isEdgeFair_4 ?_
  refine v_iconst C dX8_isEdgeFair_7 ?_
  have hz2 := (cr_e h).1
  have h := (cr_e h).2
  refine v_icmp_le C (tgt := 13) hz2 (by decide) h dX8_isEdgeFair_8 rfl (fun h => ?_) (fun h => ?_)
  · refine v_iconst C dX8_isEdgeFair_13 ?_
    refine v_istore C hl (fun x => [(4, .int (i32 x)), (0, .ref (q 0)), (1, .int (i32 v1)), (2, .int (i32 v2)), (3, .int (i32 v3))]) dX8_isEdgeFair_14 (by decide) (fun _ => rfl) h (fun v4_3 ls hl h => ?_)
    exact wlX8_isEdgeFair_16 C hr (fun ls hl h => wX8_isEdgeFair_63 C hr (lv_sub hl [0, 1, 2, 3] rfl) h) _ _ _ (lv_sub hl [1, 2, 3, 4, 0] rfl) h
  · refine v_iconst C dX8_isEdgeFair_11 ?_
    exact v_zret C hr (Or.inl rfl) (so1 h) dX8_isEdgeFair_12
end
section
variable {l : Launch} {D : va_G} {ac : Nat → ClassId} {q : Nat → Nat} {p : Program} {e : Env} {s : State} {m : MethodId} {args : Array Value} {below : List Frame} {meth : Method} {c : Code} {ls : Array Slot}
theorem dX8_isFair_0 : decode cX8_isFair 0 = .ok (.iconst 0, 1) := by decide +kernel
theorem dX8_isFair_1 : decode cX8_isFair 1 = .ok (.istore_n 2, 1) := by decide +kernel
theorem dX8_isFair_2 : decode cX8_isFair 2 = .ok (.iload_n 2, 1) := by decide +kernel
theorem dX8_isFair_3 : decode cX8_isFair 3 = .ok (.aload_n 0, 1) := by decide +kernel
theorem dX8_isFair_4 : decode cX8_isFair 4 = .ok (.getfield 7, 3) := by decide +kernel
theorem dX8_isFair_7 : decode cX8_isFair 7 = .ok (.iload_n 1, 1) := by decide +kernel
theorem dX8_isFair_8 : decode cX8_isFair 8 = .ok (.sipush 138, 3) := by decide +kernel
theorem dX8_isFair_11 : decode cX8_isFair 11 = .ok (.iadd, 1) := by decide +kernel
theorem dX8_isFair_12 : decode cX8_isFair 12 = .ok (.iaload, 1) := by decide +kernel
theorem dX8_isFair_13 : decode cX8_isFair 13 = .ok (.if_icmp .ge 68, 3) := by decide +kernel
theorem dX8_isFair_16 : decode cX8_isFair 16 = .ok (.iconst 0, 1) := by decide +kernel
theorem dX8_isFair_17 : decode cX8_isFair 17 = .ok (.istore_n 3, 1) := by decide +kernel
theorem dX8_isFair_18 : decode cX8_isFair 18 = .ok (.iload_n 3, 1) := by decide +kernel
theorem dX8_isFair_19 : decode cX8_isFair 19 = .ok (.iload_n 2, 1) := by decide +kernel
theorem dX8_isFair_20 : decode cX8_isFair 20 = .ok (.if_icmp .ge 55, 3) := by decide +kernel
theorem dX8_isFair_23 : decode cX8_isFair 23 = .ok (.aload_n 0, 1) := by decide +kernel
theorem dX8_isFair_24 : decode cX8_isFair 24 = .ok (.getfield 7, 3) := by decide +kernel
theorem dX8_isFair_27 : decode cX8_isFair 27 = .ok (.iload_n 1, 1) := by decide +kernel
theorem dX8_isFair_28 : decode cX8_isFair 28 = .ok (.iload_n 2, 1) := by decide +kernel
theorem dX8_isFair_29 : decode cX8_isFair 29 = .ok (.iadd, 1) := by decide +kernel
theorem dX8_isFair_30 : decode cX8_isFair 30 = .ok (.iaload, 1) := by decide +kernel
theorem dX8_isFair_31 : decode cX8_isFair 31 = .ok (.aload_n 0, 1) := by decide +kernel
theorem dX8_isFair_32 : decode cX8_isFair 32 = .ok (.getfield 7, 3) := by decide +kernel
theorem dX8_isFair_35 : decode cX8_isFair 35 = .ok (.iload_n 1, 1) := by decide +kernel
theorem dX8_isFair_36 : decode cX8_isFair 36 = .ok (.iload_n 3, 1) := by decide +kernel
theorem dX8_isFair_37 : decode cX8_isFair 37 = .ok (.iadd, 1) := by decide +kernel
theorem dX8_isFair_38 : decode cX8_isFair 38 = .ok (.iaload, 1) := by decide +kernel
theorem dX8_isFair_39 : decode cX8_isFair 39 = .ok (.if_icmp .ne 30, 3) := by decide +kernel
theorem dX8_isFair_42 : decode cX8_isFair 42 = .ok (.aload_n 0, 1) := by decide +kernel
theorem dX8_isFair_43 : decode cX8_isFair 43 = .ok (.getfield 7, 3) := by decide +kernel
theorem dX8_isFair_46 : decode cX8_isFair 46 = .ok (.iload_n 1, 1) := by decide +kernel
theorem dX8_isFair_47 : decode cX8_isFair 47 = .ok (.bipush 24, 2) := by decide +kernel
theorem dX8_isFair_49 : decode cX8_isFair 49 = .ok (.iadd, 1) := by decide +kernel
theorem dX8_isFair_50 : decode cX8_isFair 50 = .ok (.iload_n 2, 1) := by decide +kernel
theorem dX8_isFair_51 : decode cX8_isFair 51 = .ok (.iadd, 1) := by decide +kernel
theorem dX8_isFair_52 : decode cX8_isFair 52 = .ok (.iaload, 1) := by decide +kernel
theorem dX8_isFair_53 : decode cX8_isFair 53 = .ok (.aload_n 0, 1) := by decide +kernel
theorem dX8_isFair_54 : decode cX8_isFair 54 = .ok (.getfield 7, 3) := by decide +kernel
theorem dX8_isFair_57 : decode cX8_isFair 57 = .ok (.iload_n 1, 1) := by decide +kernel
theorem dX8_isFair_58 : decode cX8_isFair 58 = .ok (.bipush 24, 2) := by decide +kernel
theorem dX8_isFair_60 : decode cX8_isFair 60 = .ok (.iadd, 1) := by decide +kernel
theorem dX8_isFair_61 : decode cX8_isFair 61 = .ok (.iload_n 3, 1) := by decide +kernel
theorem dX8_isFair_62 : decode cX8_isFair 62 = .ok (.iadd, 1) := by decide +kernel
theorem dX8_isFair_63 : decode cX8_isFair 63 = .ok (.iaload, 1) := by decide +kernel
theorem dX8_isFair_64 : decode cX8_isFair 64 = .ok (.if_icmp .ne 5, 3) := by decide +kernel
theorem dX8_isFair_67 : decode cX8_isFair 67 = .ok (.iconst 0, 1) := by decide +kernel
theorem dX8_isFair_68 : decode cX8_isFair 68 = .ok (.ireturn, 1) := by decide +kernel
theorem dX8_isFair_69 : decode cX8_isFair 69 = .ok (.iinc 3 1, 3) := by decide +kernel
theorem dX8_isFair_72 : decode cX8_isFair 72 = .ok (.goto (-54), 3) := by decide +kernel
theorem dX8_isFair_75 : decode cX8_isFair 75 = .ok (.iinc 2 1, 3) := by decide +kernel
theorem dX8_isFair_78 : decode cX8_isFair 78 = .ok (.goto (-76), 3) := by decide +kernel
theorem dX8_isFair_81 : decode cX8_isFair 81 = .ok (.iconst 0, 1) := by decide +kernel
theorem dX8_isFair_82 : decode cX8_isFair 82 = .ok (.istore_n 2, 1) := by decide +kernel
theorem dX8_isFair_83 : decode cX8_isFair 83 = .ok (.iload_n 2, 1) := by decide +kernel
theorem dX8_isFair_84 : decode cX8_isFair 84 = .ok (.aload_n 0, 1) := by decide +kernel
theorem dX8_isFair_85 : decode cX8_isFair 85 = .ok (.getfield 7, 3) := by decide +kernel
theorem dX8_isFair_88 : decode cX8_isFair 88 = .ok (.iload_n 1, 1) := by decide +kernel
theorem dX8_isFair_89 : decode cX8_isFair 89 = .ok (.sipush 139, 3) := by decide +kernel
theorem dX8_isFair_92 : decode cX8_isFair 92 = .ok (.iadd, 1) := by decide +kernel
theorem dX8_isFair_93 : decode cX8_isFair 93 = .ok (.iaload, 1) := by decide +kernel
theorem dX8_isFair_94 : decode cX8_isFair 94 = .ok (.if_icmp .ge 84, 3) := by decide +kernel
theorem dX8_isFair_97 : decode cX8_isFair 97 = .ok (.aload_n 0, 1) := by decide +kernel
theorem dX8_isFair_98 : decode cX8_isFair 98 = .ok (.iload_n 1, 1) := by decide +kernel
theorem dX8_isFair_99 : decode cX8_isFair 99 = .ok (.iload_n 2, 1) := by decide +kernel
theorem dX8_isFair_100 : decode cX8_isFair 100 = .ok (.invokevirtual 183, 3) := by decide +kernel
theorem dX8_isFair_103 : decode cX8_isFair 103 = .ok (.ifCond .eq 7, 3) := by decide +kernel
theorem dX8_isFair_106 : decode cX8_isFair 106 = .ok (.iconst 1, 1) := by decide +kernel
theorem dX8_isFair_107 : decode cX8_isFair 107 = .ok (.goto 4, 3) := by decide +kernel
theorem dX8_isFair_110 : decode cX8_isFair 110 = .ok (.iconst 0, 1) := by decide +kernel
theorem dX8_isFair_111 : decode cX8_isFair 111 = .ok (.istore_n 3, 1) := by decide +kernel
theorem dX8_isFair_112 : decode cX8_isFair 112 = .ok (.iconst 0, 1) := by decide +kernel
theorem dX8_isFair_113 : decode cX8_isFair 113 = .ok (.istore 4, 2) := by decide +kernel
theorem dX8_isFair_115 : decode cX8_isFair 115 = .ok (.iload 4, 2) := by decide +kernel
theorem dX8_isFair_117 : decode cX8_isFair 117 = .ok (.aload_n 0, 1) := by decide +kernel
theorem dX8_isFair_118 : decode cX8_isFair 118 = .ok (.getfield 7, 3) := by decide +kernel
theorem dX8_isFair_121 : decode cX8_isFair 121 = .ok (.iload_n 1, 1) := by decide +kernel
theorem dX8_isFair_122 : decode cX8_isFair 122 = .ok (.sipush 132, 3) := by decide +kernel
theorem dX8_isFair_125 : decode cX8_isFair 125 = .ok (.iadd, 1) := by decide +kernel
theorem dX8_isFair_126 : decode cX8_isFair 126 = .ok (.iload_n 2, 1) := by decide +kernel
theorem dX8_isFair_127 : decode cX8_isFair 127 = .ok (.iadd, 1) := by decide +kernel
theorem dX8_isFair_128 : decode cX8_isFair 128 = .ok (.iaload, 1) := by decide +kernel
theorem dX8_isFair_129 : decode cX8_isFair 129 = .ok (.if_icmp .ge 37, 3) := by decide +kernel
theorem dX8_isFair_132 : decode cX8_isFair 132 = .ok (.iload_n 3, 1) := by decide +kernel
theorem dX8_isFair_133 : decode cX8_isFair 133 = .ok (.ifCond .eq 33, 3) := by decide +kernel
theorem dX8_isFair_136 : decode cX8_isFair 136 = .ok (.aload_n 0, 1) := by decide +kernel
theorem dX8_isFair_137 : decode cX8_isFair 137 = .ok (.iload_n 1, 1) := by decide +kernel
theorem dX8_isFair_138 : decode cX8_isFair 138 = .ok (.aload_n 0, 1) := by decide +kernel
theorem dX8_isFair_139 : decode cX8_isFair 139 = .ok (.iload_n 1, 1) := by decide +kernel
theorem dX8_isFair_140 : decode cX8_isFair 140 = .ok (.iload_n 2, 1) := by decide +kernel
theorem dX8_isFair_141 : decode cX8_isFair 141 = .ok (.iload 4, 2) := by decide +kernel
theorem dX8_isFair_143 : decode cX8_isFair 143 = .ok (.invokevirtual 168, 3) := by decide +kernel
theorem dX8_isFair_146 : decode cX8_isFair 146 = .ok (.aload_n 0, 1) := by decide +kernel
theorem dX8_isFair_147 : decode cX8_isFair 147 = .ok (.iload_n 1, 1) := by decide +kernel
theorem dX8_isFair_148 : decode cX8_isFair 148 = .ok (.iload_n 2, 1) := by decide +kernel
theorem dX8_isFair_149 : decode cX8_isFair 149 = .ok (.iload 4, 2) := by decide +kernel
theorem dX8_isFair_151 : decode cX8_isFair 151 = .ok (.iconst 1, 1) := by decide +kernel
theorem dX8_isFair_152 : decode cX8_isFair 152 = .ok (.iadd, 1) := by decide +kernel
theorem dX8_isFair_153 : decode cX8_isFair 153 = .ok (.invokevirtual 168, 3) := by decide +kernel
theorem dX8_isFair_156 : decode cX8_isFair 156 = .ok (.invokevirtual 187, 3) := by decide +kernel
theorem dX8_isFair_159 : decode cX8_isFair 159 = .ok (.istore_n 3, 1) := by decide +kernel
theorem dX8_isFair_160 : decode cX8_isFair 160 = .ok (.iinc 4 1, 3) := by decide +kernel
theorem dX8_isFair_163 : decode cX8_isFair 163 = .ok (.goto (-48), 3) := by decide +kernel
theorem dX8_isFair_166 : decode cX8_isFair 166 = .ok (.iload_n 3, 1) := by decide +kernel
theorem dX8_isFair_167 : decode cX8_isFair 167 = .ok (.ifCond .ne 5, 3) := by decide +kernel
theorem dX8_isFair_170 : decode cX8_isFair 170 = .ok (.iconst 0, 1) := by decide +kernel
theorem dX8_isFair_171 : decode cX8_isFair 171 = .ok (.ireturn, 1) := by decide +kernel
theorem dX8_isFair_172 : decode cX8_isFair 172 = .ok (.iinc 2 1, 3) := by decide +kernel
theorem dX8_isFair_175 : decode cX8_isFair 175 = .ok (.goto (-92), 3) := by decide +kernel
theorem dX8_isFair_178 : decode cX8_isFair 178 = .ok (.iconst 1, 1) := by decide +kernel
theorem dX8_isFair_179 : decode cX8_isFair 179 = .ok (.ireturn, 1) := by decide +kernel
theorem wX8_isFair_178 (C : CxM p rmX8_isFair s m args meth c D ac q RX8 cX8_isFair 5) (hr : meth.sig.returnType = (some .boolean)) {σ : Mm} {r : Int} (hl : lv_has ls 5 [(0, .ref (q 0))]) (h : fX8_isFair_178 σ = some r) : VM p l e rmX8_isFair s m args below meth c D ac q (QIM D ac q below args s (r, σ)) σ (F0 m 178 ls []) := by
  have h : some 1 = some r := h
  refine v_iconst C dX8_isFair_178 ?_
  exact v_zret C hr (Or.inr rfl) (so1 h) dX8_isFair_179
theorem wX8_isFair_166 (C : CxM p rmX8_isFair s m args meth c D ac q RX8 cX8_isFair 5) (hr : meth.sig.returnType = (some .boolean)) {v1 : Int} {v2 : Int} {v3 : Int} {c83 : Int → Option (Int)} {σ : Mm} {r : Int} (hc83 : ∀ (v2x : Int) (ls : Array Slot), lv_has ls 5 [(0, .ref (q 0)), (1, .int (i32 v1)), (2, .int (i32 v2x))] → c83 v2x = some r → VM p l e rmX8_isFair s m args below meth c D ac q (QIM D ac q below args s (r, σ)) σ (F0 m 83 ls [])) (hl : lv_has ls 5 [(0, .ref (q 0)), (1, .int (i32 v1)), (2, .int (i32 v2)), (3, .int (i32 v3))]) (h : fX8_isFair_166 c83 v1 v2 v3 σ = some r) : VM p l e rmX8_isFair s m args below meth c D ac q (QIM D ac q below args s (r, σ)) σ (F0 m 166 ls []) := by
  have h : cr v3 ((if v3 = 0 then some 0 else bindv (v2 + 1) (fun v2_2 => c83 v2_2))) = some r := h
  refine v_iload_n C hl dX8_isFair_166 rfl 3 rfl ?_
  have hz1 := (cr_e h).1
  have h := (cr_e h).2
  refine v_if_ne C (tgt := 172) hz1 h dX8_isFair_167 rfl (fun h => ?_) (fun h => ?_)
  · refine v_iinc C hl (fun x => [(2, .int (i32 x)), (0, .ref (q 0)), (1, .int (i32 v1)), (3, .int (i32 v3))]) dX8_isFair_172 2 rfl (by decide) (fun _ => rfl) h (fun v2_2 ls hl h => ?_)
    refine v_goto C (tgt := 83) dX8_isFair_175 rfl ?_
    exact hc83 _ _ (lv_sub hl [1, 2, 0] rfl) h
  · refine v_iconst C dX8_isFair_170 ?_
    exact v_zret C hr (Or.inl rfl) (so1 h) dX8_isFair_171
theorem wX8_isFair_115 (C : CxM p rmX8_isFair s m args meth c D ac q RX8 cX8_isFair 5) (hr : meth.sig.returnType = (some .boolean)) {v1 : Int} {v2 : Int} {σ : Mm} {v3 : Int} {v4 : Int} {e115 : Int → Option (Int)} {c115 : Int → Int → Option (Int)} {r : Int} (he115 : ∀ (v3x : Int) (ls : Array Slot), lv_has ls 5 [(0, .ref (q 0)), (1, .int (i32 v1)), (2, .int (i32 v2)), (3, .int (i32 v3x))] → e115 v3x = some r → VM p l e rmX8_isFair s m args below meth c D ac q (QIM D ac q below args s (r, σ)) σ (F0 m 166 ls [])) (hc115 : ∀ (v3x : Int) (v4x : Int) (ls : Array Slot), lv_has ls 5 [(0, .ref (q 0)), (1, .int (i32 v1)), (2, .int (i32 v2)), (3, .int (i32 v3x)), (4, .int (i32 v4x))] → c115 v3x v4x = some r → VM p l e rmX8_isFair s m args below meth c D ac q (QIM D ac q below args s (r, σ)) σ (F0 m 115 ls [])) (hl : lv_has ls 5 [(0, .ref (q 0)), (1, .int (i32 v1)), (2, .int (i32 v2)), (3, .int (i32 v3)), (4, .int (i32 v4))]) (h : fX8_isFair_115 v1 v2 σ e115 c115 v3 v4 = some r) : VM p l e rmX8_isFair s m args below meth c D ac q (QIM D ac q below args s (r, σ)) σ (F0 m 115 ls []) := by
  have h : chk ((v1 + 132) + v2) 700 (cr v4 (cr (σ 1 ((v1 + 132) + v2).toNat) ((if v4 < σ 1 ((v1 + 132) + v2).toNat then cr v3 ((if v3 = 0 then e115 v3 else bd (fX8_cornerOf v1 v2 v4 σ) (fun x_4 => bd (fX8_cornerOf v1 v2 (v4 + 1) σ) (fun x_5 => bd (fX8_isEdgeFair v1 x_4 x_5 σ) (fun x_6 => bindv x_6 (fun v3_7 => bindv (v4 + 1) (fun v4_8 => c115 v3_7 v4_8))))))) else e115 v3)))) = some r := h
  refine v_iload C hl dX8_isFair_115 4 rfl ?_
  refine v_aload_n C hl dX8_isFair_117 rfl 0 rfl ?_
  refine g_X8_0 C kdM_0 fl_X8_7 dX8_isFair_118 ?_
  refine v_iload_n C hl dX8_isFair_121 rfl 1 rfl ?_
  refine v_sipush C dX8_isFair_122 rfl ?_
  refine v_iadd C dX8_isFair_125 ?_
  refine v_iload_n C hl dX8_isFair_126 rfl 2 rfl ?_
  refine v_iadd C dX8_isFair_127 ?_
  refine alM2 C kdM_1 h dX8_isFair_128 (fun h => ?_)
  have hz1 := (cr_e h).1
  have h := (cr_e h).2
  have hz2 := (cr_e h).1
  have h := (cr_e h).2
  refine v_icmp_ge C (tgt := 166) hz1 hz2 h dX8_isFair_129 rfl (fun h => ?_) (fun h => ?_)
  · exact he115 _ _ (lv_sub hl [0, 1, 2, 3] rfl) h
  · refine v_iload_n C hl dX8_isFair_132 rfl 3 rfl ?_
    have hz3 := (cr_e h).1
    have h := (cr_e h).2
    refine v_if_eq C (tgt := 166) hz3 h dX8_isFair_133 rfl (fun h => ?_) (fun h => ?_)
    · exact he115 _ _ (lv_sub hl [0, 1, 2, 3] rfl) h
    · refine v_aload_n C hl dX8_isFair_136 rfl 0 rfl ?_
      refine v_iload_n C hl dX8_isFair_137 rfl 1 rfl ?_
      refine v_aload_n C hl dX8_isFair_138 rfl 0 rfl ?_
      refine v_iload_n C hl dX8_isFair_139 rfl 1 rfl ?_
      refine v_iload_n C hl dX8_isFair_140 rfl 2 rfl ?_
      refine v_iload C hl dX8_isFair_141 4 rfl ?_
      obtain ⟨x_4, hv4, h⟩ := bd_e h
      refine v_callVI C 0 (klM kdM_0) rfl (ckM1 kdM_0 _) rfl [.int (i32 v1), .int (i32 v2), .int (i32 v4)] (mX8_cornerOf C.2.2.2.2.1 hv4) cd_X8_cornerOf ic_X8 im_X8_cornerOf se_X8_cornerOf ml_X8_168 yk_X8_cornerOf ⟨rfl, rfl, by decide, by decide⟩ rfl hl.1 (rest := [.int (i32 v1), .ref (q 0)]) rfl (Nat.le_of_ble_eq_true rfl) dX8_isFair_143 ?_
      refine v_aload_n C hl dX8_isFair_146 rfl 0 rfl ?_
      refine v_iload_n C hl dX8_isFair_147 rfl 1 rfl ?_
      refine v_iload_n C hl dX8_isFair_148 rfl 2 rfl ?_
      refine v_iload C hl dX8_isFair_149 4 rfl ?_
      refine v_iconst C dX8_isFair_151 ?_
      refine v_iadd C dX8_isFair_152 ?_
      obtain ⟨x_5, hv5, h⟩ := bd_e h
      refine v_callVI C 0 (klM kdM_0) rfl (ckM1 kdM_0 _) rfl [.int (i32 v1), .int (i32 v2), .int (i32 (v4 + 1))] (mX8_cornerOf C.2.2.2.2.1 hv5) cd_X8_cornerOf ic_X8 im_X8_cornerOf se_X8_cornerOf ml_X8_168 yk_X8_cornerOf ⟨rfl, rfl, by decide, by decide⟩ rfl hl.1 (rest := [.int (i32 x_4), .int (i32 v1), .ref (q 0)]) rfl (Nat.le_of_ble_eq_true rfl) dX8_isFair_153 ?_
      obtain ⟨x_6, hv6, h⟩ := bd_e h
      refine v_callVI C 0 (klM kdM_0) rfl (ckM1 kdM_0 _) rfl [.int (i32 v1), .int (i32 x_4), .int (i32 x_5)] (mX8_isEdgeFair C.2.2.2.2.1 hv6) cd_X8_isEdgeFair ic_X8 im_X8_isEdgeFair se_X8_isEdgeFair ml_X8_187 yk_X8_isEdgeFair ⟨rfl, rfl, by decide, by decide⟩ rfl hl.1 (rest := []) rfl (Nat.le_of_ble_eq_true rfl) dX8_isFair_156 ?_
      refine v_istore_n C hl (fun x => [(3, .int (i32 x)), (0, .ref (q 0)), (1, .int (i32 v1)), (2, .int (i32 v2)), (4, .int (i32 v4))]) dX8_isFair_159 rfl (by decide) (fun _ => rfl) h (fun v3_7 ls hl h => ?_)
      refine v_iinc C hl (fun x => [(4, .int (i32 x)), (3, .int (i32 v3_7)), (0, .ref (q 0)), (1, .int (i32 v1)), (2, .int (i32 v2))]) dX8_isFair_160 4 rfl (by decide) (fun _ => rfl) h (fun v4_8 ls hl h => ?_)
      refine v_goto C (tgt := 115) dX8_isFair_163 rfl ?_
      exact hc115 _ _ _ (lv_sub hl [2, 3, 4, 1, 0] rfl) h
theorem wlX8_isFair_115 (C : CxM p rmX8_isFair s m args meth c D ac q RX8 cX8_isFair 5) (hr : meth.sig.returnType = (some .boolean)) {v1 : Int} {v2 : Int} {σ : Mm} {e115 : Int → Option (Int)} {r : Int} (he115 : ∀ (v3x : Int) (ls : Array Slot), lv_has ls 5 [(0, .ref (q 0)), (1, .int (i32 v1)), (2, .int (i32 v2)), (3, .int (i32 v3x))] → e115 v3x = some r → VM p l e rmX8_isFair s m args below meth c D ac q (QIM D ac q below args s (r, σ)) σ (F0 m 166 ls [])) : ∀ (fu : Nat) (v3 : Int) (v4 : Int) (ls : Array Slot) (hl : lv_has ls 5 [(0, .ref (q 0)), (1, .int (i32 v1)), (2, .int (i32 v2)), (3, .int (i32 v3)), (4, .int (i32 v4))]) (h : lX8_isFair_115 v1 v2 σ e115 fu v3 v4 = some r), VM p l e rmX8_isFair s m args below meth c D ac q (QIM D ac q below args s (r, σ)) σ (F0 m 115 ls []) := by
  intro fu
  induction fu with
  | zero =>
    intro v3 v4 ls hl h
    have h : none = some r := h
    cases h
  | succ fu ih =>
    intro v3 v4 ls hl h
    exact wX8_isFair_115 C hr he115 (fun v3 v4 ls hl h => ih v3 v4 ls hl h) hl h
theorem wX8_isFair_111 (C : CxM p rmX8_isFair s m args meth c D ac q RX8 cX8_isFair 5) (hr : meth.sig.returnType = (some .boolean)) {v1 : Int} {v2 : Int} {t0 : Int} {c83 : Int → Option (Int)} {σ : Mm} {r : Int} (hc83 : ∀ (v2x : Int) (ls : Array Slot), lv_has ls 5 [(0, .ref (q 0)), (1, .int (i32 v1)), (2, .int (i32 v2x))] → c83 v2x = some r → VM p l e rmX8_isFair s m args below meth c D ac q (QIM D ac q below args s (r, σ)) σ (F0 m 83 ls [])) (hl : lv_has ls 5 [(0, .ref (q 0)), (1, .int (i32 v1)), (2, .int (i32 v2))]) (h : fX8_isFair_111 c83 v1 v2 t0 σ = some r) : VM p l e rmX8_isFair s m args below meth c D ac q (QIM D ac q below args s (r, σ)) σ (F0 m 111 ls [.int (i32 t0)]) := by
  have h : bindv t0 (fun v3_1 => bindv 0 (fun v4_2 => lX8_isFair_115 v1 v2 σ (fun v3_3 => fX8_isFair_166 c83 v1 v2 v3_3 σ) 400 v3_1 v4_2)) = some r := h
  refine v_istore_n C hl (fun x => [(3, .int (i32 x)), (0, .ref (q 0)), (1, .int (i32 v1)), (2, .int (i32 v2))]) dX8_isFair_111 rfl (by decide) (fun _ => rfl) h (fun v3_1 ls hl h => ?_)
  refine v_iconst C dX8_isFair_112 ?_
  refine v_istore C hl (fun x => [(4, .int (i32 x)), (3, .int (i32 v3_1)), (0, .ref (q 0)), (1, .int (i32 v1)), (2, .int (i32 v2))]) dX8_isFair_113 (by decide) (fun _ => rfl) h (fun v4_2 ls hl h => ?_)
  exact wlX8_isFair_115 C hr (fun v3_3 ls hl h => wX8_isFair_166 C hr hc83 (lv_sub hl [0, 1, 2, 3] rfl) h) _ _ _ _ (lv_sub hl [2, 3, 4, 1, 0] rfl) h
theorem wX8_isFair_83 (C : CxM p rmX8_isFair s m args meth c D ac q RX8 cX8_isFair 5) (hr : meth.sig.returnType = (some .boolean)) {v1 : Int} {σ : Mm} {v2 : Int} {e83 : Option (Int)} {c83 : Int → Option (Int)} {r : Int} (he83 : ∀ (ls : Array Slot), lv_has ls 5 [(0, .ref (q 0))] → e83 = some r → VM p l e rmX8_isFair s m args below meth c D ac q (QIM D ac q below args s (r, σ)) σ (F0 m 178 ls [])) (hc83 : ∀ (v2x : Int) (ls : Array Slot), lv_has ls 5 [(0, .ref (q 0)), (1, .int (i32 v1)), (2, .int (i32 v2x))] → c83 v2x = some r → VM p l e rmX8_isFair s m args below meth c D ac q (QIM D ac q below args s (r, σ)) σ (F0 m 83 ls [])) (hl : lv_has ls 5 [(0, .ref (q 0)), (1, .int (i32 v1)), (2, .int (i32 v2))]) (h : fX8_isFair_83 v1 σ e83 c83 v2 = some r) : VM p l e rmX8_isFair s m args below meth c D ac q (QIM D ac q below args s (r, σ)) σ (F0 m 83 ls []) := by
  have h : chk (v1 + 139) 700 (cr v2 (cr (σ 1 (v1 + 139).toNat) ((if v2 < σ 1 (v1 + 139).toNat then bd (fX8_areaOf v1 v2 σ) (fun x_3 => cr x_3 ((if x_3 = 0 then fX8_isFair_111 c83 v1 v2 0 σ else fX8_isFair_111 c83 v1 v2 1 σ))) else e83)))) = some r := h
  refine v_iload_n C hl dX8_isFair_83 rfl 2 rfl ?_
  refine v_aload_n C hl dX8_isFair_84 rfl 0 rfl ?_
  refine g_X8_0 C kdM_0 fl_X8_7 dX8_isFair_85 ?_
  refine v_iload_n C hl dX8_isFair_88 rfl 1 rfl ?_
  refine v_sipush C dX8_isFair_89 rfl ?_
  refine v_iadd C dX8_isFair_92 ?_
  refine alM2 C kdM_1 h dX8_isFair_93 (fun h => ?_)
  have hz1 := (cr_e h).1
  have h := (cr_e h).2
  have hz2 := (cr_e h).1
  have h := (cr_e h).2
  refine v_icmp_ge C (tgt := 178) hz1 hz2 h dX8_isFair_94 rfl (fun h => ?_) (fun h => ?_)
  · exact he83  _ (lv_sub hl [0] rfl) h
  · refine v_aload_n C hl dX8_isFair_97 rfl 0 rfl ?_
    refine v_iload_n C hl dX8_isFair_98 rfl 1 rfl ?_
    refine v_iload_n C hl dX8_isFair_99 rfl 2 rfl ?_
    obtain ⟨x_3, hv3, h⟩ := bd_e h
    refine v_callVI C 0 (klM kdM_0) rfl (ckM1 kdM_0 _) rfl [.int (i32 v1), .int (i32 v2)] (mX8_areaOf C.2.2.2.2.1 hv3) cd_X8_areaOf ic_X8 im_X8_areaOf se_X8_areaOf ml_X8_183 yk_X8_areaOf ⟨rfl, rfl, by decide, by decide⟩ rfl hl.1 (rest := []) rfl (Nat.le_of_ble_eq_true rfl) dX8_isFair_100 ?_
    have hz4 := (cr_e h).1
    have h := (cr_e h).2
    refine v_if_eq C (tgt := 110) hz4 h dX8_isFair_103 rfl (fun h => ?_) (fun h => ?_)
    · refine v_iconst C dX8_isFair_110 ?_
      exact wX8_isFair_111 C hr hc83 (lv_sub hl [0, 1, 2] rfl) h
    · refine v_iconst C dX8_isFair_106 ?_
      refine v_goto C (tgt := 111) dX8_isFair_107 rfl ?_
      exact wX8_isFair_111 C hr hc83 (lv_sub hl [0, 1, 2] rfl) h
theorem wlX8_isFair_83 (C : CxM p rmX8_isFair s m args meth c D ac q RX8 cX8_isFair 5) (hr : meth.sig.returnType = (some .boolean)) {v1 : Int} {σ : Mm} {e83 : Option (Int)} {r : Int} (he83 : ∀ (ls : Array Slot), lv_has ls 5 [(0, .ref (q 0))] → e83 = some r → VM p l e rmX8_isFair s m args below meth c D ac q (QIM D ac q below args s (r, σ)) σ (F0 m 178 ls [])) : ∀ (fu : Nat) (v2 : Int) (ls : Array Slot) (hl : lv_has ls 5 [(0, .ref (q 0)), (1, .int (i32 v1)), (2, .int (i32 v2))]) (h : lX8_isFair_83 v1 σ e83 fu v2 = some r), VM p l e rmX8_isFair s m args below meth c D ac q (QIM D ac q below args s (r, σ)) σ (F0 m 83 ls []) := by
  intro fu
  induction fu with
  | zero =>
    intro v2 ls hl h
    have h : none = some r := h
    cases h
  | succ fu ih =>
    intro v2 ls hl h
    exact wX8_isFair_83 C hr he83 (fun v2 ls hl h => ih v2 ls hl h) hl h
theorem wX8_isFair_81 (C : CxM p rmX8_isFair s m args meth c D ac q RX8 cX8_isFair 5) (hr : meth.sig.returnType = (some .boolean)) {v1 : Int} {σ : Mm} {r : Int} (hl : lv_has ls 5 [(0, .ref (q 0)), (1, .int (i32 v1))]) (h : fX8_isFair_81 v1 σ = some r) : VM p l e rmX8_isFair s m args below meth c D ac q (QIM D ac q below args s (r, σ)) σ (F0 m 81 ls []) := by
  have h : bindv 0 (fun v2_1 => lX8_isFair_83 v1 σ (fX8_isFair_178 σ) 400 v2_1) = some r := h
  refine v_iconst C dX8_isFair_81 ?_
  refine v_istore_n C hl (fun x => [(2, .int (i32 x)), (0, .ref (q 0)), (1, .int (i32 v1))]) dX8_isFair_82 rfl (by decide) (fun _ => rfl) h (fun v2_1 ls hl h => ?_)
  exact wlX8_isFair_83 C hr (fun ls hl h => wX8_isFair_178 C hr (lv_sub hl [0] rfl) h) _ _ _ (lv_sub hl [1, 2, 0] rfl) h
theorem wX8_isFair_75 (C : CxM p rmX8_isFair s m args meth c D ac q RX8 cX8_isFair 5) (hr : meth.sig.returnType = (some .boolean)) {v1 : Int} {v2 : Int} {c2 : Int → Option (Int)} {σ : Mm} {r : Int} (hc2 : ∀ (v2x : Int) (ls : Array Slot), lv_has ls 5 [(0, .ref (q 0)), (1, .int (i32 v1)), (2, .int (i32 v2x))] → c2 v2x = some r → VM p l e rmX8_isFair s m args below meth c D ac q (QIM D ac q below args s (r, σ)) σ (F0 m 2 ls [])) (hl : lv_has ls 5 [(0, .ref (q 0)), (1, .int (i32 v1)), (2, .int (i32 v2))]) (h : fX8_isFair_75 c2 v1 v2 σ = some r) : VM p l e rmX8_isFair s m args below meth c D ac q (QIM D ac q below args s (r, σ)) σ (F0 m 75 ls []) := by
  have h : bindv (v2 + 1) (fun v2_1 => c2 v2_1) = some r := h
  refine v_iinc C hl (fun x => [(2, .int (i32 x)), (0, .ref (q 0)), (1, .int (i32 v1))]) dX8_isFair_75 2 rfl (by decide) (fun _ => rfl) h (fun v2_1 ls hl h => ?_)
  refine v_goto C (tgt := 2) dX8_isFair_78 rfl ?_
  exact hc2 _ _ (lv_sub hl [1, 2, 0] rfl) h
theorem wX8_isFair_69 (C : CxM p rmX8_isFair s m args meth c D ac q RX8 cX8_isFair 5) (hr : meth.sig.returnType = (some .boolean)) {v1 : Int} {v2 : Int} {v3 : Int} {c18 : Int → Option (Int)} {σ : Mm} {r : Int} (hc18 : ∀ (v3x : Int) (ls : Array Slot), lv_has ls 5 [(0, .ref (q 0)), (1, .int (i32 v1)), (2, .int (i32 v2)), (3, .int (i32 v3x))] → c18 v3x = some r → VM p l e rmX8_isFair s m args below meth c D ac q (QIM D ac q below args s (r, σ)) σ (F0 m 18 ls [])) (hl : lv_has ls 5 [(0, .ref (q 0)), (1, .int (i32 v1)), (2, .int (i32 v2)), (3, .int (i32 v3))]) (h : fX8_isFair_69 c18 v1 v2 v3 σ = some r) : VM p l e rmX8_isFair s m args below meth c D ac q (QIM D ac q below args s (r, σ)) σ (F0 m 69 ls []) := by
  have h : bindv (v3 + 1) (fun v3_1 => c18 v3_1) = some r := h
  refine v_iinc C hl (fun x => [(3, .int (i32 x)), (0, .ref (q 0)), (1, .int (i32 v1)), (2, .int (i32 v2))]) dX8_isFair_69 3 rfl (by decide) (fun _ => rfl) h (fun v3_1 ls hl h => ?_)
  refine v_goto C (tgt := 18) dX8_isFair_72 rfl ?_
  exact hc18 _ _ (lv_sub hl [1, 2, 3, 0] rfl) h
theorem wX8_isFair_18 (C : CxM p rmX8_isFair s m args meth c D ac q RX8 cX8_isFair 5) (hr : meth.sig.returnType = (some .boolean)) {v1 : Int} {v2 : Int} {σ : Mm} {v3 : Int} {e18 : Option (Int)} {c18 : Int → Option (Int)} {r : Int} (he18 : ∀ (ls : Array Slot), lv_has ls 5 [(0, .ref (q 0)), (1, .int (i32 v1)), (2, .int (i32 v2))] → e18 = some r → VM p l e rmX8_isFair s m args below meth c D ac q (QIM D ac q below args s (r, σ)) σ (F0 m 75 ls [])) (hc18 : ∀ (v3x : Int) (ls : Array Slot), lv_has ls 5 [(0, .ref (q 0)), (1, .int (i32 v1)), (2, .int (i32 v2)), (3, .int (i32 v3x))] → c18 v3x = some r → VM p l e rmX8_isFair s m args below meth c D ac q (QIM D ac q below args s (r, σ)) σ (F0 m 18 ls [])) (hl : lv_has ls 5 [(0, .ref (q 0)), (1, .int (i32 v1)), (2, .int (i32 v2)), (3, .int (i32 v3))]) (h : fX8_isFair_18 v1 v2 σ e18 c18 v3 = some r) : VM p l e rmX8_isFair s m args below meth c D ac q (QIM D ac q below args s (r, σ)) σ (F0 m 18 ls []) := by
  have h : cr v3 (cr v2 ((if v3 < v2 then chk (v1 + v2) 700 (chk (v1 + v3) 700 (cr (σ 1 (v1 + v2).toNat) (cr (σ 1 (v1 + v3).toNat) ((if σ 1 (v1 + v2).toNat = σ 1 (v1 + v3).toNat then chk ((v1 + 24) + v2) 700 (chk ((v1 + 24) + v3) 700 (cr (σ 1 ((v1 + 24) + v2).toNat) (cr (σ 1 ((v1 + 24) + v3).toNat) ((if σ 1 ((v1 + 24) + v2).toNat = σ 1 ((v1 + 24) + v3).toNat then some 0 else fX8_isFair_69 c18 v1 v2 v3 σ))))) else fX8_isFair_69 c18 v1 v2 v3 σ))))) else e18))) = some r := h
  refine v_iload_n C hl dX8_isFair_18 rfl 3 rfl ?_
  refine v_iload_n C hl dX8_isFair_19 rfl 2 rfl ?_
  have hz1 := (cr_e h).1
  have h := (cr_e h).2
  have hz2 := (cr_e h).1
  have h := (cr_e h).2
  refine v_icmp_ge C (tgt := 75) hz1 hz2 h dX8_isFair_20 rfl (fun h => ?_) (fun h => ?_)
  · exact he18  _ (lv_sub hl [0, 1, 2] rfl) h
  · refine v_aload_n C hl dX8_isFair_23 rfl 0 rfl ?_
    refine g_X8_0 C kdM_0 fl_X8_7 dX8_isFair_24 ?_
    refine v_iload_n C hl dX8_isFair_27 rfl 1 rfl ?_
    refine v_iload_n C hl dX8_isFair_28 rfl 2 rfl ?_
    refine v_iadd C dX8_isFair_29 ?_
    refine alM2 C kdM_1 h dX8_isFair_30 (fun h => ?_)
    refine v_aload_n C hl dX8_isFair_31 rfl 0 rfl ?_
    refine g_X8_0 C kdM_0 fl_X8_7 dX8_isFair_32 ?_
    refine v_iload_n C hl dX8_isFair_35 rfl 1 rfl ?_
    refine v_iload_n C hl dX8_isFair_36 rfl 3 rfl ?_
    refine v_iadd C dX8_isFair_37 ?_
    refine alM2 C kdM_1 h dX8_isFair_38 (fun h => ?_)
    have hz3 := (cr_e h).1
    have h := (cr_e h).2
    have hz4 := (cr_e h).1
    have h := (cr_e h).2
    refine v_icmp_ne C (tgt := 69) hz3 hz4 h dX8_isFair_39 rfl (fun h => ?_) (fun h => ?_)
    · exact wX8_isFair_69 C hr hc18 (lv_sub hl [0, 1, 2, 3] rfl) h
    · refine v_aload_n C hl dX8_isFair_42 rfl 0 rfl ?_
      refine g_X8_0 C kdM_0 fl_X8_7 dX8_isFair_43 ?_
      refine v_iload_n C hl dX8_isFair_46 rfl 1 rfl ?_
      refine v_bipush C dX8_isFair_47 rfl ?_
      refine v_iadd C dX8_isFair_49 ?_
      refine v_iload_n C hl dX8_isFair_50 rfl 2 rfl ?_
      refine v_iadd C dX8_isFair_51 ?_
      refine alM2 C kdM_1 h dX8_isFair_52 (fun h => ?_)
      refine v_aload_n C hl dX8_isFair_53 rfl 0 rfl ?_
      refine g_X8_0 C kdM_0 fl_X8_7 dX8_isFair_54 ?_
      refine v_iload_n C hl dX8_isFair_57 rfl 1 rfl ?_
      refine v_bipush C dX8_isFair_58 rfl ?_
      refine v_iadd C dX8_isFair_60 ?_
      refine v_iload_n C hl dX8_isFair_61 rfl 3 rfl ?_
      refine v_iadd C dX8_isFair_62 ?_
      refine alM2 C kdM_1 h dX8_isFair_63 (fun h => ?_)
      have hz5 := (cr_e h).1
      have h := (cr_e h).2
      have hz6 := (cr_e h).1
      have h := (cr_e h).2
      refine v_icmp_ne C (tgt := 69) hz5 hz6 h dX8_isFair_64 rfl (fun h => ?_) (fun h => ?_)
      · exact wX8_isFair_69 C hr hc18 (lv_sub hl [0, 1, 2, 3] rfl) h
      · refine v_iconst C dX8_isFair_67 ?_
        exact v_zret C hr (Or.inl rfl) (so1 h) dX8_isFair_68
theorem wlX8_isFair_18 (C : CxM p rmX8_isFair s m args meth c D ac q RX8 cX8_isFair 5) (hr : meth.sig.returnType = (some .boolean)) {v1 : Int} {v2 : Int} {σ : Mm} {e18 : Option (Int)} {r : Int} (he18 : ∀ (ls : Array Slot), lv_has ls 5 [(0, .ref (q 0)), (1, .int (i32 v1)), (2, .int (i32 v2))] → e18 = some r → VM p l e rmX8_isFair s m args below meth c D ac q (QIM D ac q below args s (r, σ)) σ (F0 m 75 ls [])) : ∀ (fu : Nat) (v3 : Int) (ls : Array Slot) (hl : lv_has ls 5 [(0, .ref (q 0)), (1, .int (i32 v1)), (2, .int (i32 v2)), (3, .int (i32 v3))]) (h : lX8_isFair_18 v1 v2 σ e18 fu v3 = some r), VM p l e rmX8_isFair s m args below meth c D ac q (QIM D ac q below args s (r, σ)) σ (F0 m 18 ls []) := by
  intro fu
  induction fu with
  | zero =>
    intro v3 ls hl h
    have h : none = some r := h
    cases h
  | succ fu ih =>
    intro v3 ls hl h
    exact wX8_isFair_18 C hr he18 (fun v3 ls hl h => ih v3 ls hl h) hl h
theorem wX8_isFair_2 (C : CxM p rmX8_isFair s m args meth c D ac q RX8 cX8_isFair 5) (hr : meth.sig.returnType = (some .boolean)) {v1 : Int} {σ : Mm} {v2 : Int} {e2 : Option (Int)} {c2 : Int → Option (Int)} {r : Int} (he2 : ∀ (ls : Array Slot), lv_has ls 5 [(0, .ref (q 0)), (1, .int (i32 v1))] → e2 = some r → VM p l e rmX8_isFair s m args below meth c D ac q (QIM D ac q below args s (r, σ)) σ (F0 m 81 ls [])) (hc2 : ∀ (v2x : Int) (ls : Array Slot), lv_has ls 5 [(0, .ref (q 0)), (1, .int (i32 v1)), (2, .int (i32 v2x))] → c2 v2x = some r → VM p l e rmX8_isFair s m args below meth c D ac q (QIM D ac q below args s (r, σ)) σ (F0 m 2 ls [])) (hl : lv_has ls 5 [(0, .ref (q 0)), (1, .int (i32 v1)), (2, .int (i32 v2))]) (h : fX8_isFair_2 v1 σ e2 c2 v2 = some r) : VM p l e rmX8_isFair s m args below meth c D ac q (QIM D ac q below args s (r, σ)) σ (F0 m 2 ls []) := by
  have h : chk (v1 + 138) 700 (cr v2 (cr (σ 1 (v1 + 138).toNat) ((if v2 < σ 1 (v1 + 138).toNat then bindv 0 (fun v3_3 => lX8_isFair_18 v1 v2 σ (fX8_isFair_75 c2 v1 v2 σ) 400 v3_3) else e2)))) = some r := h
  refine v_iload_n C hl dX8_isFair_2 rfl 2 rfl ?_
  refine v_aload_n C hl dX8_isFair_3 rfl 0 rfl ?_
  refine g_X8_0 C kdM_0 fl_X8_7 dX8_isFair_4 ?_
  refine v_iload_n C hl dX8_isFair_7 rfl 1 rfl ?_
  refine v_sipush C dX8_isFair_8 rfl ?_
  refine v_iadd C dX8_isFair_11 ?_
  refine alM2 C kdM_1 h dX8_isFair_12 (fun h => ?_)
  have hz1 := (cr_e h).1
  have h := (cr_e h).2
  have hz2 := (cr_e h).1
  have h := (cr_e h).2
  refine v_icmp_ge C (tgt := 81) hz1 hz2 h dX8_isFair_13 rfl (fun h => ?_) (fun h => ?_)
  · exact he2  _ (lv_sub hl [0, 1] rfl) h
  · refine v_iconst C dX8_isFair_16 ?_
    refine v_istore_n C hl (fun x => [(3, .int (i32 x)), (0, .ref (q 0)), (1, .int (i32 v1)), (2, .int (i32 v2))]) dX8_isFair_17 rfl (by decide) (fun _ => rfl) h (fun v3_3 ls hl h => ?_)
    exact wlX8_isFair_18 C hr (fun ls hl h => wX8_isFair_75 C hr hc2 (lv_sub hl [0, 1, 2] rfl) h) _ _ _ (lv_sub hl [1, 2, 3, 0] rfl) h
theorem wlX8_isFair_2 (C : CxM p rmX8_isFair s m args meth c D ac q RX8 cX8_isFair 5) (hr : meth.sig.returnType = (some .boolean)) {v1 : Int} {σ : Mm} {e2 : Option (Int)} {r : Int} (he2 : ∀ (ls : Array Slot), lv_has ls 5 [(0, .ref (q 0)), (1, .int (i32 v1))] → e2 = some r → VM p l e rmX8_isFair s m args below meth c D ac q (QIM D ac q below args s (r, σ)) σ (F0 m 81 ls [])) : ∀ (fu : Nat) (v2 : Int) (ls : Array Slot) (hl : lv_has ls 5 [(0, .ref (q 0)), (1, .int (i32 v1)), (2, .int (i32 v2))]) (h : lX8_isFair_2 v1 σ e2 fu v2 = some r), VM p l e rmX8_isFair s m args below meth c D ac q (QIM D ac q below args s (r, σ)) σ (F0 m 2 ls []) := by
  intro fu
  induction fu with
  | zero =>
    intro v2 ls hl h
    have h : none = some r := h
    cases h
  | succ fu ih =>
    intro v2 ls hl h
    exact wX8_isFair_2 C hr he2 (fun v2 ls hl h => ih v2 ls hl h) hl h
theorem mX8_isFair (hq : QI 19 q) {v1 : Int} {σ : Mm} {r : Int} (h : fX8_isFair v1 σ = some r) : MIM l D ac q yX8_isFair cX8_isFair 5 (some .boolean) rmX8_isFair [.ref (q 0), .int (i32 v1)] σ (r, σ) := by
  refine MI.of hq XT_M (by decide) (Nat.le_of_ble_eq_true rfl) (fun p e s m below meth c ls C hr hl => ?_)
  have hl : lv_has ls 5 [(0, .ref (q 0)), (1, .int (i32 v1))] := hl
  have h : bindv 0 (fun v2_1 => lX8_isFair_2 v1 σ (fX8_isFair_81 v1 σ) 400 v2_1) = some r := h
  refine v_iconst C dX8_isFair_0 ?_
  refine v_istore_n C hl (fun x => [(2, .int (i32 x)), (0, .ref (q 0)), (1, .int (i32 v1))]) dX8_isFair_1 rfl (by decide) (fun _ => rfl) h (fun v2_1 ls hl h => ?_)
  exact wlX8_isFair_2 C hr (fun ls hl h => wX8_isFair_81 C hr (lv_sub hl [0, 1] rfl) h) _ _ _ (lv_sub hl [1, 2, 0] rfl) h
end
section
variable {l : Launch} {D : va_G} {ac : Nat → ClassId} {q : Nat → Nat} {p : Program} {e : Env} {s : State} {m : MethodId} {args : Array Value} {below : List Frame} {meth : Method} {c : Code} {ls : Array Slot}
theorem dX8_isOnPlace_0 : decode cX8_isOnPlace 0 = .ok (.aload_n 0, 1) := by decide +kernel
theorem dX8_isOnPlace_1 : decode cX8_isOnPlace 1 = .ok (.getfield 7, 3) := by decide +kernel
theorem dX8_isOnPlace_4 : decode cX8_isOnPlace 4 = .ok (.iload_n 3, 1) := by decide +kernel
theorem dX8_isOnPlace_5 : decode cX8_isOnPlace 5 = .ok (.iaload, 1) := by decide +kernel
theorem dX8_isOnPlace_6 : decode cX8_isOnPlace 6 = .ok (.aload_n 0, 1) := by decide +kernel
theorem dX8_isOnPlace_7 : decode cX8_isOnPlace 7 = .ok (.getfield 7, 3) := by decide +kernel
theorem dX8_isOnPlace_10 : decode cX8_isOnPlace 10 = .ok (.bipush 24, 2) := by decide +kernel
theorem dX8_isOnPlace_12 : decode cX8_isOnPlace 12 = .ok (.iload_n 3, 1) := by decide +kernel
theorem dX8_isOnPlace_13 : decode cX8_isOnPlace 13 = .ok (.iadd, 1) := by decide +kernel
theorem dX8_isOnPlace_14 : decode cX8_isOnPlace 14 = .ok (.iaload, 1) := by decide +kernel
theorem dX8_isOnPlace_15 : decode cX8_isOnPlace 15 = .ok (.aload_n 0, 1) := by decide +kernel
theorem dX8_isOnPlace_16 : decode cX8_isOnPlace 16 = .ok (.getfield 7, 3) := by decide +kernel
theorem dX8_isOnPlace_19 : decode cX8_isOnPlace 19 = .ok (.iload 4, 2) := by decide +kernel
theorem dX8_isOnPlace_21 : decode cX8_isOnPlace 21 = .ok (.iaload, 1) := by decide +kernel
theorem dX8_isOnPlace_22 : decode cX8_isOnPlace 22 = .ok (.aload_n 0, 1) := by decide +kernel
theorem dX8_isOnPlace_23 : decode cX8_isOnPlace 23 = .ok (.getfield 7, 3) := by decide +kernel
theorem dX8_isOnPlace_26 : decode cX8_isOnPlace 26 = .ok (.bipush 24, 2) := by decide +kernel
theorem dX8_isOnPlace_28 : decode cX8_isOnPlace 28 = .ok (.iload 4, 2) := by decide +kernel
theorem dX8_isOnPlace_30 : decode cX8_isOnPlace 30 = .ok (.iadd, 1) := by decide +kernel
theorem dX8_isOnPlace_31 : decode cX8_isOnPlace 31 = .ok (.iaload, 1) := by decide +kernel
theorem dX8_isOnPlace_32 : decode cX8_isOnPlace 32 = .ok (.iload_n 1, 1) := by decide +kernel
theorem dX8_isOnPlace_33 : decode cX8_isOnPlace 33 = .ok (.iload_n 2, 1) := by decide +kernel
theorem dX8_isOnPlace_34 : decode cX8_isOnPlace 34 = .ok (.invokestatic 153, 3) := by decide +kernel
theorem dX8_isOnPlace_37 : decode cX8_isOnPlace 37 = .ok (.ifCond .ne 53, 3) := by decide +kernel
theorem dX8_isOnPlace_40 : decode cX8_isOnPlace 40 = .ok (.iload_n 1, 1) := by decide +kernel
theorem dX8_isOnPlace_41 : decode cX8_isOnPlace 41 = .ok (.aload_n 0, 1) := by decide +kernel
theorem dX8_isOnPlace_42 : decode cX8_isOnPlace 42 = .ok (.getfield 7, 3) := by decide +kernel
theorem dX8_isOnPlace_45 : decode cX8_isOnPlace 45 = .ok (.iload_n 3, 1) := by decide +kernel
theorem dX8_isOnPlace_46 : decode cX8_isOnPlace 46 = .ok (.iaload, 1) := by decide +kernel
theorem dX8_isOnPlace_47 : decode cX8_isOnPlace 47 = .ok (.aload_n 0, 1) := by decide +kernel
theorem dX8_isOnPlace_48 : decode cX8_isOnPlace 48 = .ok (.getfield 7, 3) := by decide +kernel
theorem dX8_isOnPlace_51 : decode cX8_isOnPlace 51 = .ok (.iload 4, 2) := by decide +kernel
theorem dX8_isOnPlace_53 : decode cX8_isOnPlace 53 = .ok (.iaload, 1) := by decide +kernel
theorem dX8_isOnPlace_54 : decode cX8_isOnPlace 54 = .ok (.invokestatic 161, 3) := by decide +kernel
theorem dX8_isOnPlace_57 : decode cX8_isOnPlace 57 = .ok (.ifCond .eq 33, 3) := by decide +kernel
theorem dX8_isOnPlace_60 : decode cX8_isOnPlace 60 = .ok (.iload_n 2, 1) := by decide +kernel
theorem dX8_isOnPlace_61 : decode cX8_isOnPlace 61 = .ok (.aload_n 0, 1) := by decide +kernel
theorem dX8_isOnPlace_62 : decode cX8_isOnPlace 62 = .ok (.getfield 7, 3) := by decide +kernel
theorem dX8_isOnPlace_65 : decode cX8_isOnPlace 65 = .ok (.bipush 24, 2) := by decide +kernel
theorem dX8_isOnPlace_67 : decode cX8_isOnPlace 67 = .ok (.iload_n 3, 1) := by decide +kernel
theorem dX8_isOnPlace_68 : decode cX8_isOnPlace 68 = .ok (.iadd, 1) := by decide +kernel
theorem dX8_isOnPlace_69 : decode cX8_isOnPlace 69 = .ok (.iaload, 1) := by decide +kernel
theorem dX8_isOnPlace_70 : decode cX8_isOnPlace 70 = .ok (.aload_n 0, 1) := by decide +kernel
theorem dX8_isOnPlace_71 : decode cX8_isOnPlace 71 = .ok (.getfield 7, 3) := by decide +kernel
theorem dX8_isOnPlace_74 : decode cX8_isOnPlace 74 = .ok (.bipush 24, 2) := by decide +kernel
theorem dX8_isOnPlace_76 : decode cX8_isOnPlace 76 = .ok (.iload 4, 2) := by decide +kernel
theorem dX8_isOnPlace_78 : decode cX8_isOnPlace 78 = .ok (.iadd, 1) := by decide +kernel
theorem dX8_isOnPlace_79 : decode cX8_isOnPlace 79 = .ok (.iaload, 1) := by decide +kernel
theorem dX8_isOnPlace_80 : decode cX8_isOnPlace 80 = .ok (.invokestatic 161, 3) := by decide +kernel
theorem dX8_isOnPlace_83 : decode cX8_isOnPlace 83 = .ok (.ifCond .eq 7, 3) := by decide +kernel
theorem dX8_isOnPlace_86 : decode cX8_isOnPlace 86 = .ok (.iconst 1, 1) := by decide +kernel
theorem dX8_isOnPlace_87 : decode cX8_isOnPlace 87 = .ok (.goto 4, 3) := by decide +kernel
theorem dX8_isOnPlace_90 : decode cX8_isOnPlace 90 = .ok (.iconst 0, 1) := by decide +kernel
theorem dX8_isOnPlace_91 : decode cX8_isOnPlace 91 = .ok (.ireturn, 1) := by decide +kernel
theorem wX8_isOnPlace_91 (C : CxM p rmX8_isOnPlace s m args meth c D ac q RX8 cX8_isOnPlace 5) (hr : meth.sig.returnType = (some .boolean)) {t0 : Int} {σ : Mm} {r : Int} (hl : lv_has ls 5 [(0, .ref (q 0))]) (h : fX8_isOnPlace_91 t0 σ = some r) : VM p l e rmX8_isOnPlace s m args below meth c D ac q (QIM D ac q below args s (r, σ)) σ (F0 m 91 ls [.int (i32 t0)]) := by
  have h : chb t0 (some t0) = some r := h
  have hz1 := (chb_e h).1
  have h := (chb_e h).2
  exact v_zret C hr hz1 (so1 h) dX8_isOnPlace_91
theorem wX8_isOnPlace_90 (C : CxM p rmX8_isOnPlace s m args meth c D ac q RX8 cX8_isOnPlace 5) (hr : meth.sig.returnType = (some .boolean)) {σ : Mm} {r : Int} (hl : lv_has ls 5 [(0, .ref (q 0))]) (h : fX8_isOnPlace_90 σ = some r) : VM p l e rmX8_isOnPlace s m args below meth c D ac q (QIM D ac q below args s (r, σ)) σ (F0 m 90 ls []) := by
  have h : fX8_isOnPlace_91 0 σ = some r := h
  refine v_iconst C dX8_isOnPlace_90 ?_
  exact wX8_isOnPlace_91 C hr (lv_sub hl [0] rfl) h
theorem mX8_isOnPlace (hq : QI 19 q) {v1 : Int} {v2 : Int} {v3 : Int} {v4 : Int} {σ : Mm} {r : Int} (h : fX8_isOnPlace v1 v2 v3 v4 σ = some r) : MIM l D ac q yX8_isOnPlace cX8_isOnPlace 5 (some .boolean) rmX8_isOnPlace [.ref (q 0), .int (i32 v1), .int (i32 v2), .int (i32 v3), .int (i32 v4)] σ (r, σ) := by
  refine MI.of hq XT_M (by decide) (Nat.le_of_ble_eq_true rfl) (fun p e s m below meth c ls C hr hl => ?_)
  have hl : lv_has ls 5 [(0, .ref (q 0)), (1, .int (i32 v1)), (2, .int (i32 v2)), (3, .int (i32 v3)), (4, .int (i32 v4))] := hl
  have h : chk v3 700 (chk (24 + v3) 700 (chk v4 700 (chk (24 + v4) 700 (bd (fX8_cross (σ 1 (v3).toNat) (σ 1 (24 + v3).toNat) (σ 1 (v4).toNat) (σ 1 (24 + v4).toNat) v1 v2 σ) (fun x_1 => cr x_1 ((if x_1 = 0 then chk v3 700 (chk v4 700 (bd (fX8_isBetween v1 (σ 1 (v3).toNat) (σ 1 (v4).toNat) σ) (fun x_3 => cr x_3 ((if x_3 = 0 then fX8_isOnPlace_90 σ else chk (24 + v3) 700 (chk (24 + v4) 700 (bd (fX8_isBetween v2 (σ 1 (24 + v3).toNat) (σ 1 (24 + v4).toNat) σ) (fun x_5 => cr x_5 ((if x_5 = 0 then fX8_isOnPlace_90 σ else fX8_isOnPlace_91 1 σ)))))))))) else fX8_isOnPlace_90 σ))))))) = some r := h
  refine v_aload_n C hl dX8_isOnPlace_0 rfl 0 rfl ?_
  refine g_X8_0 C kdM_0 fl_X8_7 dX8_isOnPlace_1 ?_
  refine v_iload_n C hl dX8_isOnPlace_4 rfl 3 rfl ?_
  refine alM2 C kdM_1 h dX8_isOnPlace_5 (fun h => ?_)
  refine v_aload_n C hl dX8_isOnPlace_6 rfl 0 rfl ?_
  refine g_X8_0 C kdM_0 fl_X8_7 dX8_isOnPlace_7 ?_
  refine v_bipush C dX8_isOnPlace_10 rfl ?_
  refine v_iload_n C hl dX8_isOnPlace_12 rfl 3 rfl ?_
  refine v_iadd C dX8_isOnPlace_13 ?_
  refine alM2 C kdM_1 h dX8_isOnPlace_14 (fun h => ?_)
  refine v_aload_n C hl dX8_isOnPlace_15 rfl 0 rfl ?_
  refine g_X8_0 C kdM_0 fl_X8_7 dX8_isOnPlace_16 ?_
  refine v_iload C hl dX8_isOnPlace_19 4 rfl ?_
  refine alM2 C kdM_1 h dX8_isOnPlace_21 (fun h => ?_)
  refine v_aload_n C hl dX8_isOnPlace_22 rfl 0 rfl ?_
  refine g_X8_0 C kdM_0 fl_X8_7 dX8_isOnPlace_23 ?_
  refine v_bipush C dX8_isOnPlace_26 rfl ?_
  refine v_iload C hl dX8_isOnPlace_28 4 rfl ?_
  refine v_iadd C dX8_isOnPlace_30 ?_
  refine alM2 C kdM_1 h dX8_isOnPlace_31 (fun h => ?_)
  refine v_iload_n C hl dX8_isOnPlace_32 rfl 1 rfl ?_
  refine v_iload_n C hl dX8_isOnPlace_33 rfl 2 rfl ?_
  obtain ⟨x_1, hv1, h⟩ := bd_e h
  refine v_callSI C [.int (i32 (σ 1 (v3).toNat)), .int (i32 (σ 1 (24 + v3).toNat)), .int (i32 (σ 1 (v4).toNat)), .int (i32 (σ 1 (24 + v4).toNat)), .int (i32 v1), .int (i32 v2)] (mX8_cross C.2.2.2.2.1 hv1) cd_X8_cross ic_X8 sm_X8_cross ml_X8_153 yk_X8_cross ⟨rfl, rfl, by decide, by decide⟩ rfl hl.1 (rest := []) rfl (Nat.le_of_ble_eq_true rfl) dX8_isOnPlace_34 ?_
  have hz2 := (cr_e h).1
  have h := (cr_e h).2
  refine v_if_ne C (tgt := 90) hz2 h dX8_isOnPlace_37 rfl (fun h => ?_) (fun h => ?_)
  · exact wX8_isOnPlace_90 C hr (lv_sub hl [0] rfl) h
  · refine v_iload_n C hl dX8_isOnPlace_40 rfl 1 rfl ?_
    refine v_aload_n C hl dX8_isOnPlace_41 rfl 0 rfl ?_
    refine g_X8_0 C kdM_0 fl_X8_7 dX8_isOnPlace_42 ?_
    refine v_iload_n C hl dX8_isOnPlace_45 rfl 3 rfl ?_
    refine alM2 C kdM_1 h dX8_isOnPlace_46 (fun h => ?_)
    refine v_aload_n C hl dX8_isOnPlace_47 rfl 0 rfl ?_
    refine g_X8_0 C kdM_0 fl_X8_7 dX8_isOnPlace_48 ?_
    refine v_iload C hl dX8_isOnPlace_51 4 rfl ?_
    refine alM2 C kdM_1 h dX8_isOnPlace_53 (fun h => ?_)
    obtain ⟨x_3, hv3, h⟩ := bd_e h
    refine v_callSI C [.int (i32 v1), .int (i32 (σ 1 (v3).toNat)), .int (i32 (σ 1 (v4).toNat))] (mX8_isBetween C.2.2.2.2.1 hv3) cd_X8_isBetween ic_X8 sm_X8_isBetween ml_X8_161 yk_X8_isBetween ⟨rfl, rfl, by decide, by decide⟩ rfl hl.1 (rest := []) rfl (Nat.le_of_ble_eq_true rfl) dX8_isOnPlace_54 ?_
    have hz4 := (cr_e h).1
    have h := (cr_e h).2
    refine v_if_eq C (tgt := 90) hz4 h dX8_isOnPlace_57 rfl (fun h => ?_) (fun h => ?_)
    · exact wX8_isOnPlace_90 C hr (lv_sub hl [0] rfl) h
    · refine v_iload_n C hl dX8_isOnPlace_60 rfl 2 rfl ?_
      refine v_aload_n C hl dX8_isOnPlace_61 rfl 0 rfl ?_
      refine g_X8_0 C kdM_0 fl_X8_7 dX8_isOnPlace_62 ?_
      refine v_bipush C dX8_isOnPlace_65 rfl ?_
      refine v_iload_n C hl dX8_isOnPlace_67 rfl 3 rfl ?_
      refine v_iadd C dX8_isOnPlace_68 ?_
      refine alM2 C kdM_1 h dX8_isOnPlace_69 (fun h => ?_)
      refine v_aload_n C hl dX8_isOnPlace_70 rfl 0 rfl ?_
      refine g_X8_0 C kdM_0 fl_X8_7 dX8_isOnPlace_71 ?_
      refine v_bipush C dX8_isOnPlace_74 rfl ?_
      refine v_iload C hl dX8_isOnPlace_76 4 rfl ?_
      refine v_iadd C dX8_isOnPlace_78 ?_
      refine alM2 C kdM_1 h dX8_isOnPlace_79 (fun h => ?_)
      obtain ⟨x_5, hv5, h⟩ := bd_e h
      refine v_callSI C [.int (i32 v2), .int (i32 (σ 1 (24 + v3).toNat)), .int (i32 (σ 1 (24 + v4).toNat))] (mX8_isBetween C.2.2.2.2.1 hv5) cd_X8_isBetween ic_X8 sm_X8_isBetween ml_X8_161 yk_X8_isBetween ⟨rfl, rfl, by decide, by decide⟩ rfl hl.1 (rest := []) rfl (Nat.le_of_ble_eq_true rfl) dX8_isOnPlace_80 ?_
      have hz6 := (cr_e h).1
      have h := (cr_e h).2
      refine v_if_eq C (tgt := 90) hz6 h dX8_isOnPlace_83 rfl (fun h => ?_) (fun h => ?_)
      · exact wX8_isOnPlace_90 C hr (lv_sub hl [0] rfl) h
      · refine v_iconst C dX8_isOnPlace_86 ?_
        refine v_goto C (tgt := 91) dX8_isOnPlace_87 rfl ?_
        exact wX8_isOnPlace_91 C hr (lv_sub hl [0] rfl) h
end
section
variable {l : Launch} {D : va_G} {ac : Nat → ClassId} {q : Nat → Nat} {p : Program} {e : Env} {s : State} {m : MethodId} {args : Array Value} {below : List Frame} {meth : Method} {c : Code} {ls : Array Slot}
theorem dX8_isSharing_0 : decode cX8_isSharing 0 = .ok (.aload_n 0, 1) := by decide +kernel
theorem dX8_isSharing_1 : decode cX8_isSharing 1 = .ok (.iload_n 1, 1) := by decide +kernel
theorem dX8_isSharing_2 : decode cX8_isSharing 2 = .ok (.iload_n 3, 1) := by decide +kernel
theorem dX8_isSharing_3 : decode cX8_isSharing 3 = .ok (.invokevirtual 197, 3) := by decide +kernel
theorem dX8_isSharing_6 : decode cX8_isSharing 6 = .ok (.istore 4, 2) := by decide +kernel
theorem dX8_isSharing_8 : decode cX8_isSharing 8 = .ok (.aload_n 0, 1) := by decide +kernel
theorem dX8_isSharing_9 : decode cX8_isSharing 9 = .ok (.getfield 50, 3) := by decide +kernel
theorem dX8_isSharing_12 : decode cX8_isSharing 12 = .ok (.astore 5, 2) := by decide +kernel
theorem dX8_isSharing_14 : decode cX8_isSharing 14 = .ok (.iconst 0, 1) := by decide +kernel
theorem dX8_isSharing_15 : decode cX8_isSharing 15 = .ok (.istore 6, 2) := by decide +kernel
theorem dX8_isSharing_17 : decode cX8_isSharing 17 = .ok (.iload 6, 2) := by decide +kernel
theorem dX8_isSharing_19 : decode cX8_isSharing 19 = .ok (.iload 4, 2) := by decide +kernel
theorem dX8_isSharing_21 : decode cX8_isSharing 21 = .ok (.if_icmp .ge 21, 3) := by decide +kernel
theorem dX8_isSharing_24 : decode cX8_isSharing 24 = .ok (.aload 5, 2) := by decide +kernel
theorem dX8_isSharing_26 : decode cX8_isSharing 26 = .ok (.iload 6, 2) := by decide +kernel
theorem dX8_isSharing_28 : decode cX8_isSharing 28 = .ok (.aload_n 0, 1) := by decide +kernel
theorem dX8_isSharing_29 : decode cX8_isSharing 29 = .ok (.getfield 34, 3) := by decide +kernel
theorem dX8_isSharing_32 : decode cX8_isSharing 32 = .ok (.iload 6, 2) := by decide +kernel
theorem dX8_isSharing_34 : decode cX8_isSharing 34 = .ok (.iaload, 1) := by decide +kernel
theorem dX8_isSharing_35 : decode cX8_isSharing 35 = .ok (.iastore, 1) := by decide +kernel
theorem dX8_isSharing_36 : decode cX8_isSharing 36 = .ok (.iinc 6 1, 3) := by decide +kernel
theorem dX8_isSharing_39 : decode cX8_isSharing 39 = .ok (.goto (-22), 3) := by decide +kernel
theorem dX8_isSharing_42 : decode cX8_isSharing 42 = .ok (.aload_n 0, 1) := by decide +kernel
theorem dX8_isSharing_43 : decode cX8_isSharing 43 = .ok (.iload_n 2, 1) := by decide +kernel
theorem dX8_isSharing_44 : decode cX8_isSharing 44 = .ok (.iload_n 3, 1) := by decide +kernel
theorem dX8_isSharing_45 : decode cX8_isSharing 45 = .ok (.invokevirtual 197, 3) := by decide +kernel
theorem dX8_isSharing_48 : decode cX8_isSharing 48 = .ok (.istore 6, 2) := by decide +kernel
theorem dX8_isSharing_50 : decode cX8_isSharing 50 = .ok (.iconst 0, 1) := by decide +kernel
theorem dX8_isSharing_51 : decode cX8_isSharing 51 = .ok (.istore 7, 2) := by decide +kernel
theorem dX8_isSharing_53 : decode cX8_isSharing 53 = .ok (.iconst 0, 1) := by decide +kernel
theorem dX8_isSharing_54 : decode cX8_isSharing 54 = .ok (.istore 8, 2) := by decide +kernel
theorem dX8_isSharing_56 : decode cX8_isSharing 56 = .ok (.iload 8, 2) := by decide +kernel
theorem dX8_isSharing_58 : decode cX8_isSharing 58 = .ok (.iload 4, 2) := by decide +kernel
theorem dX8_isSharing_60 : decode cX8_isSharing 60 = .ok (.if_icmp .ge 107, 3) := by decide +kernel
theorem dX8_isSharing_63 : decode cX8_isSharing 63 = .ok (.iconst 0, 1) := by decide +kernel
theorem dX8_isSharing_64 : decode cX8_isSharing 64 = .ok (.istore 9, 2) := by decide +kernel
theorem dX8_isSharing_66 : decode cX8_isSharing 66 = .ok (.iload 9, 2) := by decide +kernel
theorem dX8_isSharing_68 : decode cX8_isSharing 68 = .ok (.iload 6, 2) := by decide +kernel
theorem dX8_isSharing_70 : decode cX8_isSharing 70 = .ok (.if_icmp .ge 91, 3) := by decide +kernel
theorem dX8_isSharing_73 : decode cX8_isSharing 73 = .ok (.aload 5, 2) := by decide +kernel
theorem dX8_isSharing_75 : decode cX8_isSharing 75 = .ok (.iload 8, 2) := by decide +kernel
theorem dX8_isSharing_77 : decode cX8_isSharing 77 = .ok (.iaload, 1) := by decide +kernel
theorem dX8_isSharing_78 : decode cX8_isSharing 78 = .ok (.istore 10, 2) := by decide +kernel
theorem dX8_isSharing_80 : decode cX8_isSharing 80 = .ok (.aload 5, 2) := by decide +kernel
theorem dX8_isSharing_82 : decode cX8_isSharing 82 = .ok (.iload 8, 2) := by decide +kernel
theorem dX8_isSharing_84 : decode cX8_isSharing 84 = .ok (.iconst 1, 1) := by decide +kernel
theorem dX8_isSharing_85 : decode cX8_isSharing 85 = .ok (.iadd, 1) := by decide +kernel
theorem dX8_isSharing_86 : decode cX8_isSharing 86 = .ok (.iload 4, 2) := by decide +kernel
theorem dX8_isSharing_88 : decode cX8_isSharing 88 = .ok (.irem, 1) := by decide +kernel
theorem dX8_isSharing_89 : decode cX8_isSharing 89 = .ok (.iaload, 1) := by decide +kernel
theorem dX8_isSharing_90 : decode cX8_isSharing 90 = .ok (.istore 11, 2) := by decide +kernel
theorem dX8_isSharing_92 : decode cX8_isSharing 92 = .ok (.aload_n 0, 1) := by decide +kernel
theorem dX8_isSharing_93 : decode cX8_isSharing 93 = .ok (.getfield 34, 3) := by decide +kernel
theorem dX8_isSharing_96 : decode cX8_isSharing 96 = .ok (.iload 9, 2) := by decide +kernel
theorem dX8_isSharing_98 : decode cX8_isSharing 98 = .ok (.iaload, 1) := by decide +kernel
theorem dX8_isSharing_99 : decode cX8_isSharing 99 = .ok (.istore 12, 2) := by decide +kernel
theorem dX8_isSharing_101 : decode cX8_isSharing 101 = .ok (.aload_n 0, 1) := by decide +kernel
theorem dX8_isSharing_102 : decode cX8_isSharing 102 = .ok (.getfield 34, 3) := by decide +kernel
theorem dX8_isSharing_105 : decode cX8_isSharing 105 = .ok (.iload 9, 2) := by decide +kernel
theorem dX8_isSharing_107 : decode cX8_isSharing 107 = .ok (.iconst 1, 1) := by decide +kernel
theorem dX8_isSharing_108 : decode cX8_isSharing 108 = .ok (.iadd, 1) := by decide +kernel
theorem dX8_isSharing_109 : decode cX8_isSharing 109 = .ok (.iload 6, 2) := by decide +kernel
theorem dX8_isSharing_111 : decode cX8_isSharing 111 = .ok (.irem, 1) := by decide +kernel
theorem dX8_isSharing_112 : decode cX8_isSharing 112 = .ok (.iaload, 1) := by decide +kernel
theorem dX8_isSharing_113 : decode cX8_isSharing 113 = .ok (.istore 13, 2) := by decide +kernel
theorem dX8_isSharing_115 : decode cX8_isSharing 115 = .ok (.iload 7, 2) := by decide +kernel
theorem dX8_isSharing_117 : decode cX8_isSharing 117 = .ok (.ifCond .ne 31, 3) := by decide +kernel
theorem dX8_isSharing_120 : decode cX8_isSharing 120 = .ok (.iload 10, 2) := by decide +kernel
theorem dX8_isSharing_122 : decode cX8_isSharing 122 = .ok (.iload 12, 2) := by decide +kernel
theorem dX8_isSharing_124 : decode cX8_isSharing 124 = .ok (.if_icmp .ne 10, 3) := by decide +kernel
theorem dX8_isSharing_127 : decode cX8_isSharing 127 = .ok (.iload 11, 2) := by decide +kernel
theorem dX8_isSharing_129 : decode cX8_isSharing 129 = .ok (.iload 13, 2) := by decide +kernel
theorem dX8_isSharing_131 : decode cX8_isSharing 131 = .ok (.if_icmp .eq 17, 3) := by decide +kernel
theorem dX8_isSharing_134 : decode cX8_isSharing 134 = .ok (.iload 10, 2) := by decide +kernel
theorem dX8_isSharing_136 : decode cX8_isSharing 136 = .ok (.iload 13, 2) := by decide +kernel
theorem dX8_isSharing_138 : decode cX8_isSharing 138 = .ok (.if_icmp .ne 14, 3) := by decide +kernel
theorem dX8_isSharing_141 : decode cX8_isSharing 141 = .ok (.iload 11, 2) := by decide +kernel
theorem dX8_isSharing_143 : decode cX8_isSharing 143 = .ok (.iload 12, 2) := by decide +kernel
theorem dX8_isSharing_145 : decode cX8_isSharing 145 = .ok (.if_icmp .ne 7, 3) := by decide +kernel
theorem dX8_isSharing_148 : decode cX8_isSharing 148 = .ok (.iconst 1, 1) := by decide +kernel
theorem dX8_isSharing_149 : decode cX8_isSharing 149 = .ok (.goto 4, 3) := by decide +kernel
theorem dX8_isSharing_152 : decode cX8_isSharing 152 = .ok (.iconst 0, 1) := by decide +kernel
theorem dX8_isSharing_153 : decode cX8_isSharing 153 = .ok (.istore 7, 2) := by decide +kernel
theorem dX8_isSharing_155 : decode cX8_isSharing 155 = .ok (.iinc 9 1, 3) := by decide +kernel
theorem dX8_isSharing_158 : decode cX8_isSharing 158 = .ok (.goto (-92), 3) := by decide +kernel
theorem dX8_isSharing_161 : decode cX8_isSharing 161 = .ok (.iinc 8 1, 3) := by decide +kernel
theorem dX8_isSharing_164 : decode cX8_isSharing 164 = .ok (.goto (-108), 3) := by decide +kernel
theorem dX8_isSharing_167 : decode cX8_isSharing 167 = .ok (.iload 7, 2) := by decide +kernel
theorem dX8_isSharing_169 : decode cX8_isSharing 169 = .ok (.ireturn, 1) := by decide +kernel
theorem wX8_isSharing_167 (C : CxM p rmX8_isSharing s m args meth c D ac q RX8 cX8_isSharing 14) (hr : meth.sig.returnType = (some .boolean)) {v7 : Int} {σ : Mm} {r : Int × Mm} (hl : lv_has ls 14 [(0, .ref (q 0)), (7, .int (i32 v7))]) (h : fX8_isSharing_167 v7 σ = some r) : VM p l e rmX8_isSharing s m args below meth c D ac q (QIM D ac q below args s r) σ (F0 m 167 ls []) := by
  have h : chb v7 (some (v7, σ)) = some r := h
  refine v_iload C hl dX8_isSharing_167 1 rfl ?_
  have hz1 := (chb_e h).1
  have h := (chb_e h).2
  exact v_zret C hr hz1 h dX8_isSharing_169
theorem wX8_isSharing_161 (C : CxM p rmX8_isSharing s m args meth c D ac q RX8 cX8_isSharing 14) (hr : meth.sig.returnType = (some .boolean)) {v4 : Int} {v6 : Int} {v7 : Int} {v8 : Int} {c56 : Int → Int → Option (Int × Mm)} {σ : Mm} {r : Int × Mm} (hc56 : ∀ (v7x : Int) (v8x : Int) (ls : Array Slot), lv_has ls 14 [(0, .ref (q 0)), (4, .int (i32 v4)), (5, .ref (q 14)), (6, .int (i32 v6)), (7, .int (i32 v7x)), (8, .int (i32 v8x))] → c56 v7x v8x = some r → VM p l e rmX8_isSharing s m args below meth c D ac q (QIM D ac q below args s r) σ (F0 m 56 ls [])) (hl : lv_has ls 14 [(0, .ref (q 0)), (4, .int (i32 v4)), (5, .ref (q 14)), (6, .int (i32 v6)), (7, .int (i32 v7)), (8, .int (i32 v8))]) (h : fX8_isSharing_161 c56 v4 v6 v7 v8 σ = some r) : VM p l e rmX8_isSharing s m args below meth c D ac q (QIM D ac q below args s r) σ (F0 m 161 ls []) := by
  have h : bindv (v8 + 1) (fun v8_1 => c56 v7 v8_1) = some r := h
  refine v_iinc C hl (fun x => [(8, .int (i32 x)), (0, .ref (q 0)), (4, .int (i32 v4)), (5, .ref (q 14)), (6, .int (i32 v6)), (7, .int (i32 v7))]) dX8_isSharing_161 5 rfl (by decide) (fun _ => rfl) h (fun v8_1 ls hl h => ?_)
  refine v_goto C (tgt := 56) dX8_isSharing_164 rfl ?_
  exact hc56 _ _ _ (lv_sub hl [1, 2, 3, 4, 5, 0] rfl) h
theorem wX8_isSharing_153 (C : CxM p rmX8_isSharing s m args meth c D ac q RX8 cX8_isSharing 14) (hr : meth.sig.returnType = (some .boolean)) {v4 : Int} {v6 : Int} {v8 : Int} {v9 : Int} {t0 : Int} {c66 : Int → Int → Option (Int × Mm)} {σ : Mm} {r : Int × Mm} (hc66 : ∀ (v7x : Int) (v9x : Int) (ls : Array Slot), lv_has ls 14 [(0, .ref (q 0)), (4, .int (i32 v4)), (5, .ref (q 14)), (6, .int (i32 v6)), (7, .int (i32 v7x)), (8, .int (i32 v8)), (9, .int (i32 v9x))] → c66 v7x v9x = some r → VM p l e rmX8_isSharing s m args below meth c D ac q (QIM D ac q below args s r) σ (F0 m 66 ls [])) (hl : lv_has ls 14 [(0, .ref (q 0)), (4, .int (i32 v4)), (5, .ref (q 14)), (6, .int (i32 v6)), (8, .int (i32 v8)), (9, .int (i32 v9))]) (h : fX8_isSharing_153 c66 v4 v6 v8 v9 t0 σ = some r) : VM p l e rmX8_isSharing s m args below meth c D ac q (QIM D ac q below args s r) σ (F0 m 153 ls [.int (i32 t0)]) := by
  have h : bindv t0 (fun v7_1 => bindv (v9 + 1) (fun v9_2 => c66 v7_1 v9_2)) = some r := h
  refine v_istore C hl (fun x => [(7, .int (i32 x)), (0, .ref (q 0)), (4, .int (i32 v4)), (5, .ref (q 14)), (6, .int (i32 v6)), (8, .int (i32 v8)), (9, .int (i32 v9))]) dX8_isSharing_153 (by decide) (fun _ => rfl) h (fun v7_1 ls hl h => ?_)
  refine v_iinc C hl (fun x => [(9, .int (i32 x)), (7, .int (i32 v7_1)), (0, .ref (q 0)), (4, .int (i32 v4)), (5, .ref (q 14)), (6, .int (i32 v6)), (8, .int (i32 v8))]) dX8_isSharing_155 6 rfl (by decide) (fun _ => rfl) h (fun v9_2 ls hl h => ?_)
  refine v_goto C (tgt := 66) dX8_isSharing_158 rfl ?_
  exact hc66 _ _ _ (lv_sub hl [2, 3, 4, 5, 1, 6, 0] rfl) h
theorem wX8_isSharing_152 (C : CxM p rmX8_isSharing s m args meth c D ac q RX8 cX8_isSharing 14) (hr : meth.sig.returnType = (some .boolean)) {v4 : Int} {v6 : Int} {v8 : Int} {v9 : Int} {c66 : Int → Int → Option (Int × Mm)} {σ : Mm} {r : Int × Mm} (hc66 : ∀ (v7x : Int) (v9x : Int) (ls : Array Slot), lv_has ls 14 [(0, .ref (q 0)), (4, .int (i32 v4)), (5, .ref (q 14)), (6, .int (i32 v6)), (7, .int (i32 v7x)), (8, .int (i32 v8)), (9, .int (i32 v9x))] → c66 v7x v9x = some r → VM p l e rmX8_isSharing s m args below meth c D ac q (QIM D ac q below args s r) σ (F0 m 66 ls [])) (hl : lv_has ls 14 [(0, .ref (q 0)), (4, .int (i32 v4)), (5, .ref (q 14)), (6, .int (i32 v6)), (8, .int (i32 v8)), (9, .int (i32 v9))]) (h : fX8_isSharing_152 c66 v4 v6 v8 v9 σ = some r) : VM p l e rmX8_isSharing s m args below meth c D ac q (QIM D ac q below args s r) σ (F0 m 152 ls []) := by
  have h : fX8_isSharing_153 c66 v4 v6 v8 v9 0 σ = some r := h
  refine v_iconst C dX8_isSharing_152 ?_
  exact wX8_isSharing_153 C hr hc66 (lv_sub hl [0, 1, 2, 3, 4, 5] rfl) h
theorem wX8_isSharing_148 (C : CxM p rmX8_isSharing s m args meth c D ac q RX8 cX8_isSharing 14) (hr : meth.sig.returnType = (some .boolean)) {v4 : Int} {v6 : Int} {v8 : Int} {v9 : Int} {c66 : Int → Int → Option (Int × Mm)} {σ : Mm} {r : Int × Mm} (hc66 : ∀ (v7x : Int) (v9x : Int) (ls : Array Slot), lv_has ls 14 [(0, .ref (q 0)), (4, .int (i32 v4)), (5, .ref (q 14)), (6, .int (i32 v6)), (7, .int (i32 v7x)), (8, .int (i32 v8)), (9, .int (i32 v9x))] → c66 v7x v9x = some r → VM p l e rmX8_isSharing s m args below meth c D ac q (QIM D ac q below args s r) σ (F0 m 66 ls [])) (hl : lv_has ls 14 [(0, .ref (q 0)), (4, .int (i32 v4)), (5, .ref (q 14)), (6, .int (i32 v6)), (8, .int (i32 v8)), (9, .int (i32 v9))]) (h : fX8_isSharing_148 c66 v4 v6 v8 v9 σ = some r) : VM p l e rmX8_isSharing s m args below meth c D ac q (QIM D ac q below args s r) σ (F0 m 148 ls []) := by
  have h : fX8_isSharing_153 c66 v4 v6 v8 v9 1 σ = some r := h
  refine v_iconst C dX8_isSharing_148 ?_
  refine v_goto C (tgt := 153) dX8_isSharing_149 rfl ?_
  exact wX8_isSharing_153 C hr hc66 (lv_sub hl [0, 1, 2, 3, 4, 5] rfl) h
theorem wX8_isSharing_134 (C : CxM p rmX8_isSharing s m args meth c D ac q RX8 cX8_isSharing 14) (hr : meth.sig.returnType = (some .boolean)) {v4 : Int} {v6 : Int} {v8 : Int} {v9 : Int} {v10 : Int} {v11 : Int} {v12 : Int} {v13 : Int} {c66 : Int → Int → Option (Int × Mm)} {σ : Mm} {r : Int × Mm} (hc66 : ∀ (v7x : Int) (v9x : Int) (ls : Array Slot), lv_has ls 14 [(0, .ref (q 0)), (4, .int (i32 v4)), (5, .ref (q 14)), (6, .int (i32 v6)), (7, .int (i32 v7x)), (8, .int (i32 v8)), (9, .int (i32 v9x))] → c66 v7x v9x = some r → VM p l e rmX8_isSharing s m args below meth c D ac q (QIM D ac q below args s r) σ (F0 m 66 ls [])) (hl : lv_has ls 14 [(0, .ref (q 0)), (4, .int (i32 v4)), (5, .ref (q 14)), (6, .int (i32 v6)), (8, .int (i32 v8)), (9, .int (i32 v9)), (10, .int (i32 v10)), (11, .int (i32 v11)), (12, .int (i32 v12)), (13, .int (i32 v13))]) (h : fX8_isSharing_134 c66 v4 v6 v8 v9 v10 v11 v12 v13 σ = some r) : VM p l e rmX8_isSharing s m args below meth c D ac q (QIM D ac q below args s r) σ (F0 m 134 ls []) := by
  have h : cr v10 (cr v13 ((if v10 = v13 then cr v11 (cr v12 ((if v11 = v12 then fX8_isSharing_148 c66 v4 v6 v8 v9 σ else fX8_isSharing_152 c66 v4 v6 v8 v9 σ))) else fX8_isSharing_152 c66 v4 v6 v8 v9 σ))) = some r := h
  refine v_iload C hl dX8_isSharing_134 6 rfl ?_
  refine v_iload C hl dX8_isSharing_136 9 rfl ?_
  have hz1 := (cr_e h).1
  have h := (cr_e h).2
  have hz2 := (cr_e h).1
  have h := (cr_e h).2
  refine v_icmp_ne C (tgt := 152) hz1 hz2 h dX8_isSharing_138 rfl (fun h => ?_) (fun h => ?_)
  · exact wX8_isSharing_152 C hr hc66 (lv_sub hl [0, 1, 2, 3, 4, 5] rfl) h
  · refine v_iload C hl dX8_isSharing_141 7 rfl ?_
    refine v_iload C hl dX8_isSharing_143 8 rfl ?_
    have hz3 := (cr_e h).1
    have h := (cr_e h).2
    have hz4 := (cr_e h).1
    have h := (cr_e h).2
    refine v_icmp_ne C (tgt := 152) hz3 hz4 h dX8_isSharing_145 rfl (fun h => ?_) (fun h => ?_)
    · exact wX8_isSharing_152 C hr hc66 (lv_sub hl [0, 1, 2, 3, 4, 5] rfl) h
    · exact wX8_isSharing_148 C hr hc66 (lv_sub hl [0, 1, 2, 3, 4, 5] rfl) h
theorem wX8_isSharing_66 (C : CxM p rmX8_isSharing s m args meth c D ac q RX8 cX8_isSharing 14) (hr : meth.sig.returnType = (some .boolean)) {v4 : Int} {v6 : Int} {v8 : Int} {σ : Mm} {v7 : Int} {v9 : Int} {e66 : Int → Option (Int × Mm)} {c66 : Int → Int → Option (Int × Mm)} {r : Int × Mm} (he66 : ∀ (v7x : Int) (ls : Array Slot), lv_has ls 14 [(0, .ref (q 0)), (4, .int (i32 v4)), (5, .ref (q 14)), (6, .int (i32 v6)), (7, .int (i32 v7x)), (8, .int (i32 v8))] → e66 v7x = some r → VM p l e rmX8_isSharing s m args below meth c D ac q (QIM D ac q below args s r) σ (F0 m 161 ls [])) (hc66 : ∀ (v7x : Int) (v9x : Int) (ls : Array Slot), lv_has ls 14 [(0, .ref (q 0)), (4, .int (i32 v4)), (5, .ref (q 14)), (6, .int (i32 v6)), (7, .int (i32 v7x)), (8, .int (i32 v8)), (9, .int (i32 v9x))] → c66 v7x v9x = some r → VM p l e rmX8_isSharing s m args below meth c D ac q (QIM D ac q below args s r) σ (F0 m 66 ls [])) (hl : lv_has ls 14 [(0, .ref (q 0)), (4, .int (i32 v4)), (5, .ref (q 14)), (6, .int (i32 v6)), (7, .int (i32 v7)), (8, .int (i32 v8)), (9, .int (i32 v9))]) (h : fX8_isSharing_66 v4 v6 v8 σ e66 c66 v7 v9 = some r) : VM p l e rmX8_isSharing s m args below meth c D ac q (QIM D ac q below args s r) σ (F0 m 66 ls []) := by
  have h : cr v9 (cr v6 ((if v9 < v6 then chk v8 10 (bindv (σ 14 (v8).toNat) (fun v10_3 => chd (v8 + 1) v4 (chk ((v8 + 1) % v4) 10 (bindv (σ 14 ((v8 + 1) % v4).toNat) (fun v11_4 => chk v9 10 (bindv (σ 9 (v9).toNat) (fun v12_5 => chd (v9 + 1) v6 (chk ((v9 + 1) % v6) 10 (bindv (σ 9 ((v9 + 1) % v6).toNat) (fun v13_6 => cr v7 ((if v7 = 0 then cr v10_3 (cr v12_5 ((if v10_3 = v12_5 then cr v11_4 (cr v13_6 ((if v11_4 = v13_6 then fX8_isSharing_148 c66 v4 v6 v8 v9 σ else fX8_isSharing_134 c66 v4 v6 v8 v9 v10_3 v11_4 v12_5 v13_6 σ))) else fX8_isSharing_134 c66 v4 v6 v8 v9 v10_3 v11_4 v12_5 v13_6 σ))) else fX8_isSharing_148 c66 v4 v6 v8 v9 σ)))))))))))) else e66 v7))) = some r := h
  refine v_iload C hl dX8_isSharing_66 6 rfl ?_
  refine v_iload C hl dX8_isSharing_68 3 rfl ?_
  have hz1 := (cr_e h).1
  have h := (cr_e h).2
  have hz2 := (cr_e h).1
  have h := (cr_e h).2
  refine v_icmp_ge C (tgt := 161) hz1 hz2 h dX8_isSharing_70 rfl (fun h => ?_) (fun h => ?_)
  · exact he66 _ _ (lv_sub hl [0, 1, 2, 3, 4, 5] rfl) h
  · refine v_aload C hl dX8_isSharing_73 2 rfl ?_
    refine v_iload C hl dX8_isSharing_75 5 rfl ?_
    refine alM8 C kdM_14 h dX8_isSharing_77 (fun h => ?_)
    refine v_istore C hl (fun x => [(10, .int (i32 x)), (0, .ref (q 0)), (4, .int (i32 v4)), (5, .ref (q 14)), (6, .int (i32 v6)), (7, .int (i32 v7)), (8, .int (i32 v8)), (9, .int (i32 v9))]) dX8_isSharing_78 (by decide) (fun _ => rfl) h (fun v10_3 ls hl h => ?_)
    refine v_aload C hl dX8_isSharing_80 3 rfl ?_
    refine v_iload C hl dX8_isSharing_82 6 rfl ?_
    refine v_iconst C dX8_isSharing_84 ?_
    refine v_iadd C dX8_isSharing_85 ?_
    refine v_iload C hl dX8_isSharing_86 2 rfl ?_
    refine v_irem C h dX8_isSharing_88 (fun h => ?_)
    refine alM8 C kdM_14 h dX8_isSharing_89 (fun h => ?_)
    refine v_istore C hl (fun x => [(11, .int (i32 x)), (10, .int (i32 v10_3)), (0, .ref (q 0)), (4, .int (i32 v4)), (5, .ref (q 14)), (6, .int (i32 v6)), (7, .int (i32 v7)), (8, .int (i32 v8)), (9, .int (i32 v9))]) dX8_isSharing_90 (by decide) (fun _ => rfl) h (fun v11_4 ls hl h => ?_)
    refine v_aload_n C hl dX8_isSharing_92 rfl 2 rfl ?_
    refine g_X8_19 C kdM_0 fl_X8_34 dX8_isSharing_93 ?_
    refine v_iload C hl dX8_isSharing_96 8 rfl ?_
    refine alM8 C kdM_9 h dX8_isSharing_98 (fun h => ?_)
    refine v_istore C hl (fun x => [(12, .int (i32 x)), (11, .int (i32 v11_4)), (10, .int (i32 v10_3)), (0, .ref (q 0)), (4, .int (i32 v4)), (5, .ref (q 14)), (6, .int (i32 v6)), (7, .int (i32 v7)), (8, .int (i32 v8)), (9, .int (i32 v9))]) dX8_isSharing_99 (by decide) (fun _ => rfl) h (fun v12_5 ls hl h => ?_)
    refine v_aload_n C hl dX8_isSharing_101 rfl 3 rfl ?_
    refine g_X8_19 C kdM_0 fl_X8_34 dX8_isSharing_102 ?_
    refine v_iload C hl dX8_isSharing_105 9 rfl ?_
    refine v_iconst C dX8_isSharing_107 ?_
    refine v_iadd C dX8_isSharing_108 ?_
    refine v_iload C hl dX8_isSharing_109 6 rfl ?_
    refine v_irem C h dX8_isSharing_111 (fun h => ?_)
    refine alM8 C kdM_9 h dX8_isSharing_112 (fun h => ?_)
    refine v_istore C hl (fun x => [(13, .int (i32 x)), (12, .int (i32 v12_5)), (11, .int (i32 v11_4)), (10, .int (i32 v10_3)), (0, .ref (q 0)), (4, .int (i32 v4)), (5, .ref (q 14)), (6, .int (i32 v6)), (7, .int (i32 v7)), (8, .int (i32 v8)), (9, .int (i32 v9))]) dX8_isSharing_113 (by decide) (fun _ => rfl) h (fun v13_6 ls hl h => ?_)
    refine v_iload C hl dX8_isSharing_115 8 rfl ?_
    have hz7 := (cr_e h).1
    have h := (cr_e h).2
    refine v_if_ne C (tgt := 148) hz7 h dX8_isSharing_117 rfl (fun h => ?_) (fun h => ?_)
    · exact wX8_isSharing_148 C hr hc66 (lv_sub hl [4, 5, 6, 7, 9, 10] rfl) h
    · refine v_iload C hl dX8_isSharing_120 3 rfl ?_
      refine v_iload C hl dX8_isSharing_122 1 rfl ?_
      have hz8 := (cr_e h).1
      have h := (cr_e h).2
      have hz9 := (cr_e h).1
      have h := (cr_e h).2
      refine v_icmp_ne C (tgt := 134) hz8 hz9 h dX8_isSharing_124 rfl (fun h => ?_) (fun h => ?_)
      · exact wX8_isSharing_134 C hr hc66 (lv_sub hl [4, 5, 6, 7, 9, 10, 3, 2, 1, 0] rfl) h
      · refine v_iload C hl dX8_isSharing_127 2 rfl ?_
        refine v_iload C hl dX8_isSharing_129 0 rfl ?_
        have hz10 := (cr_e h).1
        have h := (cr_e h).2
        have hz11 := (cr_e h).1
        have h := (cr_e h).2
        refine v_icmp_eq C (tgt := 148) hz10 hz11 h dX8_isSharing_131 rfl (fun h => ?_) (fun h => ?_)
        · exact wX8_isSharing_148 C hr hc66 (lv_sub hl [4, 5, 6, 7, 9, 10] rfl) h
        · exact wX8_isSharing_134 C hr hc66 (lv_sub hl [4, 5, 6, 7, 9, 10, 3, 2, 1, 0] rfl) h
theorem wlX8_isSharing_66 (C : CxM p rmX8_isSharing s m args meth c D ac q RX8 cX8_isSharing 14) (hr : meth.sig.returnType = (some .boolean)) {v4 : Int} {v6 : Int} {v8 : Int} {σ : Mm} {e66 : Int → Option (Int × Mm)} {r : Int × Mm} (he66 : ∀ (v7x : Int) (ls : Array Slot), lv_has ls 14 [(0, .ref (q 0)), (4, .int (i32 v4)), (5, .ref (q 14)), (6, .int (i32 v6)), (7, .int (i32 v7x)), (8, .int (i32 v8))] → e66 v7x = some r → VM p l e rmX8_isSharing s m args below meth c D ac q (QIM D ac q below args s r) σ (F0 m 161 ls [])) : ∀ (fu : Nat) (v7 : Int) (v9 : Int) (ls : Array Slot) (hl : lv_has ls 14 [(0, .ref (q 0)), (4, .int (i32 v4)), (5, .ref (q 14)), (6, .int (i32 v6)), (7, .int (i32 v7)), (8, .int (i32 v8)), (9, .int (i32 v9))]) (h : lX8_isSharing_66 v4 v6 v8 σ e66 fu v7 v9 = some r), VM p l e rmX8_isSharing s m args below meth c D ac q (QIM D ac q below args s r) σ (F0 m 66 ls []) := by
  intro fu
  induction fu with
  | zero =>
    intro v7 v9 ls hl h
    have h : none = some r := h
    cases h
  | succ fu ih =>
    intro v7 v9 ls hl h
    exact wX8_isSharing_66 C hr he66 (fun v7 v9 ls hl h => ih v7 v9 ls hl h) hl h
theorem wX8_isSharing_56 (C : CxM p rmX8_isSharing s m args meth c D ac q RX8 cX8_isSharing 14) (hr : meth.sig.returnType = (some .boolean)) {v4 : Int} {v6 : Int} {σ : Mm} {v7 : Int} {v8 : Int} {e56 : Int → Option (Int × Mm)} {c56 : Int → Int → Option (Int × Mm)} {r : Int × Mm} (he56 : ∀ (v7x : Int) (ls : Array Slot), lv_has ls 14 [(0, .ref (q 0)), (7, .int (i32 v7x))] → e56 v7x = some r → VM p l e rmX8_isSharing s m args below meth c D ac q (QIM D ac q below args s r) σ (F0 m 167 ls [])) (hc56 : ∀ (v7x : Int) (v8x : Int) (ls : Array Slot), lv_has ls 14 [(0, .ref (q 0)), (4, .int (i32 v4)), (5, .ref (q 14)), (6, .int (i32 v6)), (7, .int (i32 v7x)), (8, .int (i32 v8x))] → c56 v7x v8x = some r → VM p l e rmX8_isSharing s m args below meth c D ac q (QIM D ac q below args s r) σ (F0 m 56 ls [])) (hl : lv_has ls 14 [(0, .ref (q 0)), (4, .int (i32 v4)), (5, .ref (q 14)), (6, .int (i32 v6)), (7, .int (i32 v7)), (8, .int (i32 v8))]) (h : fX8_isSharing_56 v4 v6 σ e56 c56 v7 v8 = some r) : VM p l e rmX8_isSharing s m args below meth c D ac q (QIM D ac q below args s r) σ (F0 m 56 ls []) := by
  have h : cr v8 (cr v4 ((if v8 < v4 then bindv 0 (fun v9_3 => lX8_isSharing_66 v4 v6 v8 σ (fun v7_4 => fX8_isSharing_161 c56 v4 v6 v7_4 v8 σ) 400 v7 v9_3) else e56 v7))) = some r := h
  refine v_iload C hl dX8_isSharing_56 5 rfl ?_
  refine v_iload C hl dX8_isSharing_58 1 rfl ?_
  have hz1 := (cr_e h).1
  have h := (cr_e h).2
  have hz2 := (cr_e h).1
  have h := (cr_e h).2
  refine v_icmp_ge C (tgt := 167) hz1 hz2 h dX8_isSharing_60 rfl (fun h => ?_) (fun h => ?_)
  · exact he56 _ _ (lv_sub hl [0, 4] rfl) h
  · refine v_iconst C dX8_isSharing_63 ?_
    refine v_istore C hl (fun x => [(9, .int (i32 x)), (0, .ref (q 0)), (4, .int (i32 v4)), (5, .ref (q 14)), (6, .int (i32 v6)), (7, .int (i32 v7)), (8, .int (i32 v8))]) dX8_isSharing_64 (by decide) (fun _ => rfl) h (fun v9_3 ls hl h => ?_)
    exact wlX8_isSharing_66 C hr (fun v7_4 ls hl h => wX8_isSharing_161 C hr hc56 (lv_sub hl [0, 1, 2, 3, 4, 5] rfl) h) _ _ _ _ (lv_sub hl [1, 2, 3, 4, 5, 6, 0] rfl) h
theorem wlX8_isSharing_56 (C : CxM p rmX8_isSharing s m args meth c D ac q RX8 cX8_isSharing 14) (hr : meth.sig.returnType = (some .boolean)) {v4 : Int} {v6 : Int} {σ : Mm} {e56 : Int → Option (Int × Mm)} {r : Int × Mm} (he56 : ∀ (v7x : Int) (ls : Array Slot), lv_has ls 14 [(0, .ref (q 0)), (7, .int (i32 v7x))] → e56 v7x = some r → VM p l e rmX8_isSharing s m args below meth c D ac q (QIM D ac q below args s r) σ (F0 m 167 ls [])) : ∀ (fu : Nat) (v7 : Int) (v8 : Int) (ls : Array Slot) (hl : lv_has ls 14 [(0, .ref (q 0)), (4, .int (i32 v4)), (5, .ref (q 14)), (6, .int (i32 v6)), (7, .int (i32 v7)), (8, .int (i32 v8))]) (h : lX8_isSharing_56 v4 v6 σ e56 fu v7 v8 = some r), VM p l e rmX8_isSharing s m args below meth c D ac q (QIM D ac q below args s r) σ (F0 m 56 ls []) := by
  intro fu
  induction fu with
  | zero =>
    intro v7 v8 ls hl h
    have h : none = some r := h
    cases h
  | succ fu ih =>
    intro v7 v8 ls hl h
    exact wX8_isSharing_56 C hr he56 (fun v7 v8 ls hl h => ih v7 v8 ls hl h) hl h
theorem wX8_isSharing_42 (C : CxM p rmX8_isSharing s m args meth c D ac q RX8 cX8_isSharing 14) (hr : meth.sig.returnType = (some .boolean)) {v2 : Int} {v3 : Int} {v4 : Int} {σ : Mm} {r : Int × Mm} (hl : lv_has ls 14 [(0, .ref (q 0)), (2, .int (i32 v2)), (3, .int (i32 v3)), (4, .int (i32 v4)), (5, .ref (q 14))]) (h : fX8_isSharing_42 v2 v3 v4 σ = some r) : VM p l e rmX8_isSharing s m args below meth c D ac q (QIM D ac q below args s r) σ (F0 m 42 ls []) := by
  have h : bd2 (fX8_ringAt v2 v3 σ) (fun x_1 σ_1 => bindv x_1 (fun v6_2 => bindv 0 (fun v7_3 => bindv 0 (fun v8_4 => lX8_isSharing_56 v4 v6_2 σ_1 (fun v7_5 => fX8_isSharing_167 v7_5 σ_1) 400 v7_3 v8_4)))) = some r := h
  refine v_aload_n C hl dX8_isSharing_42 rfl 0 rfl ?_
  refine v_iload_n C hl dX8_isSharing_43 rfl 1 rfl ?_
  refine v_iload_n C hl dX8_isSharing_44 rfl 2 rfl ?_
  obtain ⟨x_1, σ_1, hv1, h⟩ := bd2_e h
  refine v_callVI C 0 (klM kdM_0) rfl (ckM1 kdM_0 _) rfl [.int (i32 v2), .int (i32 v3)] (mX8_ringAt C.2.2.2.2.1 hv1) cd_X8_ringAt ic_X8 im_X8_ringAt se_X8_ringAt ml_X8_197 yk_X8_ringAt ⟨rfl, rfl, by decide, by decide⟩ rfl hl.1 (rest := []) rfl (Nat.le_of_ble_eq_true rfl) dX8_isSharing_45 ?_
  refine v_istore C hl (fun x => [(6, .int (i32 x)), (0, .ref (q 0)), (2, .int (i32 v2)), (3, .int (i32 v3)), (4, .int (i32 v4)), (5, .ref (q 14))]) dX8_isSharing_48 (by decide) (fun _ => rfl) h (fun v6_2 ls hl h => ?_)
  refine v_iconst C dX8_isSharing_50 ?_
  refine v_istore C hl (fun x => [(7, .int (i32 x)), (6, .int (i32 v6_2)), (0, .ref (q 0)), (2, .int (i32 v2)), (3, .int (i32 v3)), (4, .int (i32 v4)), (5, .ref (q 14))]) dX8_isSharing_51 (by decide) (fun _ => rfl) h (fun v7_3 ls hl h => ?_)
  refine v_iconst C dX8_isSharing_53 ?_
  refine v_istore C hl (fun x => [(8, .int (i32 x)), (7, .int (i32 v7_3)), (6, .int (i32 v6_2)), (0, .ref (q 0)), (2, .int (i32 v2)), (3, .int (i32 v3)), (4, .int (i32 v4)), (5, .ref (q 14))]) dX8_isSharing_54 (by decide) (fun _ => rfl) h (fun v8_4 ls hl h => ?_)
  exact wlX8_isSharing_56 C hr (fun v7_5 ls hl h => wX8_isSharing_167 C hr (lv_sub hl [0, 1] rfl) h) _ _ _ _ (lv_sub hl [3, 6, 7, 2, 1, 0] rfl) h
theorem wX8_isSharing_17 (C : CxM p rmX8_isSharing s m args meth c D ac q RX8 cX8_isSharing 14) (hr : meth.sig.returnType = (some .boolean)) {v2 : Int} {v3 : Int} {v4 : Int} {v6 : Int} {σ : Mm} {e17 : Mm → Option (Int × Mm)} {c17 : Int → Mm → Option (Int × Mm)} {r : Int × Mm} (he17 : ∀ (σ : Mm) (ls : Array Slot), lv_has ls 14 [(0, .ref (q 0)), (2, .int (i32 v2)), (3, .int (i32 v3)), (4, .int (i32 v4)), (5, .ref (q 14))] → e17 σ = some r → VM p l e rmX8_isSharing s m args below meth c D ac q (QIM D ac q below args s r) σ (F0 m 42 ls [])) (hc17 : ∀ (v6x : Int) (σ : Mm) (ls : Array Slot), lv_has ls 14 [(0, .ref (q 0)), (2, .int (i32 v2)), (3, .int (i32 v3)), (4, .int (i32 v4)), (5, .ref (q 14)), (6, .int (i32 v6x))] → c17 v6x σ = some r → VM p l e rmX8_isSharing s m args below meth c D ac q (QIM D ac q below args s r) σ (F0 m 17 ls [])) (hl : lv_has ls 14 [(0, .ref (q 0)), (2, .int (i32 v2)), (3, .int (i32 v3)), (4, .int (i32 v4)), (5, .ref (q 14)), (6, .int (i32 v6))]) (h : fX8_isSharing_17 v2 v3 v4 e17 c17 v6 σ = some r) : VM p l e rmX8_isSharing s m args below meth c D ac q (QIM D ac q below args s r) σ (F0 m 17 ls []) := by
  have h : cr v6 (cr v4 ((if v6 < v4 then chk v6 10 (chk v6 10 (bindv (sto σ 14 (v6).toNat (σ 9 (v6).toNat)) (fun σ_3 => bindv (v6 + 1) (fun v6_4 => c17 v6_4 σ_3)))) else e17 σ))) = some r := h
  refine v_iload C hl dX8_isSharing_17 5 rfl ?_
  refine v_iload C hl dX8_isSharing_19 3 rfl ?_
  have hz1 := (cr_e h).1
  have h := (cr_e h).2
  have hz2 := (cr_e h).1
  have h := (cr_e h).2
  refine v_icmp_ge C (tgt := 42) hz1 hz2 h dX8_isSharing_21 rfl (fun h => ?_) (fun h => ?_)
  · exact he17 _ _ (lv_sub hl [0, 1, 2, 3, 4] rfl) h
  · refine v_aload C hl dX8_isSharing_24 4 rfl ?_
    refine v_iload C hl dX8_isSharing_26 5 rfl ?_
    refine v_aload_n C hl dX8_isSharing_28 rfl 0 rfl ?_
    refine g_X8_19 C kdM_0 fl_X8_34 dX8_isSharing_29 ?_
    refine v_iload C hl dX8_isSharing_32 5 rfl ?_
    refine alM8 C kdM_9 h dX8_isSharing_34 (fun h => ?_)
    refine asM8 C kdM_14 h dX8_isSharing_35 (fun σ_3 h => ?_)
    refine v_iinc C hl (fun x => [(6, .int (i32 x)), (0, .ref (q 0)), (2, .int (i32 v2)), (3, .int (i32 v3)), (4, .int (i32 v4)), (5, .ref (q 14))]) dX8_isSharing_36 5 rfl (by decide) (fun _ => rfl) h (fun v6_4 ls hl h => ?_)
    refine v_goto C (tgt := 17) dX8_isSharing_39 rfl ?_
    exact hc17 _ _ _ (lv_sub hl [1, 2, 3, 4, 5, 0] rfl) h
theorem wlX8_isSharing_17 (C : CxM p rmX8_isSharing s m args meth c D ac q RX8 cX8_isSharing 14) (hr : meth.sig.returnType = (some .boolean)) {v2 : Int} {v3 : Int} {v4 : Int} {e17 : Mm → Option (Int × Mm)} {r : Int × Mm} (he17 : ∀ (σ : Mm) (ls : Array Slot), lv_has ls 14 [(0, .ref (q 0)), (2, .int (i32 v2)), (3, .int (i32 v3)), (4, .int (i32 v4)), (5, .ref (q 14))] → e17 σ = some r → VM p l e rmX8_isSharing s m args below meth c D ac q (QIM D ac q below args s r) σ (F0 m 42 ls [])) : ∀ (fu : Nat) (v6 : Int) (σ : Mm) (ls : Array Slot) (hl : lv_has ls 14 [(0, .ref (q 0)), (2, .int (i32 v2)), (3, .int (i32 v3)), (4, .int (i32 v4)), (5, .ref (q 14)), (6, .int (i32 v6))]) (h : lX8_isSharing_17 v2 v3 v4 e17 fu v6 σ = some r), VM p l e rmX8_isSharing s m args below meth c D ac q (QIM D ac q below args s r) σ (F0 m 17 ls []) := by
  intro fu
  induction fu with
  | zero =>
    intro v6 σ ls hl h
    have h : none = some r := h
    cases h
  | succ fu ih =>
    intro v6 σ ls hl h
    exact wX8_isSharing_17 C hr he17 (fun v6 σ ls hl h => ih v6 σ ls hl h) hl h
theorem mX8_isSharing (hq : QI 19 q) {v1 : Int} {v2 : Int} {v3 : Int} {σ : Mm} {r : Int × Mm} (h : fX8_isSharing v1 v2 v3 σ = some r) : MIM l D ac q yX8_isSharing cX8_isSharing 14 (some .boolean) rmX8_isSharing [.ref (q 0), .int (i32 v1), .int (i32 v2), .int (i32 v3)] σ r := by
  refine MI.of hq XT_M (by decide) (Nat.le_of_ble_eq_true rfl) (fun p e s m below meth c ls C hr hl => ?_)
  have hl : lv_has ls 14 [(0, .ref (q 0)), (1, .int (i32 v1)), (2, .int (i32 v2)), (3, .int (i32 v3))] := hl
  have h : bd2 (fX8_ringAt v1 v3 σ) (fun x_1 σ_1 => bindv x_1 (fun v4_2 => bindv 0 (fun v6_3 => lX8_isSharing_17 v2 v3 v4_2 (fun σ_4 => fX8_isSharing_42 v2 v3 v4_2 σ_4) 400 v6_3 σ_1))) = some r := h
  refine v_aload_n C hl dX8_isSharing_0 rfl 0 rfl ?_
  refine v_iload_n C hl dX8_isSharing_1 rfl 1 rfl ?_
  refine v_iload_n C hl dX8_isSharing_2 rfl 3 rfl ?_
  obtain ⟨x_1, σ_1, hv1, h⟩ := bd2_e h
  refine v_callVI C 0 (klM kdM_0) rfl (ckM1 kdM_0 _) rfl [.int (i32 v1), .int (i32 v3)] (mX8_ringAt C.2.2.2.2.1 hv1) cd_X8_ringAt ic_X8 im_X8_ringAt se_X8_ringAt ml_X8_197 yk_X8_ringAt ⟨rfl, rfl, by decide, by decide⟩ rfl hl.1 (rest := []) rfl (Nat.le_of_ble_eq_true rfl) dX8_isSharing_3 ?_
  refine v_istore C hl (fun x => [(4, .int (i32 x)), (0, .ref (q 0)), (1, .int (i32 v1)), (2, .int (i32 v2)), (3, .int (i32 v3))]) dX8_isSharing_6 (by decide) (fun _ => rfl) h (fun v4_2 ls hl h => ?_)
  refine v_aload_n C hl dX8_isSharing_8 rfl 1 rfl ?_
  refine g_X8_25 C kdM_0 fl_X8_50 dX8_isSharing_9 ?_
  refine v_astore C hl ([(5, .ref (q 14)), (4, .int (i32 v4_2)), (0, .ref (q 0)), (1, .int (i32 v1)), (2, .int (i32 v2)), (3, .int (i32 v3))]) dX8_isSharing_12 (by decide) rfl (fun ls hl => ?_)
  refine v_iconst C dX8_isSharing_14 ?_
  refine v_istore C hl (fun x => [(6, .int (i32 x)), (5, .ref (q 14)), (4, .int (i32 v4_2)), (0, .ref (q 0)), (1, .int (i32 v1)), (2, .int (i32 v2)), (3, .int (i32 v3))]) dX8_isSharing_15 (by decide) (fun _ => rfl) h (fun v6_3 ls hl h => ?_)
  exact wlX8_isSharing_17 C hr (fun σ_4 ls hl h => wX8_isSharing_42 C hr (lv_sub hl [0, 1, 2, 3, 4] rfl) h) _ _ _ _ (lv_sub hl [3, 5, 6, 2, 1, 0] rfl) h
end
section
variable {l : Launch} {D : va_G} {ac : Nat → ClassId} {q : Nat → Nat} {p : Program} {e : Env} {s : State} {m : MethodId} {args : Array Value} {below : List Frame} {meth : Method} {c : Code} {ls : Array Slot}
theorem dX8_isWhole_0 : decode cX8_isWhole 0 = .ok (.aload_n 0, 1) := by decide +kernel
theorem dX8_isWhole_1 : decode cX8_isWhole 1 = .ok (.getfield 7, 3) := by decide +kernel
theorem dX8_isWhole_4 : decode cX8_isWhole 4 = .ok (.sipush 558, 3) := by decide +kernel
theorem dX8_isWhole_7 : decode cX8_isWhole 7 = .ok (.iaload, 1) := by decide +kernel
theorem dX8_isWhole_8 : decode cX8_isWhole 8 = .ok (.istore_n 1, 1) := by decide +kernel
theorem dX8_isWhole_9 : decode cX8_isWhole 9 = .ok (.aload_n 0, 1) := by decide +kernel
theorem dX8_isWhole_10 : decode cX8_isWhole 10 = .ok (.getfield 128, 3) := by decide +kernel
theorem dX8_isWhole_13 : decode cX8_isWhole 13 = .ok (.iload_n 1, 1) := by decide +kernel
theorem dX8_isWhole_14 : decode cX8_isWhole 14 = .ok (.if_icmp .gt 7, 3) := by decide +kernel
theorem dX8_isWhole_17 : decode cX8_isWhole 17 = .ok (.iconst 1, 1) := by decide +kernel
theorem dX8_isWhole_18 : decode cX8_isWhole 18 = .ok (.goto 4, 3) := by decide +kernel
theorem dX8_isWhole_21 : decode cX8_isWhole 21 = .ok (.iconst 0, 1) := by decide +kernel
theorem dX8_isWhole_22 : decode cX8_isWhole 22 = .ok (.istore_n 2, 1) := by decide +kernel
theorem dX8_isWhole_23 : decode cX8_isWhole 23 = .ok (.iconst 0, 1) := by decide +kernel
theorem dX8_isWhole_24 : decode cX8_isWhole 24 = .ok (.istore_n 3, 1) := by decide +kernel
theorem dX8_isWhole_25 : decode cX8_isWhole 25 = .ok (.iload_n 3, 1) := by decide +kernel
theorem dX8_isWhole_26 : decode cX8_isWhole 26 = .ok (.aload_n 0, 1) := by decide +kernel
theorem dX8_isWhole_27 : decode cX8_isWhole 27 = .ok (.getfield 7, 3) := by decide +kernel
theorem dX8_isWhole_30 : decode cX8_isWhole 30 = .ok (.sipush 559, 3) := by decide +kernel
theorem dX8_isWhole_33 : decode cX8_isWhole 33 = .ok (.iaload, 1) := by decide +kernel
theorem dX8_isWhole_34 : decode cX8_isWhole 34 = .ok (.if_icmp .ge 63, 3) := by decide +kernel
theorem dX8_isWhole_37 : decode cX8_isWhole 37 = .ok (.iconst 0, 1) := by decide +kernel
theorem dX8_isWhole_38 : decode cX8_isWhole 38 = .ok (.istore 4, 2) := by decide +kernel
theorem dX8_isWhole_40 : decode cX8_isWhole 40 = .ok (.iload 4, 2) := by decide +kernel
theorem dX8_isWhole_42 : decode cX8_isWhole 42 = .ok (.aload_n 0, 1) := by decide +kernel
theorem dX8_isWhole_43 : decode cX8_isWhole 43 = .ok (.getfield 7, 3) := by decide +kernel
theorem dX8_isWhole_46 : decode cX8_isWhole 46 = .ok (.sipush 552, 3) := by decide +kernel
theorem dX8_isWhole_49 : decode cX8_isWhole 49 = .ok (.iload_n 3, 1) := by decide +kernel
theorem dX8_isWhole_50 : decode cX8_isWhole 50 = .ok (.iadd, 1) := by decide +kernel
theorem dX8_isWhole_51 : decode cX8_isWhole 51 = .ok (.iaload, 1) := by decide +kernel
theorem dX8_isWhole_52 : decode cX8_isWhole 52 = .ok (.if_icmp .ge 39, 3) := by decide +kernel
theorem dX8_isWhole_55 : decode cX8_isWhole 55 = .ok (.iload_n 2, 1) := by decide +kernel
theorem dX8_isWhole_56 : decode cX8_isWhole 56 = .ok (.ifCond .eq 27, 3) := by decide +kernel
theorem dX8_isWhole_59 : decode cX8_isWhole 59 = .ok (.aload_n 0, 1) := by decide +kernel
theorem dX8_isWhole_60 : decode cX8_isWhole 60 = .ok (.getfield 7, 3) := by decide +kernel
theorem dX8_isWhole_63 : decode cX8_isWhole 63 = .ok (.sipush 492, 3) := by decide +kernel
theorem dX8_isWhole_66 : decode cX8_isWhole 66 = .ok (.bipush 10, 2) := by decide +kernel
theorem dX8_isWhole_68 : decode cX8_isWhole 68 = .ok (.iload_n 3, 1) := by decide +kernel
theorem dX8_isWhole_69 : decode cX8_isWhole 69 = .ok (.imul, 1) := by decide +kernel
theorem dX8_isWhole_70 : decode cX8_isWhole 70 = .ok (.iadd, 1) := by decide +kernel
theorem dX8_isWhole_71 : decode cX8_isWhole 71 = .ok (.iload 4, 2) := by decide +kernel
theorem dX8_isWhole_73 : decode cX8_isWhole 73 = .ok (.iadd, 1) := by decide +kernel
theorem dX8_isWhole_74 : decode cX8_isWhole 74 = .ok (.iaload, 1) := by decide +kernel
theorem dX8_isWhole_75 : decode cX8_isWhole 75 = .ok (.iload_n 1, 1) := by decide +kernel
theorem dX8_isWhole_76 : decode cX8_isWhole 76 = .ok (.if_icmp .ge 7, 3) := by decide +kernel
theorem dX8_isWhole_79 : decode cX8_isWhole 79 = .ok (.iconst 1, 1) := by decide +kernel
theorem dX8_isWhole_80 : decode cX8_isWhole 80 = .ok (.goto 4, 3) := by decide +kernel
theorem dX8_isWhole_83 : decode cX8_isWhole 83 = .ok (.iconst 0, 1) := by decide +kernel
theorem dX8_isWhole_84 : decode cX8_isWhole 84 = .ok (.istore_n 2, 1) := by decide +kernel
theorem dX8_isWhole_85 : decode cX8_isWhole 85 = .ok (.iinc 4 1, 3) := by decide +kernel
theorem dX8_isWhole_88 : decode cX8_isWhole 88 = .ok (.goto (-48), 3) := by decide +kernel
theorem dX8_isWhole_91 : decode cX8_isWhole 91 = .ok (.iinc 3 1, 3) := by decide +kernel
theorem dX8_isWhole_94 : decode cX8_isWhole 94 = .ok (.goto (-69), 3) := by decide +kernel
theorem dX8_isWhole_97 : decode cX8_isWhole 97 = .ok (.iload_n 2, 1) := by decide +kernel
theorem dX8_isWhole_98 : decode cX8_isWhole 98 = .ok (.ifCond .eq 17, 3) := by decide +kernel
theorem dX8_isWhole_101 : decode cX8_isWhole 101 = .ok (.aload_n 0, 1) := by decide +kernel
theorem dX8_isWhole_102 : decode cX8_isWhole 102 = .ok (.sipush 420, 3) := by decide +kernel
theorem dX8_isWhole_105 : decode cX8_isWhole 105 = .ok (.invokevirtual 131, 3) := by decide +kernel
theorem dX8_isWhole_108 : decode cX8_isWhole 108 = .ok (.ifCond .eq 7, 3) := by decide +kernel
theorem dX8_isWhole_111 : decode cX8_isWhole 111 = .ok (.iconst 1, 1) := by decide +kernel
theorem dX8_isWhole_112 : decode cX8_isWhole 112 = .ok (.goto 4, 3) := by decide +kernel
theorem dX8_isWhole_115 : decode cX8_isWhole 115 = .ok (.iconst 0, 1) := by decide +kernel
theorem dX8_isWhole_116 : decode cX8_isWhole 116 = .ok (.ireturn, 1) := by decide +kernel
theorem wX8_isWhole_116 (C : CxM p rmX8_isWhole s m args meth c D ac q RX8 cX8_isWhole 5) (hr : meth.sig.returnType = (some .boolean)) {t0 : Int} {σ : Mm} {r : Int} (hl : lv_has ls 5 [(0, .ref (q 0))]) (h : fX8_isWhole_116 t0 σ = some r) : VM p l e rmX8_isWhole s m args below meth c D ac q (QIM D ac q below args s (r, σ)) σ (F0 m 116 ls [.int (i32 t0)]) := by
  have h : chb t0 (some t0) = some r := h
  have hz1 := (chb_e h).1
  have h := (chb_e h).2
  exact v_zret C hr hz1 (so1 h) dX8_isWhole_116
theorem wX8_isWhole_115 (C : CxM p rmX8_isWhole s m args meth c D ac q RX8 cX8_isWhole 5) (hr : meth.sig.returnType = (some .boolean)) {σ : Mm} {r : Int} (hl : lv_has ls 5 [(0, .ref (q 0))]) (h : fX8_isWhole_115 σ = some r) : VM p l e rmX8_isWhole s m args below meth c D ac q (QIM D ac q below args s (r, σ)) σ (F0 m 115 ls []) := by
  have h : fX8_isWhole_116 0 σ = some r := h
  refine v_iconst C dX8_isWhole_115 ?_
  exact wX8_isWhole_116 C hr (lv_sub hl [0] rfl) h
theorem wX8_isWhole_97 (C : CxM p rmX8_isWhole s m args meth c D ac q RX8 cX8_isWhole 5) (hr : meth.sig.returnType = (some .boolean)) {v2 : Int} {σ : Mm} {r : Int} (hl : lv_has ls 5 [(0, .ref (q 0)), (2, .int (i32 v2))]) (h : fX8_isWhole_97 v2 σ = some r) : VM p l e rmX8_isWhole s m args below meth c D ac q (QIM D ac q below args s (r, σ)) σ (F0 m 97 ls []) := by
  have h : cr v2 ((if v2 = 0 then fX8_isWhole_115 σ else bd (fX8_isFair 420 σ) (fun x_2 => cr x_2 ((if x_2 = 0 then fX8_isWhole_115 σ else fX8_isWhole_116 1 σ))))) = some r := h
  refine v_iload_n C hl dX8_isWhole_97 rfl 1 rfl ?_
  have hz1 := (cr_e h).1
  have h := (cr_e h).2
  refine v_if_eq C (tgt := 115) hz1 h dX8_isWhole_98 rfl (fun h => ?_) (fun h => ?_)
  · exact wX8_isWhole_115 C hr (lv_sub hl [0] rfl) h
  · refine v_aload_n C hl dX8_isWhole_101 rfl 0 rfl ?_
    refine v_sipush C dX8_isWhole_102 rfl ?_
    obtain ⟨x_2, hv2, h⟩ := bd_e h
    refine v_callVI C 0 (klM kdM_0) rfl (ckM1 kdM_0 _) rfl [.int (i32 420)] (mX8_isFair C.2.2.2.2.1 hv2) cd_X8_isFair ic_X8 im_X8_isFair se_X8_isFair ml_X8_131 yk_X8_isFair ⟨rfl, rfl, by decide, by decide⟩ rfl hl.1 (rest := []) rfl (Nat.le_of_ble_eq_true rfl) dX8_isWhole_105 ?_
    have hz3 := (cr_e h).1
    have h := (cr_e h).2
    refine v_if_eq C (tgt := 115) hz3 h dX8_isWhole_108 rfl (fun h => ?_) (fun h => ?_)
    · exact wX8_isWhole_115 C hr (lv_sub hl [0] rfl) h
    · refine v_iconst C dX8_isWhole_111 ?_
      refine v_goto C (tgt := 116) dX8_isWhole_112 rfl ?_
      exact wX8_isWhole_116 C hr (lv_sub hl [0] rfl) h
theorem wX8_isWhole_91 (C : CxM p rmX8_isWhole s m args meth c D ac q RX8 cX8_isWhole 5) (hr : meth.sig.returnType = (some .boolean)) {v1 : Int} {v2 : Int} {v3 : Int} {c25 : Int → Int → Option (Int)} {σ : Mm} {r : Int} (hc25 : ∀ (v2x : Int) (v3x : Int) (ls : Array Slot), lv_has ls 5 [(0, .ref (q 0)), (1, .int (i32 v1)), (2, .int (i32 v2x)), (3, .int (i32 v3x))] → c25 v2x v3x = some r → VM p l e rmX8_isWhole s m args below meth c D ac q (QIM D ac q below args s (r, σ)) σ (F0 m 25 ls [])) (hl : lv_has ls 5 [(0, .ref (q 0)), (1, .int (i32 v1)), (2, .int (i32 v2)), (3, .int (i32 v3))]) (h : fX8_isWhole_91 c25 v1 v2 v3 σ = some r) : VM p l e rmX8_isWhole s m args below meth c D ac q (QIM D ac q below args s (r, σ)) σ (F0 m 91 ls []) := by
  have h : bindv (v3 + 1) (fun v3_1 => c25 v2 v3_1) = some r := h
  refine v_iinc C hl (fun x => [(3, .int (i32 x)), (0, .ref (q 0)), (1, .int (i32 v1)), (2, .int (i32 v2))]) dX8_isWhole_91 3 rfl (by decide) (fun _ => rfl) h (fun v3_1 ls hl h => ?_)
  refine v_goto C (tgt := 25) dX8_isWhole_94 rfl ?_
  exact hc25 _ _ _ (lv_sub hl [1, 2, 3, 0] rfl) h
theorem wX8_isWhole_84 (C : CxM p rmX8_isWhole s m args meth c D ac q RX8 cX8_isWhole 5) (hr : meth.sig.returnType = (some .boolean)) {v1 : Int} {v3 : Int} {v4 : Int} {t0 : Int} {c40 : Int → Int → Option (Int)} {σ : Mm} {r : Int} (hc40 : ∀ (v2x : Int) (v4x : Int) (ls : Array Slot), lv_has ls 5 [(0, .ref (q 0)), (1, .int (i32 v1)), (2, .int (i32 v2x)), (3, .int (i32 v3)), (4, .int (i32 v4x))] → c40 v2x v4x = some r → VM p l e rmX8_isWhole s m args below meth c D ac q (QIM D ac q below args s (r, σ)) σ (F0 m 40 ls [])) (hl : lv_has ls 5 [(0, .ref (q 0)), (1, .int (i32 v1)), (3, .int (i32 v3)), (4, .int (i32 v4))]) (h : fX8_isWhole_84 c40 v1 v3 v4 t0 σ = some r) : VM p l e rmX8_isWhole s m args below meth c D ac q (QIM D ac q below args s (r, σ)) σ (F0 m 84 ls [.int (i32 t0)]) := by
  have h : bindv t0 (fun v2_1 => bindv (v4 + 1) (fun v4_2 => c40 v2_1 v4_2)) = some r := h
  refine v_istore_n C hl (fun x => [(2, .int (i32 x)), (0, .ref (q 0)), (1, .int (i32 v1)), (3, .int (i32 v3)), (4, .int (i32 v4))]) dX8_isWhole_84 rfl (by decide) (fun _ => rfl) h (fun v2_1 ls hl h => ?_)
  refine v_iinc C hl (fun x => [(4, .int (i32 x)), (2, .int (i32 v2_1)), (0, .ref (q 0)), (1, .int (i32 v1)), (3, .int (i32 v3))]) dX8_isWhole_85 4 rfl (by decide) (fun _ => rfl) h (fun v4_2 ls hl h => ?_)
  refine v_goto C (tgt := 40) dX8_isWhole_88 rfl ?_
  exact hc40 _ _ _ (lv_sub hl [2, 3, 1, 4, 0] rfl) h
theorem wX8_isWhole_83 (C : CxM p rmX8_isWhole s m args meth c D ac q RX8 cX8_isWhole 5) (hr : meth.sig.returnType = (some .boolean)) {v1 : Int} {v3 : Int} {v4 : Int} {c40 : Int → Int → Option (Int)} {σ : Mm} {r : Int} (hc40 : ∀ (v2x : Int) (v4x : Int) (ls : Array Slot), lv_has ls 5 [(0, .ref (q 0)), (1, .int (i32 v1)), (2, .int (i32 v2x)), (3, .int (i32 v3)), (4, .int (i32 v4x))] → c40 v2x v4x = some r → VM p l e rmX8_isWhole s m args below meth c D ac q (QIM D ac q below args s (r, σ)) σ (F0 m 40 ls [])) (hl : lv_has ls 5 [(0, .ref (q 0)), (1, .int (i32 v1)), (3, .int (i32 v3)), (4, .int (i32 v4))]) (h : fX8_isWhole_83 c40 v1 v3 v4 σ = some r) : VM p l e rmX8_isWhole s m args below meth c D ac q (QIM D ac q below args s (r, σ)) σ (F0 m 83 ls []) := by
  have h : fX8_isWhole_84 c40 v1 v3 v4 0 σ = some r := h
  refine v_iconst C dX8_isWhole_83 ?_
  exact wX8_isWhole_84 C hr hc40 (lv_sub hl [0, 1, 2, 3] rfl) h
theorem wX8_isWhole_40 (C : CxM p rmX8_isWhole s m args meth c D ac q RX8 cX8_isWhole 5) (hr : meth.sig.returnType = (some .boolean)) {v1 : Int} {v3 : Int} {σ : Mm} {v2 : Int} {v4 : Int} {e40 : Int → Option (Int)} {c40 : Int → Int → Option (Int)} {r : Int} (he40 : ∀ (v2x : Int) (ls : Array Slot), lv_has ls 5 [(0, .ref (q 0)), (1, .int (i32 v1)), (2, .int (i32 v2x)), (3, .int (i32 v3))] → e40 v2x = some r → VM p l e rmX8_isWhole s m args below meth c D ac q (QIM D ac q below args s (r, σ)) σ (F0 m 91 ls [])) (hc40 : ∀ (v2x : Int) (v4x : Int) (ls : Array Slot), lv_has ls 5 [(0, .ref (q 0)), (1, .int (i32 v1)), (2, .int (i32 v2x)), (3, .int (i32 v3)), (4, .int (i32 v4x))] → c40 v2x v4x = some r → VM p l e rmX8_isWhole s m args below meth c D ac q (QIM D ac q below args s (r, σ)) σ (F0 m 40 ls [])) (hl : lv_has ls 5 [(0, .ref (q 0)), (1, .int (i32 v1)), (2, .int (i32 v2)), (3, .int (i32 v3)), (4, .int (i32 v4))]) (h : fX8_isWhole_40 v1 v3 σ e40 c40 v2 v4 = some r) : VM p l e rmX8_isWhole s m args below meth c D ac q (QIM D ac q below args s (r, σ)) σ (F0 m 40 ls []) := by
  have h : chk (552 + v3) 700 (cr v4 (cr (σ 1 (552 + v3).toNat) ((if v4 < σ 1 (552 + v3).toNat then cr v2 ((if v2 = 0 then fX8_isWhole_83 c40 v1 v3 v4 σ else chk ((492 + (10 * v3)) + v4) 700 (cr (σ 1 ((492 + (10 * v3)) + v4).toNat) (cr v1 ((if σ 1 ((492 + (10 * v3)) + v4).toNat < v1 then fX8_isWhole_84 c40 v1 v3 v4 1 σ else fX8_isWhole_83 c40 v1 v3 v4 σ)))))) else e40 v2)))) = some r := h
  refine v_iload C hl dX8_isWhole_40 4 rfl ?_
  refine v_aload_n C hl dX8_isWhole_42 rfl 0 rfl ?_
  refine g_X8_0 C kdM_0 fl_X8_7 dX8_isWhole_43 ?_
  refine v_sipush C dX8_isWhole_46 rfl ?_
  refine v_iload_n C hl dX8_isWhole_49 rfl 3 rfl ?_
  refine v_iadd C dX8_isWhole_50 ?_
  refine alM2 C kdM_1 h dX8_isWhole_51 (fun h => ?_)
  have hz1 := (cr_e h).1
  have h := (cr_e h).2
  have hz2 := (cr_e h).1
  have h := (cr_e h).2
  refine v_icmp_ge C (tgt := 91) hz1 hz2 h dX8_isWhole_52 rfl (fun h => ?_) (fun h => ?_)
  · exact he40 _ _ (lv_sub hl [0, 1, 2, 3] rfl) h
  · refine v_iload_n C hl dX8_isWhole_55 rfl 2 rfl ?_
    have hz3 := (cr_e h).1
    have h := (cr_e h).2
    refine v_if_eq C (tgt := 83) hz3 h dX8_isWhole_56 rfl (fun h => ?_) (fun h => ?_)
    · exact wX8_isWhole_83 C hr hc40 (lv_sub hl [0, 1, 3, 4] rfl) h
    · refine v_aload_n C hl dX8_isWhole_59 rfl 0 rfl ?_
      refine g_X8_0 C kdM_0 fl_X8_7 dX8_isWhole_60 ?_
      refine v_sipush C dX8_isWhole_63 rfl ?_
      refine v_bipush C dX8_isWhole_66 rfl ?_
      refine v_iload_n C hl dX8_isWhole_68 rfl 3 rfl ?_
      refine v_imul C dX8_isWhole_69 ?_
      refine v_iadd C dX8_isWhole_70 ?_
      refine v_iload C hl dX8_isWhole_71 4 rfl ?_
      refine v_iadd C dX8_isWhole_73 ?_
      refine alM2 C kdM_1 h dX8_isWhole_74 (fun h => ?_)
      refine v_iload_n C hl dX8_isWhole_75 rfl 1 rfl ?_
      have hz4 := (cr_e h).1
      have h := (cr_e h).2
      have hz5 := (cr_e h).1
      have h := (cr_e h).2
      refine v_icmp_ge C (tgt := 83) hz4 hz5 h dX8_isWhole_76 rfl (fun h => ?_) (fun h => ?_)
      · exact wX8_isWhole_83 C hr hc40 (lv_sub hl [0, 1, 3, 4] rfl) h
      · refine v_iconst C dX8_isWhole_79 ?_
        refine v_goto C (tgt := 84) dX8_isWhole_80 rfl ?_
        exact wX8_isWhole_84 C hr hc40 (lv_sub hl [0, 1, 3, 4] rfl) h
theorem wlX8_isWhole_40 (C : CxM p rmX8_isWhole s m args meth c D ac q RX8 cX8_isWhole 5) (hr : meth.sig.returnType = (some .boolean)) {v1 : Int} {v3 : Int} {σ : Mm} {e40 : Int → Option (Int)} {r : Int} (he40 : ∀ (v2x : Int) (ls : Array Slot), lv_has ls 5 [(0, .ref (q 0)), (1, .int (i32 v1)), (2, .int (i32 v2x)), (3, .int (i32 v3))] → e40 v2x = some r → VM p l e rmX8_isWhole s m args below meth c D ac q (QIM D ac q below args s (r, σ)) σ (F0 m 91 ls [])) : ∀ (fu : Nat) (v2 : Int) (v4 : Int) (ls : Array Slot) (hl : lv_has ls 5 [(0, .ref (q 0)), (1, .int (i32 v1)), (2, .int (i32 v2)), (3, .int (i32 v3)), (4, .int (i32 v4))]) (h : lX8_isWhole_40 v1 v3 σ e40 fu v2 v4 = some r), VM p l e rmX8_isWhole s m args below meth c D ac q (QIM D ac q below args s (r, σ)) σ (F0 m 40 ls []) := by
  intro fu
  induction fu with
  | zero =>
    intro v2 v4 ls hl h
    have h : none = some r := h
    cases h
  | succ fu ih =>
    intro v2 v4 ls hl h
    exact wX8_isWhole_40 C hr he40 (fun v2 v4 ls hl h => ih v2 v4 ls hl h) hl h
theorem wX8_isWhole_25 (C : CxM p rmX8_isWhole s m args meth c D ac q RX8 cX8_isWhole 5) (hr : meth.sig.returnType = (some .boolean)) {v1 : Int} {σ : Mm} {v2 : Int} {v3 : Int} {e25 : Int → Option (Int)} {c25 : Int → Int → Option (Int)} {r : Int} (he25 : ∀ (v2x : Int) (ls : Array Slot), lv_has ls 5 [(0, .ref (q 0)), (2, .int (i32 v2x))] → e25 v2x = some r → VM p l e rmX8_isWhole s m args below meth c D ac q (QIM D ac q below args s (r, σ)) σ (F0 m 97 ls [])) (hc25 : ∀ (v2x : Int) (v3x : Int) (ls : Array Slot), lv_has ls 5 [(0, .ref (q 0)), (1, .int (i32 v1)), (2, .int (i32 v2x)), (3, .int (i32 v3x))] → c25 v2x v3x = some r → VM p l e rmX8_isWhole s m args below meth c D ac q (QIM D ac q below args s (r, σ)) σ (F0 m 25 ls [])) (hl : lv_has ls 5 [(0, .ref (q 0)), (1, .int (i32 v1)), (2, .int (i32 v2)), (3, .int (i32 v3))]) (h : fX8_isWhole_25 v1 σ e25 c25 v2 v3 = some r) : VM p l e rmX8_isWhole s m args below meth c D ac q (QIM D ac q below args s (r, σ)) σ (F0 m 25 ls []) := by
  have h : chk 559 700 (cr v3 (cr (σ 1 559) ((if v3 < σ 1 559 then bindv 0 (fun v4_3 => lX8_isWhole_40 v1 v3 σ (fun v2_4 => fX8_isWhole_91 c25 v1 v2_4 v3 σ) 400 v2 v4_3) else e25 v2)))) = some r := h
  refine v_iload_n C hl dX8_isWhole_25 rfl 3 rfl ?_
  refine v_aload_n C hl dX8_isWhole_26 rfl 0 rfl ?_
  refine g_X8_0 C kdM_0 fl_X8_7 dX8_isWhole_27 ?_
  refine v_sipush C dX8_isWhole_30 rfl ?_
  refine alM2 C kdM_1 h dX8_isWhole_33 (fun h => ?_)
  have hz1 := (cr_e h).1
  have h := (cr_e h).2
  have hz2 := (cr_e h).1
  have h := (cr_e h).2
  refine v_icmp_ge C (tgt := 97) hz1 hz2 h dX8_isWhole_34 rfl (fun h => ?_) (fun h => ?_)
  · exact he25 _ _ (lv_sub hl [0, 2] rfl) h
  · refine v_iconst C dX8_isWhole_37 ?_
    refine v_istore C hl (fun x => [(4, .int (i32 x)), (0, .ref (q 0)), (1, .int (i32 v1)), (2, .int (i32 v2)), (3, .int (i32 v3))]) dX8_isWhole_38 (by decide) (fun _ => rfl) h (fun v4_3 ls hl h => ?_)
    exact wlX8_isWhole_40 C hr (fun v2_4 ls hl h => wX8_isWhole_91 C hr hc25 (lv_sub hl [0, 1, 2, 3] rfl) h) _ _ _ _ (lv_sub hl [1, 2, 3, 4, 0] rfl) h
theorem wlX8_isWhole_25 (C : CxM p rmX8_isWhole s m args meth c D ac q RX8 cX8_isWhole 5) (hr : meth.sig.returnType = (some .boolean)) {v1 : Int} {σ : Mm} {e25 : Int → Option (Int)} {r : Int} (he25 : ∀ (v2x : Int) (ls : Array Slot), lv_has ls 5 [(0, .ref (q 0)), (2, .int (i32 v2x))] → e25 v2x = some r → VM p l e rmX8_isWhole s m args below meth c D ac q (QIM D ac q below args s (r, σ)) σ (F0 m 97 ls [])) : ∀ (fu : Nat) (v2 : Int) (v3 : Int) (ls : Array Slot) (hl : lv_has ls 5 [(0, .ref (q 0)), (1, .int (i32 v1)), (2, .int (i32 v2)), (3, .int (i32 v3))]) (h : lX8_isWhole_25 v1 σ e25 fu v2 v3 = some r), VM p l e rmX8_isWhole s m args below meth c D ac q (QIM D ac q below args s (r, σ)) σ (F0 m 25 ls []) := by
  intro fu
  induction fu with
  | zero =>
    intro v2 v3 ls hl h
    have h : none = some r := h
    cases h
  | succ fu ih =>
    intro v2 v3 ls hl h
    exact wX8_isWhole_25 C hr he25 (fun v2 v3 ls hl h => ih v2 v3 ls hl h) hl h
theorem wX8_isWhole_22 (C : CxM p rmX8_isWhole s m args meth c D ac q RX8 cX8_isWhole 5) (hr : meth.sig.returnType = (some .boolean)) {v1 : Int} {t0 : Int} {σ : Mm} {r : Int} (hl : lv_has ls 5 [(0, .ref (q 0)), (1, .int (i32 v1))]) (h : fX8_isWhole_22 v1 t0 σ = some r) : VM p l e rmX8_isWhole s m args below meth c D ac q (QIM D ac q below args s (r, σ)) σ (F0 m 22 ls [.int (i32 t0)]) := by
  have h : bindv t0 (fun v2_1 => bindv 0 (fun v3_2 => lX8_isWhole_25 v1 σ (fun v2_3 => fX8_isWhole_97 v2_3 σ) 400 v2_1 v3_2)) = some r := h
  refine v_istore_n C hl (fun x => [(2, .int (i32 x)), (0, .ref (q 0)), (1, .int (i32 v1))]) dX8_isWhole_22 rfl (by decide) (fun _ => rfl) h (fun v2_1 ls hl h => ?_)
  refine v_iconst C dX8_isWhole_23 ?_
  refine v_istore_n C hl (fun x => [(3, .int (i32 x)), (2, .int (i32 v2_1)), (0, .ref (q 0)), (1, .int (i32 v1))]) dX8_isWhole_24 rfl (by decide) (fun _ => rfl) h (fun v3_2 ls hl h => ?_)
  exact wlX8_isWhole_25 C hr (fun v2_3 ls hl h => wX8_isWhole_97 C hr (lv_sub hl [0, 1] rfl) h) _ _ _ _ (lv_sub hl [2, 3, 1, 0] rfl) h
theorem mX8_isWhole (hq : QI 19 q)  {σ : Mm} {r : Int} (h : fX8_isWhole σ = some r) : MIM l D ac q yX8_isWhole cX8_isWhole 5 (some .boolean) rmX8_isWhole [.ref (q 0)] σ (r, σ) := by
  refine MI.of hq XT_M (by decide) (Nat.le_of_ble_eq_true rfl) (fun p e s m below meth c ls C hr hl => ?_)
  have hl : lv_has ls 5 [(0, .ref (q 0))] := hl
  have h : chk 558 700 (bindv (σ 1 558) (fun v1_1 => cr (σ 0 12) (cr v1_1 ((if v1_1 < σ 0 12 then fX8_isWhole_22 v1_1 0 σ else fX8_isWhole_22 v1_1 1 σ))))) = some r := h
  refine v_aload_n C hl dX8_isWhole_0 rfl 0 rfl ?_
  refine g_X8_0 C kdM_0 fl_X8_7 dX8_isWhole_1 ?_
  refine v_sipush C dX8_isWhole_4 rfl ?_
  refine alM2 C kdM_1 h dX8_isWhole_7 (fun h => ?_)
  refine v_istore_n C hl (fun x => [(1, .int (i32 x)), (0, .ref (q 0))]) dX8_isWhole_8 rfl (by decide) (fun _ => rfl) h (fun v1_1 ls hl h => ?_)
  refine v_aload_n C hl dX8_isWhole_9 rfl 1 rfl ?_
  refine g_X8_12 C kdM_0 fl_X8_128 dX8_isWhole_10 ?_
  refine v_iload_n C hl dX8_isWhole_13 rfl 0 rfl ?_
  have hz2 := (cr_e h).1
  have h := (cr_e h).2
  have hz3 := (cr_e h).1
  have h := (cr_e h).2
  refine v_icmp_gt C (tgt := 21) hz2 hz3 h dX8_isWhole_14 rfl (fun h => ?_) (fun h => ?_)
  · refine v_iconst C dX8_isWhole_21 ?_
    exact wX8_isWhole_22 C hr (lv_sub hl [1, 0] rfl) h
  · refine v_iconst C dX8_isWhole_17 ?_
    refine v_goto C (tgt := 22) dX8_isWhole_18 rfl ?_
    exact wX8_isWhole_22 C hr (lv_sub hl [1, 0] rfl) h
end
section
variable {l : Launch} {D : va_G} {ac : Nat → ClassId} {q : Nat → Nat} {p : Program} {e : Env} {s : State} {m : MethodId} {args : Array Value} {below : List Frame} {meth : Method} {c : Code} {ls : Array Slot}
theorem dX8_leftAt_0 : decode cX8_leftAt 0 = .ok (.iconst 0, 1) := by decide +kernel
theorem dX8_leftAt_1 : decode cX8_leftAt 1 = .ok (.istore_n 2, 1) := by decide +kernel
theorem dX8_leftAt_2 : decode cX8_leftAt 2 = .ok (.iconst 0, 1) := by decide +kernel
theorem dX8_leftAt_3 : decode cX8_leftAt 3 = .ok (.istore_n 3, 1) := by decide +kernel
theorem dX8_leftAt_4 : decode cX8_leftAt 4 = .ok (.iload_n 3, 1) := by decide +kernel
theorem dX8_leftAt_5 : decode cX8_leftAt 5 = .ok (.aload_n 0, 1) := by decide +kernel
theorem dX8_leftAt_6 : decode cX8_leftAt 6 = .ok (.invokevirtual 206, 3) := by decide +kernel
theorem dX8_leftAt_9 : decode cX8_leftAt 9 = .ok (.if_icmp .ge 35, 3) := by decide +kernel
theorem dX8_leftAt_12 : decode cX8_leftAt 12 = .ok (.iload_n 2, 1) := by decide +kernel
theorem dX8_leftAt_13 : decode cX8_leftAt 13 = .ok (.aload_n 0, 1) := by decide +kernel
theorem dX8_leftAt_14 : decode cX8_leftAt 14 = .ok (.getfield 31, 3) := by decide +kernel
theorem dX8_leftAt_17 : decode cX8_leftAt 17 = .ok (.iload_n 3, 1) := by decide +kernel
theorem dX8_leftAt_18 : decode cX8_leftAt 18 = .ok (.iaload, 1) := by decide +kernel
theorem dX8_leftAt_19 : decode cX8_leftAt 19 = .ok (.ifCond .le 16, 3) := by decide +kernel
theorem dX8_leftAt_22 : decode cX8_leftAt 22 = .ok (.aload_n 0, 1) := by decide +kernel
theorem dX8_leftAt_23 : decode cX8_leftAt 23 = .ok (.iload_n 3, 1) := by decide +kernel
theorem dX8_leftAt_24 : decode cX8_leftAt 24 = .ok (.iload_n 1, 1) := by decide +kernel
theorem dX8_leftAt_25 : decode cX8_leftAt 25 = .ok (.invokevirtual 190, 3) := by decide +kernel
theorem dX8_leftAt_28 : decode cX8_leftAt 28 = .ok (.ifCond .eq 7, 3) := by decide +kernel
theorem dX8_leftAt_31 : decode cX8_leftAt 31 = .ok (.iconst 1, 1) := by decide +kernel
theorem dX8_leftAt_32 : decode cX8_leftAt 32 = .ok (.goto 4, 3) := by decide +kernel
theorem dX8_leftAt_35 : decode cX8_leftAt 35 = .ok (.iconst 0, 1) := by decide +kernel
theorem dX8_leftAt_36 : decode cX8_leftAt 36 = .ok (.iadd, 1) := by decide +kernel
theorem dX8_leftAt_37 : decode cX8_leftAt 37 = .ok (.istore_n 2, 1) := by decide +kernel
theorem dX8_leftAt_38 : decode cX8_leftAt 38 = .ok (.iinc 3 1, 3) := by decide +kernel
theorem dX8_leftAt_41 : decode cX8_leftAt 41 = .ok (.goto (-37), 3) := by decide +kernel
theorem dX8_leftAt_44 : decode cX8_leftAt 44 = .ok (.iload_n 2, 1) := by decide +kernel
theorem dX8_leftAt_45 : decode cX8_leftAt 45 = .ok (.ireturn, 1) := by decide +kernel
theorem wX8_leftAt_44 (C : CxM p rmX8_leftAt s m args meth c D ac q RX8 cX8_leftAt 4) (hr : meth.sig.returnType = (some .int)) {v2 : Int} {σ : Mm} {r : Int} (hl : lv_has ls 4 [(0, .ref (q 0)), (2, .int (i32 v2))]) (h : fX8_leftAt_44 v2 σ = some r) : VM p l e rmX8_leftAt s m args below meth c D ac q (QIM D ac q below args s (r, σ)) σ (F0 m 44 ls []) := by
  have h : some v2 = some r := h
  refine v_iload_n C hl dX8_leftAt_44 rfl 1 rfl ?_
  exact v_iret C hr (so1 h) dX8_leftAt_45
theorem wX8_leftAt_36 (C : CxM p rmX8_leftAt s m args meth c D ac q RX8 cX8_leftAt 4) (hr : meth.sig.returnType = (some .int)) {v1 : Int} {v3 : Int} {t0 : Int} {t1 : Int} {c4 : Int → Int → Option (Int)} {σ : Mm} {r : Int} (hc4 : ∀ (v2x : Int) (v3x : Int) (ls : Array Slot), lv_has ls 4 [(0, .ref (q 0)), (1, .int (i32 v1)), (2, .int (i32 v2x)), (3, .int (i32 v3x))] → c4 v2x v3x = some r → VM p l e rmX8_leftAt s m args below meth c D ac q (QIM D ac q below args s (r, σ)) σ (F0 m 4 ls [])) (hl : lv_has ls 4 [(0, .ref (q 0)), (1, .int (i32 v1)), (3, .int (i32 v3))]) (h : fX8_leftAt_36 c4 v1 v3 t0 t1 σ = some r) : VM p l e rmX8_leftAt s m args below meth c D ac q (QIM D ac q below args s (r, σ)) σ (F0 m 36 ls [.int (i32 t1), .int (i32 t0)]) := by
  have h : bindv (t0 + t1) (fun v2_1 => bindv (v3 + 1) (fun v3_2 => c4 v2_1 v3_2)) = some r := h
  refine v_iadd C dX8_leftAt_36 ?_
  refine v_istore_n C hl (fun x => [(2, .int (i32 x)), (0, .ref (q 0)), (1, .int (i32 v1)), (3, .int (i32 v3))]) dX8_leftAt_37 rfl (by decide) (fun _ => rfl) h (fun v2_1 ls hl h => ?_)
  refine v_iinc C hl (fun x => [(3, .int (i32 x)), (2, .int (i32 v2_1)), (0, .ref (q 0)), (1, .int (i32 v1))]) dX8_leftAt_38 3 rfl (by decide) (fun _ => rfl) h (fun v3_2 ls hl h => ?_)
  refine v_goto C (tgt := 4) dX8_leftAt_41 rfl ?_
  exact hc4 _ _ _ (lv_sub hl [2, 3, 1, 0] rfl) h
theorem wX8_leftAt_35 (C : CxM p rmX8_leftAt s m args meth c D ac q RX8 cX8_leftAt 4) (hr : meth.sig.returnType = (some .int)) {v1 : Int} {v3 : Int} {t0 : Int} {c4 : Int → Int → Option (Int)} {σ : Mm} {r : Int} (hc4 : ∀ (v2x : Int) (v3x : Int) (ls : Array Slot), lv_has ls 4 [(0, .ref (q 0)), (1, .int (i32 v1)), (2, .int (i32 v2x)), (3, .int (i32 v3x))] → c4 v2x v3x = some r → VM p l e rmX8_leftAt s m args below meth c D ac q (QIM D ac q below args s (r, σ)) σ (F0 m 4 ls [])) (hl : lv_has ls 4 [(0, .ref (q 0)), (1, .int (i32 v1)), (3, .int (i32 v3))]) (h : fX8_leftAt_35 c4 v1 v3 t0 σ = some r) : VM p l e rmX8_leftAt s m args below meth c D ac q (QIM D ac q below args s (r, σ)) σ (F0 m 35 ls [.int (i32 t0)]) := by
  have h : fX8_leftAt_36 c4 v1 v3 t0 0 σ = some r := h
  refine v_iconst C dX8_leftAt_35 ?_
  exact wX8_leftAt_36 C hr hc4 (lv_sub hl [0, 1, 2] rfl) h
theorem wX8_leftAt_4 (C : CxM p rmX8_leftAt s m args meth c D ac q RX8 cX8_leftAt 4) (hr : meth.sig.returnType = (some .int)) {v1 : Int} {σ : Mm} {v2 : Int} {v3 : Int} {e4 : Int → Option (Int)} {c4 : Int → Int → Option (Int)} {r : Int} (he4 : ∀ (v2x : Int) (ls : Array Slot), lv_has ls 4 [(0, .ref (q 0)), (2, .int (i32 v2x))] → e4 v2x = some r → VM p l e rmX8_leftAt s m args below meth c D ac q (QIM D ac q below args s (r, σ)) σ (F0 m 44 ls [])) (hc4 : ∀ (v2x : Int) (v3x : Int) (ls : Array Slot), lv_has ls 4 [(0, .ref (q 0)), (1, .int (i32 v1)), (2, .int (i32 v2x)), (3, .int (i32 v3x))] → c4 v2x v3x = some r → VM p l e rmX8_leftAt s m args below meth c D ac q (QIM D ac q below args s (r, σ)) σ (F0 m 4 ls [])) (hl : lv_has ls 4 [(0, .ref (q 0)), (1, .int (i32 v1)), (2, .int (i32 v2)), (3, .int (i32 v3))]) (h : fX8_leftAt_4 v1 σ e4 c4 v2 v3 = some r) : VM p l e rmX8_leftAt s m args below meth c D ac q (QIM D ac q below args s (r, σ)) σ (F0 m 4 ls []) := by
  have h : bd (fX8_points σ) (fun x_1 => cr v3 (cr x_1 ((if v3 < x_1 then chk v3 24 (cr (σ 8 (v3).toNat) ((if 0 < σ 8 (v3).toNat then bd (fX8_isThere v3 v1 σ) (fun x_5 => cr x_5 ((if x_5 = 0 then fX8_leftAt_35 c4 v1 v3 v2 σ else fX8_leftAt_36 c4 v1 v3 v2 1 σ))) else fX8_leftAt_35 c4 v1 v3 v2 σ))) else e4 v2)))) = some r := h
  refine v_iload_n C hl dX8_leftAt_4 rfl 3 rfl ?_
  refine v_aload_n C hl dX8_leftAt_5 rfl 0 rfl ?_
  obtain ⟨x_1, hv1, h⟩ := bd_e h
  refine v_callVI C 0 (klM kdM_0) rfl (ckM1 kdM_0 _) rfl [] (mX8_points C.2.2.2.2.1 hv1) cd_X8_points ic_X8 im_X8_points se_X8_points ml_X8_206 yk_X8_points ⟨rfl, rfl, by decide, by decide⟩ rfl hl.1 (rest := [.int (i32 v3)]) rfl (Nat.le_of_ble_eq_true rfl) dX8_leftAt_6 ?_
  have hz2 := (cr_e h).1
  have h := (cr_e h).2
  have hz3 := (cr_e h).1
  have h := (cr_e h).2
  refine v_icmp_ge C (tgt := 44) hz2 hz3 h dX8_leftAt_9 rfl (fun h => ?_) (fun h => ?_)
  · exact he4 _ _ (lv_sub hl [0, 2] rfl) h
  · refine v_iload_n C hl dX8_leftAt_12 rfl 2 rfl ?_
    refine v_aload_n C hl dX8_leftAt_13 rfl 0 rfl ?_
    refine g_X8_18 C kdM_0 fl_X8_31 dX8_leftAt_14 ?_
    refine v_iload_n C hl dX8_leftAt_17 rfl 3 rfl ?_
    refine alM6 C kdM_8 h dX8_leftAt_18 (fun h => ?_)
    have hz4 := (cr_e h).1
    have h := (cr_e h).2
    refine v_if_le C (tgt := 35) hz4 h dX8_leftAt_19 rfl (fun h => ?_) (fun h => ?_)
    · exact wX8_leftAt_35 C hr hc4 (lv_sub hl [0, 1, 3] rfl) h
    · refine v_aload_n C hl dX8_leftAt_22 rfl 0 rfl ?_
      refine v_iload_n C hl dX8_leftAt_23 rfl 3 rfl ?_
      refine v_iload_n C hl dX8_leftAt_24 rfl 1 rfl ?_
      obtain ⟨x_5, hv5, h⟩ := bd_e h
      refine v_callVI C 0 (klM kdM_0) rfl (ckM1 kdM_0 _) rfl [.int (i32 v3), .int (i32 v1)] (mX8_isThere C.2.2.2.2.1 hv5) cd_X8_isThere ic_X8 im_X8_isThere se_X8_isThere ml_X8_190 yk_X8_isThere ⟨rfl, rfl, by decide, by decide⟩ rfl hl.1 (rest := [.int (i32 v2)]) rfl (Nat.le_of_ble_eq_true rfl) dX8_leftAt_25 ?_
      have hz6 := (cr_e h).1
      have h := (cr_e h).2
      refine v_if_eq C (tgt := 35) hz6 h dX8_leftAt_28 rfl (fun h => ?_) (fun h => ?_)
      · exact wX8_leftAt_35 C hr hc4 (lv_sub hl [0, 1, 3] rfl) h
      · refine v_iconst C dX8_leftAt_31 ?_
        refine v_goto C (tgt := 36) dX8_leftAt_32 rfl ?_
        exact wX8_leftAt_36 C hr hc4 (lv_sub hl [0, 1, 3] rfl) h
theorem wlX8_leftAt_4 (C : CxM p rmX8_leftAt s m args meth c D ac q RX8 cX8_leftAt 4) (hr : meth.sig.returnType = (some .int)) {v1 : Int} {σ : Mm} {e4 : Int → Option (Int)} {r : Int} (he4 : ∀ (v2x : Int) (ls : Array Slot), lv_has ls 4 [(0, .ref (q 0)), (2, .int (i32 v2x))] → e4 v2x = some r → VM p l e rmX8_leftAt s m args below meth c D ac q (QIM D ac q below args s (r, σ)) σ (F0 m 44 ls [])) : ∀ (fu : Nat) (v2 : Int) (v3 : Int) (ls : Array Slot) (hl : lv_has ls 4 [(0, .ref (q 0)), (1, .int (i32 v1)), (2, .int (i32 v2)), (3, .int (i32 v3))]) (h : lX8_leftAt_4 v1 σ e4 fu v2 v3 = some r), VM p l e rmX8_leftAt s m args below meth c D ac q (QIM D ac q below args s (r, σ)) σ (F0 m 4 ls []) := by
  intro fu
  induction fu with
  | zero =>
    intro v2 v3 ls hl h
    have h : none = some r := h
    cases h
  | succ fu ih =>
    intro v2 v3 ls hl h
    exact wX8_leftAt_4 C hr he4 (fun v2 v3 ls hl h => ih v2 v3 ls hl h) hl h
theorem mX8_leftAt (hq : QI 19 q) {v1 : Int} {σ : Mm} {r : Int} (h : fX8_leftAt v1 σ = some r) : MIM l D ac q yX8_leftAt cX8_leftAt 4 (some .int) rmX8_leftAt [.ref (q 0), .int (i32 v1)] σ (r, σ) := by
  refine MI.of hq XT_M (by decide) (Nat.le_of_ble_eq_true rfl) (fun p e s m below meth c ls C hr hl => ?_)
  have hl : lv_has ls 4 [(0, .ref (q 0)), (1, .int (i32 v1))] := hl
  have h : bindv 0 (fun v2_1 => bindv 0 (fun v3_2 => lX8_leftAt_4 v1 σ (fun v2_3 => fX8_leftAt_44 v2_3 σ) 400 v2_1 v3_2)) = some r := h
  refine v_iconst C dX8_leftAt_0 ?_
  refine v_istore_n C hl (fun x => [(2, .int (i32 x)), (0, .ref (q 0)), (1, .int (i32 v1))]) dX8_leftAt_1 rfl (by decide) (fun _ => rfl) h (fun v2_1 ls hl h => ?_)
  refine v_iconst C dX8_leftAt_2 ?_
  refine v_istore_n C hl (fun x => [(3, .int (i32 x)), (2, .int (i32 v2_1)), (0, .ref (q 0)), (1, .int (i32 v1))]) dX8_leftAt_3 rfl (by decide) (fun _ => rfl) h (fun v3_2 ls hl h => ?_)
  exact wlX8_leftAt_4 C hr (fun v2_3 ls hl h => wX8_leftAt_44 C hr (lv_sub hl [0, 1] rfl) h) _ _ _ _ (lv_sub hl [2, 3, 1, 0] rfl) h
end
section
variable {l : Launch} {D : va_G} {ac : Nat → ClassId} {q : Nat → Nat} {p : Program} {e : Env} {s : State} {m : MethodId} {args : Array Value} {below : List Frame} {meth : Method} {c : Code} {ls : Array Slot}
theorem dX8_keep_0 : decode cX8_keep 0 = .ok (.iload_n 1, 1) := by decide +kernel
theorem dX8_keep_1 : decode cX8_keep 1 = .ok (.ifCond .ge 5, 3) := by decide +kernel
theorem dX8_keep_4 : decode cX8_keep 4 = .ok (.iconst (-1), 1) := by decide +kernel
theorem dX8_keep_5 : decode cX8_keep 5 = .ok (.ireturn, 1) := by decide +kernel
theorem dX8_keep_6 : decode cX8_keep 6 = .ok (.aload_n 0, 1) := by decide +kernel
theorem dX8_keep_7 : decode cX8_keep 7 = .ok (.invokevirtual 257, 3) := by decide +kernel
theorem dX8_keep_10 : decode cX8_keep 10 = .ok (.iconst 0, 1) := by decide +kernel
theorem dX8_keep_11 : decode cX8_keep 11 = .ok (.istore_n 2, 1) := by decide +kernel
theorem dX8_keep_12 : decode cX8_keep 12 = .ok (.iload_n 2, 1) := by decide +kernel
theorem dX8_keep_13 : decode cX8_keep 13 = .ok (.aload_n 0, 1) := by decide +kernel
theorem dX8_keep_14 : decode cX8_keep 14 = .ok (.getfield 227, 3) := by decide +kernel
theorem dX8_keep_17 : decode cX8_keep 17 = .ok (.if_icmp .gt 20, 3) := by decide +kernel
theorem dX8_keep_20 : decode cX8_keep 20 = .ok (.aload_n 0, 1) := by decide +kernel
theorem dX8_keep_21 : decode cX8_keep 21 = .ok (.iload_n 2, 1) := by decide +kernel
theorem dX8_keep_22 : decode cX8_keep 22 = .ok (.invokevirtual 292, 3) := by decide +kernel
theorem dX8_keep_25 : decode cX8_keep 25 = .ok (.iload_n 1, 1) := by decide +kernel
theorem dX8_keep_26 : decode cX8_keep 26 = .ok (.if_icmp .gt 5, 3) := by decide +kernel
theorem dX8_keep_29 : decode cX8_keep 29 = .ok (.iload_n 2, 1) := by decide +kernel
theorem dX8_keep_30 : decode cX8_keep 30 = .ok (.ireturn, 1) := by decide +kernel
theorem dX8_keep_31 : decode cX8_keep 31 = .ok (.iinc 2 1, 3) := by decide +kernel
theorem dX8_keep_34 : decode cX8_keep 34 = .ok (.goto (-22), 3) := by decide +kernel
theorem dX8_keep_37 : decode cX8_keep 37 = .ok (.bipush (-4), 2) := by decide +kernel
theorem dX8_keep_39 : decode cX8_keep 39 = .ok (.ireturn, 1) := by decide +kernel
theorem wX8_keep_37 (C : CxM p rmX8_keep s m args meth c D ac q RX8 cX8_keep 3) (hr : meth.sig.returnType = (some .int)) {σ : Mm} {r : Int × Mm} (hl : lv_has ls 3 [(0, .ref (q 0))]) (h : fX8_keep_37 σ = some r) : VM p l e rmX8_keep s m args below meth c D ac q (QIM D ac q below args s r) σ (F0 m 37 ls []) := by
  have h : some ((-4), σ) = some r := h
  refine v_bipush C dX8_keep_37 rfl ?_
  exact v_iret C hr h dX8_keep_39
theorem wX8_keep_12 (C : CxM p rmX8_keep s m args meth c D ac q RX8 cX8_keep 3) (hr : meth.sig.returnType = (some .int)) {v1 : Int} {σ : Mm} {v2 : Int} {e12 : Option (Int × Mm)} {c12 : Int → Option (Int × Mm)} {r : Int × Mm} (he12 : ∀ (ls : Array Slot), lv_has ls 3 [(0, .ref (q 0))] → e12 = some r → VM p l e rmX8_keep s m args below meth c D ac q (QIM D ac q below args s r) σ (F0 m 37 ls [])) (hc12 : ∀ (v2x : Int) (ls : Array Slot), lv_has ls 3 [(0, .ref (q 0)), (1, .int (i32 v1)), (2, .int (i32 v2x))] → c12 v2x = some r → VM p l e rmX8_keep s m args below meth c D ac q (QIM D ac q below args s r) σ (F0 m 12 ls [])) (hl : lv_has ls 3 [(0, .ref (q 0)), (1, .int (i32 v1)), (2, .int (i32 v2))]) (h : fX8_keep_12 v1 σ e12 c12 v2 = some r) : VM p l e rmX8_keep s m args below meth c D ac q (QIM D ac q below args s r) σ (F0 m 12 ls []) := by
  have h : cr v2 (cr (σ 0 16) ((if σ 0 16 < v2 then e12 else bd (fX8_leftAt v2 σ) (fun x_3 => cr x_3 (cr v1 ((if v1 < x_3 then bindv (v2 + 1) (fun v2_6 => c12 v2_6) else some (v2, σ)))))))) = some r := h
  refine v_iload_n C hl dX8_keep_12 rfl 2 rfl ?_
  refine v_aload_n C hl dX8_keep_13 rfl 0 rfl ?_
  refine g_X8_16 C kdM_0 fl_X8_227 dX8_keep_14 ?_
  have hz1 := (cr_e h).1
  have h := (cr_e h).2
  have hz2 := (cr_e h).1
  have h := (cr_e h).2
  refine v_icmp_gt C (tgt := 37) hz1 hz2 h dX8_keep_17 rfl (fun h => ?_) (fun h => ?_)
  · exact he12  _ (lv_sub hl [0] rfl) h
  · refine v_aload_n C hl dX8_keep_20 rfl 0 rfl ?_
    refine v_iload_n C hl dX8_keep_21 rfl 2 rfl ?_
    obtain ⟨x_3, hv3, h⟩ := bd_e h
    refine v_callVI C 0 (klM kdM_0) rfl (ckM1 kdM_0 _) rfl [.int (i32 v2)] (mX8_leftAt C.2.2.2.2.1 hv3) cd_X8_leftAt ic_X8 im_X8_leftAt se_X8_leftAt ml_X8_292 yk_X8_leftAt ⟨rfl, rfl, by decide, by decide⟩ rfl hl.1 (rest := []) rfl (Nat.le_of_ble_eq_true rfl) dX8_keep_22 ?_
    refine v_iload_n C hl dX8_keep_25 rfl 1 rfl ?_
    have hz4 := (cr_e h).1
    have h := (cr_e h).2
    have hz5 := (cr_e h).1
    have h := (cr_e h).2
    refine v_icmp_gt C (tgt := 31) hz4 hz5 h dX8_keep_26 rfl (fun h => ?_) (fun h => ?_)
    · refine v_iinc C hl (fun x => [(2, .int (i32 x)), (0, .ref (q 0)), (1, .int (i32 v1))]) dX8_keep_31 2 rfl (by decide) (fun _ => rfl) h (fun v2_6 ls hl h => ?_)
      refine v_goto C (tgt := 12) dX8_keep_34 rfl ?_
      exact hc12 _ _ (lv_sub hl [1, 2, 0] rfl) h
    · refine v_iload_n C hl dX8_keep_29 rfl 2 rfl ?_
      exact v_iret C hr h dX8_keep_30
theorem wlX8_keep_12 (C : CxM p rmX8_keep s m args meth c D ac q RX8 cX8_keep 3) (hr : meth.sig.returnType = (some .int)) {v1 : Int} {σ : Mm} {e12 : Option (Int × Mm)} {r : Int × Mm} (he12 : ∀ (ls : Array Slot), lv_has ls 3 [(0, .ref (q 0))] → e12 = some r → VM p l e rmX8_keep s m args below meth c D ac q (QIM D ac q below args s r) σ (F0 m 37 ls [])) : ∀ (fu : Nat) (v2 : Int) (ls : Array Slot) (hl : lv_has ls 3 [(0, .ref (q 0)), (1, .int (i32 v1)), (2, .int (i32 v2))]) (h : lX8_keep_12 v1 σ e12 fu v2 = some r), VM p l e rmX8_keep s m args below meth c D ac q (QIM D ac q below args s r) σ (F0 m 12 ls []) := by
  intro fu
  induction fu with
  | zero =>
    intro v2 ls hl h
    have h : none = some r := h
    cases h
  | succ fu ih =>
    intro v2 ls hl h
    exact wX8_keep_12 C hr he12 (fun v2 ls hl h => ih v2 ls hl h) hl h
theorem mX8_keep (hq : QI 19 q) {v1 : Int} {σ : Mm} {r : Int × Mm} (h : fX8_keep v1 σ = some r) : MIM l D ac q yX8_keep cX8_keep 3 (some .int) rmX8_keep [.ref (q 0), .int (i32 v1)] σ r := by
  refine MI.of hq XT_M (by decide) (Nat.le_of_ble_eq_true rfl) (fun p e s m below meth c ls C hr hl => ?_)
  have hl : lv_has ls 3 [(0, .ref (q 0)), (1, .int (i32 v1))] := hl
  have h : cr v1 ((if v1 < 0 then some ((-1), σ) else bd (fX8_makes σ) (fun σ_2 => bindv 0 (fun v2_3 => lX8_keep_12 v1 σ_2 (fX8_keep_37 σ_2) 400 v2_3)))) = some r := h
  refine v_iload_n C hl dX8_keep_0 rfl 1 rfl ?_
  have hz1 := (cr_e h).1
  have h := (cr_e h).2
  refine v_if_ge C (tgt := 6) hz1 h dX8_keep_1 rfl (fun h => ?_) (fun h => ?_)
  · refine v_aload_n C hl dX8_keep_6 rfl 0 rfl ?_
    obtain ⟨σ_2, hv2, h⟩ := bd_e h
    refine v_callVV C 0 (klM kdM_0) rfl (ckM1 kdM_0 _) rfl [] (mX8_makes C.2.2.2.2.1 hv2) cd_X8_makes ic_X8 im_X8_makes se_X8_makes ml_X8_257 yk_X8_makes ⟨rfl, rfl, by decide, by decide⟩ rfl hl.1 (rest := []) rfl (Nat.le_of_ble_eq_true rfl) dX8_keep_7 ?_
    refine v_iconst C dX8_keep_10 ?_
    refine v_istore_n C hl (fun x => [(2, .int (i32 x)), (0, .ref (q 0)), (1, .int (i32 v1))]) dX8_keep_11 rfl (by decide) (fun _ => rfl) h (fun v2_3 ls hl h => ?_)
    exact wlX8_keep_12 C hr (fun ls hl h => wX8_keep_37 C hr (lv_sub hl [0] rfl) h) _ _ _ (lv_sub hl [1, 2, 0] rfl) h
  · refine v_iconst C dX8_keep_4 ?_
    exact v_iret C hr h dX8_keep_5
end
section
variable {l : Launch} {D : va_G} {ac : Nat → ClassId} {q : Nat → Nat} {p : Program} {e : Env} {s : State} {m : MethodId} {args : Array Value} {below : List Frame} {meth : Method} {c : Code} {ls : Array Slot}
theorem dX8_lay_0 : decode cX8_lay 0 = .ok (.iload_n 1, 1) := by decide +kernel
theorem dX8_lay_1 : decode cX8_lay 1 = .ok (.i2l, 1) := by decide +kernel
theorem dX8_lay_2 : decode cX8_lay 2 = .ok (.lconst 0, 1) := by decide +kernel
theorem dX8_lay_3 : decode cX8_lay 3 = .ok (.ldc2_w 309, 3) := by decide +kernel
theorem dX8_lay_6 : decode cX8_lay 6 = .ok (.invokestatic 67, 3) := by decide +kernel
theorem dX8_lay_9 : decode cX8_lay 9 = .ok (.ifCond .ne 5, 3) := by decide +kernel
theorem dX8_lay_12 : decode cX8_lay 12 = .ok (.iconst (-1), 1) := by decide +kernel
theorem dX8_lay_13 : decode cX8_lay 13 = .ok (.ireturn, 1) := by decide +kernel
theorem dX8_lay_14 : decode cX8_lay 14 = .ok (.aload_n 0, 1) := by decide +kernel
theorem dX8_lay_15 : decode cX8_lay 15 = .ok (.getfield 56, 3) := by decide +kernel
theorem dX8_lay_18 : decode cX8_lay 18 = .ok (.iload_n 1, 1) := by decide +kernel
theorem dX8_lay_19 : decode cX8_lay 19 = .ok (.iaload, 1) := by decide +kernel
theorem dX8_lay_20 : decode cX8_lay 20 = .ok (.bipush (-4), 2) := by decide +kernel
theorem dX8_lay_22 : decode cX8_lay 22 = .ok (.if_icmp .ne 6, 3) := by decide +kernel
theorem dX8_lay_25 : decode cX8_lay 25 = .ok (.bipush (-11), 2) := by decide +kernel
theorem dX8_lay_27 : decode cX8_lay 27 = .ok (.ireturn, 1) := by decide +kernel
theorem dX8_lay_28 : decode cX8_lay 28 = .ok (.iload_n 2, 1) := by decide +kernel
theorem dX8_lay_29 : decode cX8_lay 29 = .ok (.i2l, 1) := by decide +kernel
theorem dX8_lay_30 : decode cX8_lay 30 = .ok (.lconst 0, 1) := by decide +kernel
theorem dX8_lay_31 : decode cX8_lay 31 = .ok (.aload_n 0, 1) := by decide +kernel
theorem dX8_lay_32 : decode cX8_lay 32 = .ok (.getfield 59, 3) := by decide +kernel
theorem dX8_lay_35 : decode cX8_lay 35 = .ok (.iload_n 1, 1) := by decide +kernel
theorem dX8_lay_36 : decode cX8_lay 36 = .ok (.iaload, 1) := by decide +kernel
theorem dX8_lay_37 : decode cX8_lay 37 = .ok (.iconst 1, 1) := by decide +kernel
theorem dX8_lay_38 : decode cX8_lay 38 = .ok (.isub, 1) := by decide +kernel
theorem dX8_lay_39 : decode cX8_lay 39 = .ok (.i2l, 1) := by decide +kernel
theorem dX8_lay_40 : decode cX8_lay 40 = .ok (.invokestatic 67, 3) := by decide +kernel
theorem dX8_lay_43 : decode cX8_lay 43 = .ok (.ifCond .ne 6, 3) := by decide +kernel
theorem dX8_lay_46 : decode cX8_lay 46 = .ok (.bipush (-12), 2) := by decide +kernel
theorem dX8_lay_48 : decode cX8_lay 48 = .ok (.ireturn, 1) := by decide +kernel
theorem dX8_lay_49 : decode cX8_lay 49 = .ok (.aload_n 0, 1) := by decide +kernel
theorem dX8_lay_50 : decode cX8_lay 50 = .ok (.getfield 62, 3) := by decide +kernel
theorem dX8_lay_53 : decode cX8_lay 53 = .ok (.bipush 40, 2) := by decide +kernel
theorem dX8_lay_55 : decode cX8_lay 55 = .ok (.iload_n 1, 1) := by decide +kernel
theorem dX8_lay_56 : decode cX8_lay 56 = .ok (.imul, 1) := by decide +kernel
theorem dX8_lay_57 : decode cX8_lay 57 = .ok (.iload_n 2, 1) := by decide +kernel
theorem dX8_lay_58 : decode cX8_lay 58 = .ok (.iadd, 1) := by decide +kernel
theorem dX8_lay_59 : decode cX8_lay 59 = .ok (.aload_n 0, 1) := by decide +kernel
theorem dX8_lay_60 : decode cX8_lay 60 = .ok (.getfield 56, 3) := by decide +kernel
theorem dX8_lay_63 : decode cX8_lay 63 = .ok (.iload_n 1, 1) := by decide +kernel
theorem dX8_lay_64 : decode cX8_lay 64 = .ok (.iaload, 1) := by decide +kernel
theorem dX8_lay_65 : decode cX8_lay 65 = .ok (.ifCond .ne 13, 3) := by decide +kernel
theorem dX8_lay_68 : decode cX8_lay 68 = .ok (.iload_n 3, 1) := by decide +kernel
theorem dX8_lay_69 : decode cX8_lay 69 = .ok (.bipush 24, 2) := by decide +kernel
theorem dX8_lay_71 : decode cX8_lay 71 = .ok (.ishl, 1) := by decide +kernel
theorem dX8_lay_72 : decode cX8_lay 72 = .ok (.bipush 24, 2) := by decide +kernel
theorem dX8_lay_74 : decode cX8_lay 74 = .ok (.ishr, 1) := by decide +kernel
theorem dX8_lay_75 : decode cX8_lay 75 = .ok (.goto 24, 3) := by decide +kernel
theorem dX8_lay_78 : decode cX8_lay 78 = .ok (.aload_n 0, 1) := by decide +kernel
theorem dX8_lay_79 : decode cX8_lay 79 = .ok (.getfield 56, 3) := by decide +kernel
theorem dX8_lay_82 : decode cX8_lay 82 = .ok (.iload_n 1, 1) := by decide +kernel
theorem dX8_lay_83 : decode cX8_lay 83 = .ok (.iaload, 1) := by decide +kernel
theorem dX8_lay_84 : decode cX8_lay 84 = .ok (.iconst 1, 1) := by decide +kernel
theorem dX8_lay_85 : decode cX8_lay 85 = .ok (.if_icmp .ne 13, 3) := by decide +kernel
theorem dX8_lay_88 : decode cX8_lay 88 = .ok (.iload_n 3, 1) := by decide +kernel
theorem dX8_lay_89 : decode cX8_lay 89 = .ok (.bipush 16, 2) := by decide +kernel
theorem dX8_lay_91 : decode cX8_lay 91 = .ok (.ishl, 1) := by decide +kernel
theorem dX8_lay_92 : decode cX8_lay 92 = .ok (.bipush 16, 2) := by decide +kernel
theorem dX8_lay_94 : decode cX8_lay 94 = .ok (.ishr, 1) := by decide +kernel
theorem dX8_lay_95 : decode cX8_lay 95 = .ok (.goto 4, 3) := by decide +kernel
theorem dX8_lay_98 : decode cX8_lay 98 = .ok (.iload_n 3, 1) := by decide +kernel
theorem dX8_lay_99 : decode cX8_lay 99 = .ok (.iastore, 1) := by decide +kernel
theorem dX8_lay_100 : decode cX8_lay 100 = .ok (.iconst 1, 1) := by decide +kernel
theorem dX8_lay_101 : decode cX8_lay 101 = .ok (.ireturn, 1) := by decide +kernel
theorem wX8_lay_99 (C : CxM p rmX8_lay s m args meth c D ac q RX8 cX8_lay 4) (hr : meth.sig.returnType = (some .int)) {t1 : Int} {t2 : Int} {σ : Mm} {r : Int × Mm} (hl : lv_has ls 4 [(0, .ref (q 0))]) (h : fX8_lay_99 t1 t2 σ = some r) : VM p l e rmX8_lay s m args below meth c D ac q (QIM D ac q below args s r) σ (F0 m 99 ls [.int (i32 t2), .int (i32 t1), .ref (q 18)]) := by
  have h : chk t1 160 (bindv (sto σ 18 (t1).toNat t2) (fun σ_1 => some (1, σ_1))) = some r := h
  refine asM12 C kdM_18 h dX8_lay_99 (fun σ_1 h => ?_)
  refine v_iconst C dX8_lay_100 ?_
  exact v_iret C hr h dX8_lay_101
theorem mX8_lay (hq : QI 19 q) {v1 : Int} {v2 : Int} {v3 : Int} {σ : Mm} {r : Int × Mm} (h : fX8_lay v1 v2 v3 σ = some r) : MIM l D ac q yX8_lay cX8_lay 4 (some .int) rmX8_lay [.ref (q 0), .int (i32 v1), .int (i32 v2), .int (i32 v3)] σ r := by
  refine MI.of hq XT_M (by decide) (Nat.le_of_ble_eq_true rfl) (fun p e s m below meth c ls C hr hl => ?_)
  have hl : lv_has ls 4 [(0, .ref (q 0)), (1, .int (i32 v1)), (2, .int (i32 v2)), (3, .int (i32 v3))] := hl
  have h : cr v1 (bd (fX8_in v1 0 3 σ) (fun x_1 => cr x_1 ((if x_1 = 0 then some ((-1), σ) else chk v1 4 (cr (σ 16 (v1).toNat) ((if σ 16 (v1).toNat = (-4) then some ((-11), σ) else cr v2 (chk v1 4 (cr ((σ 17 (v1).toNat) - 1) (bd (fX8_in v2 0 ((σ 17 (v1).toNat) - 1) σ) (fun x_4 => cr x_4 ((if x_4 = 0 then some ((-12), σ) else chk v1 4 (cr (σ 16 (v1).toNat) ((if σ 16 (v1).toNat = 0 then fX8_lay_99 ((40 * v1) + v2) (shrI (shlI v3 24) 24) σ else chk v1 4 (cr (σ 16 (v1).toNat) ((if σ 16 (v1).toNat = 1 then fX8_lay_99 ((40 * v1) + v2) (shrI (shlI v3 16) 16) σ else fX8_lay_99 ((40 * v1) + v2) v3 σ))))))))))))))))))) = some r := h
  refine v_iload_n C hl dX8_lay_0 rfl 1 rfl ?_
  refine v_i2l C h dX8_lay_1 (fun h => ?_)
  refine v_lconst C (v := 0) dX8_lay_2 rfl ?_
  refine v_ldc2 C (v := 3) kc_X8_309 rfl dX8_lay_3 ?_
  obtain ⟨x_1, hv1, h⟩ := bd_e h
  refine v_callSI C [.long (i64 v1), .long (i64 0), .long (i64 3)] (mX8_in C.2.2.2.2.1 hv1) cd_X8_in ic_X8 sm_X8_in ml_X8_67 yk_X8_in ⟨rfl, rfl, by decide, by decide⟩ rfl hl.1 (rest := []) rfl (Nat.le_of_ble_eq_true rfl) dX8_lay_6 ?_
  have hz2 := (cr_e h).1
  have h := (cr_e h).2
  refine v_if_ne C (tgt := 14) hz2 h dX8_lay_9 rfl (fun h => ?_) (fun h => ?_)
  · refine v_aload_n C hl dX8_lay_14 rfl 0 rfl ?_
    refine g_X8_27 C kdM_0 fl_X8_56 dX8_lay_15 ?_
    refine v_iload_n C hl dX8_lay_18 rfl 1 rfl ?_
    refine alM4 C kdM_16 h dX8_lay_19 (fun h => ?_)
    refine v_bipush C dX8_lay_20 rfl ?_
    have hz3 := (cr_e h).1
    have h := (cr_e h).2
    refine v_icmp_ne C (tgt := 28) hz3 (by decide) h dX8_lay_22 rfl (fun h => ?_) (fun h => ?_)
    · refine v_iload_n C hl dX8_lay_28 rfl 2 rfl ?_
      refine v_i2l C h dX8_lay_29 (fun h => ?_)
      refine v_lconst C (v := 0) dX8_lay_30 rfl ?_
      refine v_aload_n C hl dX8_lay_31 rfl 0 rfl ?_
      refine g_X8_28 C kdM_0 fl_X8_59 dX8_lay_32 ?_
      refine v_iload_n C hl dX8_lay_35 rfl 1 rfl ?_
      refine alM4 C kdM_17 h dX8_lay_36 (fun h => ?_)
      refine v_iconst C dX8_lay_37 ?_
      refine v_isub C dX8_lay_38 ?_
      refine v_i2l C h dX8_lay_39 (fun h => ?_)
      obtain ⟨x_4, hv4, h⟩ := bd_e h
      refine v_callSI C [.long (i64 v2), .long (i64 0), .long (i64 ((σ 17 (v1).toNat) - 1))] (mX8_in C.2.2.2.2.1 hv4) cd_X8_in ic_X8 sm_X8_in ml_X8_67 yk_X8_in ⟨rfl, rfl, by decide, by decide⟩ rfl hl.1 (rest := []) rfl (Nat.le_of_ble_eq_true rfl) dX8_lay_40 ?_
      have hz5 := (cr_e h).1
      have h := (cr_e h).2
      refine v_if_ne C (tgt := 49) hz5 h dX8_lay_43 rfl (fun h => ?_) (fun h => ?_)
      · refine v_aload_n C hl dX8_lay_49 rfl 0 rfl ?_
        refine g_X8_29 C kdM_0 fl_X8_62 dX8_lay_50 ?_
        refine v_bipush C dX8_lay_53 rfl ?_
        refine v_iload_n C hl dX8_lay_55 rfl 1 rfl ?_
        refine v_imul C dX8_lay_56 ?_
        refine v_iload_n C hl dX8_lay_57 rfl 2 rfl ?_
        refine v_iadd C dX8_lay_58 ?_
        refine v_aload_n C hl dX8_lay_59 rfl 0 rfl ?_
        refine g_X8_27 C kdM_0 fl_X8_56 dX8_lay_60 ?_
        refine v_iload_n C hl dX8_lay_63 rfl 1 rfl ?_
        refine alM4 C kdM_16 h dX8_lay_64 (fun h => ?_)
        have hz6 := (cr_e h).1
        have h := (cr_e h).2
        refine v_if_ne C (tgt := 78) hz6 h dX8_lay_65 rfl (fun h => ?_) (fun h => ?_)
        · refine v_aload_n C hl dX8_lay_78 rfl 0 rfl ?_
          refine g_X8_27 C kdM_0 fl_X8_56 dX8_lay_79 ?_
          refine v_iload_n C hl dX8_lay_82 rfl 1 rfl ?_
          refine alM4 C kdM_16 h dX8_lay_83 (fun h => ?_)
          refine v_iconst C dX8_lay_84 ?_
          have hz7 := (cr_e h).1
          have h := (cr_e h).2
          refine v_icmp_ne C (tgt := 98) hz7 (by decide) h dX8_lay_85 rfl (fun h => ?_) (fun h => ?_)
          · refine v_iload_n C hl dX8_lay_98 rfl 3 rfl ?_
            exact wX8_lay_99 C hr (lv_sub hl [0] rfl) h
          · refine v_iload_n C hl dX8_lay_88 rfl 3 rfl ?_
            refine v_bipush C dX8_lay_89 rfl ?_
            refine v_ishl C dX8_lay_91 ?_
            refine v_bipush C dX8_lay_92 rfl ?_
            refine v_ishr C dX8_lay_94 ?_
            refine v_goto C (tgt := 99) dX8_lay_95 rfl ?_
            exact wX8_lay_99 C hr (lv_sub hl [0] rfl) h
        · refine v_iload_n C hl dX8_lay_68 rfl 3 rfl ?_
          refine v_bipush C dX8_lay_69 rfl ?_
          refine v_ishl C dX8_lay_71 ?_
          refine v_bipush C dX8_lay_72 rfl ?_
          refine v_ishr C dX8_lay_74 ?_
          refine v_goto C (tgt := 99) dX8_lay_75 rfl ?_
          exact wX8_lay_99 C hr (lv_sub hl [0] rfl) h
      · refine v_bipush C dX8_lay_46 rfl ?_
        exact v_iret C hr h dX8_lay_48
    · refine v_bipush C dX8_lay_25 rfl ?_
      exact v_iret C hr h dX8_lay_27
  · refine v_iconst C dX8_lay_12 ?_
    exact v_iret C hr h dX8_lay_13
end
section
variable {l : Launch} {D : va_G} {ac : Nat → ClassId} {q : Nat → Nat} {p : Program} {e : Env} {s : State} {m : MethodId} {args : Array Value} {below : List Frame} {meth : Method} {c : Code} {ls : Array Slot}
theorem dX8_left_0 : decode cX8_left 0 = .ok (.aload_n 0, 1) := by decide +kernel
theorem dX8_left_1 : decode cX8_left 1 = .ok (.iload_n 1, 1) := by decide +kernel
theorem dX8_left_2 : decode cX8_left 2 = .ok (.invokevirtual 278, 3) := by decide +kernel
theorem dX8_left_5 : decode cX8_left 5 = .ok (.ifCond .eq 11, 3) := by decide +kernel
theorem dX8_left_8 : decode cX8_left 8 = .ok (.aload_n 0, 1) := by decide +kernel
theorem dX8_left_9 : decode cX8_left 9 = .ok (.iload_n 1, 1) := by decide +kernel
theorem dX8_left_10 : decode cX8_left 10 = .ok (.invokevirtual 292, 3) := by decide +kernel
theorem dX8_left_13 : decode cX8_left 13 = .ok (.goto 4, 3) := by decide +kernel
theorem dX8_left_16 : decode cX8_left 16 = .ok (.iconst (-1), 1) := by decide +kernel
theorem dX8_left_17 : decode cX8_left 17 = .ok (.ireturn, 1) := by decide +kernel
theorem wX8_left_17 (C : CxM p rmX8_left s m args meth c D ac q RX8 cX8_left 2) (hr : meth.sig.returnType = (some .int)) {t0 : Int} {σ : Mm} {r : Int × Mm} (hl : lv_has ls 2 [(0, .ref (q 0))]) (h : fX8_left_17 t0 σ = some r) : VM p l e rmX8_left s m args below meth c D ac q (QIM D ac q below args s r) σ (F0 m 17 ls [.int (i32 t0)]) := by
  have h : some (t0, σ) = some r := h
  exact v_iret C hr h dX8_left_17
theorem mX8_left (hq : QI 19 q) {v1 : Int} {σ : Mm} {r : Int × Mm} (h : fX8_left v1 σ = some r) : MIM l D ac q yX8_left cX8_left 2 (some .int) rmX8_left [.ref (q 0), .int (i32 v1)] σ r := by
  refine MI.of hq XT_M (by decide) (Nat.le_of_ble_eq_true rfl) (fun p e s m below meth c ls C hr hl => ?_)
  have hl : lv_has ls 2 [(0, .ref (q 0)), (1, .int (i32 v1))] := hl
  have h : bd2 (fX8_isStage v1 σ) (fun x_1 σ_1 => cr x_1 ((if x_1 = 0 then fX8_left_17 (-1) σ_1 else bd (fX8_leftAt v1 σ_1) (fun x_3 => fX8_left_17 x_3 σ_1)))) = some r := h
  refine v_aload_n C hl dX8_left_0 rfl 0 rfl ?_
  refine v_iload_n C hl dX8_left_1 rfl 1 rfl ?_
  obtain ⟨x_1, σ_1, hv1, h⟩ := bd2_e h
  refine v_callVI C 0 (klM kdM_0) rfl (ckM1 kdM_0 _) rfl [.int (i32 v1)] (mX8_isStage C.2.2.2.2.1 hv1) cd_X8_isStage ic_X8 im_X8_isStage se_X8_isStage ml_X8_278 yk_X8_isStage ⟨rfl, rfl, by decide, by decide⟩ rfl hl.1 (rest := []) rfl (Nat.le_of_ble_eq_true rfl) dX8_left_2 ?_
  have hz2 := (cr_e h).1
  have h := (cr_e h).2
  refine v_if_eq C (tgt := 16) hz2 h dX8_left_5 rfl (fun h => ?_) (fun h => ?_)
  · refine v_iconst C dX8_left_16 ?_
    exact wX8_left_17 C hr (lv_sub hl [0] rfl) h
  · refine v_aload_n C hl dX8_left_8 rfl 0 rfl ?_
    refine v_iload_n C hl dX8_left_9 rfl 1 rfl ?_
    obtain ⟨x_3, hv3, h⟩ := bd_e h
    refine v_callVI C 0 (klM kdM_0) rfl (ckM1 kdM_0 _) rfl [.int (i32 v1)] (mX8_leftAt C.2.2.2.2.1 hv3) cd_X8_leftAt ic_X8 im_X8_leftAt se_X8_leftAt ml_X8_292 yk_X8_leftAt ⟨rfl, rfl, by decide, by decide⟩ rfl hl.1 (rest := []) rfl (Nat.le_of_ble_eq_true rfl) dX8_left_10 ?_
    refine v_goto C (tgt := 17) dX8_left_13 rfl ?_
    exact wX8_left_17 C hr (lv_sub hl [0] rfl) h
end
section
variable {l : Launch} {D : va_G} {ac : Nat → ClassId} {q : Nat → Nat} {p : Program} {e : Env} {s : State} {m : MethodId} {args : Array Value} {below : List Frame} {meth : Method} {c : Code} {ls : Array Slot}
theorem dX8_lies_0 : decode cX8_lies 0 = .ok (.iconst 0, 1) := by decide +kernel
theorem dX8_lies_1 : decode cX8_lies 1 = .ok (.istore 4, 2) := by decide +kernel
theorem dX8_lies_3 : decode cX8_lies 3 = .ok (.iconst 0, 1) := by decide +kernel
theorem dX8_lies_4 : decode cX8_lies 4 = .ok (.istore 5, 2) := by decide +kernel
theorem dX8_lies_6 : decode cX8_lies 6 = .ok (.iload 5, 2) := by decide +kernel
theorem dX8_lies_8 : decode cX8_lies 8 = .ok (.iload_n 3, 1) := by decide +kernel
theorem dX8_lies_9 : decode cX8_lies 9 = .ok (.if_icmp .ge 194, 3) := by decide +kernel
theorem dX8_lies_12 : decode cX8_lies 12 = .ok (.aload_n 0, 1) := by decide +kernel
theorem dX8_lies_13 : decode cX8_lies 13 = .ok (.getfield 34, 3) := by decide +kernel
theorem dX8_lies_16 : decode cX8_lies 16 = .ok (.iload 5, 2) := by decide +kernel
theorem dX8_lies_18 : decode cX8_lies 18 = .ok (.iaload, 1) := by decide +kernel
theorem dX8_lies_19 : decode cX8_lies 19 = .ok (.istore 6, 2) := by decide +kernel
theorem dX8_lies_21 : decode cX8_lies 21 = .ok (.aload_n 0, 1) := by decide +kernel
theorem dX8_lies_22 : decode cX8_lies 22 = .ok (.getfield 34, 3) := by decide +kernel
theorem dX8_lies_25 : decode cX8_lies 25 = .ok (.iload 5, 2) := by decide +kernel
theorem dX8_lies_27 : decode cX8_lies 27 = .ok (.iconst 1, 1) := by decide +kernel
theorem dX8_lies_28 : decode cX8_lies 28 = .ok (.iadd, 1) := by decide +kernel
theorem dX8_lies_29 : decode cX8_lies 29 = .ok (.iload_n 3, 1) := by decide +kernel
theorem dX8_lies_30 : decode cX8_lies 30 = .ok (.irem, 1) := by decide +kernel
theorem dX8_lies_31 : decode cX8_lies 31 = .ok (.iaload, 1) := by decide +kernel
theorem dX8_lies_32 : decode cX8_lies 32 = .ok (.istore 7, 2) := by decide +kernel
theorem dX8_lies_34 : decode cX8_lies 34 = .ok (.aload_n 0, 1) := by decide +kernel
theorem dX8_lies_35 : decode cX8_lies 35 = .ok (.iload_n 1, 1) := by decide +kernel
theorem dX8_lies_36 : decode cX8_lies 36 = .ok (.iload_n 2, 1) := by decide +kernel
theorem dX8_lies_37 : decode cX8_lies 37 = .ok (.iload 6, 2) := by decide +kernel
theorem dX8_lies_39 : decode cX8_lies 39 = .ok (.iload 7, 2) := by decide +kernel
theorem dX8_lies_41 : decode cX8_lies 41 = .ok (.invokevirtual 295, 3) := by decide +kernel
theorem dX8_lies_44 : decode cX8_lies 44 = .ok (.ifCond .eq 5, 3) := by decide +kernel
theorem dX8_lies_47 : decode cX8_lies 47 = .ok (.iconst 2, 1) := by decide +kernel
theorem dX8_lies_48 : decode cX8_lies 48 = .ok (.ireturn, 1) := by decide +kernel
theorem dX8_lies_49 : decode cX8_lies 49 = .ok (.aload_n 0, 1) := by decide +kernel
theorem dX8_lies_50 : decode cX8_lies 50 = .ok (.getfield 7, 3) := by decide +kernel
theorem dX8_lies_53 : decode cX8_lies 53 = .ok (.bipush 24, 2) := by decide +kernel
theorem dX8_lies_55 : decode cX8_lies 55 = .ok (.iload 6, 2) := by decide +kernel
theorem dX8_lies_57 : decode cX8_lies 57 = .ok (.iadd, 1) := by decide +kernel
theorem dX8_lies_58 : decode cX8_lies 58 = .ok (.iaload, 1) := by decide +kernel
theorem dX8_lies_59 : decode cX8_lies 59 = .ok (.iload_n 2, 1) := by decide +kernel
theorem dX8_lies_60 : decode cX8_lies 60 = .ok (.if_icmp .le 7, 3) := by decide +kernel
theorem dX8_lies_63 : decode cX8_lies 63 = .ok (.iconst 1, 1) := by decide +kernel
theorem dX8_lies_64 : decode cX8_lies 64 = .ok (.goto 4, 3) := by decide +kernel
theorem dX8_lies_67 : decode cX8_lies 67 = .ok (.iconst 0, 1) := by decide +kernel
theorem dX8_lies_68 : decode cX8_lies 68 = .ok (.istore 8, 2) := by decide +kernel
theorem dX8_lies_70 : decode cX8_lies 70 = .ok (.aload_n 0, 1) := by decide +kernel
theorem dX8_lies_71 : decode cX8_lies 71 = .ok (.getfield 7, 3) := by decide +kernel
theorem dX8_lies_74 : decode cX8_lies 74 = .ok (.bipush 24, 2) := by decide +kernel
theorem dX8_lies_76 : decode cX8_lies 76 = .ok (.iload 7, 2) := by decide +kernel
theorem dX8_lies_78 : decode cX8_lies 78 = .ok (.iadd, 1) := by decide +kernel
theorem dX8_lies_79 : decode cX8_lies 79 = .ok (.iaload, 1) := by decide +kernel
theorem dX8_lies_80 : decode cX8_lies 80 = .ok (.iload_n 2, 1) := by decide +kernel
theorem dX8_lies_81 : decode cX8_lies 81 = .ok (.if_icmp .le 7, 3) := by decide +kernel
theorem dX8_lies_84 : decode cX8_lies 84 = .ok (.iconst 1, 1) := by decide +kernel
theorem dX8_lies_85 : decode cX8_lies 85 = .ok (.goto 4, 3) := by decide +kernel
theorem dX8_lies_88 : decode cX8_lies 88 = .ok (.iconst 0, 1) := by decide +kernel
theorem dX8_lies_89 : decode cX8_lies 89 = .ok (.istore 9, 2) := by decide +kernel
theorem dX8_lies_91 : decode cX8_lies 91 = .ok (.iload 8, 2) := by decide +kernel
theorem dX8_lies_93 : decode cX8_lies 93 = .ok (.iload 9, 2) := by decide +kernel
theorem dX8_lies_95 : decode cX8_lies 95 = .ok (.if_icmp .eq 102, 3) := by decide +kernel
theorem dX8_lies_98 : decode cX8_lies 98 = .ok (.aload_n 0, 1) := by decide +kernel
theorem dX8_lies_99 : decode cX8_lies 99 = .ok (.getfield 7, 3) := by decide +kernel
theorem dX8_lies_102 : decode cX8_lies 102 = .ok (.iload 6, 2) := by decide +kernel
theorem dX8_lies_104 : decode cX8_lies 104 = .ok (.iaload, 1) := by decide +kernel
theorem dX8_lies_105 : decode cX8_lies 105 = .ok (.aload_n 0, 1) := by decide +kernel
theorem dX8_lies_106 : decode cX8_lies 106 = .ok (.getfield 7, 3) := by decide +kernel
theorem dX8_lies_109 : decode cX8_lies 109 = .ok (.bipush 24, 2) := by decide +kernel
theorem dX8_lies_111 : decode cX8_lies 111 = .ok (.iload 6, 2) := by decide +kernel
theorem dX8_lies_113 : decode cX8_lies 113 = .ok (.iadd, 1) := by decide +kernel
theorem dX8_lies_114 : decode cX8_lies 114 = .ok (.iaload, 1) := by decide +kernel
theorem dX8_lies_115 : decode cX8_lies 115 = .ok (.aload_n 0, 1) := by decide +kernel
theorem dX8_lies_116 : decode cX8_lies 116 = .ok (.getfield 7, 3) := by decide +kernel
theorem dX8_lies_119 : decode cX8_lies 119 = .ok (.iload 7, 2) := by decide +kernel
theorem dX8_lies_121 : decode cX8_lies 121 = .ok (.iaload, 1) := by decide +kernel
theorem dX8_lies_122 : decode cX8_lies 122 = .ok (.aload_n 0, 1) := by decide +kernel
theorem dX8_lies_123 : decode cX8_lies 123 = .ok (.getfield 7, 3) := by decide +kernel
theorem dX8_lies_126 : decode cX8_lies 126 = .ok (.bipush 24, 2) := by decide +kernel
theorem dX8_lies_128 : decode cX8_lies 128 = .ok (.iload 7, 2) := by decide +kernel
theorem dX8_lies_130 : decode cX8_lies 130 = .ok (.iadd, 1) := by decide +kernel
theorem dX8_lies_131 : decode cX8_lies 131 = .ok (.iaload, 1) := by decide +kernel
theorem dX8_lies_132 : decode cX8_lies 132 = .ok (.iload_n 1, 1) := by decide +kernel
theorem dX8_lies_133 : decode cX8_lies 133 = .ok (.iload_n 2, 1) := by decide +kernel
theorem dX8_lies_134 : decode cX8_lies 134 = .ok (.invokestatic 153, 3) := by decide +kernel
theorem dX8_lies_137 : decode cX8_lies 137 = .ok (.istore 10, 2) := by decide +kernel
theorem dX8_lies_139 : decode cX8_lies 139 = .ok (.aload_n 0, 1) := by decide +kernel
theorem dX8_lies_140 : decode cX8_lies 140 = .ok (.getfield 7, 3) := by decide +kernel
theorem dX8_lies_143 : decode cX8_lies 143 = .ok (.bipush 24, 2) := by decide +kernel
theorem dX8_lies_145 : decode cX8_lies 145 = .ok (.iload 7, 2) := by decide +kernel
theorem dX8_lies_147 : decode cX8_lies 147 = .ok (.iadd, 1) := by decide +kernel
theorem dX8_lies_148 : decode cX8_lies 148 = .ok (.iaload, 1) := by decide +kernel
theorem dX8_lies_149 : decode cX8_lies 149 = .ok (.aload_n 0, 1) := by decide +kernel
theorem dX8_lies_150 : decode cX8_lies 150 = .ok (.getfield 7, 3) := by decide +kernel
theorem dX8_lies_153 : decode cX8_lies 153 = .ok (.bipush 24, 2) := by decide +kernel
theorem dX8_lies_155 : decode cX8_lies 155 = .ok (.iload 6, 2) := by decide +kernel
theorem dX8_lies_157 : decode cX8_lies 157 = .ok (.iadd, 1) := by decide +kernel
theorem dX8_lies_158 : decode cX8_lies 158 = .ok (.iaload, 1) := by decide +kernel
theorem dX8_lies_159 : decode cX8_lies 159 = .ok (.if_icmp .le 16, 3) := by decide +kernel
theorem dX8_lies_162 : decode cX8_lies 162 = .ok (.iload 10, 2) := by decide +kernel
theorem dX8_lies_164 : decode cX8_lies 164 = .ok (.ifCond .le 7, 3) := by decide +kernel
theorem dX8_lies_167 : decode cX8_lies 167 = .ok (.iconst 1, 1) := by decide +kernel
theorem dX8_lies_168 : decode cX8_lies 168 = .ok (.goto 17, 3) := by decide +kernel
theorem dX8_lies_171 : decode cX8_lies 171 = .ok (.iconst 0, 1) := by decide +kernel
theorem dX8_lies_172 : decode cX8_lies 172 = .ok (.goto 13, 3) := by decide +kernel
theorem dX8_lies_175 : decode cX8_lies 175 = .ok (.iload 10, 2) := by decide +kernel
theorem dX8_lies_177 : decode cX8_lies 177 = .ok (.ifCond .ge 7, 3) := by decide +kernel
theorem dX8_lies_180 : decode cX8_lies 180 = .ok (.iconst 1, 1) := by decide +kernel
theorem dX8_lies_181 : decode cX8_lies 181 = .ok (.goto 4, 3) := by decide +kernel
theorem dX8_lies_184 : decode cX8_lies 184 = .ok (.iconst 0, 1) := by decide +kernel
theorem dX8_lies_185 : decode cX8_lies 185 = .ok (.iload 4, 2) := by decide +kernel
theorem dX8_lies_187 : decode cX8_lies 187 = .ok (.if_icmp .eq 7, 3) := by decide +kernel
theorem dX8_lies_190 : decode cX8_lies 190 = .ok (.iconst 1, 1) := by decide +kernel
theorem dX8_lies_191 : decode cX8_lies 191 = .ok (.goto 4, 3) := by decide +kernel
theorem dX8_lies_194 : decode cX8_lies 194 = .ok (.iconst 0, 1) := by decide +kernel
theorem dX8_lies_195 : decode cX8_lies 195 = .ok (.istore 4, 2) := by decide +kernel
theorem dX8_lies_197 : decode cX8_lies 197 = .ok (.iinc 5 1, 3) := by decide +kernel
theorem dX8_lies_200 : decode cX8_lies 200 = .ok (.goto (-194), 3) := by decide +kernel
theorem dX8_lies_203 : decode cX8_lies 203 = .ok (.iload 4, 2) := by decide +kernel
theorem dX8_lies_205 : decode cX8_lies 205 = .ok (.ifCond .eq 7, 3) := by decide +kernel
theorem dX8_lies_208 : decode cX8_lies 208 = .ok (.iconst 1, 1) := by decide +kernel
theorem dX8_lies_209 : decode cX8_lies 209 = .ok (.goto 4, 3) := by decide +kernel
theorem dX8_lies_212 : decode cX8_lies 212 = .ok (.iconst 0, 1) := by decide +kernel
theorem dX8_lies_213 : decode cX8_lies 213 = .ok (.ireturn, 1) := by decide +kernel
theorem wX8_lies_213 (C : CxM p rmX8_lies s m args meth c D ac q RX8 cX8_lies 11) (hr : meth.sig.returnType = (some .int)) {t0 : Int} {σ : Mm} {r : Int} (hl : lv_has ls 11 [(0, .ref (q 0))]) (h : fX8_lies_213 t0 σ = some r) : VM p l e rmX8_lies s m args below meth c D ac q (QIM D ac q below args s (r, σ)) σ (F0 m 213 ls [.int (i32 t0)]) := by
  have h : some t0 = some r := h
  exact v_iret C hr (so1 h) dX8_lies_213
theorem wX8_lies_203 (C : CxM p rmX8_lies s m args meth c D ac q RX8 cX8_lies 11) (hr : meth.sig.returnType = (some .int)) {v4 : Int} {σ : Mm} {r : Int} (hl : lv_has ls 11 [(0, .ref (q 0)), (4, .int (i32 v4))]) (h : fX8_lies_203 v4 σ = some r) : VM p l e rmX8_lies s m args below meth c D ac q (QIM D ac q below args s (r, σ)) σ (F0 m 203 ls []) := by
  have h : cr v4 ((if v4 = 0 then fX8_lies_213 0 σ else fX8_lies_213 1 σ)) = some r := h
  refine v_iload C hl dX8_lies_203 1 rfl ?_
  have hz1 := (cr_e h).1
  have h := (cr_e h).2
  refine v_if_eq C (tgt := 212) hz1 h dX8_lies_205 rfl (fun h => ?_) (fun h => ?_)
  · refine v_iconst C dX8_lies_212 ?_
    exact wX8_lies_213 C hr (lv_sub hl [0] rfl) h
  · refine v_iconst C dX8_lies_208 ?_
    refine v_goto C (tgt := 213) dX8_lies_209 rfl ?_
    exact wX8_lies_213 C hr (lv_sub hl [0] rfl) h
theorem wX8_lies_197 (C : CxM p rmX8_lies s m args meth c D ac q RX8 cX8_lies 11) (hr : meth.sig.returnType = (some .int)) {v1 : Int} {v2 : Int} {v3 : Int} {v4 : Int} {v5 : Int} {c6 : Int → Int → Option (Int)} {σ : Mm} {r : Int} (hc6 : ∀ (v4x : Int) (v5x : Int) (ls : Array Slot), lv_has ls 11 [(0, .ref (q 0)), (1, .int (i32 v1)), (2, .int (i32 v2)), (3, .int (i32 v3)), (4, .int (i32 v4x)), (5, .int (i32 v5x))] → c6 v4x v5x = some r → VM p l e rmX8_lies s m args below meth c D ac q (QIM D ac q below args s (r, σ)) σ (F0 m 6 ls [])) (hl : lv_has ls 11 [(0, .ref (q 0)), (1, .int (i32 v1)), (2, .int (i32 v2)), (3, .int (i32 v3)), (4, .int (i32 v4)), (5, .int (i32 v5))]) (h : fX8_lies_197 c6 v1 v2 v3 v4 v5 σ = some r) : VM p l e rmX8_lies s m args below meth c D ac q (QIM D ac q below args s (r, σ)) σ (F0 m 197 ls []) := by
  have h : bindv (v5 + 1) (fun v5_1 => c6 v4 v5_1) = some r := h
  refine v_iinc C hl (fun x => [(5, .int (i32 x)), (0, .ref (q 0)), (1, .int (i32 v1)), (2, .int (i32 v2)), (3, .int (i32 v3)), (4, .int (i32 v4))]) dX8_lies_197 5 rfl (by decide) (fun _ => rfl) h (fun v5_1 ls hl h => ?_)
  refine v_goto C (tgt := 6) dX8_lies_200 rfl ?_
  exact hc6 _ _ _ (lv_sub hl [1, 2, 3, 4, 5, 0] rfl) h
theorem wX8_lies_195 (C : CxM p rmX8_lies s m args meth c D ac q RX8 cX8_lies 11) (hr : meth.sig.returnType = (some .int)) {v1 : Int} {v2 : Int} {v3 : Int} {v5 : Int} {t0 : Int} {c6 : Int → Int → Option (Int)} {σ : Mm} {r : Int} (hc6 : ∀ (v4x : Int) (v5x : Int) (ls : Array Slot), lv_has ls 11 [(0, .ref (q 0)), (1, .int (i32 v1)), (2, .int (i32 v2)), (3, .int (i32 v3)), (4, .int (i32 v4x)), (5, .int (i32 v5x))] → c6 v4x v5x = some r → VM p l e rmX8_lies s m args below meth c D ac q (QIM D ac q below args s (r, σ)) σ (F0 m 6 ls [])) (hl : lv_has ls 11 [(0, .ref (q 0)), (1, .int (i32 v1)), (2, .int (i32 v2)), (3, .int (i32 v3)), (5, .int (i32 v5))]) (h : fX8_lies_195 c6 v1 v2 v3 v5 t0 σ = some r) : VM p l e rmX8_lies s m args below meth c D ac q (QIM D ac q below args s (r, σ)) σ (F0 m 195 ls [.int (i32 t0)]) := by
  have h : bindv t0 (fun v4_1 => fX8_lies_197 c6 v1 v2 v3 v4_1 v5 σ) = some r := h
  refine v_istore C hl (fun x => [(4, .int (i32 x)), (0, .ref (q 0)), (1, .int (i32 v1)), (2, .int (i32 v2)), (3, .int (i32 v3)), (5, .int (i32 v5))]) dX8_lies_195 (by decide) (fun _ => rfl) h (fun v4_1 ls hl h => ?_)
  exact wX8_lies_197 C hr hc6 (lv_sub hl [1, 2, 3, 4, 0, 5] rfl) h
theorem wX8_lies_185 (C : CxM p rmX8_lies s m args meth c D ac q RX8 cX8_lies 11) (hr : meth.sig.returnType = (some .int)) {v1 : Int} {v2 : Int} {v3 : Int} {v4 : Int} {v5 : Int} {t0 : Int} {c6 : Int → Int → Option (Int)} {σ : Mm} {r : Int} (hc6 : ∀ (v4x : Int) (v5x : Int) (ls : Array Slot), lv_has ls 11 [(0, .ref (q 0)), (1, .int (i32 v1)), (2, .int (i32 v2)), (3, .int (i32 v3)), (4, .int (i32 v4x)), (5, .int (i32 v5x))] → c6 v4x v5x = some r → VM p l e rmX8_lies s m args below meth c D ac q (QIM D ac q below args s (r, σ)) σ (F0 m 6 ls [])) (hl : lv_has ls 11 [(0, .ref (q 0)), (1, .int (i32 v1)), (2, .int (i32 v2)), (3, .int (i32 v3)), (4, .int (i32 v4)), (5, .int (i32 v5))]) (h : fX8_lies_185 c6 v1 v2 v3 v4 v5 t0 σ = some r) : VM p l e rmX8_lies s m args below meth c D ac q (QIM D ac q below args s (r, σ)) σ (F0 m 185 ls [.int (i32 t0)]) := by
  have h : cr t0 (cr v4 ((if t0 = v4 then fX8_lies_195 c6 v1 v2 v3 v5 0 σ else fX8_lies_195 c6 v1 v2 v3 v5 1 σ))) = some r := h
  refine v_iload C hl dX8_lies_185 4 rfl ?_
  have hz1 := (cr_e h).1
  have h := (cr_e h).2
  have hz2 := (cr_e h).1
  have h := (cr_e h).2
  refine v_icmp_eq C (tgt := 194) hz1 hz2 h dX8_lies_187 rfl (fun h => ?_) (fun h => ?_)
  · refine v_iconst C dX8_lies_194 ?_
    exact wX8_lies_195 C hr hc6 (lv_sub hl [0, 1, 2, 3, 5] rfl) h
  · refine v_iconst C dX8_lies_190 ?_
    refine v_goto C (tgt := 195) dX8_lies_191 rfl ?_
    exact wX8_lies_195 C hr hc6 (lv_sub hl [0, 1, 2, 3, 5] rfl) h
theorem wX8_lies_89 (C : CxM p rmX8_lies s m args meth c D ac q RX8 cX8_lies 11) (hr : meth.sig.returnType = (some .int)) {v1 : Int} {v2 : Int} {v3 : Int} {v4 : Int} {v5 : Int} {v6 : Int} {v7 : Int} {v8 : Int} {t0 : Int} {c6 : Int → Int → Option (Int)} {σ : Mm} {r : Int} (hc6 : ∀ (v4x : Int) (v5x : Int) (ls : Array Slot), lv_has ls 11 [(0, .ref (q 0)), (1, .int (i32 v1)), (2, .int (i32 v2)), (3, .int (i32 v3)), (4, .int (i32 v4x)), (5, .int (i32 v5x))] → c6 v4x v5x = some r → VM p l e rmX8_lies s m args below meth c D ac q (QIM D ac q below args s (r, σ)) σ (F0 m 6 ls [])) (hl : lv_has ls 11 [(0, .ref (q 0)), (1, .int (i32 v1)), (2, .int (i32 v2)), (3, .int (i32 v3)), (4, .int (i32 v4)), (5, .int (i32 v5)), (6, .int (i32 v6)), (7, .int (i32 v7)), (8, .int (i32 v8))]) (h : fX8_lies_89 c6 v1 v2 v3 v4 v5 v6 v7 v8 t0 σ = some r) : VM p l e rmX8_lies s m args below meth c D ac q (QIM D ac q below args s (r, σ)) σ (F0 m 89 ls [.int (i32 t0)]) := by
  have h : bindv t0 (fun v9_1 => cr v8 (cr v9_1 ((if v8 = v9_1 then fX8_lies_197 c6 v1 v2 v3 v4 v5 σ else chk v6 700 (chk (24 + v6) 700 (chk v7 700 (chk (24 + v7) 700 (bd (fX8_cross (σ 1 (v6).toNat) (σ 1 (24 + v6).toNat) (σ 1 (v7).toNat) (σ 1 (24 + v7).toNat) v1 v2 σ) (fun x_4 => bindv x_4 (fun v10_5 => chk (24 + v7) 700 (chk (24 + v6) 700 (cr (σ 1 (24 + v7).toNat) (cr (σ 1 (24 + v6).toNat) ((if σ 1 (24 + v6).toNat < σ 1 (24 + v7).toNat then cr v10_5 ((if 0 < v10_5 then fX8_lies_185 c6 v1 v2 v3 v4 v5 1 σ else fX8_lies_185 c6 v1 v2 v3 v4 v5 0 σ)) else cr v10_5 ((if v10_5 < 0 then fX8_lies_185 c6 v1 v2 v3 v4 v5 1 σ else fX8_lies_185 c6 v1 v2 v3 v4 v5 0 σ))))))))))))))))) = some r := h
  refine v_istore C hl (fun x => [(9, .int (i32 x)), (0, .ref (q 0)), (1, .int (i32 v1)), (2, .int (i32 v2)), (3, .int (i32 v3)), (4, .int (i32 v4)), (5, .int (i32 v5)), (6, .int (i32 v6)), (7, .int (i32 v7)), (8, .int (i32 v8))]) dX8_lies_89 (by decide) (fun _ => rfl) h (fun v9_1 ls hl h => ?_)
  refine v_iload C hl dX8_lies_91 9 rfl ?_
  refine v_iload C hl dX8_lies_93 0 rfl ?_
  have hz2 := (cr_e h).1
  have h := (cr_e h).2
  have hz3 := (cr_e h).1
  have h := (cr_e h).2
  refine v_icmp_eq C (tgt := 197) hz2 hz3 h dX8_lies_95 rfl (fun h => ?_) (fun h => ?_)
  · exact wX8_lies_197 C hr hc6 (lv_sub hl [1, 2, 3, 4, 5, 6] rfl) h
  · refine v_aload_n C hl dX8_lies_98 rfl 1 rfl ?_
    refine g_X8_0 C kdM_0 fl_X8_7 dX8_lies_99 ?_
    refine v_iload C hl dX8_lies_102 7 rfl ?_
    refine alM2 C kdM_1 h dX8_lies_104 (fun h => ?_)
    refine v_aload_n C hl dX8_lies_105 rfl 1 rfl ?_
    refine g_X8_0 C kdM_0 fl_X8_7 dX8_lies_106 ?_
    refine v_bipush C dX8_lies_109 rfl ?_
    refine v_iload C hl dX8_lies_111 7 rfl ?_
    refine v_iadd C dX8_lies_113 ?_
    refine alM2 C kdM_1 h dX8_lies_114 (fun h => ?_)
    refine v_aload_n C hl dX8_lies_115 rfl 1 rfl ?_
    refine g_X8_0 C kdM_0 fl_X8_7 dX8_lies_116 ?_
    refine v_iload C hl dX8_lies_119 8 rfl ?_
    refine alM2 C kdM_1 h dX8_lies_121 (fun h => ?_)
    refine v_aload_n C hl dX8_lies_122 rfl 1 rfl ?_
    refine g_X8_0 C kdM_0 fl_X8_7 dX8_lies_123 ?_
    refine v_bipush C dX8_lies_126 rfl ?_
    refine v_iload C hl dX8_lies_128 8 rfl ?_
    refine v_iadd C dX8_lies_130 ?_
    refine alM2 C kdM_1 h dX8_lies_131 (fun h => ?_)
    refine v_iload_n C hl dX8_lies_132 rfl 2 rfl ?_
    refine v_iload_n C hl dX8_lies_133 rfl 3 rfl ?_
    obtain ⟨x_4, hv4, h⟩ := bd_e h
    refine v_callSI C [.int (i32 (σ 1 (v6).toNat)), .int (i32 (σ 1 (24 + v6).toNat)), .int (i32 (σ 1 (v7).toNat)), .int (i32 (σ 1 (24 + v7).toNat)), .int (i32 v1), .int (i32 v2)] (mX8_cross C.2.2.2.2.1 hv4) cd_X8_cross ic_X8 sm_X8_cross ml_X8_153 yk_X8_cross ⟨rfl, rfl, by decide, by decide⟩ rfl hl.1 (rest := []) rfl (Nat.le_of_ble_eq_true rfl) dX8_lies_134 ?_
    refine v_istore C hl (fun x => [(10, .int (i32 x)), (9, .int (i32 v9_1)), (0, .ref (q 0)), (1, .int (i32 v1)), (2, .int (i32 v2)), (3, .int (i32 v3)), (4, .int (i32 v4)), (5, .int (i32 v5)), (6, .int (i32 v6)), (7, .int (i32 v7)), (8, .int (i32 v8))]) dX8_lies_137 (by decide) (fun _ => rfl) h (fun v10_5 ls hl h => ?_)
    refine v_aload_n C hl dX8_lies_139 rfl 2 rfl ?_
    refine g_X8_0 C kdM_0 fl_X8_7 dX8_lies_140 ?_
    refine v_bipush C dX8_lies_143 rfl ?_
    refine v_iload C hl dX8_lies_145 9 rfl ?_
    refine v_iadd C dX8_lies_147 ?_
    refine alM2 C kdM_1 h dX8_lies_148 (fun h => ?_)
    refine v_aload_n C hl dX8_lies_149 rfl 2 rfl ?_
    refine g_X8_0 C kdM_0 fl_X8_7 dX8_lies_150 ?_
    refine v_bipush C dX8_lies_153 rfl ?_
    refine v_iload C hl dX8_lies_155 8 rfl ?_
    refine v_iadd C dX8_lies_157 ?_
    refine alM2 C kdM_1 h dX8_lies_158 (fun h => ?_)
    have hz6 := (cr_e h).1
    have h := (cr_e h).2
    have hz7 := (cr_e h).1
    have h := (cr_e h).2
    refine v_icmp_le C (tgt := 175) hz6 hz7 h dX8_lies_159 rfl (fun h => ?_) (fun h => ?_)
    · refine v_iload C hl dX8_lies_175 0 rfl ?_
      have hz8 := (cr_e h).1
      have h := (cr_e h).2
      refine v_if_ge C (tgt := 184) hz8 h dX8_lies_177 rfl (fun h => ?_) (fun h => ?_)
      · refine v_iconst C dX8_lies_184 ?_
        exact wX8_lies_185 C hr hc6 (lv_sub hl [2, 3, 4, 5, 6, 7] rfl) h
      · refine v_iconst C dX8_lies_180 ?_
        refine v_goto C (tgt := 185) dX8_lies_181 rfl ?_
        exact wX8_lies_185 C hr hc6 (lv_sub hl [2, 3, 4, 5, 6, 7] rfl) h
    · refine v_iload C hl dX8_lies_162 0 rfl ?_
      have hz9 := (cr_e h).1
      have h := (cr_e h).2
      refine v_if_le C (tgt := 171) hz9 h dX8_lies_164 rfl (fun h => ?_) (fun h => ?_)
      · refine v_iconst C dX8_lies_171 ?_
        refine v_goto C (tgt := 185) dX8_lies_172 rfl ?_
        exact wX8_lies_185 C hr hc6 (lv_sub hl [2, 3, 4, 5, 6, 7] rfl) h
      · refine v_iconst C dX8_lies_167 ?_
        refine v_goto C (tgt := 185) dX8_lies_168 rfl ?_
        exact wX8_lies_185 C hr hc6 (lv_sub hl [2, 3, 4, 5, 6, 7] rfl) h
theorem wX8_lies_68 (C : CxM p rmX8_lies s m args meth c D ac q RX8 cX8_lies 11) (hr : meth.sig.returnType = (some .int)) {v1 : Int} {v2 : Int} {v3 : Int} {v4 : Int} {v5 : Int} {v6 : Int} {v7 : Int} {t0 : Int} {c6 : Int → Int → Option (Int)} {σ : Mm} {r : Int} (hc6 : ∀ (v4x : Int) (v5x : Int) (ls : Array Slot), lv_has ls 11 [(0, .ref (q 0)), (1, .int (i32 v1)), (2, .int (i32 v2)), (3, .int (i32 v3)), (4, .int (i32 v4x)), (5, .int (i32 v5x))] → c6 v4x v5x = some r → VM p l e rmX8_lies s m args below meth c D ac q (QIM D ac q below args s (r, σ)) σ (F0 m 6 ls [])) (hl : lv_has ls 11 [(0, .ref (q 0)), (1, .int (i32 v1)), (2, .int (i32 v2)), (3, .int (i32 v3)), (4, .int (i32 v4)), (5, .int (i32 v5)), (6, .int (i32 v6)), (7, .int (i32 v7))]) (h : fX8_lies_68 c6 v1 v2 v3 v4 v5 v6 v7 t0 σ = some r) : VM p l e rmX8_lies s m args below meth c D ac q (QIM D ac q below args s (r, σ)) σ (F0 m 68 ls [.int (i32 t0)]) := by
  have h : bindv t0 (fun v8_1 => chk (24 + v7) 700 (cr (σ 1 (24 + v7).toNat) (cr v2 ((if v2 < σ 1 (24 + v7).toNat then fX8_lies_89 c6 v1 v2 v3 v4 v5 v6 v7 v8_1 1 σ else fX8_lies_89 c6 v1 v2 v3 v4 v5 v6 v7 v8_1 0 σ))))) = some r := h
  refine v_istore C hl (fun x => [(8, .int (i32 x)), (0, .ref (q 0)), (1, .int (i32 v1)), (2, .int (i32 v2)), (3, .int (i32 v3)), (4, .int (i32 v4)), (5, .int (i32 v5)), (6, .int (i32 v6)), (7, .int (i32 v7))]) dX8_lies_68 (by decide) (fun _ => rfl) h (fun v8_1 ls hl h => ?_)
  refine v_aload_n C hl dX8_lies_70 rfl 1 rfl ?_
  refine g_X8_0 C kdM_0 fl_X8_7 dX8_lies_71 ?_
  refine v_bipush C dX8_lies_74 rfl ?_
  refine v_iload C hl dX8_lies_76 8 rfl ?_
  refine v_iadd C dX8_lies_78 ?_
  refine alM2 C kdM_1 h dX8_lies_79 (fun h => ?_)
  refine v_iload_n C hl dX8_lies_80 rfl 3 rfl ?_
  have hz2 := (cr_e h).1
  have h := (cr_e h).2
  have hz3 := (cr_e h).1
  have h := (cr_e h).2
  refine v_icmp_le C (tgt := 88) hz2 hz3 h dX8_lies_81 rfl (fun h => ?_) (fun h => ?_)
  · refine v_iconst C dX8_lies_88 ?_
    exact wX8_lies_89 C hr hc6 (lv_sub hl [1, 2, 3, 4, 5, 6, 7, 8, 0] rfl) h
  · refine v_iconst C dX8_lies_84 ?_
    refine v_goto C (tgt := 89) dX8_lies_85 rfl ?_
    exact wX8_lies_89 C hr hc6 (lv_sub hl [1, 2, 3, 4, 5, 6, 7, 8, 0] rfl) h
theorem wX8_lies_6 (C : CxM p rmX8_lies s m args meth c D ac q RX8 cX8_lies 11) (hr : meth.sig.returnType = (some .int)) {v1 : Int} {v2 : Int} {v3 : Int} {σ : Mm} {v4 : Int} {v5 : Int} {e6 : Int → Option (Int)} {c6 : Int → Int → Option (Int)} {r : Int} (he6 : ∀ (v4x : Int) (ls : Array Slot), lv_has ls 11 [(0, .ref (q 0)), (4, .int (i32 v4x))] → e6 v4x = some r → VM p l e rmX8_lies s m args below meth c D ac q (QIM D ac q below args s (r, σ)) σ (F0 m 203 ls [])) (hc6 : ∀ (v4x : Int) (v5x : Int) (ls : Array Slot), lv_has ls 11 [(0, .ref (q 0)), (1, .int (i32 v1)), (2, .int (i32 v2)), (3, .int (i32 v3)), (4, .int (i32 v4x)), (5, .int (i32 v5x))] → c6 v4x v5x = some r → VM p l e rmX8_lies s m args below meth c D ac q (QIM D ac q below args s (r, σ)) σ (F0 m 6 ls [])) (hl : lv_has ls 11 [(0, .ref (q 0)), (1, .int (i32 v1)), (2, .int (i32 v2)), (3, .int (i32 v3)), (4, .int (i32 v4)), (5, .int (i32 v5))]) (h : fX8_lies_6 v1 v2 v3 σ e6 c6 v4 v5 = some r) : VM p l e rmX8_lies s m args below meth c D ac q (QIM D ac q below args s (r, σ)) σ (F0 m 6 ls []) := by
  have h : cr v5 (cr v3 ((if v5 < v3 then chk v5 10 (bindv (σ 9 (v5).toNat) (fun v6_3 => chd (v5 + 1) v3 (chk ((v5 + 1) % v3) 10 (bindv (σ 9 ((v5 + 1) % v3).toNat) (fun v7_4 => bd (fX8_isOnPlace v1 v2 v6_3 v7_4 σ) (fun x_5 => cr x_5 ((if x_5 = 0 then chk (24 + v6_3) 700 (cr (σ 1 (24 + v6_3).toNat) (cr v2 ((if v2 < σ 1 (24 + v6_3).toNat then fX8_lies_68 c6 v1 v2 v3 v4 v5 v6_3 v7_4 1 σ else fX8_lies_68 c6 v1 v2 v3 v4 v5 v6_3 v7_4 0 σ)))) else some 2)))))))) else e6 v4))) = some r := h
  refine v_iload C hl dX8_lies_6 5 rfl ?_
  refine v_iload_n C hl dX8_lies_8 rfl 3 rfl ?_
  have hz1 := (cr_e h).1
  have h := (cr_e h).2
  have hz2 := (cr_e h).1
  have h := (cr_e h).2
  refine v_icmp_ge C (tgt := 203) hz1 hz2 h dX8_lies_9 rfl (fun h => ?_) (fun h => ?_)
  · exact he6 _ _ (lv_sub hl [0, 4] rfl) h
  · refine v_aload_n C hl dX8_lies_12 rfl 0 rfl ?_
    refine g_X8_19 C kdM_0 fl_X8_34 dX8_lies_13 ?_
    refine v_iload C hl dX8_lies_16 5 rfl ?_
    refine alM8 C kdM_9 h dX8_lies_18 (fun h => ?_)
    refine v_istore C hl (fun x => [(6, .int (i32 x)), (0, .ref (q 0)), (1, .int (i32 v1)), (2, .int (i32 v2)), (3, .int (i32 v3)), (4, .int (i32 v4)), (5, .int (i32 v5))]) dX8_lies_19 (by decide) (fun _ => rfl) h (fun v6_3 ls hl h => ?_)
    refine v_aload_n C hl dX8_lies_21 rfl 1 rfl ?_
    refine g_X8_19 C kdM_0 fl_X8_34 dX8_lies_22 ?_
    refine v_iload C hl dX8_lies_25 6 rfl ?_
    refine v_iconst C dX8_lies_27 ?_
    refine v_iadd C dX8_lies_28 ?_
    refine v_iload_n C hl dX8_lies_29 rfl 4 rfl ?_
    refine v_irem C h dX8_lies_30 (fun h => ?_)
    refine alM8 C kdM_9 h dX8_lies_31 (fun h => ?_)
    refine v_istore C hl (fun x => [(7, .int (i32 x)), (6, .int (i32 v6_3)), (0, .ref (q 0)), (1, .int (i32 v1)), (2, .int (i32 v2)), (3, .int (i32 v3)), (4, .int (i32 v4)), (5, .int (i32 v5))]) dX8_lies_32 (by decide) (fun _ => rfl) h (fun v7_4 ls hl h => ?_)
    refine v_aload_n C hl dX8_lies_34 rfl 2 rfl ?_
    refine v_iload_n C hl dX8_lies_35 rfl 3 rfl ?_
    refine v_iload_n C hl dX8_lies_36 rfl 4 rfl ?_
    refine v_iload C hl dX8_lies_37 1 rfl ?_
    refine v_iload C hl dX8_lies_39 0 rfl ?_
    obtain ⟨x_5, hv5, h⟩ := bd_e h
    refine v_callVI C 0 (klM kdM_0) rfl (ckM1 kdM_0 _) rfl [.int (i32 v1), .int (i32 v2), .int (i32 v6_3), .int (i32 v7_4)] (mX8_isOnPlace C.2.2.2.2.1 hv5) cd_X8_isOnPlace ic_X8 im_X8_isOnPlace se_X8_isOnPlace ml_X8_295 yk_X8_isOnPlace ⟨rfl, rfl, by decide, by decide⟩ rfl hl.1 (rest := []) rfl (Nat.le_of_ble_eq_true rfl) dX8_lies_41 ?_
    have hz6 := (cr_e h).1
    have h := (cr_e h).2
    refine v_if_eq C (tgt := 49) hz6 h dX8_lies_44 rfl (fun h => ?_) (fun h => ?_)
    · refine v_aload_n C hl dX8_lies_49 rfl 2 rfl ?_
      refine g_X8_0 C kdM_0 fl_X8_7 dX8_lies_50 ?_
      refine v_bipush C dX8_lies_53 rfl ?_
      refine v_iload C hl dX8_lies_55 1 rfl ?_
      refine v_iadd C dX8_lies_57 ?_
      refine alM2 C kdM_1 h dX8_lies_58 (fun h => ?_)
      refine v_iload_n C hl dX8_lies_59 rfl 4 rfl ?_
      have hz7 := (cr_e h).1
      have h := (cr_e h).2
      have hz8 := (cr_e h).1
      have h := (cr_e h).2
      refine v_icmp_le C (tgt := 67) hz7 hz8 h dX8_lies_60 rfl (fun h => ?_) (fun h => ?_)
      · refine v_iconst C dX8_lies_67 ?_
        exact wX8_lies_68 C hr hc6 (lv_sub hl [2, 3, 4, 5, 6, 7, 1, 0] rfl) h
      · refine v_iconst C dX8_lies_63 ?_
        refine v_goto C (tgt := 68) dX8_lies_64 rfl ?_
        exact wX8_lies_68 C hr hc6 (lv_sub hl [2, 3, 4, 5, 6, 7, 1, 0] rfl) h
    · refine v_iconst C dX8_lies_47 ?_
      exact v_iret C hr (so1 h) dX8_lies_48
theorem wlX8_lies_6 (C : CxM p rmX8_lies s m args meth c D ac q RX8 cX8_lies 11) (hr : meth.sig.returnType = (some .int)) {v1 : Int} {v2 : Int} {v3 : Int} {σ : Mm} {e6 : Int → Option (Int)} {r : Int} (he6 : ∀ (v4x : Int) (ls : Array Slot), lv_has ls 11 [(0, .ref (q 0)), (4, .int (i32 v4x))] → e6 v4x = some r → VM p l e rmX8_lies s m args below meth c D ac q (QIM D ac q below args s (r, σ)) σ (F0 m 203 ls [])) : ∀ (fu : Nat) (v4 : Int) (v5 : Int) (ls : Array Slot) (hl : lv_has ls 11 [(0, .ref (q 0)), (1, .int (i32 v1)), (2, .int (i32 v2)), (3, .int (i32 v3)), (4, .int (i32 v4)), (5, .int (i32 v5))]) (h : lX8_lies_6 v1 v2 v3 σ e6 fu v4 v5 = some r), VM p l e rmX8_lies s m args below meth c D ac q (QIM D ac q below args s (r, σ)) σ (F0 m 6 ls []) := by
  intro fu
  induction fu with
  | zero =>
    intro v4 v5 ls hl h
    have h : none = some r := h
    cases h
  | succ fu ih =>
    intro v4 v5 ls hl h
    exact wX8_lies_6 C hr he6 (fun v4 v5 ls hl h => ih v4 v5 ls hl h) hl h
theorem mX8_lies (hq : QI 19 q) {v1 : Int} {v2 : Int} {v3 : Int} {σ : Mm} {r : Int} (h : fX8_lies v1 v2 v3 σ = some r) : MIM l D ac q yX8_lies cX8_lies 11 (some .int) rmX8_lies [.ref (q 0), .int (i32 v1), .int (i32 v2), .int (i32 v3)] σ (r, σ) := by
  refine MI.of hq XT_M (by decide) (Nat.le_of_ble_eq_true rfl) (fun p e s m below meth c ls C hr hl => ?_)
  have hl : lv_has ls 11 [(0, .ref (q 0)), (1, .int (i32 v1)), (2, .int (i32 v2)), (3, .int (i32 v3))] := hl
  have h : bindv 0 (fun v4_1 => bindv 0 (fun v5_2 => lX8_lies_6 v1 v2 v3 σ (fun v4_3 => fX8_lies_203 v4_3 σ) 400 v4_1 v5_2)) = some r := h
  refine v_iconst C dX8_lies_0 ?_
  refine v_istore C hl (fun x => [(4, .int (i32 x)), (0, .ref (q 0)), (1, .int (i32 v1)), (2, .int (i32 v2)), (3, .int (i32 v3))]) dX8_lies_1 (by decide) (fun _ => rfl) h (fun v4_1 ls hl h => ?_)
  refine v_iconst C dX8_lies_3 ?_
  refine v_istore C hl (fun x => [(5, .int (i32 x)), (4, .int (i32 v4_1)), (0, .ref (q 0)), (1, .int (i32 v1)), (2, .int (i32 v2)), (3, .int (i32 v3))]) dX8_lies_4 (by decide) (fun _ => rfl) h (fun v5_2 ls hl h => ?_)
  exact wlX8_lies_6 C hr (fun v4_3 ls hl h => wX8_lies_203 C hr (lv_sub hl [0, 1] rfl) h) _ _ _ _ (lv_sub hl [2, 3, 4, 5, 1, 0] rfl) h
end
section
variable {l : Launch} {D : va_G} {ac : Nat → ClassId} {q : Nat → Nat} {p : Program} {e : Env} {s : State} {m : MethodId} {args : Array Value} {below : List Frame} {meth : Method} {c : Code} {ls : Array Slot}
theorem dX8_limit_0 : decode cX8_limit 0 = .ok (.iload_n 1, 1) := by decide +kernel
theorem dX8_limit_1 : decode cX8_limit 1 = .ok (.ifCond .ge 5, 3) := by decide +kernel
theorem dX8_limit_4 : decode cX8_limit 4 = .ok (.iconst (-1), 1) := by decide +kernel
theorem dX8_limit_5 : decode cX8_limit 5 = .ok (.ireturn, 1) := by decide +kernel
theorem dX8_limit_6 : decode cX8_limit 6 = .ok (.aload_n 0, 1) := by decide +kernel
theorem dX8_limit_7 : decode cX8_limit 7 = .ok (.invokevirtual 257, 3) := by decide +kernel
theorem dX8_limit_10 : decode cX8_limit 10 = .ok (.iconst 0, 1) := by decide +kernel
theorem dX8_limit_11 : decode cX8_limit 11 = .ok (.istore_n 2, 1) := by decide +kernel
theorem dX8_limit_12 : decode cX8_limit 12 = .ok (.iload_n 2, 1) := by decide +kernel
theorem dX8_limit_13 : decode cX8_limit 13 = .ok (.aload_n 0, 1) := by decide +kernel
theorem dX8_limit_14 : decode cX8_limit 14 = .ok (.getfield 227, 3) := by decide +kernel
theorem dX8_limit_17 : decode cX8_limit 17 = .ok (.if_icmp .ge 26, 3) := by decide +kernel
theorem dX8_limit_20 : decode cX8_limit 20 = .ok (.aload_n 0, 1) := by decide +kernel
theorem dX8_limit_21 : decode cX8_limit 21 = .ok (.getfield 25, 3) := by decide +kernel
theorem dX8_limit_24 : decode cX8_limit 24 = .ok (.aload_n 0, 1) := by decide +kernel
theorem dX8_limit_25 : decode cX8_limit 25 = .ok (.getfield 28, 3) := by decide +kernel
theorem dX8_limit_28 : decode cX8_limit 28 = .ok (.iload_n 2, 1) := by decide +kernel
theorem dX8_limit_29 : decode cX8_limit 29 = .ok (.iconst 1, 1) := by decide +kernel
theorem dX8_limit_30 : decode cX8_limit 30 = .ok (.iadd, 1) := by decide +kernel
theorem dX8_limit_31 : decode cX8_limit 31 = .ok (.iaload, 1) := by decide +kernel
theorem dX8_limit_32 : decode cX8_limit 32 = .ok (.iaload, 1) := by decide +kernel
theorem dX8_limit_33 : decode cX8_limit 33 = .ok (.iload_n 1, 1) := by decide +kernel
theorem dX8_limit_34 : decode cX8_limit 34 = .ok (.if_icmp .gt 9, 3) := by decide +kernel
theorem dX8_limit_37 : decode cX8_limit 37 = .ok (.iinc 2 1, 3) := by decide +kernel
theorem dX8_limit_40 : decode cX8_limit 40 = .ok (.goto (-28), 3) := by decide +kernel
theorem dX8_limit_43 : decode cX8_limit 43 = .ok (.iload_n 2, 1) := by decide +kernel
theorem dX8_limit_44 : decode cX8_limit 44 = .ok (.ireturn, 1) := by decide +kernel
theorem wX8_limit_43 (C : CxM p rmX8_limit s m args meth c D ac q RX8 cX8_limit 3) (hr : meth.sig.returnType = (some .int)) {v2 : Int} {σ : Mm} {r : Int × Mm} (hl : lv_has ls 3 [(0, .ref (q 0)), (2, .int (i32 v2))]) (h : fX8_limit_43 v2 σ = some r) : VM p l e rmX8_limit s m args below meth c D ac q (QIM D ac q below args s r) σ (F0 m 43 ls []) := by
  have h : some (v2, σ) = some r := h
  refine v_iload_n C hl dX8_limit_43 rfl 1 rfl ?_
  exact v_iret C hr h dX8_limit_44
theorem wX8_limit_12 (C : CxM p rmX8_limit s m args meth c D ac q RX8 cX8_limit 3) (hr : meth.sig.returnType = (some .int)) {v1 : Int} {σ : Mm} {v2 : Int} {e12 : Int → Option (Int × Mm)} {c12 : Int → Option (Int × Mm)} {r : Int × Mm} (he12 : ∀ (v2x : Int) (ls : Array Slot), lv_has ls 3 [(0, .ref (q 0)), (2, .int (i32 v2x))] → e12 v2x = some r → VM p l e rmX8_limit s m args below meth c D ac q (QIM D ac q below args s r) σ (F0 m 43 ls [])) (hc12 : ∀ (v2x : Int) (ls : Array Slot), lv_has ls 3 [(0, .ref (q 0)), (1, .int (i32 v1)), (2, .int (i32 v2x))] → c12 v2x = some r → VM p l e rmX8_limit s m args below meth c D ac q (QIM D ac q below args s r) σ (F0 m 12 ls [])) (hl : lv_has ls 3 [(0, .ref (q 0)), (1, .int (i32 v1)), (2, .int (i32 v2))]) (h : fX8_limit_12 v1 σ e12 c12 v2 = some r) : VM p l e rmX8_limit s m args below meth c D ac q (QIM D ac q below args s r) σ (F0 m 12 ls []) := by
  have h : cr v2 (cr (σ 0 16) ((if v2 < σ 0 16 then chk (v2 + 1) 25 (chk (σ 7 (v2 + 1).toNat) 24 (cr (σ 6 (σ 7 (v2 + 1).toNat).toNat) (cr v1 ((if v1 < σ 6 (σ 7 (v2 + 1).toNat).toNat then e12 v2 else bindv (v2 + 1) (fun v2_5 => c12 v2_5)))))) else e12 v2))) = some r := h
  refine v_iload_n C hl dX8_limit_12 rfl 2 rfl ?_
  refine v_aload_n C hl dX8_limit_13 rfl 0 rfl ?_
  refine g_X8_16 C kdM_0 fl_X8_227 dX8_limit_14 ?_
  have hz1 := (cr_e h).1
  have h := (cr_e h).2
  have hz2 := (cr_e h).1
  have h := (cr_e h).2
  refine v_icmp_ge C (tgt := 43) hz1 hz2 h dX8_limit_17 rfl (fun h => ?_) (fun h => ?_)
  · exact he12 _ _ (lv_sub hl [0, 2] rfl) h
  · refine v_aload_n C hl dX8_limit_20 rfl 0 rfl ?_
    refine g_X8_14 C kdM_0 fl_X8_25 dX8_limit_21 ?_
    refine v_aload_n C hl dX8_limit_24 rfl 0 rfl ?_
    refine g_X8_15 C kdM_0 fl_X8_28 dX8_limit_25 ?_
    refine v_iload_n C hl dX8_limit_28 rfl 2 rfl ?_
    refine v_iconst C dX8_limit_29 ?_
    refine v_iadd C dX8_limit_30 ?_
    refine alM7 C kdM_7 h dX8_limit_31 (fun h => ?_)
    refine alM6 C kdM_6 h dX8_limit_32 (fun h => ?_)
    refine v_iload_n C hl dX8_limit_33 rfl 1 rfl ?_
    have hz3 := (cr_e h).1
    have h := (cr_e h).2
    have hz4 := (cr_e h).1
    have h := (cr_e h).2
    refine v_icmp_gt C (tgt := 43) hz3 hz4 h dX8_limit_34 rfl (fun h => ?_) (fun h => ?_)
    · exact he12 _ _ (lv_sub hl [0, 2] rfl) h
    · refine v_iinc C hl (fun x => [(2, .int (i32 x)), (0, .ref (q 0)), (1, .int (i32 v1))]) dX8_limit_37 2 rfl (by decide) (fun _ => rfl) h (fun v2_5 ls hl h => ?_)
      refine v_goto C (tgt := 12) dX8_limit_40 rfl ?_
      exact hc12 _ _ (lv_sub hl [1, 2, 0] rfl) h
theorem wlX8_limit_12 (C : CxM p rmX8_limit s m args meth c D ac q RX8 cX8_limit 3) (hr : meth.sig.returnType = (some .int)) {v1 : Int} {σ : Mm} {e12 : Int → Option (Int × Mm)} {r : Int × Mm} (he12 : ∀ (v2x : Int) (ls : Array Slot), lv_has ls 3 [(0, .ref (q 0)), (2, .int (i32 v2x))] → e12 v2x = some r → VM p l e rmX8_limit s m args below meth c D ac q (QIM D ac q below args s r) σ (F0 m 43 ls [])) : ∀ (fu : Nat) (v2 : Int) (ls : Array Slot) (hl : lv_has ls 3 [(0, .ref (q 0)), (1, .int (i32 v1)), (2, .int (i32 v2))]) (h : lX8_limit_12 v1 σ e12 fu v2 = some r), VM p l e rmX8_limit s m args below meth c D ac q (QIM D ac q below args s r) σ (F0 m 12 ls []) := by
  intro fu
  induction fu with
  | zero =>
    intro v2 ls hl h
    have h : none = some r := h
    cases h
  | succ fu ih =>
    intro v2 ls hl h
    exact wX8_limit_12 C hr he12 (fun v2 ls hl h => ih v2 ls hl h) hl h
theorem mX8_limit (hq : QI 19 q) {v1 : Int} {σ : Mm} {r : Int × Mm} (h : fX8_limit v1 σ = some r) : MIM l D ac q yX8_limit cX8_limit 3 (some .int) rmX8_limit [.ref (q 0), .int (i32 v1)] σ r := by
  refine MI.of hq XT_M (by decide) (Nat.le_of_ble_eq_true rfl) (fun p e s m below meth c ls C hr hl => ?_)
  have hl : lv_has ls 3 [(0, .ref (q 0)), (1, .int (i32 v1))] := hl
  have h : cr v1 ((if v1 < 0 then some ((-1), σ) else bd (fX8_makes σ) (fun σ_2 => bindv 0 (fun v2_3 => lX8_limit_12 v1 σ_2 (fun v2_4 => fX8_limit_43 v2_4 σ_2) 400 v2_3)))) = some r := h
  refine v_iload_n C hl dX8_limit_0 rfl 1 rfl ?_
  have hz1 := (cr_e h).1
  have h := (cr_e h).2
  refine v_if_ge C (tgt := 6) hz1 h dX8_limit_1 rfl (fun h => ?_) (fun h => ?_)
  · refine v_aload_n C hl dX8_limit_6 rfl 0 rfl ?_
    obtain ⟨σ_2, hv2, h⟩ := bd_e h
    refine v_callVV C 0 (klM kdM_0) rfl (ckM1 kdM_0 _) rfl [] (mX8_makes C.2.2.2.2.1 hv2) cd_X8_makes ic_X8 im_X8_makes se_X8_makes ml_X8_257 yk_X8_makes ⟨rfl, rfl, by decide, by decide⟩ rfl hl.1 (rest := []) rfl (Nat.le_of_ble_eq_true rfl) dX8_limit_7 ?_
    refine v_iconst C dX8_limit_10 ?_
    refine v_istore_n C hl (fun x => [(2, .int (i32 x)), (0, .ref (q 0)), (1, .int (i32 v1))]) dX8_limit_11 rfl (by decide) (fun _ => rfl) h (fun v2_3 ls hl h => ?_)
    exact wlX8_limit_12 C hr (fun v2_4 ls hl h => wX8_limit_43 C hr (lv_sub hl [0, 1] rfl) h) _ _ _ (lv_sub hl [1, 2, 0] rfl) h
  · refine v_iconst C dX8_limit_4 ?_
    exact v_iret C hr h dX8_limit_5
end
section
variable {l : Launch} {D : va_G} {ac : Nat → ClassId} {q : Nat → Nat} {p : Program} {e : Env} {s : State} {m : MethodId} {args : Array Value} {below : List Frame} {meth : Method} {c : Code} {ls : Array Slot}
theorem dX8_moves_0 : decode cX8_moves 0 = .ok (.aload_n 0, 1) := by decide +kernel
theorem dX8_moves_1 : decode cX8_moves 1 = .ok (.iload_n 1, 1) := by decide +kernel
theorem dX8_moves_2 : decode cX8_moves 2 = .ok (.invokevirtual 266, 3) := by decide +kernel
theorem dX8_moves_5 : decode cX8_moves 5 = .ok (.ifCond .eq 27, 3) := by decide +kernel
theorem dX8_moves_8 : decode cX8_moves 8 = .ok (.iload_n 2, 1) := by decide +kernel
theorem dX8_moves_9 : decode cX8_moves 9 = .ok (.i2l, 1) := by decide +kernel
theorem dX8_moves_10 : decode cX8_moves 10 = .ok (.lconst 0, 1) := by decide +kernel
theorem dX8_moves_11 : decode cX8_moves 11 = .ok (.ldc2_w 298, 3) := by decide +kernel
theorem dX8_moves_14 : decode cX8_moves 14 = .ok (.invokestatic 67, 3) := by decide +kernel
theorem dX8_moves_17 : decode cX8_moves 17 = .ok (.ifCond .eq 15, 3) := by decide +kernel
theorem dX8_moves_20 : decode cX8_moves 20 = .ok (.iload_n 3, 1) := by decide +kernel
theorem dX8_moves_21 : decode cX8_moves 21 = .ok (.i2l, 1) := by decide +kernel
theorem dX8_moves_22 : decode cX8_moves 22 = .ok (.lconst 0, 1) := by decide +kernel
theorem dX8_moves_23 : decode cX8_moves 23 = .ok (.ldc2_w 298, 3) := by decide +kernel
theorem dX8_moves_26 : decode cX8_moves 26 = .ok (.invokestatic 67, 3) := by decide +kernel
theorem dX8_moves_29 : decode cX8_moves 29 = .ok (.ifCond .ne 5, 3) := by decide +kernel
theorem dX8_moves_32 : decode cX8_moves 32 = .ok (.iconst (-1), 1) := by decide +kernel
theorem dX8_moves_33 : decode cX8_moves 33 = .ok (.ireturn, 1) := by decide +kernel
theorem dX8_moves_34 : decode cX8_moves 34 = .ok (.aload_n 0, 1) := by decide +kernel
theorem dX8_moves_35 : decode cX8_moves 35 = .ok (.getfield 7, 3) := by decide +kernel
theorem dX8_moves_38 : decode cX8_moves 38 = .ok (.iload_n 1, 1) := by decide +kernel
theorem dX8_moves_39 : decode cX8_moves 39 = .ok (.iaload, 1) := by decide +kernel
theorem dX8_moves_40 : decode cX8_moves 40 = .ok (.istore 4, 2) := by decide +kernel
theorem dX8_moves_42 : decode cX8_moves 42 = .ok (.aload_n 0, 1) := by decide +kernel
theorem dX8_moves_43 : decode cX8_moves 43 = .ok (.getfield 7, 3) := by decide +kernel
theorem dX8_moves_46 : decode cX8_moves 46 = .ok (.bipush 24, 2) := by decide +kernel
theorem dX8_moves_48 : decode cX8_moves 48 = .ok (.iload_n 1, 1) := by decide +kernel
theorem dX8_moves_49 : decode cX8_moves 49 = .ok (.iadd, 1) := by decide +kernel
theorem dX8_moves_50 : decode cX8_moves 50 = .ok (.iaload, 1) := by decide +kernel
theorem dX8_moves_51 : decode cX8_moves 51 = .ok (.istore 5, 2) := by decide +kernel
theorem dX8_moves_53 : decode cX8_moves 53 = .ok (.aload_n 0, 1) := by decide +kernel
theorem dX8_moves_54 : decode cX8_moves 54 = .ok (.getfield 7, 3) := by decide +kernel
theorem dX8_moves_57 : decode cX8_moves 57 = .ok (.iload_n 1, 1) := by decide +kernel
theorem dX8_moves_58 : decode cX8_moves 58 = .ok (.iload_n 2, 1) := by decide +kernel
theorem dX8_moves_59 : decode cX8_moves 59 = .ok (.iastore, 1) := by decide +kernel
theorem dX8_moves_60 : decode cX8_moves 60 = .ok (.aload_n 0, 1) := by decide +kernel
theorem dX8_moves_61 : decode cX8_moves 61 = .ok (.getfield 7, 3) := by decide +kernel
theorem dX8_moves_64 : decode cX8_moves 64 = .ok (.bipush 24, 2) := by decide +kernel
theorem dX8_moves_66 : decode cX8_moves 66 = .ok (.iload_n 1, 1) := by decide +kernel
theorem dX8_moves_67 : decode cX8_moves 67 = .ok (.iadd, 1) := by decide +kernel
theorem dX8_moves_68 : decode cX8_moves 68 = .ok (.iload_n 3, 1) := by decide +kernel
theorem dX8_moves_69 : decode cX8_moves 69 = .ok (.iastore, 1) := by decide +kernel
theorem dX8_moves_70 : decode cX8_moves 70 = .ok (.aload_n 0, 1) := by decide +kernel
theorem dX8_moves_71 : decode cX8_moves 71 = .ok (.iconst 0, 1) := by decide +kernel
theorem dX8_moves_72 : decode cX8_moves 72 = .ok (.invokevirtual 131, 3) := by decide +kernel
theorem dX8_moves_75 : decode cX8_moves 75 = .ok (.ifCond .ne 25, 3) := by decide +kernel
theorem dX8_moves_78 : decode cX8_moves 78 = .ok (.aload_n 0, 1) := by decide +kernel
theorem dX8_moves_79 : decode cX8_moves 79 = .ok (.getfield 7, 3) := by decide +kernel
theorem dX8_moves_82 : decode cX8_moves 82 = .ok (.iload_n 1, 1) := by decide +kernel
theorem dX8_moves_83 : decode cX8_moves 83 = .ok (.iload 4, 2) := by decide +kernel
theorem dX8_moves_85 : decode cX8_moves 85 = .ok (.iastore, 1) := by decide +kernel
theorem dX8_moves_86 : decode cX8_moves 86 = .ok (.aload_n 0, 1) := by decide +kernel
theorem dX8_moves_87 : decode cX8_moves 87 = .ok (.getfield 7, 3) := by decide +kernel
theorem dX8_moves_90 : decode cX8_moves 90 = .ok (.bipush 24, 2) := by decide +kernel
theorem dX8_moves_92 : decode cX8_moves 92 = .ok (.iload_n 1, 1) := by decide +kernel
theorem dX8_moves_93 : decode cX8_moves 93 = .ok (.iadd, 1) := by decide +kernel
theorem dX8_moves_94 : decode cX8_moves 94 = .ok (.iload 5, 2) := by decide +kernel
theorem dX8_moves_96 : decode cX8_moves 96 = .ok (.iastore, 1) := by decide +kernel
theorem dX8_moves_97 : decode cX8_moves 97 = .ok (.bipush (-2), 2) := by decide +kernel
theorem dX8_moves_99 : decode cX8_moves 99 = .ok (.ireturn, 1) := by decide +kernel
theorem dX8_moves_100 : decode cX8_moves 100 = .ok (.aload_n 0, 1) := by decide +kernel
theorem dX8_moves_101 : decode cX8_moves 101 = .ok (.iconst 0, 1) := by decide +kernel
theorem dX8_moves_102 : decode cX8_moves 102 = .ok (.putfield 149, 3) := by decide +kernel
theorem dX8_moves_105 : decode cX8_moves 105 = .ok (.iconst 1, 1) := by decide +kernel
theorem dX8_moves_106 : decode cX8_moves 106 = .ok (.ireturn, 1) := by decide +kernel
theorem wX8_moves_32 (C : CxM p rmX8_moves s m args meth c D ac q RX8 cX8_moves 6) (hr : meth.sig.returnType = (some .int)) {σ : Mm} {r : Int × Mm} (hl : lv_has ls 6 [(0, .ref (q 0))]) (h : fX8_moves_32 σ = some r) : VM p l e rmX8_moves s m args below meth c D ac q (QIM D ac q below args s r) σ (F0 m 32 ls []) := by
  have h : some ((-1), σ) = some r := h
  refine v_iconst C dX8_moves_32 ?_
  exact v_iret C hr h dX8_moves_33
theorem mX8_moves (hq : QI 19 q) {v1 : Int} {v2 : Int} {v3 : Int} {σ : Mm} {r : Int × Mm} (h : fX8_moves v1 v2 v3 σ = some r) : MIM l D ac q yX8_moves cX8_moves 6 (some .int) rmX8_moves [.ref (q 0), .int (i32 v1), .int (i32 v2), .int (i32 v3)] σ r := by
  refine MI.of hq XT_M (by decide) (Nat.le_of_ble_eq_true rfl) (fun p e s m below meth c ls C hr hl => ?_)
  have hl : lv_has ls 6 [(0, .ref (q 0)), (1, .int (i32 v1)), (2, .int (i32 v2)), (3, .int (i32 v3))] := hl
  have h : bd (fX8_isPoint v1 σ) (fun x_1 => cr x_1 ((if x_1 = 0 then fX8_moves_32 σ else cr v2 (bd (fX8_in v2 0 199 σ) (fun x_3 => cr x_3 ((if x_3 = 0 then fX8_moves_32 σ else cr v3 (bd (fX8_in v3 0 199 σ) (fun x_5 => cr x_5 ((if x_5 = 0 then fX8_moves_32 σ else chk v1 700 (bindv (σ 1 (v1).toNat) (fun v4_7 => chk (24 + v1) 700 (bindv (σ 1 (24 + v1).toNat) (fun v5_8 => chk v1 700 (bindv (sto σ 1 (v1).toNat v2) (fun σ_9 => chk (24 + v1) 700 (bindv (sto σ_9 1 (24 + v1).toNat v3) (fun σ_10 => bd (fX8_isFair 0 σ_10) (fun x_11 => cr x_11 ((if x_11 = 0 then chk v1 700 (bindv (sto σ_10 1 (v1).toNat v4_7) (fun σ_14 => chk (24 + v1) 700 (bindv (sto σ_14 1 (24 + v1).toNat v5_8) (fun σ_15 => some ((-2), σ_15))))) else bindv (sto σ_10 0 17 0) (fun σ_13 => some (1, σ_13)))))))))))))))))))))))) = some r := h
  refine v_aload_n C hl dX8_moves_0 rfl 0 rfl ?_
  refine v_iload_n C hl dX8_moves_1 rfl 1 rfl ?_
  obtain ⟨x_1, hv1, h⟩ := bd_e h
  refine v_callVI C 0 (klM kdM_0) rfl (ckM1 kdM_0 _) rfl [.int (i32 v1)] (mX8_isPoint C.2.2.2.2.1 hv1) cd_X8_isPoint ic_X8 im_X8_isPoint se_X8_isPoint ml_X8_266 yk_X8_isPoint ⟨rfl, rfl, by decide, by decide⟩ rfl hl.1 (rest := []) rfl (Nat.le_of_ble_eq_true rfl) dX8_moves_2 ?_
  have hz2 := (cr_e h).1
  have h := (cr_e h).2
  refine v_if_eq C (tgt := 32) hz2 h dX8_moves_5 rfl (fun h => ?_) (fun h => ?_)
  · exact wX8_moves_32 C hr (lv_sub hl [0] rfl) h
  · refine v_iload_n C hl dX8_moves_8 rfl 2 rfl ?_
    refine v_i2l C h dX8_moves_9 (fun h => ?_)
    refine v_lconst C (v := 0) dX8_moves_10 rfl ?_
    refine v_ldc2 C (v := 199) kc_X8_298 rfl dX8_moves_11 ?_
    obtain ⟨x_3, hv3, h⟩ := bd_e h
    refine v_callSI C [.long (i64 v2), .long (i64 0), .long (i64 199)] (mX8_in C.2.2.2.2.1 hv3) cd_X8_in ic_X8 sm_X8_in ml_X8_67 yk_X8_in ⟨rfl, rfl, by decide, by decide⟩ rfl hl.1 (rest := []) rfl (Nat.le_of_ble_eq_true rfl) dX8_moves_14 ?_
    have hz4 := (cr_e h).1
    have h := (cr_e h).2
    refine v_if_eq C (tgt := 32) hz4 h dX8_moves_17 rfl (fun h => ?_) (fun h => ?_)
    · exact wX8_moves_32 C hr (lv_sub hl [0] rfl) h
    · refine v_iload_n C hl dX8_moves_20 rfl 3 rfl ?_
      refine v_i2l C h dX8_moves_21 (fun h => ?_)
      refine v_lconst C (v := 0) dX8_moves_22 rfl ?_
      refine v_ldc2 C (v := 199) kc_X8_298 rfl dX8_moves_23 ?_
      obtain ⟨x_5, hv5, h⟩ := bd_e h
      refine v_callSI C [.long (i64 v3), .long (i64 0), .long (i64 199)] (mX8_in C.2.2.2.2.1 hv5) cd_X8_in ic_X8 sm_X8_in ml_X8_67 yk_X8_in ⟨rfl, rfl, by decide, by decide⟩ rfl hl.1 (rest := []) rfl (Nat.le_of_ble_eq_true rfl) dX8_moves_26 ?_
      have hz6 := (cr_e h).1
      have h := (cr_e h).2
      refine v_if_ne C (tgt := 34) hz6 h dX8_moves_29 rfl (fun h => ?_) (fun h => ?_)
      · refine v_aload_n C hl dX8_moves_34 rfl 0 rfl ?_
        refine g_X8_0 C kdM_0 fl_X8_7 dX8_moves_35 ?_
        refine v_iload_n C hl dX8_moves_38 rfl 1 rfl ?_
        refine alM2 C kdM_1 h dX8_moves_39 (fun h => ?_)
        refine v_istore C hl (fun x => [(4, .int (i32 x)), (0, .ref (q 0)), (1, .int (i32 v1)), (2, .int (i32 v2)), (3, .int (i32 v3))]) dX8_moves_40 (by decide) (fun _ => rfl) h (fun v4_7 ls hl h => ?_)
        refine v_aload_n C hl dX8_moves_42 rfl 1 rfl ?_
        refine g_X8_0 C kdM_0 fl_X8_7 dX8_moves_43 ?_
        refine v_bipush C dX8_moves_46 rfl ?_
        refine v_iload_n C hl dX8_moves_48 rfl 2 rfl ?_
        refine v_iadd C dX8_moves_49 ?_
        refine alM2 C kdM_1 h dX8_moves_50 (fun h => ?_)
        refine v_istore C hl (fun x => [(5, .int (i32 x)), (4, .int (i32 v4_7)), (0, .ref (q 0)), (1, .int (i32 v1)), (2, .int (i32 v2)), (3, .int (i32 v3))]) dX8_moves_51 (by decide) (fun _ => rfl) h (fun v5_8 ls hl h => ?_)
        refine v_aload_n C hl dX8_moves_53 rfl 2 rfl ?_
        refine g_X8_0 C kdM_0 fl_X8_7 dX8_moves_54 ?_
        refine v_iload_n C hl dX8_moves_57 rfl 3 rfl ?_
        refine v_iload_n C hl dX8_moves_58 rfl 4 rfl ?_
        refine asM2 C kdM_1 h dX8_moves_59 (fun σ_9 h => ?_)
        refine v_aload_n C hl dX8_moves_60 rfl 2 rfl ?_
        refine g_X8_0 C kdM_0 fl_X8_7 dX8_moves_61 ?_
        refine v_bipush C dX8_moves_64 rfl ?_
        refine v_iload_n C hl dX8_moves_66 rfl 3 rfl ?_
        refine v_iadd C dX8_moves_67 ?_
        refine v_iload_n C hl dX8_moves_68 rfl 5 rfl ?_
        refine asM2 C kdM_1 h dX8_moves_69 (fun σ_10 h => ?_)
        refine v_aload_n C hl dX8_moves_70 rfl 2 rfl ?_
        refine v_iconst C dX8_moves_71 ?_
        obtain ⟨x_11, hv11, h⟩ := bd_e h
        refine v_callVI C 0 (klM kdM_0) rfl (ckM1 kdM_0 _) rfl [.int (i32 0)] (mX8_isFair C.2.2.2.2.1 hv11) cd_X8_isFair ic_X8 im_X8_isFair se_X8_isFair ml_X8_131 yk_X8_isFair ⟨rfl, rfl, by decide, by decide⟩ rfl hl.1 (rest := []) rfl (Nat.le_of_ble_eq_true rfl) dX8_moves_72 ?_
        have hz12 := (cr_e h).1
        have h := (cr_e h).2
        refine v_if_ne C (tgt := 100) hz12 h dX8_moves_75 rfl (fun h => ?_) (fun h => ?_)
        · refine v_aload_n C hl dX8_moves_100 rfl 2 rfl ?_
          refine v_iconst C dX8_moves_101 ?_
          refine s_X8_17 C kdM_0 fl_X8_149 (Or.inl rfl) h dX8_moves_102 (fun σ_13 h => ?_)
          refine v_iconst C dX8_moves_105 ?_
          exact v_iret C hr h dX8_moves_106
        · refine v_aload_n C hl dX8_moves_78 rfl 2 rfl ?_
          refine g_X8_0 C kdM_0 fl_X8_7 dX8_moves_79 ?_
          refine v_iload_n C hl dX8_moves_82 rfl 3 rfl ?_
          refine v_iload C hl dX8_moves_83 1 rfl ?_
          refine asM2 C kdM_1 h dX8_moves_85 (fun σ_14 h => ?_)
          refine v_aload_n C hl dX8_moves_86 rfl 2 rfl ?_
          refine g_X8_0 C kdM_0 fl_X8_7 dX8_moves_87 ?_
          refine v_bipush C dX8_moves_90 rfl ?_
          refine v_iload_n C hl dX8_moves_92 rfl 3 rfl ?_
          refine v_iadd C dX8_moves_93 ?_
          refine v_iload C hl dX8_moves_94 0 rfl ?_
          refine asM2 C kdM_1 h dX8_moves_96 (fun σ_15 h => ?_)
          refine v_bipush C dX8_moves_97 rfl ?_
          exact v_iret C hr h dX8_moves_99
      · exact wX8_moves_32 C hr (lv_sub hl [0] rfl) h
end
section
variable {l : Launch} {D : va_G} {ac : Nat → ClassId} {q : Nat → Nat} {p : Program} {e : Env} {s : State} {m : MethodId} {args : Array Value} {below : List Frame} {meth : Method} {c : Code} {ls : Array Slot}
theorem dX8_move_0 : decode cX8_move 0 = .ok (.aload_n 0, 1) := by decide +kernel
theorem dX8_move_1 : decode cX8_move 1 = .ok (.iload_n 1, 1) := by decide +kernel
theorem dX8_move_2 : decode cX8_move 2 = .ok (.iload_n 2, 1) := by decide +kernel
theorem dX8_move_3 : decode cX8_move 3 = .ok (.iload_n 3, 1) := by decide +kernel
theorem dX8_move_4 : decode cX8_move 4 = .ok (.invokevirtual 303, 3) := by decide +kernel
theorem dX8_move_7 : decode cX8_move 7 = .ok (.ireturn, 1) := by decide +kernel
theorem mX8_move (hq : QI 19 q) {v1 : Int} {v2 : Int} {v3 : Int} {σ : Mm} {r : Int × Mm} (h : fX8_move v1 v2 v3 σ = some r) : MIM l D ac q yX8_move cX8_move 4 (some .int) rmX8_move [.ref (q 0), .int (i32 v1), .int (i32 v2), .int (i32 v3)] σ r := by
  refine MI.of hq XT_M (by decide) (Nat.le_of_ble_eq_true rfl) (fun p e s m below meth c ls C hr hl => ?_)
  have hl : lv_has ls 4 [(0, .ref (q 0)), (1, .int (i32 v1)), (2, .int (i32 v2)), (3, .int (i32 v3))] := hl
  have h : bd2 (fX8_moves v1 v2 v3 σ) (fun x_1 σ_1 => some (x_1, σ_1)) = some r := h
  refine v_aload_n C hl dX8_move_0 rfl 0 rfl ?_
  refine v_iload_n C hl dX8_move_1 rfl 1 rfl ?_
  refine v_iload_n C hl dX8_move_2 rfl 2 rfl ?_
  refine v_iload_n C hl dX8_move_3 rfl 3 rfl ?_
  obtain ⟨x_1, σ_1, hv1, h⟩ := bd2_e h
  refine v_callVI C 0 (klM kdM_0) rfl (ckM1 kdM_0 _) rfl [.int (i32 v1), .int (i32 v2), .int (i32 v3)] (mX8_moves C.2.2.2.2.1 hv1) cd_X8_moves ic_X8 im_X8_moves se_X8_moves ml_X8_303 yk_X8_moves ⟨rfl, rfl, by decide, by decide⟩ rfl hl.1 (rest := []) rfl (Nat.le_of_ble_eq_true rfl) dX8_move_4 ?_
  exact v_iret C hr h dX8_move_7
end
section
variable {l : Launch} {D : va_G} {ac : Nat → ClassId} {q : Nat → Nat} {p : Program} {e : Env} {s : State} {m : MethodId} {args : Array Value} {below : List Frame} {meth : Method} {c : Code} {ls : Array Slot}
theorem dX8_nameHere_0 : decode cX8_nameHere 0 = .ok (.iconst 0, 1) := by decide +kernel
theorem dX8_nameHere_1 : decode cX8_nameHere 1 = .ok (.istore_n 1, 1) := by decide +kernel
theorem dX8_nameHere_2 : decode cX8_nameHere 2 = .ok (.iload_n 1, 1) := by decide +kernel
theorem dX8_nameHere_3 : decode cX8_nameHere 3 = .ok (.iconst 3, 1) := by decide +kernel
theorem dX8_nameHere_4 : decode cX8_nameHere 4 = .ok (.if_icmp .ge 113, 3) := by decide +kernel
theorem dX8_nameHere_7 : decode cX8_nameHere 7 = .ok (.aload_n 0, 1) := by decide +kernel
theorem dX8_nameHere_8 : decode cX8_nameHere 8 = .ok (.getfield 84, 3) := by decide +kernel
theorem dX8_nameHere_11 : decode cX8_nameHere 11 = .ok (.iconst 1, 1) := by decide +kernel
theorem dX8_nameHere_12 : decode cX8_nameHere 12 = .ok (.if_icmp .ne 105, 3) := by decide +kernel
theorem dX8_nameHere_15 : decode cX8_nameHere 15 = .ok (.aload_n 0, 1) := by decide +kernel
theorem dX8_nameHere_16 : decode cX8_nameHere 16 = .ok (.getfield 87, 3) := by decide +kernel
theorem dX8_nameHere_19 : decode cX8_nameHere 19 = .ok (.aload_n 0, 1) := by decide +kernel
theorem dX8_nameHere_20 : decode cX8_nameHere 20 = .ok (.getfield 78, 3) := by decide +kernel
theorem dX8_nameHere_23 : decode cX8_nameHere 23 = .ok (.isub, 1) := by decide +kernel
theorem dX8_nameHere_24 : decode cX8_nameHere 24 = .ok (.aload_n 0, 1) := by decide +kernel
theorem dX8_nameHere_25 : decode cX8_nameHere 25 = .ok (.getfield 16, 3) := by decide +kernel
theorem dX8_nameHere_28 : decode cX8_nameHere 28 = .ok (.iload_n 1, 1) := by decide +kernel
theorem dX8_nameHere_29 : decode cX8_nameHere 29 = .ok (.iconst 1, 1) := by decide +kernel
theorem dX8_nameHere_30 : decode cX8_nameHere 30 = .ok (.iadd, 1) := by decide +kernel
theorem dX8_nameHere_31 : decode cX8_nameHere 31 = .ok (.iaload, 1) := by decide +kernel
theorem dX8_nameHere_32 : decode cX8_nameHere 32 = .ok (.aload_n 0, 1) := by decide +kernel
theorem dX8_nameHere_33 : decode cX8_nameHere 33 = .ok (.getfield 16, 3) := by decide +kernel
theorem dX8_nameHere_36 : decode cX8_nameHere 36 = .ok (.iload_n 1, 1) := by decide +kernel
theorem dX8_nameHere_37 : decode cX8_nameHere 37 = .ok (.iaload, 1) := by decide +kernel
theorem dX8_nameHere_38 : decode cX8_nameHere 38 = .ok (.isub, 1) := by decide +kernel
theorem dX8_nameHere_39 : decode cX8_nameHere 39 = .ok (.if_icmp .ne 7, 3) := by decide +kernel
theorem dX8_nameHere_42 : decode cX8_nameHere 42 = .ok (.iconst 1, 1) := by decide +kernel
theorem dX8_nameHere_43 : decode cX8_nameHere 43 = .ok (.goto 4, 3) := by decide +kernel
theorem dX8_nameHere_46 : decode cX8_nameHere 46 = .ok (.iconst 0, 1) := by decide +kernel
theorem dX8_nameHere_47 : decode cX8_nameHere 47 = .ok (.istore_n 2, 1) := by decide +kernel
theorem dX8_nameHere_48 : decode cX8_nameHere 48 = .ok (.iconst 0, 1) := by decide +kernel
theorem dX8_nameHere_49 : decode cX8_nameHere 49 = .ok (.istore_n 3, 1) := by decide +kernel
theorem dX8_nameHere_50 : decode cX8_nameHere 50 = .ok (.iload_n 2, 1) := by decide +kernel
theorem dX8_nameHere_51 : decode cX8_nameHere 51 = .ok (.ifCond .eq 54, 3) := by decide +kernel
theorem dX8_nameHere_54 : decode cX8_nameHere 54 = .ok (.iload_n 3, 1) := by decide +kernel
theorem dX8_nameHere_55 : decode cX8_nameHere 55 = .ok (.aload_n 0, 1) := by decide +kernel
theorem dX8_nameHere_56 : decode cX8_nameHere 56 = .ok (.getfield 87, 3) := by decide +kernel
theorem dX8_nameHere_59 : decode cX8_nameHere 59 = .ok (.aload_n 0, 1) := by decide +kernel
theorem dX8_nameHere_60 : decode cX8_nameHere 60 = .ok (.getfield 78, 3) := by decide +kernel
theorem dX8_nameHere_63 : decode cX8_nameHere 63 = .ok (.isub, 1) := by decide +kernel
theorem dX8_nameHere_64 : decode cX8_nameHere 64 = .ok (.if_icmp .ge 41, 3) := by decide +kernel
theorem dX8_nameHere_67 : decode cX8_nameHere 67 = .ok (.aload_n 0, 1) := by decide +kernel
theorem dX8_nameHere_68 : decode cX8_nameHere 68 = .ok (.aload_n 0, 1) := by decide +kernel
theorem dX8_nameHere_69 : decode cX8_nameHere 69 = .ok (.getfield 78, 3) := by decide +kernel
theorem dX8_nameHere_72 : decode cX8_nameHere 72 = .ok (.iload_n 3, 1) := by decide +kernel
theorem dX8_nameHere_73 : decode cX8_nameHere 73 = .ok (.iadd, 1) := by decide +kernel
theorem dX8_nameHere_74 : decode cX8_nameHere 74 = .ok (.invokevirtual 90, 3) := by decide +kernel
theorem dX8_nameHere_77 : decode cX8_nameHere 77 = .ok (.aload_n 0, 1) := by decide +kernel
theorem dX8_nameHere_78 : decode cX8_nameHere 78 = .ok (.getfield 19, 3) := by decide +kernel
theorem dX8_nameHere_81 : decode cX8_nameHere 81 = .ok (.aload_n 0, 1) := by decide +kernel
theorem dX8_nameHere_82 : decode cX8_nameHere 82 = .ok (.getfield 16, 3) := by decide +kernel
theorem dX8_nameHere_85 : decode cX8_nameHere 85 = .ok (.iload_n 1, 1) := by decide +kernel
theorem dX8_nameHere_86 : decode cX8_nameHere 86 = .ok (.iaload, 1) := by decide +kernel
theorem dX8_nameHere_87 : decode cX8_nameHere 87 = .ok (.iload_n 3, 1) := by decide +kernel
theorem dX8_nameHere_88 : decode cX8_nameHere 88 = .ok (.iadd, 1) := by decide +kernel
theorem dX8_nameHere_89 : decode cX8_nameHere 89 = .ok (.iaload, 1) := by decide +kernel
theorem dX8_nameHere_90 : decode cX8_nameHere 90 = .ok (.if_icmp .ne 7, 3) := by decide +kernel
theorem dX8_nameHere_93 : decode cX8_nameHere 93 = .ok (.iconst 1, 1) := by decide +kernel
theorem dX8_nameHere_94 : decode cX8_nameHere 94 = .ok (.goto 4, 3) := by decide +kernel
theorem dX8_nameHere_97 : decode cX8_nameHere 97 = .ok (.iconst 0, 1) := by decide +kernel
theorem dX8_nameHere_98 : decode cX8_nameHere 98 = .ok (.istore_n 2, 1) := by decide +kernel
theorem dX8_nameHere_99 : decode cX8_nameHere 99 = .ok (.iinc 3 1, 3) := by decide +kernel
theorem dX8_nameHere_102 : decode cX8_nameHere 102 = .ok (.goto (-52), 3) := by decide +kernel
theorem dX8_nameHere_105 : decode cX8_nameHere 105 = .ok (.iload_n 2, 1) := by decide +kernel
theorem dX8_nameHere_106 : decode cX8_nameHere 106 = .ok (.ifCond .eq 5, 3) := by decide +kernel
theorem dX8_nameHere_109 : decode cX8_nameHere 109 = .ok (.iload_n 1, 1) := by decide +kernel
theorem dX8_nameHere_110 : decode cX8_nameHere 110 = .ok (.ireturn, 1) := by decide +kernel
theorem dX8_nameHere_111 : decode cX8_nameHere 111 = .ok (.iinc 1 1, 3) := by decide +kernel
theorem dX8_nameHere_114 : decode cX8_nameHere 114 = .ok (.goto (-112), 3) := by decide +kernel
theorem dX8_nameHere_117 : decode cX8_nameHere 117 = .ok (.bipush (-4), 2) := by decide +kernel
theorem dX8_nameHere_119 : decode cX8_nameHere 119 = .ok (.ireturn, 1) := by decide +kernel
theorem wX8_nameHere_117 (C : CxM p rmX8_nameHere s m args meth c D ac q RX8 cX8_nameHere 4) (hr : meth.sig.returnType = (some .int)) {σ : Mm} {r : Int} (hl : lv_has ls 4 [(0, .ref (q 0))]) (h : fX8_nameHere_117 σ = some r) : VM p l e rmX8_nameHere s m args below meth c D ac q (QIM D ac q below args s (r, σ)) σ (F0 m 117 ls []) := by
  have h : some (-4) = some r := h
  refine v_bipush C dX8_nameHere_117 rfl ?_
  exact v_iret C hr (so1 h) dX8_nameHere_119
theorem wX8_nameHere_105 (C : CxM p rmX8_nameHere s m args meth c D ac q RX8 cX8_nameHere 4) (hr : meth.sig.returnType = (some .int)) {v1 : Int} {v2 : Int} {c2 : Int → Option (Int)} {σ : Mm} {r : Int} (hc2 : ∀ (v1x : Int) (ls : Array Slot), lv_has ls 4 [(0, .ref (q 0)), (1, .int (i32 v1x))] → c2 v1x = some r → VM p l e rmX8_nameHere s m args below meth c D ac q (QIM D ac q below args s (r, σ)) σ (F0 m 2 ls [])) (hl : lv_has ls 4 [(0, .ref (q 0)), (1, .int (i32 v1)), (2, .int (i32 v2))]) (h : fX8_nameHere_105 c2 v1 v2 σ = some r) : VM p l e rmX8_nameHere s m args below meth c D ac q (QIM D ac q below args s (r, σ)) σ (F0 m 105 ls []) := by
  have h : cr v2 ((if v2 = 0 then bindv (v1 + 1) (fun v1_2 => c2 v1_2) else some v1)) = some r := h
  refine v_iload_n C hl dX8_nameHere_105 rfl 2 rfl ?_
  have hz1 := (cr_e h).1
  have h := (cr_e h).2
  refine v_if_eq C (tgt := 111) hz1 h dX8_nameHere_106 rfl (fun h => ?_) (fun h => ?_)
  · refine v_iinc C hl (fun x => [(1, .int (i32 x)), (0, .ref (q 0)), (2, .int (i32 v2))]) dX8_nameHere_111 1 rfl (by decide) (fun _ => rfl) h (fun v1_2 ls hl h => ?_)
    refine v_goto C (tgt := 2) dX8_nameHere_114 rfl ?_
    exact hc2 _ _ (lv_sub hl [1, 0] rfl) h
  · refine v_iload_n C hl dX8_nameHere_109 rfl 1 rfl ?_
    exact v_iret C hr (so1 h) dX8_nameHere_110
theorem wX8_nameHere_98 (C : CxM p rmX8_nameHere s m args meth c D ac q RX8 cX8_nameHere 4) (hr : meth.sig.returnType = (some .int)) {v1 : Int} {v3 : Int} {t0 : Int} {c50 : Int → Int → Option (Int)} {σ : Mm} {r : Int} (hc50 : ∀ (v2x : Int) (v3x : Int) (ls : Array Slot), lv_has ls 4 [(0, .ref (q 0)), (1, .int (i32 v1)), (2, .int (i32 v2x)), (3, .int (i32 v3x))] → c50 v2x v3x = some r → VM p l e rmX8_nameHere s m args below meth c D ac q (QIM D ac q below args s (r, σ)) σ (F0 m 50 ls [])) (hl : lv_has ls 4 [(0, .ref (q 0)), (1, .int (i32 v1)), (3, .int (i32 v3))]) (h : fX8_nameHere_98 c50 v1 v3 t0 σ = some r) : VM p l e rmX8_nameHere s m args below meth c D ac q (QIM D ac q below args s (r, σ)) σ (F0 m 98 ls [.int (i32 t0)]) := by
  have h : bindv t0 (fun v2_1 => bindv (v3 + 1) (fun v3_2 => c50 v2_1 v3_2)) = some r := h
  refine v_istore_n C hl (fun x => [(2, .int (i32 x)), (0, .ref (q 0)), (1, .int (i32 v1)), (3, .int (i32 v3))]) dX8_nameHere_98 rfl (by decide) (fun _ => rfl) h (fun v2_1 ls hl h => ?_)
  refine v_iinc C hl (fun x => [(3, .int (i32 x)), (2, .int (i32 v2_1)), (0, .ref (q 0)), (1, .int (i32 v1))]) dX8_nameHere_99 3 rfl (by decide) (fun _ => rfl) h (fun v3_2 ls hl h => ?_)
  refine v_goto C (tgt := 50) dX8_nameHere_102 rfl ?_
  exact hc50 _ _ _ (lv_sub hl [2, 3, 1, 0] rfl) h
theorem wX8_nameHere_50 (C : CxM p rmX8_nameHere s m args meth c D ac q RX8 cX8_nameHere 4) (hr : meth.sig.returnType = (some .int)) {v1 : Int} {σ : Mm} {v2 : Int} {v3 : Int} {e50 : Int → Option (Int)} {c50 : Int → Int → Option (Int)} {r : Int} (he50 : ∀ (v2x : Int) (ls : Array Slot), lv_has ls 4 [(0, .ref (q 0)), (1, .int (i32 v1)), (2, .int (i32 v2x))] → e50 v2x = some r → VM p l e rmX8_nameHere s m args below meth c D ac q (QIM D ac q below args s (r, σ)) σ (F0 m 105 ls [])) (hc50 : ∀ (v2x : Int) (v3x : Int) (ls : Array Slot), lv_has ls 4 [(0, .ref (q 0)), (1, .int (i32 v1)), (2, .int (i32 v2x)), (3, .int (i32 v3x))] → c50 v2x v3x = some r → VM p l e rmX8_nameHere s m args below meth c D ac q (QIM D ac q below args s (r, σ)) σ (F0 m 50 ls [])) (hl : lv_has ls 4 [(0, .ref (q 0)), (1, .int (i32 v1)), (2, .int (i32 v2)), (3, .int (i32 v3))]) (h : fX8_nameHere_50 v1 σ e50 c50 v2 v3 = some r) : VM p l e rmX8_nameHere s m args below meth c D ac q (QIM D ac q below args s (r, σ)) σ (F0 m 50 ls []) := by
  have h : cr v2 ((if v2 = 0 then e50 v2 else cr v3 (cr ((σ 0 6) - (σ 0 7)) ((if v3 < (σ 0 6) - (σ 0 7) then bd (fX8_byteAt ((σ 0 7) + v3) σ) (fun x_4 => chk v1 4 (chk ((σ 3 (v1).toNat) + v3) 12 (cr x_4 (cr (σ 4 ((σ 3 (v1).toNat) + v3).toNat) ((if x_4 = σ 4 ((σ 3 (v1).toNat) + v3).toNat then fX8_nameHere_98 c50 v1 v3 1 σ else fX8_nameHere_98 c50 v1 v3 0 σ)))))) else e50 v2))))) = some r := h
  refine v_iload_n C hl dX8_nameHere_50 rfl 2 rfl ?_
  have hz1 := (cr_e h).1
  have h := (cr_e h).2
  refine v_if_eq C (tgt := 105) hz1 h dX8_nameHere_51 rfl (fun h => ?_) (fun h => ?_)
  · exact he50 _ _ (lv_sub hl [0, 1, 2] rfl) h
  · refine v_iload_n C hl dX8_nameHere_54 rfl 3 rfl ?_
    refine v_aload_n C hl dX8_nameHere_55 rfl 0 rfl ?_
    refine g_X8_6 C kdM_0 fl_X8_87 dX8_nameHere_56 ?_
    refine v_aload_n C hl dX8_nameHere_59 rfl 0 rfl ?_
    refine g_X8_7 C kdM_0 fl_X8_78 dX8_nameHere_60 ?_
    refine v_isub C dX8_nameHere_63 ?_
    have hz2 := (cr_e h).1
    have h := (cr_e h).2
    have hz3 := (cr_e h).1
    have h := (cr_e h).2
    refine v_icmp_ge C (tgt := 105) hz2 hz3 h dX8_nameHere_64 rfl (fun h => ?_) (fun h => ?_)
    · exact he50 _ _ (lv_sub hl [0, 1, 2] rfl) h
    · refine v_aload_n C hl dX8_nameHere_67 rfl 0 rfl ?_
      refine v_aload_n C hl dX8_nameHere_68 rfl 0 rfl ?_
      refine g_X8_7 C kdM_0 fl_X8_78 dX8_nameHere_69 ?_
      refine v_iload_n C hl dX8_nameHere_72 rfl 3 rfl ?_
      refine v_iadd C dX8_nameHere_73 ?_
      obtain ⟨x_4, hv4, h⟩ := bd_e h
      refine v_callVI C 0 (klM kdM_0) rfl (ckM1 kdM_0 _) rfl [.int (i32 ((σ 0 7) + v3))] (mX8_byteAt C.2.2.2.2.1 hv4) cd_X8_byteAt ic_X8 im_X8_byteAt se_X8_byteAt ml_X8_90 yk_X8_byteAt ⟨rfl, rfl, by decide, by decide⟩ rfl hl.1 (rest := []) rfl (Nat.le_of_ble_eq_true rfl) dX8_nameHere_74 ?_
      refine v_aload_n C hl dX8_nameHere_77 rfl 0 rfl ?_
      refine g_X8_11 C kdM_0 fl_X8_19 dX8_nameHere_78 ?_
      refine v_aload_n C hl dX8_nameHere_81 rfl 0 rfl ?_
      refine g_X8_10 C kdM_0 fl_X8_16 dX8_nameHere_82 ?_
      refine v_iload_n C hl dX8_nameHere_85 rfl 1 rfl ?_
      refine alM4 C kdM_3 h dX8_nameHere_86 (fun h => ?_)
      refine v_iload_n C hl dX8_nameHere_87 rfl 3 rfl ?_
      refine v_iadd C dX8_nameHere_88 ?_
      refine alM5 C kdM_4 h dX8_nameHere_89 (fun h => ?_)
      have hz5 := (cr_e h).1
      have h := (cr_e h).2
      have hz6 := (cr_e h).1
      have h := (cr_e h).2
      refine v_icmp_ne C (tgt := 97) hz5 hz6 h dX8_nameHere_90 rfl (fun h => ?_) (fun h => ?_)
      · refine v_iconst C dX8_nameHere_97 ?_
        exact wX8_nameHere_98 C hr hc50 (lv_sub hl [0, 1, 3] rfl) h
      · refine v_iconst C dX8_nameHere_93 ?_
        refine v_goto C (tgt := 98) dX8_nameHere_94 rfl ?_
        exact wX8_nameHere_98 C hr hc50 (lv_sub hl [0, 1, 3] rfl) h
theorem wlX8_nameHere_50 (C : CxM p rmX8_nameHere s m args meth c D ac q RX8 cX8_nameHere 4) (hr : meth.sig.returnType = (some .int)) {v1 : Int} {σ : Mm} {e50 : Int → Option (Int)} {r : Int} (he50 : ∀ (v2x : Int) (ls : Array Slot), lv_has ls 4 [(0, .ref (q 0)), (1, .int (i32 v1)), (2, .int (i32 v2x))] → e50 v2x = some r → VM p l e rmX8_nameHere s m args below meth c D ac q (QIM D ac q below args s (r, σ)) σ (F0 m 105 ls [])) : ∀ (fu : Nat) (v2 : Int) (v3 : Int) (ls : Array Slot) (hl : lv_has ls 4 [(0, .ref (q 0)), (1, .int (i32 v1)), (2, .int (i32 v2)), (3, .int (i32 v3))]) (h : lX8_nameHere_50 v1 σ e50 fu v2 v3 = some r), VM p l e rmX8_nameHere s m args below meth c D ac q (QIM D ac q below args s (r, σ)) σ (F0 m 50 ls []) := by
  intro fu
  induction fu with
  | zero =>
    intro v2 v3 ls hl h
    have h : none = some r := h
    cases h
  | succ fu ih =>
    intro v2 v3 ls hl h
    exact wX8_nameHere_50 C hr he50 (fun v2 v3 ls hl h => ih v2 v3 ls hl h) hl h
theorem wX8_nameHere_47 (C : CxM p rmX8_nameHere s m args meth c D ac q RX8 cX8_nameHere 4) (hr : meth.sig.returnType = (some .int)) {v1 : Int} {t0 : Int} {c2 : Int → Option (Int)} {σ : Mm} {r : Int} (hc2 : ∀ (v1x : Int) (ls : Array Slot), lv_has ls 4 [(0, .ref (q 0)), (1, .int (i32 v1x))] → c2 v1x = some r → VM p l e rmX8_nameHere s m args below meth c D ac q (QIM D ac q below args s (r, σ)) σ (F0 m 2 ls [])) (hl : lv_has ls 4 [(0, .ref (q 0)), (1, .int (i32 v1))]) (h : fX8_nameHere_47 c2 v1 t0 σ = some r) : VM p l e rmX8_nameHere s m args below meth c D ac q (QIM D ac q below args s (r, σ)) σ (F0 m 47 ls [.int (i32 t0)]) := by
  have h : bindv t0 (fun v2_1 => bindv 0 (fun v3_2 => lX8_nameHere_50 v1 σ (fun v2_3 => fX8_nameHere_105 c2 v1 v2_3 σ) 400 v2_1 v3_2)) = some r := h
  refine v_istore_n C hl (fun x => [(2, .int (i32 x)), (0, .ref (q 0)), (1, .int (i32 v1))]) dX8_nameHere_47 rfl (by decide) (fun _ => rfl) h (fun v2_1 ls hl h => ?_)
  refine v_iconst C dX8_nameHere_48 ?_
  refine v_istore_n C hl (fun x => [(3, .int (i32 x)), (2, .int (i32 v2_1)), (0, .ref (q 0)), (1, .int (i32 v1))]) dX8_nameHere_49 rfl (by decide) (fun _ => rfl) h (fun v3_2 ls hl h => ?_)
  exact wlX8_nameHere_50 C hr (fun v2_3 ls hl h => wX8_nameHere_105 C hr hc2 (lv_sub hl [0, 1, 2] rfl) h) _ _ _ _ (lv_sub hl [2, 3, 1, 0] rfl) h
theorem wX8_nameHere_2 (C : CxM p rmX8_nameHere s m args meth c D ac q RX8 cX8_nameHere 4) (hr : meth.sig.returnType = (some .int)) {σ : Mm} {v1 : Int} {e2 : Option (Int)} {c2 : Int → Option (Int)} {r : Int} (he2 : ∀ (ls : Array Slot), lv_has ls 4 [(0, .ref (q 0))] → e2 = some r → VM p l e rmX8_nameHere s m args below meth c D ac q (QIM D ac q below args s (r, σ)) σ (F0 m 117 ls [])) (hc2 : ∀ (v1x : Int) (ls : Array Slot), lv_has ls 4 [(0, .ref (q 0)), (1, .int (i32 v1x))] → c2 v1x = some r → VM p l e rmX8_nameHere s m args below meth c D ac q (QIM D ac q below args s (r, σ)) σ (F0 m 2 ls [])) (hl : lv_has ls 4 [(0, .ref (q 0)), (1, .int (i32 v1))]) (h : fX8_nameHere_2 σ e2 c2 v1 = some r) : VM p l e rmX8_nameHere s m args below meth c D ac q (QIM D ac q below args s (r, σ)) σ (F0 m 2 ls []) := by
  have h : cr v1 ((if v1 < 3 then cr (σ 0 8) ((if σ 0 8 = 1 then chk (v1 + 1) 4 (chk v1 4 (cr ((σ 0 6) - (σ 0 7)) (cr ((σ 3 (v1 + 1).toNat) - (σ 3 (v1).toNat)) ((if (σ 0 6) - (σ 0 7) = (σ 3 (v1 + 1).toNat) - (σ 3 (v1).toNat) then fX8_nameHere_47 c2 v1 1 σ else fX8_nameHere_47 c2 v1 0 σ))))) else e2)) else e2)) = some r := h
  refine v_iload_n C hl dX8_nameHere_2 rfl 1 rfl ?_
  refine v_iconst C dX8_nameHere_3 ?_
  have hz1 := (cr_e h).1
  have h := (cr_e h).2
  refine v_icmp_ge C (tgt := 117) hz1 (by decide) h dX8_nameHere_4 rfl (fun h => ?_) (fun h => ?_)
  · exact he2  _ (lv_sub hl [0] rfl) h
  · refine v_aload_n C hl dX8_nameHere_7 rfl 0 rfl ?_
    refine g_X8_8 C kdM_0 fl_X8_84 dX8_nameHere_8 ?_
    refine v_iconst C dX8_nameHere_11 ?_
    have hz2 := (cr_e h).1
    have h := (cr_e h).2
    refine v_icmp_ne C (tgt := 117) hz2 (by decide) h dX8_nameHere_12 rfl (fun h => ?_) (fun h => ?_)
    · exact he2  _ (lv_sub hl [0] rfl) h
    · refine v_aload_n C hl dX8_nameHere_15 rfl 0 rfl ?_
      refine g_X8_6 C kdM_0 fl_X8_87 dX8_nameHere_16 ?_
      refine v_aload_n C hl dX8_nameHere_19 rfl 0 rfl ?_
      refine g_X8_7 C kdM_0 fl_X8_78 dX8_nameHere_20 ?_
      refine v_isub C dX8_nameHere_23 ?_
      refine v_aload_n C hl dX8_nameHere_24 rfl 0 rfl ?_
      refine g_X8_10 C kdM_0 fl_X8_16 dX8_nameHere_25 ?_
      refine v_iload_n C hl dX8_nameHere_28 rfl 1 rfl ?_
      refine v_iconst C dX8_nameHere_29 ?_
      refine v_iadd C dX8_nameHere_30 ?_
      refine alM4 C kdM_3 h dX8_nameHere_31 (fun h => ?_)
      refine v_aload_n C hl dX8_nameHere_32 rfl 0 rfl ?_
      refine g_X8_10 C kdM_0 fl_X8_16 dX8_nameHere_33 ?_
      refine v_iload_n C hl dX8_nameHere_36 rfl 1 rfl ?_
      refine alM4 C kdM_3 h dX8_nameHere_37 (fun h => ?_)
      refine v_isub C dX8_nameHere_38 ?_
      have hz3 := (cr_e h).1
      have h := (cr_e h).2
      have hz4 := (cr_e h).1
      have h := (cr_e h).2
      refine v_icmp_ne C (tgt := 46) hz3 hz4 h dX8_nameHere_39 rfl (fun h => ?_) (fun h => ?_)
      · refine v_iconst C dX8_nameHere_46 ?_
        exact wX8_nameHere_47 C hr hc2 (lv_sub hl [0, 1] rfl) h
      · refine v_iconst C dX8_nameHere_42 ?_
        refine v_goto C (tgt := 47) dX8_nameHere_43 rfl ?_
        exact wX8_nameHere_47 C hr hc2 (lv_sub hl [0, 1] rfl) h
theorem wlX8_nameHere_2 (C : CxM p rmX8_nameHere s m args meth c D ac q RX8 cX8_nameHere 4) (hr : meth.sig.returnType = (some .int)) {σ : Mm} {e2 : Option (Int)} {r : Int} (he2 : ∀ (ls : Array Slot), lv_has ls 4 [(0, .ref (q 0))] → e2 = some r → VM p l e rmX8_nameHere s m args below meth c D ac q (QIM D ac q below args s (r, σ)) σ (F0 m 117 ls [])) : ∀ (fu : Nat) (v1 : Int) (ls : Array Slot) (hl : lv_has ls 4 [(0, .ref (q 0)), (1, .int (i32 v1))]) (h : lX8_nameHere_2 σ e2 fu v1 = some r), VM p l e rmX8_nameHere s m args below meth c D ac q (QIM D ac q below args s (r, σ)) σ (F0 m 2 ls []) := by
  intro fu
  induction fu with
  | zero =>
    intro v1 ls hl h
    have h : none = some r := h
    cases h
  | succ fu ih =>
    intro v1 ls hl h
    exact wX8_nameHere_2 C hr he2 (fun v1 ls hl h => ih v1 ls hl h) hl h
theorem mX8_nameHere (hq : QI 19 q)  {σ : Mm} {r : Int} (h : fX8_nameHere σ = some r) : MIM l D ac q yX8_nameHere cX8_nameHere 4 (some .int) rmX8_nameHere [.ref (q 0)] σ (r, σ) := by
  refine MI.of hq XT_M (by decide) (Nat.le_of_ble_eq_true rfl) (fun p e s m below meth c ls C hr hl => ?_)
  have hl : lv_has ls 4 [(0, .ref (q 0))] := hl
  have h : bindv 0 (fun v1_1 => lX8_nameHere_2 σ (fX8_nameHere_117 σ) 400 v1_1) = some r := h
  refine v_iconst C dX8_nameHere_0 ?_
  refine v_istore_n C hl (fun x => [(1, .int (i32 x)), (0, .ref (q 0))]) dX8_nameHere_1 rfl (by decide) (fun _ => rfl) h (fun v1_1 ls hl h => ?_)
  exact wlX8_nameHere_2 C hr (fun ls hl h => wX8_nameHere_117 C hr (lv_sub hl [0] rfl) h) _ _ _ (lv_sub hl [1, 0] rfl) h
end
