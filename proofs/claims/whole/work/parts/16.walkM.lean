section
variable {l : Launch} {D : va_G} {ac : Nat → ClassId} {q : Nat → Nat} {p : Program} {e : Env} {s : State} {m : MethodId} {args : Array Value} {below : List Frame} {meth : Method} {c : Code} {ls : Array Slot}
theorem dX8_arcOf_0 : decode cX8_arcOf 0 = .ok (.aload_n 0, 1) := by decide +kernel
theorem dX8_arcOf_1 : decode cX8_arcOf 1 = .ok (.getfield 7, 3) := by decide +kernel
theorem dX8_arcOf_4 : decode cX8_arcOf 4 = .ok (.sipush 132, 3) := by decide +kernel
theorem dX8_arcOf_7 : decode cX8_arcOf 7 = .ok (.iload_n 1, 1) := by decide +kernel
theorem dX8_arcOf_8 : decode cX8_arcOf 8 = .ok (.iadd, 1) := by decide +kernel
theorem dX8_arcOf_9 : decode cX8_arcOf 9 = .ok (.iaload, 1) := by decide +kernel
theorem dX8_arcOf_10 : decode cX8_arcOf 10 = .ok (.istore_n 3, 1) := by decide +kernel
theorem dX8_arcOf_11 : decode cX8_arcOf 11 = .ok (.iload_n 2, 1) := by decide +kernel
theorem dX8_arcOf_12 : decode cX8_arcOf 12 = .ok (.istore 4, 2) := by decide +kernel
theorem dX8_arcOf_14 : decode cX8_arcOf 14 = .ok (.iconst 0, 1) := by decide +kernel
theorem dX8_arcOf_15 : decode cX8_arcOf 15 = .ok (.istore 5, 2) := by decide +kernel
theorem dX8_arcOf_17 : decode cX8_arcOf 17 = .ok (.iload 5, 2) := by decide +kernel
theorem dX8_arcOf_19 : decode cX8_arcOf 19 = .ok (.iload_n 3, 1) := by decide +kernel
theorem dX8_arcOf_20 : decode cX8_arcOf 20 = .ok (.if_icmp .ge 34, 3) := by decide +kernel
theorem dX8_arcOf_23 : decode cX8_arcOf 23 = .ok (.aload_n 0, 1) := by decide +kernel
theorem dX8_arcOf_24 : decode cX8_arcOf 24 = .ok (.aload_n 0, 1) := by decide +kernel
theorem dX8_arcOf_25 : decode cX8_arcOf 25 = .ok (.iconst 0, 1) := by decide +kernel
theorem dX8_arcOf_26 : decode cX8_arcOf 26 = .ok (.iload_n 1, 1) := by decide +kernel
theorem dX8_arcOf_27 : decode cX8_arcOf 27 = .ok (.iload 4, 2) := by decide +kernel
theorem dX8_arcOf_29 : decode cX8_arcOf 29 = .ok (.invokevirtual 168, 3) := by decide +kernel
theorem dX8_arcOf_32 : decode cX8_arcOf 32 = .ok (.invokevirtual 215, 3) := by decide +kernel
theorem dX8_arcOf_35 : decode cX8_arcOf 35 = .ok (.ifCond .ne 19, 3) := by decide +kernel
theorem dX8_arcOf_38 : decode cX8_arcOf 38 = .ok (.iload 4, 2) := by decide +kernel
theorem dX8_arcOf_40 : decode cX8_arcOf 40 = .ok (.iload_n 3, 1) := by decide +kernel
theorem dX8_arcOf_41 : decode cX8_arcOf 41 = .ok (.iadd, 1) := by decide +kernel
theorem dX8_arcOf_42 : decode cX8_arcOf 42 = .ok (.iconst 1, 1) := by decide +kernel
theorem dX8_arcOf_43 : decode cX8_arcOf 43 = .ok (.isub, 1) := by decide +kernel
theorem dX8_arcOf_44 : decode cX8_arcOf 44 = .ok (.iload_n 3, 1) := by decide +kernel
theorem dX8_arcOf_45 : decode cX8_arcOf 45 = .ok (.irem, 1) := by decide +kernel
theorem dX8_arcOf_46 : decode cX8_arcOf 46 = .ok (.istore 4, 2) := by decide +kernel
theorem dX8_arcOf_48 : decode cX8_arcOf 48 = .ok (.iinc 5 1, 3) := by decide +kernel
theorem dX8_arcOf_51 : decode cX8_arcOf 51 = .ok (.goto (-34), 3) := by decide +kernel
theorem dX8_arcOf_54 : decode cX8_arcOf 54 = .ok (.aload_n 0, 1) := by decide +kernel
theorem dX8_arcOf_55 : decode cX8_arcOf 55 = .ok (.getfield 37, 3) := by decide +kernel
theorem dX8_arcOf_58 : decode cX8_arcOf 58 = .ok (.aload_n 0, 1) := by decide +kernel
theorem dX8_arcOf_59 : decode cX8_arcOf 59 = .ok (.getfield 245, 3) := by decide +kernel
theorem dX8_arcOf_62 : decode cX8_arcOf 62 = .ok (.iload_n 1, 1) := by decide +kernel
theorem dX8_arcOf_63 : decode cX8_arcOf 63 = .ok (.iastore, 1) := by decide +kernel
theorem dX8_arcOf_64 : decode cX8_arcOf 64 = .ok (.aload_n 0, 1) := by decide +kernel
theorem dX8_arcOf_65 : decode cX8_arcOf 65 = .ok (.getfield 46, 3) := by decide +kernel
theorem dX8_arcOf_68 : decode cX8_arcOf 68 = .ok (.aload_n 0, 1) := by decide +kernel
theorem dX8_arcOf_69 : decode cX8_arcOf 69 = .ok (.getfield 245, 3) := by decide +kernel
theorem dX8_arcOf_72 : decode cX8_arcOf 72 = .ok (.iload 5, 2) := by decide +kernel
theorem dX8_arcOf_74 : decode cX8_arcOf 74 = .ok (.iload_n 3, 1) := by decide +kernel
theorem dX8_arcOf_75 : decode cX8_arcOf 75 = .ok (.if_icmp .ne 7, 3) := by decide +kernel
theorem dX8_arcOf_78 : decode cX8_arcOf 78 = .ok (.iconst 1, 1) := by decide +kernel
theorem dX8_arcOf_79 : decode cX8_arcOf 79 = .ok (.goto 4, 3) := by decide +kernel
theorem dX8_arcOf_82 : decode cX8_arcOf 82 = .ok (.iconst 0, 1) := by decide +kernel
theorem dX8_arcOf_83 : decode cX8_arcOf 83 = .ok (.bastore, 1) := by decide +kernel
theorem dX8_arcOf_84 : decode cX8_arcOf 84 = .ok (.aload_n 0, 1) := by decide +kernel
theorem dX8_arcOf_85 : decode cX8_arcOf 85 = .ok (.getfield 40, 3) := by decide +kernel
theorem dX8_arcOf_88 : decode cX8_arcOf 88 = .ok (.aload_n 0, 1) := by decide +kernel
theorem dX8_arcOf_89 : decode cX8_arcOf 89 = .ok (.getfield 245, 3) := by decide +kernel
theorem dX8_arcOf_92 : decode cX8_arcOf 92 = .ok (.iload 5, 2) := by decide +kernel
theorem dX8_arcOf_94 : decode cX8_arcOf 94 = .ok (.iload_n 3, 1) := by decide +kernel
theorem dX8_arcOf_95 : decode cX8_arcOf 95 = .ok (.if_icmp .ne 7, 3) := by decide +kernel
theorem dX8_arcOf_98 : decode cX8_arcOf 98 = .ok (.iconst 0, 1) := by decide +kernel
theorem dX8_arcOf_99 : decode cX8_arcOf 99 = .ok (.goto 5, 3) := by decide +kernel
theorem dX8_arcOf_102 : decode cX8_arcOf 102 = .ok (.iload 4, 2) := by decide +kernel
theorem dX8_arcOf_104 : decode cX8_arcOf 104 = .ok (.iastore, 1) := by decide +kernel
theorem dX8_arcOf_105 : decode cX8_arcOf 105 = .ok (.iconst 1, 1) := by decide +kernel
theorem dX8_arcOf_106 : decode cX8_arcOf 106 = .ok (.istore 6, 2) := by decide +kernel
theorem dX8_arcOf_108 : decode cX8_arcOf 108 = .ok (.iload 5, 2) := by decide +kernel
theorem dX8_arcOf_110 : decode cX8_arcOf 110 = .ok (.iload_n 3, 1) := by decide +kernel
theorem dX8_arcOf_111 : decode cX8_arcOf 111 = .ok (.if_icmp .ge 27, 3) := by decide +kernel
theorem dX8_arcOf_114 : decode cX8_arcOf 114 = .ok (.aload_n 0, 1) := by decide +kernel
theorem dX8_arcOf_115 : decode cX8_arcOf 115 = .ok (.aload_n 0, 1) := by decide +kernel
theorem dX8_arcOf_116 : decode cX8_arcOf 116 = .ok (.iconst 0, 1) := by decide +kernel
theorem dX8_arcOf_117 : decode cX8_arcOf 117 = .ok (.iload_n 1, 1) := by decide +kernel
theorem dX8_arcOf_118 : decode cX8_arcOf 118 = .ok (.iload 4, 2) := by decide +kernel
theorem dX8_arcOf_120 : decode cX8_arcOf 120 = .ok (.iload 6, 2) := by decide +kernel
theorem dX8_arcOf_122 : decode cX8_arcOf 122 = .ok (.iadd, 1) := by decide +kernel
theorem dX8_arcOf_123 : decode cX8_arcOf 123 = .ok (.invokevirtual 168, 3) := by decide +kernel
theorem dX8_arcOf_126 : decode cX8_arcOf 126 = .ok (.invokevirtual 215, 3) := by decide +kernel
theorem dX8_arcOf_129 : decode cX8_arcOf 129 = .ok (.ifCond .ne 9, 3) := by decide +kernel
theorem dX8_arcOf_132 : decode cX8_arcOf 132 = .ok (.iinc 6 1, 3) := by decide +kernel
theorem dX8_arcOf_135 : decode cX8_arcOf 135 = .ok (.goto (-27), 3) := by decide +kernel
theorem dX8_arcOf_138 : decode cX8_arcOf 138 = .ok (.aload_n 0, 1) := by decide +kernel
theorem dX8_arcOf_139 : decode cX8_arcOf 139 = .ok (.getfield 43, 3) := by decide +kernel
theorem dX8_arcOf_142 : decode cX8_arcOf 142 = .ok (.aload_n 0, 1) := by decide +kernel
theorem dX8_arcOf_143 : decode cX8_arcOf 143 = .ok (.getfield 245, 3) := by decide +kernel
theorem dX8_arcOf_146 : decode cX8_arcOf 146 = .ok (.iload 5, 2) := by decide +kernel
theorem dX8_arcOf_148 : decode cX8_arcOf 148 = .ok (.iload_n 3, 1) := by decide +kernel
theorem dX8_arcOf_149 : decode cX8_arcOf 149 = .ok (.if_icmp .ne 7, 3) := by decide +kernel
theorem dX8_arcOf_152 : decode cX8_arcOf 152 = .ok (.iload_n 3, 1) := by decide +kernel
theorem dX8_arcOf_153 : decode cX8_arcOf 153 = .ok (.goto 7, 3) := by decide +kernel
theorem dX8_arcOf_156 : decode cX8_arcOf 156 = .ok (.iload 6, 2) := by decide +kernel
theorem dX8_arcOf_158 : decode cX8_arcOf 158 = .ok (.iconst 1, 1) := by decide +kernel
theorem dX8_arcOf_159 : decode cX8_arcOf 159 = .ok (.iadd, 1) := by decide +kernel
theorem dX8_arcOf_160 : decode cX8_arcOf 160 = .ok (.iastore, 1) := by decide +kernel
theorem dX8_arcOf_161 : decode cX8_arcOf 161 = .ok (.aload_n 0, 1) := by decide +kernel
theorem dX8_arcOf_162 : decode cX8_arcOf 162 = .ok (.dup, 1) := by decide +kernel
theorem dX8_arcOf_163 : decode cX8_arcOf 163 = .ok (.getfield 245, 3) := by decide +kernel
theorem dX8_arcOf_166 : decode cX8_arcOf 166 = .ok (.iconst 1, 1) := by decide +kernel
theorem dX8_arcOf_167 : decode cX8_arcOf 167 = .ok (.iadd, 1) := by decide +kernel
theorem dX8_arcOf_168 : decode cX8_arcOf 168 = .ok (.putfield 245, 3) := by decide +kernel
theorem dX8_arcOf_171 : decode cX8_arcOf 171 = .ok (.return_, 1) := by decide +kernel
theorem wX8_arcOf_160 (C : CxM p rmX8_arcOf s m args meth c D ac q RX8 cX8_arcOf 7) (hr : meth.sig.returnType = none) {t1 : Int} {t2 : Int} {σ : Mm} {r : Mm} (hl : lv_has ls 7 [(0, .ref (q 0))]) (h : fX8_arcOf_160 t1 t2 σ = some r) : VM p l e rmX8_arcOf s m args below meth c D ac q (QVM D ac q below args s r) σ (F0 m 160 ls [.int (i32 t2), .int (i32 t1), .ref (q 12)]) := by
  have h : chk t1 60 (bindv (sto σ 12 (t1).toNat t2) (fun σ_1 => bindv (sto σ_1 0 24 ((σ_1 0 24) + 1)) (fun σ_2 => some σ_2))) = some r := h
  refine asM9 C kdM_12 h dX8_arcOf_160 (fun σ_1 h => ?_)
  refine v_aload_n C hl dX8_arcOf_161 rfl 0 rfl ?_
  refine v_dup C dX8_arcOf_162 rfl ?_
  refine g_X8_24 C kdM_0 fl_X8_245 dX8_arcOf_163 ?_
  refine v_iconst C dX8_arcOf_166 ?_
  refine v_iadd C dX8_arcOf_167 ?_
  refine s_X8_24 C kdM_0 fl_X8_245 h dX8_arcOf_168 (fun σ_2 h => ?_)
  exact v_vret C hr h dX8_arcOf_171
theorem wX8_arcOf_138 (C : CxM p rmX8_arcOf s m args meth c D ac q RX8 cX8_arcOf 7) (hr : meth.sig.returnType = none) {v3 : Int} {v5 : Int} {v6 : Int} {σ : Mm} {r : Mm} (hl : lv_has ls 7 [(0, .ref (q 0)), (3, .int (i32 v3)), (5, .int (i32 v5)), (6, .int (i32 v6))]) (h : fX8_arcOf_138 v3 v5 v6 σ = some r) : VM p l e rmX8_arcOf s m args below meth c D ac q (QVM D ac q below args s r) σ (F0 m 138 ls []) := by
  have h : cr v5 (cr v3 ((if v5 = v3 then fX8_arcOf_160 (σ 0 24) v3 σ else fX8_arcOf_160 (σ 0 24) (v6 + 1) σ))) = some r := h
  refine v_aload_n C hl dX8_arcOf_138 rfl 0 rfl ?_
  refine g_X8_22 C kdM_0 fl_X8_43 dX8_arcOf_139 ?_
  refine v_aload_n C hl dX8_arcOf_142 rfl 0 rfl ?_
  refine g_X8_24 C kdM_0 fl_X8_245 dX8_arcOf_143 ?_
  refine v_iload C hl dX8_arcOf_146 2 rfl ?_
  refine v_iload_n C hl dX8_arcOf_148 rfl 1 rfl ?_
  have hz1 := (cr_e h).1
  have h := (cr_e h).2
  have hz2 := (cr_e h).1
  have h := (cr_e h).2
  refine v_icmp_ne C (tgt := 156) hz1 hz2 h dX8_arcOf_149 rfl (fun h => ?_) (fun h => ?_)
  · refine v_iload C hl dX8_arcOf_156 3 rfl ?_
    refine v_iconst C dX8_arcOf_158 ?_
    refine v_iadd C dX8_arcOf_159 ?_
    exact wX8_arcOf_160 C hr (lv_sub hl [0] rfl) h
  · refine v_iload_n C hl dX8_arcOf_152 rfl 1 rfl ?_
    refine v_goto C (tgt := 160) dX8_arcOf_153 rfl ?_
    exact wX8_arcOf_160 C hr (lv_sub hl [0] rfl) h
theorem wX8_arcOf_108 (C : CxM p rmX8_arcOf s m args meth c D ac q RX8 cX8_arcOf 7) (hr : meth.sig.returnType = none) {v1 : Int} {v3 : Int} {v4 : Int} {v5 : Int} {σ : Mm} {v6 : Int} {e108 : Int → Option (Mm)} {c108 : Int → Option (Mm)} {r : Mm} (he108 : ∀ (v6x : Int) (ls : Array Slot), lv_has ls 7 [(0, .ref (q 0)), (3, .int (i32 v3)), (5, .int (i32 v5)), (6, .int (i32 v6x))] → e108 v6x = some r → VM p l e rmX8_arcOf s m args below meth c D ac q (QVM D ac q below args s r) σ (F0 m 138 ls [])) (hc108 : ∀ (v6x : Int) (ls : Array Slot), lv_has ls 7 [(0, .ref (q 0)), (1, .int (i32 v1)), (3, .int (i32 v3)), (4, .int (i32 v4)), (5, .int (i32 v5)), (6, .int (i32 v6x))] → c108 v6x = some r → VM p l e rmX8_arcOf s m args below meth c D ac q (QVM D ac q below args s r) σ (F0 m 108 ls [])) (hl : lv_has ls 7 [(0, .ref (q 0)), (1, .int (i32 v1)), (3, .int (i32 v3)), (4, .int (i32 v4)), (5, .int (i32 v5)), (6, .int (i32 v6))]) (h : fX8_arcOf_108 v1 v3 v4 v5 σ e108 c108 v6 = some r) : VM p l e rmX8_arcOf s m args below meth c D ac q (QVM D ac q below args s r) σ (F0 m 108 ls []) := by
  have h : cr v5 (cr v3 ((if v5 < v3 then bd (fX8_cornerOf 0 v1 (v4 + v6) σ) (fun x_3 => bd (fX8_isNode x_3 σ) (fun x_4 => cr x_4 ((if x_4 = 0 then bindv (v6 + 1) (fun v6_6 => c108 v6_6) else e108 v6)))) else e108 v6))) = some r := h
  refine v_iload C hl dX8_arcOf_108 4 rfl ?_
  refine v_iload_n C hl dX8_arcOf_110 rfl 2 rfl ?_
  have hz1 := (cr_e h).1
  have h := (cr_e h).2
  have hz2 := (cr_e h).1
  have h := (cr_e h).2
  refine v_icmp_ge C (tgt := 138) hz1 hz2 h dX8_arcOf_111 rfl (fun h => ?_) (fun h => ?_)
  · exact he108 _ _ (lv_sub hl [0, 2, 4, 5] rfl) h
  · refine v_aload_n C hl dX8_arcOf_114 rfl 0 rfl ?_
    refine v_aload_n C hl dX8_arcOf_115 rfl 0 rfl ?_
    refine v_iconst C dX8_arcOf_116 ?_
    refine v_iload_n C hl dX8_arcOf_117 rfl 1 rfl ?_
    refine v_iload C hl dX8_arcOf_118 3 rfl ?_
    refine v_iload C hl dX8_arcOf_120 5 rfl ?_
    refine v_iadd C dX8_arcOf_122 ?_
    obtain ⟨x_3, hv3, h⟩ := bd_e h
    refine v_callVI C 0 (klM kdM_0) rfl (ckM1 kdM_0 _) rfl [.int (i32 0), .int (i32 v1), .int (i32 (v4 + v6))] (mX8_cornerOf C.2.2.2.2.1 hv3) cd_X8_cornerOf ic_X8 im_X8_cornerOf se_X8_cornerOf ml_X8_168 yk_X8_cornerOf ⟨rfl, rfl, by decide, by decide⟩ rfl hl.1 (rest := [.ref (q 0)]) rfl (Nat.le_of_ble_eq_true rfl) dX8_arcOf_123 ?_
    obtain ⟨x_4, hv4, h⟩ := bd_e h
    refine v_callVI C 0 (klM kdM_0) rfl (ckM1 kdM_0 _) rfl [.int (i32 x_3)] (mX8_isNode C.2.2.2.2.1 hv4) cd_X8_isNode ic_X8 im_X8_isNode se_X8_isNode ml_X8_215 yk_X8_isNode ⟨rfl, rfl, by decide, by decide⟩ rfl hl.1 (rest := []) rfl (Nat.le_of_ble_eq_true rfl) dX8_arcOf_126 ?_
    have hz5 := (cr_e h).1
    have h := (cr_e h).2
    refine v_if_ne C (tgt := 138) hz5 h dX8_arcOf_129 rfl (fun h => ?_) (fun h => ?_)
    · exact he108 _ _ (lv_sub hl [0, 2, 4, 5] rfl) h
    · refine v_iinc C hl (fun x => [(6, .int (i32 x)), (0, .ref (q 0)), (1, .int (i32 v1)), (3, .int (i32 v3)), (4, .int (i32 v4)), (5, .int (i32 v5))]) dX8_arcOf_132 5 rfl (by decide) (fun _ => rfl) h (fun v6_6 ls hl h => ?_)
      refine v_goto C (tgt := 108) dX8_arcOf_135 rfl ?_
      exact hc108 _ _ (lv_sub hl [1, 2, 3, 4, 5, 0] rfl) h
theorem wlX8_arcOf_108 (C : CxM p rmX8_arcOf s m args meth c D ac q RX8 cX8_arcOf 7) (hr : meth.sig.returnType = none) {v1 : Int} {v3 : Int} {v4 : Int} {v5 : Int} {σ : Mm} {e108 : Int → Option (Mm)} {r : Mm} (he108 : ∀ (v6x : Int) (ls : Array Slot), lv_has ls 7 [(0, .ref (q 0)), (3, .int (i32 v3)), (5, .int (i32 v5)), (6, .int (i32 v6x))] → e108 v6x = some r → VM p l e rmX8_arcOf s m args below meth c D ac q (QVM D ac q below args s r) σ (F0 m 138 ls [])) : ∀ (fu : Nat) (v6 : Int) (ls : Array Slot) (hl : lv_has ls 7 [(0, .ref (q 0)), (1, .int (i32 v1)), (3, .int (i32 v3)), (4, .int (i32 v4)), (5, .int (i32 v5)), (6, .int (i32 v6))]) (h : lX8_arcOf_108 v1 v3 v4 v5 σ e108 fu v6 = some r), VM p l e rmX8_arcOf s m args below meth c D ac q (QVM D ac q below args s r) σ (F0 m 108 ls []) := by
  intro fu
  induction fu with
  | zero =>
    intro v6 ls hl h
    have h : none = some r := h
    cases h
  | succ fu ih =>
    intro v6 ls hl h
    exact wX8_arcOf_108 C hr he108 (fun v6 ls hl h => ih v6 ls hl h) hl h
theorem wX8_arcOf_104 (C : CxM p rmX8_arcOf s m args meth c D ac q RX8 cX8_arcOf 7) (hr : meth.sig.returnType = none) {v1 : Int} {v3 : Int} {v4 : Int} {v5 : Int} {t1 : Int} {t2 : Int} {σ : Mm} {r : Mm} (hl : lv_has ls 7 [(0, .ref (q 0)), (1, .int (i32 v1)), (3, .int (i32 v3)), (4, .int (i32 v4)), (5, .int (i32 v5))]) (h : fX8_arcOf_104 v1 v3 v4 v5 t1 t2 σ = some r) : VM p l e rmX8_arcOf s m args below meth c D ac q (QVM D ac q below args s r) σ (F0 m 104 ls [.int (i32 t2), .int (i32 t1), .ref (q 11)]) := by
  have h : chk t1 60 (bindv (sto σ 11 (t1).toNat t2) (fun σ_1 => bindv 1 (fun v6_2 => lX8_arcOf_108 v1 v3 v4 v5 σ_1 (fun v6_3 => fX8_arcOf_138 v3 v5 v6_3 σ_1) 400 v6_2))) = some r := h
  refine asM9 C kdM_11 h dX8_arcOf_104 (fun σ_1 h => ?_)
  refine v_iconst C dX8_arcOf_105 ?_
  refine v_istore C hl (fun x => [(6, .int (i32 x)), (0, .ref (q 0)), (1, .int (i32 v1)), (3, .int (i32 v3)), (4, .int (i32 v4)), (5, .int (i32 v5))]) dX8_arcOf_106 (by decide) (fun _ => rfl) h (fun v6_2 ls hl h => ?_)
  exact wlX8_arcOf_108 C hr (fun v6_3 ls hl h => wX8_arcOf_138 C hr (lv_sub hl [0, 1, 2, 3] rfl) h) _ _ _ (lv_sub hl [1, 2, 3, 4, 5, 0] rfl) h
theorem wX8_arcOf_83 (C : CxM p rmX8_arcOf s m args meth c D ac q RX8 cX8_arcOf 7) (hr : meth.sig.returnType = none) {v1 : Int} {v3 : Int} {v4 : Int} {v5 : Int} {t1 : Int} {t2 : Int} {σ : Mm} {r : Mm} (hl : lv_has ls 7 [(0, .ref (q 0)), (1, .int (i32 v1)), (3, .int (i32 v3)), (4, .int (i32 v4)), (5, .int (i32 v5))]) (h : fX8_arcOf_83 v1 v3 v4 v5 t1 t2 σ = some r) : VM p l e rmX8_arcOf s m args below meth c D ac q (QVM D ac q below args s r) σ (F0 m 83 ls [.int (i32 t2), .int (i32 t1), .ref (q 13)]) := by
  have h : chb t2 (chk t1 60 (bindv (sto σ 13 (t1).toNat t2) (fun σ_1 => cr v5 (cr v3 ((if v5 = v3 then fX8_arcOf_104 v1 v3 v4 v5 (σ_1 0 24) 0 σ_1 else fX8_arcOf_104 v1 v3 v4 v5 (σ_1 0 24) v4 σ_1)))))) = some r := h
  refine asM10 C kdM_13 h dX8_arcOf_83 (fun σ_1 h => ?_)
  refine v_aload_n C hl dX8_arcOf_84 rfl 0 rfl ?_
  refine g_X8_21 C kdM_0 fl_X8_40 dX8_arcOf_85 ?_
  refine v_aload_n C hl dX8_arcOf_88 rfl 0 rfl ?_
  refine g_X8_24 C kdM_0 fl_X8_245 dX8_arcOf_89 ?_
  refine v_iload C hl dX8_arcOf_92 4 rfl ?_
  refine v_iload_n C hl dX8_arcOf_94 rfl 2 rfl ?_
  have hz2 := (cr_e h).1
  have h := (cr_e h).2
  have hz3 := (cr_e h).1
  have h := (cr_e h).2
  refine v_icmp_ne C (tgt := 102) hz2 hz3 h dX8_arcOf_95 rfl (fun h => ?_) (fun h => ?_)
  · refine v_iload C hl dX8_arcOf_102 3 rfl ?_
    exact wX8_arcOf_104 C hr (lv_sub hl [0, 1, 2, 3, 4] rfl) h
  · refine v_iconst C dX8_arcOf_98 ?_
    refine v_goto C (tgt := 104) dX8_arcOf_99 rfl ?_
    exact wX8_arcOf_104 C hr (lv_sub hl [0, 1, 2, 3, 4] rfl) h
theorem wX8_arcOf_54 (C : CxM p rmX8_arcOf s m args meth c D ac q RX8 cX8_arcOf 7) (hr : meth.sig.returnType = none) {v1 : Int} {v3 : Int} {v4 : Int} {v5 : Int} {σ : Mm} {r : Mm} (hl : lv_has ls 7 [(0, .ref (q 0)), (1, .int (i32 v1)), (3, .int (i32 v3)), (4, .int (i32 v4)), (5, .int (i32 v5))]) (h : fX8_arcOf_54 v1 v3 v4 v5 σ = some r) : VM p l e rmX8_arcOf s m args below meth c D ac q (QVM D ac q below args s r) σ (F0 m 54 ls []) := by
  have h : chk (σ 0 24) 60 (bindv (sto σ 10 (σ 0 24).toNat v1) (fun σ_1 => cr v5 (cr v3 ((if v5 = v3 then fX8_arcOf_83 v1 v3 v4 v5 (σ_1 0 24) 1 σ_1 else fX8_arcOf_83 v1 v3 v4 v5 (σ_1 0 24) 0 σ_1))))) = some r := h
  refine v_aload_n C hl dX8_arcOf_54 rfl 0 rfl ?_
  refine g_X8_20 C kdM_0 fl_X8_37 dX8_arcOf_55 ?_
  refine v_aload_n C hl dX8_arcOf_58 rfl 0 rfl ?_
  refine g_X8_24 C kdM_0 fl_X8_245 dX8_arcOf_59 ?_
  refine v_iload_n C hl dX8_arcOf_62 rfl 1 rfl ?_
  refine asM9 C kdM_10 h dX8_arcOf_63 (fun σ_1 h => ?_)
  refine v_aload_n C hl dX8_arcOf_64 rfl 0 rfl ?_
  refine g_X8_23 C kdM_0 fl_X8_46 dX8_arcOf_65 ?_
  refine v_aload_n C hl dX8_arcOf_68 rfl 0 rfl ?_
  refine g_X8_24 C kdM_0 fl_X8_245 dX8_arcOf_69 ?_
  refine v_iload C hl dX8_arcOf_72 4 rfl ?_
  refine v_iload_n C hl dX8_arcOf_74 rfl 2 rfl ?_
  have hz2 := (cr_e h).1
  have h := (cr_e h).2
  have hz3 := (cr_e h).1
  have h := (cr_e h).2
  refine v_icmp_ne C (tgt := 82) hz2 hz3 h dX8_arcOf_75 rfl (fun h => ?_) (fun h => ?_)
  · refine v_iconst C dX8_arcOf_82 ?_
    exact wX8_arcOf_83 C hr (lv_sub hl [0, 1, 2, 3, 4] rfl) h
  · refine v_iconst C dX8_arcOf_78 ?_
    refine v_goto C (tgt := 83) dX8_arcOf_79 rfl ?_
    exact wX8_arcOf_83 C hr (lv_sub hl [0, 1, 2, 3, 4] rfl) h
theorem wX8_arcOf_17 (C : CxM p rmX8_arcOf s m args meth c D ac q RX8 cX8_arcOf 7) (hr : meth.sig.returnType = none) {v1 : Int} {v3 : Int} {σ : Mm} {v4 : Int} {v5 : Int} {e17 : Int → Int → Option (Mm)} {c17 : Int → Int → Option (Mm)} {r : Mm} (he17 : ∀ (v4x : Int) (v5x : Int) (ls : Array Slot), lv_has ls 7 [(0, .ref (q 0)), (1, .int (i32 v1)), (3, .int (i32 v3)), (4, .int (i32 v4x)), (5, .int (i32 v5x))] → e17 v4x v5x = some r → VM p l e rmX8_arcOf s m args below meth c D ac q (QVM D ac q below args s r) σ (F0 m 54 ls [])) (hc17 : ∀ (v4x : Int) (v5x : Int) (ls : Array Slot), lv_has ls 7 [(0, .ref (q 0)), (1, .int (i32 v1)), (3, .int (i32 v3)), (4, .int (i32 v4x)), (5, .int (i32 v5x))] → c17 v4x v5x = some r → VM p l e rmX8_arcOf s m args below meth c D ac q (QVM D ac q below args s r) σ (F0 m 17 ls [])) (hl : lv_has ls 7 [(0, .ref (q 0)), (1, .int (i32 v1)), (3, .int (i32 v3)), (4, .int (i32 v4)), (5, .int (i32 v5))]) (h : fX8_arcOf_17 v1 v3 σ e17 c17 v4 v5 = some r) : VM p l e rmX8_arcOf s m args below meth c D ac q (QVM D ac q below args s r) σ (F0 m 17 ls []) := by
  have h : cr v5 (cr v3 ((if v5 < v3 then bd (fX8_cornerOf 0 v1 v4 σ) (fun x_3 => bd (fX8_isNode x_3 σ) (fun x_4 => cr x_4 ((if x_4 = 0 then chd ((v4 + v3) - 1) v3 (bindv (((v4 + v3) - 1) % v3) (fun v4_6 => bindv (v5 + 1) (fun v5_7 => c17 v4_6 v5_7))) else e17 v4 v5)))) else e17 v4 v5))) = some r := h
  refine v_iload C hl dX8_arcOf_17 4 rfl ?_
  refine v_iload_n C hl dX8_arcOf_19 rfl 2 rfl ?_
  have hz1 := (cr_e h).1
  have h := (cr_e h).2
  have hz2 := (cr_e h).1
  have h := (cr_e h).2
  refine v_icmp_ge C (tgt := 54) hz1 hz2 h dX8_arcOf_20 rfl (fun h => ?_) (fun h => ?_)
  · exact he17 _ _ _ (lv_sub hl [0, 1, 2, 3, 4] rfl) h
  · refine v_aload_n C hl dX8_arcOf_23 rfl 0 rfl ?_
    refine v_aload_n C hl dX8_arcOf_24 rfl 0 rfl ?_
    refine v_iconst C dX8_arcOf_25 ?_
    refine v_iload_n C hl dX8_arcOf_26 rfl 1 rfl ?_
    refine v_iload C hl dX8_arcOf_27 3 rfl ?_
    obtain ⟨x_3, hv3, h⟩ := bd_e h
    refine v_callVI C 0 (klM kdM_0) rfl (ckM1 kdM_0 _) rfl [.int (i32 0), .int (i32 v1), .int (i32 v4)] (mX8_cornerOf C.2.2.2.2.1 hv3) cd_X8_cornerOf ic_X8 im_X8_cornerOf se_X8_cornerOf ml_X8_168 yk_X8_cornerOf ⟨rfl, rfl, by decide, by decide⟩ rfl hl.1 (rest := [.ref (q 0)]) rfl (Nat.le_of_ble_eq_true rfl) dX8_arcOf_29 ?_
    obtain ⟨x_4, hv4, h⟩ := bd_e h
    refine v_callVI C 0 (klM kdM_0) rfl (ckM1 kdM_0 _) rfl [.int (i32 x_3)] (mX8_isNode C.2.2.2.2.1 hv4) cd_X8_isNode ic_X8 im_X8_isNode se_X8_isNode ml_X8_215 yk_X8_isNode ⟨rfl, rfl, by decide, by decide⟩ rfl hl.1 (rest := []) rfl (Nat.le_of_ble_eq_true rfl) dX8_arcOf_32 ?_
    have hz5 := (cr_e h).1
    have h := (cr_e h).2
    refine v_if_ne C (tgt := 54) hz5 h dX8_arcOf_35 rfl (fun h => ?_) (fun h => ?_)
    · exact he17 _ _ _ (lv_sub hl [0, 1, 2, 3, 4] rfl) h
    · refine v_iload C hl dX8_arcOf_38 3 rfl ?_
      refine v_iload_n C hl dX8_arcOf_40 rfl 2 rfl ?_
      refine v_iadd C dX8_arcOf_41 ?_
      refine v_iconst C dX8_arcOf_42 ?_
      refine v_isub C dX8_arcOf_43 ?_
      refine v_iload_n C hl dX8_arcOf_44 rfl 2 rfl ?_
      refine v_irem C h dX8_arcOf_45 (fun h => ?_)
      refine v_istore C hl (fun x => [(4, .int (i32 x)), (0, .ref (q 0)), (1, .int (i32 v1)), (3, .int (i32 v3)), (5, .int (i32 v5))]) dX8_arcOf_46 (by decide) (fun _ => rfl) h (fun v4_6 ls hl h => ?_)
      refine v_iinc C hl (fun x => [(5, .int (i32 x)), (4, .int (i32 v4_6)), (0, .ref (q 0)), (1, .int (i32 v1)), (3, .int (i32 v3))]) dX8_arcOf_48 4 rfl (by decide) (fun _ => rfl) h (fun v5_7 ls hl h => ?_)
      refine v_goto C (tgt := 17) dX8_arcOf_51 rfl ?_
      exact hc17 _ _ _ (lv_sub hl [2, 3, 4, 1, 0] rfl) h
theorem wlX8_arcOf_17 (C : CxM p rmX8_arcOf s m args meth c D ac q RX8 cX8_arcOf 7) (hr : meth.sig.returnType = none) {v1 : Int} {v3 : Int} {σ : Mm} {e17 : Int → Int → Option (Mm)} {r : Mm} (he17 : ∀ (v4x : Int) (v5x : Int) (ls : Array Slot), lv_has ls 7 [(0, .ref (q 0)), (1, .int (i32 v1)), (3, .int (i32 v3)), (4, .int (i32 v4x)), (5, .int (i32 v5x))] → e17 v4x v5x = some r → VM p l e rmX8_arcOf s m args below meth c D ac q (QVM D ac q below args s r) σ (F0 m 54 ls [])) : ∀ (fu : Nat) (v4 : Int) (v5 : Int) (ls : Array Slot) (hl : lv_has ls 7 [(0, .ref (q 0)), (1, .int (i32 v1)), (3, .int (i32 v3)), (4, .int (i32 v4)), (5, .int (i32 v5))]) (h : lX8_arcOf_17 v1 v3 σ e17 fu v4 v5 = some r), VM p l e rmX8_arcOf s m args below meth c D ac q (QVM D ac q below args s r) σ (F0 m 17 ls []) := by
  intro fu
  induction fu with
  | zero =>
    intro v4 v5 ls hl h
    have h : none = some r := h
    cases h
  | succ fu ih =>
    intro v4 v5 ls hl h
    exact wX8_arcOf_17 C hr he17 (fun v4 v5 ls hl h => ih v4 v5 ls hl h) hl h
theorem mX8_arcOf (hq : QI 19 q) {v1 : Int} {v2 : Int} {σ : Mm} {r : Mm} (h : fX8_arcOf v1 v2 σ = some r) : MVM l D ac q yX8_arcOf cX8_arcOf 7 none rmX8_arcOf [.ref (q 0), .int (i32 v1), .int (i32 v2)] σ r := by
  refine MV.of hq XT_M (by decide) (Nat.le_of_ble_eq_true rfl) (fun p e s m below meth c ls C hr hl => ?_)
  have hl : lv_has ls 7 [(0, .ref (q 0)), (1, .int (i32 v1)), (2, .int (i32 v2))] := hl
  have h : chk (132 + v1) 700 (bindv (σ 1 (132 + v1).toNat) (fun v3_1 => bindv v2 (fun v4_2 => bindv 0 (fun v5_3 => lX8_arcOf_17 v1 v3_1 σ (fun v4_4 v5_5 => fX8_arcOf_54 v1 v3_1 v4_4 v5_5 σ) 400 v4_2 v5_3)))) = some r := h
  refine v_aload_n C hl dX8_arcOf_0 rfl 0 rfl ?_
  refine g_X8_0 C kdM_0 fl_X8_7 dX8_arcOf_1 ?_
  refine v_sipush C dX8_arcOf_4 rfl ?_
  refine v_iload_n C hl dX8_arcOf_7 rfl 1 rfl ?_
  refine v_iadd C dX8_arcOf_8 ?_
  refine alM2 C kdM_1 h dX8_arcOf_9 (fun h => ?_)
  refine v_istore_n C hl (fun x => [(3, .int (i32 x)), (0, .ref (q 0)), (1, .int (i32 v1)), (2, .int (i32 v2))]) dX8_arcOf_10 rfl (by decide) (fun _ => rfl) h (fun v3_1 ls hl h => ?_)
  refine v_iload_n C hl dX8_arcOf_11 rfl 3 rfl ?_
  refine v_istore C hl (fun x => [(4, .int (i32 x)), (3, .int (i32 v3_1)), (0, .ref (q 0)), (1, .int (i32 v1)), (2, .int (i32 v2))]) dX8_arcOf_12 (by decide) (fun _ => rfl) h (fun v4_2 ls hl h => ?_)
  refine v_iconst C dX8_arcOf_14 ?_
  refine v_istore C hl (fun x => [(5, .int (i32 x)), (4, .int (i32 v4_2)), (3, .int (i32 v3_1)), (0, .ref (q 0)), (1, .int (i32 v1)), (2, .int (i32 v2))]) dX8_arcOf_15 (by decide) (fun _ => rfl) h (fun v5_3 ls hl h => ?_)
  exact wlX8_arcOf_17 C hr (fun v4_4 v5_5 ls hl h => wX8_arcOf_54 C hr (lv_sub hl [0, 1, 2, 3, 4] rfl) h) _ _ _ _ (lv_sub hl [3, 4, 2, 1, 0] rfl) h
end
section
variable {l : Launch} {D : va_G} {ac : Nat → ClassId} {q : Nat → Nat} {p : Program} {e : Env} {s : State} {m : MethodId} {args : Array Value} {below : List Frame} {meth : Method} {c : Code} {ls : Array Slot}
theorem dX8_arcs_0 : decode cX8_arcs 0 = .ok (.aload_n 0, 1) := by decide +kernel
theorem dX8_arcs_1 : decode cX8_arcs 1 = .ok (.iconst 0, 1) := by decide +kernel
theorem dX8_arcs_2 : decode cX8_arcs 2 = .ok (.putfield 245, 3) := by decide +kernel
theorem dX8_arcs_5 : decode cX8_arcs 5 = .ok (.iconst 0, 1) := by decide +kernel
theorem dX8_arcs_6 : decode cX8_arcs 6 = .ok (.istore_n 1, 1) := by decide +kernel
theorem dX8_arcs_7 : decode cX8_arcs 7 = .ok (.iload_n 1, 1) := by decide +kernel
theorem dX8_arcs_8 : decode cX8_arcs 8 = .ok (.aload_n 0, 1) := by decide +kernel
theorem dX8_arcs_9 : decode cX8_arcs 9 = .ok (.invokevirtual 194, 3) := by decide +kernel
theorem dX8_arcs_12 : decode cX8_arcs 12 = .ok (.if_icmp .ge 60, 3) := by decide +kernel
theorem dX8_arcs_15 : decode cX8_arcs 15 = .ok (.iconst 0, 1) := by decide +kernel
theorem dX8_arcs_16 : decode cX8_arcs 16 = .ok (.istore_n 2, 1) := by decide +kernel
theorem dX8_arcs_17 : decode cX8_arcs 17 = .ok (.iload_n 2, 1) := by decide +kernel
theorem dX8_arcs_18 : decode cX8_arcs 18 = .ok (.aload_n 0, 1) := by decide +kernel
theorem dX8_arcs_19 : decode cX8_arcs 19 = .ok (.getfield 7, 3) := by decide +kernel
theorem dX8_arcs_22 : decode cX8_arcs 22 = .ok (.sipush 132, 3) := by decide +kernel
theorem dX8_arcs_25 : decode cX8_arcs 25 = .ok (.iload_n 1, 1) := by decide +kernel
theorem dX8_arcs_26 : decode cX8_arcs 26 = .ok (.iadd, 1) := by decide +kernel
theorem dX8_arcs_27 : decode cX8_arcs 27 = .ok (.iaload, 1) := by decide +kernel
theorem dX8_arcs_28 : decode cX8_arcs 28 = .ok (.if_icmp .ge 38, 3) := by decide +kernel
theorem dX8_arcs_31 : decode cX8_arcs 31 = .ok (.aload_n 0, 1) := by decide +kernel
theorem dX8_arcs_32 : decode cX8_arcs 32 = .ok (.aload_n 0, 1) := by decide +kernel
theorem dX8_arcs_33 : decode cX8_arcs 33 = .ok (.iconst 0, 1) := by decide +kernel
theorem dX8_arcs_34 : decode cX8_arcs 34 = .ok (.iload_n 1, 1) := by decide +kernel
theorem dX8_arcs_35 : decode cX8_arcs 35 = .ok (.iload_n 2, 1) := by decide +kernel
theorem dX8_arcs_36 : decode cX8_arcs 36 = .ok (.invokevirtual 168, 3) := by decide +kernel
theorem dX8_arcs_39 : decode cX8_arcs 39 = .ok (.aload_n 0, 1) := by decide +kernel
theorem dX8_arcs_40 : decode cX8_arcs 40 = .ok (.iconst 0, 1) := by decide +kernel
theorem dX8_arcs_41 : decode cX8_arcs 41 = .ok (.iload_n 1, 1) := by decide +kernel
theorem dX8_arcs_42 : decode cX8_arcs 42 = .ok (.iload_n 2, 1) := by decide +kernel
theorem dX8_arcs_43 : decode cX8_arcs 43 = .ok (.iconst 1, 1) := by decide +kernel
theorem dX8_arcs_44 : decode cX8_arcs 44 = .ok (.iadd, 1) := by decide +kernel
theorem dX8_arcs_45 : decode cX8_arcs 45 = .ok (.invokevirtual 168, 3) := by decide +kernel
theorem dX8_arcs_48 : decode cX8_arcs 48 = .ok (.invokevirtual 251, 3) := by decide +kernel
theorem dX8_arcs_51 : decode cX8_arcs 51 = .ok (.ifCond .ne 9, 3) := by decide +kernel
theorem dX8_arcs_54 : decode cX8_arcs 54 = .ok (.aload_n 0, 1) := by decide +kernel
theorem dX8_arcs_55 : decode cX8_arcs 55 = .ok (.iload_n 1, 1) := by decide +kernel
theorem dX8_arcs_56 : decode cX8_arcs 56 = .ok (.iload_n 2, 1) := by decide +kernel
theorem dX8_arcs_57 : decode cX8_arcs 57 = .ok (.invokevirtual 254, 3) := by decide +kernel
theorem dX8_arcs_60 : decode cX8_arcs 60 = .ok (.iinc 2 1, 3) := by decide +kernel
theorem dX8_arcs_63 : decode cX8_arcs 63 = .ok (.goto (-46), 3) := by decide +kernel
theorem dX8_arcs_66 : decode cX8_arcs 66 = .ok (.iinc 1 1, 3) := by decide +kernel
theorem dX8_arcs_69 : decode cX8_arcs 69 = .ok (.goto (-62), 3) := by decide +kernel
theorem dX8_arcs_72 : decode cX8_arcs 72 = .ok (.return_, 1) := by decide +kernel
theorem wX8_arcs_72 (C : CxM p rmX8_arcs s m args meth c D ac q RX8 cX8_arcs 3) (hr : meth.sig.returnType = none) {σ : Mm} {r : Mm} (hl : lv_has ls 3 [(0, .ref (q 0))]) (h : fX8_arcs_72 σ = some r) : VM p l e rmX8_arcs s m args below meth c D ac q (QVM D ac q below args s r) σ (F0 m 72 ls []) := by
  have h : some σ = some r := h
  exact v_vret C hr h dX8_arcs_72
theorem wX8_arcs_66 (C : CxM p rmX8_arcs s m args meth c D ac q RX8 cX8_arcs 3) (hr : meth.sig.returnType = none) {v1 : Int} {c7 : Int → Mm → Option (Mm)} {σ : Mm} {r : Mm} (hc7 : ∀ (v1x : Int) (σ : Mm) (ls : Array Slot), lv_has ls 3 [(0, .ref (q 0)), (1, .int (i32 v1x))] → c7 v1x σ = some r → VM p l e rmX8_arcs s m args below meth c D ac q (QVM D ac q below args s r) σ (F0 m 7 ls [])) (hl : lv_has ls 3 [(0, .ref (q 0)), (1, .int (i32 v1))]) (h : fX8_arcs_66 c7 v1 σ = some r) : VM p l e rmX8_arcs s m args below meth c D ac q (QVM D ac q below args s r) σ (F0 m 66 ls []) := by
  have h : bindv (v1 + 1) (fun v1_1 => c7 v1_1 σ) = some r := h
  refine v_iinc C hl (fun x => [(1, .int (i32 x)), (0, .ref (q 0))]) dX8_arcs_66 1 rfl (by decide) (fun _ => rfl) h (fun v1_1 ls hl h => ?_)
  refine v_goto C (tgt := 7) dX8_arcs_69 rfl ?_
  exact hc7 _ _ _ (lv_sub hl [1, 0] rfl) h
theorem wX8_arcs_60 (C : CxM p rmX8_arcs s m args meth c D ac q RX8 cX8_arcs 3) (hr : meth.sig.returnType = none) {v1 : Int} {v2 : Int} {c17 : Int → Mm → Option (Mm)} {σ : Mm} {r : Mm} (hc17 : ∀ (v2x : Int) (σ : Mm) (ls : Array Slot), lv_has ls 3 [(0, .ref (q 0)), (1, .int (i32 v1)), (2, .int (i32 v2x))] → c17 v2x σ = some r → VM p l e rmX8_arcs s m args below meth c D ac q (QVM D ac q below args s r) σ (F0 m 17 ls [])) (hl : lv_has ls 3 [(0, .ref (q 0)), (1, .int (i32 v1)), (2, .int (i32 v2))]) (h : fX8_arcs_60 c17 v1 v2 σ = some r) : VM p l e rmX8_arcs s m args below meth c D ac q (QVM D ac q below args s r) σ (F0 m 60 ls []) := by
  have h : bindv (v2 + 1) (fun v2_1 => c17 v2_1 σ) = some r := h
  refine v_iinc C hl (fun x => [(2, .int (i32 x)), (0, .ref (q 0)), (1, .int (i32 v1))]) dX8_arcs_60 2 rfl (by decide) (fun _ => rfl) h (fun v2_1 ls hl h => ?_)
  refine v_goto C (tgt := 17) dX8_arcs_63 rfl ?_
  exact hc17 _ _ _ (lv_sub hl [1, 2, 0] rfl) h
theorem wX8_arcs_17 (C : CxM p rmX8_arcs s m args meth c D ac q RX8 cX8_arcs 3) (hr : meth.sig.returnType = none) {v1 : Int} {v2 : Int} {σ : Mm} {e17 : Mm → Option (Mm)} {c17 : Int → Mm → Option (Mm)} {r : Mm} (he17 : ∀ (σ : Mm) (ls : Array Slot), lv_has ls 3 [(0, .ref (q 0)), (1, .int (i32 v1))] → e17 σ = some r → VM p l e rmX8_arcs s m args below meth c D ac q (QVM D ac q below args s r) σ (F0 m 66 ls [])) (hc17 : ∀ (v2x : Int) (σ : Mm) (ls : Array Slot), lv_has ls 3 [(0, .ref (q 0)), (1, .int (i32 v1)), (2, .int (i32 v2x))] → c17 v2x σ = some r → VM p l e rmX8_arcs s m args below meth c D ac q (QVM D ac q below args s r) σ (F0 m 17 ls [])) (hl : lv_has ls 3 [(0, .ref (q 0)), (1, .int (i32 v1)), (2, .int (i32 v2))]) (h : fX8_arcs_17 v1 e17 c17 v2 σ = some r) : VM p l e rmX8_arcs s m args below meth c D ac q (QVM D ac q below args s r) σ (F0 m 17 ls []) := by
  have h : chk (132 + v1) 700 (cr v2 (cr (σ 1 (132 + v1).toNat) ((if v2 < σ 1 (132 + v1).toNat then bd (fX8_cornerOf 0 v1 v2 σ) (fun x_3 => bd (fX8_cornerOf 0 v1 (v2 + 1) σ) (fun x_4 => bd (fX8_isInArc x_3 x_4 σ) (fun x_5 => cr x_5 ((if x_5 = 0 then bd (fX8_arcOf v1 v2 σ) (fun σ_7 => fX8_arcs_60 c17 v1 v2 σ_7) else fX8_arcs_60 c17 v1 v2 σ))))) else e17 σ)))) = some r := h
  refine v_iload_n C hl dX8_arcs_17 rfl 2 rfl ?_
  refine v_aload_n C hl dX8_arcs_18 rfl 0 rfl ?_
  refine g_X8_0 C kdM_0 fl_X8_7 dX8_arcs_19 ?_
  refine v_sipush C dX8_arcs_22 rfl ?_
  refine v_iload_n C hl dX8_arcs_25 rfl 1 rfl ?_
  refine v_iadd C dX8_arcs_26 ?_
  refine alM2 C kdM_1 h dX8_arcs_27 (fun h => ?_)
  have hz1 := (cr_e h).1
  have h := (cr_e h).2
  have hz2 := (cr_e h).1
  have h := (cr_e h).2
  refine v_icmp_ge C (tgt := 66) hz1 hz2 h dX8_arcs_28 rfl (fun h => ?_) (fun h => ?_)
  · exact he17 _ _ (lv_sub hl [0, 1] rfl) h
  · refine v_aload_n C hl dX8_arcs_31 rfl 0 rfl ?_
    refine v_aload_n C hl dX8_arcs_32 rfl 0 rfl ?_
    refine v_iconst C dX8_arcs_33 ?_
    refine v_iload_n C hl dX8_arcs_34 rfl 1 rfl ?_
    refine v_iload_n C hl dX8_arcs_35 rfl 2 rfl ?_
    obtain ⟨x_3, hv3, h⟩ := bd_e h
    refine v_callVI C 0 (klM kdM_0) rfl (ckM1 kdM_0 _) rfl [.int (i32 0), .int (i32 v1), .int (i32 v2)] (mX8_cornerOf C.2.2.2.2.1 hv3) cd_X8_cornerOf ic_X8 im_X8_cornerOf se_X8_cornerOf ml_X8_168 yk_X8_cornerOf ⟨rfl, rfl, by decide, by decide⟩ rfl hl.1 (rest := [.ref (q 0)]) rfl (Nat.le_of_ble_eq_true rfl) dX8_arcs_36 ?_
    refine v_aload_n C hl dX8_arcs_39 rfl 0 rfl ?_
    refine v_iconst C dX8_arcs_40 ?_
    refine v_iload_n C hl dX8_arcs_41 rfl 1 rfl ?_
    refine v_iload_n C hl dX8_arcs_42 rfl 2 rfl ?_
    refine v_iconst C dX8_arcs_43 ?_
    refine v_iadd C dX8_arcs_44 ?_
    obtain ⟨x_4, hv4, h⟩ := bd_e h
    refine v_callVI C 0 (klM kdM_0) rfl (ckM1 kdM_0 _) rfl [.int (i32 0), .int (i32 v1), .int (i32 (v2 + 1))] (mX8_cornerOf C.2.2.2.2.1 hv4) cd_X8_cornerOf ic_X8 im_X8_cornerOf se_X8_cornerOf ml_X8_168 yk_X8_cornerOf ⟨rfl, rfl, by decide, by decide⟩ rfl hl.1 (rest := [.int (i32 x_3), .ref (q 0)]) rfl (Nat.le_of_ble_eq_true rfl) dX8_arcs_45 ?_
    obtain ⟨x_5, hv5, h⟩ := bd_e h
    refine v_callVI C 0 (klM kdM_0) rfl (ckM1 kdM_0 _) rfl [.int (i32 x_3), .int (i32 x_4)] (mX8_isInArc C.2.2.2.2.1 hv5) cd_X8_isInArc ic_X8 im_X8_isInArc se_X8_isInArc ml_X8_251 yk_X8_isInArc ⟨rfl, rfl, by decide, by decide⟩ rfl hl.1 (rest := []) rfl (Nat.le_of_ble_eq_true rfl) dX8_arcs_48 ?_
    have hz6 := (cr_e h).1
    have h := (cr_e h).2
    refine v_if_ne C (tgt := 60) hz6 h dX8_arcs_51 rfl (fun h => ?_) (fun h => ?_)
    · exact wX8_arcs_60 C hr hc17 (lv_sub hl [0, 1, 2] rfl) h
    · refine v_aload_n C hl dX8_arcs_54 rfl 0 rfl ?_
      refine v_iload_n C hl dX8_arcs_55 rfl 1 rfl ?_
      refine v_iload_n C hl dX8_arcs_56 rfl 2 rfl ?_
      obtain ⟨σ_7, hv7, h⟩ := bd_e h
      refine v_callVV C 0 (klM kdM_0) rfl (ckM1 kdM_0 _) rfl [.int (i32 v1), .int (i32 v2)] (mX8_arcOf C.2.2.2.2.1 hv7) cd_X8_arcOf ic_X8 im_X8_arcOf se_X8_arcOf ml_X8_254 yk_X8_arcOf ⟨rfl, rfl, by decide, by decide⟩ rfl hl.1 (rest := []) rfl (Nat.le_of_ble_eq_true rfl) dX8_arcs_57 ?_
      exact wX8_arcs_60 C hr hc17 (lv_sub hl [0, 1, 2] rfl) h
theorem wlX8_arcs_17 (C : CxM p rmX8_arcs s m args meth c D ac q RX8 cX8_arcs 3) (hr : meth.sig.returnType = none) {v1 : Int} {e17 : Mm → Option (Mm)} {r : Mm} (he17 : ∀ (σ : Mm) (ls : Array Slot), lv_has ls 3 [(0, .ref (q 0)), (1, .int (i32 v1))] → e17 σ = some r → VM p l e rmX8_arcs s m args below meth c D ac q (QVM D ac q below args s r) σ (F0 m 66 ls [])) : ∀ (fu : Nat) (v2 : Int) (σ : Mm) (ls : Array Slot) (hl : lv_has ls 3 [(0, .ref (q 0)), (1, .int (i32 v1)), (2, .int (i32 v2))]) (h : lX8_arcs_17 v1 e17 fu v2 σ = some r), VM p l e rmX8_arcs s m args below meth c D ac q (QVM D ac q below args s r) σ (F0 m 17 ls []) := by
  intro fu
  induction fu with
  | zero =>
    intro v2 σ ls hl h
    have h : none = some r := h
    cases h
  | succ fu ih =>
    intro v2 σ ls hl h
    exact wX8_arcs_17 C hr he17 (fun v2 σ ls hl h => ih v2 σ ls hl h) hl h
theorem wX8_arcs_7 (C : CxM p rmX8_arcs s m args meth c D ac q RX8 cX8_arcs 3) (hr : meth.sig.returnType = none) {v1 : Int} {σ : Mm} {e7 : Mm → Option (Mm)} {c7 : Int → Mm → Option (Mm)} {r : Mm} (he7 : ∀ (σ : Mm) (ls : Array Slot), lv_has ls 3 [(0, .ref (q 0))] → e7 σ = some r → VM p l e rmX8_arcs s m args below meth c D ac q (QVM D ac q below args s r) σ (F0 m 72 ls [])) (hc7 : ∀ (v1x : Int) (σ : Mm) (ls : Array Slot), lv_has ls 3 [(0, .ref (q 0)), (1, .int (i32 v1x))] → c7 v1x σ = some r → VM p l e rmX8_arcs s m args below meth c D ac q (QVM D ac q below args s r) σ (F0 m 7 ls [])) (hl : lv_has ls 3 [(0, .ref (q 0)), (1, .int (i32 v1))]) (h : fX8_arcs_7 e7 c7 v1 σ = some r) : VM p l e rmX8_arcs s m args below meth c D ac q (QVM D ac q below args s r) σ (F0 m 7 ls []) := by
  have h : bd (fX8_rings σ) (fun x_1 => cr v1 (cr x_1 ((if v1 < x_1 then bindv 0 (fun v2_4 => lX8_arcs_17 v1 (fun σ_5 => fX8_arcs_66 c7 v1 σ_5) 400 v2_4 σ) else e7 σ)))) = some r := h
  refine v_iload_n C hl dX8_arcs_7 rfl 1 rfl ?_
  refine v_aload_n C hl dX8_arcs_8 rfl 0 rfl ?_
  obtain ⟨x_1, hv1, h⟩ := bd_e h
  refine v_callVI C 0 (klM kdM_0) rfl (ckM1 kdM_0 _) rfl [] (mX8_rings C.2.2.2.2.1 hv1) cd_X8_rings ic_X8 im_X8_rings se_X8_rings ml_X8_194 yk_X8_rings ⟨rfl, rfl, by decide, by decide⟩ rfl hl.1 (rest := [.int (i32 v1)]) rfl (Nat.le_of_ble_eq_true rfl) dX8_arcs_9 ?_
  have hz2 := (cr_e h).1
  have h := (cr_e h).2
  have hz3 := (cr_e h).1
  have h := (cr_e h).2
  refine v_icmp_ge C (tgt := 72) hz2 hz3 h dX8_arcs_12 rfl (fun h => ?_) (fun h => ?_)
  · exact he7 _ _ (lv_sub hl [0] rfl) h
  · refine v_iconst C dX8_arcs_15 ?_
    refine v_istore_n C hl (fun x => [(2, .int (i32 x)), (0, .ref (q 0)), (1, .int (i32 v1))]) dX8_arcs_16 rfl (by decide) (fun _ => rfl) h (fun v2_4 ls hl h => ?_)
    exact wlX8_arcs_17 C hr (fun σ_5 ls hl h => wX8_arcs_66 C hr hc7 (lv_sub hl [0, 1] rfl) h) _ _ _ _ (lv_sub hl [1, 2, 0] rfl) h
theorem wlX8_arcs_7 (C : CxM p rmX8_arcs s m args meth c D ac q RX8 cX8_arcs 3) (hr : meth.sig.returnType = none) {e7 : Mm → Option (Mm)} {r : Mm} (he7 : ∀ (σ : Mm) (ls : Array Slot), lv_has ls 3 [(0, .ref (q 0))] → e7 σ = some r → VM p l e rmX8_arcs s m args below meth c D ac q (QVM D ac q below args s r) σ (F0 m 72 ls [])) : ∀ (fu : Nat) (v1 : Int) (σ : Mm) (ls : Array Slot) (hl : lv_has ls 3 [(0, .ref (q 0)), (1, .int (i32 v1))]) (h : lX8_arcs_7 e7 fu v1 σ = some r), VM p l e rmX8_arcs s m args below meth c D ac q (QVM D ac q below args s r) σ (F0 m 7 ls []) := by
  intro fu
  induction fu with
  | zero =>
    intro v1 σ ls hl h
    have h : none = some r := h
    cases h
  | succ fu ih =>
    intro v1 σ ls hl h
    exact wX8_arcs_7 C hr he7 (fun v1 σ ls hl h => ih v1 σ ls hl h) hl h
theorem mX8_arcs (hq : QI 19 q)  {σ : Mm} {r : Mm} (h : fX8_arcs σ = some r) : MVM l D ac q yX8_arcs cX8_arcs 3 none rmX8_arcs [.ref (q 0)] σ r := by
  refine MV.of hq XT_M (by decide) (Nat.le_of_ble_eq_true rfl) (fun p e s m below meth c ls C hr hl => ?_)
  have hl : lv_has ls 3 [(0, .ref (q 0))] := hl
  have h : bindv (sto σ 0 24 0) (fun σ_1 => bindv 0 (fun v1_2 => lX8_arcs_7 (fun σ_3 => fX8_arcs_72 σ_3) 400 v1_2 σ_1)) = some r := h
  refine v_aload_n C hl dX8_arcs_0 rfl 0 rfl ?_
  refine v_iconst C dX8_arcs_1 ?_
  refine s_X8_24 C kdM_0 fl_X8_245 h dX8_arcs_2 (fun σ_1 h => ?_)
  refine v_iconst C dX8_arcs_5 ?_
  refine v_istore_n C hl (fun x => [(1, .int (i32 x)), (0, .ref (q 0))]) dX8_arcs_6 rfl (by decide) (fun _ => rfl) h (fun v1_2 ls hl h => ?_)
  exact wlX8_arcs_7 C hr (fun σ_3 ls hl h => wX8_arcs_72 C hr (lv_sub hl [0] rfl) h) _ _ _ _ (lv_sub hl [1, 0] rfl) h
end
section
variable {l : Launch} {D : va_G} {ac : Nat → ClassId} {q : Nat → Nat} {p : Program} {e : Env} {s : State} {m : MethodId} {args : Array Value} {below : List Frame} {meth : Method} {c : Code} {ls : Array Slot}
theorem dX8_makes_0 : decode cX8_makes 0 = .ok (.aload_n 0, 1) := by decide +kernel
theorem dX8_makes_1 : decode cX8_makes 1 = .ok (.getfield 149, 3) := by decide +kernel
theorem dX8_makes_4 : decode cX8_makes 4 = .ok (.ifCond .eq 4, 3) := by decide +kernel
theorem dX8_makes_7 : decode cX8_makes 7 = .ok (.return_, 1) := by decide +kernel
theorem dX8_makes_8 : decode cX8_makes 8 = .ok (.aload_n 0, 1) := by decide +kernel
theorem dX8_makes_9 : decode cX8_makes 9 = .ok (.iconst 1, 1) := by decide +kernel
theorem dX8_makes_10 : decode cX8_makes 10 = .ok (.putfield 149, 3) := by decide +kernel
theorem dX8_makes_13 : decode cX8_makes 13 = .ok (.aload_n 0, 1) := by decide +kernel
theorem dX8_makes_14 : decode cX8_makes 14 = .ok (.iconst 0, 1) := by decide +kernel
theorem dX8_makes_15 : decode cX8_makes 15 = .ok (.putfield 227, 3) := by decide +kernel
theorem dX8_makes_18 : decode cX8_makes 18 = .ok (.iconst 0, 1) := by decide +kernel
theorem dX8_makes_19 : decode cX8_makes 19 = .ok (.istore_n 1, 1) := by decide +kernel
theorem dX8_makes_20 : decode cX8_makes 20 = .ok (.iload_n 1, 1) := by decide +kernel
theorem dX8_makes_21 : decode cX8_makes 21 = .ok (.bipush 24, 2) := by decide +kernel
theorem dX8_makes_23 : decode cX8_makes 23 = .ok (.if_icmp .ge 47, 3) := by decide +kernel
theorem dX8_makes_26 : decode cX8_makes 26 = .ok (.aload_n 0, 1) := by decide +kernel
theorem dX8_makes_27 : decode cX8_makes 27 = .ok (.getfield 22, 3) := by decide +kernel
theorem dX8_makes_30 : decode cX8_makes 30 = .ok (.iload_n 1, 1) := by decide +kernel
theorem dX8_makes_31 : decode cX8_makes 31 = .ok (.iconst 0, 1) := by decide +kernel
theorem dX8_makes_32 : decode cX8_makes 32 = .ok (.iastore, 1) := by decide +kernel
theorem dX8_makes_33 : decode cX8_makes 33 = .ok (.aload_n 0, 1) := by decide +kernel
theorem dX8_makes_34 : decode cX8_makes 34 = .ok (.getfield 25, 3) := by decide +kernel
theorem dX8_makes_37 : decode cX8_makes 37 = .ok (.iload_n 1, 1) := by decide +kernel
theorem dX8_makes_38 : decode cX8_makes 38 = .ok (.bipush (-4), 2) := by decide +kernel
theorem dX8_makes_40 : decode cX8_makes 40 = .ok (.iastore, 1) := by decide +kernel
theorem dX8_makes_41 : decode cX8_makes 41 = .ok (.aload_n 0, 1) := by decide +kernel
theorem dX8_makes_42 : decode cX8_makes 42 = .ok (.getfield 31, 3) := by decide +kernel
theorem dX8_makes_45 : decode cX8_makes 45 = .ok (.iload_n 1, 1) := by decide +kernel
theorem dX8_makes_46 : decode cX8_makes 46 = .ok (.iload_n 1, 1) := by decide +kernel
theorem dX8_makes_47 : decode cX8_makes 47 = .ok (.aload_n 0, 1) := by decide +kernel
theorem dX8_makes_48 : decode cX8_makes 48 = .ok (.invokevirtual 206, 3) := by decide +kernel
theorem dX8_makes_51 : decode cX8_makes 51 = .ok (.if_icmp .ge 11, 3) := by decide +kernel
theorem dX8_makes_54 : decode cX8_makes 54 = .ok (.aload_n 0, 1) := by decide +kernel
theorem dX8_makes_55 : decode cX8_makes 55 = .ok (.iload_n 1, 1) := by decide +kernel
theorem dX8_makes_56 : decode cX8_makes 56 = .ok (.invokevirtual 230, 3) := by decide +kernel
theorem dX8_makes_59 : decode cX8_makes 59 = .ok (.goto 4, 3) := by decide +kernel
theorem dX8_makes_62 : decode cX8_makes 62 = .ok (.iconst 0, 1) := by decide +kernel
theorem dX8_makes_63 : decode cX8_makes 63 = .ok (.iastore, 1) := by decide +kernel
theorem dX8_makes_64 : decode cX8_makes 64 = .ok (.iinc 1 1, 3) := by decide +kernel
theorem dX8_makes_67 : decode cX8_makes 67 = .ok (.goto (-47), 3) := by decide +kernel
theorem dX8_makes_70 : decode cX8_makes 70 = .ok (.aload_n 0, 1) := by decide +kernel
theorem dX8_makes_71 : decode cX8_makes 71 = .ok (.iconst 0, 1) := by decide +kernel
theorem dX8_makes_72 : decode cX8_makes 72 = .ok (.invokevirtual 233, 3) := by decide +kernel
theorem dX8_makes_75 : decode cX8_makes 75 = .ok (.istore_n 1, 1) := by decide +kernel
theorem dX8_makes_76 : decode cX8_makes 76 = .ok (.iload_n 1, 1) := by decide +kernel
theorem dX8_makes_77 : decode cX8_makes 77 = .ok (.bipush (-4), 2) := by decide +kernel
theorem dX8_makes_79 : decode cX8_makes 79 = .ok (.if_icmp .eq 60, 3) := by decide +kernel
theorem dX8_makes_82 : decode cX8_makes 82 = .ok (.aload_n 0, 1) := by decide +kernel
theorem dX8_makes_83 : decode cX8_makes 83 = .ok (.getfield 25, 3) := by decide +kernel
theorem dX8_makes_86 : decode cX8_makes 86 = .ok (.iload_n 1, 1) := by decide +kernel
theorem dX8_makes_87 : decode cX8_makes 87 = .ok (.aload_n 0, 1) := by decide +kernel
theorem dX8_makes_88 : decode cX8_makes 88 = .ok (.iload_n 1, 1) := by decide +kernel
theorem dX8_makes_89 : decode cX8_makes 89 = .ok (.aload_n 0, 1) := by decide +kernel
theorem dX8_makes_90 : decode cX8_makes 90 = .ok (.getfield 227, 3) := by decide +kernel
theorem dX8_makes_93 : decode cX8_makes 93 = .ok (.invokevirtual 236, 3) := by decide +kernel
theorem dX8_makes_96 : decode cX8_makes 96 = .ok (.iastore, 1) := by decide +kernel
theorem dX8_makes_97 : decode cX8_makes 97 = .ok (.aload_n 0, 1) := by decide +kernel
theorem dX8_makes_98 : decode cX8_makes 98 = .ok (.dup, 1) := by decide +kernel
theorem dX8_makes_99 : decode cX8_makes 99 = .ok (.getfield 227, 3) := by decide +kernel
theorem dX8_makes_102 : decode cX8_makes 102 = .ok (.iconst 1, 1) := by decide +kernel
theorem dX8_makes_103 : decode cX8_makes 103 = .ok (.iadd, 1) := by decide +kernel
theorem dX8_makes_104 : decode cX8_makes 104 = .ok (.putfield 227, 3) := by decide +kernel
theorem dX8_makes_107 : decode cX8_makes 107 = .ok (.aload_n 0, 1) := by decide +kernel
theorem dX8_makes_108 : decode cX8_makes 108 = .ok (.getfield 22, 3) := by decide +kernel
theorem dX8_makes_111 : decode cX8_makes 111 = .ok (.iload_n 1, 1) := by decide +kernel
theorem dX8_makes_112 : decode cX8_makes 112 = .ok (.aload_n 0, 1) := by decide +kernel
theorem dX8_makes_113 : decode cX8_makes 113 = .ok (.getfield 227, 3) := by decide +kernel
theorem dX8_makes_116 : decode cX8_makes 116 = .ok (.iastore, 1) := by decide +kernel
theorem dX8_makes_117 : decode cX8_makes 117 = .ok (.aload_n 0, 1) := by decide +kernel
theorem dX8_makes_118 : decode cX8_makes 118 = .ok (.getfield 28, 3) := by decide +kernel
theorem dX8_makes_121 : decode cX8_makes 121 = .ok (.aload_n 0, 1) := by decide +kernel
theorem dX8_makes_122 : decode cX8_makes 122 = .ok (.getfield 227, 3) := by decide +kernel
theorem dX8_makes_125 : decode cX8_makes 125 = .ok (.iload_n 1, 1) := by decide +kernel
theorem dX8_makes_126 : decode cX8_makes 126 = .ok (.iastore, 1) := by decide +kernel
theorem dX8_makes_127 : decode cX8_makes 127 = .ok (.aload_n 0, 1) := by decide +kernel
theorem dX8_makes_128 : decode cX8_makes 128 = .ok (.aload_n 0, 1) := by decide +kernel
theorem dX8_makes_129 : decode cX8_makes 129 = .ok (.getfield 227, 3) := by decide +kernel
theorem dX8_makes_132 : decode cX8_makes 132 = .ok (.invokevirtual 233, 3) := by decide +kernel
theorem dX8_makes_135 : decode cX8_makes 135 = .ok (.istore_n 1, 1) := by decide +kernel
theorem dX8_makes_136 : decode cX8_makes 136 = .ok (.goto (-60), 3) := by decide +kernel
theorem dX8_makes_139 : decode cX8_makes 139 = .ok (.aload_n 0, 1) := by decide +kernel
theorem dX8_makes_140 : decode cX8_makes 140 = .ok (.invokevirtual 239, 3) := by decide +kernel
theorem dX8_makes_143 : decode cX8_makes 143 = .ok (.return_, 1) := by decide +kernel
theorem wX8_makes_139 (C : CxM p rmX8_makes s m args meth c D ac q RX8 cX8_makes 2) (hr : meth.sig.returnType = none) {σ : Mm} {r : Mm} (hl : lv_has ls 2 [(0, .ref (q 0))]) (h : fX8_makes_139 σ = some r) : VM p l e rmX8_makes s m args below meth c D ac q (QVM D ac q below args s r) σ (F0 m 139 ls []) := by
  have h : bd (fX8_arcs σ) (fun σ_1 => some σ_1) = some r := h
  refine v_aload_n C hl dX8_makes_139 rfl 0 rfl ?_
  obtain ⟨σ_1, hv1, h⟩ := bd_e h
  refine v_callVV C 0 (klM kdM_0) rfl (ckM1 kdM_0 _) rfl [] (mX8_arcs C.2.2.2.2.1 hv1) cd_X8_arcs ic_X8 im_X8_arcs se_X8_arcs ml_X8_239 yk_X8_arcs ⟨rfl, rfl, by decide, by decide⟩ rfl hl.1 (rest := []) rfl (Nat.le_of_ble_eq_true rfl) dX8_makes_140 ?_
  exact v_vret C hr h dX8_makes_143
theorem wX8_makes_76 (C : CxM p rmX8_makes s m args meth c D ac q RX8 cX8_makes 2) (hr : meth.sig.returnType = none) {v1 : Int} {σ : Mm} {e76 : Mm → Option (Mm)} {c76 : Int → Mm → Option (Mm)} {r : Mm} (he76 : ∀ (σ : Mm) (ls : Array Slot), lv_has ls 2 [(0, .ref (q 0))] → e76 σ = some r → VM p l e rmX8_makes s m args below meth c D ac q (QVM D ac q below args s r) σ (F0 m 139 ls [])) (hc76 : ∀ (v1x : Int) (σ : Mm) (ls : Array Slot), lv_has ls 2 [(0, .ref (q 0)), (1, .int (i32 v1x))] → c76 v1x σ = some r → VM p l e rmX8_makes s m args below meth c D ac q (QVM D ac q below args s r) σ (F0 m 76 ls [])) (hl : lv_has ls 2 [(0, .ref (q 0)), (1, .int (i32 v1))]) (h : fX8_makes_76 e76 c76 v1 σ = some r) : VM p l e rmX8_makes s m args below meth c D ac q (QVM D ac q below args s r) σ (F0 m 76 ls []) := by
  have h : cr v1 ((if v1 = (-4) then e76 σ else bd2 (fX8_sizeOf v1 (σ 0 16) σ) (fun x_2 σ_2 => chk v1 24 (bindv (sto σ_2 6 (v1).toNat x_2) (fun σ_3 => bindv (sto σ_3 0 16 ((σ_3 0 16) + 1)) (fun σ_4 => chk v1 24 (bindv (sto σ_4 5 (v1).toNat (σ_4 0 16)) (fun σ_5 => chk (σ_5 0 16) 25 (bindv (sto σ_5 7 (σ_5 0 16).toNat v1) (fun σ_6 => bd2 (fX8_least (σ_6 0 16) σ_6) (fun x_7 σ_7 => bindv x_7 (fun v1_8 => c76 v1_8 σ_7)))))))))))) = some r := h
  refine v_iload_n C hl dX8_makes_76 rfl 1 rfl ?_
  refine v_bipush C dX8_makes_77 rfl ?_
  have hz1 := (cr_e h).1
  have h := (cr_e h).2
  refine v_icmp_eq C (tgt := 139) hz1 (by decide) h dX8_makes_79 rfl (fun h => ?_) (fun h => ?_)
  · exact he76 _ _ (lv_sub hl [0] rfl) h
  · refine v_aload_n C hl dX8_makes_82 rfl 0 rfl ?_
    refine g_X8_14 C kdM_0 fl_X8_25 dX8_makes_83 ?_
    refine v_iload_n C hl dX8_makes_86 rfl 1 rfl ?_
    refine v_aload_n C hl dX8_makes_87 rfl 0 rfl ?_
    refine v_iload_n C hl dX8_makes_88 rfl 1 rfl ?_
    refine v_aload_n C hl dX8_makes_89 rfl 0 rfl ?_
    refine g_X8_16 C kdM_0 fl_X8_227 dX8_makes_90 ?_
    obtain ⟨x_2, σ_2, hv2, h⟩ := bd2_e h
    refine v_callVI C 0 (klM kdM_0) rfl (ckM1 kdM_0 _) rfl [.int (i32 v1), .int (i32 (σ 0 16))] (mX8_sizeOf C.2.2.2.2.1 hv2) cd_X8_sizeOf ic_X8 im_X8_sizeOf se_X8_sizeOf ml_X8_236 yk_X8_sizeOf ⟨rfl, rfl, by decide, by decide⟩ rfl hl.1 (rest := [.int (i32 v1), .ref (q 6)]) rfl (Nat.le_of_ble_eq_true rfl) dX8_makes_93 ?_
    refine asM6 C kdM_6 h dX8_makes_96 (fun σ_3 h => ?_)
    refine v_aload_n C hl dX8_makes_97 rfl 0 rfl ?_
    refine v_dup C dX8_makes_98 rfl ?_
    refine g_X8_16 C kdM_0 fl_X8_227 dX8_makes_99 ?_
    refine v_iconst C dX8_makes_102 ?_
    refine v_iadd C dX8_makes_103 ?_
    refine s_X8_16 C kdM_0 fl_X8_227 h dX8_makes_104 (fun σ_4 h => ?_)
    refine v_aload_n C hl dX8_makes_107 rfl 0 rfl ?_
    refine g_X8_13 C kdM_0 fl_X8_22 dX8_makes_108 ?_
    refine v_iload_n C hl dX8_makes_111 rfl 1 rfl ?_
    refine v_aload_n C hl dX8_makes_112 rfl 0 rfl ?_
    refine g_X8_16 C kdM_0 fl_X8_227 dX8_makes_113 ?_
    refine asM6 C kdM_5 h dX8_makes_116 (fun σ_5 h => ?_)
    refine v_aload_n C hl dX8_makes_117 rfl 0 rfl ?_
    refine g_X8_15 C kdM_0 fl_X8_28 dX8_makes_118 ?_
    refine v_aload_n C hl dX8_makes_121 rfl 0 rfl ?_
    refine g_X8_16 C kdM_0 fl_X8_227 dX8_makes_122 ?_
    refine v_iload_n C hl dX8_makes_125 rfl 1 rfl ?_
    refine asM7 C kdM_7 h dX8_makes_126 (fun σ_6 h => ?_)
    refine v_aload_n C hl dX8_makes_127 rfl 0 rfl ?_
    refine v_aload_n C hl dX8_makes_128 rfl 0 rfl ?_
    refine g_X8_16 C kdM_0 fl_X8_227 dX8_makes_129 ?_
    obtain ⟨x_7, σ_7, hv7, h⟩ := bd2_e h
    refine v_callVI C 0 (klM kdM_0) rfl (ckM1 kdM_0 _) rfl [.int (i32 (σ_6 0 16))] (mX8_least C.2.2.2.2.1 hv7) cd_X8_least ic_X8 im_X8_least se_X8_least ml_X8_233 yk_X8_least ⟨rfl, rfl, by decide, by decide⟩ rfl hl.1 (rest := []) rfl (Nat.le_of_ble_eq_true rfl) dX8_makes_132 ?_
    refine v_istore_n C hl (fun x => [(1, .int (i32 x)), (0, .ref (q 0))]) dX8_makes_135 rfl (by decide) (fun _ => rfl) h (fun v1_8 ls hl h => ?_)
    refine v_goto C (tgt := 76) dX8_makes_136 rfl ?_
    exact hc76 _ _ _ (lv_sub hl [1, 0] rfl) h
theorem wlX8_makes_76 (C : CxM p rmX8_makes s m args meth c D ac q RX8 cX8_makes 2) (hr : meth.sig.returnType = none) {e76 : Mm → Option (Mm)} {r : Mm} (he76 : ∀ (σ : Mm) (ls : Array Slot), lv_has ls 2 [(0, .ref (q 0))] → e76 σ = some r → VM p l e rmX8_makes s m args below meth c D ac q (QVM D ac q below args s r) σ (F0 m 139 ls [])) : ∀ (fu : Nat) (v1 : Int) (σ : Mm) (ls : Array Slot) (hl : lv_has ls 2 [(0, .ref (q 0)), (1, .int (i32 v1))]) (h : lX8_makes_76 e76 fu v1 σ = some r), VM p l e rmX8_makes s m args below meth c D ac q (QVM D ac q below args s r) σ (F0 m 76 ls []) := by
  intro fu
  induction fu with
  | zero =>
    intro v1 σ ls hl h
    have h : none = some r := h
    cases h
  | succ fu ih =>
    intro v1 σ ls hl h
    exact wX8_makes_76 C hr he76 (fun v1 σ ls hl h => ih v1 σ ls hl h) hl h
theorem wX8_makes_70 (C : CxM p rmX8_makes s m args meth c D ac q RX8 cX8_makes 2) (hr : meth.sig.returnType = none) {σ : Mm} {r : Mm} (hl : lv_has ls 2 [(0, .ref (q 0))]) (h : fX8_makes_70 σ = some r) : VM p l e rmX8_makes s m args below meth c D ac q (QVM D ac q below args s r) σ (F0 m 70 ls []) := by
  have h : bd2 (fX8_least 0 σ) (fun x_1 σ_1 => bindv x_1 (fun v1_2 => lX8_makes_76 (fun σ_3 => fX8_makes_139 σ_3) 400 v1_2 σ_1)) = some r := h
  refine v_aload_n C hl dX8_makes_70 rfl 0 rfl ?_
  refine v_iconst C dX8_makes_71 ?_
  obtain ⟨x_1, σ_1, hv1, h⟩ := bd2_e h
  refine v_callVI C 0 (klM kdM_0) rfl (ckM1 kdM_0 _) rfl [.int (i32 0)] (mX8_least C.2.2.2.2.1 hv1) cd_X8_least ic_X8 im_X8_least se_X8_least ml_X8_233 yk_X8_least ⟨rfl, rfl, by decide, by decide⟩ rfl hl.1 (rest := []) rfl (Nat.le_of_ble_eq_true rfl) dX8_makes_72 ?_
  refine v_istore_n C hl (fun x => [(1, .int (i32 x)), (0, .ref (q 0))]) dX8_makes_75 rfl (by decide) (fun _ => rfl) h (fun v1_2 ls hl h => ?_)
  exact wlX8_makes_76 C hr (fun σ_3 ls hl h => wX8_makes_139 C hr (lv_sub hl [0] rfl) h) _ _ _ _ (lv_sub hl [1, 0] rfl) h
theorem wX8_makes_63 (C : CxM p rmX8_makes s m args meth c D ac q RX8 cX8_makes 2) (hr : meth.sig.returnType = none) {v1 : Int} {t1 : Int} {t2 : Int} {c20 : Int → Mm → Option (Mm)} {σ : Mm} {r : Mm} (hc20 : ∀ (v1x : Int) (σ : Mm) (ls : Array Slot), lv_has ls 2 [(0, .ref (q 0)), (1, .int (i32 v1x))] → c20 v1x σ = some r → VM p l e rmX8_makes s m args below meth c D ac q (QVM D ac q below args s r) σ (F0 m 20 ls [])) (hl : lv_has ls 2 [(0, .ref (q 0)), (1, .int (i32 v1))]) (h : fX8_makes_63 c20 v1 t1 t2 σ = some r) : VM p l e rmX8_makes s m args below meth c D ac q (QVM D ac q below args s r) σ (F0 m 63 ls [.int (i32 t2), .int (i32 t1), .ref (q 8)]) := by
  have h : chk t1 24 (bindv (sto σ 8 (t1).toNat t2) (fun σ_1 => bindv (v1 + 1) (fun v1_2 => c20 v1_2 σ_1))) = some r := h
  refine asM6 C kdM_8 h dX8_makes_63 (fun σ_1 h => ?_)
  refine v_iinc C hl (fun x => [(1, .int (i32 x)), (0, .ref (q 0))]) dX8_makes_64 1 rfl (by decide) (fun _ => rfl) h (fun v1_2 ls hl h => ?_)
  refine v_goto C (tgt := 20) dX8_makes_67 rfl ?_
  exact hc20 _ _ _ (lv_sub hl [1, 0] rfl) h
theorem wX8_makes_20 (C : CxM p rmX8_makes s m args meth c D ac q RX8 cX8_makes 2) (hr : meth.sig.returnType = none) {v1 : Int} {σ : Mm} {e20 : Mm → Option (Mm)} {c20 : Int → Mm → Option (Mm)} {r : Mm} (he20 : ∀ (σ : Mm) (ls : Array Slot), lv_has ls 2 [(0, .ref (q 0))] → e20 σ = some r → VM p l e rmX8_makes s m args below meth c D ac q (QVM D ac q below args s r) σ (F0 m 70 ls [])) (hc20 : ∀ (v1x : Int) (σ : Mm) (ls : Array Slot), lv_has ls 2 [(0, .ref (q 0)), (1, .int (i32 v1x))] → c20 v1x σ = some r → VM p l e rmX8_makes s m args below meth c D ac q (QVM D ac q below args s r) σ (F0 m 20 ls [])) (hl : lv_has ls 2 [(0, .ref (q 0)), (1, .int (i32 v1))]) (h : fX8_makes_20 e20 c20 v1 σ = some r) : VM p l e rmX8_makes s m args below meth c D ac q (QVM D ac q below args s r) σ (F0 m 20 ls []) := by
  have h : cr v1 ((if v1 < 24 then chk v1 24 (bindv (sto σ 5 (v1).toNat 0) (fun σ_2 => chk v1 24 (bindv (sto σ_2 6 (v1).toNat (-4)) (fun σ_3 => bd (fX8_points σ_3) (fun x_4 => cr v1 (cr x_4 ((if v1 < x_4 then bd (fX8_degreeOf v1 σ_3) (fun x_7 => fX8_makes_63 c20 v1 v1 x_7 σ_3) else fX8_makes_63 c20 v1 v1 0 σ_3)))))))) else e20 σ)) = some r := h
  refine v_iload_n C hl dX8_makes_20 rfl 1 rfl ?_
  refine v_bipush C dX8_makes_21 rfl ?_
  have hz1 := (cr_e h).1
  have h := (cr_e h).2
  refine v_icmp_ge C (tgt := 70) hz1 (by decide) h dX8_makes_23 rfl (fun h => ?_) (fun h => ?_)
  · exact he20 _ _ (lv_sub hl [0] rfl) h
  · refine v_aload_n C hl dX8_makes_26 rfl 0 rfl ?_
    refine g_X8_13 C kdM_0 fl_X8_22 dX8_makes_27 ?_
    refine v_iload_n C hl dX8_makes_30 rfl 1 rfl ?_
    refine v_iconst C dX8_makes_31 ?_
    refine asM6 C kdM_5 h dX8_makes_32 (fun σ_2 h => ?_)
    refine v_aload_n C hl dX8_makes_33 rfl 0 rfl ?_
    refine g_X8_14 C kdM_0 fl_X8_25 dX8_makes_34 ?_
    refine v_iload_n C hl dX8_makes_37 rfl 1 rfl ?_
    refine v_bipush C dX8_makes_38 rfl ?_
    refine asM6 C kdM_6 h dX8_makes_40 (fun σ_3 h => ?_)
    refine v_aload_n C hl dX8_makes_41 rfl 0 rfl ?_
    refine g_X8_18 C kdM_0 fl_X8_31 dX8_makes_42 ?_
    refine v_iload_n C hl dX8_makes_45 rfl 1 rfl ?_
    refine v_iload_n C hl dX8_makes_46 rfl 1 rfl ?_
    refine v_aload_n C hl dX8_makes_47 rfl 0 rfl ?_
    obtain ⟨x_4, hv4, h⟩ := bd_e h
    refine v_callVI C 0 (klM kdM_0) rfl (ckM1 kdM_0 _) rfl [] (mX8_points C.2.2.2.2.1 hv4) cd_X8_points ic_X8 im_X8_points se_X8_points ml_X8_206 yk_X8_points ⟨rfl, rfl, by decide, by decide⟩ rfl hl.1 (rest := [.int (i32 v1), .int (i32 v1), .ref (q 8)]) rfl (Nat.le_of_ble_eq_true rfl) dX8_makes_48 ?_
    have hz5 := (cr_e h).1
    have h := (cr_e h).2
    have hz6 := (cr_e h).1
    have h := (cr_e h).2
    refine v_icmp_ge C (tgt := 62) hz5 hz6 h dX8_makes_51 rfl (fun h => ?_) (fun h => ?_)
    · refine v_iconst C dX8_makes_62 ?_
      exact wX8_makes_63 C hr hc20 (lv_sub hl [0, 1] rfl) h
    · refine v_aload_n C hl dX8_makes_54 rfl 0 rfl ?_
      refine v_iload_n C hl dX8_makes_55 rfl 1 rfl ?_
      obtain ⟨x_7, hv7, h⟩ := bd_e h
      refine v_callVI C 0 (klM kdM_0) rfl (ckM1 kdM_0 _) rfl [.int (i32 v1)] (mX8_degreeOf C.2.2.2.2.1 hv7) cd_X8_degreeOf ic_X8 im_X8_degreeOf se_X8_degreeOf ml_X8_230 yk_X8_degreeOf ⟨rfl, rfl, by decide, by decide⟩ rfl hl.1 (rest := [.int (i32 v1), .ref (q 8)]) rfl (Nat.le_of_ble_eq_true rfl) dX8_makes_56 ?_
      refine v_goto C (tgt := 63) dX8_makes_59 rfl ?_
      exact wX8_makes_63 C hr hc20 (lv_sub hl [0, 1] rfl) h
theorem wlX8_makes_20 (C : CxM p rmX8_makes s m args meth c D ac q RX8 cX8_makes 2) (hr : meth.sig.returnType = none) {e20 : Mm → Option (Mm)} {r : Mm} (he20 : ∀ (σ : Mm) (ls : Array Slot), lv_has ls 2 [(0, .ref (q 0))] → e20 σ = some r → VM p l e rmX8_makes s m args below meth c D ac q (QVM D ac q below args s r) σ (F0 m 70 ls [])) : ∀ (fu : Nat) (v1 : Int) (σ : Mm) (ls : Array Slot) (hl : lv_has ls 2 [(0, .ref (q 0)), (1, .int (i32 v1))]) (h : lX8_makes_20 e20 fu v1 σ = some r), VM p l e rmX8_makes s m args below meth c D ac q (QVM D ac q below args s r) σ (F0 m 20 ls []) := by
  intro fu
  induction fu with
  | zero =>
    intro v1 σ ls hl h
    have h : none = some r := h
    cases h
  | succ fu ih =>
    intro v1 σ ls hl h
    exact wX8_makes_20 C hr he20 (fun v1 σ ls hl h => ih v1 σ ls hl h) hl h
theorem mX8_makes (hq : QI 19 q)  {σ : Mm} {r : Mm} (h : fX8_makes σ = some r) : MVM l D ac q yX8_makes cX8_makes 2 none rmX8_makes [.ref (q 0)] σ r := by
  refine MV.of hq XT_M (by decide) (Nat.le_of_ble_eq_true rfl) (fun p e s m below meth c ls C hr hl => ?_)
  have hl : lv_has ls 2 [(0, .ref (q 0))] := hl
  have h : cr (σ 0 17) ((if σ 0 17 = 0 then bindv (sto σ 0 17 1) (fun σ_2 => bindv (sto σ_2 0 16 0) (fun σ_3 => bindv 0 (fun v1_4 => lX8_makes_20 (fun σ_5 => fX8_makes_70 σ_5) 400 v1_4 σ_3))) else some σ)) = some r := h
  refine v_aload_n C hl dX8_makes_0 rfl 0 rfl ?_
  refine g_X8_17 C kdM_0 fl_X8_149 dX8_makes_1 ?_
  have hz1 := (cr_e h).1
  have h := (cr_e h).2
  refine v_if_eq C (tgt := 8) hz1 h dX8_makes_4 rfl (fun h => ?_) (fun h => ?_)
  · refine v_aload_n C hl dX8_makes_8 rfl 0 rfl ?_
    refine v_iconst C dX8_makes_9 ?_
    refine s_X8_17 C kdM_0 fl_X8_149 (Or.inr rfl) h dX8_makes_10 (fun σ_2 h => ?_)
    refine v_aload_n C hl dX8_makes_13 rfl 0 rfl ?_
    refine v_iconst C dX8_makes_14 ?_
    refine s_X8_16 C kdM_0 fl_X8_227 h dX8_makes_15 (fun σ_3 h => ?_)
    refine v_iconst C dX8_makes_18 ?_
    refine v_istore_n C hl (fun x => [(1, .int (i32 x)), (0, .ref (q 0))]) dX8_makes_19 rfl (by decide) (fun _ => rfl) h (fun v1_4 ls hl h => ?_)
    exact wlX8_makes_20 C hr (fun σ_5 ls hl h => wX8_makes_70 C hr (lv_sub hl [0] rfl) h) _ _ _ _ (lv_sub hl [1, 0] rfl) h
  · exact v_vret C hr h dX8_makes_7
end
section
variable {l : Launch} {D : va_G} {ac : Nat → ClassId} {q : Nat → Nat} {p : Program} {e : Env} {s : State} {m : MethodId} {args : Array Value} {below : List Frame} {meth : Method} {c : Code} {ls : Array Slot}
theorem dX8_in_0 : decode cX8_in 0 = .ok (.lload_n 0, 1) := by decide +kernel
theorem dX8_in_1 : decode cX8_in 1 = .ok (.lload_n 2, 1) := by decide +kernel
theorem dX8_in_2 : decode cX8_in 2 = .ok (.lcmp, 1) := by decide +kernel
theorem dX8_in_3 : decode cX8_in 3 = .ok (.ifCond .lt 14, 3) := by decide +kernel
theorem dX8_in_6 : decode cX8_in 6 = .ok (.lload_n 0, 1) := by decide +kernel
theorem dX8_in_7 : decode cX8_in 7 = .ok (.lload 4, 2) := by decide +kernel
theorem dX8_in_9 : decode cX8_in 9 = .ok (.lcmp, 1) := by decide +kernel
theorem dX8_in_10 : decode cX8_in 10 = .ok (.ifCond .gt 7, 3) := by decide +kernel
theorem dX8_in_13 : decode cX8_in 13 = .ok (.iconst 1, 1) := by decide +kernel
theorem dX8_in_14 : decode cX8_in 14 = .ok (.goto 4, 3) := by decide +kernel
theorem dX8_in_17 : decode cX8_in 17 = .ok (.iconst 0, 1) := by decide +kernel
theorem dX8_in_18 : decode cX8_in 18 = .ok (.ireturn, 1) := by decide +kernel
theorem wX8_in_18 (C : CxM p rmX8_in s m args meth c D ac q RX8 cX8_in 6) (hr : meth.sig.returnType = (some .boolean)) {t0 : Int} {σ : Mm} {r : Int} (hl : lv_has ls 6 []) (h : fX8_in_18 t0 σ = some r) : VM p l e rmX8_in s m args below meth c D ac q (QIM D ac q below args s (r, σ)) σ (F0 m 18 ls [.int (i32 t0)]) := by
  have h : chb t0 (some t0) = some r := h
  have hz1 := (chb_e h).1
  have h := (chb_e h).2
  exact v_zret C hr hz1 (so1 h) dX8_in_18
theorem wX8_in_17 (C : CxM p rmX8_in s m args meth c D ac q RX8 cX8_in 6) (hr : meth.sig.returnType = (some .boolean)) {σ : Mm} {r : Int} (hl : lv_has ls 6 []) (h : fX8_in_17 σ = some r) : VM p l e rmX8_in s m args below meth c D ac q (QIM D ac q below args s (r, σ)) σ (F0 m 17 ls []) := by
  have h : fX8_in_18 0 σ = some r := h
  refine v_iconst C dX8_in_17 ?_
  exact wX8_in_18 C hr (lv_sub hl [] rfl) h
theorem mX8_in (hq : QI 19 q) {v0 : Int} {v2 : Int} {v4 : Int} {σ : Mm} {r : Int} (h : fX8_in v0 v2 v4 σ = some r) : MIM l D ac q yX8_in cX8_in 6 (some .boolean) rmX8_in [.long (i64 v0), .long (i64 v2), .long (i64 v4)] σ (r, σ) := by
  refine MI.of hq XT_M (by decide) (Nat.le_of_ble_eq_true rfl) (fun p e s m below meth c ls C hr hl => ?_)
  have hl : lv_has ls 6 [(0, .long (i64 v0)), (2, .long (i64 v2)), (4, .long (i64 v4))] := hl
  have h : crl v0 (crl v2 ((if v0 < v2 then fX8_in_17 σ else crl v0 (crl v4 ((if v4 < v0 then fX8_in_17 σ else fX8_in_18 1 σ)))))) = some r := h
  refine v_lload_n C hl dX8_in_0 rfl 0 rfl ?_
  refine v_lload_n C hl dX8_in_1 rfl 1 rfl ?_
  have hz1 := (crl_e h).1
  have h := (crl_e h).2
  have hz2 := (crl_e h).1
  have h := (crl_e h).2
  refine v_lcmp_lt C (tgt := 17) hz1 hz2 h dX8_in_2 dX8_in_3 rfl (fun h => ?_) (fun h => ?_)
  · exact wX8_in_17 C hr (lv_sub hl [] rfl) h
  · refine v_lload_n C hl dX8_in_6 rfl 0 rfl ?_
    refine v_lload C hl dX8_in_7 2 rfl ?_
    have hz3 := (crl_e h).1
    have h := (crl_e h).2
    have hz4 := (crl_e h).1
    have h := (crl_e h).2
    refine v_lcmp_gt C (tgt := 17) hz3 hz4 h dX8_in_9 dX8_in_10 rfl (fun h => ?_) (fun h => ?_)
    · exact wX8_in_17 C hr (lv_sub hl [] rfl) h
    · refine v_iconst C dX8_in_13 ?_
      refine v_goto C (tgt := 18) dX8_in_14 rfl ?_
      exact wX8_in_18 C hr (lv_sub hl [] rfl) h
end
section
variable {l : Launch} {D : va_G} {ac : Nat → ClassId} {q : Nat → Nat} {p : Program} {e : Env} {s : State} {m : MethodId} {args : Array Value} {below : List Frame} {meth : Method} {c : Code} {ls : Array Slot}
theorem dX8_isArc_0 : decode cX8_isArc 0 = .ok (.aload_n 0, 1) := by decide +kernel
theorem dX8_isArc_1 : decode cX8_isArc 1 = .ok (.invokevirtual 257, 3) := by decide +kernel
theorem dX8_isArc_4 : decode cX8_isArc 4 = .ok (.iload_n 1, 1) := by decide +kernel
theorem dX8_isArc_5 : decode cX8_isArc 5 = .ok (.i2l, 1) := by decide +kernel
theorem dX8_isArc_6 : decode cX8_isArc 6 = .ok (.lconst 0, 1) := by decide +kernel
theorem dX8_isArc_7 : decode cX8_isArc 7 = .ok (.aload_n 0, 1) := by decide +kernel
theorem dX8_isArc_8 : decode cX8_isArc 8 = .ok (.getfield 245, 3) := by decide +kernel
theorem dX8_isArc_11 : decode cX8_isArc 11 = .ok (.iconst 1, 1) := by decide +kernel
theorem dX8_isArc_12 : decode cX8_isArc 12 = .ok (.isub, 1) := by decide +kernel
theorem dX8_isArc_13 : decode cX8_isArc 13 = .ok (.i2l, 1) := by decide +kernel
theorem dX8_isArc_14 : decode cX8_isArc 14 = .ok (.invokestatic 67, 3) := by decide +kernel
theorem dX8_isArc_17 : decode cX8_isArc 17 = .ok (.ireturn, 1) := by decide +kernel
theorem mX8_isArc (hq : QI 19 q) {v1 : Int} {σ : Mm} {r : Int × Mm} (h : fX8_isArc v1 σ = some r) : MIM l D ac q yX8_isArc cX8_isArc 2 (some .boolean) rmX8_isArc [.ref (q 0), .int (i32 v1)] σ r := by
  refine MI.of hq XT_M (by decide) (Nat.le_of_ble_eq_true rfl) (fun p e s m below meth c ls C hr hl => ?_)
  have hl : lv_has ls 2 [(0, .ref (q 0)), (1, .int (i32 v1))] := hl
  have h : bd (fX8_makes σ) (fun σ_1 => cr v1 (cr ((σ_1 0 24) - 1) (bd (fX8_in v1 0 ((σ_1 0 24) - 1) σ_1) (fun x_2 => chb x_2 (some (x_2, σ_1)))))) = some r := h
  refine v_aload_n C hl dX8_isArc_0 rfl 0 rfl ?_
  obtain ⟨σ_1, hv1, h⟩ := bd_e h
  refine v_callVV C 0 (klM kdM_0) rfl (ckM1 kdM_0 _) rfl [] (mX8_makes C.2.2.2.2.1 hv1) cd_X8_makes ic_X8 im_X8_makes se_X8_makes ml_X8_257 yk_X8_makes ⟨rfl, rfl, by decide, by decide⟩ rfl hl.1 (rest := []) rfl (Nat.le_of_ble_eq_true rfl) dX8_isArc_1 ?_
  refine v_iload_n C hl dX8_isArc_4 rfl 1 rfl ?_
  refine v_i2l C h dX8_isArc_5 (fun h => ?_)
  refine v_lconst C (v := 0) dX8_isArc_6 rfl ?_
  refine v_aload_n C hl dX8_isArc_7 rfl 0 rfl ?_
  refine g_X8_24 C kdM_0 fl_X8_245 dX8_isArc_8 ?_
  refine v_iconst C dX8_isArc_11 ?_
  refine v_isub C dX8_isArc_12 ?_
  refine v_i2l C h dX8_isArc_13 (fun h => ?_)
  obtain ⟨x_2, hv2, h⟩ := bd_e h
  refine v_callSI C [.long (i64 v1), .long (i64 0), .long (i64 ((σ_1 0 24) - 1))] (mX8_in C.2.2.2.2.1 hv2) cd_X8_in ic_X8 sm_X8_in ml_X8_67 yk_X8_in ⟨rfl, rfl, by decide, by decide⟩ rfl hl.1 (rest := []) rfl (Nat.le_of_ble_eq_true rfl) dX8_isArc_14 ?_
  have hz3 := (chb_e h).1
  have h := (chb_e h).2
  exact v_zret C hr hz3 h dX8_isArc_17
end
section
variable {l : Launch} {D : va_G} {ac : Nat → ClassId} {q : Nat → Nat} {p : Program} {e : Env} {s : State} {m : MethodId} {args : Array Value} {below : List Frame} {meth : Method} {c : Code} {ls : Array Slot}
theorem dX8_ringsOfArc_0 : decode cX8_ringsOfArc 0 = .ok (.iconst 0, 1) := by decide +kernel
theorem dX8_ringsOfArc_1 : decode cX8_ringsOfArc 1 = .ok (.istore_n 3, 1) := by decide +kernel
theorem dX8_ringsOfArc_2 : decode cX8_ringsOfArc 2 = .ok (.iconst 0, 1) := by decide +kernel
theorem dX8_ringsOfArc_3 : decode cX8_ringsOfArc 3 = .ok (.istore 4, 2) := by decide +kernel
theorem dX8_ringsOfArc_5 : decode cX8_ringsOfArc 5 = .ok (.iload 4, 2) := by decide +kernel
theorem dX8_ringsOfArc_7 : decode cX8_ringsOfArc 7 = .ok (.aload_n 0, 1) := by decide +kernel
theorem dX8_ringsOfArc_8 : decode cX8_ringsOfArc 8 = .ok (.invokevirtual 194, 3) := by decide +kernel
theorem dX8_ringsOfArc_11 : decode cX8_ringsOfArc 11 = .ok (.if_icmp .ge 143, 3) := by decide +kernel
theorem dX8_ringsOfArc_14 : decode cX8_ringsOfArc 14 = .ok (.iconst 0, 1) := by decide +kernel
theorem dX8_ringsOfArc_15 : decode cX8_ringsOfArc 15 = .ok (.istore 5, 2) := by decide +kernel
theorem dX8_ringsOfArc_17 : decode cX8_ringsOfArc 17 = .ok (.iconst 0, 1) := by decide +kernel
theorem dX8_ringsOfArc_18 : decode cX8_ringsOfArc 18 = .ok (.istore 6, 2) := by decide +kernel
theorem dX8_ringsOfArc_20 : decode cX8_ringsOfArc 20 = .ok (.iload 6, 2) := by decide +kernel
theorem dX8_ringsOfArc_22 : decode cX8_ringsOfArc 22 = .ok (.aload_n 0, 1) := by decide +kernel
theorem dX8_ringsOfArc_23 : decode cX8_ringsOfArc 23 = .ok (.getfield 7, 3) := by decide +kernel
theorem dX8_ringsOfArc_26 : decode cX8_ringsOfArc 26 = .ok (.sipush 132, 3) := by decide +kernel
theorem dX8_ringsOfArc_29 : decode cX8_ringsOfArc 29 = .ok (.iload 4, 2) := by decide +kernel
theorem dX8_ringsOfArc_31 : decode cX8_ringsOfArc 31 = .ok (.iadd, 1) := by decide +kernel
theorem dX8_ringsOfArc_32 : decode cX8_ringsOfArc 32 = .ok (.iaload, 1) := by decide +kernel
theorem dX8_ringsOfArc_33 : decode cX8_ringsOfArc 33 = .ok (.if_icmp .ge 89, 3) := by decide +kernel
theorem dX8_ringsOfArc_36 : decode cX8_ringsOfArc 36 = .ok (.aload_n 0, 1) := by decide +kernel
theorem dX8_ringsOfArc_37 : decode cX8_ringsOfArc 37 = .ok (.iconst 0, 1) := by decide +kernel
theorem dX8_ringsOfArc_38 : decode cX8_ringsOfArc 38 = .ok (.iload 4, 2) := by decide +kernel
theorem dX8_ringsOfArc_40 : decode cX8_ringsOfArc 40 = .ok (.iload 6, 2) := by decide +kernel
theorem dX8_ringsOfArc_42 : decode cX8_ringsOfArc 42 = .ok (.invokevirtual 168, 3) := by decide +kernel
theorem dX8_ringsOfArc_45 : decode cX8_ringsOfArc 45 = .ok (.istore 7, 2) := by decide +kernel
theorem dX8_ringsOfArc_47 : decode cX8_ringsOfArc 47 = .ok (.aload_n 0, 1) := by decide +kernel
theorem dX8_ringsOfArc_48 : decode cX8_ringsOfArc 48 = .ok (.iconst 0, 1) := by decide +kernel
theorem dX8_ringsOfArc_49 : decode cX8_ringsOfArc 49 = .ok (.iload 4, 2) := by decide +kernel
theorem dX8_ringsOfArc_51 : decode cX8_ringsOfArc 51 = .ok (.iload 6, 2) := by decide +kernel
theorem dX8_ringsOfArc_53 : decode cX8_ringsOfArc 53 = .ok (.iconst 1, 1) := by decide +kernel
theorem dX8_ringsOfArc_54 : decode cX8_ringsOfArc 54 = .ok (.iadd, 1) := by decide +kernel
theorem dX8_ringsOfArc_55 : decode cX8_ringsOfArc 55 = .ok (.invokevirtual 168, 3) := by decide +kernel
theorem dX8_ringsOfArc_58 : decode cX8_ringsOfArc 58 = .ok (.istore 8, 2) := by decide +kernel
theorem dX8_ringsOfArc_60 : decode cX8_ringsOfArc 60 = .ok (.iload 5, 2) := by decide +kernel
theorem dX8_ringsOfArc_62 : decode cX8_ringsOfArc 62 = .ok (.ifCond .ne 47, 3) := by decide +kernel
theorem dX8_ringsOfArc_65 : decode cX8_ringsOfArc 65 = .ok (.iload 7, 2) := by decide +kernel
theorem dX8_ringsOfArc_67 : decode cX8_ringsOfArc 67 = .ok (.aload_n 0, 1) := by decide +kernel
theorem dX8_ringsOfArc_68 : decode cX8_ringsOfArc 68 = .ok (.iload_n 1, 1) := by decide +kernel
theorem dX8_ringsOfArc_69 : decode cX8_ringsOfArc 69 = .ok (.iconst 0, 1) := by decide +kernel
theorem dX8_ringsOfArc_70 : decode cX8_ringsOfArc 70 = .ok (.invokevirtual 248, 3) := by decide +kernel
theorem dX8_ringsOfArc_73 : decode cX8_ringsOfArc 73 = .ok (.if_icmp .ne 14, 3) := by decide +kernel
theorem dX8_ringsOfArc_76 : decode cX8_ringsOfArc 76 = .ok (.iload 8, 2) := by decide +kernel
theorem dX8_ringsOfArc_78 : decode cX8_ringsOfArc 78 = .ok (.aload_n 0, 1) := by decide +kernel
theorem dX8_ringsOfArc_79 : decode cX8_ringsOfArc 79 = .ok (.iload_n 1, 1) := by decide +kernel
theorem dX8_ringsOfArc_80 : decode cX8_ringsOfArc 80 = .ok (.iconst 1, 1) := by decide +kernel
theorem dX8_ringsOfArc_81 : decode cX8_ringsOfArc 81 = .ok (.invokevirtual 248, 3) := by decide +kernel
theorem dX8_ringsOfArc_84 : decode cX8_ringsOfArc 84 = .ok (.if_icmp .eq 25, 3) := by decide +kernel
theorem dX8_ringsOfArc_87 : decode cX8_ringsOfArc 87 = .ok (.iload 7, 2) := by decide +kernel
theorem dX8_ringsOfArc_89 : decode cX8_ringsOfArc 89 = .ok (.aload_n 0, 1) := by decide +kernel
theorem dX8_ringsOfArc_90 : decode cX8_ringsOfArc 90 = .ok (.iload_n 1, 1) := by decide +kernel
theorem dX8_ringsOfArc_91 : decode cX8_ringsOfArc 91 = .ok (.iconst 1, 1) := by decide +kernel
theorem dX8_ringsOfArc_92 : decode cX8_ringsOfArc 92 = .ok (.invokevirtual 248, 3) := by decide +kernel
theorem dX8_ringsOfArc_95 : decode cX8_ringsOfArc 95 = .ok (.if_icmp .ne 18, 3) := by decide +kernel
theorem dX8_ringsOfArc_98 : decode cX8_ringsOfArc 98 = .ok (.iload 8, 2) := by decide +kernel
theorem dX8_ringsOfArc_100 : decode cX8_ringsOfArc 100 = .ok (.aload_n 0, 1) := by decide +kernel
theorem dX8_ringsOfArc_101 : decode cX8_ringsOfArc 101 = .ok (.iload_n 1, 1) := by decide +kernel
theorem dX8_ringsOfArc_102 : decode cX8_ringsOfArc 102 = .ok (.iconst 0, 1) := by decide +kernel
theorem dX8_ringsOfArc_103 : decode cX8_ringsOfArc 103 = .ok (.invokevirtual 248, 3) := by decide +kernel
theorem dX8_ringsOfArc_106 : decode cX8_ringsOfArc 106 = .ok (.if_icmp .ne 7, 3) := by decide +kernel
theorem dX8_ringsOfArc_109 : decode cX8_ringsOfArc 109 = .ok (.iconst 1, 1) := by decide +kernel
theorem dX8_ringsOfArc_110 : decode cX8_ringsOfArc 110 = .ok (.goto 4, 3) := by decide +kernel
theorem dX8_ringsOfArc_113 : decode cX8_ringsOfArc 113 = .ok (.iconst 0, 1) := by decide +kernel
theorem dX8_ringsOfArc_114 : decode cX8_ringsOfArc 114 = .ok (.istore 5, 2) := by decide +kernel
theorem dX8_ringsOfArc_116 : decode cX8_ringsOfArc 116 = .ok (.iinc 6 1, 3) := by decide +kernel
theorem dX8_ringsOfArc_119 : decode cX8_ringsOfArc 119 = .ok (.goto (-99), 3) := by decide +kernel
theorem dX8_ringsOfArc_122 : decode cX8_ringsOfArc 122 = .ok (.iload 5, 2) := by decide +kernel
theorem dX8_ringsOfArc_124 : decode cX8_ringsOfArc 124 = .ok (.ifCond .eq 11, 3) := by decide +kernel
theorem dX8_ringsOfArc_127 : decode cX8_ringsOfArc 127 = .ok (.iload_n 3, 1) := by decide +kernel
theorem dX8_ringsOfArc_128 : decode cX8_ringsOfArc 128 = .ok (.iload_n 2, 1) := by decide +kernel
theorem dX8_ringsOfArc_129 : decode cX8_ringsOfArc 129 = .ok (.if_icmp .ne 6, 3) := by decide +kernel
theorem dX8_ringsOfArc_132 : decode cX8_ringsOfArc 132 = .ok (.iload 4, 2) := by decide +kernel
theorem dX8_ringsOfArc_134 : decode cX8_ringsOfArc 134 = .ok (.ireturn, 1) := by decide +kernel
theorem dX8_ringsOfArc_135 : decode cX8_ringsOfArc 135 = .ok (.iload_n 3, 1) := by decide +kernel
theorem dX8_ringsOfArc_136 : decode cX8_ringsOfArc 136 = .ok (.iload 5, 2) := by decide +kernel
theorem dX8_ringsOfArc_138 : decode cX8_ringsOfArc 138 = .ok (.ifCond .eq 7, 3) := by decide +kernel
theorem dX8_ringsOfArc_141 : decode cX8_ringsOfArc 141 = .ok (.iconst 1, 1) := by decide +kernel
theorem dX8_ringsOfArc_142 : decode cX8_ringsOfArc 142 = .ok (.goto 4, 3) := by decide +kernel
theorem dX8_ringsOfArc_145 : decode cX8_ringsOfArc 145 = .ok (.iconst 0, 1) := by decide +kernel
theorem dX8_ringsOfArc_146 : decode cX8_ringsOfArc 146 = .ok (.iadd, 1) := by decide +kernel
theorem dX8_ringsOfArc_147 : decode cX8_ringsOfArc 147 = .ok (.istore_n 3, 1) := by decide +kernel
theorem dX8_ringsOfArc_148 : decode cX8_ringsOfArc 148 = .ok (.iinc 4 1, 3) := by decide +kernel
theorem dX8_ringsOfArc_151 : decode cX8_ringsOfArc 151 = .ok (.goto (-146), 3) := by decide +kernel
theorem dX8_ringsOfArc_154 : decode cX8_ringsOfArc 154 = .ok (.iload_n 2, 1) := by decide +kernel
theorem dX8_ringsOfArc_155 : decode cX8_ringsOfArc 155 = .ok (.ifCond .ge 7, 3) := by decide +kernel
theorem dX8_ringsOfArc_158 : decode cX8_ringsOfArc 158 = .ok (.iload_n 3, 1) := by decide +kernel
theorem dX8_ringsOfArc_159 : decode cX8_ringsOfArc 159 = .ok (.goto 5, 3) := by decide +kernel
theorem dX8_ringsOfArc_162 : decode cX8_ringsOfArc 162 = .ok (.bipush (-4), 2) := by decide +kernel
theorem dX8_ringsOfArc_164 : decode cX8_ringsOfArc 164 = .ok (.ireturn, 1) := by decide +kernel
theorem wX8_ringsOfArc_164 (C : CxM p rmX8_ringsOfArc s m args meth c D ac q RX8 cX8_ringsOfArc 9) (hr : meth.sig.returnType = (some .int)) {t0 : Int} {σ : Mm} {r : Int} (hl : lv_has ls 9 [(0, .ref (q 0))]) (h : fX8_ringsOfArc_164 t0 σ = some r) : VM p l e rmX8_ringsOfArc s m args below meth c D ac q (QIM D ac q below args s (r, σ)) σ (F0 m 164 ls [.int (i32 t0)]) := by
  have h : some t0 = some r := h
  exact v_iret C hr (so1 h) dX8_ringsOfArc_164
theorem wX8_ringsOfArc_154 (C : CxM p rmX8_ringsOfArc s m args meth c D ac q RX8 cX8_ringsOfArc 9) (hr : meth.sig.returnType = (some .int)) {v2 : Int} {v3 : Int} {σ : Mm} {r : Int} (hl : lv_has ls 9 [(0, .ref (q 0)), (2, .int (i32 v2)), (3, .int (i32 v3))]) (h : fX8_ringsOfArc_154 v2 v3 σ = some r) : VM p l e rmX8_ringsOfArc s m args below meth c D ac q (QIM D ac q below args s (r, σ)) σ (F0 m 154 ls []) := by
  have h : cr v2 ((if v2 < 0 then fX8_ringsOfArc_164 v3 σ else fX8_ringsOfArc_164 (-4) σ)) = some r := h
  refine v_iload_n C hl dX8_ringsOfArc_154 rfl 1 rfl ?_
  have hz1 := (cr_e h).1
  have h := (cr_e h).2
  refine v_if_ge C (tgt := 162) hz1 h dX8_ringsOfArc_155 rfl (fun h => ?_) (fun h => ?_)
  · refine v_bipush C dX8_ringsOfArc_162 rfl ?_
    exact wX8_ringsOfArc_164 C hr (lv_sub hl [0] rfl) h
  · refine v_iload_n C hl dX8_ringsOfArc_158 rfl 2 rfl ?_
    refine v_goto C (tgt := 164) dX8_ringsOfArc_159 rfl ?_
    exact wX8_ringsOfArc_164 C hr (lv_sub hl [0] rfl) h
theorem wX8_ringsOfArc_146 (C : CxM p rmX8_ringsOfArc s m args meth c D ac q RX8 cX8_ringsOfArc 9) (hr : meth.sig.returnType = (some .int)) {v1 : Int} {v2 : Int} {v4 : Int} {t0 : Int} {t1 : Int} {c5 : Int → Int → Option (Int)} {σ : Mm} {r : Int} (hc5 : ∀ (v3x : Int) (v4x : Int) (ls : Array Slot), lv_has ls 9 [(0, .ref (q 0)), (1, .int (i32 v1)), (2, .int (i32 v2)), (3, .int (i32 v3x)), (4, .int (i32 v4x))] → c5 v3x v4x = some r → VM p l e rmX8_ringsOfArc s m args below meth c D ac q (QIM D ac q below args s (r, σ)) σ (F0 m 5 ls [])) (hl : lv_has ls 9 [(0, .ref (q 0)), (1, .int (i32 v1)), (2, .int (i32 v2)), (4, .int (i32 v4))]) (h : fX8_ringsOfArc_146 c5 v1 v2 v4 t0 t1 σ = some r) : VM p l e rmX8_ringsOfArc s m args below meth c D ac q (QIM D ac q below args s (r, σ)) σ (F0 m 146 ls [.int (i32 t1), .int (i32 t0)]) := by
  have h : bindv (t0 + t1) (fun v3_1 => bindv (v4 + 1) (fun v4_2 => c5 v3_1 v4_2)) = some r := h
  refine v_iadd C dX8_ringsOfArc_146 ?_
  refine v_istore_n C hl (fun x => [(3, .int (i32 x)), (0, .ref (q 0)), (1, .int (i32 v1)), (2, .int (i32 v2)), (4, .int (i32 v4))]) dX8_ringsOfArc_147 rfl (by decide) (fun _ => rfl) h (fun v3_1 ls hl h => ?_)
  refine v_iinc C hl (fun x => [(4, .int (i32 x)), (3, .int (i32 v3_1)), (0, .ref (q 0)), (1, .int (i32 v1)), (2, .int (i32 v2))]) dX8_ringsOfArc_148 4 rfl (by decide) (fun _ => rfl) h (fun v4_2 ls hl h => ?_)
  refine v_goto C (tgt := 5) dX8_ringsOfArc_151 rfl ?_
  exact hc5 _ _ _ (lv_sub hl [2, 3, 4, 1, 0] rfl) h
theorem wX8_ringsOfArc_135 (C : CxM p rmX8_ringsOfArc s m args meth c D ac q RX8 cX8_ringsOfArc 9) (hr : meth.sig.returnType = (some .int)) {v1 : Int} {v2 : Int} {v3 : Int} {v4 : Int} {v5 : Int} {c5 : Int → Int → Option (Int)} {σ : Mm} {r : Int} (hc5 : ∀ (v3x : Int) (v4x : Int) (ls : Array Slot), lv_has ls 9 [(0, .ref (q 0)), (1, .int (i32 v1)), (2, .int (i32 v2)), (3, .int (i32 v3x)), (4, .int (i32 v4x))] → c5 v3x v4x = some r → VM p l e rmX8_ringsOfArc s m args below meth c D ac q (QIM D ac q below args s (r, σ)) σ (F0 m 5 ls [])) (hl : lv_has ls 9 [(0, .ref (q 0)), (1, .int (i32 v1)), (2, .int (i32 v2)), (3, .int (i32 v3)), (4, .int (i32 v4)), (5, .int (i32 v5))]) (h : fX8_ringsOfArc_135 c5 v1 v2 v3 v4 v5 σ = some r) : VM p l e rmX8_ringsOfArc s m args below meth c D ac q (QIM D ac q below args s (r, σ)) σ (F0 m 135 ls []) := by
  have h : cr v5 ((if v5 = 0 then fX8_ringsOfArc_146 c5 v1 v2 v4 v3 0 σ else fX8_ringsOfArc_146 c5 v1 v2 v4 v3 1 σ)) = some r := h
  refine v_iload_n C hl dX8_ringsOfArc_135 rfl 3 rfl ?_
  refine v_iload C hl dX8_ringsOfArc_136 5 rfl ?_
  have hz1 := (cr_e h).1
  have h := (cr_e h).2
  refine v_if_eq C (tgt := 145) hz1 h dX8_ringsOfArc_138 rfl (fun h => ?_) (fun h => ?_)
  · refine v_iconst C dX8_ringsOfArc_145 ?_
    exact wX8_ringsOfArc_146 C hr hc5 (lv_sub hl [0, 1, 2, 4] rfl) h
  · refine v_iconst C dX8_ringsOfArc_141 ?_
    refine v_goto C (tgt := 146) dX8_ringsOfArc_142 rfl ?_
    exact wX8_ringsOfArc_146 C hr hc5 (lv_sub hl [0, 1, 2, 4] rfl) h
theorem wX8_ringsOfArc_122 (C : CxM p rmX8_ringsOfArc s m args meth c D ac q RX8 cX8_ringsOfArc 9) (hr : meth.sig.returnType = (some .int)) {v1 : Int} {v2 : Int} {v3 : Int} {v4 : Int} {v5 : Int} {c5 : Int → Int → Option (Int)} {σ : Mm} {r : Int} (hc5 : ∀ (v3x : Int) (v4x : Int) (ls : Array Slot), lv_has ls 9 [(0, .ref (q 0)), (1, .int (i32 v1)), (2, .int (i32 v2)), (3, .int (i32 v3x)), (4, .int (i32 v4x))] → c5 v3x v4x = some r → VM p l e rmX8_ringsOfArc s m args below meth c D ac q (QIM D ac q below args s (r, σ)) σ (F0 m 5 ls [])) (hl : lv_has ls 9 [(0, .ref (q 0)), (1, .int (i32 v1)), (2, .int (i32 v2)), (3, .int (i32 v3)), (4, .int (i32 v4)), (5, .int (i32 v5))]) (h : fX8_ringsOfArc_122 c5 v1 v2 v3 v4 v5 σ = some r) : VM p l e rmX8_ringsOfArc s m args below meth c D ac q (QIM D ac q below args s (r, σ)) σ (F0 m 122 ls []) := by
  have h : cr v5 ((if v5 = 0 then fX8_ringsOfArc_135 c5 v1 v2 v3 v4 v5 σ else cr v3 (cr v2 ((if v3 = v2 then some v4 else fX8_ringsOfArc_135 c5 v1 v2 v3 v4 v5 σ))))) = some r := h
  refine v_iload C hl dX8_ringsOfArc_122 5 rfl ?_
  have hz1 := (cr_e h).1
  have h := (cr_e h).2
  refine v_if_eq C (tgt := 135) hz1 h dX8_ringsOfArc_124 rfl (fun h => ?_) (fun h => ?_)
  · exact wX8_ringsOfArc_135 C hr hc5 (lv_sub hl [0, 1, 2, 3, 4, 5] rfl) h
  · refine v_iload_n C hl dX8_ringsOfArc_127 rfl 3 rfl ?_
    refine v_iload_n C hl dX8_ringsOfArc_128 rfl 2 rfl ?_
    have hz2 := (cr_e h).1
    have h := (cr_e h).2
    have hz3 := (cr_e h).1
    have h := (cr_e h).2
    refine v_icmp_ne C (tgt := 135) hz2 hz3 h dX8_ringsOfArc_129 rfl (fun h => ?_) (fun h => ?_)
    · exact wX8_ringsOfArc_135 C hr hc5 (lv_sub hl [0, 1, 2, 3, 4, 5] rfl) h
    · refine v_iload C hl dX8_ringsOfArc_132 4 rfl ?_
      exact v_iret C hr (so1 h) dX8_ringsOfArc_134
theorem wX8_ringsOfArc_114 (C : CxM p rmX8_ringsOfArc s m args meth c D ac q RX8 cX8_ringsOfArc 9) (hr : meth.sig.returnType = (some .int)) {v1 : Int} {v2 : Int} {v3 : Int} {v4 : Int} {v6 : Int} {t0 : Int} {c20 : Int → Int → Option (Int)} {σ : Mm} {r : Int} (hc20 : ∀ (v5x : Int) (v6x : Int) (ls : Array Slot), lv_has ls 9 [(0, .ref (q 0)), (1, .int (i32 v1)), (2, .int (i32 v2)), (3, .int (i32 v3)), (4, .int (i32 v4)), (5, .int (i32 v5x)), (6, .int (i32 v6x))] → c20 v5x v6x = some r → VM p l e rmX8_ringsOfArc s m args below meth c D ac q (QIM D ac q below args s (r, σ)) σ (F0 m 20 ls [])) (hl : lv_has ls 9 [(0, .ref (q 0)), (1, .int (i32 v1)), (2, .int (i32 v2)), (3, .int (i32 v3)), (4, .int (i32 v4)), (6, .int (i32 v6))]) (h : fX8_ringsOfArc_114 c20 v1 v2 v3 v4 v6 t0 σ = some r) : VM p l e rmX8_ringsOfArc s m args below meth c D ac q (QIM D ac q below args s (r, σ)) σ (F0 m 114 ls [.int (i32 t0)]) := by
  have h : bindv t0 (fun v5_1 => bindv (v6 + 1) (fun v6_2 => c20 v5_1 v6_2)) = some r := h
  refine v_istore C hl (fun x => [(5, .int (i32 x)), (0, .ref (q 0)), (1, .int (i32 v1)), (2, .int (i32 v2)), (3, .int (i32 v3)), (4, .int (i32 v4)), (6, .int (i32 v6))]) dX8_ringsOfArc_114 (by decide) (fun _ => rfl) h (fun v5_1 ls hl h => ?_)
  refine v_iinc C hl (fun x => [(6, .int (i32 x)), (5, .int (i32 v5_1)), (0, .ref (q 0)), (1, .int (i32 v1)), (2, .int (i32 v2)), (3, .int (i32 v3)), (4, .int (i32 v4))]) dX8_ringsOfArc_116 6 rfl (by decide) (fun _ => rfl) h (fun v6_2 ls hl h => ?_)
  refine v_goto C (tgt := 20) dX8_ringsOfArc_119 rfl ?_
  exact hc20 _ _ _ (lv_sub hl [2, 3, 4, 5, 6, 1, 0] rfl) h
theorem wX8_ringsOfArc_113 (C : CxM p rmX8_ringsOfArc s m args meth c D ac q RX8 cX8_ringsOfArc 9) (hr : meth.sig.returnType = (some .int)) {v1 : Int} {v2 : Int} {v3 : Int} {v4 : Int} {v6 : Int} {c20 : Int → Int → Option (Int)} {σ : Mm} {r : Int} (hc20 : ∀ (v5x : Int) (v6x : Int) (ls : Array Slot), lv_has ls 9 [(0, .ref (q 0)), (1, .int (i32 v1)), (2, .int (i32 v2)), (3, .int (i32 v3)), (4, .int (i32 v4)), (5, .int (i32 v5x)), (6, .int (i32 v6x))] → c20 v5x v6x = some r → VM p l e rmX8_ringsOfArc s m args below meth c D ac q (QIM D ac q below args s (r, σ)) σ (F0 m 20 ls [])) (hl : lv_has ls 9 [(0, .ref (q 0)), (1, .int (i32 v1)), (2, .int (i32 v2)), (3, .int (i32 v3)), (4, .int (i32 v4)), (6, .int (i32 v6))]) (h : fX8_ringsOfArc_113 c20 v1 v2 v3 v4 v6 σ = some r) : VM p l e rmX8_ringsOfArc s m args below meth c D ac q (QIM D ac q below args s (r, σ)) σ (F0 m 113 ls []) := by
  have h : fX8_ringsOfArc_114 c20 v1 v2 v3 v4 v6 0 σ = some r := h
  refine v_iconst C dX8_ringsOfArc_113 ?_
  exact wX8_ringsOfArc_114 C hr hc20 (lv_sub hl [0, 1, 2, 3, 4, 5] rfl) h
theorem wX8_ringsOfArc_109 (C : CxM p rmX8_ringsOfArc s m args meth c D ac q RX8 cX8_ringsOfArc 9) (hr : meth.sig.returnType = (some .int)) {v1 : Int} {v2 : Int} {v3 : Int} {v4 : Int} {v6 : Int} {c20 : Int → Int → Option (Int)} {σ : Mm} {r : Int} (hc20 : ∀ (v5x : Int) (v6x : Int) (ls : Array Slot), lv_has ls 9 [(0, .ref (q 0)), (1, .int (i32 v1)), (2, .int (i32 v2)), (3, .int (i32 v3)), (4, .int (i32 v4)), (5, .int (i32 v5x)), (6, .int (i32 v6x))] → c20 v5x v6x = some r → VM p l e rmX8_ringsOfArc s m args below meth c D ac q (QIM D ac q below args s (r, σ)) σ (F0 m 20 ls [])) (hl : lv_has ls 9 [(0, .ref (q 0)), (1, .int (i32 v1)), (2, .int (i32 v2)), (3, .int (i32 v3)), (4, .int (i32 v4)), (6, .int (i32 v6))]) (h : fX8_ringsOfArc_109 c20 v1 v2 v3 v4 v6 σ = some r) : VM p l e rmX8_ringsOfArc s m args below meth c D ac q (QIM D ac q below args s (r, σ)) σ (F0 m 109 ls []) := by
  have h : fX8_ringsOfArc_114 c20 v1 v2 v3 v4 v6 1 σ = some r := h
  refine v_iconst C dX8_ringsOfArc_109 ?_
  refine v_goto C (tgt := 114) dX8_ringsOfArc_110 rfl ?_
  exact wX8_ringsOfArc_114 C hr hc20 (lv_sub hl [0, 1, 2, 3, 4, 5] rfl) h
theorem wX8_ringsOfArc_87 (C : CxM p rmX8_ringsOfArc s m args meth c D ac q RX8 cX8_ringsOfArc 9) (hr : meth.sig.returnType = (some .int)) {v1 : Int} {v2 : Int} {v3 : Int} {v4 : Int} {v6 : Int} {v7 : Int} {v8 : Int} {c20 : Int → Int → Option (Int)} {σ : Mm} {r : Int} (hc20 : ∀ (v5x : Int) (v6x : Int) (ls : Array Slot), lv_has ls 9 [(0, .ref (q 0)), (1, .int (i32 v1)), (2, .int (i32 v2)), (3, .int (i32 v3)), (4, .int (i32 v4)), (5, .int (i32 v5x)), (6, .int (i32 v6x))] → c20 v5x v6x = some r → VM p l e rmX8_ringsOfArc s m args below meth c D ac q (QIM D ac q below args s (r, σ)) σ (F0 m 20 ls [])) (hl : lv_has ls 9 [(0, .ref (q 0)), (1, .int (i32 v1)), (2, .int (i32 v2)), (3, .int (i32 v3)), (4, .int (i32 v4)), (6, .int (i32 v6)), (7, .int (i32 v7)), (8, .int (i32 v8))]) (h : fX8_ringsOfArc_87 c20 v1 v2 v3 v4 v6 v7 v8 σ = some r) : VM p l e rmX8_ringsOfArc s m args below meth c D ac q (QIM D ac q below args s (r, σ)) σ (F0 m 87 ls []) := by
  have h : bd (fX8_arcPoint v1 1 σ) (fun x_1 => cr v7 (cr x_1 ((if v7 = x_1 then bd (fX8_arcPoint v1 0 σ) (fun x_4 => cr v8 (cr x_4 ((if v8 = x_4 then fX8_ringsOfArc_109 c20 v1 v2 v3 v4 v6 σ else fX8_ringsOfArc_113 c20 v1 v2 v3 v4 v6 σ)))) else fX8_ringsOfArc_113 c20 v1 v2 v3 v4 v6 σ)))) = some r := h
  refine v_iload C hl dX8_ringsOfArc_87 6 rfl ?_
  refine v_aload_n C hl dX8_ringsOfArc_89 rfl 0 rfl ?_
  refine v_iload_n C hl dX8_ringsOfArc_90 rfl 1 rfl ?_
  refine v_iconst C dX8_ringsOfArc_91 ?_
  obtain ⟨x_1, hv1, h⟩ := bd_e h
  refine v_callVI C 0 (klM kdM_0) rfl (ckM1 kdM_0 _) rfl [.int (i32 v1), .int (i32 1)] (mX8_arcPoint C.2.2.2.2.1 hv1) cd_X8_arcPoint ic_X8 im_X8_arcPoint se_X8_arcPoint ml_X8_248 yk_X8_arcPoint ⟨rfl, rfl, by decide, by decide⟩ rfl hl.1 (rest := [.int (i32 v7)]) rfl (Nat.le_of_ble_eq_true rfl) dX8_ringsOfArc_92 ?_
  have hz2 := (cr_e h).1
  have h := (cr_e h).2
  have hz3 := (cr_e h).1
  have h := (cr_e h).2
  refine v_icmp_ne C (tgt := 113) hz2 hz3 h dX8_ringsOfArc_95 rfl (fun h => ?_) (fun h => ?_)
  · exact wX8_ringsOfArc_113 C hr hc20 (lv_sub hl [0, 1, 2, 3, 4, 5] rfl) h
  · refine v_iload C hl dX8_ringsOfArc_98 7 rfl ?_
    refine v_aload_n C hl dX8_ringsOfArc_100 rfl 0 rfl ?_
    refine v_iload_n C hl dX8_ringsOfArc_101 rfl 1 rfl ?_
    refine v_iconst C dX8_ringsOfArc_102 ?_
    obtain ⟨x_4, hv4, h⟩ := bd_e h
    refine v_callVI C 0 (klM kdM_0) rfl (ckM1 kdM_0 _) rfl [.int (i32 v1), .int (i32 0)] (mX8_arcPoint C.2.2.2.2.1 hv4) cd_X8_arcPoint ic_X8 im_X8_arcPoint se_X8_arcPoint ml_X8_248 yk_X8_arcPoint ⟨rfl, rfl, by decide, by decide⟩ rfl hl.1 (rest := [.int (i32 v8)]) rfl (Nat.le_of_ble_eq_true rfl) dX8_ringsOfArc_103 ?_
    have hz5 := (cr_e h).1
    have h := (cr_e h).2
    have hz6 := (cr_e h).1
    have h := (cr_e h).2
    refine v_icmp_ne C (tgt := 113) hz5 hz6 h dX8_ringsOfArc_106 rfl (fun h => ?_) (fun h => ?_)
    · exact wX8_ringsOfArc_113 C hr hc20 (lv_sub hl [0, 1, 2, 3, 4, 5] rfl) h
    · exact wX8_ringsOfArc_109 C hr hc20 (lv_sub hl [0, 1, 2, 3, 4, 5] rfl) h
theorem wX8_ringsOfArc_20 (C : CxM p rmX8_ringsOfArc s m args meth c D ac q RX8 cX8_ringsOfArc 9) (hr : meth.sig.returnType = (some .int)) {v1 : Int} {v2 : Int} {v3 : Int} {v4 : Int} {σ : Mm} {v5 : Int} {v6 : Int} {e20 : Int → Option (Int)} {c20 : Int → Int → Option (Int)} {r : Int} (he20 : ∀ (v5x : Int) (ls : Array Slot), lv_has ls 9 [(0, .ref (q 0)), (1, .int (i32 v1)), (2, .int (i32 v2)), (3, .int (i32 v3)), (4, .int (i32 v4)), (5, .int (i32 v5x))] → e20 v5x = some r → VM p l e rmX8_ringsOfArc s m args below meth c D ac q (QIM D ac q below args s (r, σ)) σ (F0 m 122 ls [])) (hc20 : ∀ (v5x : Int) (v6x : Int) (ls : Array Slot), lv_has ls 9 [(0, .ref (q 0)), (1, .int (i32 v1)), (2, .int (i32 v2)), (3, .int (i32 v3)), (4, .int (i32 v4)), (5, .int (i32 v5x)), (6, .int (i32 v6x))] → c20 v5x v6x = some r → VM p l e rmX8_ringsOfArc s m args below meth c D ac q (QIM D ac q below args s (r, σ)) σ (F0 m 20 ls [])) (hl : lv_has ls 9 [(0, .ref (q 0)), (1, .int (i32 v1)), (2, .int (i32 v2)), (3, .int (i32 v3)), (4, .int (i32 v4)), (5, .int (i32 v5)), (6, .int (i32 v6))]) (h : fX8_ringsOfArc_20 v1 v2 v3 v4 σ e20 c20 v5 v6 = some r) : VM p l e rmX8_ringsOfArc s m args below meth c D ac q (QIM D ac q below args s (r, σ)) σ (F0 m 20 ls []) := by
  have h : chk (132 + v4) 700 (cr v6 (cr (σ 1 (132 + v4).toNat) ((if v6 < σ 1 (132 + v4).toNat then bd (fX8_cornerOf 0 v4 v6 σ) (fun x_3 => bindv x_3 (fun v7_4 => bd (fX8_cornerOf 0 v4 (v6 + 1) σ) (fun x_5 => bindv x_5 (fun v8_6 => cr v5 ((if v5 = 0 then bd (fX8_arcPoint v1 0 σ) (fun x_8 => cr v7_4 (cr x_8 ((if v7_4 = x_8 then bd (fX8_arcPoint v1 1 σ) (fun x_11 => cr v8_6 (cr x_11 ((if v8_6 = x_11 then fX8_ringsOfArc_109 c20 v1 v2 v3 v4 v6 σ else fX8_ringsOfArc_87 c20 v1 v2 v3 v4 v6 v7_4 v8_6 σ)))) else fX8_ringsOfArc_87 c20 v1 v2 v3 v4 v6 v7_4 v8_6 σ)))) else fX8_ringsOfArc_109 c20 v1 v2 v3 v4 v6 σ)))))) else e20 v5)))) = some r := h
  refine v_iload C hl dX8_ringsOfArc_20 6 rfl ?_
  refine v_aload_n C hl dX8_ringsOfArc_22 rfl 0 rfl ?_
  refine g_X8_0 C kdM_0 fl_X8_7 dX8_ringsOfArc_23 ?_
  refine v_sipush C dX8_ringsOfArc_26 rfl ?_
  refine v_iload C hl dX8_ringsOfArc_29 4 rfl ?_
  refine v_iadd C dX8_ringsOfArc_31 ?_
  refine alM2 C kdM_1 h dX8_ringsOfArc_32 (fun h => ?_)
  have hz1 := (cr_e h).1
  have h := (cr_e h).2
  have hz2 := (cr_e h).1
  have h := (cr_e h).2
  refine v_icmp_ge C (tgt := 122) hz1 hz2 h dX8_ringsOfArc_33 rfl (fun h => ?_) (fun h => ?_)
  · exact he20 _ _ (lv_sub hl [0, 1, 2, 3, 4, 5] rfl) h
  · refine v_aload_n C hl dX8_ringsOfArc_36 rfl 0 rfl ?_
    refine v_iconst C dX8_ringsOfArc_37 ?_
    refine v_iload C hl dX8_ringsOfArc_38 4 rfl ?_
    refine v_iload C hl dX8_ringsOfArc_40 6 rfl ?_
    obtain ⟨x_3, hv3, h⟩ := bd_e h
    refine v_callVI C 0 (klM kdM_0) rfl (ckM1 kdM_0 _) rfl [.int (i32 0), .int (i32 v4), .int (i32 v6)] (mX8_cornerOf C.2.2.2.2.1 hv3) cd_X8_cornerOf ic_X8 im_X8_cornerOf se_X8_cornerOf ml_X8_168 yk_X8_cornerOf ⟨rfl, rfl, by decide, by decide⟩ rfl hl.1 (rest := []) rfl (Nat.le_of_ble_eq_true rfl) dX8_ringsOfArc_42 ?_
    refine v_istore C hl (fun x => [(7, .int (i32 x)), (0, .ref (q 0)), (1, .int (i32 v1)), (2, .int (i32 v2)), (3, .int (i32 v3)), (4, .int (i32 v4)), (5, .int (i32 v5)), (6, .int (i32 v6))]) dX8_ringsOfArc_45 (by decide) (fun _ => rfl) h (fun v7_4 ls hl h => ?_)
    refine v_aload_n C hl dX8_ringsOfArc_47 rfl 1 rfl ?_
    refine v_iconst C dX8_ringsOfArc_48 ?_
    refine v_iload C hl dX8_ringsOfArc_49 5 rfl ?_
    refine v_iload C hl dX8_ringsOfArc_51 7 rfl ?_
    refine v_iconst C dX8_ringsOfArc_53 ?_
    refine v_iadd C dX8_ringsOfArc_54 ?_
    obtain ⟨x_5, hv5, h⟩ := bd_e h
    refine v_callVI C 0 (klM kdM_0) rfl (ckM1 kdM_0 _) rfl [.int (i32 0), .int (i32 v4), .int (i32 (v6 + 1))] (mX8_cornerOf C.2.2.2.2.1 hv5) cd_X8_cornerOf ic_X8 im_X8_cornerOf se_X8_cornerOf ml_X8_168 yk_X8_cornerOf ⟨rfl, rfl, by decide, by decide⟩ rfl hl.1 (rest := []) rfl (Nat.le_of_ble_eq_true rfl) dX8_ringsOfArc_55 ?_
    refine v_istore C hl (fun x => [(8, .int (i32 x)), (7, .int (i32 v7_4)), (0, .ref (q 0)), (1, .int (i32 v1)), (2, .int (i32 v2)), (3, .int (i32 v3)), (4, .int (i32 v4)), (5, .int (i32 v5)), (6, .int (i32 v6))]) dX8_ringsOfArc_58 (by decide) (fun _ => rfl) h (fun v8_6 ls hl h => ?_)
    refine v_iload C hl dX8_ringsOfArc_60 7 rfl ?_
    have hz7 := (cr_e h).1
    have h := (cr_e h).2
    refine v_if_ne C (tgt := 109) hz7 h dX8_ringsOfArc_62 rfl (fun h => ?_) (fun h => ?_)
    · exact wX8_ringsOfArc_109 C hr hc20 (lv_sub hl [2, 3, 4, 5, 6, 8] rfl) h
    · refine v_iload C hl dX8_ringsOfArc_65 1 rfl ?_
      refine v_aload_n C hl dX8_ringsOfArc_67 rfl 2 rfl ?_
      refine v_iload_n C hl dX8_ringsOfArc_68 rfl 3 rfl ?_
      refine v_iconst C dX8_ringsOfArc_69 ?_
      obtain ⟨x_8, hv8, h⟩ := bd_e h
      refine v_callVI C 0 (klM kdM_0) rfl (ckM1 kdM_0 _) rfl [.int (i32 v1), .int (i32 0)] (mX8_arcPoint C.2.2.2.2.1 hv8) cd_X8_arcPoint ic_X8 im_X8_arcPoint se_X8_arcPoint ml_X8_248 yk_X8_arcPoint ⟨rfl, rfl, by decide, by decide⟩ rfl hl.1 (rest := [.int (i32 v7_4)]) rfl (Nat.le_of_ble_eq_true rfl) dX8_ringsOfArc_70 ?_
      have hz9 := (cr_e h).1
      have h := (cr_e h).2
      have hz10 := (cr_e h).1
      have h := (cr_e h).2
      refine v_icmp_ne C (tgt := 87) hz9 hz10 h dX8_ringsOfArc_73 rfl (fun h => ?_) (fun h => ?_)
      · exact wX8_ringsOfArc_87 C hr hc20 (lv_sub hl [2, 3, 4, 5, 6, 8, 1, 0] rfl) h
      · refine v_iload C hl dX8_ringsOfArc_76 0 rfl ?_
        refine v_aload_n C hl dX8_ringsOfArc_78 rfl 2 rfl ?_
        refine v_iload_n C hl dX8_ringsOfArc_79 rfl 3 rfl ?_
        refine v_iconst C dX8_ringsOfArc_80 ?_
        obtain ⟨x_11, hv11, h⟩ := bd_e h
        refine v_callVI C 0 (klM kdM_0) rfl (ckM1 kdM_0 _) rfl [.int (i32 v1), .int (i32 1)] (mX8_arcPoint C.2.2.2.2.1 hv11) cd_X8_arcPoint ic_X8 im_X8_arcPoint se_X8_arcPoint ml_X8_248 yk_X8_arcPoint ⟨rfl, rfl, by decide, by decide⟩ rfl hl.1 (rest := [.int (i32 v8_6)]) rfl (Nat.le_of_ble_eq_true rfl) dX8_ringsOfArc_81 ?_
        have hz12 := (cr_e h).1
        have h := (cr_e h).2
        have hz13 := (cr_e h).1
        have h := (cr_e h).2
        refine v_icmp_eq C (tgt := 109) hz12 hz13 h dX8_ringsOfArc_84 rfl (fun h => ?_) (fun h => ?_)
        · exact wX8_ringsOfArc_109 C hr hc20 (lv_sub hl [2, 3, 4, 5, 6, 8] rfl) h
        · exact wX8_ringsOfArc_87 C hr hc20 (lv_sub hl [2, 3, 4, 5, 6, 8, 1, 0] rfl) h
theorem wlX8_ringsOfArc_20 (C : CxM p rmX8_ringsOfArc s m args meth c D ac q RX8 cX8_ringsOfArc 9) (hr : meth.sig.returnType = (some .int)) {v1 : Int} {v2 : Int} {v3 : Int} {v4 : Int} {σ : Mm} {e20 : Int → Option (Int)} {r : Int} (he20 : ∀ (v5x : Int) (ls : Array Slot), lv_has ls 9 [(0, .ref (q 0)), (1, .int (i32 v1)), (2, .int (i32 v2)), (3, .int (i32 v3)), (4, .int (i32 v4)), (5, .int (i32 v5x))] → e20 v5x = some r → VM p l e rmX8_ringsOfArc s m args below meth c D ac q (QIM D ac q below args s (r, σ)) σ (F0 m 122 ls [])) : ∀ (fu : Nat) (v5 : Int) (v6 : Int) (ls : Array Slot) (hl : lv_has ls 9 [(0, .ref (q 0)), (1, .int (i32 v1)), (2, .int (i32 v2)), (3, .int (i32 v3)), (4, .int (i32 v4)), (5, .int (i32 v5)), (6, .int (i32 v6))]) (h : lX8_ringsOfArc_20 v1 v2 v3 v4 σ e20 fu v5 v6 = some r), VM p l e rmX8_ringsOfArc s m args below meth c D ac q (QIM D ac q below args s (r, σ)) σ (F0 m 20 ls []) := by
  intro fu
  induction fu with
  | zero =>
    intro v5 v6 ls hl h
    have h : none = some r := h
    cases h
  | succ fu ih =>
    intro v5 v6 ls hl h
    exact wX8_ringsOfArc_20 C hr he20 (fun v5 v6 ls hl h => ih v5 v6 ls hl h) hl h
theorem wX8_ringsOfArc_5 (C : CxM p rmX8_ringsOfArc s m args meth c D ac q RX8 cX8_ringsOfArc 9) (hr : meth.sig.returnType = (some .int)) {v1 : Int} {v2 : Int} {σ : Mm} {v3 : Int} {v4 : Int} {e5 : Int → Option (Int)} {c5 : Int → Int → Option (Int)} {r : Int} (he5 : ∀ (v3x : Int) (ls : Array Slot), lv_has ls 9 [(0, .ref (q 0)), (2, .int (i32 v2)), (3, .int (i32 v3x))] → e5 v3x = some r → VM p l e rmX8_ringsOfArc s m args below meth c D ac q (QIM D ac q below args s (r, σ)) σ (F0 m 154 ls [])) (hc5 : ∀ (v3x : Int) (v4x : Int) (ls : Array Slot), lv_has ls 9 [(0, .ref (q 0)), (1, .int (i32 v1)), (2, .int (i32 v2)), (3, .int (i32 v3x)), (4, .int (i32 v4x))] → c5 v3x v4x = some r → VM p l e rmX8_ringsOfArc s m args below meth c D ac q (QIM D ac q below args s (r, σ)) σ (F0 m 5 ls [])) (hl : lv_has ls 9 [(0, .ref (q 0)), (1, .int (i32 v1)), (2, .int (i32 v2)), (3, .int (i32 v3)), (4, .int (i32 v4))]) (h : fX8_ringsOfArc_5 v1 v2 σ e5 c5 v3 v4 = some r) : VM p l e rmX8_ringsOfArc s m args below meth c D ac q (QIM D ac q below args s (r, σ)) σ (F0 m 5 ls []) := by
  have h : bd (fX8_rings σ) (fun x_1 => cr v4 (cr x_1 ((if v4 < x_1 then bindv 0 (fun v5_4 => bindv 0 (fun v6_5 => lX8_ringsOfArc_20 v1 v2 v3 v4 σ (fun v5_6 => fX8_ringsOfArc_122 c5 v1 v2 v3 v4 v5_6 σ) 400 v5_4 v6_5)) else e5 v3)))) = some r := h
  refine v_iload C hl dX8_ringsOfArc_5 4 rfl ?_
  refine v_aload_n C hl dX8_ringsOfArc_7 rfl 0 rfl ?_
  obtain ⟨x_1, hv1, h⟩ := bd_e h
  refine v_callVI C 0 (klM kdM_0) rfl (ckM1 kdM_0 _) rfl [] (mX8_rings C.2.2.2.2.1 hv1) cd_X8_rings ic_X8 im_X8_rings se_X8_rings ml_X8_194 yk_X8_rings ⟨rfl, rfl, by decide, by decide⟩ rfl hl.1 (rest := [.int (i32 v4)]) rfl (Nat.le_of_ble_eq_true rfl) dX8_ringsOfArc_8 ?_
  have hz2 := (cr_e h).1
  have h := (cr_e h).2
  have hz3 := (cr_e h).1
  have h := (cr_e h).2
  refine v_icmp_ge C (tgt := 154) hz2 hz3 h dX8_ringsOfArc_11 rfl (fun h => ?_) (fun h => ?_)
  · exact he5 _ _ (lv_sub hl [0, 2, 3] rfl) h
  · refine v_iconst C dX8_ringsOfArc_14 ?_
    refine v_istore C hl (fun x => [(5, .int (i32 x)), (0, .ref (q 0)), (1, .int (i32 v1)), (2, .int (i32 v2)), (3, .int (i32 v3)), (4, .int (i32 v4))]) dX8_ringsOfArc_15 (by decide) (fun _ => rfl) h (fun v5_4 ls hl h => ?_)
    refine v_iconst C dX8_ringsOfArc_17 ?_
    refine v_istore C hl (fun x => [(6, .int (i32 x)), (5, .int (i32 v5_4)), (0, .ref (q 0)), (1, .int (i32 v1)), (2, .int (i32 v2)), (3, .int (i32 v3)), (4, .int (i32 v4))]) dX8_ringsOfArc_18 (by decide) (fun _ => rfl) h (fun v6_5 ls hl h => ?_)
    exact wlX8_ringsOfArc_20 C hr (fun v5_6 ls hl h => wX8_ringsOfArc_122 C hr hc5 (lv_sub hl [0, 1, 2, 3, 4, 5] rfl) h) _ _ _ _ (lv_sub hl [2, 3, 4, 5, 6, 1, 0] rfl) h
theorem wlX8_ringsOfArc_5 (C : CxM p rmX8_ringsOfArc s m args meth c D ac q RX8 cX8_ringsOfArc 9) (hr : meth.sig.returnType = (some .int)) {v1 : Int} {v2 : Int} {σ : Mm} {e5 : Int → Option (Int)} {r : Int} (he5 : ∀ (v3x : Int) (ls : Array Slot), lv_has ls 9 [(0, .ref (q 0)), (2, .int (i32 v2)), (3, .int (i32 v3x))] → e5 v3x = some r → VM p l e rmX8_ringsOfArc s m args below meth c D ac q (QIM D ac q below args s (r, σ)) σ (F0 m 154 ls [])) : ∀ (fu : Nat) (v3 : Int) (v4 : Int) (ls : Array Slot) (hl : lv_has ls 9 [(0, .ref (q 0)), (1, .int (i32 v1)), (2, .int (i32 v2)), (3, .int (i32 v3)), (4, .int (i32 v4))]) (h : lX8_ringsOfArc_5 v1 v2 σ e5 fu v3 v4 = some r), VM p l e rmX8_ringsOfArc s m args below meth c D ac q (QIM D ac q below args s (r, σ)) σ (F0 m 5 ls []) := by
  intro fu
  induction fu with
  | zero =>
    intro v3 v4 ls hl h
    have h : none = some r := h
    cases h
  | succ fu ih =>
    intro v3 v4 ls hl h
    exact wX8_ringsOfArc_5 C hr he5 (fun v3 v4 ls hl h => ih v3 v4 ls hl h) hl h
theorem mX8_ringsOfArc (hq : QI 19 q) {v1 : Int} {v2 : Int} {σ : Mm} {r : Int} (h : fX8_ringsOfArc v1 v2 σ = some r) : MIM l D ac q yX8_ringsOfArc cX8_ringsOfArc 9 (some .int) rmX8_ringsOfArc [.ref (q 0), .int (i32 v1), .int (i32 v2)] σ (r, σ) := by
  refine MI.of hq XT_M (by decide) (Nat.le_of_ble_eq_true rfl) (fun p e s m below meth c ls C hr hl => ?_)
  have hl : lv_has ls 9 [(0, .ref (q 0)), (1, .int (i32 v1)), (2, .int (i32 v2))] := hl
  have h : bindv 0 (fun v3_1 => bindv 0 (fun v4_2 => lX8_ringsOfArc_5 v1 v2 σ (fun v3_3 => fX8_ringsOfArc_154 v2 v3_3 σ) 400 v3_1 v4_2)) = some r := h
  refine v_iconst C dX8_ringsOfArc_0 ?_
  refine v_istore_n C hl (fun x => [(3, .int (i32 x)), (0, .ref (q 0)), (1, .int (i32 v1)), (2, .int (i32 v2))]) dX8_ringsOfArc_1 rfl (by decide) (fun _ => rfl) h (fun v3_1 ls hl h => ?_)
  refine v_iconst C dX8_ringsOfArc_2 ?_
  refine v_istore C hl (fun x => [(4, .int (i32 x)), (3, .int (i32 v3_1)), (0, .ref (q 0)), (1, .int (i32 v1)), (2, .int (i32 v2))]) dX8_ringsOfArc_3 (by decide) (fun _ => rfl) h (fun v4_2 ls hl h => ?_)
  exact wlX8_ringsOfArc_5 C hr (fun v3_3 ls hl h => wX8_ringsOfArc_154 C hr (lv_sub hl [0, 1, 2] rfl) h) _ _ _ _ (lv_sub hl [2, 3, 4, 1, 0] rfl) h
end
section
variable {l : Launch} {D : va_G} {ac : Nat → ClassId} {q : Nat → Nat} {p : Program} {e : Env} {s : State} {m : MethodId} {args : Array Value} {below : List Frame} {meth : Method} {c : Code} {ls : Array Slot}
theorem dX8_along_0 : decode cX8_along 0 = .ok (.aload_n 0, 1) := by decide +kernel
theorem dX8_along_1 : decode cX8_along 1 = .ok (.iload_n 1, 1) := by decide +kernel
theorem dX8_along_2 : decode cX8_along 2 = .ok (.invokevirtual 286, 3) := by decide +kernel
theorem dX8_along_5 : decode cX8_along 5 = .ok (.ifCond .eq 17, 3) := by decide +kernel
theorem dX8_along_8 : decode cX8_along 8 = .ok (.iload_n 2, 1) := by decide +kernel
theorem dX8_along_9 : decode cX8_along 9 = .ok (.ifCond .lt 13, 3) := by decide +kernel
theorem dX8_along_12 : decode cX8_along 12 = .ok (.iload_n 3, 1) := by decide +kernel
theorem dX8_along_13 : decode cX8_along 13 = .ok (.i2l, 1) := by decide +kernel
theorem dX8_along_14 : decode cX8_along 14 = .ok (.lconst 0, 1) := by decide +kernel
theorem dX8_along_15 : decode cX8_along 15 = .ok (.lconst 1, 1) := by decide +kernel
theorem dX8_along_16 : decode cX8_along 16 = .ok (.invokestatic 67, 3) := by decide +kernel
theorem dX8_along_19 : decode cX8_along 19 = .ok (.ifCond .ne 5, 3) := by decide +kernel
theorem dX8_along_22 : decode cX8_along 22 = .ok (.iconst (-1), 1) := by decide +kernel
theorem dX8_along_23 : decode cX8_along 23 = .ok (.ireturn, 1) := by decide +kernel
theorem dX8_along_24 : decode cX8_along 24 = .ok (.iload_n 3, 1) := by decide +kernel
theorem dX8_along_25 : decode cX8_along 25 = .ok (.iconst 1, 1) := by decide +kernel
theorem dX8_along_26 : decode cX8_along 26 = .ok (.if_icmp .ne 12, 3) := by decide +kernel
theorem dX8_along_29 : decode cX8_along 29 = .ok (.aload_n 0, 1) := by decide +kernel
theorem dX8_along_30 : decode cX8_along 30 = .ok (.iload_n 1, 1) := by decide +kernel
theorem dX8_along_31 : decode cX8_along 31 = .ok (.iload_n 2, 1) := by decide +kernel
theorem dX8_along_32 : decode cX8_along 32 = .ok (.invokevirtual 289, 3) := by decide +kernel
theorem dX8_along_35 : decode cX8_along 35 = .ok (.goto 24, 3) := by decide +kernel
theorem dX8_along_38 : decode cX8_along 38 = .ok (.iload_n 2, 1) := by decide +kernel
theorem dX8_along_39 : decode cX8_along 39 = .ok (.aload_n 0, 1) := by decide +kernel
theorem dX8_along_40 : decode cX8_along 40 = .ok (.getfield 43, 3) := by decide +kernel
theorem dX8_along_43 : decode cX8_along 43 = .ok (.iload_n 1, 1) := by decide +kernel
theorem dX8_along_44 : decode cX8_along 44 = .ok (.iaload, 1) := by decide +kernel
theorem dX8_along_45 : decode cX8_along 45 = .ok (.if_icmp .ge 12, 3) := by decide +kernel
theorem dX8_along_48 : decode cX8_along 48 = .ok (.aload_n 0, 1) := by decide +kernel
theorem dX8_along_49 : decode cX8_along 49 = .ok (.iload_n 1, 1) := by decide +kernel
theorem dX8_along_50 : decode cX8_along 50 = .ok (.iload_n 2, 1) := by decide +kernel
theorem dX8_along_51 : decode cX8_along 51 = .ok (.invokevirtual 248, 3) := by decide +kernel
theorem dX8_along_54 : decode cX8_along 54 = .ok (.goto 5, 3) := by decide +kernel
theorem dX8_along_57 : decode cX8_along 57 = .ok (.bipush (-4), 2) := by decide +kernel
theorem dX8_along_59 : decode cX8_along 59 = .ok (.ireturn, 1) := by decide +kernel
theorem wX8_along_59 (C : CxM p rmX8_along s m args meth c D ac q RX8 cX8_along 4) (hr : meth.sig.returnType = (some .int)) {t0 : Int} {σ : Mm} {r : Int × Mm} (hl : lv_has ls 4 [(0, .ref (q 0))]) (h : fX8_along_59 t0 σ = some r) : VM p l e rmX8_along s m args below meth c D ac q (QIM D ac q below args s r) σ (F0 m 59 ls [.int (i32 t0)]) := by
  have h : some (t0, σ) = some r := h
  exact v_iret C hr h dX8_along_59
theorem wX8_along_22 (C : CxM p rmX8_along s m args meth c D ac q RX8 cX8_along 4) (hr : meth.sig.returnType = (some .int)) {σ : Mm} {r : Int × Mm} (hl : lv_has ls 4 [(0, .ref (q 0))]) (h : fX8_along_22 σ = some r) : VM p l e rmX8_along s m args below meth c D ac q (QIM D ac q below args s r) σ (F0 m 22 ls []) := by
  have h : some ((-1), σ) = some r := h
  refine v_iconst C dX8_along_22 ?_
  exact v_iret C hr h dX8_along_23
theorem mX8_along (hq : QI 19 q) {v1 : Int} {v2 : Int} {v3 : Int} {σ : Mm} {r : Int × Mm} (h : fX8_along v1 v2 v3 σ = some r) : MIM l D ac q yX8_along cX8_along 4 (some .int) rmX8_along [.ref (q 0), .int (i32 v1), .int (i32 v2), .int (i32 v3)] σ r := by
  refine MI.of hq XT_M (by decide) (Nat.le_of_ble_eq_true rfl) (fun p e s m below meth c ls C hr hl => ?_)
  have hl : lv_has ls 4 [(0, .ref (q 0)), (1, .int (i32 v1)), (2, .int (i32 v2)), (3, .int (i32 v3))] := hl
  have h : bd2 (fX8_isArc v1 σ) (fun x_1 σ_1 => cr x_1 ((if x_1 = 0 then fX8_along_22 σ_1 else cr v2 ((if v2 < 0 then fX8_along_22 σ_1 else cr v3 (bd (fX8_in v3 0 1 σ_1) (fun x_4 => cr x_4 ((if x_4 = 0 then fX8_along_22 σ_1 else cr v3 ((if v3 = 1 then bd (fX8_ringsOfArc v1 v2 σ_1) (fun x_10 => fX8_along_59 x_10 σ_1) else chk v1 60 (cr v2 (cr (σ_1 12 (v1).toNat) ((if v2 < σ_1 12 (v1).toNat then bd (fX8_arcPoint v1 v2 σ_1) (fun x_9 => fX8_along_59 x_9 σ_1) else fX8_along_59 (-4) σ_1))))))))))))))) = some r := h
  refine v_aload_n C hl dX8_along_0 rfl 0 rfl ?_
  refine v_iload_n C hl dX8_along_1 rfl 1 rfl ?_
  obtain ⟨x_1, σ_1, hv1, h⟩ := bd2_e h
  refine v_callVI C 0 (klM kdM_0) rfl (ckM1 kdM_0 _) rfl [.int (i32 v1)] (mX8_isArc C.2.2.2.2.1 hv1) cd_X8_isArc ic_X8 im_X8_isArc se_X8_isArc ml_X8_286 yk_X8_isArc ⟨rfl, rfl, by decide, by decide⟩ rfl hl.1 (rest := []) rfl (Nat.le_of_ble_eq_true rfl) dX8_along_2 ?_
  have hz2 := (cr_e h).1
  have h := (cr_e h).2
  refine v_if_eq C (tgt := 22) hz2 h dX8_along_5 rfl (fun h => ?_) (fun h => ?_)
  · exact wX8_along_22 C hr (lv_sub hl [0] rfl) h
  · refine v_iload_n C hl dX8_along_8 rfl 2 rfl ?_
    have hz3 := (cr_e h).1
    have h := (cr_e h).2
    refine v_if_lt C (tgt := 22) hz3 h dX8_along_9 rfl (fun h => ?_) (fun h => ?_)
    · exact wX8_along_22 C hr (lv_sub hl [0] rfl) h
    · refine v_iload_n C hl dX8_along_12 rfl 3 rfl ?_
      refine v_i2l C h dX8_along_13 (fun h => ?_)
      refine v_lconst C (v := 0) dX8_along_14 rfl ?_
      refine v_lconst C (v := 1) dX8_along_15 rfl ?_
      obtain ⟨x_4, hv4, h⟩ := bd_e h
      refine v_callSI C [.long (i64 v3), .long (i64 0), .long (i64 1)] (mX8_in C.2.2.2.2.1 hv4) cd_X8_in ic_X8 sm_X8_in ml_X8_67 yk_X8_in ⟨rfl, rfl, by decide, by decide⟩ rfl hl.1 (rest := []) rfl (Nat.le_of_ble_eq_true rfl) dX8_along_16 ?_
      have hz5 := (cr_e h).1
      have h := (cr_e h).2
      refine v_if_ne C (tgt := 24) hz5 h dX8_along_19 rfl (fun h => ?_) (fun h => ?_)
      · refine v_iload_n C hl dX8_along_24 rfl 3 rfl ?_
        refine v_iconst C dX8_along_25 ?_
        have hz6 := (cr_e h).1
        have h := (cr_e h).2
        refine v_icmp_ne C (tgt := 38) hz6 (by decide) h dX8_along_26 rfl (fun h => ?_) (fun h => ?_)
        · refine v_iload_n C hl dX8_along_38 rfl 2 rfl ?_
          refine v_aload_n C hl dX8_along_39 rfl 0 rfl ?_
          refine g_X8_22 C kdM_0 fl_X8_43 dX8_along_40 ?_
          refine v_iload_n C hl dX8_along_43 rfl 1 rfl ?_
          refine alM9 C kdM_12 h dX8_along_44 (fun h => ?_)
          have hz7 := (cr_e h).1
          have h := (cr_e h).2
          have hz8 := (cr_e h).1
          have h := (cr_e h).2
          refine v_icmp_ge C (tgt := 57) hz7 hz8 h dX8_along_45 rfl (fun h => ?_) (fun h => ?_)
          · refine v_bipush C dX8_along_57 rfl ?_
            exact wX8_along_59 C hr (lv_sub hl [0] rfl) h
          · refine v_aload_n C hl dX8_along_48 rfl 0 rfl ?_
            refine v_iload_n C hl dX8_along_49 rfl 1 rfl ?_
            refine v_iload_n C hl dX8_along_50 rfl 2 rfl ?_
            obtain ⟨x_9, hv9, h⟩ := bd_e h
            refine v_callVI C 0 (klM kdM_0) rfl (ckM1 kdM_0 _) rfl [.int (i32 v1), .int (i32 v2)] (mX8_arcPoint C.2.2.2.2.1 hv9) cd_X8_arcPoint ic_X8 im_X8_arcPoint se_X8_arcPoint ml_X8_248 yk_X8_arcPoint ⟨rfl, rfl, by decide, by decide⟩ rfl hl.1 (rest := []) rfl (Nat.le_of_ble_eq_true rfl) dX8_along_51 ?_
            refine v_goto C (tgt := 59) dX8_along_54 rfl ?_
            exact wX8_along_59 C hr (lv_sub hl [0] rfl) h
        · refine v_aload_n C hl dX8_along_29 rfl 0 rfl ?_
          refine v_iload_n C hl dX8_along_30 rfl 1 rfl ?_
          refine v_iload_n C hl dX8_along_31 rfl 2 rfl ?_
          obtain ⟨x_10, hv10, h⟩ := bd_e h
          refine v_callVI C 0 (klM kdM_0) rfl (ckM1 kdM_0 _) rfl [.int (i32 v1), .int (i32 v2)] (mX8_ringsOfArc C.2.2.2.2.1 hv10) cd_X8_ringsOfArc ic_X8 im_X8_ringsOfArc se_X8_ringsOfArc ml_X8_289 yk_X8_ringsOfArc ⟨rfl, rfl, by decide, by decide⟩ rfl hl.1 (rest := []) rfl (Nat.le_of_ble_eq_true rfl) dX8_along_32 ?_
          refine v_goto C (tgt := 59) dX8_along_35 rfl ?_
          exact wX8_along_59 C hr (lv_sub hl [0] rfl) h
      · exact wX8_along_22 C hr (lv_sub hl [0] rfl) h
end
section
variable {l : Launch} {D : va_G} {ac : Nat → ClassId} {q : Nat → Nat} {p : Program} {e : Env} {s : State} {m : MethodId} {args : Array Value} {below : List Frame} {meth : Method} {c : Code} {ls : Array Slot}
theorem dX8_arc_0 : decode cX8_arc 0 = .ok (.aload_n 0, 1) := by decide +kernel
theorem dX8_arc_1 : decode cX8_arc 1 = .ok (.iload_n 1, 1) := by decide +kernel
theorem dX8_arc_2 : decode cX8_arc 2 = .ok (.invokevirtual 286, 3) := by decide +kernel
theorem dX8_arc_5 : decode cX8_arc 5 = .ok (.ifCond .ne 5, 3) := by decide +kernel
theorem dX8_arc_8 : decode cX8_arc 8 = .ok (.iconst (-1), 1) := by decide +kernel
theorem dX8_arc_9 : decode cX8_arc 9 = .ok (.ireturn, 1) := by decide +kernel
theorem dX8_arc_10 : decode cX8_arc 10 = .ok (.iload_n 2, 1) := by decide +kernel
theorem dX8_arc_11 : decode cX8_arc 11 = .ok (.tableswitch 82 0 3 #[29, 36, 43, 75], 29) := by decide +kernel
theorem dX8_arc_40 : decode cX8_arc 40 = .ok (.aload_n 0, 1) := by decide +kernel
theorem dX8_arc_41 : decode cX8_arc 41 = .ok (.getfield 43, 3) := by decide +kernel
theorem dX8_arc_44 : decode cX8_arc 44 = .ok (.iload_n 1, 1) := by decide +kernel
theorem dX8_arc_45 : decode cX8_arc 45 = .ok (.iaload, 1) := by decide +kernel
theorem dX8_arc_46 : decode cX8_arc 46 = .ok (.ireturn, 1) := by decide +kernel
theorem dX8_arc_47 : decode cX8_arc 47 = .ok (.aload_n 0, 1) := by decide +kernel
theorem dX8_arc_48 : decode cX8_arc 48 = .ok (.iload_n 1, 1) := by decide +kernel
theorem dX8_arc_49 : decode cX8_arc 49 = .ok (.iconst 0, 1) := by decide +kernel
theorem dX8_arc_50 : decode cX8_arc 50 = .ok (.invokevirtual 248, 3) := by decide +kernel
theorem dX8_arc_53 : decode cX8_arc 53 = .ok (.ireturn, 1) := by decide +kernel
theorem dX8_arc_54 : decode cX8_arc 54 = .ok (.aload_n 0, 1) := by decide +kernel
theorem dX8_arc_55 : decode cX8_arc 55 = .ok (.getfield 46, 3) := by decide +kernel
theorem dX8_arc_58 : decode cX8_arc 58 = .ok (.iload_n 1, 1) := by decide +kernel
theorem dX8_arc_59 : decode cX8_arc 59 = .ok (.baload, 1) := by decide +kernel
theorem dX8_arc_60 : decode cX8_arc 60 = .ok (.ifCond .eq 12, 3) := by decide +kernel
theorem dX8_arc_63 : decode cX8_arc 63 = .ok (.aload_n 0, 1) := by decide +kernel
theorem dX8_arc_64 : decode cX8_arc 64 = .ok (.iload_n 1, 1) := by decide +kernel
theorem dX8_arc_65 : decode cX8_arc 65 = .ok (.iconst 0, 1) := by decide +kernel
theorem dX8_arc_66 : decode cX8_arc 66 = .ok (.invokevirtual 248, 3) := by decide +kernel
theorem dX8_arc_69 : decode cX8_arc 69 = .ok (.goto 16, 3) := by decide +kernel
theorem dX8_arc_72 : decode cX8_arc 72 = .ok (.aload_n 0, 1) := by decide +kernel
theorem dX8_arc_73 : decode cX8_arc 73 = .ok (.iload_n 1, 1) := by decide +kernel
theorem dX8_arc_74 : decode cX8_arc 74 = .ok (.aload_n 0, 1) := by decide +kernel
theorem dX8_arc_75 : decode cX8_arc 75 = .ok (.getfield 43, 3) := by decide +kernel
theorem dX8_arc_78 : decode cX8_arc 78 = .ok (.iload_n 1, 1) := by decide +kernel
theorem dX8_arc_79 : decode cX8_arc 79 = .ok (.iaload, 1) := by decide +kernel
theorem dX8_arc_80 : decode cX8_arc 80 = .ok (.iconst 1, 1) := by decide +kernel
theorem dX8_arc_81 : decode cX8_arc 81 = .ok (.isub, 1) := by decide +kernel
theorem dX8_arc_82 : decode cX8_arc 82 = .ok (.invokevirtual 248, 3) := by decide +kernel
theorem dX8_arc_85 : decode cX8_arc 85 = .ok (.ireturn, 1) := by decide +kernel
theorem dX8_arc_86 : decode cX8_arc 86 = .ok (.aload_n 0, 1) := by decide +kernel
theorem dX8_arc_87 : decode cX8_arc 87 = .ok (.iload_n 1, 1) := by decide +kernel
theorem dX8_arc_88 : decode cX8_arc 88 = .ok (.iconst (-1), 1) := by decide +kernel
theorem dX8_arc_89 : decode cX8_arc 89 = .ok (.invokevirtual 289, 3) := by decide +kernel
theorem dX8_arc_92 : decode cX8_arc 92 = .ok (.ireturn, 1) := by decide +kernel
theorem dX8_arc_93 : decode cX8_arc 93 = .ok (.iconst (-1), 1) := by decide +kernel
theorem dX8_arc_94 : decode cX8_arc 94 = .ok (.ireturn, 1) := by decide +kernel
theorem wX8_arc_85 (C : CxM p rmX8_arc s m args meth c D ac q RX8 cX8_arc 3) (hr : meth.sig.returnType = (some .int)) {t0 : Int} {σ : Mm} {r : Int × Mm} (hl : lv_has ls 3 [(0, .ref (q 0))]) (h : fX8_arc_85 t0 σ = some r) : VM p l e rmX8_arc s m args below meth c D ac q (QIM D ac q below args s r) σ (F0 m 85 ls [.int (i32 t0)]) := by
  have h : some (t0, σ) = some r := h
  exact v_iret C hr h dX8_arc_85
theorem mX8_arc (hq : QI 19 q) {v1 : Int} {v2 : Int} {σ : Mm} {r : Int × Mm} (h : fX8_arc v1 v2 σ = some r) : MIM l D ac q yX8_arc cX8_arc 3 (some .int) rmX8_arc [.ref (q 0), .int (i32 v1), .int (i32 v2)] σ r := by
  refine MI.of hq XT_M (by decide) (Nat.le_of_ble_eq_true rfl) (fun p e s m below meth c ls C hr hl => ?_)
  have hl : lv_has ls 3 [(0, .ref (q 0)), (1, .int (i32 v1)), (2, .int (i32 v2))] := hl
  have h : bd2 (fX8_isArc v1 σ) (fun x_1 σ_1 => cr x_1 ((if x_1 = 0 then some ((-1), σ_1) else cr v2 ((if v2 = 0 then chk v1 60 (some (σ_1 12 (v1).toNat, σ_1)) else (if v2 = 1 then bd (fX8_arcPoint v1 0 σ_1) (fun x_6 => some (x_6, σ_1)) else (if v2 = 2 then chk v1 60 (cr (σ_1 13 (v1).toNat) ((if σ_1 13 (v1).toNat = 0 then chk v1 60 (bd (fX8_arcPoint v1 ((σ_1 12 (v1).toNat) - 1) σ_1) (fun x_9 => fX8_arc_85 x_9 σ_1)) else bd (fX8_arcPoint v1 0 σ_1) (fun x_10 => fX8_arc_85 x_10 σ_1)))) else (if v2 = 3 then bd (fX8_ringsOfArc v1 (-1) σ_1) (fun x_12 => some (x_12, σ_1)) else some ((-1), σ_1))))))))) = some r := h
  refine v_aload_n C hl dX8_arc_0 rfl 0 rfl ?_
  refine v_iload_n C hl dX8_arc_1 rfl 1 rfl ?_
  obtain ⟨x_1, σ_1, hv1, h⟩ := bd2_e h
  refine v_callVI C 0 (klM kdM_0) rfl (ckM1 kdM_0 _) rfl [.int (i32 v1)] (mX8_isArc C.2.2.2.2.1 hv1) cd_X8_isArc ic_X8 im_X8_isArc se_X8_isArc ml_X8_286 yk_X8_isArc ⟨rfl, rfl, by decide, by decide⟩ rfl hl.1 (rest := []) rfl (Nat.le_of_ble_eq_true rfl) dX8_arc_2 ?_
  have hz2 := (cr_e h).1
  have h := (cr_e h).2
  refine v_if_ne C (tgt := 10) hz2 h dX8_arc_5 rfl (fun h => ?_) (fun h => ?_)
  · refine v_iload_n C hl dX8_arc_10 rfl 2 rfl ?_
    have hz3 := (cr_e h).1
    have h := (cr_e h).2
    rcases sw_e h with ⟨hc4, h⟩ | ⟨hc4, h⟩
    · refine v_tabIn C (tgt := 40) hz3 hc4 dX8_arc_11 (by decide) (by decide) rfl rfl ?_
      refine v_aload_n C hl dX8_arc_40 rfl 0 rfl ?_
      refine g_X8_22 C kdM_0 fl_X8_43 dX8_arc_41 ?_
      refine v_iload_n C hl dX8_arc_44 rfl 1 rfl ?_
      refine alM9 C kdM_12 h dX8_arc_45 (fun h => ?_)
      exact v_iret C hr h dX8_arc_46
    · skip
      rcases sw_e h with ⟨hc5, h⟩ | ⟨hc5, h⟩
      · refine v_tabIn C (tgt := 47) hz3 hc5 dX8_arc_11 (by decide) (by decide) rfl rfl ?_
        refine v_aload_n C hl dX8_arc_47 rfl 0 rfl ?_
        refine v_iload_n C hl dX8_arc_48 rfl 1 rfl ?_
        refine v_iconst C dX8_arc_49 ?_
        obtain ⟨x_6, hv6, h⟩ := bd_e h
        refine v_callVI C 0 (klM kdM_0) rfl (ckM1 kdM_0 _) rfl [.int (i32 v1), .int (i32 0)] (mX8_arcPoint C.2.2.2.2.1 hv6) cd_X8_arcPoint ic_X8 im_X8_arcPoint se_X8_arcPoint ml_X8_248 yk_X8_arcPoint ⟨rfl, rfl, by decide, by decide⟩ rfl hl.1 (rest := []) rfl (Nat.le_of_ble_eq_true rfl) dX8_arc_50 ?_
        exact v_iret C hr h dX8_arc_53
      · skip
        rcases sw_e h with ⟨hc7, h⟩ | ⟨hc7, h⟩
        · refine v_tabIn C (tgt := 54) hz3 hc7 dX8_arc_11 (by decide) (by decide) rfl rfl ?_
          refine v_aload_n C hl dX8_arc_54 rfl 0 rfl ?_
          refine g_X8_23 C kdM_0 fl_X8_46 dX8_arc_55 ?_
          refine v_iload_n C hl dX8_arc_58 rfl 1 rfl ?_
          refine alM10 C kdM_13 h dX8_arc_59 (fun h => ?_)
          have hz8 := (cr_e h).1
          have h := (cr_e h).2
          refine v_if_eq C (tgt := 72) hz8 h dX8_arc_60 rfl (fun h => ?_) (fun h => ?_)
          · refine v_aload_n C hl dX8_arc_72 rfl 0 rfl ?_
            refine v_iload_n C hl dX8_arc_73 rfl 1 rfl ?_
            refine v_aload_n C hl dX8_arc_74 rfl 0 rfl ?_
            refine g_X8_22 C kdM_0 fl_X8_43 dX8_arc_75 ?_
            refine v_iload_n C hl dX8_arc_78 rfl 1 rfl ?_
            refine alM9 C kdM_12 h dX8_arc_79 (fun h => ?_)
            refine v_iconst C dX8_arc_80 ?_
            refine v_isub C dX8_arc_81 ?_
            obtain ⟨x_9, hv9, h⟩ := bd_e h
            refine v_callVI C 0 (klM kdM_0) rfl (ckM1 kdM_0 _) rfl [.int (i32 v1), .int (i32 ((σ_1 12 (v1).toNat) - 1))] (mX8_arcPoint C.2.2.2.2.1 hv9) cd_X8_arcPoint ic_X8 im_X8_arcPoint se_X8_arcPoint ml_X8_248 yk_X8_arcPoint ⟨rfl, rfl, by decide, by decide⟩ rfl hl.1 (rest := []) rfl (Nat.le_of_ble_eq_true rfl) dX8_arc_82 ?_
            exact wX8_arc_85 C hr (lv_sub hl [0] rfl) h
          · refine v_aload_n C hl dX8_arc_63 rfl 0 rfl ?_
            refine v_iload_n C hl dX8_arc_64 rfl 1 rfl ?_
            refine v_iconst C dX8_arc_65 ?_
            obtain ⟨x_10, hv10, h⟩ := bd_e h
            refine v_callVI C 0 (klM kdM_0) rfl (ckM1 kdM_0 _) rfl [.int (i32 v1), .int (i32 0)] (mX8_arcPoint C.2.2.2.2.1 hv10) cd_X8_arcPoint ic_X8 im_X8_arcPoint se_X8_arcPoint ml_X8_248 yk_X8_arcPoint ⟨rfl, rfl, by decide, by decide⟩ rfl hl.1 (rest := []) rfl (Nat.le_of_ble_eq_true rfl) dX8_arc_66 ?_
            refine v_goto C (tgt := 85) dX8_arc_69 rfl ?_
            exact wX8_arc_85 C hr (lv_sub hl [0] rfl) h
        · skip
          rcases sw_e h with ⟨hc11, h⟩ | ⟨hc11, h⟩
          · refine v_tabIn C (tgt := 86) hz3 hc11 dX8_arc_11 (by decide) (by decide) rfl rfl ?_
            refine v_aload_n C hl dX8_arc_86 rfl 0 rfl ?_
            refine v_iload_n C hl dX8_arc_87 rfl 1 rfl ?_
            refine v_iconst C dX8_arc_88 ?_
            obtain ⟨x_12, hv12, h⟩ := bd_e h
            refine v_callVI C 0 (klM kdM_0) rfl (ckM1 kdM_0 _) rfl [.int (i32 v1), .int (i32 (-1))] (mX8_ringsOfArc C.2.2.2.2.1 hv12) cd_X8_ringsOfArc ic_X8 im_X8_ringsOfArc se_X8_ringsOfArc ml_X8_289 yk_X8_ringsOfArc ⟨rfl, rfl, by decide, by decide⟩ rfl hl.1 (rest := []) rfl (Nat.le_of_ble_eq_true rfl) dX8_arc_89 ?_
            exact v_iret C hr h dX8_arc_92
          · skip
            refine v_tabOut C (tgt := 93) hz3 dX8_arc_11 (by omega) rfl ?_
            refine v_iconst C dX8_arc_93 ?_
            exact v_iret C hr h dX8_arc_94
  · refine v_iconst C dX8_arc_8 ?_
    exact v_iret C hr h dX8_arc_9
end
section
variable {l : Launch} {D : va_G} {ac : Nat → ClassId} {q : Nat → Nat} {p : Program} {e : Env} {s : State} {m : MethodId} {args : Array Value} {below : List Frame} {meth : Method} {c : Code} {ls : Array Slot}
theorem dX8_arcOfPoint_0 : decode cX8_arcOfPoint 0 = .ok (.iconst 0, 1) := by decide +kernel
theorem dX8_arcOfPoint_1 : decode cX8_arcOfPoint 1 = .ok (.istore_n 2, 1) := by decide +kernel
theorem dX8_arcOfPoint_2 : decode cX8_arcOfPoint 2 = .ok (.iload_n 2, 1) := by decide +kernel
theorem dX8_arcOfPoint_3 : decode cX8_arcOfPoint 3 = .ok (.aload_n 0, 1) := by decide +kernel
theorem dX8_arcOfPoint_4 : decode cX8_arcOfPoint 4 = .ok (.getfield 245, 3) := by decide +kernel
theorem dX8_arcOfPoint_7 : decode cX8_arcOfPoint 7 = .ok (.if_icmp .ge 47, 3) := by decide +kernel
theorem dX8_arcOfPoint_10 : decode cX8_arcOfPoint 10 = .ok (.aload_n 0, 1) := by decide +kernel
theorem dX8_arcOfPoint_11 : decode cX8_arcOfPoint 11 = .ok (.iload_n 1, 1) := by decide +kernel
theorem dX8_arcOfPoint_12 : decode cX8_arcOfPoint 12 = .ok (.invokevirtual 215, 3) := by decide +kernel
theorem dX8_arcOfPoint_15 : decode cX8_arcOfPoint 15 = .ok (.ifCond .ne 39, 3) := by decide +kernel
theorem dX8_arcOfPoint_18 : decode cX8_arcOfPoint 18 = .ok (.iconst 0, 1) := by decide +kernel
theorem dX8_arcOfPoint_19 : decode cX8_arcOfPoint 19 = .ok (.istore_n 3, 1) := by decide +kernel
theorem dX8_arcOfPoint_20 : decode cX8_arcOfPoint 20 = .ok (.iload_n 3, 1) := by decide +kernel
theorem dX8_arcOfPoint_21 : decode cX8_arcOfPoint 21 = .ok (.aload_n 0, 1) := by decide +kernel
theorem dX8_arcOfPoint_22 : decode cX8_arcOfPoint 22 = .ok (.getfield 43, 3) := by decide +kernel
theorem dX8_arcOfPoint_25 : decode cX8_arcOfPoint 25 = .ok (.iload_n 2, 1) := by decide +kernel
theorem dX8_arcOfPoint_26 : decode cX8_arcOfPoint 26 = .ok (.iaload, 1) := by decide +kernel
theorem dX8_arcOfPoint_27 : decode cX8_arcOfPoint 27 = .ok (.if_icmp .ge 21, 3) := by decide +kernel
theorem dX8_arcOfPoint_30 : decode cX8_arcOfPoint 30 = .ok (.aload_n 0, 1) := by decide +kernel
theorem dX8_arcOfPoint_31 : decode cX8_arcOfPoint 31 = .ok (.iload_n 2, 1) := by decide +kernel
theorem dX8_arcOfPoint_32 : decode cX8_arcOfPoint 32 = .ok (.iload_n 3, 1) := by decide +kernel
theorem dX8_arcOfPoint_33 : decode cX8_arcOfPoint 33 = .ok (.invokevirtual 248, 3) := by decide +kernel
theorem dX8_arcOfPoint_36 : decode cX8_arcOfPoint 36 = .ok (.iload_n 1, 1) := by decide +kernel
theorem dX8_arcOfPoint_37 : decode cX8_arcOfPoint 37 = .ok (.if_icmp .ne 5, 3) := by decide +kernel
theorem dX8_arcOfPoint_40 : decode cX8_arcOfPoint 40 = .ok (.iload_n 2, 1) := by decide +kernel
theorem dX8_arcOfPoint_41 : decode cX8_arcOfPoint 41 = .ok (.ireturn, 1) := by decide +kernel
theorem dX8_arcOfPoint_42 : decode cX8_arcOfPoint 42 = .ok (.iinc 3 1, 3) := by decide +kernel
theorem dX8_arcOfPoint_45 : decode cX8_arcOfPoint 45 = .ok (.goto (-25), 3) := by decide +kernel
theorem dX8_arcOfPoint_48 : decode cX8_arcOfPoint 48 = .ok (.iinc 2 1, 3) := by decide +kernel
theorem dX8_arcOfPoint_51 : decode cX8_arcOfPoint 51 = .ok (.goto (-49), 3) := by decide +kernel
theorem dX8_arcOfPoint_54 : decode cX8_arcOfPoint 54 = .ok (.bipush (-4), 2) := by decide +kernel
theorem dX8_arcOfPoint_56 : decode cX8_arcOfPoint 56 = .ok (.ireturn, 1) := by decide +kernel
theorem wX8_arcOfPoint_54 (C : CxM p rmX8_arcOfPoint s m args meth c D ac q RX8 cX8_arcOfPoint 4) (hr : meth.sig.returnType = (some .int)) {σ : Mm} {r : Int} (hl : lv_has ls 4 [(0, .ref (q 0))]) (h : fX8_arcOfPoint_54 σ = some r) : VM p l e rmX8_arcOfPoint s m args below meth c D ac q (QIM D ac q below args s (r, σ)) σ (F0 m 54 ls []) := by
  have h : some (-4) = some r := h
  refine v_bipush C dX8_arcOfPoint_54 rfl ?_
  exact v_iret C hr (so1 h) dX8_arcOfPoint_56
theorem wX8_arcOfPoint_48 (C : CxM p rmX8_arcOfPoint s m args meth c D ac q RX8 cX8_arcOfPoint 4) (hr : meth.sig.returnType = (some .int)) {v1 : Int} {v2 : Int} {c2 : Int → Option (Int)} {σ : Mm} {r : Int} (hc2 : ∀ (v2x : Int) (ls : Array Slot), lv_has ls 4 [(0, .ref (q 0)), (1, .int (i32 v1)), (2, .int (i32 v2x))] → c2 v2x = some r → VM p l e rmX8_arcOfPoint s m args below meth c D ac q (QIM D ac q below args s (r, σ)) σ (F0 m 2 ls [])) (hl : lv_has ls 4 [(0, .ref (q 0)), (1, .int (i32 v1)), (2, .int (i32 v2))]) (h : fX8_arcOfPoint_48 c2 v1 v2 σ = some r) : VM p l e rmX8_arcOfPoint s m args below meth c D ac q (QIM D ac q below args s (r, σ)) σ (F0 m 48 ls []) := by
  have h : bindv (v2 + 1) (fun v2_1 => c2 v2_1) = some r := h
  refine v_iinc C hl (fun x => [(2, .int (i32 x)), (0, .ref (q 0)), (1, .int (i32 v1))]) dX8_arcOfPoint_48 2 rfl (by decide) (fun _ => rfl) h (fun v2_1 ls hl h => ?_)
  refine v_goto C (tgt := 2) dX8_arcOfPoint_51 rfl ?_
  exact hc2 _ _ (lv_sub hl [1, 2, 0] rfl) h
theorem wX8_arcOfPoint_20 (C : CxM p rmX8_arcOfPoint s m args meth c D ac q RX8 cX8_arcOfPoint 4) (hr : meth.sig.returnType = (some .int)) {v1 : Int} {v2 : Int} {σ : Mm} {v3 : Int} {e20 : Option (Int)} {c20 : Int → Option (Int)} {r : Int} (he20 : ∀ (ls : Array Slot), lv_has ls 4 [(0, .ref (q 0)), (1, .int (i32 v1)), (2, .int (i32 v2))] → e20 = some r → VM p l e rmX8_arcOfPoint s m args below meth c D ac q (QIM D ac q below args s (r, σ)) σ (F0 m 48 ls [])) (hc20 : ∀ (v3x : Int) (ls : Array Slot), lv_has ls 4 [(0, .ref (q 0)), (1, .int (i32 v1)), (2, .int (i32 v2)), (3, .int (i32 v3x))] → c20 v3x = some r → VM p l e rmX8_arcOfPoint s m args below meth c D ac q (QIM D ac q below args s (r, σ)) σ (F0 m 20 ls [])) (hl : lv_has ls 4 [(0, .ref (q 0)), (1, .int (i32 v1)), (2, .int (i32 v2)), (3, .int (i32 v3))]) (h : fX8_arcOfPoint_20 v1 v2 σ e20 c20 v3 = some r) : VM p l e rmX8_arcOfPoint s m args below meth c D ac q (QIM D ac q below args s (r, σ)) σ (F0 m 20 ls []) := by
  have h : chk v2 60 (cr v3 (cr (σ 12 (v2).toNat) ((if v3 < σ 12 (v2).toNat then bd (fX8_arcPoint v2 v3 σ) (fun x_3 => cr x_3 (cr v1 ((if x_3 = v1 then some v2 else bindv (v3 + 1) (fun v3_6 => c20 v3_6))))) else e20)))) = some r := h
  refine v_iload_n C hl dX8_arcOfPoint_20 rfl 3 rfl ?_
  refine v_aload_n C hl dX8_arcOfPoint_21 rfl 0 rfl ?_
  refine g_X8_22 C kdM_0 fl_X8_43 dX8_arcOfPoint_22 ?_
  refine v_iload_n C hl dX8_arcOfPoint_25 rfl 2 rfl ?_
  refine alM9 C kdM_12 h dX8_arcOfPoint_26 (fun h => ?_)
  have hz1 := (cr_e h).1
  have h := (cr_e h).2
  have hz2 := (cr_e h).1
  have h := (cr_e h).2
  refine v_icmp_ge C (tgt := 48) hz1 hz2 h dX8_arcOfPoint_27 rfl (fun h => ?_) (fun h => ?_)
  · exact he20  _ (lv_sub hl [0, 1, 2] rfl) h
  · refine v_aload_n C hl dX8_arcOfPoint_30 rfl 0 rfl ?_
    refine v_iload_n C hl dX8_arcOfPoint_31 rfl 2 rfl ?_
    refine v_iload_n C hl dX8_arcOfPoint_32 rfl 3 rfl ?_
    obtain ⟨x_3, hv3, h⟩ := bd_e h
    refine v_callVI C 0 (klM kdM_0) rfl (ckM1 kdM_0 _) rfl [.int (i32 v2), .int (i32 v3)] (mX8_arcPoint C.2.2.2.2.1 hv3) cd_X8_arcPoint ic_X8 im_X8_arcPoint se_X8_arcPoint ml_X8_248 yk_X8_arcPoint ⟨rfl, rfl, by decide, by decide⟩ rfl hl.1 (rest := []) rfl (Nat.le_of_ble_eq_true rfl) dX8_arcOfPoint_33 ?_
    refine v_iload_n C hl dX8_arcOfPoint_36 rfl 1 rfl ?_
    have hz4 := (cr_e h).1
    have h := (cr_e h).2
    have hz5 := (cr_e h).1
    have h := (cr_e h).2
    refine v_icmp_ne C (tgt := 42) hz4 hz5 h dX8_arcOfPoint_37 rfl (fun h => ?_) (fun h => ?_)
    · refine v_iinc C hl (fun x => [(3, .int (i32 x)), (0, .ref (q 0)), (1, .int (i32 v1)), (2, .int (i32 v2))]) dX8_arcOfPoint_42 3 rfl (by decide) (fun _ => rfl) h (fun v3_6 ls hl h => ?_)
      refine v_goto C (tgt := 20) dX8_arcOfPoint_45 rfl ?_
      exact hc20 _ _ (lv_sub hl [1, 2, 3, 0] rfl) h
    · refine v_iload_n C hl dX8_arcOfPoint_40 rfl 2 rfl ?_
      exact v_iret C hr (so1 h) dX8_arcOfPoint_41
theorem wlX8_arcOfPoint_20 (C : CxM p rmX8_arcOfPoint s m args meth c D ac q RX8 cX8_arcOfPoint 4) (hr : meth.sig.returnType = (some .int)) {v1 : Int} {v2 : Int} {σ : Mm} {e20 : Option (Int)} {r : Int} (he20 : ∀ (ls : Array Slot), lv_has ls 4 [(0, .ref (q 0)), (1, .int (i32 v1)), (2, .int (i32 v2))] → e20 = some r → VM p l e rmX8_arcOfPoint s m args below meth c D ac q (QIM D ac q below args s (r, σ)) σ (F0 m 48 ls [])) : ∀ (fu : Nat) (v3 : Int) (ls : Array Slot) (hl : lv_has ls 4 [(0, .ref (q 0)), (1, .int (i32 v1)), (2, .int (i32 v2)), (3, .int (i32 v3))]) (h : lX8_arcOfPoint_20 v1 v2 σ e20 fu v3 = some r), VM p l e rmX8_arcOfPoint s m args below meth c D ac q (QIM D ac q below args s (r, σ)) σ (F0 m 20 ls []) := by
  intro fu
  induction fu with
  | zero =>
    intro v3 ls hl h
    have h : none = some r := h
    cases h
  | succ fu ih =>
    intro v3 ls hl h
    exact wX8_arcOfPoint_20 C hr he20 (fun v3 ls hl h => ih v3 ls hl h) hl h
theorem wX8_arcOfPoint_2 (C : CxM p rmX8_arcOfPoint s m args meth c D ac q RX8 cX8_arcOfPoint 4) (hr : meth.sig.returnType = (some .int)) {v1 : Int} {σ : Mm} {v2 : Int} {e2 : Option (Int)} {c2 : Int → Option (Int)} {r : Int} (he2 : ∀ (ls : Array Slot), lv_has ls 4 [(0, .ref (q 0))] → e2 = some r → VM p l e rmX8_arcOfPoint s m args below meth c D ac q (QIM D ac q below args s (r, σ)) σ (F0 m 54 ls [])) (hc2 : ∀ (v2x : Int) (ls : Array Slot), lv_has ls 4 [(0, .ref (q 0)), (1, .int (i32 v1)), (2, .int (i32 v2x))] → c2 v2x = some r → VM p l e rmX8_arcOfPoint s m args below meth c D ac q (QIM D ac q below args s (r, σ)) σ (F0 m 2 ls [])) (hl : lv_has ls 4 [(0, .ref (q 0)), (1, .int (i32 v1)), (2, .int (i32 v2))]) (h : fX8_arcOfPoint_2 v1 σ e2 c2 v2 = some r) : VM p l e rmX8_arcOfPoint s m args below meth c D ac q (QIM D ac q below args s (r, σ)) σ (F0 m 2 ls []) := by
  have h : cr v2 (cr (σ 0 24) ((if v2 < σ 0 24 then bd (fX8_isNode v1 σ) (fun x_3 => cr x_3 ((if x_3 = 0 then bindv 0 (fun v3_5 => lX8_arcOfPoint_20 v1 v2 σ (fX8_arcOfPoint_48 c2 v1 v2 σ) 400 v3_5) else e2))) else e2))) = some r := h
  refine v_iload_n C hl dX8_arcOfPoint_2 rfl 2 rfl ?_
  refine v_aload_n C hl dX8_arcOfPoint_3 rfl 0 rfl ?_
  refine g_X8_24 C kdM_0 fl_X8_245 dX8_arcOfPoint_4 ?_
  have hz1 := (cr_e h).1
  have h := (cr_e h).2
  have hz2 := (cr_e h).1
  have h := (cr_e h).2
  refine v_icmp_ge C (tgt := 54) hz1 hz2 h dX8_arcOfPoint_7 rfl (fun h => ?_) (fun h => ?_)
  · exact he2  _ (lv_sub hl [0] rfl) h
  · refine v_aload_n C hl dX8_arcOfPoint_10 rfl 0 rfl ?_
    refine v_iload_n C hl dX8_arcOfPoint_11 rfl 1 rfl ?_
    obtain ⟨x_3, hv3, h⟩ := bd_e h
    refine v_callVI C 0 (klM kdM_0) rfl (ckM1 kdM_0 _) rfl [.int (i32 v1)] (mX8_isNode C.2.2.2.2.1 hv3) cd_X8_isNode ic_X8 im_X8_isNode se_X8_isNode ml_X8_215 yk_X8_isNode ⟨rfl, rfl, by decide, by decide⟩ rfl hl.1 (rest := []) rfl (Nat.le_of_ble_eq_true rfl) dX8_arcOfPoint_12 ?_
    have hz4 := (cr_e h).1
    have h := (cr_e h).2
    refine v_if_ne C (tgt := 54) hz4 h dX8_arcOfPoint_15 rfl (fun h => ?_) (fun h => ?_)
    · exact he2  _ (lv_sub hl [0] rfl) h
    · refine v_iconst C dX8_arcOfPoint_18 ?_
      refine v_istore_n C hl (fun x => [(3, .int (i32 x)), (0, .ref (q 0)), (1, .int (i32 v1)), (2, .int (i32 v2))]) dX8_arcOfPoint_19 rfl (by decide) (fun _ => rfl) h (fun v3_5 ls hl h => ?_)
      exact wlX8_arcOfPoint_20 C hr (fun ls hl h => wX8_arcOfPoint_48 C hr hc2 (lv_sub hl [0, 1, 2] rfl) h) _ _ _ (lv_sub hl [1, 2, 3, 0] rfl) h
theorem wlX8_arcOfPoint_2 (C : CxM p rmX8_arcOfPoint s m args meth c D ac q RX8 cX8_arcOfPoint 4) (hr : meth.sig.returnType = (some .int)) {v1 : Int} {σ : Mm} {e2 : Option (Int)} {r : Int} (he2 : ∀ (ls : Array Slot), lv_has ls 4 [(0, .ref (q 0))] → e2 = some r → VM p l e rmX8_arcOfPoint s m args below meth c D ac q (QIM D ac q below args s (r, σ)) σ (F0 m 54 ls [])) : ∀ (fu : Nat) (v2 : Int) (ls : Array Slot) (hl : lv_has ls 4 [(0, .ref (q 0)), (1, .int (i32 v1)), (2, .int (i32 v2))]) (h : lX8_arcOfPoint_2 v1 σ e2 fu v2 = some r), VM p l e rmX8_arcOfPoint s m args below meth c D ac q (QIM D ac q below args s (r, σ)) σ (F0 m 2 ls []) := by
  intro fu
  induction fu with
  | zero =>
    intro v2 ls hl h
    have h : none = some r := h
    cases h
  | succ fu ih =>
    intro v2 ls hl h
    exact wX8_arcOfPoint_2 C hr he2 (fun v2 ls hl h => ih v2 ls hl h) hl h
theorem mX8_arcOfPoint (hq : QI 19 q) {v1 : Int} {σ : Mm} {r : Int} (h : fX8_arcOfPoint v1 σ = some r) : MIM l D ac q yX8_arcOfPoint cX8_arcOfPoint 4 (some .int) rmX8_arcOfPoint [.ref (q 0), .int (i32 v1)] σ (r, σ) := by
  refine MI.of hq XT_M (by decide) (Nat.le_of_ble_eq_true rfl) (fun p e s m below meth c ls C hr hl => ?_)
  have hl : lv_has ls 4 [(0, .ref (q 0)), (1, .int (i32 v1))] := hl
  have h : bindv 0 (fun v2_1 => lX8_arcOfPoint_2 v1 σ (fX8_arcOfPoint_54 σ) 400 v2_1) = some r := h
  refine v_iconst C dX8_arcOfPoint_0 ?_
  refine v_istore_n C hl (fun x => [(2, .int (i32 x)), (0, .ref (q 0)), (1, .int (i32 v1))]) dX8_arcOfPoint_1 rfl (by decide) (fun _ => rfl) h (fun v2_1 ls hl h => ?_)
  exact wlX8_arcOfPoint_2 C hr (fun ls hl h => wX8_arcOfPoint_54 C hr (lv_sub hl [0] rfl) h) _ _ _ (lv_sub hl [1, 2, 0] rfl) h
end
section
variable {l : Launch} {D : va_G} {ac : Nat → ClassId} {q : Nat → Nat} {p : Program} {e : Env} {s : State} {m : MethodId} {args : Array Value} {below : List Frame} {meth : Method} {c : Code} {ls : Array Slot}
theorem dX8_areaOf_0 : decode cX8_areaOf 0 = .ok (.iconst 0, 1) := by decide +kernel
theorem dX8_areaOf_1 : decode cX8_areaOf 1 = .ok (.istore_n 3, 1) := by decide +kernel
theorem dX8_areaOf_2 : decode cX8_areaOf 2 = .ok (.iconst 0, 1) := by decide +kernel
theorem dX8_areaOf_3 : decode cX8_areaOf 3 = .ok (.istore 4, 2) := by decide +kernel
theorem dX8_areaOf_5 : decode cX8_areaOf 5 = .ok (.iload 4, 2) := by decide +kernel
theorem dX8_areaOf_7 : decode cX8_areaOf 7 = .ok (.aload_n 0, 1) := by decide +kernel
theorem dX8_areaOf_8 : decode cX8_areaOf 8 = .ok (.getfield 7, 3) := by decide +kernel
theorem dX8_areaOf_11 : decode cX8_areaOf 11 = .ok (.iload_n 1, 1) := by decide +kernel
theorem dX8_areaOf_12 : decode cX8_areaOf 12 = .ok (.sipush 132, 3) := by decide +kernel
theorem dX8_areaOf_15 : decode cX8_areaOf 15 = .ok (.iadd, 1) := by decide +kernel
theorem dX8_areaOf_16 : decode cX8_areaOf 16 = .ok (.iload_n 2, 1) := by decide +kernel
theorem dX8_areaOf_17 : decode cX8_areaOf 17 = .ok (.iadd, 1) := by decide +kernel
theorem dX8_areaOf_18 : decode cX8_areaOf 18 = .ok (.iaload, 1) := by decide +kernel
theorem dX8_areaOf_19 : decode cX8_areaOf 19 = .ok (.if_icmp .ge 79, 3) := by decide +kernel
theorem dX8_areaOf_22 : decode cX8_areaOf 22 = .ok (.aload_n 0, 1) := by decide +kernel
theorem dX8_areaOf_23 : decode cX8_areaOf 23 = .ok (.iload_n 1, 1) := by decide +kernel
theorem dX8_areaOf_24 : decode cX8_areaOf 24 = .ok (.iload_n 2, 1) := by decide +kernel
theorem dX8_areaOf_25 : decode cX8_areaOf 25 = .ok (.iload 4, 2) := by decide +kernel
theorem dX8_areaOf_27 : decode cX8_areaOf 27 = .ok (.invokevirtual 168, 3) := by decide +kernel
theorem dX8_areaOf_30 : decode cX8_areaOf 30 = .ok (.istore 5, 2) := by decide +kernel
theorem dX8_areaOf_32 : decode cX8_areaOf 32 = .ok (.aload_n 0, 1) := by decide +kernel
theorem dX8_areaOf_33 : decode cX8_areaOf 33 = .ok (.iload_n 1, 1) := by decide +kernel
theorem dX8_areaOf_34 : decode cX8_areaOf 34 = .ok (.iload_n 2, 1) := by decide +kernel
theorem dX8_areaOf_35 : decode cX8_areaOf 35 = .ok (.iload 4, 2) := by decide +kernel
theorem dX8_areaOf_37 : decode cX8_areaOf 37 = .ok (.iconst 1, 1) := by decide +kernel
theorem dX8_areaOf_38 : decode cX8_areaOf 38 = .ok (.iadd, 1) := by decide +kernel
theorem dX8_areaOf_39 : decode cX8_areaOf 39 = .ok (.invokevirtual 168, 3) := by decide +kernel
theorem dX8_areaOf_42 : decode cX8_areaOf 42 = .ok (.istore 6, 2) := by decide +kernel
theorem dX8_areaOf_44 : decode cX8_areaOf 44 = .ok (.iload_n 3, 1) := by decide +kernel
theorem dX8_areaOf_45 : decode cX8_areaOf 45 = .ok (.aload_n 0, 1) := by decide +kernel
theorem dX8_areaOf_46 : decode cX8_areaOf 46 = .ok (.getfield 7, 3) := by decide +kernel
theorem dX8_areaOf_49 : decode cX8_areaOf 49 = .ok (.iload_n 1, 1) := by decide +kernel
theorem dX8_areaOf_50 : decode cX8_areaOf 50 = .ok (.iload 5, 2) := by decide +kernel
theorem dX8_areaOf_52 : decode cX8_areaOf 52 = .ok (.iadd, 1) := by decide +kernel
theorem dX8_areaOf_53 : decode cX8_areaOf 53 = .ok (.iaload, 1) := by decide +kernel
theorem dX8_areaOf_54 : decode cX8_areaOf 54 = .ok (.aload_n 0, 1) := by decide +kernel
theorem dX8_areaOf_55 : decode cX8_areaOf 55 = .ok (.getfield 7, 3) := by decide +kernel
theorem dX8_areaOf_58 : decode cX8_areaOf 58 = .ok (.iload_n 1, 1) := by decide +kernel
theorem dX8_areaOf_59 : decode cX8_areaOf 59 = .ok (.bipush 24, 2) := by decide +kernel
theorem dX8_areaOf_61 : decode cX8_areaOf 61 = .ok (.iadd, 1) := by decide +kernel
theorem dX8_areaOf_62 : decode cX8_areaOf 62 = .ok (.iload 6, 2) := by decide +kernel
theorem dX8_areaOf_64 : decode cX8_areaOf 64 = .ok (.iadd, 1) := by decide +kernel
theorem dX8_areaOf_65 : decode cX8_areaOf 65 = .ok (.iaload, 1) := by decide +kernel
theorem dX8_areaOf_66 : decode cX8_areaOf 66 = .ok (.imul, 1) := by decide +kernel
theorem dX8_areaOf_67 : decode cX8_areaOf 67 = .ok (.aload_n 0, 1) := by decide +kernel
theorem dX8_areaOf_68 : decode cX8_areaOf 68 = .ok (.getfield 7, 3) := by decide +kernel
theorem dX8_areaOf_71 : decode cX8_areaOf 71 = .ok (.iload_n 1, 1) := by decide +kernel
theorem dX8_areaOf_72 : decode cX8_areaOf 72 = .ok (.iload 6, 2) := by decide +kernel
theorem dX8_areaOf_74 : decode cX8_areaOf 74 = .ok (.iadd, 1) := by decide +kernel
theorem dX8_areaOf_75 : decode cX8_areaOf 75 = .ok (.iaload, 1) := by decide +kernel
theorem dX8_areaOf_76 : decode cX8_areaOf 76 = .ok (.aload_n 0, 1) := by decide +kernel
theorem dX8_areaOf_77 : decode cX8_areaOf 77 = .ok (.getfield 7, 3) := by decide +kernel
theorem dX8_areaOf_80 : decode cX8_areaOf 80 = .ok (.iload_n 1, 1) := by decide +kernel
theorem dX8_areaOf_81 : decode cX8_areaOf 81 = .ok (.bipush 24, 2) := by decide +kernel
theorem dX8_areaOf_83 : decode cX8_areaOf 83 = .ok (.iadd, 1) := by decide +kernel
theorem dX8_areaOf_84 : decode cX8_areaOf 84 = .ok (.iload 5, 2) := by decide +kernel
theorem dX8_areaOf_86 : decode cX8_areaOf 86 = .ok (.iadd, 1) := by decide +kernel
theorem dX8_areaOf_87 : decode cX8_areaOf 87 = .ok (.iaload, 1) := by decide +kernel
theorem dX8_areaOf_88 : decode cX8_areaOf 88 = .ok (.imul, 1) := by decide +kernel
theorem dX8_areaOf_89 : decode cX8_areaOf 89 = .ok (.isub, 1) := by decide +kernel
theorem dX8_areaOf_90 : decode cX8_areaOf 90 = .ok (.iadd, 1) := by decide +kernel
theorem dX8_areaOf_91 : decode cX8_areaOf 91 = .ok (.istore_n 3, 1) := by decide +kernel
theorem dX8_areaOf_92 : decode cX8_areaOf 92 = .ok (.iinc 4 1, 3) := by decide +kernel
theorem dX8_areaOf_95 : decode cX8_areaOf 95 = .ok (.goto (-90), 3) := by decide +kernel
theorem dX8_areaOf_98 : decode cX8_areaOf 98 = .ok (.iload_n 3, 1) := by decide +kernel
theorem dX8_areaOf_99 : decode cX8_areaOf 99 = .ok (.ireturn, 1) := by decide +kernel
theorem wX8_areaOf_98 (C : CxM p rmX8_areaOf s m args meth c D ac q RX8 cX8_areaOf 7) (hr : meth.sig.returnType = (some .int)) {v3 : Int} {σ : Mm} {r : Int} (hl : lv_has ls 7 [(0, .ref (q 0)), (3, .int (i32 v3))]) (h : fX8_areaOf_98 v3 σ = some r) : VM p l e rmX8_areaOf s m args below meth c D ac q (QIM D ac q below args s (r, σ)) σ (F0 m 98 ls []) := by
  have h : some v3 = some r := h
  refine v_iload_n C hl dX8_areaOf_98 rfl 1 rfl ?_
  exact v_iret C hr (so1 h) dX8_areaOf_99
theorem wX8_areaOf_5 (C : CxM p rmX8_areaOf s m args meth c D ac q RX8 cX8_areaOf 7) (hr : meth.sig.returnType = (some .int)) {v1 : Int} {v2 : Int} {σ : Mm} {v3 : Int} {v4 : Int} {e5 : Int → Option (Int)} {c5 : Int → Int → Option (Int)} {r : Int} (he5 : ∀ (v3x : Int) (ls : Array Slot), lv_has ls 7 [(0, .ref (q 0)), (3, .int (i32 v3x))] → e5 v3x = some r → VM p l e rmX8_areaOf s m args below meth c D ac q (QIM D ac q below args s (r, σ)) σ (F0 m 98 ls [])) (hc5 : ∀ (v3x : Int) (v4x : Int) (ls : Array Slot), lv_has ls 7 [(0, .ref (q 0)), (1, .int (i32 v1)), (2, .int (i32 v2)), (3, .int (i32 v3x)), (4, .int (i32 v4x))] → c5 v3x v4x = some r → VM p l e rmX8_areaOf s m args below meth c D ac q (QIM D ac q below args s (r, σ)) σ (F0 m 5 ls [])) (hl : lv_has ls 7 [(0, .ref (q 0)), (1, .int (i32 v1)), (2, .int (i32 v2)), (3, .int (i32 v3)), (4, .int (i32 v4))]) (h : fX8_areaOf_5 v1 v2 σ e5 c5 v3 v4 = some r) : VM p l e rmX8_areaOf s m args below meth c D ac q (QIM D ac q below args s (r, σ)) σ (F0 m 5 ls []) := by
  have h : chk ((v1 + 132) + v2) 700 (cr v4 (cr (σ 1 ((v1 + 132) + v2).toNat) ((if v4 < σ 1 ((v1 + 132) + v2).toNat then bd (fX8_cornerOf v1 v2 v4 σ) (fun x_3 => bindv x_3 (fun v5_4 => bd (fX8_cornerOf v1 v2 (v4 + 1) σ) (fun x_5 => bindv x_5 (fun v6_6 => chk (v1 + v5_4) 700 (chk ((v1 + 24) + v6_6) 700 (chk (v1 + v6_6) 700 (chk ((v1 + 24) + v5_4) 700 (bindv (v3 + (((σ 1 (v1 + v5_4).toNat) * (σ 1 ((v1 + 24) + v6_6).toNat)) - ((σ 1 (v1 + v6_6).toNat) * (σ 1 ((v1 + 24) + v5_4).toNat)))) (fun v3_7 => bindv (v4 + 1) (fun v4_8 => c5 v3_7 v4_8)))))))))) else e5 v3)))) = some r := h
  refine v_iload C hl dX8_areaOf_5 4 rfl ?_
  refine v_aload_n C hl dX8_areaOf_7 rfl 0 rfl ?_
  refine g_X8_0 C kdM_0 fl_X8_7 dX8_areaOf_8 ?_
  refine v_iload_n C hl dX8_areaOf_11 rfl 1 rfl ?_
  refine v_sipush C dX8_areaOf_12 rfl ?_
  refine v_iadd C dX8_areaOf_15 ?_
  refine v_iload_n C hl dX8_areaOf_16 rfl 2 rfl ?_
  refine v_iadd C dX8_areaOf_17 ?_
  refine alM2 C kdM_1 h dX8_areaOf_18 (fun h => ?_)
  have hz1 := (cr_e h).1
  have h := (cr_e h).2
  have hz2 := (cr_e h).1
  have h := (cr_e h).2
  refine v_icmp_ge C (tgt := 98) hz1 hz2 h dX8_areaOf_19 rfl (fun h => ?_) (fun h => ?_)
  · exact he5 _ _ (lv_sub hl [0, 3] rfl) h
  · refine v_aload_n C hl dX8_areaOf_22 rfl 0 rfl ?_
    refine v_iload_n C hl dX8_areaOf_23 rfl 1 rfl ?_
    refine v_iload_n C hl dX8_areaOf_24 rfl 2 rfl ?_
    refine v_iload C hl dX8_areaOf_25 4 rfl ?_
    obtain ⟨x_3, hv3, h⟩ := bd_e h
    refine v_callVI C 0 (klM kdM_0) rfl (ckM1 kdM_0 _) rfl [.int (i32 v1), .int (i32 v2), .int (i32 v4)] (mX8_cornerOf C.2.2.2.2.1 hv3) cd_X8_cornerOf ic_X8 im_X8_cornerOf se_X8_cornerOf ml_X8_168 yk_X8_cornerOf ⟨rfl, rfl, by decide, by decide⟩ rfl hl.1 (rest := []) rfl (Nat.le_of_ble_eq_true rfl) dX8_areaOf_27 ?_
    refine v_istore C hl (fun x => [(5, .int (i32 x)), (0, .ref (q 0)), (1, .int (i32 v1)), (2, .int (i32 v2)), (3, .int (i32 v3)), (4, .int (i32 v4))]) dX8_areaOf_30 (by decide) (fun _ => rfl) h (fun v5_4 ls hl h => ?_)
    refine v_aload_n C hl dX8_areaOf_32 rfl 1 rfl ?_
    refine v_iload_n C hl dX8_areaOf_33 rfl 2 rfl ?_
    refine v_iload_n C hl dX8_areaOf_34 rfl 3 rfl ?_
    refine v_iload C hl dX8_areaOf_35 5 rfl ?_
    refine v_iconst C dX8_areaOf_37 ?_
    refine v_iadd C dX8_areaOf_38 ?_
    obtain ⟨x_5, hv5, h⟩ := bd_e h
    refine v_callVI C 0 (klM kdM_0) rfl (ckM1 kdM_0 _) rfl [.int (i32 v1), .int (i32 v2), .int (i32 (v4 + 1))] (mX8_cornerOf C.2.2.2.2.1 hv5) cd_X8_cornerOf ic_X8 im_X8_cornerOf se_X8_cornerOf ml_X8_168 yk_X8_cornerOf ⟨rfl, rfl, by decide, by decide⟩ rfl hl.1 (rest := []) rfl (Nat.le_of_ble_eq_true rfl) dX8_areaOf_39 ?_
    refine v_istore C hl (fun x => [(6, .int (i32 x)), (5, .int (i32 v5_4)), (0, .ref (q 0)), (1, .int (i32 v1)), (2, .int (i32 v2)), (3, .int (i32 v3)), (4, .int (i32 v4))]) dX8_areaOf_42 (by decide) (fun _ => rfl) h (fun v6_6 ls hl h => ?_)
    refine v_iload_n C hl dX8_areaOf_44 rfl 5 rfl ?_
    refine v_aload_n C hl dX8_areaOf_45 rfl 2 rfl ?_
    refine g_X8_0 C kdM_0 fl_X8_7 dX8_areaOf_46 ?_
    refine v_iload_n C hl dX8_areaOf_49 rfl 3 rfl ?_
    refine v_iload C hl dX8_areaOf_50 1 rfl ?_
    refine v_iadd C dX8_areaOf_52 ?_
    refine alM2 C kdM_1 h dX8_areaOf_53 (fun h => ?_)
    refine v_aload_n C hl dX8_areaOf_54 rfl 2 rfl ?_
    refine g_X8_0 C kdM_0 fl_X8_7 dX8_areaOf_55 ?_
    refine v_iload_n C hl dX8_areaOf_58 rfl 3 rfl ?_
    refine v_bipush C dX8_areaOf_59 rfl ?_
    refine v_iadd C dX8_areaOf_61 ?_
    refine v_iload C hl dX8_areaOf_62 0 rfl ?_
    refine v_iadd C dX8_areaOf_64 ?_
    refine alM2 C kdM_1 h dX8_areaOf_65 (fun h => ?_)
    refine v_imul C dX8_areaOf_66 ?_
    refine v_aload_n C hl dX8_areaOf_67 rfl 2 rfl ?_
    refine g_X8_0 C kdM_0 fl_X8_7 dX8_areaOf_68 ?_
    refine v_iload_n C hl dX8_areaOf_71 rfl 3 rfl ?_
    refine v_iload C hl dX8_areaOf_72 0 rfl ?_
    refine v_iadd C dX8_areaOf_74 ?_
    refine alM2 C kdM_1 h dX8_areaOf_75 (fun h => ?_)
    refine v_aload_n C hl dX8_areaOf_76 rfl 2 rfl ?_
    refine g_X8_0 C kdM_0 fl_X8_7 dX8_areaOf_77 ?_
    refine v_iload_n C hl dX8_areaOf_80 rfl 3 rfl ?_
    refine v_bipush C dX8_areaOf_81 rfl ?_
    refine v_iadd C dX8_areaOf_83 ?_
    refine v_iload C hl dX8_areaOf_84 1 rfl ?_
    refine v_iadd C dX8_areaOf_86 ?_
    refine alM2 C kdM_1 h dX8_areaOf_87 (fun h => ?_)
    refine v_imul C dX8_areaOf_88 ?_
    refine v_isub C dX8_areaOf_89 ?_
    refine v_iadd C dX8_areaOf_90 ?_
    refine v_istore_n C hl (fun x => [(3, .int (i32 x)), (6, .int (i32 v6_6)), (5, .int (i32 v5_4)), (0, .ref (q 0)), (1, .int (i32 v1)), (2, .int (i32 v2)), (4, .int (i32 v4))]) dX8_areaOf_91 rfl (by decide) (fun _ => rfl) h (fun v3_7 ls hl h => ?_)
    refine v_iinc C hl (fun x => [(4, .int (i32 x)), (3, .int (i32 v3_7)), (6, .int (i32 v6_6)), (5, .int (i32 v5_4)), (0, .ref (q 0)), (1, .int (i32 v1)), (2, .int (i32 v2))]) dX8_areaOf_92 6 rfl (by decide) (fun _ => rfl) h (fun v4_8 ls hl h => ?_)
    refine v_goto C (tgt := 5) dX8_areaOf_95 rfl ?_
    exact hc5 _ _ _ (lv_sub hl [4, 5, 6, 1, 0] rfl) h
theorem wlX8_areaOf_5 (C : CxM p rmX8_areaOf s m args meth c D ac q RX8 cX8_areaOf 7) (hr : meth.sig.returnType = (some .int)) {v1 : Int} {v2 : Int} {σ : Mm} {e5 : Int → Option (Int)} {r : Int} (he5 : ∀ (v3x : Int) (ls : Array Slot), lv_has ls 7 [(0, .ref (q 0)), (3, .int (i32 v3x))] → e5 v3x = some r → VM p l e rmX8_areaOf s m args below meth c D ac q (QIM D ac q below args s (r, σ)) σ (F0 m 98 ls [])) : ∀ (fu : Nat) (v3 : Int) (v4 : Int) (ls : Array Slot) (hl : lv_has ls 7 [(0, .ref (q 0)), (1, .int (i32 v1)), (2, .int (i32 v2)), (3, .int (i32 v3)), (4, .int (i32 v4))]) (h : lX8_areaOf_5 v1 v2 σ e5 fu v3 v4 = some r), VM p l e rmX8_areaOf s m args below meth c D ac q (QIM D ac q below args s (r, σ)) σ (F0 m 5 ls []) := by
  intro fu
  induction fu with
  | zero =>
    intro v3 v4 ls hl h
    have h : none = some r := h
    cases h
  | succ fu ih =>
    intro v3 v4 ls hl h
    exact wX8_areaOf_5 C hr he5 (fun v3 v4 ls hl h => ih v3 v4 ls hl h) hl h
theorem mX8_areaOf (hq : QI 19 q) {v1 : Int} {v2 : Int} {σ : Mm} {r : Int} (h : fX8_areaOf v1 v2 σ = some r) : MIM l D ac q yX8_areaOf cX8_areaOf 7 (some .int) rmX8_areaOf [.ref (q 0), .int (i32 v1), .int (i32 v2)] σ (r, σ) := by
  refine MI.of hq XT_M (by decide) (Nat.le_of_ble_eq_true rfl) (fun p e s m below meth c ls C hr hl => ?_)
  have hl : lv_has ls 7 [(0, .ref (q 0)), (1, .int (i32 v1)), (2, .int (i32 v2))] := hl
  have h : bindv 0 (fun v3_1 => bindv 0 (fun v4_2 => lX8_areaOf_5 v1 v2 σ (fun v3_3 => fX8_areaOf_98 v3_3 σ) 400 v3_1 v4_2)) = some r := h
  refine v_iconst C dX8_areaOf_0 ?_
  refine v_istore_n C hl (fun x => [(3, .int (i32 x)), (0, .ref (q 0)), (1, .int (i32 v1)), (2, .int (i32 v2))]) dX8_areaOf_1 rfl (by decide) (fun _ => rfl) h (fun v3_1 ls hl h => ?_)
  refine v_iconst C dX8_areaOf_2 ?_
  refine v_istore C hl (fun x => [(4, .int (i32 x)), (3, .int (i32 v3_1)), (0, .ref (q 0)), (1, .int (i32 v1)), (2, .int (i32 v2))]) dX8_areaOf_3 (by decide) (fun _ => rfl) h (fun v4_2 ls hl h => ?_)
  exact wlX8_areaOf_5 C hr (fun v3_3 ls hl h => wX8_areaOf_98 C hr (lv_sub hl [0, 1] rfl) h) _ _ _ _ (lv_sub hl [2, 3, 4, 1, 0] rfl) h
end
section
variable {l : Launch} {D : va_G} {ac : Nat → ClassId} {q : Nat → Nat} {p : Program} {e : Env} {s : State} {m : MethodId} {args : Array Value} {below : List Frame} {meth : Method} {c : Code} {ls : Array Slot}
theorem dX8_copies_0 : decode cX8_copies 0 = .ok (.iconst 0, 1) := by decide +kernel
theorem dX8_copies_1 : decode cX8_copies 1 = .ok (.istore_n 3, 1) := by decide +kernel
theorem dX8_copies_2 : decode cX8_copies 2 = .ok (.iload_n 3, 1) := by decide +kernel
theorem dX8_copies_3 : decode cX8_copies 3 = .ok (.sipush 140, 3) := by decide +kernel
theorem dX8_copies_6 : decode cX8_copies 6 = .ok (.if_icmp .ge 25, 3) := by decide +kernel
theorem dX8_copies_9 : decode cX8_copies 9 = .ok (.aload_n 0, 1) := by decide +kernel
theorem dX8_copies_10 : decode cX8_copies 10 = .ok (.getfield 7, 3) := by decide +kernel
theorem dX8_copies_13 : decode cX8_copies 13 = .ok (.iload_n 2, 1) := by decide +kernel
theorem dX8_copies_14 : decode cX8_copies 14 = .ok (.iload_n 3, 1) := by decide +kernel
theorem dX8_copies_15 : decode cX8_copies 15 = .ok (.iadd, 1) := by decide +kernel
theorem dX8_copies_16 : decode cX8_copies 16 = .ok (.aload_n 0, 1) := by decide +kernel
theorem dX8_copies_17 : decode cX8_copies 17 = .ok (.getfield 7, 3) := by decide +kernel
theorem dX8_copies_20 : decode cX8_copies 20 = .ok (.iload_n 1, 1) := by decide +kernel
theorem dX8_copies_21 : decode cX8_copies 21 = .ok (.iload_n 3, 1) := by decide +kernel
theorem dX8_copies_22 : decode cX8_copies 22 = .ok (.iadd, 1) := by decide +kernel
theorem dX8_copies_23 : decode cX8_copies 23 = .ok (.iaload, 1) := by decide +kernel
theorem dX8_copies_24 : decode cX8_copies 24 = .ok (.iastore, 1) := by decide +kernel
theorem dX8_copies_25 : decode cX8_copies 25 = .ok (.iinc 3 1, 3) := by decide +kernel
theorem dX8_copies_28 : decode cX8_copies 28 = .ok (.goto (-26), 3) := by decide +kernel
theorem dX8_copies_31 : decode cX8_copies 31 = .ok (.return_, 1) := by decide +kernel
theorem wX8_copies_31 (C : CxM p rmX8_copies s m args meth c D ac q RX8 cX8_copies 4) (hr : meth.sig.returnType = none) {σ : Mm} {r : Mm} (hl : lv_has ls 4 [(0, .ref (q 0))]) (h : fX8_copies_31 σ = some r) : VM p l e rmX8_copies s m args below meth c D ac q (QVM D ac q below args s r) σ (F0 m 31 ls []) := by
  have h : some σ = some r := h
  exact v_vret C hr h dX8_copies_31
theorem wX8_copies_2 (C : CxM p rmX8_copies s m args meth c D ac q RX8 cX8_copies 4) (hr : meth.sig.returnType = none) {v1 : Int} {v2 : Int} {v3 : Int} {σ : Mm} {e2 : Mm → Option (Mm)} {c2 : Int → Mm → Option (Mm)} {r : Mm} (he2 : ∀ (σ : Mm) (ls : Array Slot), lv_has ls 4 [(0, .ref (q 0))] → e2 σ = some r → VM p l e rmX8_copies s m args below meth c D ac q (QVM D ac q below args s r) σ (F0 m 31 ls [])) (hc2 : ∀ (v3x : Int) (σ : Mm) (ls : Array Slot), lv_has ls 4 [(0, .ref (q 0)), (1, .int (i32 v1)), (2, .int (i32 v2)), (3, .int (i32 v3x))] → c2 v3x σ = some r → VM p l e rmX8_copies s m args below meth c D ac q (QVM D ac q below args s r) σ (F0 m 2 ls [])) (hl : lv_has ls 4 [(0, .ref (q 0)), (1, .int (i32 v1)), (2, .int (i32 v2)), (3, .int (i32 v3))]) (h : fX8_copies_2 v1 v2 e2 c2 v3 σ = some r) : VM p l e rmX8_copies s m args below meth c D ac q (QVM D ac q below args s r) σ (F0 m 2 ls []) := by
  have h : cr v3 ((if v3 < 140 then chk (v1 + v3) 700 (chk (v2 + v3) 700 (bindv (sto σ 1 (v2 + v3).toNat (σ 1 (v1 + v3).toNat)) (fun σ_2 => bindv (v3 + 1) (fun v3_3 => c2 v3_3 σ_2)))) else e2 σ)) = some r := h
  refine v_iload_n C hl dX8_copies_2 rfl 3 rfl ?_
  refine v_sipush C dX8_copies_3 rfl ?_
  have hz1 := (cr_e h).1
  have h := (cr_e h).2
  refine v_icmp_ge C (tgt := 31) hz1 (by decide) h dX8_copies_6 rfl (fun h => ?_) (fun h => ?_)
  · exact he2 _ _ (lv_sub hl [0] rfl) h
  · refine v_aload_n C hl dX8_copies_9 rfl 0 rfl ?_
    refine g_X8_0 C kdM_0 fl_X8_7 dX8_copies_10 ?_
    refine v_iload_n C hl dX8_copies_13 rfl 2 rfl ?_
    refine v_iload_n C hl dX8_copies_14 rfl 3 rfl ?_
    refine v_iadd C dX8_copies_15 ?_
    refine v_aload_n C hl dX8_copies_16 rfl 0 rfl ?_
    refine g_X8_0 C kdM_0 fl_X8_7 dX8_copies_17 ?_
    refine v_iload_n C hl dX8_copies_20 rfl 1 rfl ?_
    refine v_iload_n C hl dX8_copies_21 rfl 3 rfl ?_
    refine v_iadd C dX8_copies_22 ?_
    refine alM2 C kdM_1 h dX8_copies_23 (fun h => ?_)
    refine asM2 C kdM_1 h dX8_copies_24 (fun σ_2 h => ?_)
    refine v_iinc C hl (fun x => [(3, .int (i32 x)), (0, .ref (q 0)), (1, .int (i32 v1)), (2, .int (i32 v2))]) dX8_copies_25 3 rfl (by decide) (fun _ => rfl) h (fun v3_3 ls hl h => ?_)
    refine v_goto C (tgt := 2) dX8_copies_28 rfl ?_
    exact hc2 _ _ _ (lv_sub hl [1, 2, 3, 0] rfl) h
theorem wlX8_copies_2 (C : CxM p rmX8_copies s m args meth c D ac q RX8 cX8_copies 4) (hr : meth.sig.returnType = none) {v1 : Int} {v2 : Int} {e2 : Mm → Option (Mm)} {r : Mm} (he2 : ∀ (σ : Mm) (ls : Array Slot), lv_has ls 4 [(0, .ref (q 0))] → e2 σ = some r → VM p l e rmX8_copies s m args below meth c D ac q (QVM D ac q below args s r) σ (F0 m 31 ls [])) : ∀ (fu : Nat) (v3 : Int) (σ : Mm) (ls : Array Slot) (hl : lv_has ls 4 [(0, .ref (q 0)), (1, .int (i32 v1)), (2, .int (i32 v2)), (3, .int (i32 v3))]) (h : lX8_copies_2 v1 v2 e2 fu v3 σ = some r), VM p l e rmX8_copies s m args below meth c D ac q (QVM D ac q below args s r) σ (F0 m 2 ls []) := by
  intro fu
  induction fu with
  | zero =>
    intro v3 σ ls hl h
    have h : none = some r := h
    cases h
  | succ fu ih =>
    intro v3 σ ls hl h
    exact wX8_copies_2 C hr he2 (fun v3 σ ls hl h => ih v3 σ ls hl h) hl h
theorem mX8_copies (hq : QI 19 q) {v1 : Int} {v2 : Int} {σ : Mm} {r : Mm} (h : fX8_copies v1 v2 σ = some r) : MVM l D ac q yX8_copies cX8_copies 4 none rmX8_copies [.ref (q 0), .int (i32 v1), .int (i32 v2)] σ r := by
  refine MV.of hq XT_M (by decide) (Nat.le_of_ble_eq_true rfl) (fun p e s m below meth c ls C hr hl => ?_)
  have hl : lv_has ls 4 [(0, .ref (q 0)), (1, .int (i32 v1)), (2, .int (i32 v2))] := hl
  have h : bindv 0 (fun v3_1 => lX8_copies_2 v1 v2 (fun σ_2 => fX8_copies_31 σ_2) 400 v3_1 σ) = some r := h
  refine v_iconst C dX8_copies_0 ?_
  refine v_istore_n C hl (fun x => [(3, .int (i32 x)), (0, .ref (q 0)), (1, .int (i32 v1)), (2, .int (i32 v2))]) dX8_copies_1 rfl (by decide) (fun _ => rfl) h (fun v3_1 ls hl h => ?_)
  exact wlX8_copies_2 C hr (fun σ_2 ls hl h => wX8_copies_31 C hr (lv_sub hl [0] rfl) h) _ _ _ _ (lv_sub hl [1, 2, 3, 0] rfl) h
end
section
variable {l : Launch} {D : va_G} {ac : Nat → ClassId} {q : Nat → Nat} {p : Program} {e : Env} {s : State} {m : MethodId} {args : Array Value} {below : List Frame} {meth : Method} {c : Code} {ls : Array Slot}
theorem dX8_back_0 : decode cX8_back 0 = .ok (.iload_n 1, 1) := by decide +kernel
theorem dX8_back_1 : decode cX8_back 1 = .ok (.i2l, 1) := by decide +kernel
theorem dX8_back_2 : decode cX8_back 2 = .ok (.lconst 0, 1) := by decide +kernel
theorem dX8_back_3 : decode cX8_back 3 = .ok (.lconst 1, 1) := by decide +kernel
theorem dX8_back_4 : decode cX8_back 4 = .ok (.invokestatic 67, 3) := by decide +kernel
theorem dX8_back_7 : decode cX8_back 7 = .ok (.ifCond .ne 5, 3) := by decide +kernel
theorem dX8_back_10 : decode cX8_back 10 = .ok (.iconst (-1), 1) := by decide +kernel
theorem dX8_back_11 : decode cX8_back 11 = .ok (.ireturn, 1) := by decide +kernel
theorem dX8_back_12 : decode cX8_back 12 = .ok (.aload_n 0, 1) := by decide +kernel
theorem dX8_back_13 : decode cX8_back 13 = .ok (.getfield 53, 3) := by decide +kernel
theorem dX8_back_16 : decode cX8_back 16 = .ok (.iload_n 1, 1) := by decide +kernel
theorem dX8_back_17 : decode cX8_back 17 = .ok (.baload, 1) := by decide +kernel
theorem dX8_back_18 : decode cX8_back 18 = .ok (.ifCond .ne 6, 3) := by decide +kernel
theorem dX8_back_21 : decode cX8_back 21 = .ok (.bipush (-2), 2) := by decide +kernel
theorem dX8_back_23 : decode cX8_back 23 = .ok (.ireturn, 1) := by decide +kernel
theorem dX8_back_24 : decode cX8_back 24 = .ok (.aload_n 0, 1) := by decide +kernel
theorem dX8_back_25 : decode cX8_back 25 = .ok (.sipush 140, 3) := by decide +kernel
theorem dX8_back_28 : decode cX8_back 28 = .ok (.iload_n 1, 1) := by decide +kernel
theorem dX8_back_29 : decode cX8_back 29 = .ok (.imul, 1) := by decide +kernel
theorem dX8_back_30 : decode cX8_back 30 = .ok (.sipush 140, 3) := by decide +kernel
theorem dX8_back_33 : decode cX8_back 33 = .ok (.iadd, 1) := by decide +kernel
theorem dX8_back_34 : decode cX8_back 34 = .ok (.iconst 0, 1) := by decide +kernel
theorem dX8_back_35 : decode cX8_back 35 = .ok (.invokevirtual 145, 3) := by decide +kernel
theorem dX8_back_38 : decode cX8_back 38 = .ok (.aload_n 0, 1) := by decide +kernel
theorem dX8_back_39 : decode cX8_back 39 = .ok (.iconst 0, 1) := by decide +kernel
theorem dX8_back_40 : decode cX8_back 40 = .ok (.putfield 149, 3) := by decide +kernel
theorem dX8_back_43 : decode cX8_back 43 = .ok (.aload_n 0, 1) := by decide +kernel
theorem dX8_back_44 : decode cX8_back 44 = .ok (.invokevirtual 206, 3) := by decide +kernel
theorem dX8_back_47 : decode cX8_back 47 = .ok (.ireturn, 1) := by decide +kernel
theorem mX8_back (hq : QI 19 q) {v1 : Int} {σ : Mm} {r : Int × Mm} (h : fX8_back v1 σ = some r) : MIM l D ac q yX8_back cX8_back 2 (some .int) rmX8_back [.ref (q 0), .int (i32 v1)] σ r := by
  refine MI.of hq XT_M (by decide) (Nat.le_of_ble_eq_true rfl) (fun p e s m below meth c ls C hr hl => ?_)
  have hl : lv_has ls 2 [(0, .ref (q 0)), (1, .int (i32 v1))] := hl
  have h : cr v1 (bd (fX8_in v1 0 1 σ) (fun x_1 => cr x_1 ((if x_1 = 0 then some ((-1), σ) else chk v1 2 (cr (σ 15 (v1).toNat) ((if σ 15 (v1).toNat = 0 then some ((-2), σ) else bd (fX8_copies ((140 * v1) + 140) 0 σ) (fun σ_4 => bindv (sto σ_4 0 17 0) (fun σ_5 => bd (fX8_points σ_5) (fun x_6 => some (x_6, σ_5))))))))))) = some r := h
  refine v_iload_n C hl dX8_back_0 rfl 1 rfl ?_
  refine v_i2l C h dX8_back_1 (fun h => ?_)
  refine v_lconst C (v := 0) dX8_back_2 rfl ?_
  refine v_lconst C (v := 1) dX8_back_3 rfl ?_
  obtain ⟨x_1, hv1, h⟩ := bd_e h
  refine v_callSI C [.long (i64 v1), .long (i64 0), .long (i64 1)] (mX8_in C.2.2.2.2.1 hv1) cd_X8_in ic_X8 sm_X8_in ml_X8_67 yk_X8_in ⟨rfl, rfl, by decide, by decide⟩ rfl hl.1 (rest := []) rfl (Nat.le_of_ble_eq_true rfl) dX8_back_4 ?_
  have hz2 := (cr_e h).1
  have h := (cr_e h).2
  refine v_if_ne C (tgt := 12) hz2 h dX8_back_7 rfl (fun h => ?_) (fun h => ?_)
  · refine v_aload_n C hl dX8_back_12 rfl 0 rfl ?_
    refine g_X8_26 C kdM_0 fl_X8_53 dX8_back_13 ?_
    refine v_iload_n C hl dX8_back_16 rfl 1 rfl ?_
    refine alM11 C kdM_15 h dX8_back_17 (fun h => ?_)
    have hz3 := (cr_e h).1
    have h := (cr_e h).2
    refine v_if_ne C (tgt := 24) hz3 h dX8_back_18 rfl (fun h => ?_) (fun h => ?_)
    · refine v_aload_n C hl dX8_back_24 rfl 0 rfl ?_
      refine v_sipush C dX8_back_25 rfl ?_
      refine v_iload_n C hl dX8_back_28 rfl 1 rfl ?_
      refine v_imul C dX8_back_29 ?_
      refine v_sipush C dX8_back_30 rfl ?_
      refine v_iadd C dX8_back_33 ?_
      refine v_iconst C dX8_back_34 ?_
      obtain ⟨σ_4, hv4, h⟩ := bd_e h
      refine v_callVV C 0 (klM kdM_0) rfl (ckM1 kdM_0 _) rfl [.int (i32 ((140 * v1) + 140)), .int (i32 0)] (mX8_copies C.2.2.2.2.1 hv4) cd_X8_copies ic_X8 im_X8_copies se_X8_copies ml_X8_145 yk_X8_copies ⟨rfl, rfl, by decide, by decide⟩ rfl hl.1 (rest := []) rfl (Nat.le_of_ble_eq_true rfl) dX8_back_35 ?_
      refine v_aload_n C hl dX8_back_38 rfl 0 rfl ?_
      refine v_iconst C dX8_back_39 ?_
      refine s_X8_17 C kdM_0 fl_X8_149 (Or.inl rfl) h dX8_back_40 (fun σ_5 h => ?_)
      refine v_aload_n C hl dX8_back_43 rfl 0 rfl ?_
      obtain ⟨x_6, hv6, h⟩ := bd_e h
      refine v_callVI C 0 (klM kdM_0) rfl (ckM1 kdM_0 _) rfl [] (mX8_points C.2.2.2.2.1 hv6) cd_X8_points ic_X8 im_X8_points se_X8_points ml_X8_206 yk_X8_points ⟨rfl, rfl, by decide, by decide⟩ rfl hl.1 (rest := []) rfl (Nat.le_of_ble_eq_true rfl) dX8_back_44 ?_
      exact v_iret C hr h dX8_back_47
    · refine v_bipush C dX8_back_21 rfl ?_
      exact v_iret C hr h dX8_back_23
  · refine v_iconst C dX8_back_10 ?_
    exact v_iret C hr h dX8_back_11
end
section
variable {l : Launch} {D : va_G} {ac : Nat → ClassId} {q : Nat → Nat} {p : Program} {e : Env} {s : State} {m : MethodId} {args : Array Value} {below : List Frame} {meth : Method} {c : Code} {ls : Array Slot}
theorem dX8_byteAt_0 : decode cX8_byteAt 0 = .ok (.iload_n 1, 1) := by decide +kernel
theorem dX8_byteAt_1 : decode cX8_byteAt 1 = .ok (.aload_n 0, 1) := by decide +kernel
theorem dX8_byteAt_2 : decode cX8_byteAt 2 = .ok (.getfield 71, 3) := by decide +kernel
theorem dX8_byteAt_5 : decode cX8_byteAt 5 = .ok (.if_icmp .ge 12, 3) := by decide +kernel
theorem dX8_byteAt_8 : decode cX8_byteAt 8 = .ok (.aload_n 0, 1) := by decide +kernel
theorem dX8_byteAt_9 : decode cX8_byteAt 9 = .ok (.getfield 13, 3) := by decide +kernel
theorem dX8_byteAt_12 : decode cX8_byteAt 12 = .ok (.iload_n 1, 1) := by decide +kernel
theorem dX8_byteAt_13 : decode cX8_byteAt 13 = .ok (.iaload, 1) := by decide +kernel
theorem dX8_byteAt_14 : decode cX8_byteAt 14 = .ok (.goto 5, 3) := by decide +kernel
theorem dX8_byteAt_17 : decode cX8_byteAt 17 = .ok (.bipush (-4), 2) := by decide +kernel
theorem dX8_byteAt_19 : decode cX8_byteAt 19 = .ok (.ireturn, 1) := by decide +kernel
theorem wX8_byteAt_19 (C : CxM p rmX8_byteAt s m args meth c D ac q RX8 cX8_byteAt 2) (hr : meth.sig.returnType = (some .int)) {t0 : Int} {σ : Mm} {r : Int} (hl : lv_has ls 2 [(0, .ref (q 0))]) (h : fX8_byteAt_19 t0 σ = some r) : VM p l e rmX8_byteAt s m args below meth c D ac q (QIM D ac q below args s (r, σ)) σ (F0 m 19 ls [.int (i32 t0)]) := by
  have h : some t0 = some r := h
  exact v_iret C hr (so1 h) dX8_byteAt_19
theorem mX8_byteAt (hq : QI 19 q) {v1 : Int} {σ : Mm} {r : Int} (h : fX8_byteAt v1 σ = some r) : MIM l D ac q yX8_byteAt cX8_byteAt 2 (some .int) rmX8_byteAt [.ref (q 0), .int (i32 v1)] σ (r, σ) := by
  refine MI.of hq XT_M (by decide) (Nat.le_of_ble_eq_true rfl) (fun p e s m below meth c ls C hr hl => ?_)
  have hl : lv_has ls 2 [(0, .ref (q 0)), (1, .int (i32 v1))] := hl
  have h : cr v1 (cr (σ 0 2) ((if v1 < σ 0 2 then chk v1 320 (fX8_byteAt_19 (σ 2 (v1).toNat) σ) else fX8_byteAt_19 (-4) σ))) = some r := h
  refine v_iload_n C hl dX8_byteAt_0 rfl 1 rfl ?_
  refine v_aload_n C hl dX8_byteAt_1 rfl 0 rfl ?_
  refine g_X8_2 C kdM_0 fl_X8_71 dX8_byteAt_2 ?_
  have hz1 := (cr_e h).1
  have h := (cr_e h).2
  have hz2 := (cr_e h).1
  have h := (cr_e h).2
  refine v_icmp_ge C (tgt := 17) hz1 hz2 h dX8_byteAt_5 rfl (fun h => ?_) (fun h => ?_)
  · refine v_bipush C dX8_byteAt_17 rfl ?_
    exact wX8_byteAt_19 C hr (lv_sub hl [0] rfl) h
  · refine v_aload_n C hl dX8_byteAt_8 rfl 0 rfl ?_
    refine g_X8_1 C kdM_0 fl_X8_13 dX8_byteAt_9 ?_
    refine v_iload_n C hl dX8_byteAt_12 rfl 1 rfl ?_
    refine alM3 C kdM_2 h dX8_byteAt_13 (fun h => ?_)
    refine v_goto C (tgt := 19) dX8_byteAt_14 rfl ?_
    exact wX8_byteAt_19 C hr (lv_sub hl [0] rfl) h
end
section
variable {l : Launch} {D : va_G} {ac : Nat → ClassId} {q : Nat → Nat} {p : Program} {e : Env} {s : State} {m : MethodId} {args : Array Value} {below : List Frame} {meth : Method} {c : Code} {ls : Array Slot}
theorem dX8_isRing_0 : decode cX8_isRing 0 = .ok (.iload_n 1, 1) := by decide +kernel
theorem dX8_isRing_1 : decode cX8_isRing 1 = .ok (.i2l, 1) := by decide +kernel
theorem dX8_isRing_2 : decode cX8_isRing 2 = .ok (.lconst 0, 1) := by decide +kernel
theorem dX8_isRing_3 : decode cX8_isRing 3 = .ok (.aload_n 0, 1) := by decide +kernel
theorem dX8_isRing_4 : decode cX8_isRing 4 = .ok (.invokevirtual 194, 3) := by decide +kernel
theorem dX8_isRing_7 : decode cX8_isRing 7 = .ok (.iconst 1, 1) := by decide +kernel
theorem dX8_isRing_8 : decode cX8_isRing 8 = .ok (.isub, 1) := by decide +kernel
theorem dX8_isRing_9 : decode cX8_isRing 9 = .ok (.i2l, 1) := by decide +kernel
theorem dX8_isRing_10 : decode cX8_isRing 10 = .ok (.invokestatic 67, 3) := by decide +kernel
theorem dX8_isRing_13 : decode cX8_isRing 13 = .ok (.ireturn, 1) := by decide +kernel
theorem mX8_isRing (hq : QI 19 q) {v1 : Int} {σ : Mm} {r : Int} (h : fX8_isRing v1 σ = some r) : MIM l D ac q yX8_isRing cX8_isRing 2 (some .boolean) rmX8_isRing [.ref (q 0), .int (i32 v1)] σ (r, σ) := by
  refine MI.of hq XT_M (by decide) (Nat.le_of_ble_eq_true rfl) (fun p e s m below meth c ls C hr hl => ?_)
  have hl : lv_has ls 2 [(0, .ref (q 0)), (1, .int (i32 v1))] := hl
  have h : cr v1 (bd (fX8_rings σ) (fun x_1 => cr (x_1 - 1) (bd (fX8_in v1 0 (x_1 - 1) σ) (fun x_2 => chb x_2 (some x_2))))) = some r := h
  refine v_iload_n C hl dX8_isRing_0 rfl 1 rfl ?_
  refine v_i2l C h dX8_isRing_1 (fun h => ?_)
  refine v_lconst C (v := 0) dX8_isRing_2 rfl ?_
  refine v_aload_n C hl dX8_isRing_3 rfl 0 rfl ?_
  obtain ⟨x_1, hv1, h⟩ := bd_e h
  refine v_callVI C 0 (klM kdM_0) rfl (ckM1 kdM_0 _) rfl [] (mX8_rings C.2.2.2.2.1 hv1) cd_X8_rings ic_X8 im_X8_rings se_X8_rings ml_X8_194 yk_X8_rings ⟨rfl, rfl, by decide, by decide⟩ rfl hl.1 (rest := [.long (i64 0), .long (i64 v1)]) rfl (Nat.le_of_ble_eq_true rfl) dX8_isRing_4 ?_
  refine v_iconst C dX8_isRing_7 ?_
  refine v_isub C dX8_isRing_8 ?_
  refine v_i2l C h dX8_isRing_9 (fun h => ?_)
  obtain ⟨x_2, hv2, h⟩ := bd_e h
  refine v_callSI C [.long (i64 v1), .long (i64 0), .long (i64 (x_1 - 1))] (mX8_in C.2.2.2.2.1 hv2) cd_X8_in ic_X8 sm_X8_in ml_X8_67 yk_X8_in ⟨rfl, rfl, by decide, by decide⟩ rfl hl.1 (rest := []) rfl (Nat.le_of_ble_eq_true rfl) dX8_isRing_10 ?_
  have hz3 := (chb_e h).1
  have h := (chb_e h).2
  exact v_zret C hr hz3 (so1 h) dX8_isRing_13
end
section
variable {l : Launch} {D : va_G} {ac : Nat → ClassId} {q : Nat → Nat} {p : Program} {e : Env} {s : State} {m : MethodId} {args : Array Value} {below : List Frame} {meth : Method} {c : Code} {ls : Array Slot}
theorem dX8_isStage_0 : decode cX8_isStage 0 = .ok (.aload_n 0, 1) := by decide +kernel
theorem dX8_isStage_1 : decode cX8_isStage 1 = .ok (.invokevirtual 257, 3) := by decide +kernel
theorem dX8_isStage_4 : decode cX8_isStage 4 = .ok (.iload_n 1, 1) := by decide +kernel
theorem dX8_isStage_5 : decode cX8_isStage 5 = .ok (.i2l, 1) := by decide +kernel
theorem dX8_isStage_6 : decode cX8_isStage 6 = .ok (.lconst 0, 1) := by decide +kernel
theorem dX8_isStage_7 : decode cX8_isStage 7 = .ok (.aload_n 0, 1) := by decide +kernel
theorem dX8_isStage_8 : decode cX8_isStage 8 = .ok (.getfield 227, 3) := by decide +kernel
theorem dX8_isStage_11 : decode cX8_isStage 11 = .ok (.i2l, 1) := by decide +kernel
theorem dX8_isStage_12 : decode cX8_isStage 12 = .ok (.invokestatic 67, 3) := by decide +kernel
theorem dX8_isStage_15 : decode cX8_isStage 15 = .ok (.ireturn, 1) := by decide +kernel
theorem mX8_isStage (hq : QI 19 q) {v1 : Int} {σ : Mm} {r : Int × Mm} (h : fX8_isStage v1 σ = some r) : MIM l D ac q yX8_isStage cX8_isStage 2 (some .boolean) rmX8_isStage [.ref (q 0), .int (i32 v1)] σ r := by
  refine MI.of hq XT_M (by decide) (Nat.le_of_ble_eq_true rfl) (fun p e s m below meth c ls C hr hl => ?_)
  have hl : lv_has ls 2 [(0, .ref (q 0)), (1, .int (i32 v1))] := hl
  have h : bd (fX8_makes σ) (fun σ_1 => cr v1 (cr (σ_1 0 16) (bd (fX8_in v1 0 (σ_1 0 16) σ_1) (fun x_2 => chb x_2 (some (x_2, σ_1)))))) = some r := h
  refine v_aload_n C hl dX8_isStage_0 rfl 0 rfl ?_
  obtain ⟨σ_1, hv1, h⟩ := bd_e h
  refine v_callVV C 0 (klM kdM_0) rfl (ckM1 kdM_0 _) rfl [] (mX8_makes C.2.2.2.2.1 hv1) cd_X8_makes ic_X8 im_X8_makes se_X8_makes ml_X8_257 yk_X8_makes ⟨rfl, rfl, by decide, by decide⟩ rfl hl.1 (rest := []) rfl (Nat.le_of_ble_eq_true rfl) dX8_isStage_1 ?_
  refine v_iload_n C hl dX8_isStage_4 rfl 1 rfl ?_
  refine v_i2l C h dX8_isStage_5 (fun h => ?_)
  refine v_lconst C (v := 0) dX8_isStage_6 rfl ?_
  refine v_aload_n C hl dX8_isStage_7 rfl 0 rfl ?_
  refine g_X8_16 C kdM_0 fl_X8_227 dX8_isStage_8 ?_
  refine v_i2l C h dX8_isStage_11 (fun h => ?_)
  obtain ⟨x_2, hv2, h⟩ := bd_e h
  refine v_callSI C [.long (i64 v1), .long (i64 0), .long (i64 (σ_1 0 16))] (mX8_in C.2.2.2.2.1 hv2) cd_X8_in ic_X8 sm_X8_in ml_X8_67 yk_X8_in ⟨rfl, rfl, by decide, by decide⟩ rfl hl.1 (rest := []) rfl (Nat.le_of_ble_eq_true rfl) dX8_isStage_12 ?_
  have hz3 := (chb_e h).1
  have h := (chb_e h).2
  exact v_zret C hr hz3 h dX8_isStage_15
end
section
variable {l : Launch} {D : va_G} {ac : Nat → ClassId} {q : Nat → Nat} {p : Program} {e : Env} {s : State} {m : MethodId} {args : Array Value} {below : List Frame} {meth : Method} {c : Code} {ls : Array Slot}
theorem dX8_corner_0 : decode cX8_corner 0 = .ok (.aload_n 0, 1) := by decide +kernel
theorem dX8_corner_1 : decode cX8_corner 1 = .ok (.iload_n 1, 1) := by decide +kernel
theorem dX8_corner_2 : decode cX8_corner 2 = .ok (.invokevirtual 275, 3) := by decide +kernel
theorem dX8_corner_5 : decode cX8_corner 5 = .ok (.ifCond .eq 11, 3) := by decide +kernel
theorem dX8_corner_8 : decode cX8_corner 8 = .ok (.aload_n 0, 1) := by decide +kernel
theorem dX8_corner_9 : decode cX8_corner 9 = .ok (.iload_n 2, 1) := by decide +kernel
theorem dX8_corner_10 : decode cX8_corner 10 = .ok (.invokevirtual 278, 3) := by decide +kernel
theorem dX8_corner_13 : decode cX8_corner 13 = .ok (.ifCond .ne 5, 3) := by decide +kernel
theorem dX8_corner_16 : decode cX8_corner 16 = .ok (.iconst (-1), 1) := by decide +kernel
theorem dX8_corner_17 : decode cX8_corner 17 = .ok (.ireturn, 1) := by decide +kernel
theorem dX8_corner_18 : decode cX8_corner 18 = .ok (.aload_n 0, 1) := by decide +kernel
theorem dX8_corner_19 : decode cX8_corner 19 = .ok (.iload_n 1, 1) := by decide +kernel
theorem dX8_corner_20 : decode cX8_corner 20 = .ok (.iload_n 2, 1) := by decide +kernel
theorem dX8_corner_21 : decode cX8_corner 21 = .ok (.invokevirtual 197, 3) := by decide +kernel
theorem dX8_corner_24 : decode cX8_corner 24 = .ok (.istore 4, 2) := by decide +kernel
theorem dX8_corner_26 : decode cX8_corner 26 = .ok (.iload_n 3, 1) := by decide +kernel
theorem dX8_corner_27 : decode cX8_corner 27 = .ok (.i2l, 1) := by decide +kernel
theorem dX8_corner_28 : decode cX8_corner 28 = .ok (.lconst 0, 1) := by decide +kernel
theorem dX8_corner_29 : decode cX8_corner 29 = .ok (.iload 4, 2) := by decide +kernel
theorem dX8_corner_31 : decode cX8_corner 31 = .ok (.iconst 1, 1) := by decide +kernel
theorem dX8_corner_32 : decode cX8_corner 32 = .ok (.isub, 1) := by decide +kernel
theorem dX8_corner_33 : decode cX8_corner 33 = .ok (.i2l, 1) := by decide +kernel
theorem dX8_corner_34 : decode cX8_corner 34 = .ok (.invokestatic 67, 3) := by decide +kernel
theorem dX8_corner_37 : decode cX8_corner 37 = .ok (.ifCond .eq 12, 3) := by decide +kernel
theorem dX8_corner_40 : decode cX8_corner 40 = .ok (.aload_n 0, 1) := by decide +kernel
theorem dX8_corner_41 : decode cX8_corner 41 = .ok (.getfield 34, 3) := by decide +kernel
theorem dX8_corner_44 : decode cX8_corner 44 = .ok (.iload_n 3, 1) := by decide +kernel
theorem dX8_corner_45 : decode cX8_corner 45 = .ok (.iaload, 1) := by decide +kernel
theorem dX8_corner_46 : decode cX8_corner 46 = .ok (.goto 4, 3) := by decide +kernel
theorem dX8_corner_49 : decode cX8_corner 49 = .ok (.iconst (-1), 1) := by decide +kernel
theorem dX8_corner_50 : decode cX8_corner 50 = .ok (.ireturn, 1) := by decide +kernel
theorem wX8_corner_50 (C : CxM p rmX8_corner s m args meth c D ac q RX8 cX8_corner 5) (hr : meth.sig.returnType = (some .int)) {t0 : Int} {σ : Mm} {r : Int × Mm} (hl : lv_has ls 5 [(0, .ref (q 0))]) (h : fX8_corner_50 t0 σ = some r) : VM p l e rmX8_corner s m args below meth c D ac q (QIM D ac q below args s r) σ (F0 m 50 ls [.int (i32 t0)]) := by
  have h : some (t0, σ) = some r := h
  exact v_iret C hr h dX8_corner_50
theorem wX8_corner_16 (C : CxM p rmX8_corner s m args meth c D ac q RX8 cX8_corner 5) (hr : meth.sig.returnType = (some .int)) {σ : Mm} {r : Int × Mm} (hl : lv_has ls 5 [(0, .ref (q 0))]) (h : fX8_corner_16 σ = some r) : VM p l e rmX8_corner s m args below meth c D ac q (QIM D ac q below args s r) σ (F0 m 16 ls []) := by
  have h : some ((-1), σ) = some r := h
  refine v_iconst C dX8_corner_16 ?_
  exact v_iret C hr h dX8_corner_17
theorem mX8_corner (hq : QI 19 q) {v1 : Int} {v2 : Int} {v3 : Int} {σ : Mm} {r : Int × Mm} (h : fX8_corner v1 v2 v3 σ = some r) : MIM l D ac q yX8_corner cX8_corner 5 (some .int) rmX8_corner [.ref (q 0), .int (i32 v1), .int (i32 v2), .int (i32 v3)] σ r := by
  refine MI.of hq XT_M (by decide) (Nat.le_of_ble_eq_true rfl) (fun p e s m below meth c ls C hr hl => ?_)
  have hl : lv_has ls 5 [(0, .ref (q 0)), (1, .int (i32 v1)), (2, .int (i32 v2)), (3, .int (i32 v3))] := hl
  have h : bd (fX8_isRing v1 σ) (fun x_1 => cr x_1 ((if x_1 = 0 then fX8_corner_16 σ else bd2 (fX8_isStage v2 σ) (fun x_3 σ_3 => cr x_3 ((if x_3 = 0 then fX8_corner_16 σ_3 else bd2 (fX8_ringAt v1 v2 σ_3) (fun x_5 σ_5 => bindv x_5 (fun v4_6 => cr v3 (cr (v4_6 - 1) (bd (fX8_in v3 0 (v4_6 - 1) σ_5) (fun x_7 => cr x_7 ((if x_7 = 0 then fX8_corner_50 (-1) σ_5 else chk v3 10 (fX8_corner_50 (σ_5 9 (v3).toNat) σ_5)))))))))))))) = some r := h
  refine v_aload_n C hl dX8_corner_0 rfl 0 rfl ?_
  refine v_iload_n C hl dX8_corner_1 rfl 1 rfl ?_
  obtain ⟨x_1, hv1, h⟩ := bd_e h
  refine v_callVI C 0 (klM kdM_0) rfl (ckM1 kdM_0 _) rfl [.int (i32 v1)] (mX8_isRing C.2.2.2.2.1 hv1) cd_X8_isRing ic_X8 im_X8_isRing se_X8_isRing ml_X8_275 yk_X8_isRing ⟨rfl, rfl, by decide, by decide⟩ rfl hl.1 (rest := []) rfl (Nat.le_of_ble_eq_true rfl) dX8_corner_2 ?_
  have hz2 := (cr_e h).1
  have h := (cr_e h).2
  refine v_if_eq C (tgt := 16) hz2 h dX8_corner_5 rfl (fun h => ?_) (fun h => ?_)
  · exact wX8_corner_16 C hr (lv_sub hl [0] rfl) h
  · refine v_aload_n C hl dX8_corner_8 rfl 0 rfl ?_
    refine v_iload_n C hl dX8_corner_9 rfl 2 rfl ?_
    obtain ⟨x_3, σ_3, hv3, h⟩ := bd2_e h
    refine v_callVI C 0 (klM kdM_0) rfl (ckM1 kdM_0 _) rfl [.int (i32 v2)] (mX8_isStage C.2.2.2.2.1 hv3) cd_X8_isStage ic_X8 im_X8_isStage se_X8_isStage ml_X8_278 yk_X8_isStage ⟨rfl, rfl, by decide, by decide⟩ rfl hl.1 (rest := []) rfl (Nat.le_of_ble_eq_true rfl) dX8_corner_10 ?_
    have hz4 := (cr_e h).1
    have h := (cr_e h).2
    refine v_if_ne C (tgt := 18) hz4 h dX8_corner_13 rfl (fun h => ?_) (fun h => ?_)
    · refine v_aload_n C hl dX8_corner_18 rfl 0 rfl ?_
      refine v_iload_n C hl dX8_corner_19 rfl 1 rfl ?_
      refine v_iload_n C hl dX8_corner_20 rfl 2 rfl ?_
      obtain ⟨x_5, σ_5, hv5, h⟩ := bd2_e h
      refine v_callVI C 0 (klM kdM_0) rfl (ckM1 kdM_0 _) rfl [.int (i32 v1), .int (i32 v2)] (mX8_ringAt C.2.2.2.2.1 hv5) cd_X8_ringAt ic_X8 im_X8_ringAt se_X8_ringAt ml_X8_197 yk_X8_ringAt ⟨rfl, rfl, by decide, by decide⟩ rfl hl.1 (rest := []) rfl (Nat.le_of_ble_eq_true rfl) dX8_corner_21 ?_
      refine v_istore C hl (fun x => [(4, .int (i32 x)), (0, .ref (q 0)), (1, .int (i32 v1)), (2, .int (i32 v2)), (3, .int (i32 v3))]) dX8_corner_24 (by decide) (fun _ => rfl) h (fun v4_6 ls hl h => ?_)
      refine v_iload_n C hl dX8_corner_26 rfl 4 rfl ?_
      refine v_i2l C h dX8_corner_27 (fun h => ?_)
      refine v_lconst C (v := 0) dX8_corner_28 rfl ?_
      refine v_iload C hl dX8_corner_29 0 rfl ?_
      refine v_iconst C dX8_corner_31 ?_
      refine v_isub C dX8_corner_32 ?_
      refine v_i2l C h dX8_corner_33 (fun h => ?_)
      obtain ⟨x_7, hv7, h⟩ := bd_e h
      refine v_callSI C [.long (i64 v3), .long (i64 0), .long (i64 (v4_6 - 1))] (mX8_in C.2.2.2.2.1 hv7) cd_X8_in ic_X8 sm_X8_in ml_X8_67 yk_X8_in ⟨rfl, rfl, by decide, by decide⟩ rfl hl.1 (rest := []) rfl (Nat.le_of_ble_eq_true rfl) dX8_corner_34 ?_
      have hz8 := (cr_e h).1
      have h := (cr_e h).2
      refine v_if_eq C (tgt := 49) hz8 h dX8_corner_37 rfl (fun h => ?_) (fun h => ?_)
      · refine v_iconst C dX8_corner_49 ?_
        exact wX8_corner_50 C hr (lv_sub hl [1] rfl) h
      · refine v_aload_n C hl dX8_corner_40 rfl 1 rfl ?_
        refine g_X8_19 C kdM_0 fl_X8_34 dX8_corner_41 ?_
        refine v_iload_n C hl dX8_corner_44 rfl 4 rfl ?_
        refine alM8 C kdM_9 h dX8_corner_45 (fun h => ?_)
        refine v_goto C (tgt := 50) dX8_corner_46 rfl ?_
        exact wX8_corner_50 C hr (lv_sub hl [1] rfl) h
    · exact wX8_corner_16 C hr (lv_sub hl [0] rfl) h
end
section
variable {l : Launch} {D : va_G} {ac : Nat → ClassId} {q : Nat → Nat} {p : Program} {e : Env} {s : State} {m : MethodId} {args : Array Value} {below : List Frame} {meth : Method} {c : Code} {ls : Array Slot}
theorem dX8_count_0 : decode cX8_count 0 = .ok (.iconst 0, 1) := by decide +kernel
theorem dX8_count_1 : decode cX8_count 1 = .ok (.istore_n 2, 1) := by decide +kernel
theorem dX8_count_2 : decode cX8_count 2 = .ok (.iconst 0, 1) := by decide +kernel
theorem dX8_count_3 : decode cX8_count 3 = .ok (.istore_n 3, 1) := by decide +kernel
theorem dX8_count_4 : decode cX8_count 4 = .ok (.iconst 0, 1) := by decide +kernel
theorem dX8_count_5 : decode cX8_count 5 = .ok (.istore 4, 2) := by decide +kernel
theorem dX8_count_7 : decode cX8_count 7 = .ok (.iload 4, 2) := by decide +kernel
theorem dX8_count_9 : decode cX8_count 9 = .ok (.aload_n 0, 1) := by decide +kernel
theorem dX8_count_10 : decode cX8_count 10 = .ok (.invokevirtual 206, 3) := by decide +kernel
theorem dX8_count_13 : decode cX8_count 13 = .ok (.if_icmp .ge 32, 3) := by decide +kernel
theorem dX8_count_16 : decode cX8_count 16 = .ok (.iload_n 2, 1) := by decide +kernel
theorem dX8_count_17 : decode cX8_count 17 = .ok (.aload_n 0, 1) := by decide +kernel
theorem dX8_count_18 : decode cX8_count 18 = .ok (.getfield 7, 3) := by decide +kernel
theorem dX8_count_21 : decode cX8_count 21 = .ok (.iload 4, 2) := by decide +kernel
theorem dX8_count_23 : decode cX8_count 23 = .ok (.iaload, 1) := by decide +kernel
theorem dX8_count_24 : decode cX8_count 24 = .ok (.iadd, 1) := by decide +kernel
theorem dX8_count_25 : decode cX8_count 25 = .ok (.istore_n 2, 1) := by decide +kernel
theorem dX8_count_26 : decode cX8_count 26 = .ok (.iload_n 3, 1) := by decide +kernel
theorem dX8_count_27 : decode cX8_count 27 = .ok (.aload_n 0, 1) := by decide +kernel
theorem dX8_count_28 : decode cX8_count 28 = .ok (.getfield 7, 3) := by decide +kernel
theorem dX8_count_31 : decode cX8_count 31 = .ok (.bipush 24, 2) := by decide +kernel
theorem dX8_count_33 : decode cX8_count 33 = .ok (.iload 4, 2) := by decide +kernel
theorem dX8_count_35 : decode cX8_count 35 = .ok (.iadd, 1) := by decide +kernel
theorem dX8_count_36 : decode cX8_count 36 = .ok (.iaload, 1) := by decide +kernel
theorem dX8_count_37 : decode cX8_count 37 = .ok (.iadd, 1) := by decide +kernel
theorem dX8_count_38 : decode cX8_count 38 = .ok (.istore_n 3, 1) := by decide +kernel
theorem dX8_count_39 : decode cX8_count 39 = .ok (.iinc 4 1, 3) := by decide +kernel
theorem dX8_count_42 : decode cX8_count 42 = .ok (.goto (-35), 3) := by decide +kernel
theorem dX8_count_45 : decode cX8_count 45 = .ok (.iload_n 1, 1) := by decide +kernel
theorem dX8_count_46 : decode cX8_count 46 = .ok (.tableswitch 96 0 4 #[34, 64, 69, 92, 94], 34) := by decide +kernel
theorem dX8_count_80 : decode cX8_count 80 = .ok (.aload_n 0, 1) := by decide +kernel
theorem dX8_count_81 : decode cX8_count 81 = .ok (.getfield 53, 3) := by decide +kernel
theorem dX8_count_84 : decode cX8_count 84 = .ok (.iconst 0, 1) := by decide +kernel
theorem dX8_count_85 : decode cX8_count 85 = .ok (.baload, 1) := by decide +kernel
theorem dX8_count_86 : decode cX8_count 86 = .ok (.ifCond .eq 7, 3) := by decide +kernel
theorem dX8_count_89 : decode cX8_count 89 = .ok (.iconst 1, 1) := by decide +kernel
theorem dX8_count_90 : decode cX8_count 90 = .ok (.goto 4, 3) := by decide +kernel
theorem dX8_count_93 : decode cX8_count 93 = .ok (.iconst 0, 1) := by decide +kernel
theorem dX8_count_94 : decode cX8_count 94 = .ok (.aload_n 0, 1) := by decide +kernel
theorem dX8_count_95 : decode cX8_count 95 = .ok (.getfield 53, 3) := by decide +kernel
theorem dX8_count_98 : decode cX8_count 98 = .ok (.iconst 1, 1) := by decide +kernel
theorem dX8_count_99 : decode cX8_count 99 = .ok (.baload, 1) := by decide +kernel
theorem dX8_count_100 : decode cX8_count 100 = .ok (.ifCond .eq 7, 3) := by decide +kernel
theorem dX8_count_103 : decode cX8_count 103 = .ok (.iconst 1, 1) := by decide +kernel
theorem dX8_count_104 : decode cX8_count 104 = .ok (.goto 4, 3) := by decide +kernel
theorem dX8_count_107 : decode cX8_count 107 = .ok (.iconst 0, 1) := by decide +kernel
theorem dX8_count_108 : decode cX8_count 108 = .ok (.iadd, 1) := by decide +kernel
theorem dX8_count_109 : decode cX8_count 109 = .ok (.ireturn, 1) := by decide +kernel
theorem dX8_count_110 : decode cX8_count 110 = .ok (.aload_n 0, 1) := by decide +kernel
theorem dX8_count_111 : decode cX8_count 111 = .ok (.getfield 71, 3) := by decide +kernel
theorem dX8_count_114 : decode cX8_count 114 = .ok (.ireturn, 1) := by decide +kernel
theorem dX8_count_115 : decode cX8_count 115 = .ok (.aload_n 0, 1) := by decide +kernel
theorem dX8_count_116 : decode cX8_count 116 = .ok (.getfield 56, 3) := by decide +kernel
theorem dX8_count_119 : decode cX8_count 119 = .ok (.iconst 0, 1) := by decide +kernel
theorem dX8_count_120 : decode cX8_count 120 = .ok (.iaload, 1) := by decide +kernel
theorem dX8_count_121 : decode cX8_count 121 = .ok (.bipush (-4), 2) := by decide +kernel
theorem dX8_count_123 : decode cX8_count 123 = .ok (.if_icmp .ne 8, 3) := by decide +kernel
theorem dX8_count_126 : decode cX8_count 126 = .ok (.bipush (-4), 2) := by decide +kernel
theorem dX8_count_128 : decode cX8_count 128 = .ok (.goto 9, 3) := by decide +kernel
theorem dX8_count_131 : decode cX8_count 131 = .ok (.aload_n 0, 1) := by decide +kernel
theorem dX8_count_132 : decode cX8_count 132 = .ok (.getfield 59, 3) := by decide +kernel
theorem dX8_count_135 : decode cX8_count 135 = .ok (.iconst 0, 1) := by decide +kernel
theorem dX8_count_136 : decode cX8_count 136 = .ok (.iaload, 1) := by decide +kernel
theorem dX8_count_137 : decode cX8_count 137 = .ok (.ireturn, 1) := by decide +kernel
theorem dX8_count_138 : decode cX8_count 138 = .ok (.iload_n 2, 1) := by decide +kernel
theorem dX8_count_139 : decode cX8_count 139 = .ok (.ireturn, 1) := by decide +kernel
theorem dX8_count_140 : decode cX8_count 140 = .ok (.iload_n 3, 1) := by decide +kernel
theorem dX8_count_141 : decode cX8_count 141 = .ok (.ireturn, 1) := by decide +kernel
theorem dX8_count_142 : decode cX8_count 142 = .ok (.iconst (-1), 1) := by decide +kernel
theorem dX8_count_143 : decode cX8_count 143 = .ok (.ireturn, 1) := by decide +kernel
theorem wX8_count_137 (C : CxM p rmX8_count s m args meth c D ac q RX8 cX8_count 5) (hr : meth.sig.returnType = (some .int)) {t0 : Int} {σ : Mm} {r : Int} (hl : lv_has ls 5 [(0, .ref (q 0))]) (h : fX8_count_137 t0 σ = some r) : VM p l e rmX8_count s m args below meth c D ac q (QIM D ac q below args s (r, σ)) σ (F0 m 137 ls [.int (i32 t0)]) := by
  have h : some t0 = some r := h
  exact v_iret C hr (so1 h) dX8_count_137
theorem wX8_count_108 (C : CxM p rmX8_count s m args meth c D ac q RX8 cX8_count 5) (hr : meth.sig.returnType = (some .int)) {t0 : Int} {t1 : Int} {σ : Mm} {r : Int} (hl : lv_has ls 5 [(0, .ref (q 0))]) (h : fX8_count_108 t0 t1 σ = some r) : VM p l e rmX8_count s m args below meth c D ac q (QIM D ac q below args s (r, σ)) σ (F0 m 108 ls [.int (i32 t1), .int (i32 t0)]) := by
  have h : some (t0 + t1) = some r := h
  refine v_iadd C dX8_count_108 ?_
  exact v_iret C hr (so1 h) dX8_count_109
theorem wX8_count_94 (C : CxM p rmX8_count s m args meth c D ac q RX8 cX8_count 5) (hr : meth.sig.returnType = (some .int)) {t0 : Int} {σ : Mm} {r : Int} (hl : lv_has ls 5 [(0, .ref (q 0))]) (h : fX8_count_94 t0 σ = some r) : VM p l e rmX8_count s m args below meth c D ac q (QIM D ac q below args s (r, σ)) σ (F0 m 94 ls [.int (i32 t0)]) := by
  have h : chk 1 2 (cr (σ 15 1) ((if σ 15 1 = 0 then fX8_count_108 t0 0 σ else fX8_count_108 t0 1 σ))) = some r := h
  refine v_aload_n C hl dX8_count_94 rfl 0 rfl ?_
  refine g_X8_26 C kdM_0 fl_X8_53 dX8_count_95 ?_
  refine v_iconst C dX8_count_98 ?_
  refine alM11 C kdM_15 h dX8_count_99 (fun h => ?_)
  have hz1 := (cr_e h).1
  have h := (cr_e h).2
  refine v_if_eq C (tgt := 107) hz1 h dX8_count_100 rfl (fun h => ?_) (fun h => ?_)
  · refine v_iconst C dX8_count_107 ?_
    exact wX8_count_108 C hr (lv_sub hl [0] rfl) h
  · refine v_iconst C dX8_count_103 ?_
    refine v_goto C (tgt := 108) dX8_count_104 rfl ?_
    exact wX8_count_108 C hr (lv_sub hl [0] rfl) h
theorem wX8_count_45 (C : CxM p rmX8_count s m args meth c D ac q RX8 cX8_count 5) (hr : meth.sig.returnType = (some .int)) {v1 : Int} {v2 : Int} {v3 : Int} {σ : Mm} {r : Int} (hl : lv_has ls 5 [(0, .ref (q 0)), (1, .int (i32 v1)), (2, .int (i32 v2)), (3, .int (i32 v3))]) (h : fX8_count_45 v1 v2 v3 σ = some r) : VM p l e rmX8_count s m args below meth c D ac q (QIM D ac q below args s (r, σ)) σ (F0 m 45 ls []) := by
  have h : cr v1 ((if v1 = 0 then chk 0 2 (cr (σ 15 0) ((if σ 15 0 = 0 then fX8_count_94 0 σ else fX8_count_94 1 σ))) else (if v1 = 1 then some (σ 0 2) else (if v1 = 2 then chk 0 4 (cr (σ 16 0) ((if σ 16 0 = (-4) then fX8_count_137 (-4) σ else chk 0 4 (fX8_count_137 (σ 17 0) σ)))) else (if v1 = 3 then some v2 else (if v1 = 4 then some v3 else some (-1))))))) = some r := h
  refine v_iload_n C hl dX8_count_45 rfl 1 rfl ?_
  have hz1 := (cr_e h).1
  have h := (cr_e h).2
  rcases sw_e h with ⟨hc2, h⟩ | ⟨hc2, h⟩
  · refine v_tabIn C (tgt := 80) hz1 hc2 dX8_count_46 (by decide) (by decide) rfl rfl ?_
    refine v_aload_n C hl dX8_count_80 rfl 0 rfl ?_
    refine g_X8_26 C kdM_0 fl_X8_53 dX8_count_81 ?_
    refine v_iconst C dX8_count_84 ?_
    refine alM11 C kdM_15 h dX8_count_85 (fun h => ?_)
    have hz3 := (cr_e h).1
    have h := (cr_e h).2
    refine v_if_eq C (tgt := 93) hz3 h dX8_count_86 rfl (fun h => ?_) (fun h => ?_)
    · refine v_iconst C dX8_count_93 ?_
      exact wX8_count_94 C hr (lv_sub hl [0] rfl) h
    · refine v_iconst C dX8_count_89 ?_
      refine v_goto C (tgt := 94) dX8_count_90 rfl ?_
      exact wX8_count_94 C hr (lv_sub hl [0] rfl) h
  · skip
    rcases sw_e h with ⟨hc4, h⟩ | ⟨hc4, h⟩
    · refine v_tabIn C (tgt := 110) hz1 hc4 dX8_count_46 (by decide) (by decide) rfl rfl ?_
      refine v_aload_n C hl dX8_count_110 rfl 0 rfl ?_
      refine g_X8_2 C kdM_0 fl_X8_71 dX8_count_111 ?_
      exact v_iret C hr (so1 h) dX8_count_114
    · skip
      rcases sw_e h with ⟨hc5, h⟩ | ⟨hc5, h⟩
      · refine v_tabIn C (tgt := 115) hz1 hc5 dX8_count_46 (by decide) (by decide) rfl rfl ?_
        refine v_aload_n C hl dX8_count_115 rfl 0 rfl ?_
        refine g_X8_27 C kdM_0 fl_X8_56 dX8_count_116 ?_
        refine v_iconst C dX8_count_119 ?_
        refine alM4 C kdM_16 h dX8_count_120 (fun h => ?_)
        refine v_bipush C dX8_count_121 rfl ?_
        have hz6 := (cr_e h).1
        have h := (cr_e h).2
        refine v_icmp_ne C (tgt := 131) hz6 (by decide) h dX8_count_123 rfl (fun h => ?_) (fun h => ?_)
        · refine v_aload_n C hl dX8_count_131 rfl 0 rfl ?_
          refine g_X8_28 C kdM_0 fl_X8_59 dX8_count_132 ?_
          refine v_iconst C dX8_count_135 ?_
          refine alM4 C kdM_17 h dX8_count_136 (fun h => ?_)
          exact wX8_count_137 C hr (lv_sub hl [0] rfl) h
        · refine v_bipush C dX8_count_126 rfl ?_
          refine v_goto C (tgt := 137) dX8_count_128 rfl ?_
          exact wX8_count_137 C hr (lv_sub hl [0] rfl) h
      · skip
        rcases sw_e h with ⟨hc7, h⟩ | ⟨hc7, h⟩
        · refine v_tabIn C (tgt := 138) hz1 hc7 dX8_count_46 (by decide) (by decide) rfl rfl ?_
          refine v_iload_n C hl dX8_count_138 rfl 2 rfl ?_
          exact v_iret C hr (so1 h) dX8_count_139
        · skip
          rcases sw_e h with ⟨hc8, h⟩ | ⟨hc8, h⟩
          · refine v_tabIn C (tgt := 140) hz1 hc8 dX8_count_46 (by decide) (by decide) rfl rfl ?_
            refine v_iload_n C hl dX8_count_140 rfl 3 rfl ?_
            exact v_iret C hr (so1 h) dX8_count_141
          · skip
            refine v_tabOut C (tgt := 142) hz1 dX8_count_46 (by omega) rfl ?_
            refine v_iconst C dX8_count_142 ?_
            exact v_iret C hr (so1 h) dX8_count_143
theorem wX8_count_7 (C : CxM p rmX8_count s m args meth c D ac q RX8 cX8_count 5) (hr : meth.sig.returnType = (some .int)) {v1 : Int} {σ : Mm} {v2 : Int} {v3 : Int} {v4 : Int} {e7 : Int → Int → Option (Int)} {c7 : Int → Int → Int → Option (Int)} {r : Int} (he7 : ∀ (v2x : Int) (v3x : Int) (ls : Array Slot), lv_has ls 5 [(0, .ref (q 0)), (1, .int (i32 v1)), (2, .int (i32 v2x)), (3, .int (i32 v3x))] → e7 v2x v3x = some r → VM p l e rmX8_count s m args below meth c D ac q (QIM D ac q below args s (r, σ)) σ (F0 m 45 ls [])) (hc7 : ∀ (v2x : Int) (v3x : Int) (v4x : Int) (ls : Array Slot), lv_has ls 5 [(0, .ref (q 0)), (1, .int (i32 v1)), (2, .int (i32 v2x)), (3, .int (i32 v3x)), (4, .int (i32 v4x))] → c7 v2x v3x v4x = some r → VM p l e rmX8_count s m args below meth c D ac q (QIM D ac q below args s (r, σ)) σ (F0 m 7 ls [])) (hl : lv_has ls 5 [(0, .ref (q 0)), (1, .int (i32 v1)), (2, .int (i32 v2)), (3, .int (i32 v3)), (4, .int (i32 v4))]) (h : fX8_count_7 v1 σ e7 c7 v2 v3 v4 = some r) : VM p l e rmX8_count s m args below meth c D ac q (QIM D ac q below args s (r, σ)) σ (F0 m 7 ls []) := by
  have h : bd (fX8_points σ) (fun x_1 => cr v4 (cr x_1 ((if v4 < x_1 then chk v4 700 (bindv (v2 + (σ 1 (v4).toNat)) (fun v2_4 => chk (24 + v4) 700 (bindv (v3 + (σ 1 (24 + v4).toNat)) (fun v3_5 => bindv (v4 + 1) (fun v4_6 => c7 v2_4 v3_5 v4_6))))) else e7 v2 v3)))) = some r := h
  refine v_iload C hl dX8_count_7 4 rfl ?_
  refine v_aload_n C hl dX8_count_9 rfl 0 rfl ?_
  obtain ⟨x_1, hv1, h⟩ := bd_e h
  refine v_callVI C 0 (klM kdM_0) rfl (ckM1 kdM_0 _) rfl [] (mX8_points C.2.2.2.2.1 hv1) cd_X8_points ic_X8 im_X8_points se_X8_points ml_X8_206 yk_X8_points ⟨rfl, rfl, by decide, by decide⟩ rfl hl.1 (rest := [.int (i32 v4)]) rfl (Nat.le_of_ble_eq_true rfl) dX8_count_10 ?_
  have hz2 := (cr_e h).1
  have h := (cr_e h).2
  have hz3 := (cr_e h).1
  have h := (cr_e h).2
  refine v_icmp_ge C (tgt := 45) hz2 hz3 h dX8_count_13 rfl (fun h => ?_) (fun h => ?_)
  · exact he7 _ _ _ (lv_sub hl [0, 1, 2, 3] rfl) h
  · refine v_iload_n C hl dX8_count_16 rfl 2 rfl ?_
    refine v_aload_n C hl dX8_count_17 rfl 0 rfl ?_
    refine g_X8_0 C kdM_0 fl_X8_7 dX8_count_18 ?_
    refine v_iload C hl dX8_count_21 4 rfl ?_
    refine alM2 C kdM_1 h dX8_count_23 (fun h => ?_)
    refine v_iadd C dX8_count_24 ?_
    refine v_istore_n C hl (fun x => [(2, .int (i32 x)), (0, .ref (q 0)), (1, .int (i32 v1)), (3, .int (i32 v3)), (4, .int (i32 v4))]) dX8_count_25 rfl (by decide) (fun _ => rfl) h (fun v2_4 ls hl h => ?_)
    refine v_iload_n C hl dX8_count_26 rfl 3 rfl ?_
    refine v_aload_n C hl dX8_count_27 rfl 1 rfl ?_
    refine g_X8_0 C kdM_0 fl_X8_7 dX8_count_28 ?_
    refine v_bipush C dX8_count_31 rfl ?_
    refine v_iload C hl dX8_count_33 4 rfl ?_
    refine v_iadd C dX8_count_35 ?_
    refine alM2 C kdM_1 h dX8_count_36 (fun h => ?_)
    refine v_iadd C dX8_count_37 ?_
    refine v_istore_n C hl (fun x => [(3, .int (i32 x)), (2, .int (i32 v2_4)), (0, .ref (q 0)), (1, .int (i32 v1)), (4, .int (i32 v4))]) dX8_count_38 rfl (by decide) (fun _ => rfl) h (fun v3_5 ls hl h => ?_)
    refine v_iinc C hl (fun x => [(4, .int (i32 x)), (3, .int (i32 v3_5)), (2, .int (i32 v2_4)), (0, .ref (q 0)), (1, .int (i32 v1))]) dX8_count_39 4 rfl (by decide) (fun _ => rfl) h (fun v4_6 ls hl h => ?_)
    refine v_goto C (tgt := 7) dX8_count_42 rfl ?_
    exact hc7 _ _ _ _ (lv_sub hl [3, 4, 2, 1, 0] rfl) h
theorem wlX8_count_7 (C : CxM p rmX8_count s m args meth c D ac q RX8 cX8_count 5) (hr : meth.sig.returnType = (some .int)) {v1 : Int} {σ : Mm} {e7 : Int → Int → Option (Int)} {r : Int} (he7 : ∀ (v2x : Int) (v3x : Int) (ls : Array Slot), lv_has ls 5 [(0, .ref (q 0)), (1, .int (i32 v1)), (2, .int (i32 v2x)), (3, .int (i32 v3x))] → e7 v2x v3x = some r → VM p l e rmX8_count s m args below meth c D ac q (QIM D ac q below args s (r, σ)) σ (F0 m 45 ls [])) : ∀ (fu : Nat) (v2 : Int) (v3 : Int) (v4 : Int) (ls : Array Slot) (hl : lv_has ls 5 [(0, .ref (q 0)), (1, .int (i32 v1)), (2, .int (i32 v2)), (3, .int (i32 v3)), (4, .int (i32 v4))]) (h : lX8_count_7 v1 σ e7 fu v2 v3 v4 = some r), VM p l e rmX8_count s m args below meth c D ac q (QIM D ac q below args s (r, σ)) σ (F0 m 7 ls []) := by
  intro fu
  induction fu with
  | zero =>
    intro v2 v3 v4 ls hl h
    have h : none = some r := h
    cases h
  | succ fu ih =>
    intro v2 v3 v4 ls hl h
    exact wX8_count_7 C hr he7 (fun v2 v3 v4 ls hl h => ih v2 v3 v4 ls hl h) hl h
theorem mX8_count (hq : QI 19 q) {v1 : Int} {σ : Mm} {r : Int} (h : fX8_count v1 σ = some r) : MIM l D ac q yX8_count cX8_count 5 (some .int) rmX8_count [.ref (q 0), .int (i32 v1)] σ (r, σ) := by
  refine MI.of hq XT_M (by decide) (Nat.le_of_ble_eq_true rfl) (fun p e s m below meth c ls C hr hl => ?_)
  have hl : lv_has ls 5 [(0, .ref (q 0)), (1, .int (i32 v1))] := hl
  have h : bindv 0 (fun v2_1 => bindv 0 (fun v3_2 => bindv 0 (fun v4_3 => lX8_count_7 v1 σ (fun v2_4 v3_5 => fX8_count_45 v1 v2_4 v3_5 σ) 400 v2_1 v3_2 v4_3))) = some r := h
  refine v_iconst C dX8_count_0 ?_
  refine v_istore_n C hl (fun x => [(2, .int (i32 x)), (0, .ref (q 0)), (1, .int (i32 v1))]) dX8_count_1 rfl (by decide) (fun _ => rfl) h (fun v2_1 ls hl h => ?_)
  refine v_iconst C dX8_count_2 ?_
  refine v_istore_n C hl (fun x => [(3, .int (i32 x)), (2, .int (i32 v2_1)), (0, .ref (q 0)), (1, .int (i32 v1))]) dX8_count_3 rfl (by decide) (fun _ => rfl) h (fun v3_2 ls hl h => ?_)
  refine v_iconst C dX8_count_4 ?_
  refine v_istore C hl (fun x => [(4, .int (i32 x)), (3, .int (i32 v3_2)), (2, .int (i32 v2_1)), (0, .ref (q 0)), (1, .int (i32 v1))]) dX8_count_5 (by decide) (fun _ => rfl) h (fun v4_3 ls hl h => ?_)
  exact wlX8_count_7 C hr (fun v2_4 v3_5 ls hl h => wX8_count_45 C hr (lv_sub hl [0, 1, 2, 3] rfl) h) _ _ _ _ _ (lv_sub hl [3, 4, 2, 1, 0] rfl) h
end
section
variable {l : Launch} {D : va_G} {ac : Nat → ClassId} {q : Nat → Nat} {p : Program} {e : Env} {s : State} {m : MethodId} {args : Array Value} {below : List Frame} {meth : Method} {c : Code} {ls : Array Slot}
theorem dX8_isPoint_0 : decode cX8_isPoint 0 = .ok (.iload_n 1, 1) := by decide +kernel
theorem dX8_isPoint_1 : decode cX8_isPoint 1 = .ok (.i2l, 1) := by decide +kernel
theorem dX8_isPoint_2 : decode cX8_isPoint 2 = .ok (.lconst 0, 1) := by decide +kernel
theorem dX8_isPoint_3 : decode cX8_isPoint 3 = .ok (.aload_n 0, 1) := by decide +kernel
theorem dX8_isPoint_4 : decode cX8_isPoint 4 = .ok (.invokevirtual 206, 3) := by decide +kernel
theorem dX8_isPoint_7 : decode cX8_isPoint 7 = .ok (.iconst 1, 1) := by decide +kernel
theorem dX8_isPoint_8 : decode cX8_isPoint 8 = .ok (.isub, 1) := by decide +kernel
theorem dX8_isPoint_9 : decode cX8_isPoint 9 = .ok (.i2l, 1) := by decide +kernel
theorem dX8_isPoint_10 : decode cX8_isPoint 10 = .ok (.invokestatic 67, 3) := by decide +kernel
theorem dX8_isPoint_13 : decode cX8_isPoint 13 = .ok (.ireturn, 1) := by decide +kernel
theorem mX8_isPoint (hq : QI 19 q) {v1 : Int} {σ : Mm} {r : Int} (h : fX8_isPoint v1 σ = some r) : MIM l D ac q yX8_isPoint cX8_isPoint 2 (some .boolean) rmX8_isPoint [.ref (q 0), .int (i32 v1)] σ (r, σ) := by
  refine MI.of hq XT_M (by decide) (Nat.le_of_ble_eq_true rfl) (fun p e s m below meth c ls C hr hl => ?_)
  have hl : lv_has ls 2 [(0, .ref (q 0)), (1, .int (i32 v1))] := hl
  have h : cr v1 (bd (fX8_points σ) (fun x_1 => cr (x_1 - 1) (bd (fX8_in v1 0 (x_1 - 1) σ) (fun x_2 => chb x_2 (some x_2))))) = some r := h
  refine v_iload_n C hl dX8_isPoint_0 rfl 1 rfl ?_
  refine v_i2l C h dX8_isPoint_1 (fun h => ?_)
  refine v_lconst C (v := 0) dX8_isPoint_2 rfl ?_
  refine v_aload_n C hl dX8_isPoint_3 rfl 0 rfl ?_
  obtain ⟨x_1, hv1, h⟩ := bd_e h
  refine v_callVI C 0 (klM kdM_0) rfl (ckM1 kdM_0 _) rfl [] (mX8_points C.2.2.2.2.1 hv1) cd_X8_points ic_X8 im_X8_points se_X8_points ml_X8_206 yk_X8_points ⟨rfl, rfl, by decide, by decide⟩ rfl hl.1 (rest := [.long (i64 0), .long (i64 v1)]) rfl (Nat.le_of_ble_eq_true rfl) dX8_isPoint_4 ?_
  refine v_iconst C dX8_isPoint_7 ?_
  refine v_isub C dX8_isPoint_8 ?_
  refine v_i2l C h dX8_isPoint_9 (fun h => ?_)
  obtain ⟨x_2, hv2, h⟩ := bd_e h
  refine v_callSI C [.long (i64 v1), .long (i64 0), .long (i64 (x_1 - 1))] (mX8_in C.2.2.2.2.1 hv2) cd_X8_in ic_X8 sm_X8_in ml_X8_67 yk_X8_in ⟨rfl, rfl, by decide, by decide⟩ rfl hl.1 (rest := []) rfl (Nat.le_of_ble_eq_true rfl) dX8_isPoint_10 ?_
  have hz3 := (chb_e h).1
  have h := (chb_e h).2
  exact v_zret C hr hz3 (so1 h) dX8_isPoint_13
end
section
variable {l : Launch} {D : va_G} {ac : Nat → ClassId} {q : Nat → Nat} {p : Program} {e : Env} {s : State} {m : MethodId} {args : Array Value} {below : List Frame} {meth : Method} {c : Code} {ls : Array Slot}
theorem dX8_edge_0 : decode cX8_edge 0 = .ok (.aload_n 0, 1) := by decide +kernel
theorem dX8_edge_1 : decode cX8_edge 1 = .ok (.iload_n 1, 1) := by decide +kernel
theorem dX8_edge_2 : decode cX8_edge 2 = .ok (.invokevirtual 266, 3) := by decide +kernel
theorem dX8_edge_5 : decode cX8_edge 5 = .ok (.ifCond .eq 29, 3) := by decide +kernel
theorem dX8_edge_8 : decode cX8_edge 8 = .ok (.aload_n 0, 1) := by decide +kernel
theorem dX8_edge_9 : decode cX8_edge 9 = .ok (.iload_n 2, 1) := by decide +kernel
theorem dX8_edge_10 : decode cX8_edge 10 = .ok (.invokevirtual 266, 3) := by decide +kernel
theorem dX8_edge_13 : decode cX8_edge 13 = .ok (.ifCond .eq 21, 3) := by decide +kernel
theorem dX8_edge_16 : decode cX8_edge 16 = .ok (.aload_n 0, 1) := by decide +kernel
theorem dX8_edge_17 : decode cX8_edge 17 = .ok (.iload_n 3, 1) := by decide +kernel
theorem dX8_edge_18 : decode cX8_edge 18 = .ok (.invokevirtual 278, 3) := by decide +kernel
theorem dX8_edge_21 : decode cX8_edge 21 = .ok (.ifCond .eq 13, 3) := by decide +kernel
theorem dX8_edge_24 : decode cX8_edge 24 = .ok (.aload_n 0, 1) := by decide +kernel
theorem dX8_edge_25 : decode cX8_edge 25 = .ok (.iload_n 1, 1) := by decide +kernel
theorem dX8_edge_26 : decode cX8_edge 26 = .ok (.iload_n 2, 1) := by decide +kernel
theorem dX8_edge_27 : decode cX8_edge 27 = .ok (.iload_n 3, 1) := by decide +kernel
theorem dX8_edge_28 : decode cX8_edge 28 = .ok (.invokevirtual 218, 3) := by decide +kernel
theorem dX8_edge_31 : decode cX8_edge 31 = .ok (.goto 4, 3) := by decide +kernel
theorem dX8_edge_34 : decode cX8_edge 34 = .ok (.iconst (-1), 1) := by decide +kernel
theorem dX8_edge_35 : decode cX8_edge 35 = .ok (.ireturn, 1) := by decide +kernel
theorem wX8_edge_35 (C : CxM p rmX8_edge s m args meth c D ac q RX8 cX8_edge 4) (hr : meth.sig.returnType = (some .int)) {t0 : Int} {σ : Mm} {r : Int × Mm} (hl : lv_has ls 4 [(0, .ref (q 0))]) (h : fX8_edge_35 t0 σ = some r) : VM p l e rmX8_edge s m args below meth c D ac q (QIM D ac q below args s r) σ (F0 m 35 ls [.int (i32 t0)]) := by
  have h : some (t0, σ) = some r := h
  exact v_iret C hr h dX8_edge_35
theorem wX8_edge_34 (C : CxM p rmX8_edge s m args meth c D ac q RX8 cX8_edge 4) (hr : meth.sig.returnType = (some .int)) {σ : Mm} {r : Int × Mm} (hl : lv_has ls 4 [(0, .ref (q 0))]) (h : fX8_edge_34 σ = some r) : VM p l e rmX8_edge s m args below meth c D ac q (QIM D ac q below args s r) σ (F0 m 34 ls []) := by
  have h : fX8_edge_35 (-1) σ = some r := h
  refine v_iconst C dX8_edge_34 ?_
  exact wX8_edge_35 C hr (lv_sub hl [0] rfl) h
theorem mX8_edge (hq : QI 19 q) {v1 : Int} {v2 : Int} {v3 : Int} {σ : Mm} {r : Int × Mm} (h : fX8_edge v1 v2 v3 σ = some r) : MIM l D ac q yX8_edge cX8_edge 4 (some .int) rmX8_edge [.ref (q 0), .int (i32 v1), .int (i32 v2), .int (i32 v3)] σ r := by
  refine MI.of hq XT_M (by decide) (Nat.le_of_ble_eq_true rfl) (fun p e s m below meth c ls C hr hl => ?_)
  have hl : lv_has ls 4 [(0, .ref (q 0)), (1, .int (i32 v1)), (2, .int (i32 v2)), (3, .int (i32 v3))] := hl
  have h : bd (fX8_isPoint v1 σ) (fun x_1 => cr x_1 ((if x_1 = 0 then fX8_edge_34 σ else bd (fX8_isPoint v2 σ) (fun x_3 => cr x_3 ((if x_3 = 0 then fX8_edge_34 σ else bd2 (fX8_isStage v3 σ) (fun x_5 σ_5 => cr x_5 ((if x_5 = 0 then fX8_edge_34 σ_5 else bd2 (fX8_edgesAt v1 v2 v3 σ_5) (fun x_7 σ_7 => fX8_edge_35 x_7 σ_7)))))))))) = some r := h
  refine v_aload_n C hl dX8_edge_0 rfl 0 rfl ?_
  refine v_iload_n C hl dX8_edge_1 rfl 1 rfl ?_
  obtain ⟨x_1, hv1, h⟩ := bd_e h
  refine v_callVI C 0 (klM kdM_0) rfl (ckM1 kdM_0 _) rfl [.int (i32 v1)] (mX8_isPoint C.2.2.2.2.1 hv1) cd_X8_isPoint ic_X8 im_X8_isPoint se_X8_isPoint ml_X8_266 yk_X8_isPoint ⟨rfl, rfl, by decide, by decide⟩ rfl hl.1 (rest := []) rfl (Nat.le_of_ble_eq_true rfl) dX8_edge_2 ?_
  have hz2 := (cr_e h).1
  have h := (cr_e h).2
  refine v_if_eq C (tgt := 34) hz2 h dX8_edge_5 rfl (fun h => ?_) (fun h => ?_)
  · exact wX8_edge_34 C hr (lv_sub hl [0] rfl) h
  · refine v_aload_n C hl dX8_edge_8 rfl 0 rfl ?_
    refine v_iload_n C hl dX8_edge_9 rfl 2 rfl ?_
    obtain ⟨x_3, hv3, h⟩ := bd_e h
    refine v_callVI C 0 (klM kdM_0) rfl (ckM1 kdM_0 _) rfl [.int (i32 v2)] (mX8_isPoint C.2.2.2.2.1 hv3) cd_X8_isPoint ic_X8 im_X8_isPoint se_X8_isPoint ml_X8_266 yk_X8_isPoint ⟨rfl, rfl, by decide, by decide⟩ rfl hl.1 (rest := []) rfl (Nat.le_of_ble_eq_true rfl) dX8_edge_10 ?_
    have hz4 := (cr_e h).1
    have h := (cr_e h).2
    refine v_if_eq C (tgt := 34) hz4 h dX8_edge_13 rfl (fun h => ?_) (fun h => ?_)
    · exact wX8_edge_34 C hr (lv_sub hl [0] rfl) h
    · refine v_aload_n C hl dX8_edge_16 rfl 0 rfl ?_
      refine v_iload_n C hl dX8_edge_17 rfl 3 rfl ?_
      obtain ⟨x_5, σ_5, hv5, h⟩ := bd2_e h
      refine v_callVI C 0 (klM kdM_0) rfl (ckM1 kdM_0 _) rfl [.int (i32 v3)] (mX8_isStage C.2.2.2.2.1 hv5) cd_X8_isStage ic_X8 im_X8_isStage se_X8_isStage ml_X8_278 yk_X8_isStage ⟨rfl, rfl, by decide, by decide⟩ rfl hl.1 (rest := []) rfl (Nat.le_of_ble_eq_true rfl) dX8_edge_18 ?_
      have hz6 := (cr_e h).1
      have h := (cr_e h).2
      refine v_if_eq C (tgt := 34) hz6 h dX8_edge_21 rfl (fun h => ?_) (fun h => ?_)
      · exact wX8_edge_34 C hr (lv_sub hl [0] rfl) h
      · refine v_aload_n C hl dX8_edge_24 rfl 0 rfl ?_
        refine v_iload_n C hl dX8_edge_25 rfl 1 rfl ?_
        refine v_iload_n C hl dX8_edge_26 rfl 2 rfl ?_
        refine v_iload_n C hl dX8_edge_27 rfl 3 rfl ?_
        obtain ⟨x_7, σ_7, hv7, h⟩ := bd2_e h
        refine v_callVI C 0 (klM kdM_0) rfl (ckM1 kdM_0 _) rfl [.int (i32 v1), .int (i32 v2), .int (i32 v3)] (mX8_edgesAt C.2.2.2.2.1 hv7) cd_X8_edgesAt ic_X8 im_X8_edgesAt se_X8_edgesAt ml_X8_218 yk_X8_edgesAt ⟨rfl, rfl, by decide, by decide⟩ rfl hl.1 (rest := []) rfl (Nat.le_of_ble_eq_true rfl) dX8_edge_28 ?_
        refine v_goto C (tgt := 35) dX8_edge_31 rfl ?_
        exact wX8_edge_35 C hr (lv_sub hl [0] rfl) h
end
section
variable {l : Launch} {D : va_G} {ac : Nat → ClassId} {q : Nat → Nat} {p : Program} {e : Env} {s : State} {m : MethodId} {args : Array Value} {below : List Frame} {meth : Method} {c : Code} {ls : Array Slot}
theorem dX8_edges_0 : decode cX8_edges 0 = .ok (.iconst 0, 1) := by decide +kernel
theorem dX8_edges_1 : decode cX8_edges 1 = .ok (.istore_n 1, 1) := by decide +kernel
theorem dX8_edges_2 : decode cX8_edges 2 = .ok (.iconst 0, 1) := by decide +kernel
theorem dX8_edges_3 : decode cX8_edges 3 = .ok (.istore_n 2, 1) := by decide +kernel
theorem dX8_edges_4 : decode cX8_edges 4 = .ok (.iload_n 2, 1) := by decide +kernel
theorem dX8_edges_5 : decode cX8_edges 5 = .ok (.aload_n 0, 1) := by decide +kernel
theorem dX8_edges_6 : decode cX8_edges 6 = .ok (.invokevirtual 206, 3) := by decide +kernel
theorem dX8_edges_9 : decode cX8_edges 9 = .ok (.if_icmp .ge 18, 3) := by decide +kernel
theorem dX8_edges_12 : decode cX8_edges 12 = .ok (.iload_n 1, 1) := by decide +kernel
theorem dX8_edges_13 : decode cX8_edges 13 = .ok (.aload_n 0, 1) := by decide +kernel
theorem dX8_edges_14 : decode cX8_edges 14 = .ok (.getfield 31, 3) := by decide +kernel
theorem dX8_edges_17 : decode cX8_edges 17 = .ok (.iload_n 2, 1) := by decide +kernel
theorem dX8_edges_18 : decode cX8_edges 18 = .ok (.iaload, 1) := by decide +kernel
theorem dX8_edges_19 : decode cX8_edges 19 = .ok (.iadd, 1) := by decide +kernel
theorem dX8_edges_20 : decode cX8_edges 20 = .ok (.istore_n 1, 1) := by decide +kernel
theorem dX8_edges_21 : decode cX8_edges 21 = .ok (.iinc 2 1, 3) := by decide +kernel
theorem dX8_edges_24 : decode cX8_edges 24 = .ok (.goto (-20), 3) := by decide +kernel
theorem dX8_edges_27 : decode cX8_edges 27 = .ok (.iload_n 1, 1) := by decide +kernel
theorem dX8_edges_28 : decode cX8_edges 28 = .ok (.iconst 2, 1) := by decide +kernel
theorem dX8_edges_29 : decode cX8_edges 29 = .ok (.idiv, 1) := by decide +kernel
theorem dX8_edges_30 : decode cX8_edges 30 = .ok (.ireturn, 1) := by decide +kernel
theorem wX8_edges_27 (C : CxM p rmX8_edges s m args meth c D ac q RX8 cX8_edges 3) (hr : meth.sig.returnType = (some .int)) {v1 : Int} {σ : Mm} {r : Int} (hl : lv_has ls 3 [(0, .ref (q 0)), (1, .int (i32 v1))]) (h : fX8_edges_27 v1 σ = some r) : VM p l e rmX8_edges s m args below meth c D ac q (QIM D ac q below args s (r, σ)) σ (F0 m 27 ls []) := by
  have h : chd v1 2 (some (v1 / 2)) = some r := h
  refine v_iload_n C hl dX8_edges_27 rfl 1 rfl ?_
  refine v_iconst C dX8_edges_28 ?_
  refine v_idiv C h dX8_edges_29 (fun h => ?_)
  exact v_iret C hr (so1 h) dX8_edges_30
theorem wX8_edges_4 (C : CxM p rmX8_edges s m args meth c D ac q RX8 cX8_edges 3) (hr : meth.sig.returnType = (some .int)) {σ : Mm} {v1 : Int} {v2 : Int} {e4 : Int → Option (Int)} {c4 : Int → Int → Option (Int)} {r : Int} (he4 : ∀ (v1x : Int) (ls : Array Slot), lv_has ls 3 [(0, .ref (q 0)), (1, .int (i32 v1x))] → e4 v1x = some r → VM p l e rmX8_edges s m args below meth c D ac q (QIM D ac q below args s (r, σ)) σ (F0 m 27 ls [])) (hc4 : ∀ (v1x : Int) (v2x : Int) (ls : Array Slot), lv_has ls 3 [(0, .ref (q 0)), (1, .int (i32 v1x)), (2, .int (i32 v2x))] → c4 v1x v2x = some r → VM p l e rmX8_edges s m args below meth c D ac q (QIM D ac q below args s (r, σ)) σ (F0 m 4 ls [])) (hl : lv_has ls 3 [(0, .ref (q 0)), (1, .int (i32 v1)), (2, .int (i32 v2))]) (h : fX8_edges_4 σ e4 c4 v1 v2 = some r) : VM p l e rmX8_edges s m args below meth c D ac q (QIM D ac q below args s (r, σ)) σ (F0 m 4 ls []) := by
  have h : bd (fX8_points σ) (fun x_1 => cr v2 (cr x_1 ((if v2 < x_1 then chk v2 24 (bindv (v1 + (σ 8 (v2).toNat)) (fun v1_4 => bindv (v2 + 1) (fun v2_5 => c4 v1_4 v2_5))) else e4 v1)))) = some r := h
  refine v_iload_n C hl dX8_edges_4 rfl 2 rfl ?_
  refine v_aload_n C hl dX8_edges_5 rfl 0 rfl ?_
  obtain ⟨x_1, hv1, h⟩ := bd_e h
  refine v_callVI C 0 (klM kdM_0) rfl (ckM1 kdM_0 _) rfl [] (mX8_points C.2.2.2.2.1 hv1) cd_X8_points ic_X8 im_X8_points se_X8_points ml_X8_206 yk_X8_points ⟨rfl, rfl, by decide, by decide⟩ rfl hl.1 (rest := [.int (i32 v2)]) rfl (Nat.le_of_ble_eq_true rfl) dX8_edges_6 ?_
  have hz2 := (cr_e h).1
  have h := (cr_e h).2
  have hz3 := (cr_e h).1
  have h := (cr_e h).2
  refine v_icmp_ge C (tgt := 27) hz2 hz3 h dX8_edges_9 rfl (fun h => ?_) (fun h => ?_)
  · exact he4 _ _ (lv_sub hl [0, 1] rfl) h
  · refine v_iload_n C hl dX8_edges_12 rfl 1 rfl ?_
    refine v_aload_n C hl dX8_edges_13 rfl 0 rfl ?_
    refine g_X8_18 C kdM_0 fl_X8_31 dX8_edges_14 ?_
    refine v_iload_n C hl dX8_edges_17 rfl 2 rfl ?_
    refine alM6 C kdM_8 h dX8_edges_18 (fun h => ?_)
    refine v_iadd C dX8_edges_19 ?_
    refine v_istore_n C hl (fun x => [(1, .int (i32 x)), (0, .ref (q 0)), (2, .int (i32 v2))]) dX8_edges_20 rfl (by decide) (fun _ => rfl) h (fun v1_4 ls hl h => ?_)
    refine v_iinc C hl (fun x => [(2, .int (i32 x)), (1, .int (i32 v1_4)), (0, .ref (q 0))]) dX8_edges_21 2 rfl (by decide) (fun _ => rfl) h (fun v2_5 ls hl h => ?_)
    refine v_goto C (tgt := 4) dX8_edges_24 rfl ?_
    exact hc4 _ _ _ (lv_sub hl [2, 1, 0] rfl) h
theorem wlX8_edges_4 (C : CxM p rmX8_edges s m args meth c D ac q RX8 cX8_edges 3) (hr : meth.sig.returnType = (some .int)) {σ : Mm} {e4 : Int → Option (Int)} {r : Int} (he4 : ∀ (v1x : Int) (ls : Array Slot), lv_has ls 3 [(0, .ref (q 0)), (1, .int (i32 v1x))] → e4 v1x = some r → VM p l e rmX8_edges s m args below meth c D ac q (QIM D ac q below args s (r, σ)) σ (F0 m 27 ls [])) : ∀ (fu : Nat) (v1 : Int) (v2 : Int) (ls : Array Slot) (hl : lv_has ls 3 [(0, .ref (q 0)), (1, .int (i32 v1)), (2, .int (i32 v2))]) (h : lX8_edges_4 σ e4 fu v1 v2 = some r), VM p l e rmX8_edges s m args below meth c D ac q (QIM D ac q below args s (r, σ)) σ (F0 m 4 ls []) := by
  intro fu
  induction fu with
  | zero =>
    intro v1 v2 ls hl h
    have h : none = some r := h
    cases h
  | succ fu ih =>
    intro v1 v2 ls hl h
    exact wX8_edges_4 C hr he4 (fun v1 v2 ls hl h => ih v1 v2 ls hl h) hl h
theorem mX8_edges (hq : QI 19 q)  {σ : Mm} {r : Int} (h : fX8_edges σ = some r) : MIM l D ac q yX8_edges cX8_edges 3 (some .int) rmX8_edges [.ref (q 0)] σ (r, σ) := by
  refine MI.of hq XT_M (by decide) (Nat.le_of_ble_eq_true rfl) (fun p e s m below meth c ls C hr hl => ?_)
  have hl : lv_has ls 3 [(0, .ref (q 0))] := hl
  have h : bindv 0 (fun v1_1 => bindv 0 (fun v2_2 => lX8_edges_4 σ (fun v1_3 => fX8_edges_27 v1_3 σ) 400 v1_1 v2_2)) = some r := h
  refine v_iconst C dX8_edges_0 ?_
  refine v_istore_n C hl (fun x => [(1, .int (i32 x)), (0, .ref (q 0))]) dX8_edges_1 rfl (by decide) (fun _ => rfl) h (fun v1_1 ls hl h => ?_)
  refine v_iconst C dX8_edges_2 ?_
  refine v_istore_n C hl (fun x => [(2, .int (i32 x)), (1, .int (i32 v1_1)), (0, .ref (q 0))]) dX8_edges_3 rfl (by decide) (fun _ => rfl) h (fun v2_2 ls hl h => ?_)
  exact wlX8_edges_4 C hr (fun v1_3 ls hl h => wX8_edges_27 C hr (lv_sub hl [0, 1] rfl) h) _ _ _ _ (lv_sub hl [2, 1, 0] rfl) h
end
section
variable {l : Launch} {D : va_G} {ac : Nat → ClassId} {q : Nat → Nat} {p : Program} {e : Env} {s : State} {m : MethodId} {args : Array Value} {below : List Frame} {meth : Method} {c : Code} {ls : Array Slot}
theorem dX8_end_0 : decode cX8_end 0 = .ok (.iload_n 1, 1) := by decide +kernel
theorem dX8_end_1 : decode cX8_end 1 = .ok (.i2l, 1) := by decide +kernel
theorem dX8_end_2 : decode cX8_end 2 = .ok (.lconst 0, 1) := by decide +kernel
theorem dX8_end_3 : decode cX8_end 3 = .ok (.aload_n 0, 1) := by decide +kernel
theorem dX8_end_4 : decode cX8_end 4 = .ok (.getfield 71, 3) := by decide +kernel
theorem dX8_end_7 : decode cX8_end 7 = .ok (.i2l, 1) := by decide +kernel
theorem dX8_end_8 : decode cX8_end 8 = .ok (.invokestatic 67, 3) := by decide +kernel
theorem dX8_end_11 : decode cX8_end 11 = .ok (.ifCond .ne 5, 3) := by decide +kernel
theorem dX8_end_14 : decode cX8_end 14 = .ok (.iconst (-1), 1) := by decide +kernel
theorem dX8_end_15 : decode cX8_end 15 = .ok (.ireturn, 1) := by decide +kernel
theorem dX8_end_16 : decode cX8_end 16 = .ok (.aload_n 0, 1) := by decide +kernel
theorem dX8_end_17 : decode cX8_end 17 = .ok (.getfield 71, 3) := by decide +kernel
theorem dX8_end_20 : decode cX8_end 20 = .ok (.istore_n 2, 1) := by decide +kernel
theorem dX8_end_21 : decode cX8_end 21 = .ok (.aload_n 0, 1) := by decide +kernel
theorem dX8_end_22 : decode cX8_end 22 = .ok (.iload_n 1, 1) := by decide +kernel
theorem dX8_end_23 : decode cX8_end 23 = .ok (.putfield 71, 3) := by decide +kernel
theorem dX8_end_26 : decode cX8_end 26 = .ok (.iload_n 2, 1) := by decide +kernel
theorem dX8_end_27 : decode cX8_end 27 = .ok (.ireturn, 1) := by decide +kernel
theorem mX8_end (hq : QI 19 q) {v1 : Int} {σ : Mm} {r : Int × Mm} (h : fX8_end v1 σ = some r) : MIM l D ac q yX8_end cX8_end 3 (some .int) rmX8_end [.ref (q 0), .int (i32 v1)] σ r := by
  refine MI.of hq XT_M (by decide) (Nat.le_of_ble_eq_true rfl) (fun p e s m below meth c ls C hr hl => ?_)
  have hl : lv_has ls 3 [(0, .ref (q 0)), (1, .int (i32 v1))] := hl
  have h : cr v1 (cr (σ 0 2) (bd (fX8_in v1 0 (σ 0 2) σ) (fun x_1 => cr x_1 ((if x_1 = 0 then some ((-1), σ) else bindv (σ 0 2) (fun v2_3 => bindv (sto σ 0 2 v1) (fun σ_4 => some (v2_3, σ_4)))))))) = some r := h
  refine v_iload_n C hl dX8_end_0 rfl 1 rfl ?_
  refine v_i2l C h dX8_end_1 (fun h => ?_)
  refine v_lconst C (v := 0) dX8_end_2 rfl ?_
  refine v_aload_n C hl dX8_end_3 rfl 0 rfl ?_
  refine g_X8_2 C kdM_0 fl_X8_71 dX8_end_4 ?_
  refine v_i2l C h dX8_end_7 (fun h => ?_)
  obtain ⟨x_1, hv1, h⟩ := bd_e h
  refine v_callSI C [.long (i64 v1), .long (i64 0), .long (i64 (σ 0 2))] (mX8_in C.2.2.2.2.1 hv1) cd_X8_in ic_X8 sm_X8_in ml_X8_67 yk_X8_in ⟨rfl, rfl, by decide, by decide⟩ rfl hl.1 (rest := []) rfl (Nat.le_of_ble_eq_true rfl) dX8_end_8 ?_
  have hz2 := (cr_e h).1
  have h := (cr_e h).2
  refine v_if_ne C (tgt := 16) hz2 h dX8_end_11 rfl (fun h => ?_) (fun h => ?_)
  · refine v_aload_n C hl dX8_end_16 rfl 0 rfl ?_
    refine g_X8_2 C kdM_0 fl_X8_71 dX8_end_17 ?_
    refine v_istore_n C hl (fun x => [(2, .int (i32 x)), (0, .ref (q 0)), (1, .int (i32 v1))]) dX8_end_20 rfl (by decide) (fun _ => rfl) h (fun v2_3 ls hl h => ?_)
    refine v_aload_n C hl dX8_end_21 rfl 1 rfl ?_
    refine v_iload_n C hl dX8_end_22 rfl 2 rfl ?_
    refine s_X8_2 C kdM_0 fl_X8_71 h dX8_end_23 (fun σ_4 h => ?_)
    refine v_iload_n C hl dX8_end_26 rfl 0 rfl ?_
    exact v_iret C hr h dX8_end_27
  · refine v_iconst C dX8_end_14 ?_
    exact v_iret C hr h dX8_end_15
end
section
variable {l : Launch} {D : va_G} {ac : Nat → ClassId} {q : Nat → Nat} {p : Program} {e : Env} {s : State} {m : MethodId} {args : Array Value} {below : List Frame} {meth : Method} {c : Code} {ls : Array Slot}
theorem dX8_fails_0 : decode cX8_fails 0 = .ok (.aload_n 0, 1) := by decide +kernel
theorem dX8_fails_1 : decode cX8_fails 1 = .ok (.getfield 75, 3) := by decide +kernel
theorem dX8_fails_4 : decode cX8_fails 4 = .ok (.ifCond .ne 16, 3) := by decide +kernel
theorem dX8_fails_7 : decode cX8_fails 7 = .ok (.aload_n 0, 1) := by decide +kernel
theorem dX8_fails_8 : decode cX8_fails 8 = .ok (.iload_n 1, 1) := by decide +kernel
theorem dX8_fails_9 : decode cX8_fails 9 = .ok (.putfield 75, 3) := by decide +kernel
theorem dX8_fails_12 : decode cX8_fails 12 = .ok (.aload_n 0, 1) := by decide +kernel
theorem dX8_fails_13 : decode cX8_fails 13 = .ok (.aload_n 0, 1) := by decide +kernel
theorem dX8_fails_14 : decode cX8_fails 14 = .ok (.getfield 78, 3) := by decide +kernel
theorem dX8_fails_17 : decode cX8_fails 17 = .ok (.putfield 81, 3) := by decide +kernel
theorem dX8_fails_20 : decode cX8_fails 20 = .ok (.return_, 1) := by decide +kernel
theorem wX8_fails_20 (C : CxM p rmX8_fails s m args meth c D ac q RX8 cX8_fails 2) (hr : meth.sig.returnType = none) {σ : Mm} {r : Mm} (hl : lv_has ls 2 [(0, .ref (q 0))]) (h : fX8_fails_20 σ = some r) : VM p l e rmX8_fails s m args below meth c D ac q (QVM D ac q below args s r) σ (F0 m 20 ls []) := by
  have h : some σ = some r := h
  exact v_vret C hr h dX8_fails_20
theorem mX8_fails (hq : QI 19 q) {v1 : Int} {σ : Mm} {r : Mm} (h : fX8_fails v1 σ = some r) : MVM l D ac q yX8_fails cX8_fails 2 none rmX8_fails [.ref (q 0), .int (i32 v1)] σ r := by
  refine MV.of hq XT_M (by decide) (Nat.le_of_ble_eq_true rfl) (fun p e s m below meth c ls C hr hl => ?_)
  have hl : lv_has ls 2 [(0, .ref (q 0)), (1, .int (i32 v1))] := hl
  have h : cr (σ 0 4) ((if σ 0 4 = 0 then bindv (sto σ 0 4 v1) (fun σ_2 => bindv (sto σ_2 0 5 (σ_2 0 7)) (fun σ_3 => fX8_fails_20 σ_3)) else fX8_fails_20 σ)) = some r := h
  refine v_aload_n C hl dX8_fails_0 rfl 0 rfl ?_
  refine g_X8_4 C kdM_0 fl_X8_75 dX8_fails_1 ?_
  have hz1 := (cr_e h).1
  have h := (cr_e h).2
  refine v_if_ne C (tgt := 20) hz1 h dX8_fails_4 rfl (fun h => ?_) (fun h => ?_)
  · exact wX8_fails_20 C hr (lv_sub hl [0] rfl) h
  · refine v_aload_n C hl dX8_fails_7 rfl 0 rfl ?_
    refine v_iload_n C hl dX8_fails_8 rfl 1 rfl ?_
    refine s_X8_4 C kdM_0 fl_X8_75 h dX8_fails_9 (fun σ_2 h => ?_)
    refine v_aload_n C hl dX8_fails_12 rfl 0 rfl ?_
    refine v_aload_n C hl dX8_fails_13 rfl 0 rfl ?_
    refine g_X8_7 C kdM_0 fl_X8_78 dX8_fails_14 ?_
    refine s_X8_5 C kdM_0 fl_X8_81 h dX8_fails_17 (fun σ_3 h => ?_)
    exact wX8_fails_20 C hr (lv_sub hl [0] rfl) h
end
section
variable {l : Launch} {D : va_G} {ac : Nat → ClassId} {q : Nat → Nat} {p : Program} {e : Env} {s : State} {m : MethodId} {args : Array Value} {below : List Frame} {meth : Method} {c : Code} {ls : Array Slot}
theorem dX8_fault_0 : decode cX8_fault 0 = .ok (.aload_n 0, 1) := by decide +kernel
theorem dX8_fault_1 : decode cX8_fault 1 = .ok (.getfield 142, 3) := by decide +kernel
theorem dX8_fault_4 : decode cX8_fault 4 = .ok (.ireturn, 1) := by decide +kernel
theorem mX8_fault (hq : QI 19 q)  {σ : Mm} {r : Int} (h : fX8_fault σ = some r) : MIM l D ac q yX8_fault cX8_fault 1 (some .int) rmX8_fault [.ref (q 0)] σ (r, σ) := by
  refine MI.of hq XT_M (by decide) (Nat.le_of_ble_eq_true rfl) (fun p e s m below meth c ls C hr hl => ?_)
  have hl : lv_has ls 1 [(0, .ref (q 0))] := hl
  have h : some (σ 0 3) = some r := h
  refine v_aload_n C hl dX8_fault_0 rfl 0 rfl ?_
  refine g_X8_3 C kdM_0 fl_X8_142 dX8_fault_1 ?_
  exact v_iret C hr (so1 h) dX8_fault_4
end
section
variable {l : Launch} {D : va_G} {ac : Nat → ClassId} {q : Nat → Nat} {p : Program} {e : Env} {s : State} {m : MethodId} {args : Array Value} {below : List Frame} {meth : Method} {c : Code} {ls : Array Slot}
theorem dX8_feed_0 : decode cX8_feed 0 = .ok (.iload_n 1, 1) := by decide +kernel
theorem dX8_feed_1 : decode cX8_feed 1 = .ok (.i2l, 1) := by decide +kernel
theorem dX8_feed_2 : decode cX8_feed 2 = .ok (.lconst 0, 1) := by decide +kernel
theorem dX8_feed_3 : decode cX8_feed 3 = .ok (.ldc2_w 65, 3) := by decide +kernel
theorem dX8_feed_6 : decode cX8_feed 6 = .ok (.invokestatic 67, 3) := by decide +kernel
theorem dX8_feed_9 : decode cX8_feed 9 = .ok (.ifCond .ne 5, 3) := by decide +kernel
theorem dX8_feed_12 : decode cX8_feed 12 = .ok (.iconst (-1), 1) := by decide +kernel
theorem dX8_feed_13 : decode cX8_feed 13 = .ok (.ireturn, 1) := by decide +kernel
theorem dX8_feed_14 : decode cX8_feed 14 = .ok (.aload_n 0, 1) := by decide +kernel
theorem dX8_feed_15 : decode cX8_feed 15 = .ok (.getfield 71, 3) := by decide +kernel
theorem dX8_feed_18 : decode cX8_feed 18 = .ok (.sipush 320, 3) := by decide +kernel
theorem dX8_feed_21 : decode cX8_feed 21 = .ok (.if_icmp .ne 6, 3) := by decide +kernel
theorem dX8_feed_24 : decode cX8_feed 24 = .ok (.bipush (-3), 2) := by decide +kernel
theorem dX8_feed_26 : decode cX8_feed 26 = .ok (.ireturn, 1) := by decide +kernel
theorem dX8_feed_27 : decode cX8_feed 27 = .ok (.aload_n 0, 1) := by decide +kernel
theorem dX8_feed_28 : decode cX8_feed 28 = .ok (.getfield 13, 3) := by decide +kernel
theorem dX8_feed_31 : decode cX8_feed 31 = .ok (.aload_n 0, 1) := by decide +kernel
theorem dX8_feed_32 : decode cX8_feed 32 = .ok (.getfield 71, 3) := by decide +kernel
theorem dX8_feed_35 : decode cX8_feed 35 = .ok (.iload_n 1, 1) := by decide +kernel
theorem dX8_feed_36 : decode cX8_feed 36 = .ok (.iastore, 1) := by decide +kernel
theorem dX8_feed_37 : decode cX8_feed 37 = .ok (.aload_n 0, 1) := by decide +kernel
theorem dX8_feed_38 : decode cX8_feed 38 = .ok (.dup, 1) := by decide +kernel
theorem dX8_feed_39 : decode cX8_feed 39 = .ok (.getfield 71, 3) := by decide +kernel
theorem dX8_feed_42 : decode cX8_feed 42 = .ok (.iconst 1, 1) := by decide +kernel
theorem dX8_feed_43 : decode cX8_feed 43 = .ok (.iadd, 1) := by decide +kernel
theorem dX8_feed_44 : decode cX8_feed 44 = .ok (.putfield 71, 3) := by decide +kernel
theorem dX8_feed_47 : decode cX8_feed 47 = .ok (.aload_n 0, 1) := by decide +kernel
theorem dX8_feed_48 : decode cX8_feed 48 = .ok (.getfield 71, 3) := by decide +kernel
theorem dX8_feed_51 : decode cX8_feed 51 = .ok (.ireturn, 1) := by decide +kernel
theorem mX8_feed (hq : QI 19 q) {v1 : Int} {σ : Mm} {r : Int × Mm} (h : fX8_feed v1 σ = some r) : MIM l D ac q yX8_feed cX8_feed 2 (some .int) rmX8_feed [.ref (q 0), .int (i32 v1)] σ r := by
  refine MI.of hq XT_M (by decide) (Nat.le_of_ble_eq_true rfl) (fun p e s m below meth c ls C hr hl => ?_)
  have hl : lv_has ls 2 [(0, .ref (q 0)), (1, .int (i32 v1))] := hl
  have h : cr v1 (bd (fX8_in v1 0 127 σ) (fun x_1 => cr x_1 ((if x_1 = 0 then some ((-1), σ) else cr (σ 0 2) ((if σ 0 2 = 320 then some ((-3), σ) else chk (σ 0 2) 320 (bindv (sto σ 2 (σ 0 2).toNat v1) (fun σ_4 => bindv (sto σ_4 0 2 ((σ_4 0 2) + 1)) (fun σ_5 => some (σ_5 0 2, σ_5)))))))))) = some r := h
  refine v_iload_n C hl dX8_feed_0 rfl 1 rfl ?_
  refine v_i2l C h dX8_feed_1 (fun h => ?_)
  refine v_lconst C (v := 0) dX8_feed_2 rfl ?_
  refine v_ldc2 C (v := 127) kc_X8_65 rfl dX8_feed_3 ?_
  obtain ⟨x_1, hv1, h⟩ := bd_e h
  refine v_callSI C [.long (i64 v1), .long (i64 0), .long (i64 127)] (mX8_in C.2.2.2.2.1 hv1) cd_X8_in ic_X8 sm_X8_in ml_X8_67 yk_X8_in ⟨rfl, rfl, by decide, by decide⟩ rfl hl.1 (rest := []) rfl (Nat.le_of_ble_eq_true rfl) dX8_feed_6 ?_
  have hz2 := (cr_e h).1
  have h := (cr_e h).2
  refine v_if_ne C (tgt := 14) hz2 h dX8_feed_9 rfl (fun h => ?_) (fun h => ?_)
  · refine v_aload_n C hl dX8_feed_14 rfl 0 rfl ?_
    refine g_X8_2 C kdM_0 fl_X8_71 dX8_feed_15 ?_
    refine v_sipush C dX8_feed_18 rfl ?_
    have hz3 := (cr_e h).1
    have h := (cr_e h).2
    refine v_icmp_ne C (tgt := 27) hz3 (by decide) h dX8_feed_21 rfl (fun h => ?_) (fun h => ?_)
    · refine v_aload_n C hl dX8_feed_27 rfl 0 rfl ?_
      refine g_X8_1 C kdM_0 fl_X8_13 dX8_feed_28 ?_
      refine v_aload_n C hl dX8_feed_31 rfl 0 rfl ?_
      refine g_X8_2 C kdM_0 fl_X8_71 dX8_feed_32 ?_
      refine v_iload_n C hl dX8_feed_35 rfl 1 rfl ?_
      refine asM3 C kdM_2 h dX8_feed_36 (fun σ_4 h => ?_)
      refine v_aload_n C hl dX8_feed_37 rfl 0 rfl ?_
      refine v_dup C dX8_feed_38 rfl ?_
      refine g_X8_2 C kdM_0 fl_X8_71 dX8_feed_39 ?_
      refine v_iconst C dX8_feed_42 ?_
      refine v_iadd C dX8_feed_43 ?_
      refine s_X8_2 C kdM_0 fl_X8_71 h dX8_feed_44 (fun σ_5 h => ?_)
      refine v_aload_n C hl dX8_feed_47 rfl 0 rfl ?_
      refine g_X8_2 C kdM_0 fl_X8_71 dX8_feed_48 ?_
      exact v_iret C hr h dX8_feed_51
    · refine v_bipush C dX8_feed_24 rfl ?_
      exact v_iret C hr h dX8_feed_26
  · refine v_iconst C dX8_feed_12 ?_
    exact v_iret C hr h dX8_feed_13
end
section
variable {l : Launch} {D : va_G} {ac : Nat → ClassId} {q : Nat → Nat} {p : Program} {e : Env} {s : State} {m : MethodId} {args : Array Value} {below : List Frame} {meth : Method} {c : Code} {ls : Array Slot}
theorem dX8_gone_0 : decode cX8_gone 0 = .ok (.aload_n 0, 1) := by decide +kernel
theorem dX8_gone_1 : decode cX8_gone 1 = .ok (.iload_n 1, 1) := by decide +kernel
theorem dX8_gone_2 : decode cX8_gone 2 = .ok (.invokevirtual 278, 3) := by decide +kernel
theorem dX8_gone_5 : decode cX8_gone 5 = .ok (.ifCond .eq 16, 3) := by decide +kernel
theorem dX8_gone_8 : decode cX8_gone 8 = .ok (.iload_n 1, 1) := by decide +kernel
theorem dX8_gone_9 : decode cX8_gone 9 = .ok (.ifCond .le 12, 3) := by decide +kernel
theorem dX8_gone_12 : decode cX8_gone 12 = .ok (.aload_n 0, 1) := by decide +kernel
theorem dX8_gone_13 : decode cX8_gone 13 = .ok (.getfield 28, 3) := by decide +kernel
theorem dX8_gone_16 : decode cX8_gone 16 = .ok (.iload_n 1, 1) := by decide +kernel
theorem dX8_gone_17 : decode cX8_gone 17 = .ok (.iaload, 1) := by decide +kernel
theorem dX8_gone_18 : decode cX8_gone 18 = .ok (.goto 4, 3) := by decide +kernel
theorem dX8_gone_21 : decode cX8_gone 21 = .ok (.iconst (-1), 1) := by decide +kernel
theorem dX8_gone_22 : decode cX8_gone 22 = .ok (.ireturn, 1) := by decide +kernel
theorem wX8_gone_22 (C : CxM p rmX8_gone s m args meth c D ac q RX8 cX8_gone 2) (hr : meth.sig.returnType = (some .int)) {t0 : Int} {σ : Mm} {r : Int × Mm} (hl : lv_has ls 2 [(0, .ref (q 0))]) (h : fX8_gone_22 t0 σ = some r) : VM p l e rmX8_gone s m args below meth c D ac q (QIM D ac q below args s r) σ (F0 m 22 ls [.int (i32 t0)]) := by
  have h : some (t0, σ) = some r := h
  exact v_iret C hr h dX8_gone_22
theorem wX8_gone_21 (C : CxM p rmX8_gone s m args meth c D ac q RX8 cX8_gone 2) (hr : meth.sig.returnType = (some .int)) {σ : Mm} {r : Int × Mm} (hl : lv_has ls 2 [(0, .ref (q 0))]) (h : fX8_gone_21 σ = some r) : VM p l e rmX8_gone s m args below meth c D ac q (QIM D ac q below args s r) σ (F0 m 21 ls []) := by
  have h : fX8_gone_22 (-1) σ = some r := h
  refine v_iconst C dX8_gone_21 ?_
  exact wX8_gone_22 C hr (lv_sub hl [0] rfl) h
theorem mX8_gone (hq : QI 19 q) {v1 : Int} {σ : Mm} {r : Int × Mm} (h : fX8_gone v1 σ = some r) : MIM l D ac q yX8_gone cX8_gone 2 (some .int) rmX8_gone [.ref (q 0), .int (i32 v1)] σ r := by
  refine MI.of hq XT_M (by decide) (Nat.le_of_ble_eq_true rfl) (fun p e s m below meth c ls C hr hl => ?_)
  have hl : lv_has ls 2 [(0, .ref (q 0)), (1, .int (i32 v1))] := hl
  have h : bd2 (fX8_isStage v1 σ) (fun x_1 σ_1 => cr x_1 ((if x_1 = 0 then fX8_gone_21 σ_1 else cr v1 ((if 0 < v1 then chk v1 25 (fX8_gone_22 (σ_1 7 (v1).toNat) σ_1) else fX8_gone_21 σ_1))))) = some r := h
  refine v_aload_n C hl dX8_gone_0 rfl 0 rfl ?_
  refine v_iload_n C hl dX8_gone_1 rfl 1 rfl ?_
  obtain ⟨x_1, σ_1, hv1, h⟩ := bd2_e h
  refine v_callVI C 0 (klM kdM_0) rfl (ckM1 kdM_0 _) rfl [.int (i32 v1)] (mX8_isStage C.2.2.2.2.1 hv1) cd_X8_isStage ic_X8 im_X8_isStage se_X8_isStage ml_X8_278 yk_X8_isStage ⟨rfl, rfl, by decide, by decide⟩ rfl hl.1 (rest := []) rfl (Nat.le_of_ble_eq_true rfl) dX8_gone_2 ?_
  have hz2 := (cr_e h).1
  have h := (cr_e h).2
  refine v_if_eq C (tgt := 21) hz2 h dX8_gone_5 rfl (fun h => ?_) (fun h => ?_)
  · exact wX8_gone_21 C hr (lv_sub hl [0] rfl) h
  · refine v_iload_n C hl dX8_gone_8 rfl 1 rfl ?_
    have hz3 := (cr_e h).1
    have h := (cr_e h).2
    refine v_if_le C (tgt := 21) hz3 h dX8_gone_9 rfl (fun h => ?_) (fun h => ?_)
    · exact wX8_gone_21 C hr (lv_sub hl [0] rfl) h
    · refine v_aload_n C hl dX8_gone_12 rfl 0 rfl ?_
      refine g_X8_15 C kdM_0 fl_X8_28 dX8_gone_13 ?_
      refine v_iload_n C hl dX8_gone_16 rfl 1 rfl ?_
      refine alM7 C kdM_7 h dX8_gone_17 (fun h => ?_)
      refine v_goto C (tgt := 22) dX8_gone_18 rfl ?_
      exact wX8_gone_22 C hr (lv_sub hl [0] rfl) h
end
section
variable {l : Launch} {D : va_G} {ac : Nat → ClassId} {q : Nat → Nat} {p : Program} {e : Env} {s : State} {m : MethodId} {args : Array Value} {below : List Frame} {meth : Method} {c : Code} {ls : Array Slot}
theorem dX8_isCrossing_0 : decode cX8_isCrossing 0 = .ok (.iload_n 2, 1) := by decide +kernel
theorem dX8_isCrossing_1 : decode cX8_isCrossing 1 = .ok (.iload 4, 2) := by decide +kernel
theorem dX8_isCrossing_3 : decode cX8_isCrossing 3 = .ok (.if_icmp .eq 21, 3) := by decide +kernel
theorem dX8_isCrossing_6 : decode cX8_isCrossing 6 = .ok (.iload_n 2, 1) := by decide +kernel
theorem dX8_isCrossing_7 : decode cX8_isCrossing 7 = .ok (.iload 5, 2) := by decide +kernel
theorem dX8_isCrossing_9 : decode cX8_isCrossing 9 = .ok (.if_icmp .eq 15, 3) := by decide +kernel
theorem dX8_isCrossing_12 : decode cX8_isCrossing 12 = .ok (.iload_n 3, 1) := by decide +kernel
theorem dX8_isCrossing_13 : decode cX8_isCrossing 13 = .ok (.iload 4, 2) := by decide +kernel
theorem dX8_isCrossing_15 : decode cX8_isCrossing 15 = .ok (.if_icmp .eq 9, 3) := by decide +kernel
theorem dX8_isCrossing_18 : decode cX8_isCrossing 18 = .ok (.iload_n 3, 1) := by decide +kernel
theorem dX8_isCrossing_19 : decode cX8_isCrossing 19 = .ok (.iload 5, 2) := by decide +kernel
theorem dX8_isCrossing_21 : decode cX8_isCrossing 21 = .ok (.if_icmp .ne 5, 3) := by decide +kernel
theorem dX8_isCrossing_24 : decode cX8_isCrossing 24 = .ok (.iconst 0, 1) := by decide +kernel
theorem dX8_isCrossing_25 : decode cX8_isCrossing 25 = .ok (.ireturn, 1) := by decide +kernel
theorem dX8_isCrossing_26 : decode cX8_isCrossing 26 = .ok (.aload_n 0, 1) := by decide +kernel
theorem dX8_isCrossing_27 : decode cX8_isCrossing 27 = .ok (.iload_n 1, 1) := by decide +kernel
theorem dX8_isCrossing_28 : decode cX8_isCrossing 28 = .ok (.iload_n 2, 1) := by decide +kernel
theorem dX8_isCrossing_29 : decode cX8_isCrossing 29 = .ok (.iload_n 3, 1) := by decide +kernel
theorem dX8_isCrossing_30 : decode cX8_isCrossing 30 = .ok (.iload 4, 2) := by decide +kernel
theorem dX8_isCrossing_32 : decode cX8_isCrossing 32 = .ok (.invokevirtual 157, 3) := by decide +kernel
theorem dX8_isCrossing_35 : decode cX8_isCrossing 35 = .ok (.invokestatic 165, 3) := by decide +kernel
theorem dX8_isCrossing_38 : decode cX8_isCrossing 38 = .ok (.aload_n 0, 1) := by decide +kernel
theorem dX8_isCrossing_39 : decode cX8_isCrossing 39 = .ok (.iload_n 1, 1) := by decide +kernel
theorem dX8_isCrossing_40 : decode cX8_isCrossing 40 = .ok (.iload_n 2, 1) := by decide +kernel
theorem dX8_isCrossing_41 : decode cX8_isCrossing 41 = .ok (.iload_n 3, 1) := by decide +kernel
theorem dX8_isCrossing_42 : decode cX8_isCrossing 42 = .ok (.iload 5, 2) := by decide +kernel
theorem dX8_isCrossing_44 : decode cX8_isCrossing 44 = .ok (.invokevirtual 157, 3) := by decide +kernel
theorem dX8_isCrossing_47 : decode cX8_isCrossing 47 = .ok (.invokestatic 165, 3) := by decide +kernel
theorem dX8_isCrossing_50 : decode cX8_isCrossing 50 = .ok (.imul, 1) := by decide +kernel
theorem dX8_isCrossing_51 : decode cX8_isCrossing 51 = .ok (.ifCond .ge 37, 3) := by decide +kernel
theorem dX8_isCrossing_54 : decode cX8_isCrossing 54 = .ok (.aload_n 0, 1) := by decide +kernel
theorem dX8_isCrossing_55 : decode cX8_isCrossing 55 = .ok (.iload_n 1, 1) := by decide +kernel
theorem dX8_isCrossing_56 : decode cX8_isCrossing 56 = .ok (.iload 4, 2) := by decide +kernel
theorem dX8_isCrossing_58 : decode cX8_isCrossing 58 = .ok (.iload 5, 2) := by decide +kernel
theorem dX8_isCrossing_60 : decode cX8_isCrossing 60 = .ok (.iload_n 2, 1) := by decide +kernel
theorem dX8_isCrossing_61 : decode cX8_isCrossing 61 = .ok (.invokevirtual 157, 3) := by decide +kernel
theorem dX8_isCrossing_64 : decode cX8_isCrossing 64 = .ok (.invokestatic 165, 3) := by decide +kernel
theorem dX8_isCrossing_67 : decode cX8_isCrossing 67 = .ok (.aload_n 0, 1) := by decide +kernel
theorem dX8_isCrossing_68 : decode cX8_isCrossing 68 = .ok (.iload_n 1, 1) := by decide +kernel
theorem dX8_isCrossing_69 : decode cX8_isCrossing 69 = .ok (.iload 4, 2) := by decide +kernel
theorem dX8_isCrossing_71 : decode cX8_isCrossing 71 = .ok (.iload 5, 2) := by decide +kernel
theorem dX8_isCrossing_73 : decode cX8_isCrossing 73 = .ok (.iload_n 3, 1) := by decide +kernel
theorem dX8_isCrossing_74 : decode cX8_isCrossing 74 = .ok (.invokevirtual 157, 3) := by decide +kernel
theorem dX8_isCrossing_77 : decode cX8_isCrossing 77 = .ok (.invokestatic 165, 3) := by decide +kernel
theorem dX8_isCrossing_80 : decode cX8_isCrossing 80 = .ok (.imul, 1) := by decide +kernel
theorem dX8_isCrossing_81 : decode cX8_isCrossing 81 = .ok (.ifCond .ge 7, 3) := by decide +kernel
theorem dX8_isCrossing_84 : decode cX8_isCrossing 84 = .ok (.iconst 1, 1) := by decide +kernel
theorem dX8_isCrossing_85 : decode cX8_isCrossing 85 = .ok (.goto 4, 3) := by decide +kernel
theorem dX8_isCrossing_88 : decode cX8_isCrossing 88 = .ok (.iconst 0, 1) := by decide +kernel
theorem dX8_isCrossing_89 : decode cX8_isCrossing 89 = .ok (.ireturn, 1) := by decide +kernel
theorem wX8_isCrossing_89 (C : CxM p rmX8_isCrossing s m args meth c D ac q RX8 cX8_isCrossing 6) (hr : meth.sig.returnType = (some .boolean)) {t0 : Int} {σ : Mm} {r : Int} (hl : lv_has ls 6 [(0, .ref (q 0))]) (h : fX8_isCrossing_89 t0 σ = some r) : VM p l e rmX8_isCrossing s m args below meth c D ac q (QIM D ac q below args s (r, σ)) σ (F0 m 89 ls [.int (i32 t0)]) := by
  have h : chb t0 (some t0) = some r := h
  have hz1 := (chb_e h).1
  have h := (chb_e h).2
  exact v_zret C hr hz1 (so1 h) dX8_isCrossing_89
theorem wX8_isCrossing_88 (C : CxM p rmX8_isCrossing s m args meth c D ac q RX8 cX8_isCrossing 6) (hr : meth.sig.returnType = (some .boolean)) {σ : Mm} {r : Int} (hl : lv_has ls 6 [(0, .ref (q 0))]) (h : fX8_isCrossing_88 σ = some r) : VM p l e rmX8_isCrossing s m args below meth c D ac q (QIM D ac q below args s (r, σ)) σ (F0 m 88 ls []) := by
  have h : fX8_isCrossing_89 0 σ = some r := h
  refine v_iconst C dX8_isCrossing_88 ?_
  exact wX8_isCrossing_89 C hr (lv_sub hl [0] rfl) h
theorem wX8_isCrossing_24 (C : CxM p rmX8_isCrossing s m args meth c D ac q RX8 cX8_isCrossing 6) (hr : meth.sig.returnType = (some .boolean)) {σ : Mm} {r : Int} (hl : lv_has ls 6 [(0, .ref (q 0))]) (h : fX8_isCrossing_24 σ = some r) : VM p l e rmX8_isCrossing s m args below meth c D ac q (QIM D ac q below args s (r, σ)) σ (F0 m 24 ls []) := by
  have h : some 0 = some r := h
  refine v_iconst C dX8_isCrossing_24 ?_
  exact v_zret C hr (Or.inl rfl) (so1 h) dX8_isCrossing_25
theorem mX8_isCrossing (hq : QI 19 q) {v1 : Int} {v2 : Int} {v3 : Int} {v4 : Int} {v5 : Int} {σ : Mm} {r : Int} (h : fX8_isCrossing v1 v2 v3 v4 v5 σ = some r) : MIM l D ac q yX8_isCrossing cX8_isCrossing 6 (some .boolean) rmX8_isCrossing [.ref (q 0), .int (i32 v1), .int (i32 v2), .int (i32 v3), .int (i32 v4), .int (i32 v5)] σ (r, σ) := by
  refine MI.of hq XT_M (by decide) (Nat.le_of_ble_eq_true rfl) (fun p e s m below meth c ls C hr hl => ?_)
  have hl : lv_has ls 6 [(0, .ref (q 0)), (1, .int (i32 v1)), (2, .int (i32 v2)), (3, .int (i32 v3)), (4, .int (i32 v4)), (5, .int (i32 v5))] := hl
  have h : cr v2 (cr v4 ((if v2 = v4 then fX8_isCrossing_24 σ else cr v2 (cr v5 ((if v2 = v5 then fX8_isCrossing_24 σ else cr v3 (cr v4 ((if v3 = v4 then fX8_isCrossing_24 σ else cr v3 (cr v5 ((if v3 = v5 then fX8_isCrossing_24 σ else bd (fX8_turned v1 v2 v3 v4 σ) (fun x_9 => bd (fX8_signOf x_9 σ) (fun x_10 => bd (fX8_turned v1 v2 v3 v5 σ) (fun x_11 => bd (fX8_signOf x_11 σ) (fun x_12 => cr (x_10 * x_12) ((if x_10 * x_12 < 0 then bd (fX8_turned v1 v4 v5 v2 σ) (fun x_14 => bd (fX8_signOf x_14 σ) (fun x_15 => bd (fX8_turned v1 v4 v5 v3 σ) (fun x_16 => bd (fX8_signOf x_16 σ) (fun x_17 => cr (x_15 * x_17) ((if x_15 * x_17 < 0 then fX8_isCrossing_89 1 σ else fX8_isCrossing_88 σ)))))) else fX8_isCrossing_88 σ)))))))))))))))))) = some r := h
  refine v_iload_n C hl dX8_isCrossing_0 rfl 2 rfl ?_
  refine v_iload C hl dX8_isCrossing_1 4 rfl ?_
  have hz1 := (cr_e h).1
  have h := (cr_e h).2
  have hz2 := (cr_e h).1
  have h := (cr_e h).2
  refine v_icmp_eq C (tgt := 24) hz1 hz2 h dX8_isCrossing_3 rfl (fun h => ?_) (fun h => ?_)
  · exact wX8_isCrossing_24 C hr (lv_sub hl [0] rfl) h
  · refine v_iload_n C hl dX8_isCrossing_6 rfl 2 rfl ?_
    refine v_iload C hl dX8_isCrossing_7 5 rfl ?_
    have hz3 := (cr_e h).1
    have h := (cr_e h).2
    have hz4 := (cr_e h).1
    have h := (cr_e h).2
    refine v_icmp_eq C (tgt := 24) hz3 hz4 h dX8_isCrossing_9 rfl (fun h => ?_) (fun h => ?_)
    · exact wX8_isCrossing_24 C hr (lv_sub hl [0] rfl) h
    · refine v_iload_n C hl dX8_isCrossing_12 rfl 3 rfl ?_
      refine v_iload C hl dX8_isCrossing_13 4 rfl ?_
      have hz5 := (cr_e h).1
      have h := (cr_e h).2
      have hz6 := (cr_e h).1
      have h := (cr_e h).2
      refine v_icmp_eq C (tgt := 24) hz5 hz6 h dX8_isCrossing_15 rfl (fun h => ?_) (fun h => ?_)
      · exact wX8_isCrossing_24 C hr (lv_sub hl [0] rfl) h
      · refine v_iload_n C hl dX8_isCrossing_18 rfl 3 rfl ?_
        refine v_iload C hl dX8_isCrossing_19 5 rfl ?_
        have hz7 := (cr_e h).1
        have h := (cr_e h).2
        have hz8 := (cr_e h).1
        have h := (cr_e h).2
        refine v_icmp_ne C (tgt := 26) hz7 hz8 h dX8_isCrossing_21 rfl (fun h => ?_) (fun h => ?_)
        · refine v_aload_n C hl dX8_isCrossing_26 rfl 0 rfl ?_
          refine v_iload_n C hl dX8_isCrossing_27 rfl 1 rfl ?_
          refine v_iload_n C hl dX8_isCrossing_28 rfl 2 rfl ?_
          refine v_iload_n C hl dX8_isCrossing_29 rfl 3 rfl ?_
          refine v_iload C hl dX8_isCrossing_30 4 rfl ?_
          obtain ⟨x_9, hv9, h⟩ := bd_e h
          refine v_callVI C 0 (klM kdM_0) rfl (ckM1 kdM_0 _) rfl [.int (i32 v1), .int (i32 v2), .int (i32 v3), .int (i32 v4)] (mX8_turned C.2.2.2.2.1 hv9) cd_X8_turned ic_X8 im_X8_turned se_X8_turned ml_X8_157 yk_X8_turned ⟨rfl, rfl, by decide, by decide⟩ rfl hl.1 (rest := []) rfl (Nat.le_of_ble_eq_true rfl) dX8_isCrossing_32 ?_
          obtain ⟨x_10, hv10, h⟩ := bd_e h
          refine v_callSI C [.int (i32 x_9)] (mX8_signOf C.2.2.2.2.1 hv10) cd_X8_signOf ic_X8 sm_X8_signOf ml_X8_165 yk_X8_signOf ⟨rfl, rfl, by decide, by decide⟩ rfl hl.1 (rest := []) rfl (Nat.le_of_ble_eq_true rfl) dX8_isCrossing_35 ?_
          refine v_aload_n C hl dX8_isCrossing_38 rfl 0 rfl ?_
          refine v_iload_n C hl dX8_isCrossing_39 rfl 1 rfl ?_
          refine v_iload_n C hl dX8_isCrossing_40 rfl 2 rfl ?_
          refine v_iload_n C hl dX8_isCrossing_41 rfl 3 rfl ?_
          refine v_iload C hl dX8_isCrossing_42 5 rfl ?_
          obtain ⟨x_11, hv11, h⟩ := bd_e h
          refine v_callVI C 0 (klM kdM_0) rfl (ckM1 kdM_0 _) rfl [.int (i32 v1), .int (i32 v2), .int (i32 v3), .int (i32 v5)] (mX8_turned C.2.2.2.2.1 hv11) cd_X8_turned ic_X8 im_X8_turned se_X8_turned ml_X8_157 yk_X8_turned ⟨rfl, rfl, by decide, by decide⟩ rfl hl.1 (rest := [.int (i32 x_10)]) rfl (Nat.le_of_ble_eq_true rfl) dX8_isCrossing_44 ?_
          obtain ⟨x_12, hv12, h⟩ := bd_e h
          refine v_callSI C [.int (i32 x_11)] (mX8_signOf C.2.2.2.2.1 hv12) cd_X8_signOf ic_X8 sm_X8_signOf ml_X8_165 yk_X8_signOf ⟨rfl, rfl, by decide, by decide⟩ rfl hl.1 (rest := [.int (i32 x_10)]) rfl (Nat.le_of_ble_eq_true rfl) dX8_isCrossing_47 ?_
          refine v_imul C dX8_isCrossing_50 ?_
          have hz13 := (cr_e h).1
          have h := (cr_e h).2
          refine v_if_ge C (tgt := 88) hz13 h dX8_isCrossing_51 rfl (fun h => ?_) (fun h => ?_)
          · exact wX8_isCrossing_88 C hr (lv_sub hl [0] rfl) h
          · refine v_aload_n C hl dX8_isCrossing_54 rfl 0 rfl ?_
            refine v_iload_n C hl dX8_isCrossing_55 rfl 1 rfl ?_
            refine v_iload C hl dX8_isCrossing_56 4 rfl ?_
            refine v_iload C hl dX8_isCrossing_58 5 rfl ?_
            refine v_iload_n C hl dX8_isCrossing_60 rfl 2 rfl ?_
            obtain ⟨x_14, hv14, h⟩ := bd_e h
            refine v_callVI C 0 (klM kdM_0) rfl (ckM1 kdM_0 _) rfl [.int (i32 v1), .int (i32 v4), .int (i32 v5), .int (i32 v2)] (mX8_turned C.2.2.2.2.1 hv14) cd_X8_turned ic_X8 im_X8_turned se_X8_turned ml_X8_157 yk_X8_turned ⟨rfl, rfl, by decide, by decide⟩ rfl hl.1 (rest := []) rfl (Nat.le_of_ble_eq_true rfl) dX8_isCrossing_61 ?_
            obtain ⟨x_15, hv15, h⟩ := bd_e h
            refine v_callSI C [.int (i32 x_14)] (mX8_signOf C.2.2.2.2.1 hv15) cd_X8_signOf ic_X8 sm_X8_signOf ml_X8_165 yk_X8_signOf ⟨rfl, rfl, by decide, by decide⟩ rfl hl.1 (rest := []) rfl (Nat.le_of_ble_eq_true rfl) dX8_isCrossing_64 ?_
            refine v_aload_n C hl dX8_isCrossing_67 rfl 0 rfl ?_
            refine v_iload_n C hl dX8_isCrossing_68 rfl 1 rfl ?_
            refine v_iload C hl dX8_isCrossing_69 4 rfl ?_
            refine v_iload C hl dX8_isCrossing_71 5 rfl ?_
            refine v_iload_n C hl dX8_isCrossing_73 rfl 3 rfl ?_
            obtain ⟨x_16, hv16, h⟩ := bd_e h
            refine v_callVI C 0 (klM kdM_0) rfl (ckM1 kdM_0 _) rfl [.int (i32 v1), .int (i32 v4), .int (i32 v5), .int (i32 v3)] (mX8_turned C.2.2.2.2.1 hv16) cd_X8_turned ic_X8 im_X8_turned se_X8_turned ml_X8_157 yk_X8_turned ⟨rfl, rfl, by decide, by decide⟩ rfl hl.1 (rest := [.int (i32 x_15)]) rfl (Nat.le_of_ble_eq_true rfl) dX8_isCrossing_74 ?_
            obtain ⟨x_17, hv17, h⟩ := bd_e h
            refine v_callSI C [.int (i32 x_16)] (mX8_signOf C.2.2.2.2.1 hv17) cd_X8_signOf ic_X8 sm_X8_signOf ml_X8_165 yk_X8_signOf ⟨rfl, rfl, by decide, by decide⟩ rfl hl.1 (rest := [.int (i32 x_15)]) rfl (Nat.le_of_ble_eq_true rfl) dX8_isCrossing_77 ?_
            refine v_imul C dX8_isCrossing_80 ?_
            have hz18 := (cr_e h).1
            have h := (cr_e h).2
            refine v_if_ge C (tgt := 88) hz18 h dX8_isCrossing_81 rfl (fun h => ?_) (fun h => ?_)
            · exact wX8_isCrossing_88 C hr (lv_sub hl [0] rfl) h
            · refine v_iconst C dX8_isCrossing_84 ?_
              refine v_goto C (tgt := 89) dX8_isCrossing_85 rfl ?_
              exact wX8_isCrossing_89 C hr (lv_sub hl [0] rfl) h
        · exact wX8_isCrossing_24 C hr (lv_sub hl [0] rfl) h
end
