section
variable {l : Launch} {D : va_G} {ac : Nat → ClassId} {q xa xv : Nat → Nat} {p : Program} {e : Env} {s : State} {m : MethodId} {args : Array Value} {below : List Frame} {meth : Method} {c : Code} {ls : Array Slot}
theorem dJ6_signum_0f7a4_0 : decode cJ6_signum_0f7a4 0 = .ok (.iload_n 0, 1) := by decide +kernel
theorem dJ6_signum_0f7a4_1 : decode cJ6_signum_0f7a4 1 = .ok (.bipush 31, 2) := by decide +kernel
theorem dJ6_signum_0f7a4_3 : decode cJ6_signum_0f7a4 3 = .ok (.ishr, 1) := by decide +kernel
theorem dJ6_signum_0f7a4_4 : decode cJ6_signum_0f7a4 4 = .ok (.iload_n 0, 1) := by decide +kernel
theorem dJ6_signum_0f7a4_5 : decode cJ6_signum_0f7a4 5 = .ok (.ineg, 1) := by decide +kernel
theorem dJ6_signum_0f7a4_6 : decode cJ6_signum_0f7a4 6 = .ok (.bipush 31, 2) := by decide +kernel
theorem dJ6_signum_0f7a4_8 : decode cJ6_signum_0f7a4 8 = .ok (.iushr, 1) := by decide +kernel
theorem dJ6_signum_0f7a4_9 : decode cJ6_signum_0f7a4 9 = .ok (.ior, 1) := by decide +kernel
theorem dJ6_signum_0f7a4_10 : decode cJ6_signum_0f7a4 10 = .ok (.ireturn, 1) := by decide +kernel
theorem mJ6_signum_0f7a4 (hq : QI 175 q) {v0 : Int} {σ : Mm} {r : Int} (h : fJ6_signum_0f7a4 v0 σ = some r) : MIC l D ac q xa xv yJ6_signum_0f7a4 cJ6_signum_0f7a4 1 (some .int) rmJ6_signum_0f7a4 [.int (i32 v0)] σ (r, σ) := by
  refine MI.of hq XC_M (by decide) (Nat.le_of_ble_eq_true rfl) (fun p e s m below meth c ls C hr hl => ?_)
  have hl : lv_has ls 1 [(0, .int (i32 v0))] := hl
  have h : some (orI (shrI v0 31) (ushrI (-v0) 31)) = some r := h
  refine v_iload_n C hl dJ6_signum_0f7a4_0 rfl 0 rfl ?_
  refine v_bipush C dJ6_signum_0f7a4_1 rfl ?_
  refine v_ishr C dJ6_signum_0f7a4_3 ?_
  refine v_iload_n C hl dJ6_signum_0f7a4_4 rfl 0 rfl ?_
  refine v_ineg C dJ6_signum_0f7a4_5 ?_
  refine v_bipush C dJ6_signum_0f7a4_6 rfl ?_
  refine v_iushr C dJ6_signum_0f7a4_8 ?_
  refine v_ior C dJ6_signum_0f7a4_9 ?_
  exact v_iret C hr (so1 h) dJ6_signum_0f7a4_10
end
section
variable {l : Launch} {D : va_G} {ac : Nat → ClassId} {q xa xv : Nat → Nat} {p : Program} {e : Env} {s : State} {m : MethodId} {args : Array Value} {below : List Frame} {meth : Method} {c : Code} {ls : Array Slot}
theorem dX0_append_0 : decode cX0_append 0 = .ok (.aload_n 0, 1) := by decide +kernel
theorem dX0_append_1 : decode cX0_append 1 = .ok (.getfield 16, 3) := by decide +kernel
theorem dX0_append_4 : decode cX0_append 4 = .ok (.aload_n 0, 1) := by decide +kernel
theorem dX0_append_5 : decode cX0_append 5 = .ok (.getfield 31, 3) := by decide +kernel
theorem dX0_append_8 : decode cX0_append 8 = .ok (.iaload, 1) := by decide +kernel
theorem dX0_append_9 : decode cX0_append 9 = .ok (.bipush 11, 2) := by decide +kernel
theorem dX0_append_11 : decode cX0_append 11 = .ok (.if_icmp .ge 46, 3) := by decide +kernel
theorem dX0_append_14 : decode cX0_append 14 = .ok (.aload_n 0, 1) := by decide +kernel
theorem dX0_append_15 : decode cX0_append 15 = .ok (.getfield 11, 3) := by decide +kernel
theorem dX0_append_18 : decode cX0_append 18 = .ok (.aload_n 0, 1) := by decide +kernel
theorem dX0_append_19 : decode cX0_append 19 = .ok (.getfield 31, 3) := by decide +kernel
theorem dX0_append_22 : decode cX0_append 22 = .ok (.aaload, 1) := by decide +kernel
theorem dX0_append_23 : decode cX0_append 23 = .ok (.aload_n 0, 1) := by decide +kernel
theorem dX0_append_24 : decode cX0_append 24 = .ok (.getfield 16, 3) := by decide +kernel
theorem dX0_append_27 : decode cX0_append 27 = .ok (.aload_n 0, 1) := by decide +kernel
theorem dX0_append_28 : decode cX0_append 28 = .ok (.getfield 31, 3) := by decide +kernel
theorem dX0_append_31 : decode cX0_append 31 = .ok (.iaload, 1) := by decide +kernel
theorem dX0_append_32 : decode cX0_append 32 = .ok (.iload_n 1, 1) := by decide +kernel
theorem dX0_append_33 : decode cX0_append 33 = .ok (.iastore, 1) := by decide +kernel
theorem dX0_append_34 : decode cX0_append 34 = .ok (.aload_n 0, 1) := by decide +kernel
theorem dX0_append_35 : decode cX0_append 35 = .ok (.getfield 16, 3) := by decide +kernel
theorem dX0_append_38 : decode cX0_append 38 = .ok (.aload_n 0, 1) := by decide +kernel
theorem dX0_append_39 : decode cX0_append 39 = .ok (.getfield 31, 3) := by decide +kernel
theorem dX0_append_42 : decode cX0_append 42 = .ok (.dup2, 1) := by decide +kernel
theorem dX0_append_43 : decode cX0_append 43 = .ok (.iaload, 1) := by decide +kernel
theorem dX0_append_44 : decode cX0_append 44 = .ok (.iconst 1, 1) := by decide +kernel
theorem dX0_append_45 : decode cX0_append 45 = .ok (.iadd, 1) := by decide +kernel
theorem dX0_append_46 : decode cX0_append 46 = .ok (.iastore, 1) := by decide +kernel
theorem dX0_append_47 : decode cX0_append 47 = .ok (.aload_n 0, 1) := by decide +kernel
theorem dX0_append_48 : decode cX0_append 48 = .ok (.getfield 20, 3) := by decide +kernel
theorem dX0_append_51 : decode cX0_append 51 = .ok (.iload_n 1, 1) := by decide +kernel
theorem dX0_append_52 : decode cX0_append 52 = .ok (.aload_n 0, 1) := by decide +kernel
theorem dX0_append_53 : decode cX0_append 53 = .ok (.getfield 31, 3) := by decide +kernel
theorem dX0_append_56 : decode cX0_append 56 = .ok (.iastore, 1) := by decide +kernel
theorem dX0_append_57 : decode cX0_append 57 = .ok (.return_, 1) := by decide +kernel
theorem wX0_append_57 (C : CxC p rmX0_append s m args meth c D ac q xa xv RX0 cX0_append 2) (hr : meth.sig.returnType = none) {σ : Mm} {r : Mm} (hl : lv_has ls 2 [(0, .ref (q 4))]) (h : fX0_append_57 σ = some r) : VC p l e rmX0_append s m args below meth c D ac q (QVC D ac q xa xv below args s r) σ (F0 m 57 ls []) := by
  have h : some σ = some r := h
  exact v_vret C hr h dX0_append_57
theorem mX0_append (hq : QI 175 q) {v1 : Int} {σ : Mm} {r : Mm} (h : fX0_append v1 σ = some r) : MVC l D ac q xa xv yX0_append cX0_append 2 none rmX0_append [.ref (q 4), .int (i32 v1)] σ r := by
  refine MV.of hq XC_M (by decide) (Nat.le_of_ble_eq_true rfl) (fun p e s m below meth c ls C hr hl => ?_)
  have hl : lv_has ls 2 [(0, .ref (q 4)), (1, .int (i32 v1))] := hl
  have h : chk (σ 4 5) 60 (cr (σ 6 (σ 4 5).toNat) ((if σ 6 (σ 4 5).toNat < 11 then chk (σ 4 5) 60 (chk (σ 4 5) 60 (chk (σ 6 (σ 4 5).toNat) 11 (bindv (sto σ (35 + (σ 4 5).toNat) (σ 6 (σ 4 5).toNat).toNat v1) (fun σ_3 => chk (σ_3 4 5) 60 (chk (σ_3 4 5) 60 (bindv (sto σ_3 6 (σ_3 4 5).toNat ((σ_3 6 (σ_3 4 5).toNat) + 1)) (fun σ_4 => chk v1 24 (bindv (sto σ_4 7 (v1).toNat (σ_4 4 5)) (fun σ_5 => fX0_append_57 σ_5))))))))) else fX0_append_57 σ))) = some r := h
  refine v_aload_n C hl dX0_append_0 rfl 0 rfl ?_
  refine g_X0_2 C kdC_4 fl_X0_16 dX0_append_1 ?_
  refine v_aload_n C hl dX0_append_4 rfl 0 rfl ?_
  refine g_X0_5 C kdC_4 fl_X0_31 dX0_append_5 ?_
  refine alC7 C kdC_6 h dX0_append_8 (fun h => ?_)
  refine v_bipush C dX0_append_9 rfl ?_
  have hz1 := (cr_e h).1
  have h := (cr_e h).2
  refine v_icmp_ge C (tgt := 57) hz1 (by decide) h dX0_append_11 rfl (fun h => ?_) (fun h => ?_)
  · exact wX0_append_57 C hr (lv_sub hl [0] rfl) h
  · refine v_aload_n C hl dX0_append_14 rfl 0 rfl ?_
    refine g_X0_1 C kdC_4 fl_X0_11 dX0_append_15 ?_
    refine v_aload_n C hl dX0_append_18 rfl 0 rfl ?_
    refine g_X0_5 C kdC_4 fl_X0_31 dX0_append_19 ?_
    have hi2 := (chk_e h).1
    refine arC6 C kdC_5 h dX0_append_22 (fun h => ?_)
    refine v_aload_n C hl dX0_append_23 rfl 0 rfl ?_
    refine g_X0_2 C kdC_4 fl_X0_16 dX0_append_24 ?_
    refine v_aload_n C hl dX0_append_27 rfl 0 rfl ?_
    refine g_X0_5 C kdC_4 fl_X0_31 dX0_append_28 ?_
    refine alC7 C kdC_6 h dX0_append_31 (fun h => ?_)
    refine v_iload_n C hl dX0_append_32 rfl 1 rfl ?_
    refine asC22 C (keC6 kdC_5 hi2) h dX0_append_33 (fun σ_3 h => ?_)
    refine v_aload_n C hl dX0_append_34 rfl 0 rfl ?_
    refine g_X0_2 C kdC_4 fl_X0_16 dX0_append_35 ?_
    refine v_aload_n C hl dX0_append_38 rfl 0 rfl ?_
    refine g_X0_5 C kdC_4 fl_X0_31 dX0_append_39 ?_
    refine v_dup2 C dX0_append_42 rfl rfl ?_
    refine alC7 C kdC_6 h dX0_append_43 (fun h => ?_)
    refine v_iconst C dX0_append_44 ?_
    refine v_iadd C dX0_append_45 ?_
    refine asC7 C kdC_6 h dX0_append_46 (fun σ_4 h => ?_)
    refine v_aload_n C hl dX0_append_47 rfl 0 rfl ?_
    refine g_X0_3 C kdC_4 fl_X0_20 dX0_append_48 ?_
    refine v_iload_n C hl dX0_append_51 rfl 1 rfl ?_
    refine v_aload_n C hl dX0_append_52 rfl 0 rfl ?_
    refine g_X0_5 C kdC_4 fl_X0_31 dX0_append_53 ?_
    refine asC8 C kdC_7 h dX0_append_56 (fun σ_5 h => ?_)
    exact wX0_append_57 C hr (lv_sub hl [0] rfl) h
end
section
variable {l : Launch} {D : va_G} {ac : Nat → ClassId} {q xa xv : Nat → Nat} {p : Program} {e : Env} {s : State} {m : MethodId} {args : Array Value} {below : List Frame} {meth : Method} {c : Code} {ls : Array Slot}
theorem dX7_following_0 : decode cX7_following 0 = .ok (.iload_n 0, 1) := by decide +kernel
theorem dX7_following_1 : decode cX7_following 1 = .ok (.iconst 1, 1) := by decide +kernel
theorem dX7_following_2 : decode cX7_following 2 = .ok (.iadd, 1) := by decide +kernel
theorem dX7_following_3 : decode cX7_following 3 = .ok (.iload_n 1, 1) := by decide +kernel
theorem dX7_following_4 : decode cX7_following 4 = .ok (.if_icmp .ge 9, 3) := by decide +kernel
theorem dX7_following_7 : decode cX7_following 7 = .ok (.iload_n 0, 1) := by decide +kernel
theorem dX7_following_8 : decode cX7_following 8 = .ok (.iconst 1, 1) := by decide +kernel
theorem dX7_following_9 : decode cX7_following 9 = .ok (.iadd, 1) := by decide +kernel
theorem dX7_following_10 : decode cX7_following 10 = .ok (.goto 4, 3) := by decide +kernel
theorem dX7_following_13 : decode cX7_following 13 = .ok (.iconst 0, 1) := by decide +kernel
theorem dX7_following_14 : decode cX7_following 14 = .ok (.ireturn, 1) := by decide +kernel
theorem wX7_following_14 (C : CxC p rmX7_following s m args meth c D ac q xa xv RX7 cX7_following 2) (hr : meth.sig.returnType = (some .int)) {t0 : Int} {σ : Mm} {r : Int} (hl : lv_has ls 2 []) (h : fX7_following_14 t0 σ = some r) : VC p l e rmX7_following s m args below meth c D ac q (QIC D ac q xa xv below args s (r, σ)) σ (F0 m 14 ls [.int (i32 t0)]) := by
  have h : some t0 = some r := h
  exact v_iret C hr (so1 h) dX7_following_14
theorem mX7_following (hq : QI 175 q) {v0 : Int} {v1 : Int} {σ : Mm} {r : Int} (h : fX7_following v0 v1 σ = some r) : MIC l D ac q xa xv yX7_following cX7_following 2 (some .int) rmX7_following [.int (i32 v0), .int (i32 v1)] σ (r, σ) := by
  refine MI.of hq XC_M (by decide) (Nat.le_of_ble_eq_true rfl) (fun p e s m below meth c ls C hr hl => ?_)
  have hl : lv_has ls 2 [(0, .int (i32 v0)), (1, .int (i32 v1))] := hl
  have h : cr (v0 + 1) (cr v1 ((if v0 + 1 < v1 then fX7_following_14 (v0 + 1) σ else fX7_following_14 0 σ))) = some r := h
  refine v_iload_n C hl dX7_following_0 rfl 0 rfl ?_
  refine v_iconst C dX7_following_1 ?_
  refine v_iadd C dX7_following_2 ?_
  refine v_iload_n C hl dX7_following_3 rfl 1 rfl ?_
  have hz1 := (cr_e h).1
  have h := (cr_e h).2
  have hz2 := (cr_e h).1
  have h := (cr_e h).2
  refine v_icmp_ge C (tgt := 13) hz1 hz2 h dX7_following_4 rfl (fun h => ?_) (fun h => ?_)
  · refine v_iconst C dX7_following_13 ?_
    exact wX7_following_14 C hr (lv_sub hl [] rfl) h
  · refine v_iload_n C hl dX7_following_7 rfl 0 rfl ?_
    refine v_iconst C dX7_following_8 ?_
    refine v_iadd C dX7_following_9 ?_
    refine v_goto C (tgt := 14) dX7_following_10 rfl ?_
    exact wX7_following_14 C hr (lv_sub hl [] rfl) h
end
section
variable {l : Launch} {D : va_G} {ac : Nat → ClassId} {q xa xv : Nat → Nat} {p : Program} {e : Env} {s : State} {m : MethodId} {args : Array Value} {below : List Frame} {meth : Method} {c : Code} {ls : Array Slot}
theorem dX1_edgeBetween_0 : decode cX1_edgeBetween 0 = .ok (.iconst 0, 1) := by decide +kernel
theorem dX1_edgeBetween_1 : decode cX1_edgeBetween 1 = .ok (.istore_n 3, 1) := by decide +kernel
theorem dX1_edgeBetween_2 : decode cX1_edgeBetween 2 = .ok (.iload_n 3, 1) := by decide +kernel
theorem dX1_edgeBetween_3 : decode cX1_edgeBetween 3 = .ok (.aload_n 0, 1) := by decide +kernel
theorem dX1_edgeBetween_4 : decode cX1_edgeBetween 4 = .ok (.getfield 49, 3) := by decide +kernel
theorem dX1_edgeBetween_7 : decode cX1_edgeBetween 7 = .ok (.if_icmp .ge 51, 3) := by decide +kernel
theorem dX1_edgeBetween_10 : decode cX1_edgeBetween 10 = .ok (.aload_n 0, 1) := by decide +kernel
theorem dX1_edgeBetween_11 : decode cX1_edgeBetween 11 = .ok (.getfield 30, 3) := by decide +kernel
theorem dX1_edgeBetween_14 : decode cX1_edgeBetween 14 = .ok (.iload_n 3, 1) := by decide +kernel
theorem dX1_edgeBetween_15 : decode cX1_edgeBetween 15 = .ok (.iaload, 1) := by decide +kernel
theorem dX1_edgeBetween_16 : decode cX1_edgeBetween 16 = .ok (.iload_n 1, 1) := by decide +kernel
theorem dX1_edgeBetween_17 : decode cX1_edgeBetween 17 = .ok (.if_icmp .ne 13, 3) := by decide +kernel
theorem dX1_edgeBetween_20 : decode cX1_edgeBetween 20 = .ok (.aload_n 0, 1) := by decide +kernel
theorem dX1_edgeBetween_21 : decode cX1_edgeBetween 21 = .ok (.getfield 33, 3) := by decide +kernel
theorem dX1_edgeBetween_24 : decode cX1_edgeBetween 24 = .ok (.iload_n 3, 1) := by decide +kernel
theorem dX1_edgeBetween_25 : decode cX1_edgeBetween 25 = .ok (.iaload, 1) := by decide +kernel
theorem dX1_edgeBetween_26 : decode cX1_edgeBetween 26 = .ok (.iload_n 2, 1) := by decide +kernel
theorem dX1_edgeBetween_27 : decode cX1_edgeBetween 27 = .ok (.if_icmp .eq 23, 3) := by decide +kernel
theorem dX1_edgeBetween_30 : decode cX1_edgeBetween 30 = .ok (.aload_n 0, 1) := by decide +kernel
theorem dX1_edgeBetween_31 : decode cX1_edgeBetween 31 = .ok (.getfield 30, 3) := by decide +kernel
theorem dX1_edgeBetween_34 : decode cX1_edgeBetween 34 = .ok (.iload_n 3, 1) := by decide +kernel
theorem dX1_edgeBetween_35 : decode cX1_edgeBetween 35 = .ok (.iaload, 1) := by decide +kernel
theorem dX1_edgeBetween_36 : decode cX1_edgeBetween 36 = .ok (.iload_n 2, 1) := by decide +kernel
theorem dX1_edgeBetween_37 : decode cX1_edgeBetween 37 = .ok (.if_icmp .ne 15, 3) := by decide +kernel
theorem dX1_edgeBetween_40 : decode cX1_edgeBetween 40 = .ok (.aload_n 0, 1) := by decide +kernel
theorem dX1_edgeBetween_41 : decode cX1_edgeBetween 41 = .ok (.getfield 33, 3) := by decide +kernel
theorem dX1_edgeBetween_44 : decode cX1_edgeBetween 44 = .ok (.iload_n 3, 1) := by decide +kernel
theorem dX1_edgeBetween_45 : decode cX1_edgeBetween 45 = .ok (.iaload, 1) := by decide +kernel
theorem dX1_edgeBetween_46 : decode cX1_edgeBetween 46 = .ok (.iload_n 1, 1) := by decide +kernel
theorem dX1_edgeBetween_47 : decode cX1_edgeBetween 47 = .ok (.if_icmp .ne 5, 3) := by decide +kernel
theorem dX1_edgeBetween_50 : decode cX1_edgeBetween 50 = .ok (.iload_n 3, 1) := by decide +kernel
theorem dX1_edgeBetween_51 : decode cX1_edgeBetween 51 = .ok (.ireturn, 1) := by decide +kernel
theorem dX1_edgeBetween_52 : decode cX1_edgeBetween 52 = .ok (.iinc 3 1, 3) := by decide +kernel
theorem dX1_edgeBetween_55 : decode cX1_edgeBetween 55 = .ok (.goto (-53), 3) := by decide +kernel
theorem dX1_edgeBetween_58 : decode cX1_edgeBetween 58 = .ok (.iconst (-1), 1) := by decide +kernel
theorem dX1_edgeBetween_59 : decode cX1_edgeBetween 59 = .ok (.ireturn, 1) := by decide +kernel
theorem wX1_edgeBetween_58 (C : CxC p rmX1_edgeBetween s m args meth c D ac q xa xv RX1 cX1_edgeBetween 4) (hr : meth.sig.returnType = (some .int)){k : Nat} (hk : kdC k = 23) {σ : Mm} {r : Int} (hl : lv_has ls 4 [(0, .ref (q k))]) (h : fX1_edgeBetween_58 k σ = some r) : VC p l e rmX1_edgeBetween s m args below meth c D ac q (QIC D ac q xa xv below args s (r, σ)) σ (F0 m 58 ls []) := by
  have h : some (-1) = some r := h
  refine v_iconst C dX1_edgeBetween_58 ?_
  exact v_iret C hr (so1 h) dX1_edgeBetween_59
theorem wX1_edgeBetween_52 (C : CxC p rmX1_edgeBetween s m args meth c D ac q xa xv RX1 cX1_edgeBetween 4) (hr : meth.sig.returnType = (some .int)){k : Nat} (hk : kdC k = 23) {v1 : Int} {v2 : Int} {v3 : Int} {c2 : Int → Option (Int)} {σ : Mm} {r : Int} (hc2 : ∀ (v3x : Int) (ls : Array Slot), lv_has ls 4 [(0, .ref (q k)), (1, .int (i32 v1)), (2, .int (i32 v2)), (3, .int (i32 v3x))] → c2 v3x = some r → VC p l e rmX1_edgeBetween s m args below meth c D ac q (QIC D ac q xa xv below args s (r, σ)) σ (F0 m 2 ls [])) (hl : lv_has ls 4 [(0, .ref (q k)), (1, .int (i32 v1)), (2, .int (i32 v2)), (3, .int (i32 v3))]) (h : fX1_edgeBetween_52 k c2 v1 v2 v3 σ = some r) : VC p l e rmX1_edgeBetween s m args below meth c D ac q (QIC D ac q xa xv below args s (r, σ)) σ (F0 m 52 ls []) := by
  have h : bindv (v3 + 1) (fun v3_1 => c2 v3_1) = some r := h
  refine v_iinc C hl (fun x => [(3, .int (i32 x)), (0, .ref (q k)), (1, .int (i32 v1)), (2, .int (i32 v2))]) dX1_edgeBetween_52 3 rfl (by decide) (fun _ => rfl) h (fun v3_1 ls hl h => ?_)
  refine v_goto C (tgt := 2) dX1_edgeBetween_55 rfl ?_
  exact hc2 _ _ (lv_sub hl [1, 2, 3, 0] rfl) h
theorem wX1_edgeBetween_50 (C : CxC p rmX1_edgeBetween s m args meth c D ac q xa xv RX1 cX1_edgeBetween 4) (hr : meth.sig.returnType = (some .int)){k : Nat} (hk : kdC k = 23) {v3 : Int} {σ : Mm} {r : Int} (hl : lv_has ls 4 [(0, .ref (q k)), (3, .int (i32 v3))]) (h : fX1_edgeBetween_50 k v3 σ = some r) : VC p l e rmX1_edgeBetween s m args below meth c D ac q (QIC D ac q xa xv below args s (r, σ)) σ (F0 m 50 ls []) := by
  have h : some v3 = some r := h
  refine v_iload_n C hl dX1_edgeBetween_50 rfl 1 rfl ?_
  exact v_iret C hr (so1 h) dX1_edgeBetween_51
theorem wX1_edgeBetween_30 (C : CxC p rmX1_edgeBetween s m args meth c D ac q xa xv RX1 cX1_edgeBetween 4) (hr : meth.sig.returnType = (some .int)){k : Nat} (hk : kdC k = 23) {v1 : Int} {v2 : Int} {v3 : Int} {c2 : Int → Option (Int)} {σ : Mm} {r : Int} (hc2 : ∀ (v3x : Int) (ls : Array Slot), lv_has ls 4 [(0, .ref (q k)), (1, .int (i32 v1)), (2, .int (i32 v2)), (3, .int (i32 v3x))] → c2 v3x = some r → VC p l e rmX1_edgeBetween s m args below meth c D ac q (QIC D ac q xa xv below args s (r, σ)) σ (F0 m 2 ls [])) (hl : lv_has ls 4 [(0, .ref (q k)), (1, .int (i32 v1)), (2, .int (i32 v2)), (3, .int (i32 v3))]) (h : fX1_edgeBetween_30 k c2 v1 v2 v3 σ = some r) : VC p l e rmX1_edgeBetween s m args below meth c D ac q (QIC D ac q xa xv below args s (r, σ)) σ (F0 m 30 ls []) := by
  have h : chk v3 60 (cr (σ (k + 6) (v3).toNat) (cr v2 ((if σ (k + 6) (v3).toNat = v2 then chk v3 60 (cr (σ (k + 7) (v3).toNat) (cr v1 ((if σ (k + 7) (v3).toNat = v1 then fX1_edgeBetween_50 k v3 σ else fX1_edgeBetween_52 k c2 v1 v2 v3 σ)))) else fX1_edgeBetween_52 k c2 v1 v2 v3 σ)))) = some r := h
  refine v_aload_n C hl dX1_edgeBetween_30 rfl 0 rfl ?_
  refine g_X1_5 C hk fl_X1_30 dX1_edgeBetween_31 ?_
  refine v_iload_n C hl dX1_edgeBetween_34 rfl 3 rfl ?_
  refine alC7 C (kfC23_5 hk) h dX1_edgeBetween_35 (fun h => ?_)
  refine v_iload_n C hl dX1_edgeBetween_36 rfl 2 rfl ?_
  have hz1 := (cr_e h).1
  have h := (cr_e h).2
  have hz2 := (cr_e h).1
  have h := (cr_e h).2
  refine v_icmp_ne C (tgt := 52) hz1 hz2 h dX1_edgeBetween_37 rfl (fun h => ?_) (fun h => ?_)
  · exact wX1_edgeBetween_52 C hr hk hc2 (lv_sub hl [0, 1, 2, 3] rfl) h
  · refine v_aload_n C hl dX1_edgeBetween_40 rfl 0 rfl ?_
    refine g_X1_6 C hk fl_X1_33 dX1_edgeBetween_41 ?_
    refine v_iload_n C hl dX1_edgeBetween_44 rfl 3 rfl ?_
    refine alC7 C (kfC23_6 hk) h dX1_edgeBetween_45 (fun h => ?_)
    refine v_iload_n C hl dX1_edgeBetween_46 rfl 1 rfl ?_
    have hz3 := (cr_e h).1
    have h := (cr_e h).2
    have hz4 := (cr_e h).1
    have h := (cr_e h).2
    refine v_icmp_ne C (tgt := 52) hz3 hz4 h dX1_edgeBetween_47 rfl (fun h => ?_) (fun h => ?_)
    · exact wX1_edgeBetween_52 C hr hk hc2 (lv_sub hl [0, 1, 2, 3] rfl) h
    · exact wX1_edgeBetween_50 C hr hk (lv_sub hl [0, 3] rfl) h
theorem wX1_edgeBetween_2 (C : CxC p rmX1_edgeBetween s m args meth c D ac q xa xv RX1 cX1_edgeBetween 4) (hr : meth.sig.returnType = (some .int)){k : Nat} (hk : kdC k = 23) {v1 : Int} {v2 : Int} {σ : Mm} {v3 : Int} {e2 : Option (Int)} {c2 : Int → Option (Int)} {r : Int} (he2 : ∀ (ls : Array Slot), lv_has ls 4 [(0, .ref (q k))] → e2 = some r → VC p l e rmX1_edgeBetween s m args below meth c D ac q (QIC D ac q xa xv below args s (r, σ)) σ (F0 m 58 ls [])) (hc2 : ∀ (v3x : Int) (ls : Array Slot), lv_has ls 4 [(0, .ref (q k)), (1, .int (i32 v1)), (2, .int (i32 v2)), (3, .int (i32 v3x))] → c2 v3x = some r → VC p l e rmX1_edgeBetween s m args below meth c D ac q (QIC D ac q xa xv below args s (r, σ)) σ (F0 m 2 ls [])) (hl : lv_has ls 4 [(0, .ref (q k)), (1, .int (i32 v1)), (2, .int (i32 v2)), (3, .int (i32 v3))]) (h : fX1_edgeBetween_2 k v1 v2 σ e2 c2 v3 = some r) : VC p l e rmX1_edgeBetween s m args below meth c D ac q (QIC D ac q xa xv below args s (r, σ)) σ (F0 m 2 ls []) := by
  have h : cr v3 (cr (σ k 11) ((if v3 < σ k 11 then chk v3 60 (cr (σ (k + 6) (v3).toNat) (cr v1 ((if σ (k + 6) (v3).toNat = v1 then chk v3 60 (cr (σ (k + 7) (v3).toNat) (cr v2 ((if σ (k + 7) (v3).toNat = v2 then fX1_edgeBetween_50 k v3 σ else fX1_edgeBetween_30 k c2 v1 v2 v3 σ)))) else fX1_edgeBetween_30 k c2 v1 v2 v3 σ)))) else e2))) = some r := h
  refine v_iload_n C hl dX1_edgeBetween_2 rfl 3 rfl ?_
  refine v_aload_n C hl dX1_edgeBetween_3 rfl 0 rfl ?_
  refine g_X1_11 C hk fl_X1_49 dX1_edgeBetween_4 ?_
  have hz1 := (cr_e h).1
  have h := (cr_e h).2
  have hz2 := (cr_e h).1
  have h := (cr_e h).2
  refine v_icmp_ge C (tgt := 58) hz1 hz2 h dX1_edgeBetween_7 rfl (fun h => ?_) (fun h => ?_)
  · exact he2  _ (lv_sub hl [0] rfl) h
  · refine v_aload_n C hl dX1_edgeBetween_10 rfl 0 rfl ?_
    refine g_X1_5 C hk fl_X1_30 dX1_edgeBetween_11 ?_
    refine v_iload_n C hl dX1_edgeBetween_14 rfl 3 rfl ?_
    refine alC7 C (kfC23_5 hk) h dX1_edgeBetween_15 (fun h => ?_)
    refine v_iload_n C hl dX1_edgeBetween_16 rfl 1 rfl ?_
    have hz3 := (cr_e h).1
    have h := (cr_e h).2
    have hz4 := (cr_e h).1
    have h := (cr_e h).2
    refine v_icmp_ne C (tgt := 30) hz3 hz4 h dX1_edgeBetween_17 rfl (fun h => ?_) (fun h => ?_)
    · exact wX1_edgeBetween_30 C hr hk hc2 (lv_sub hl [0, 1, 2, 3] rfl) h
    · refine v_aload_n C hl dX1_edgeBetween_20 rfl 0 rfl ?_
      refine g_X1_6 C hk fl_X1_33 dX1_edgeBetween_21 ?_
      refine v_iload_n C hl dX1_edgeBetween_24 rfl 3 rfl ?_
      refine alC7 C (kfC23_6 hk) h dX1_edgeBetween_25 (fun h => ?_)
      refine v_iload_n C hl dX1_edgeBetween_26 rfl 2 rfl ?_
      have hz5 := (cr_e h).1
      have h := (cr_e h).2
      have hz6 := (cr_e h).1
      have h := (cr_e h).2
      refine v_icmp_eq C (tgt := 50) hz5 hz6 h dX1_edgeBetween_27 rfl (fun h => ?_) (fun h => ?_)
      · exact wX1_edgeBetween_50 C hr hk (lv_sub hl [0, 3] rfl) h
      · exact wX1_edgeBetween_30 C hr hk hc2 (lv_sub hl [0, 1, 2, 3] rfl) h
theorem wlX1_edgeBetween_2 (C : CxC p rmX1_edgeBetween s m args meth c D ac q xa xv RX1 cX1_edgeBetween 4) (hr : meth.sig.returnType = (some .int)){k : Nat} (hk : kdC k = 23) {v1 : Int} {v2 : Int} {σ : Mm} {e2 : Option (Int)} {r : Int} (he2 : ∀ (ls : Array Slot), lv_has ls 4 [(0, .ref (q k))] → e2 = some r → VC p l e rmX1_edgeBetween s m args below meth c D ac q (QIC D ac q xa xv below args s (r, σ)) σ (F0 m 58 ls [])) : ∀ (fu : Nat) (v3 : Int) (ls : Array Slot) (hl : lv_has ls 4 [(0, .ref (q k)), (1, .int (i32 v1)), (2, .int (i32 v2)), (3, .int (i32 v3))]) (h : lX1_edgeBetween_2 k v1 v2 σ e2 fu v3 = some r), VC p l e rmX1_edgeBetween s m args below meth c D ac q (QIC D ac q xa xv below args s (r, σ)) σ (F0 m 2 ls []) := by
  intro fu
  induction fu with
  | zero =>
    intro v3 ls hl h
    have h : none = some r := h
    cases h
  | succ fu ih =>
    intro v3 ls hl h
    exact wX1_edgeBetween_2 C hr hk he2 (fun v3 ls hl h => ih v3 ls hl h) hl h
theorem mX1_edgeBetween (hq : QI 175 q) {k : Nat} {v1 : Int} {v2 : Int} (hk : kdC k = 23) {σ : Mm} {r : Int} (h : fX1_edgeBetween k v1 v2 σ = some r) : MIC l D ac q xa xv yX1_edgeBetween cX1_edgeBetween 4 (some .int) rmX1_edgeBetween [.ref (q k), .int (i32 v1), .int (i32 v2)] σ (r, σ) := by
  refine MI.of hq XC_M (by decide) (Nat.le_of_ble_eq_true rfl) (fun p e s m below meth c ls C hr hl => ?_)
  have hl : lv_has ls 4 [(0, .ref (q k)), (1, .int (i32 v1)), (2, .int (i32 v2))] := hl
  have h : bindv 0 (fun v3_1 => lX1_edgeBetween_2 k v1 v2 σ (fX1_edgeBetween_58 k σ) 400 v3_1) = some r := h
  refine v_iconst C dX1_edgeBetween_0 ?_
  refine v_istore_n C hl (fun x => [(3, .int (i32 x)), (0, .ref (q k)), (1, .int (i32 v1)), (2, .int (i32 v2))]) dX1_edgeBetween_1 rfl (by decide) (fun _ => rfl) h (fun v3_1 ls hl h => ?_)
  exact wlX1_edgeBetween_2 C hr hk (fun ls hl h => wX1_edgeBetween_58 C hr hk (lv_sub hl [0] rfl) h) _ _ _ (lv_sub hl [1, 2, 3, 0] rfl) h
end
section
variable {l : Launch} {D : va_G} {ac : Nat → ClassId} {q xa xv : Nat → Nat} {p : Program} {e : Env} {s : State} {m : MethodId} {args : Array Value} {below : List Frame} {meth : Method} {c : Code} {ls : Array Slot}
theorem dX0_edgeBehind_0 : decode cX0_edgeBehind 0 = .ok (.aload_n 0, 1) := by decide +kernel
theorem dX0_edgeBehind_1 : decode cX0_edgeBehind 1 = .ok (.getfield 27, 3) := by decide +kernel
theorem dX0_edgeBehind_4 : decode cX0_edgeBehind 4 = .ok (.getfield 49, 3) := by decide +kernel
theorem dX0_edgeBehind_7 : decode cX0_edgeBehind 7 = .ok (.iload_n 1, 1) := by decide +kernel
theorem dX0_edgeBehind_8 : decode cX0_edgeBehind 8 = .ok (.aaload, 1) := by decide +kernel
theorem dX0_edgeBehind_9 : decode cX0_edgeBehind 9 = .ok (.astore_n 3, 1) := by decide +kernel
theorem dX0_edgeBehind_10 : decode cX0_edgeBehind 10 = .ok (.aload_n 0, 1) := by decide +kernel
theorem dX0_edgeBehind_11 : decode cX0_edgeBehind 11 = .ok (.getfield 27, 3) := by decide +kernel
theorem dX0_edgeBehind_14 : decode cX0_edgeBehind 14 = .ok (.aload_n 3, 1) := by decide +kernel
theorem dX0_edgeBehind_15 : decode cX0_edgeBehind 15 = .ok (.iload_n 2, 1) := by decide +kernel
theorem dX0_edgeBehind_16 : decode cX0_edgeBehind 16 = .ok (.iaload, 1) := by decide +kernel
theorem dX0_edgeBehind_17 : decode cX0_edgeBehind 17 = .ok (.aload_n 3, 1) := by decide +kernel
theorem dX0_edgeBehind_18 : decode cX0_edgeBehind 18 = .ok (.iload_n 2, 1) := by decide +kernel
theorem dX0_edgeBehind_19 : decode cX0_edgeBehind 19 = .ok (.aload_n 0, 1) := by decide +kernel
theorem dX0_edgeBehind_20 : decode cX0_edgeBehind 20 = .ok (.getfield 27, 3) := by decide +kernel
theorem dX0_edgeBehind_23 : decode cX0_edgeBehind 23 = .ok (.getfield 40, 3) := by decide +kernel
theorem dX0_edgeBehind_26 : decode cX0_edgeBehind 26 = .ok (.iload_n 1, 1) := by decide +kernel
theorem dX0_edgeBehind_27 : decode cX0_edgeBehind 27 = .ok (.iaload, 1) := by decide +kernel
theorem dX0_edgeBehind_28 : decode cX0_edgeBehind 28 = .ok (.invokestatic 52, 3) := by decide +kernel
theorem dX0_edgeBehind_31 : decode cX0_edgeBehind 31 = .ok (.iaload, 1) := by decide +kernel
theorem dX0_edgeBehind_32 : decode cX0_edgeBehind 32 = .ok (.invokevirtual 55, 3) := by decide +kernel
theorem dX0_edgeBehind_35 : decode cX0_edgeBehind 35 = .ok (.ireturn, 1) := by decide +kernel
theorem mX0_edgeBehind (hq : QI 175 q) {v1 : Int} {v2 : Int} {σ : Mm} {r : Int} (h : fX0_edgeBehind v1 v2 σ = some r) : MIC l D ac q xa xv yX0_edgeBehind cX0_edgeBehind 4 (some .int) rmX0_edgeBehind [.ref (q 4), .int (i32 v1), .int (i32 v2)] σ (r, σ) := by
  refine MI.of hq XC_M (by decide) (Nat.le_of_ble_eq_true rfl) (fun p e s m below meth c ls C hr hl => ?_)
  have hl : lv_has ls 4 [(0, .ref (q 4)), (1, .int (i32 v1)), (2, .int (i32 v2))] := hl
  have h : chk v1 6 (chk v2 10 (chk v1 6 (bd (fX7_following v2 (σ 100 (v1).toNat) σ) (fun x_2 => chk x_2 10 (bd (fX1_edgeBetween 95 (σ (105 + (v1).toNat) (v2).toNat) (σ (105 + (v1).toNat) (x_2).toNat) σ) (fun x_3 => some x_3)))))) = some r := h
  refine v_aload_n C hl dX0_edgeBehind_0 rfl 0 rfl ?_
  refine g_X0_0 C kdC_4 fl_X0_27 dX0_edgeBehind_1 ?_
  refine g_X1_3 C kdC_95 fl_X0_49 dX0_edgeBehind_4 ?_
  refine v_iload_n C hl dX0_edgeBehind_7 rfl 1 rfl ?_
  have hi1 := (chk_e h).1
  refine arC24 C kdC_99 h dX0_edgeBehind_8 (fun h => ?_)
  refine v_astore_n C hl ([(3, .ref (q (105 + (v1).toNat))), (0, .ref (q 4)), (1, .int (i32 v1)), (2, .int (i32 v2))]) dX0_edgeBehind_9 rfl (by decide) rfl (fun ls hl => ?_)
  refine v_aload_n C hl dX0_edgeBehind_10 rfl 1 rfl ?_
  refine g_X0_0 C kdC_4 fl_X0_27 dX0_edgeBehind_11 ?_
  refine v_aload_n C hl dX0_edgeBehind_14 rfl 0 rfl ?_
  refine v_iload_n C hl dX0_edgeBehind_15 rfl 3 rfl ?_
  refine alC16 C (keC24 kdC_99 hi1) h dX0_edgeBehind_16 (fun h => ?_)
  refine v_aload_n C hl dX0_edgeBehind_17 rfl 0 rfl ?_
  refine v_iload_n C hl dX0_edgeBehind_18 rfl 3 rfl ?_
  refine v_aload_n C hl dX0_edgeBehind_19 rfl 1 rfl ?_
  refine g_X0_0 C kdC_4 fl_X0_27 dX0_edgeBehind_20 ?_
  refine g_X1_4 C kdC_95 fl_X0_40 dX0_edgeBehind_23 ?_
  refine v_iload_n C hl dX0_edgeBehind_26 rfl 2 rfl ?_
  refine alC14 C kdC_100 h dX0_edgeBehind_27 (fun h => ?_)
  obtain ⟨x_2, hv2, h⟩ := bd_e h
  refine v_callSN C [.int (i32 v2), .int (i32 (σ 100 (v1).toNat))] (mX7_following C.2.2.2.2.1 hv2) cd_X7_following ic_X7 sm_X7_following (nw_X0_52 C) yk_X7_following ⟨rfl, rfl, by decide, by decide⟩ rfl hl.1 (rest := [.ref (q (105 + (v1).toNat)), .int (i32 (σ (105 + (v1).toNat) (v2).toNat)), .ref (q 95)]) rfl (Nat.le_of_ble_eq_true rfl) dX0_edgeBehind_28 ?_
  refine alC16 C (keC24 kdC_99 hi1) h dX0_edgeBehind_31 (fun h => ?_)
  obtain ⟨x_3, hv3, h⟩ := bd_e h
  refine v_callVI C 95 (klC kdC_95) rfl (ckC23 kdC_95 _) rfl [.int (i32 (σ (105 + (v1).toNat) (v2).toNat)), .int (i32 (σ (105 + (v1).toNat) (x_2).toNat))] (mX1_edgeBetween C.2.2.2.2.1 kdC_95 hv3) cd_X1_edgeBetween ic_X1 im_X1_edgeBetween se_X1_edgeBetween ml_X0_55 yk_X1_edgeBetween ⟨rfl, rfl, by decide, by decide⟩ rfl hl.1 (rest := []) rfl (Nat.le_of_ble_eq_true rfl) dX0_edgeBehind_32 ?_
  exact v_iret C hr (so1 h) dX0_edgeBehind_35
end
section
variable {l : Launch} {D : va_G} {ac : Nat → ClassId} {q xa xv : Nat → Nat} {p : Program} {e : Env} {s : State} {m : MethodId} {args : Array Value} {below : List Frame} {meth : Method} {c : Code} {ls : Array Slot}
theorem dX0_firstOf_0 : decode cX0_firstOf 0 = .ok (.aload_n 0, 1) := by decide +kernel
theorem dX0_firstOf_1 : decode cX0_firstOf 1 = .ok (.getfield 11, 3) := by decide +kernel
theorem dX0_firstOf_4 : decode cX0_firstOf 4 = .ok (.iload_n 1, 1) := by decide +kernel
theorem dX0_firstOf_5 : decode cX0_firstOf 5 = .ok (.aaload, 1) := by decide +kernel
theorem dX0_firstOf_6 : decode cX0_firstOf 6 = .ok (.iconst 0, 1) := by decide +kernel
theorem dX0_firstOf_7 : decode cX0_firstOf 7 = .ok (.iaload, 1) := by decide +kernel
theorem dX0_firstOf_8 : decode cX0_firstOf 8 = .ok (.ireturn, 1) := by decide +kernel
theorem mX0_firstOf (hq : QI 175 q) {v1 : Int} {σ : Mm} {r : Int} (h : fX0_firstOf v1 σ = some r) : MIC l D ac q xa xv yX0_firstOf cX0_firstOf 2 (some .int) rmX0_firstOf [.ref (q 4), .int (i32 v1)] σ (r, σ) := by
  refine MI.of hq XC_M (by decide) (Nat.le_of_ble_eq_true rfl) (fun p e s m below meth c ls C hr hl => ?_)
  have hl : lv_has ls 2 [(0, .ref (q 4)), (1, .int (i32 v1))] := hl
  have h : chk v1 60 (chk 0 11 (some (σ (35 + (v1).toNat) 0))) = some r := h
  refine v_aload_n C hl dX0_firstOf_0 rfl 0 rfl ?_
  refine g_X0_1 C kdC_4 fl_X0_11 dX0_firstOf_1 ?_
  refine v_iload_n C hl dX0_firstOf_4 rfl 1 rfl ?_
  have hi1 := (chk_e h).1
  refine arC6 C kdC_5 h dX0_firstOf_5 (fun h => ?_)
  refine v_iconst C dX0_firstOf_6 ?_
  refine alC22 C (keC6 kdC_5 hi1) h dX0_firstOf_7 (fun h => ?_)
  exact v_iret C hr (so1 h) dX0_firstOf_8
end
section
variable {l : Launch} {D : va_G} {ac : Nat → ClassId} {q xa xv : Nat → Nat} {p : Program} {e : Env} {s : State} {m : MethodId} {args : Array Value} {below : List Frame} {meth : Method} {c : Code} {ls : Array Slot}
theorem dX1_isNode_0 : decode cX1_isNode 0 = .ok (.aload_n 0, 1) := by decide +kernel
theorem dX1_isNode_1 : decode cX1_isNode 1 = .ok (.getfield 18, 3) := by decide +kernel
theorem dX1_isNode_4 : decode cX1_isNode 4 = .ok (.iload_n 1, 1) := by decide +kernel
theorem dX1_isNode_5 : decode cX1_isNode 5 = .ok (.baload, 1) := by decide +kernel
theorem dX1_isNode_6 : decode cX1_isNode 6 = .ok (.ifCond .ne 13, 3) := by decide +kernel
theorem dX1_isNode_9 : decode cX1_isNode 9 = .ok (.aload_n 0, 1) := by decide +kernel
theorem dX1_isNode_10 : decode cX1_isNode 10 = .ok (.getfield 39, 3) := by decide +kernel
theorem dX1_isNode_13 : decode cX1_isNode 13 = .ok (.iload_n 1, 1) := by decide +kernel
theorem dX1_isNode_14 : decode cX1_isNode 14 = .ok (.iaload, 1) := by decide +kernel
theorem dX1_isNode_15 : decode cX1_isNode 15 = .ok (.iconst 2, 1) := by decide +kernel
theorem dX1_isNode_16 : decode cX1_isNode 16 = .ok (.if_icmp .eq 7, 3) := by decide +kernel
theorem dX1_isNode_19 : decode cX1_isNode 19 = .ok (.iconst 1, 1) := by decide +kernel
theorem dX1_isNode_20 : decode cX1_isNode 20 = .ok (.goto 4, 3) := by decide +kernel
theorem dX1_isNode_23 : decode cX1_isNode 23 = .ok (.iconst 0, 1) := by decide +kernel
theorem dX1_isNode_24 : decode cX1_isNode 24 = .ok (.ireturn, 1) := by decide +kernel
theorem wX1_isNode_24 (C : CxC p rmX1_isNode s m args meth c D ac q xa xv RX1 cX1_isNode 2) (hr : meth.sig.returnType = (some .boolean)){k : Nat} (hk : kdC k = 23) {t0 : Int} {σ : Mm} {r : Int} (hl : lv_has ls 2 [(0, .ref (q k))]) (h : fX1_isNode_24 k t0 σ = some r) : VC p l e rmX1_isNode s m args below meth c D ac q (QIC D ac q xa xv below args s (r, σ)) σ (F0 m 24 ls [.int (i32 t0)]) := by
  have h : chb t0 (some t0) = some r := h
  have hz1 := (chb_e h).1
  have h := (chb_e h).2
  exact v_zret C hr hz1 (so1 h) dX1_isNode_24
theorem wX1_isNode_19 (C : CxC p rmX1_isNode s m args meth c D ac q xa xv RX1 cX1_isNode 2) (hr : meth.sig.returnType = (some .boolean)){k : Nat} (hk : kdC k = 23) {σ : Mm} {r : Int} (hl : lv_has ls 2 [(0, .ref (q k))]) (h : fX1_isNode_19 k σ = some r) : VC p l e rmX1_isNode s m args below meth c D ac q (QIC D ac q xa xv below args s (r, σ)) σ (F0 m 19 ls []) := by
  have h : fX1_isNode_24 k 1 σ = some r := h
  refine v_iconst C dX1_isNode_19 ?_
  refine v_goto C (tgt := 24) dX1_isNode_20 rfl ?_
  exact wX1_isNode_24 C hr hk (lv_sub hl [0] rfl) h
theorem mX1_isNode (hq : QI 175 q) {k : Nat} {v1 : Int} (hk : kdC k = 23) {σ : Mm} {r : Int} (h : fX1_isNode k v1 σ = some r) : MIC l D ac q xa xv yX1_isNode cX1_isNode 2 (some .boolean) rmX1_isNode [.ref (q k), .int (i32 v1)] σ (r, σ) := by
  refine MI.of hq XC_M (by decide) (Nat.le_of_ble_eq_true rfl) (fun p e s m below meth c ls C hr hl => ?_)
  have hl : lv_has ls 2 [(0, .ref (q k)), (1, .int (i32 v1))] := hl
  have h : chk v1 24 (cr (σ (k + 3) (v1).toNat) ((if σ (k + 3) (v1).toNat = 0 then chk v1 24 (cr (σ (k + 9) (v1).toNat) ((if σ (k + 9) (v1).toNat = 2 then fX1_isNode_24 k 0 σ else fX1_isNode_19 k σ))) else fX1_isNode_19 k σ))) = some r := h
  refine v_aload_n C hl dX1_isNode_0 rfl 0 rfl ?_
  refine g_X1_2 C hk fl_X1_18 dX1_isNode_1 ?_
  refine v_iload_n C hl dX1_isNode_4 rfl 1 rfl ?_
  refine alC15 C (kfC23_2 hk) h dX1_isNode_5 (fun h => ?_)
  have hz1 := (cr_e h).1
  have h := (cr_e h).2
  refine v_if_ne C (tgt := 19) hz1 h dX1_isNode_6 rfl (fun h => ?_) (fun h => ?_)
  · exact wX1_isNode_19 C hr hk (lv_sub hl [0] rfl) h
  · refine v_aload_n C hl dX1_isNode_9 rfl 0 rfl ?_
    refine g_X1_8 C hk fl_X1_39 dX1_isNode_10 ?_
    refine v_iload_n C hl dX1_isNode_13 rfl 1 rfl ?_
    refine alC8 C (kfC23_8 hk) h dX1_isNode_14 (fun h => ?_)
    refine v_iconst C dX1_isNode_15 ?_
    have hz2 := (cr_e h).1
    have h := (cr_e h).2
    refine v_icmp_eq C (tgt := 23) hz2 (by decide) h dX1_isNode_16 rfl (fun h => ?_) (fun h => ?_)
    · refine v_iconst C dX1_isNode_23 ?_
      exact wX1_isNode_24 C hr hk (lv_sub hl [0] rfl) h
    · exact wX1_isNode_19 C hr hk (lv_sub hl [0] rfl) h
end
section
variable {l : Launch} {D : va_G} {ac : Nat → ClassId} {q xa xv : Nat → Nat} {p : Program} {e : Env} {s : State} {m : MethodId} {args : Array Value} {below : List Frame} {meth : Method} {c : Code} {ls : Array Slot}
theorem dX0_lastOf_0 : decode cX0_lastOf 0 = .ok (.aload_n 0, 1) := by decide +kernel
theorem dX0_lastOf_1 : decode cX0_lastOf 1 = .ok (.getfield 16, 3) := by decide +kernel
theorem dX0_lastOf_4 : decode cX0_lastOf 4 = .ok (.iload_n 1, 1) := by decide +kernel
theorem dX0_lastOf_5 : decode cX0_lastOf 5 = .ok (.iaload, 1) := by decide +kernel
theorem dX0_lastOf_6 : decode cX0_lastOf 6 = .ok (.iconst 1, 1) := by decide +kernel
theorem dX0_lastOf_7 : decode cX0_lastOf 7 = .ok (.isub, 1) := by decide +kernel
theorem dX0_lastOf_8 : decode cX0_lastOf 8 = .ok (.istore_n 2, 1) := by decide +kernel
theorem dX0_lastOf_9 : decode cX0_lastOf 9 = .ok (.iload_n 2, 1) := by decide +kernel
theorem dX0_lastOf_10 : decode cX0_lastOf 10 = .ok (.ifCond .le 32, 3) := by decide +kernel
theorem dX0_lastOf_13 : decode cX0_lastOf 13 = .ok (.aload_n 0, 1) := by decide +kernel
theorem dX0_lastOf_14 : decode cX0_lastOf 14 = .ok (.getfield 27, 3) := by decide +kernel
theorem dX0_lastOf_17 : decode cX0_lastOf 17 = .ok (.aload_n 0, 1) := by decide +kernel
theorem dX0_lastOf_18 : decode cX0_lastOf 18 = .ok (.getfield 11, 3) := by decide +kernel
theorem dX0_lastOf_21 : decode cX0_lastOf 21 = .ok (.iload_n 1, 1) := by decide +kernel
theorem dX0_lastOf_22 : decode cX0_lastOf 22 = .ok (.aaload, 1) := by decide +kernel
theorem dX0_lastOf_23 : decode cX0_lastOf 23 = .ok (.iload_n 2, 1) := by decide +kernel
theorem dX0_lastOf_24 : decode cX0_lastOf 24 = .ok (.iaload, 1) := by decide +kernel
theorem dX0_lastOf_25 : decode cX0_lastOf 25 = .ok (.invokevirtual 65, 3) := by decide +kernel
theorem dX0_lastOf_28 : decode cX0_lastOf 28 = .ok (.ifCond .eq 14, 3) := by decide +kernel
theorem dX0_lastOf_31 : decode cX0_lastOf 31 = .ok (.aload_n 0, 1) := by decide +kernel
theorem dX0_lastOf_32 : decode cX0_lastOf 32 = .ok (.getfield 11, 3) := by decide +kernel
theorem dX0_lastOf_35 : decode cX0_lastOf 35 = .ok (.iload_n 1, 1) := by decide +kernel
theorem dX0_lastOf_36 : decode cX0_lastOf 36 = .ok (.aaload, 1) := by decide +kernel
theorem dX0_lastOf_37 : decode cX0_lastOf 37 = .ok (.iload_n 2, 1) := by decide +kernel
theorem dX0_lastOf_38 : decode cX0_lastOf 38 = .ok (.iaload, 1) := by decide +kernel
theorem dX0_lastOf_39 : decode cX0_lastOf 39 = .ok (.goto 11, 3) := by decide +kernel
theorem dX0_lastOf_42 : decode cX0_lastOf 42 = .ok (.aload_n 0, 1) := by decide +kernel
theorem dX0_lastOf_43 : decode cX0_lastOf 43 = .ok (.getfield 11, 3) := by decide +kernel
theorem dX0_lastOf_46 : decode cX0_lastOf 46 = .ok (.iload_n 1, 1) := by decide +kernel
theorem dX0_lastOf_47 : decode cX0_lastOf 47 = .ok (.aaload, 1) := by decide +kernel
theorem dX0_lastOf_48 : decode cX0_lastOf 48 = .ok (.iconst 0, 1) := by decide +kernel
theorem dX0_lastOf_49 : decode cX0_lastOf 49 = .ok (.iaload, 1) := by decide +kernel
theorem dX0_lastOf_50 : decode cX0_lastOf 50 = .ok (.ireturn, 1) := by decide +kernel
theorem wX0_lastOf_50 (C : CxC p rmX0_lastOf s m args meth c D ac q xa xv RX0 cX0_lastOf 3) (hr : meth.sig.returnType = (some .int)) {t0 : Int} {σ : Mm} {r : Int} (hl : lv_has ls 3 [(0, .ref (q 4))]) (h : fX0_lastOf_50 t0 σ = some r) : VC p l e rmX0_lastOf s m args below meth c D ac q (QIC D ac q xa xv below args s (r, σ)) σ (F0 m 50 ls [.int (i32 t0)]) := by
  have h : some t0 = some r := h
  exact v_iret C hr (so1 h) dX0_lastOf_50
theorem wX0_lastOf_42 (C : CxC p rmX0_lastOf s m args meth c D ac q xa xv RX0 cX0_lastOf 3) (hr : meth.sig.returnType = (some .int)) {v1 : Int} {σ : Mm} {r : Int} (hl : lv_has ls 3 [(0, .ref (q 4)), (1, .int (i32 v1))]) (h : fX0_lastOf_42 v1 σ = some r) : VC p l e rmX0_lastOf s m args below meth c D ac q (QIC D ac q xa xv below args s (r, σ)) σ (F0 m 42 ls []) := by
  have h : chk v1 60 (chk 0 11 (fX0_lastOf_50 (σ (35 + (v1).toNat) 0) σ)) = some r := h
  refine v_aload_n C hl dX0_lastOf_42 rfl 0 rfl ?_
  refine g_X0_1 C kdC_4 fl_X0_11 dX0_lastOf_43 ?_
  refine v_iload_n C hl dX0_lastOf_46 rfl 1 rfl ?_
  have hi1 := (chk_e h).1
  refine arC6 C kdC_5 h dX0_lastOf_47 (fun h => ?_)
  refine v_iconst C dX0_lastOf_48 ?_
  refine alC22 C (keC6 kdC_5 hi1) h dX0_lastOf_49 (fun h => ?_)
  exact wX0_lastOf_50 C hr (lv_sub hl [0] rfl) h
theorem mX0_lastOf (hq : QI 175 q) {v1 : Int} {σ : Mm} {r : Int} (h : fX0_lastOf v1 σ = some r) : MIC l D ac q xa xv yX0_lastOf cX0_lastOf 3 (some .int) rmX0_lastOf [.ref (q 4), .int (i32 v1)] σ (r, σ) := by
  refine MI.of hq XC_M (by decide) (Nat.le_of_ble_eq_true rfl) (fun p e s m below meth c ls C hr hl => ?_)
  have hl : lv_has ls 3 [(0, .ref (q 4)), (1, .int (i32 v1))] := hl
  have h : chk v1 60 (bindv ((σ 6 (v1).toNat) - 1) (fun v2_1 => cr v2_1 ((if 0 < v2_1 then chk v1 60 (chk v2_1 11 (bd (fX1_isNode 95 (σ (35 + (v1).toNat) (v2_1).toNat) σ) (fun x_4 => cr x_4 ((if x_4 = 0 then fX0_lastOf_42 v1 σ else chk v1 60 (chk v2_1 11 (fX0_lastOf_50 (σ (35 + (v1).toNat) (v2_1).toNat) σ))))))) else fX0_lastOf_42 v1 σ)))) = some r := h
  refine v_aload_n C hl dX0_lastOf_0 rfl 0 rfl ?_
  refine g_X0_2 C kdC_4 fl_X0_16 dX0_lastOf_1 ?_
  refine v_iload_n C hl dX0_lastOf_4 rfl 1 rfl ?_
  refine alC7 C kdC_6 h dX0_lastOf_5 (fun h => ?_)
  refine v_iconst C dX0_lastOf_6 ?_
  refine v_isub C dX0_lastOf_7 ?_
  refine v_istore_n C hl (fun x => [(2, .int (i32 x)), (0, .ref (q 4)), (1, .int (i32 v1))]) dX0_lastOf_8 rfl (by decide) (fun _ => rfl) h (fun v2_1 ls hl h => ?_)
  refine v_iload_n C hl dX0_lastOf_9 rfl 0 rfl ?_
  have hz2 := (cr_e h).1
  have h := (cr_e h).2
  refine v_if_le C (tgt := 42) hz2 h dX0_lastOf_10 rfl (fun h => ?_) (fun h => ?_)
  · exact wX0_lastOf_42 C hr (lv_sub hl [1, 2] rfl) h
  · refine v_aload_n C hl dX0_lastOf_13 rfl 1 rfl ?_
    refine g_X0_0 C kdC_4 fl_X0_27 dX0_lastOf_14 ?_
    refine v_aload_n C hl dX0_lastOf_17 rfl 1 rfl ?_
    refine g_X0_1 C kdC_4 fl_X0_11 dX0_lastOf_18 ?_
    refine v_iload_n C hl dX0_lastOf_21 rfl 2 rfl ?_
    have hi3 := (chk_e h).1
    refine arC6 C kdC_5 h dX0_lastOf_22 (fun h => ?_)
    refine v_iload_n C hl dX0_lastOf_23 rfl 0 rfl ?_
    refine alC22 C (keC6 kdC_5 hi3) h dX0_lastOf_24 (fun h => ?_)
    obtain ⟨x_4, hv4, h⟩ := bd_e h
    refine v_callVI C 95 (klC kdC_95) rfl (ckC23 kdC_95 _) rfl [.int (i32 (σ (35 + (v1).toNat) (v2_1).toNat))] (mX1_isNode C.2.2.2.2.1 kdC_95 hv4) cd_X1_isNode ic_X1 im_X1_isNode se_X1_isNode ml_X0_65 yk_X1_isNode ⟨rfl, rfl, by decide, by decide⟩ rfl hl.1 (rest := []) rfl (Nat.le_of_ble_eq_true rfl) dX0_lastOf_25 ?_
    have hz5 := (cr_e h).1
    have h := (cr_e h).2
    refine v_if_eq C (tgt := 42) hz5 h dX0_lastOf_28 rfl (fun h => ?_) (fun h => ?_)
    · exact wX0_lastOf_42 C hr (lv_sub hl [1, 2] rfl) h
    · refine v_aload_n C hl dX0_lastOf_31 rfl 1 rfl ?_
      refine g_X0_1 C kdC_4 fl_X0_11 dX0_lastOf_32 ?_
      refine v_iload_n C hl dX0_lastOf_35 rfl 2 rfl ?_
      have hi6 := (chk_e h).1
      refine arC6 C kdC_5 h dX0_lastOf_36 (fun h => ?_)
      refine v_iload_n C hl dX0_lastOf_37 rfl 0 rfl ?_
      refine alC22 C (keC6 kdC_5 hi6) h dX0_lastOf_38 (fun h => ?_)
      refine v_goto C (tgt := 50) dX0_lastOf_39 rfl ?_
      exact wX0_lastOf_50 C hr (lv_sub hl [1] rfl) h
end
section
variable {l : Launch} {D : va_G} {ac : Nat → ClassId} {q xa xv : Nat → Nat} {p : Program} {e : Env} {s : State} {m : MethodId} {args : Array Value} {below : List Frame} {meth : Method} {c : Code} {ls : Array Slot}
theorem dX7_preceding_0 : decode cX7_preceding 0 = .ok (.iload_n 0, 1) := by decide +kernel
theorem dX7_preceding_1 : decode cX7_preceding 1 = .ok (.ifCond .le 9, 3) := by decide +kernel
theorem dX7_preceding_4 : decode cX7_preceding 4 = .ok (.iload_n 0, 1) := by decide +kernel
theorem dX7_preceding_5 : decode cX7_preceding 5 = .ok (.iconst 1, 1) := by decide +kernel
theorem dX7_preceding_6 : decode cX7_preceding 6 = .ok (.isub, 1) := by decide +kernel
theorem dX7_preceding_7 : decode cX7_preceding 7 = .ok (.goto 6, 3) := by decide +kernel
theorem dX7_preceding_10 : decode cX7_preceding 10 = .ok (.iload_n 1, 1) := by decide +kernel
theorem dX7_preceding_11 : decode cX7_preceding 11 = .ok (.iconst 1, 1) := by decide +kernel
theorem dX7_preceding_12 : decode cX7_preceding 12 = .ok (.isub, 1) := by decide +kernel
theorem dX7_preceding_13 : decode cX7_preceding 13 = .ok (.ireturn, 1) := by decide +kernel
theorem wX7_preceding_13 (C : CxC p rmX7_preceding s m args meth c D ac q xa xv RX7 cX7_preceding 2) (hr : meth.sig.returnType = (some .int)) {t0 : Int} {σ : Mm} {r : Int} (hl : lv_has ls 2 []) (h : fX7_preceding_13 t0 σ = some r) : VC p l e rmX7_preceding s m args below meth c D ac q (QIC D ac q xa xv below args s (r, σ)) σ (F0 m 13 ls [.int (i32 t0)]) := by
  have h : some t0 = some r := h
  exact v_iret C hr (so1 h) dX7_preceding_13
theorem mX7_preceding (hq : QI 175 q) {v0 : Int} {v1 : Int} {σ : Mm} {r : Int} (h : fX7_preceding v0 v1 σ = some r) : MIC l D ac q xa xv yX7_preceding cX7_preceding 2 (some .int) rmX7_preceding [.int (i32 v0), .int (i32 v1)] σ (r, σ) := by
  refine MI.of hq XC_M (by decide) (Nat.le_of_ble_eq_true rfl) (fun p e s m below meth c ls C hr hl => ?_)
  have hl : lv_has ls 2 [(0, .int (i32 v0)), (1, .int (i32 v1))] := hl
  have h : cr v0 ((if 0 < v0 then fX7_preceding_13 (v0 - 1) σ else fX7_preceding_13 (v1 - 1) σ)) = some r := h
  refine v_iload_n C hl dX7_preceding_0 rfl 0 rfl ?_
  have hz1 := (cr_e h).1
  have h := (cr_e h).2
  refine v_if_le C (tgt := 10) hz1 h dX7_preceding_1 rfl (fun h => ?_) (fun h => ?_)
  · refine v_iload_n C hl dX7_preceding_10 rfl 1 rfl ?_
    refine v_iconst C dX7_preceding_11 ?_
    refine v_isub C dX7_preceding_12 ?_
    exact wX7_preceding_13 C hr (lv_sub hl [] rfl) h
  · refine v_iload_n C hl dX7_preceding_4 rfl 0 rfl ?_
    refine v_iconst C dX7_preceding_5 ?_
    refine v_isub C dX7_preceding_6 ?_
    refine v_goto C (tgt := 13) dX7_preceding_7 rfl ?_
    exact wX7_preceding_13 C hr (lv_sub hl [] rfl) h
end
section
variable {l : Launch} {D : va_G} {ac : Nat → ClassId} {q xa xv : Nat → Nat} {p : Program} {e : Env} {s : State} {m : MethodId} {args : Array Value} {below : List Frame} {meth : Method} {c : Code} {ls : Array Slot}
theorem dX0_nodeAhead_0 : decode cX0_nodeAhead 0 = .ok (.iload_n 2, 1) := by decide +kernel
theorem dX0_nodeAhead_1 : decode cX0_nodeAhead 1 = .ok (.istore_n 3, 1) := by decide +kernel
theorem dX0_nodeAhead_2 : decode cX0_nodeAhead 2 = .ok (.iconst 0, 1) := by decide +kernel
theorem dX0_nodeAhead_3 : decode cX0_nodeAhead 3 = .ok (.istore 4, 2) := by decide +kernel
theorem dX0_nodeAhead_5 : decode cX0_nodeAhead 5 = .ok (.iload 4, 2) := by decide +kernel
theorem dX0_nodeAhead_7 : decode cX0_nodeAhead 7 = .ok (.aload_n 0, 1) := by decide +kernel
theorem dX0_nodeAhead_8 : decode cX0_nodeAhead 8 = .ok (.getfield 27, 3) := by decide +kernel
theorem dX0_nodeAhead_11 : decode cX0_nodeAhead 11 = .ok (.getfield 40, 3) := by decide +kernel
theorem dX0_nodeAhead_14 : decode cX0_nodeAhead 14 = .ok (.iload_n 1, 1) := by decide +kernel
theorem dX0_nodeAhead_15 : decode cX0_nodeAhead 15 = .ok (.iaload, 1) := by decide +kernel
theorem dX0_nodeAhead_16 : decode cX0_nodeAhead 16 = .ok (.if_icmp .ge 46, 3) := by decide +kernel
theorem dX0_nodeAhead_19 : decode cX0_nodeAhead 19 = .ok (.aload_n 0, 1) := by decide +kernel
theorem dX0_nodeAhead_20 : decode cX0_nodeAhead 20 = .ok (.getfield 27, 3) := by decide +kernel
theorem dX0_nodeAhead_23 : decode cX0_nodeAhead 23 = .ok (.aload_n 0, 1) := by decide +kernel
theorem dX0_nodeAhead_24 : decode cX0_nodeAhead 24 = .ok (.getfield 27, 3) := by decide +kernel
theorem dX0_nodeAhead_27 : decode cX0_nodeAhead 27 = .ok (.getfield 49, 3) := by decide +kernel
theorem dX0_nodeAhead_30 : decode cX0_nodeAhead 30 = .ok (.iload_n 1, 1) := by decide +kernel
theorem dX0_nodeAhead_31 : decode cX0_nodeAhead 31 = .ok (.aaload, 1) := by decide +kernel
theorem dX0_nodeAhead_32 : decode cX0_nodeAhead 32 = .ok (.iload_n 3, 1) := by decide +kernel
theorem dX0_nodeAhead_33 : decode cX0_nodeAhead 33 = .ok (.iaload, 1) := by decide +kernel
theorem dX0_nodeAhead_34 : decode cX0_nodeAhead 34 = .ok (.invokevirtual 65, 3) := by decide +kernel
theorem dX0_nodeAhead_37 : decode cX0_nodeAhead 37 = .ok (.ifCond .eq 5, 3) := by decide +kernel
theorem dX0_nodeAhead_40 : decode cX0_nodeAhead 40 = .ok (.iload_n 3, 1) := by decide +kernel
theorem dX0_nodeAhead_41 : decode cX0_nodeAhead 41 = .ok (.ireturn, 1) := by decide +kernel
theorem dX0_nodeAhead_42 : decode cX0_nodeAhead 42 = .ok (.iload_n 3, 1) := by decide +kernel
theorem dX0_nodeAhead_43 : decode cX0_nodeAhead 43 = .ok (.aload_n 0, 1) := by decide +kernel
theorem dX0_nodeAhead_44 : decode cX0_nodeAhead 44 = .ok (.getfield 27, 3) := by decide +kernel
theorem dX0_nodeAhead_47 : decode cX0_nodeAhead 47 = .ok (.getfield 40, 3) := by decide +kernel
theorem dX0_nodeAhead_50 : decode cX0_nodeAhead 50 = .ok (.iload_n 1, 1) := by decide +kernel
theorem dX0_nodeAhead_51 : decode cX0_nodeAhead 51 = .ok (.iaload, 1) := by decide +kernel
theorem dX0_nodeAhead_52 : decode cX0_nodeAhead 52 = .ok (.invokestatic 69, 3) := by decide +kernel
theorem dX0_nodeAhead_55 : decode cX0_nodeAhead 55 = .ok (.istore_n 3, 1) := by decide +kernel
theorem dX0_nodeAhead_56 : decode cX0_nodeAhead 56 = .ok (.iinc 4 1, 3) := by decide +kernel
theorem dX0_nodeAhead_59 : decode cX0_nodeAhead 59 = .ok (.goto (-54), 3) := by decide +kernel
theorem dX0_nodeAhead_62 : decode cX0_nodeAhead 62 = .ok (.iconst (-1), 1) := by decide +kernel
theorem dX0_nodeAhead_63 : decode cX0_nodeAhead 63 = .ok (.ireturn, 1) := by decide +kernel
theorem wX0_nodeAhead_62 (C : CxC p rmX0_nodeAhead s m args meth c D ac q xa xv RX0 cX0_nodeAhead 5) (hr : meth.sig.returnType = (some .int)) {σ : Mm} {r : Int} (hl : lv_has ls 5 [(0, .ref (q 4))]) (h : fX0_nodeAhead_62 σ = some r) : VC p l e rmX0_nodeAhead s m args below meth c D ac q (QIC D ac q xa xv below args s (r, σ)) σ (F0 m 62 ls []) := by
  have h : some (-1) = some r := h
  refine v_iconst C dX0_nodeAhead_62 ?_
  exact v_iret C hr (so1 h) dX0_nodeAhead_63
theorem wX0_nodeAhead_5 (C : CxC p rmX0_nodeAhead s m args meth c D ac q xa xv RX0 cX0_nodeAhead 5) (hr : meth.sig.returnType = (some .int)) {v1 : Int} {σ : Mm} {v3 : Int} {v4 : Int} {e5 : Option (Int)} {c5 : Int → Int → Option (Int)} {r : Int} (he5 : ∀ (ls : Array Slot), lv_has ls 5 [(0, .ref (q 4))] → e5 = some r → VC p l e rmX0_nodeAhead s m args below meth c D ac q (QIC D ac q xa xv below args s (r, σ)) σ (F0 m 62 ls [])) (hc5 : ∀ (v3x : Int) (v4x : Int) (ls : Array Slot), lv_has ls 5 [(0, .ref (q 4)), (1, .int (i32 v1)), (3, .int (i32 v3x)), (4, .int (i32 v4x))] → c5 v3x v4x = some r → VC p l e rmX0_nodeAhead s m args below meth c D ac q (QIC D ac q xa xv below args s (r, σ)) σ (F0 m 5 ls [])) (hl : lv_has ls 5 [(0, .ref (q 4)), (1, .int (i32 v1)), (3, .int (i32 v3)), (4, .int (i32 v4))]) (h : fX0_nodeAhead_5 v1 σ e5 c5 v3 v4 = some r) : VC p l e rmX0_nodeAhead s m args below meth c D ac q (QIC D ac q xa xv below args s (r, σ)) σ (F0 m 5 ls []) := by
  have h : chk v1 6 (cr v4 (cr (σ 100 (v1).toNat) ((if v4 < σ 100 (v1).toNat then chk v1 6 (chk v3 10 (bd (fX1_isNode 95 (σ (105 + (v1).toNat) (v3).toNat) σ) (fun x_4 => cr x_4 ((if x_4 = 0 then chk v1 6 (bd (fX7_preceding v3 (σ 100 (v1).toNat) σ) (fun x_6 => bindv x_6 (fun v3_7 => bindv (v4 + 1) (fun v4_8 => c5 v3_7 v4_8)))) else some v3))))) else e5)))) = some r := h
  refine v_iload C hl dX0_nodeAhead_5 3 rfl ?_
  refine v_aload_n C hl dX0_nodeAhead_7 rfl 0 rfl ?_
  refine g_X0_0 C kdC_4 fl_X0_27 dX0_nodeAhead_8 ?_
  refine g_X1_4 C kdC_95 fl_X0_40 dX0_nodeAhead_11 ?_
  refine v_iload_n C hl dX0_nodeAhead_14 rfl 1 rfl ?_
  refine alC14 C kdC_100 h dX0_nodeAhead_15 (fun h => ?_)
  have hz1 := (cr_e h).1
  have h := (cr_e h).2
  have hz2 := (cr_e h).1
  have h := (cr_e h).2
  refine v_icmp_ge C (tgt := 62) hz1 hz2 h dX0_nodeAhead_16 rfl (fun h => ?_) (fun h => ?_)
  · exact he5  _ (lv_sub hl [0] rfl) h
  · refine v_aload_n C hl dX0_nodeAhead_19 rfl 0 rfl ?_
    refine g_X0_0 C kdC_4 fl_X0_27 dX0_nodeAhead_20 ?_
    refine v_aload_n C hl dX0_nodeAhead_23 rfl 0 rfl ?_
    refine g_X0_0 C kdC_4 fl_X0_27 dX0_nodeAhead_24 ?_
    refine g_X1_3 C kdC_95 fl_X0_49 dX0_nodeAhead_27 ?_
    refine v_iload_n C hl dX0_nodeAhead_30 rfl 1 rfl ?_
    have hi3 := (chk_e h).1
    refine arC24 C kdC_99 h dX0_nodeAhead_31 (fun h => ?_)
    refine v_iload_n C hl dX0_nodeAhead_32 rfl 2 rfl ?_
    refine alC16 C (keC24 kdC_99 hi3) h dX0_nodeAhead_33 (fun h => ?_)
    obtain ⟨x_4, hv4, h⟩ := bd_e h
    refine v_callVI C 95 (klC kdC_95) rfl (ckC23 kdC_95 _) rfl [.int (i32 (σ (105 + (v1).toNat) (v3).toNat))] (mX1_isNode C.2.2.2.2.1 kdC_95 hv4) cd_X1_isNode ic_X1 im_X1_isNode se_X1_isNode ml_X0_65 yk_X1_isNode ⟨rfl, rfl, by decide, by decide⟩ rfl hl.1 (rest := []) rfl (Nat.le_of_ble_eq_true rfl) dX0_nodeAhead_34 ?_
    have hz5 := (cr_e h).1
    have h := (cr_e h).2
    refine v_if_eq C (tgt := 42) hz5 h dX0_nodeAhead_37 rfl (fun h => ?_) (fun h => ?_)
    · refine v_iload_n C hl dX0_nodeAhead_42 rfl 2 rfl ?_
      refine v_aload_n C hl dX0_nodeAhead_43 rfl 0 rfl ?_
      refine g_X0_0 C kdC_4 fl_X0_27 dX0_nodeAhead_44 ?_
      refine g_X1_4 C kdC_95 fl_X0_40 dX0_nodeAhead_47 ?_
      refine v_iload_n C hl dX0_nodeAhead_50 rfl 1 rfl ?_
      refine alC14 C kdC_100 h dX0_nodeAhead_51 (fun h => ?_)
      obtain ⟨x_6, hv6, h⟩ := bd_e h
      refine v_callSN C [.int (i32 v3), .int (i32 (σ 100 (v1).toNat))] (mX7_preceding C.2.2.2.2.1 hv6) cd_X7_preceding ic_X7 sm_X7_preceding (nw_X0_69 C) yk_X7_preceding ⟨rfl, rfl, by decide, by decide⟩ rfl hl.1 (rest := []) rfl (Nat.le_of_ble_eq_true rfl) dX0_nodeAhead_52 ?_
      refine v_istore_n C hl (fun x => [(3, .int (i32 x)), (0, .ref (q 4)), (1, .int (i32 v1)), (4, .int (i32 v4))]) dX0_nodeAhead_55 rfl (by decide) (fun _ => rfl) h (fun v3_7 ls hl h => ?_)
      refine v_iinc C hl (fun x => [(4, .int (i32 x)), (3, .int (i32 v3_7)), (0, .ref (q 4)), (1, .int (i32 v1))]) dX0_nodeAhead_56 3 rfl (by decide) (fun _ => rfl) h (fun v4_8 ls hl h => ?_)
      refine v_goto C (tgt := 5) dX0_nodeAhead_59 rfl ?_
      exact hc5 _ _ _ (lv_sub hl [2, 3, 1, 0] rfl) h
    · refine v_iload_n C hl dX0_nodeAhead_40 rfl 2 rfl ?_
      exact v_iret C hr (so1 h) dX0_nodeAhead_41
theorem wlX0_nodeAhead_5 (C : CxC p rmX0_nodeAhead s m args meth c D ac q xa xv RX0 cX0_nodeAhead 5) (hr : meth.sig.returnType = (some .int)) {v1 : Int} {σ : Mm} {e5 : Option (Int)} {r : Int} (he5 : ∀ (ls : Array Slot), lv_has ls 5 [(0, .ref (q 4))] → e5 = some r → VC p l e rmX0_nodeAhead s m args below meth c D ac q (QIC D ac q xa xv below args s (r, σ)) σ (F0 m 62 ls [])) : ∀ (fu : Nat) (v3 : Int) (v4 : Int) (ls : Array Slot) (hl : lv_has ls 5 [(0, .ref (q 4)), (1, .int (i32 v1)), (3, .int (i32 v3)), (4, .int (i32 v4))]) (h : lX0_nodeAhead_5 v1 σ e5 fu v3 v4 = some r), VC p l e rmX0_nodeAhead s m args below meth c D ac q (QIC D ac q xa xv below args s (r, σ)) σ (F0 m 5 ls []) := by
  intro fu
  induction fu with
  | zero =>
    intro v3 v4 ls hl h
    have h : none = some r := h
    cases h
  | succ fu ih =>
    intro v3 v4 ls hl h
    exact wX0_nodeAhead_5 C hr he5 (fun v3 v4 ls hl h => ih v3 v4 ls hl h) hl h
theorem mX0_nodeAhead (hq : QI 175 q) {v1 : Int} {v2 : Int} {σ : Mm} {r : Int} (h : fX0_nodeAhead v1 v2 σ = some r) : MIC l D ac q xa xv yX0_nodeAhead cX0_nodeAhead 5 (some .int) rmX0_nodeAhead [.ref (q 4), .int (i32 v1), .int (i32 v2)] σ (r, σ) := by
  refine MI.of hq XC_M (by decide) (Nat.le_of_ble_eq_true rfl) (fun p e s m below meth c ls C hr hl => ?_)
  have hl : lv_has ls 5 [(0, .ref (q 4)), (1, .int (i32 v1)), (2, .int (i32 v2))] := hl
  have h : bindv v2 (fun v3_1 => bindv 0 (fun v4_2 => lX0_nodeAhead_5 v1 σ (fX0_nodeAhead_62 σ) 400 v3_1 v4_2)) = some r := h
  refine v_iload_n C hl dX0_nodeAhead_0 rfl 2 rfl ?_
  refine v_istore_n C hl (fun x => [(3, .int (i32 x)), (0, .ref (q 4)), (1, .int (i32 v1)), (2, .int (i32 v2))]) dX0_nodeAhead_1 rfl (by decide) (fun _ => rfl) h (fun v3_1 ls hl h => ?_)
  refine v_iconst C dX0_nodeAhead_2 ?_
  refine v_istore C hl (fun x => [(4, .int (i32 x)), (3, .int (i32 v3_1)), (0, .ref (q 4)), (1, .int (i32 v1)), (2, .int (i32 v2))]) dX0_nodeAhead_3 (by decide) (fun _ => rfl) h (fun v4_2 ls hl h => ?_)
  exact wlX0_nodeAhead_5 C hr (fun ls hl h => wX0_nodeAhead_62 C hr (lv_sub hl [0] rfl) h) _ _ _ _ (lv_sub hl [2, 3, 1, 0] rfl) h
end
section
variable {l : Launch} {D : va_G} {ac : Nat → ClassId} {q xa xv : Nat → Nat} {p : Program} {e : Env} {s : State} {m : MethodId} {args : Array Value} {below : List Frame} {meth : Method} {c : Code} {ls : Array Slot}
theorem dX7_areNext_0 : decode cX7_areNext 0 = .ok (.iconst 0, 1) := by decide +kernel
theorem dX7_areNext_1 : decode cX7_areNext 1 = .ok (.istore 4, 2) := by decide +kernel
theorem dX7_areNext_3 : decode cX7_areNext 3 = .ok (.iload 4, 2) := by decide +kernel
theorem dX7_areNext_5 : decode cX7_areNext 5 = .ok (.iload_n 1, 1) := by decide +kernel
theorem dX7_areNext_6 : decode cX7_areNext 6 = .ok (.if_icmp .ge 49, 3) := by decide +kernel
theorem dX7_areNext_9 : decode cX7_areNext 9 = .ok (.aload_n 0, 1) := by decide +kernel
theorem dX7_areNext_10 : decode cX7_areNext 10 = .ok (.iload 4, 2) := by decide +kernel
theorem dX7_areNext_12 : decode cX7_areNext 12 = .ok (.iload_n 1, 1) := by decide +kernel
theorem dX7_areNext_13 : decode cX7_areNext 13 = .ok (.invokestatic 262, 3) := by decide +kernel
theorem dX7_areNext_16 : decode cX7_areNext 16 = .ok (.iaload, 1) := by decide +kernel
theorem dX7_areNext_17 : decode cX7_areNext 17 = .ok (.istore 5, 2) := by decide +kernel
theorem dX7_areNext_19 : decode cX7_areNext 19 = .ok (.aload_n 0, 1) := by decide +kernel
theorem dX7_areNext_20 : decode cX7_areNext 20 = .ok (.iload 4, 2) := by decide +kernel
theorem dX7_areNext_22 : decode cX7_areNext 22 = .ok (.iaload, 1) := by decide +kernel
theorem dX7_areNext_23 : decode cX7_areNext 23 = .ok (.iload_n 2, 1) := by decide +kernel
theorem dX7_areNext_24 : decode cX7_areNext 24 = .ok (.if_icmp .ne 9, 3) := by decide +kernel
theorem dX7_areNext_27 : decode cX7_areNext 27 = .ok (.iload 5, 2) := by decide +kernel
theorem dX7_areNext_29 : decode cX7_areNext 29 = .ok (.iload_n 3, 1) := by decide +kernel
theorem dX7_areNext_30 : decode cX7_areNext 30 = .ok (.if_icmp .eq 17, 3) := by decide +kernel
theorem dX7_areNext_33 : decode cX7_areNext 33 = .ok (.aload_n 0, 1) := by decide +kernel
theorem dX7_areNext_34 : decode cX7_areNext 34 = .ok (.iload 4, 2) := by decide +kernel
theorem dX7_areNext_36 : decode cX7_areNext 36 = .ok (.iaload, 1) := by decide +kernel
theorem dX7_areNext_37 : decode cX7_areNext 37 = .ok (.iload_n 3, 1) := by decide +kernel
theorem dX7_areNext_38 : decode cX7_areNext 38 = .ok (.if_icmp .ne 11, 3) := by decide +kernel
theorem dX7_areNext_41 : decode cX7_areNext 41 = .ok (.iload 5, 2) := by decide +kernel
theorem dX7_areNext_43 : decode cX7_areNext 43 = .ok (.iload_n 2, 1) := by decide +kernel
theorem dX7_areNext_44 : decode cX7_areNext 44 = .ok (.if_icmp .ne 5, 3) := by decide +kernel
theorem dX7_areNext_47 : decode cX7_areNext 47 = .ok (.iconst 1, 1) := by decide +kernel
theorem dX7_areNext_48 : decode cX7_areNext 48 = .ok (.ireturn, 1) := by decide +kernel
theorem dX7_areNext_49 : decode cX7_areNext 49 = .ok (.iinc 4 1, 3) := by decide +kernel
theorem dX7_areNext_52 : decode cX7_areNext 52 = .ok (.goto (-49), 3) := by decide +kernel
theorem dX7_areNext_55 : decode cX7_areNext 55 = .ok (.iconst 0, 1) := by decide +kernel
theorem dX7_areNext_56 : decode cX7_areNext 56 = .ok (.ireturn, 1) := by decide +kernel
theorem wX7_areNext_55 (C : CxC p rmX7_areNext s m args meth c D ac q xa xv RX7 cX7_areNext 6) (hr : meth.sig.returnType = (some .boolean)){w0 : Nat} (hw0 : kdC w0 = 16) {σ : Mm} {r : Int} (hl : lv_has ls 6 []) (h : fX7_areNext_55 w0 σ = some r) : VC p l e rmX7_areNext s m args below meth c D ac q (QIC D ac q xa xv below args s (r, σ)) σ (F0 m 55 ls []) := by
  have h : some 0 = some r := h
  refine v_iconst C dX7_areNext_55 ?_
  exact v_zret C hr (Or.inl rfl) (so1 h) dX7_areNext_56
theorem wX7_areNext_49 (C : CxC p rmX7_areNext s m args meth c D ac q xa xv RX7 cX7_areNext 6) (hr : meth.sig.returnType = (some .boolean)){w0 : Nat} (hw0 : kdC w0 = 16) {v1 : Int} {v2 : Int} {v3 : Int} {v4 : Int} {c3 : Int → Option (Int)} {σ : Mm} {r : Int} (hc3 : ∀ (v4x : Int) (ls : Array Slot), lv_has ls 6 [(0, .ref (q w0)), (1, .int (i32 v1)), (2, .int (i32 v2)), (3, .int (i32 v3)), (4, .int (i32 v4x))] → c3 v4x = some r → VC p l e rmX7_areNext s m args below meth c D ac q (QIC D ac q xa xv below args s (r, σ)) σ (F0 m 3 ls [])) (hl : lv_has ls 6 [(0, .ref (q w0)), (1, .int (i32 v1)), (2, .int (i32 v2)), (3, .int (i32 v3)), (4, .int (i32 v4))]) (h : fX7_areNext_49 w0 c3 v1 v2 v3 v4 σ = some r) : VC p l e rmX7_areNext s m args below meth c D ac q (QIC D ac q xa xv below args s (r, σ)) σ (F0 m 49 ls []) := by
  have h : bindv (v4 + 1) (fun v4_1 => c3 v4_1) = some r := h
  refine v_iinc C hl (fun x => [(4, .int (i32 x)), (0, .ref (q w0)), (1, .int (i32 v1)), (2, .int (i32 v2)), (3, .int (i32 v3))]) dX7_areNext_49 4 rfl (by decide) (fun _ => rfl) h (fun v4_1 ls hl h => ?_)
  refine v_goto C (tgt := 3) dX7_areNext_52 rfl ?_
  exact hc3 _ _ (lv_sub hl [1, 2, 3, 4, 0] rfl) h
theorem wX7_areNext_47 (C : CxC p rmX7_areNext s m args meth c D ac q xa xv RX7 cX7_areNext 6) (hr : meth.sig.returnType = (some .boolean)){w0 : Nat} (hw0 : kdC w0 = 16) {σ : Mm} {r : Int} (hl : lv_has ls 6 []) (h : fX7_areNext_47 w0 σ = some r) : VC p l e rmX7_areNext s m args below meth c D ac q (QIC D ac q xa xv below args s (r, σ)) σ (F0 m 47 ls []) := by
  have h : some 1 = some r := h
  refine v_iconst C dX7_areNext_47 ?_
  exact v_zret C hr (Or.inr rfl) (so1 h) dX7_areNext_48
theorem wX7_areNext_33 (C : CxC p rmX7_areNext s m args meth c D ac q xa xv RX7 cX7_areNext 6) (hr : meth.sig.returnType = (some .boolean)){w0 : Nat} (hw0 : kdC w0 = 16) {v1 : Int} {v2 : Int} {v3 : Int} {v4 : Int} {v5 : Int} {c3 : Int → Option (Int)} {σ : Mm} {r : Int} (hc3 : ∀ (v4x : Int) (ls : Array Slot), lv_has ls 6 [(0, .ref (q w0)), (1, .int (i32 v1)), (2, .int (i32 v2)), (3, .int (i32 v3)), (4, .int (i32 v4x))] → c3 v4x = some r → VC p l e rmX7_areNext s m args below meth c D ac q (QIC D ac q xa xv below args s (r, σ)) σ (F0 m 3 ls [])) (hl : lv_has ls 6 [(0, .ref (q w0)), (1, .int (i32 v1)), (2, .int (i32 v2)), (3, .int (i32 v3)), (4, .int (i32 v4)), (5, .int (i32 v5))]) (h : fX7_areNext_33 w0 c3 v1 v2 v3 v4 v5 σ = some r) : VC p l e rmX7_areNext s m args below meth c D ac q (QIC D ac q xa xv below args s (r, σ)) σ (F0 m 33 ls []) := by
  have h : chk v4 10 (cr (σ w0 (v4).toNat) (cr v3 ((if σ w0 (v4).toNat = v3 then cr v5 (cr v2 ((if v5 = v2 then fX7_areNext_47 w0 σ else fX7_areNext_49 w0 c3 v1 v2 v3 v4 σ))) else fX7_areNext_49 w0 c3 v1 v2 v3 v4 σ)))) = some r := h
  refine v_aload_n C hl dX7_areNext_33 rfl 0 rfl ?_
  refine v_iload C hl dX7_areNext_34 4 rfl ?_
  refine alC16 C hw0 h dX7_areNext_36 (fun h => ?_)
  refine v_iload_n C hl dX7_areNext_37 rfl 3 rfl ?_
  have hz1 := (cr_e h).1
  have h := (cr_e h).2
  have hz2 := (cr_e h).1
  have h := (cr_e h).2
  refine v_icmp_ne C (tgt := 49) hz1 hz2 h dX7_areNext_38 rfl (fun h => ?_) (fun h => ?_)
  · exact wX7_areNext_49 C hr hw0 hc3 (lv_sub hl [0, 1, 2, 3, 4] rfl) h
  · refine v_iload C hl dX7_areNext_41 5 rfl ?_
    refine v_iload_n C hl dX7_areNext_43 rfl 2 rfl ?_
    have hz3 := (cr_e h).1
    have h := (cr_e h).2
    have hz4 := (cr_e h).1
    have h := (cr_e h).2
    refine v_icmp_ne C (tgt := 49) hz3 hz4 h dX7_areNext_44 rfl (fun h => ?_) (fun h => ?_)
    · exact wX7_areNext_49 C hr hw0 hc3 (lv_sub hl [0, 1, 2, 3, 4] rfl) h
    · exact wX7_areNext_47 C hr hw0 (lv_sub hl [] rfl) h
theorem wX7_areNext_3 (C : CxC p rmX7_areNext s m args meth c D ac q xa xv RX7 cX7_areNext 6) (hr : meth.sig.returnType = (some .boolean)){w0 : Nat} (hw0 : kdC w0 = 16) {v1 : Int} {v2 : Int} {v3 : Int} {σ : Mm} {v4 : Int} {e3 : Option (Int)} {c3 : Int → Option (Int)} {r : Int} (he3 : ∀ (ls : Array Slot), lv_has ls 6 [] → e3 = some r → VC p l e rmX7_areNext s m args below meth c D ac q (QIC D ac q xa xv below args s (r, σ)) σ (F0 m 55 ls [])) (hc3 : ∀ (v4x : Int) (ls : Array Slot), lv_has ls 6 [(0, .ref (q w0)), (1, .int (i32 v1)), (2, .int (i32 v2)), (3, .int (i32 v3)), (4, .int (i32 v4x))] → c3 v4x = some r → VC p l e rmX7_areNext s m args below meth c D ac q (QIC D ac q xa xv below args s (r, σ)) σ (F0 m 3 ls [])) (hl : lv_has ls 6 [(0, .ref (q w0)), (1, .int (i32 v1)), (2, .int (i32 v2)), (3, .int (i32 v3)), (4, .int (i32 v4))]) (h : fX7_areNext_3 w0 v1 v2 v3 σ e3 c3 v4 = some r) : VC p l e rmX7_areNext s m args below meth c D ac q (QIC D ac q xa xv below args s (r, σ)) σ (F0 m 3 ls []) := by
  have h : cr v4 (cr v1 ((if v4 < v1 then bd (fX7_following v4 v1 σ) (fun x_3 => chk x_3 10 (bindv (σ w0 (x_3).toNat) (fun v5_4 => chk v4 10 (cr (σ w0 (v4).toNat) (cr v2 ((if σ w0 (v4).toNat = v2 then cr v5_4 (cr v3 ((if v5_4 = v3 then fX7_areNext_47 w0 σ else fX7_areNext_33 w0 c3 v1 v2 v3 v4 v5_4 σ))) else fX7_areNext_33 w0 c3 v1 v2 v3 v4 v5_4 σ))))))) else e3))) = some r := h
  refine v_iload C hl dX7_areNext_3 4 rfl ?_
  refine v_iload_n C hl dX7_areNext_5 rfl 1 rfl ?_
  have hz1 := (cr_e h).1
  have h := (cr_e h).2
  have hz2 := (cr_e h).1
  have h := (cr_e h).2
  refine v_icmp_ge C (tgt := 55) hz1 hz2 h dX7_areNext_6 rfl (fun h => ?_) (fun h => ?_)
  · exact he3  _ (lv_sub hl [] rfl) h
  · refine v_aload_n C hl dX7_areNext_9 rfl 0 rfl ?_
    refine v_iload C hl dX7_areNext_10 4 rfl ?_
    refine v_iload_n C hl dX7_areNext_12 rfl 1 rfl ?_
    obtain ⟨x_3, hv3, h⟩ := bd_e h
    refine v_callSI C [.int (i32 v4), .int (i32 v1)] (mX7_following C.2.2.2.2.1 hv3) cd_X7_following ic_X7 sm_X7_following ml_X7_262 yk_X7_following ⟨rfl, rfl, by decide, by decide⟩ rfl hl.1 (rest := [.ref (q w0)]) rfl (Nat.le_of_ble_eq_true rfl) dX7_areNext_13 ?_
    refine alC16 C hw0 h dX7_areNext_16 (fun h => ?_)
    refine v_istore C hl (fun x => [(5, .int (i32 x)), (0, .ref (q w0)), (1, .int (i32 v1)), (2, .int (i32 v2)), (3, .int (i32 v3)), (4, .int (i32 v4))]) dX7_areNext_17 (by decide) (fun _ => rfl) h (fun v5_4 ls hl h => ?_)
    refine v_aload_n C hl dX7_areNext_19 rfl 1 rfl ?_
    refine v_iload C hl dX7_areNext_20 5 rfl ?_
    refine alC16 C hw0 h dX7_areNext_22 (fun h => ?_)
    refine v_iload_n C hl dX7_areNext_23 rfl 3 rfl ?_
    have hz5 := (cr_e h).1
    have h := (cr_e h).2
    have hz6 := (cr_e h).1
    have h := (cr_e h).2
    refine v_icmp_ne C (tgt := 33) hz5 hz6 h dX7_areNext_24 rfl (fun h => ?_) (fun h => ?_)
    · exact wX7_areNext_33 C hr hw0 hc3 (lv_sub hl [1, 2, 3, 4, 5, 0] rfl) h
    · refine v_iload C hl dX7_areNext_27 0 rfl ?_
      refine v_iload_n C hl dX7_areNext_29 rfl 4 rfl ?_
      have hz7 := (cr_e h).1
      have h := (cr_e h).2
      have hz8 := (cr_e h).1
      have h := (cr_e h).2
      refine v_icmp_eq C (tgt := 47) hz7 hz8 h dX7_areNext_30 rfl (fun h => ?_) (fun h => ?_)
      · exact wX7_areNext_47 C hr hw0 (lv_sub hl [] rfl) h
      · exact wX7_areNext_33 C hr hw0 hc3 (lv_sub hl [1, 2, 3, 4, 5, 0] rfl) h
theorem wlX7_areNext_3 (C : CxC p rmX7_areNext s m args meth c D ac q xa xv RX7 cX7_areNext 6) (hr : meth.sig.returnType = (some .boolean)){w0 : Nat} (hw0 : kdC w0 = 16) {v1 : Int} {v2 : Int} {v3 : Int} {σ : Mm} {e3 : Option (Int)} {r : Int} (he3 : ∀ (ls : Array Slot), lv_has ls 6 [] → e3 = some r → VC p l e rmX7_areNext s m args below meth c D ac q (QIC D ac q xa xv below args s (r, σ)) σ (F0 m 55 ls [])) : ∀ (fu : Nat) (v4 : Int) (ls : Array Slot) (hl : lv_has ls 6 [(0, .ref (q w0)), (1, .int (i32 v1)), (2, .int (i32 v2)), (3, .int (i32 v3)), (4, .int (i32 v4))]) (h : lX7_areNext_3 w0 v1 v2 v3 σ e3 fu v4 = some r), VC p l e rmX7_areNext s m args below meth c D ac q (QIC D ac q xa xv below args s (r, σ)) σ (F0 m 3 ls []) := by
  intro fu
  induction fu with
  | zero =>
    intro v4 ls hl h
    have h : none = some r := h
    cases h
  | succ fu ih =>
    intro v4 ls hl h
    exact wX7_areNext_3 C hr hw0 he3 (fun v4 ls hl h => ih v4 ls hl h) hl h
theorem mX7_areNext (hq : QI 175 q) {w0 : Nat} {v1 : Int} {v2 : Int} {v3 : Int} (hw0 : kdC w0 = 16) {σ : Mm} {r : Int} (h : fX7_areNext w0 v1 v2 v3 σ = some r) : MIC l D ac q xa xv yX7_areNext cX7_areNext 6 (some .boolean) rmX7_areNext [.ref (q w0), .int (i32 v1), .int (i32 v2), .int (i32 v3)] σ (r, σ) := by
  refine MI.of hq XC_M (by decide) (Nat.le_of_ble_eq_true rfl) (fun p e s m below meth c ls C hr hl => ?_)
  have hl : lv_has ls 6 [(0, .ref (q w0)), (1, .int (i32 v1)), (2, .int (i32 v2)), (3, .int (i32 v3))] := hl
  have h : bindv 0 (fun v4_1 => lX7_areNext_3 w0 v1 v2 v3 σ (fX7_areNext_55 w0 σ) 400 v4_1) = some r := h
  refine v_iconst C dX7_areNext_0 ?_
  refine v_istore C hl (fun x => [(4, .int (i32 x)), (0, .ref (q w0)), (1, .int (i32 v1)), (2, .int (i32 v2)), (3, .int (i32 v3))]) dX7_areNext_1 (by decide) (fun _ => rfl) h (fun v4_1 ls hl h => ?_)
  exact wlX7_areNext_3 C hr hw0 (fun ls hl h => wX7_areNext_55 C hr hw0 (lv_sub hl [] rfl) h) _ _ _ (lv_sub hl [1, 2, 3, 4, 0] rfl) h
end
section
variable {l : Launch} {D : va_G} {ac : Nat → ClassId} {q xa xv : Nat → Nat} {p : Program} {e : Env} {s : State} {m : MethodId} {args : Array Value} {below : List Frame} {meth : Method} {c : Code} {ls : Array Slot}
theorem dX0_ringHas_0 : decode cX0_ringHas 0 = .ok (.aload_n 0, 1) := by decide +kernel
theorem dX0_ringHas_1 : decode cX0_ringHas 1 = .ok (.getfield 27, 3) := by decide +kernel
theorem dX0_ringHas_4 : decode cX0_ringHas 4 = .ok (.getfield 49, 3) := by decide +kernel
theorem dX0_ringHas_7 : decode cX0_ringHas 7 = .ok (.iload_n 1, 1) := by decide +kernel
theorem dX0_ringHas_8 : decode cX0_ringHas 8 = .ok (.aaload, 1) := by decide +kernel
theorem dX0_ringHas_9 : decode cX0_ringHas 9 = .ok (.aload_n 0, 1) := by decide +kernel
theorem dX0_ringHas_10 : decode cX0_ringHas 10 = .ok (.getfield 27, 3) := by decide +kernel
theorem dX0_ringHas_13 : decode cX0_ringHas 13 = .ok (.getfield 40, 3) := by decide +kernel
theorem dX0_ringHas_16 : decode cX0_ringHas 16 = .ok (.iload_n 1, 1) := by decide +kernel
theorem dX0_ringHas_17 : decode cX0_ringHas 17 = .ok (.iaload, 1) := by decide +kernel
theorem dX0_ringHas_18 : decode cX0_ringHas 18 = .ok (.iload_n 2, 1) := by decide +kernel
theorem dX0_ringHas_19 : decode cX0_ringHas 19 = .ok (.iload_n 3, 1) := by decide +kernel
theorem dX0_ringHas_20 : decode cX0_ringHas 20 = .ok (.invokestatic 79, 3) := by decide +kernel
theorem dX0_ringHas_23 : decode cX0_ringHas 23 = .ok (.ireturn, 1) := by decide +kernel
theorem mX0_ringHas (hq : QI 175 q) {v1 : Int} {v2 : Int} {v3 : Int} {σ : Mm} {r : Int} (h : fX0_ringHas v1 v2 v3 σ = some r) : MIC l D ac q xa xv yX0_ringHas cX0_ringHas 4 (some .boolean) rmX0_ringHas [.ref (q 4), .int (i32 v1), .int (i32 v2), .int (i32 v3)] σ (r, σ) := by
  refine MI.of hq XC_M (by decide) (Nat.le_of_ble_eq_true rfl) (fun p e s m below meth c ls C hr hl => ?_)
  have hl : lv_has ls 4 [(0, .ref (q 4)), (1, .int (i32 v1)), (2, .int (i32 v2)), (3, .int (i32 v3))] := hl
  have h : chk v1 6 (chk v1 6 (bd (fX7_areNext (105 + (v1).toNat) (σ 100 (v1).toNat) v2 v3 σ) (fun x_2 => chb x_2 (some x_2)))) = some r := h
  refine v_aload_n C hl dX0_ringHas_0 rfl 0 rfl ?_
  refine g_X0_0 C kdC_4 fl_X0_27 dX0_ringHas_1 ?_
  refine g_X1_3 C kdC_95 fl_X0_49 dX0_ringHas_4 ?_
  refine v_iload_n C hl dX0_ringHas_7 rfl 1 rfl ?_
  have hi1 := (chk_e h).1
  refine arC24 C kdC_99 h dX0_ringHas_8 (fun h => ?_)
  refine v_aload_n C hl dX0_ringHas_9 rfl 0 rfl ?_
  refine g_X0_0 C kdC_4 fl_X0_27 dX0_ringHas_10 ?_
  refine g_X1_4 C kdC_95 fl_X0_40 dX0_ringHas_13 ?_
  refine v_iload_n C hl dX0_ringHas_16 rfl 1 rfl ?_
  refine alC14 C kdC_100 h dX0_ringHas_17 (fun h => ?_)
  refine v_iload_n C hl dX0_ringHas_18 rfl 2 rfl ?_
  refine v_iload_n C hl dX0_ringHas_19 rfl 3 rfl ?_
  obtain ⟨x_2, hv2, h⟩ := bd_e h
  refine v_callSN C [.ref (q (105 + (v1).toNat)), .int (i32 (σ 100 (v1).toNat)), .int (i32 v2), .int (i32 v3)] (mX7_areNext C.2.2.2.2.1 (keC24 kdC_99 hi1) hv2) cd_X7_areNext ic_X7 sm_X7_areNext (nw_X0_79 C) yk_X7_areNext ⟨rfl, rfl, by decide, by decide⟩ rfl hl.1 (rest := []) rfl (Nat.le_of_ble_eq_true rfl) dX0_ringHas_20 ?_
  have hz3 := (chb_e h).1
  have h := (chb_e h).2
  exact v_zret C hr hz3 (so1 h) dX0_ringHas_23
end
section
variable {l : Launch} {D : va_G} {ac : Nat → ClassId} {q xa xv : Nat → Nat} {p : Program} {e : Env} {s : State} {m : MethodId} {args : Array Value} {below : List Frame} {meth : Method} {c : Code} {ls : Array Slot}
theorem dX0_ringOf_0 : decode cX0_ringOf 0 = .ok (.iconst 0, 1) := by decide +kernel
theorem dX0_ringOf_1 : decode cX0_ringOf 1 = .ok (.istore_n 3, 1) := by decide +kernel
theorem dX0_ringOf_2 : decode cX0_ringOf 2 = .ok (.iconst 0, 1) := by decide +kernel
theorem dX0_ringOf_3 : decode cX0_ringOf 3 = .ok (.istore 4, 2) := by decide +kernel
theorem dX0_ringOf_5 : decode cX0_ringOf 5 = .ok (.iload 4, 2) := by decide +kernel
theorem dX0_ringOf_7 : decode cX0_ringOf 7 = .ok (.aload_n 0, 1) := by decide +kernel
theorem dX0_ringOf_8 : decode cX0_ringOf 8 = .ok (.getfield 27, 3) := by decide +kernel
theorem dX0_ringOf_11 : decode cX0_ringOf 11 = .ok (.getfield 35, 3) := by decide +kernel
theorem dX0_ringOf_14 : decode cX0_ringOf 14 = .ok (.if_icmp .ge 45, 3) := by decide +kernel
theorem dX0_ringOf_17 : decode cX0_ringOf 17 = .ok (.aload_n 0, 1) := by decide +kernel
theorem dX0_ringOf_18 : decode cX0_ringOf 18 = .ok (.iload 4, 2) := by decide +kernel
theorem dX0_ringOf_20 : decode cX0_ringOf 20 = .ok (.aload_n 0, 1) := by decide +kernel
theorem dX0_ringOf_21 : decode cX0_ringOf 21 = .ok (.getfield 11, 3) := by decide +kernel
theorem dX0_ringOf_24 : decode cX0_ringOf 24 = .ok (.iload_n 1, 1) := by decide +kernel
theorem dX0_ringOf_25 : decode cX0_ringOf 25 = .ok (.aaload, 1) := by decide +kernel
theorem dX0_ringOf_26 : decode cX0_ringOf 26 = .ok (.iconst 0, 1) := by decide +kernel
theorem dX0_ringOf_27 : decode cX0_ringOf 27 = .ok (.iaload, 1) := by decide +kernel
theorem dX0_ringOf_28 : decode cX0_ringOf 28 = .ok (.aload_n 0, 1) := by decide +kernel
theorem dX0_ringOf_29 : decode cX0_ringOf 29 = .ok (.getfield 11, 3) := by decide +kernel
theorem dX0_ringOf_32 : decode cX0_ringOf 32 = .ok (.iload_n 1, 1) := by decide +kernel
theorem dX0_ringOf_33 : decode cX0_ringOf 33 = .ok (.aaload, 1) := by decide +kernel
theorem dX0_ringOf_34 : decode cX0_ringOf 34 = .ok (.iconst 1, 1) := by decide +kernel
theorem dX0_ringOf_35 : decode cX0_ringOf 35 = .ok (.iaload, 1) := by decide +kernel
theorem dX0_ringOf_36 : decode cX0_ringOf 36 = .ok (.invokevirtual 75, 3) := by decide +kernel
theorem dX0_ringOf_39 : decode cX0_ringOf 39 = .ok (.ifCond .eq 14, 3) := by decide +kernel
theorem dX0_ringOf_42 : decode cX0_ringOf 42 = .ok (.iload_n 3, 1) := by decide +kernel
theorem dX0_ringOf_43 : decode cX0_ringOf 43 = .ok (.iload_n 2, 1) := by decide +kernel
theorem dX0_ringOf_44 : decode cX0_ringOf 44 = .ok (.if_icmp .ne 6, 3) := by decide +kernel
theorem dX0_ringOf_47 : decode cX0_ringOf 47 = .ok (.iload 4, 2) := by decide +kernel
theorem dX0_ringOf_49 : decode cX0_ringOf 49 = .ok (.ireturn, 1) := by decide +kernel
theorem dX0_ringOf_50 : decode cX0_ringOf 50 = .ok (.iinc 3 1, 3) := by decide +kernel
theorem dX0_ringOf_53 : decode cX0_ringOf 53 = .ok (.iinc 4 1, 3) := by decide +kernel
theorem dX0_ringOf_56 : decode cX0_ringOf 56 = .ok (.goto (-51), 3) := by decide +kernel
theorem dX0_ringOf_59 : decode cX0_ringOf 59 = .ok (.bipush (-4), 2) := by decide +kernel
theorem dX0_ringOf_61 : decode cX0_ringOf 61 = .ok (.ireturn, 1) := by decide +kernel
theorem wX0_ringOf_59 (C : CxC p rmX0_ringOf s m args meth c D ac q xa xv RX0 cX0_ringOf 5) (hr : meth.sig.returnType = (some .int)) {σ : Mm} {r : Int} (hl : lv_has ls 5 [(0, .ref (q 4))]) (h : fX0_ringOf_59 σ = some r) : VC p l e rmX0_ringOf s m args below meth c D ac q (QIC D ac q xa xv below args s (r, σ)) σ (F0 m 59 ls []) := by
  have h : some (-4) = some r := h
  refine v_bipush C dX0_ringOf_59 rfl ?_
  exact v_iret C hr (so1 h) dX0_ringOf_61
theorem wX0_ringOf_53 (C : CxC p rmX0_ringOf s m args meth c D ac q xa xv RX0 cX0_ringOf 5) (hr : meth.sig.returnType = (some .int)) {v1 : Int} {v2 : Int} {v3 : Int} {v4 : Int} {c5 : Int → Int → Option (Int)} {σ : Mm} {r : Int} (hc5 : ∀ (v3x : Int) (v4x : Int) (ls : Array Slot), lv_has ls 5 [(0, .ref (q 4)), (1, .int (i32 v1)), (2, .int (i32 v2)), (3, .int (i32 v3x)), (4, .int (i32 v4x))] → c5 v3x v4x = some r → VC p l e rmX0_ringOf s m args below meth c D ac q (QIC D ac q xa xv below args s (r, σ)) σ (F0 m 5 ls [])) (hl : lv_has ls 5 [(0, .ref (q 4)), (1, .int (i32 v1)), (2, .int (i32 v2)), (3, .int (i32 v3)), (4, .int (i32 v4))]) (h : fX0_ringOf_53 c5 v1 v2 v3 v4 σ = some r) : VC p l e rmX0_ringOf s m args below meth c D ac q (QIC D ac q xa xv below args s (r, σ)) σ (F0 m 53 ls []) := by
  have h : bindv (v4 + 1) (fun v4_1 => c5 v3 v4_1) = some r := h
  refine v_iinc C hl (fun x => [(4, .int (i32 x)), (0, .ref (q 4)), (1, .int (i32 v1)), (2, .int (i32 v2)), (3, .int (i32 v3))]) dX0_ringOf_53 4 rfl (by decide) (fun _ => rfl) h (fun v4_1 ls hl h => ?_)
  refine v_goto C (tgt := 5) dX0_ringOf_56 rfl ?_
  exact hc5 _ _ _ (lv_sub hl [1, 2, 3, 4, 0] rfl) h
theorem wX0_ringOf_5 (C : CxC p rmX0_ringOf s m args meth c D ac q xa xv RX0 cX0_ringOf 5) (hr : meth.sig.returnType = (some .int)) {v1 : Int} {v2 : Int} {σ : Mm} {v3 : Int} {v4 : Int} {e5 : Option (Int)} {c5 : Int → Int → Option (Int)} {r : Int} (he5 : ∀ (ls : Array Slot), lv_has ls 5 [(0, .ref (q 4))] → e5 = some r → VC p l e rmX0_ringOf s m args below meth c D ac q (QIC D ac q xa xv below args s (r, σ)) σ (F0 m 59 ls [])) (hc5 : ∀ (v3x : Int) (v4x : Int) (ls : Array Slot), lv_has ls 5 [(0, .ref (q 4)), (1, .int (i32 v1)), (2, .int (i32 v2)), (3, .int (i32 v3x)), (4, .int (i32 v4x))] → c5 v3x v4x = some r → VC p l e rmX0_ringOf s m args below meth c D ac q (QIC D ac q xa xv below args s (r, σ)) σ (F0 m 5 ls [])) (hl : lv_has ls 5 [(0, .ref (q 4)), (1, .int (i32 v1)), (2, .int (i32 v2)), (3, .int (i32 v3)), (4, .int (i32 v4))]) (h : fX0_ringOf_5 v1 v2 σ e5 c5 v3 v4 = some r) : VC p l e rmX0_ringOf s m args below meth c D ac q (QIC D ac q xa xv below args s (r, σ)) σ (F0 m 5 ls []) := by
  have h : cr v4 (cr (σ 95 10) ((if v4 < σ 95 10 then chk v1 60 (chk 0 11 (chk v1 60 (chk 1 11 (bd (fX0_ringHas v4 (σ (35 + (v1).toNat) 0) (σ (35 + (v1).toNat) 1) σ) (fun x_5 => cr x_5 ((if x_5 = 0 then fX0_ringOf_53 c5 v1 v2 v3 v4 σ else cr v3 (cr v2 ((if v3 = v2 then some v4 else bindv (v3 + 1) (fun v3_9 => fX0_ringOf_53 c5 v1 v2 v3_9 v4 σ))))))))))) else e5))) = some r := h
  refine v_iload C hl dX0_ringOf_5 4 rfl ?_
  refine v_aload_n C hl dX0_ringOf_7 rfl 0 rfl ?_
  refine g_X0_0 C kdC_4 fl_X0_27 dX0_ringOf_8 ?_
  refine g_X1_10 C kdC_95 fl_X0_35 dX0_ringOf_11 ?_
  have hz1 := (cr_e h).1
  have h := (cr_e h).2
  have hz2 := (cr_e h).1
  have h := (cr_e h).2
  refine v_icmp_ge C (tgt := 59) hz1 hz2 h dX0_ringOf_14 rfl (fun h => ?_) (fun h => ?_)
  · exact he5  _ (lv_sub hl [0] rfl) h
  · refine v_aload_n C hl dX0_ringOf_17 rfl 0 rfl ?_
    refine v_iload C hl dX0_ringOf_18 4 rfl ?_
    refine v_aload_n C hl dX0_ringOf_20 rfl 0 rfl ?_
    refine g_X0_1 C kdC_4 fl_X0_11 dX0_ringOf_21 ?_
    refine v_iload_n C hl dX0_ringOf_24 rfl 1 rfl ?_
    have hi3 := (chk_e h).1
    refine arC6 C kdC_5 h dX0_ringOf_25 (fun h => ?_)
    refine v_iconst C dX0_ringOf_26 ?_
    refine alC22 C (keC6 kdC_5 hi3) h dX0_ringOf_27 (fun h => ?_)
    refine v_aload_n C hl dX0_ringOf_28 rfl 0 rfl ?_
    refine g_X0_1 C kdC_4 fl_X0_11 dX0_ringOf_29 ?_
    refine v_iload_n C hl dX0_ringOf_32 rfl 1 rfl ?_
    have hi4 := (chk_e h).1
    refine arC6 C kdC_5 h dX0_ringOf_33 (fun h => ?_)
    refine v_iconst C dX0_ringOf_34 ?_
    refine alC22 C (keC6 kdC_5 hi4) h dX0_ringOf_35 (fun h => ?_)
    obtain ⟨x_5, hv5, h⟩ := bd_e h
    refine v_callVI C 4 (klC kdC_4) rfl (ckC5 kdC_4 _) rfl [.int (i32 v4), .int (i32 (σ (35 + (v1).toNat) 0)), .int (i32 (σ (35 + (v1).toNat) 1))] (mX0_ringHas C.2.2.2.2.1 hv5) cd_X0_ringHas ic_X0 im_X0_ringHas se_X0_ringHas ml_X0_75 yk_X0_ringHas ⟨rfl, rfl, by decide, by decide⟩ rfl hl.1 (rest := []) rfl (Nat.le_of_ble_eq_true rfl) dX0_ringOf_36 ?_
    have hz6 := (cr_e h).1
    have h := (cr_e h).2
    refine v_if_eq C (tgt := 53) hz6 h dX0_ringOf_39 rfl (fun h => ?_) (fun h => ?_)
    · exact wX0_ringOf_53 C hr hc5 (lv_sub hl [0, 1, 2, 3, 4] rfl) h
    · refine v_iload_n C hl dX0_ringOf_42 rfl 3 rfl ?_
      refine v_iload_n C hl dX0_ringOf_43 rfl 2 rfl ?_
      have hz7 := (cr_e h).1
      have h := (cr_e h).2
      have hz8 := (cr_e h).1
      have h := (cr_e h).2
      refine v_icmp_ne C (tgt := 50) hz7 hz8 h dX0_ringOf_44 rfl (fun h => ?_) (fun h => ?_)
      · refine v_iinc C hl (fun x => [(3, .int (i32 x)), (0, .ref (q 4)), (1, .int (i32 v1)), (2, .int (i32 v2)), (4, .int (i32 v4))]) dX0_ringOf_50 3 rfl (by decide) (fun _ => rfl) h (fun v3_9 ls hl h => ?_)
        exact wX0_ringOf_53 C hr hc5 (lv_sub hl [1, 2, 3, 0, 4] rfl) h
      · refine v_iload C hl dX0_ringOf_47 4 rfl ?_
        exact v_iret C hr (so1 h) dX0_ringOf_49
theorem wlX0_ringOf_5 (C : CxC p rmX0_ringOf s m args meth c D ac q xa xv RX0 cX0_ringOf 5) (hr : meth.sig.returnType = (some .int)) {v1 : Int} {v2 : Int} {σ : Mm} {e5 : Option (Int)} {r : Int} (he5 : ∀ (ls : Array Slot), lv_has ls 5 [(0, .ref (q 4))] → e5 = some r → VC p l e rmX0_ringOf s m args below meth c D ac q (QIC D ac q xa xv below args s (r, σ)) σ (F0 m 59 ls [])) : ∀ (fu : Nat) (v3 : Int) (v4 : Int) (ls : Array Slot) (hl : lv_has ls 5 [(0, .ref (q 4)), (1, .int (i32 v1)), (2, .int (i32 v2)), (3, .int (i32 v3)), (4, .int (i32 v4))]) (h : lX0_ringOf_5 v1 v2 σ e5 fu v3 v4 = some r), VC p l e rmX0_ringOf s m args below meth c D ac q (QIC D ac q xa xv below args s (r, σ)) σ (F0 m 5 ls []) := by
  intro fu
  induction fu with
  | zero =>
    intro v3 v4 ls hl h
    have h : none = some r := h
    cases h
  | succ fu ih =>
    intro v3 v4 ls hl h
    exact wX0_ringOf_5 C hr he5 (fun v3 v4 ls hl h => ih v3 v4 ls hl h) hl h
theorem mX0_ringOf (hq : QI 175 q) {v1 : Int} {v2 : Int} {σ : Mm} {r : Int} (h : fX0_ringOf v1 v2 σ = some r) : MIC l D ac q xa xv yX0_ringOf cX0_ringOf 5 (some .int) rmX0_ringOf [.ref (q 4), .int (i32 v1), .int (i32 v2)] σ (r, σ) := by
  refine MI.of hq XC_M (by decide) (Nat.le_of_ble_eq_true rfl) (fun p e s m below meth c ls C hr hl => ?_)
  have hl : lv_has ls 5 [(0, .ref (q 4)), (1, .int (i32 v1)), (2, .int (i32 v2))] := hl
  have h : bindv 0 (fun v3_1 => bindv 0 (fun v4_2 => lX0_ringOf_5 v1 v2 σ (fX0_ringOf_59 σ) 400 v3_1 v4_2)) = some r := h
  refine v_iconst C dX0_ringOf_0 ?_
  refine v_istore_n C hl (fun x => [(3, .int (i32 x)), (0, .ref (q 4)), (1, .int (i32 v1)), (2, .int (i32 v2))]) dX0_ringOf_1 rfl (by decide) (fun _ => rfl) h (fun v3_1 ls hl h => ?_)
  refine v_iconst C dX0_ringOf_2 ?_
  refine v_istore C hl (fun x => [(4, .int (i32 x)), (3, .int (i32 v3_1)), (0, .ref (q 4)), (1, .int (i32 v1)), (2, .int (i32 v2))]) dX0_ringOf_3 (by decide) (fun _ => rfl) h (fun v4_2 ls hl h => ?_)
  exact wlX0_ringOf_5 C hr (fun ls hl h => wX0_ringOf_59 C hr (lv_sub hl [0] rfl) h) _ _ _ _ (lv_sub hl [2, 3, 4, 1, 0] rfl) h
end
section
variable {l : Launch} {D : va_G} {ac : Nat → ClassId} {q xa xv : Nat → Nat} {p : Program} {e : Env} {s : State} {m : MethodId} {args : Array Value} {below : List Frame} {meth : Method} {c : Code} {ls : Array Slot}
theorem dX0_ringsOf_0 : decode cX0_ringsOf 0 = .ok (.aload_n 0, 1) := by decide +kernel
theorem dX0_ringsOf_1 : decode cX0_ringsOf 1 = .ok (.getfield 27, 3) := by decide +kernel
theorem dX0_ringsOf_4 : decode cX0_ringsOf 4 = .ok (.aload_n 0, 1) := by decide +kernel
theorem dX0_ringsOf_5 : decode cX0_ringsOf 5 = .ok (.getfield 11, 3) := by decide +kernel
theorem dX0_ringsOf_8 : decode cX0_ringsOf 8 = .ok (.iload_n 1, 1) := by decide +kernel
theorem dX0_ringsOf_9 : decode cX0_ringsOf 9 = .ok (.aaload, 1) := by decide +kernel
theorem dX0_ringsOf_10 : decode cX0_ringsOf 10 = .ok (.iconst 0, 1) := by decide +kernel
theorem dX0_ringsOf_11 : decode cX0_ringsOf 11 = .ok (.iaload, 1) := by decide +kernel
theorem dX0_ringsOf_12 : decode cX0_ringsOf 12 = .ok (.aload_n 0, 1) := by decide +kernel
theorem dX0_ringsOf_13 : decode cX0_ringsOf 13 = .ok (.getfield 11, 3) := by decide +kernel
theorem dX0_ringsOf_16 : decode cX0_ringsOf 16 = .ok (.iload_n 1, 1) := by decide +kernel
theorem dX0_ringsOf_17 : decode cX0_ringsOf 17 = .ok (.aaload, 1) := by decide +kernel
theorem dX0_ringsOf_18 : decode cX0_ringsOf 18 = .ok (.iconst 1, 1) := by decide +kernel
theorem dX0_ringsOf_19 : decode cX0_ringsOf 19 = .ok (.iaload, 1) := by decide +kernel
theorem dX0_ringsOf_20 : decode cX0_ringsOf 20 = .ok (.invokevirtual 55, 3) := by decide +kernel
theorem dX0_ringsOf_23 : decode cX0_ringsOf 23 = .ok (.istore_n 2, 1) := by decide +kernel
theorem dX0_ringsOf_24 : decode cX0_ringsOf 24 = .ok (.iload_n 2, 1) := by decide +kernel
theorem dX0_ringsOf_25 : decode cX0_ringsOf 25 = .ok (.ifCond .lt 15, 3) := by decide +kernel
theorem dX0_ringsOf_28 : decode cX0_ringsOf 28 = .ok (.aload_n 0, 1) := by decide +kernel
theorem dX0_ringsOf_29 : decode cX0_ringsOf 29 = .ok (.getfield 27, 3) := by decide +kernel
theorem dX0_ringsOf_32 : decode cX0_ringsOf 32 = .ok (.getfield 72, 3) := by decide +kernel
theorem dX0_ringsOf_35 : decode cX0_ringsOf 35 = .ok (.iload_n 2, 1) := by decide +kernel
theorem dX0_ringsOf_36 : decode cX0_ringsOf 36 = .ok (.iaload, 1) := by decide +kernel
theorem dX0_ringsOf_37 : decode cX0_ringsOf 37 = .ok (.goto 4, 3) := by decide +kernel
theorem dX0_ringsOf_40 : decode cX0_ringsOf 40 = .ok (.iconst 0, 1) := by decide +kernel
theorem dX0_ringsOf_41 : decode cX0_ringsOf 41 = .ok (.ireturn, 1) := by decide +kernel
theorem wX0_ringsOf_41 (C : CxC p rmX0_ringsOf s m args meth c D ac q xa xv RX0 cX0_ringsOf 3) (hr : meth.sig.returnType = (some .int)) {t0 : Int} {σ : Mm} {r : Int} (hl : lv_has ls 3 [(0, .ref (q 4))]) (h : fX0_ringsOf_41 t0 σ = some r) : VC p l e rmX0_ringsOf s m args below meth c D ac q (QIC D ac q xa xv below args s (r, σ)) σ (F0 m 41 ls [.int (i32 t0)]) := by
  have h : some t0 = some r := h
  exact v_iret C hr (so1 h) dX0_ringsOf_41
theorem mX0_ringsOf (hq : QI 175 q) {v1 : Int} {σ : Mm} {r : Int} (h : fX0_ringsOf v1 σ = some r) : MIC l D ac q xa xv yX0_ringsOf cX0_ringsOf 3 (some .int) rmX0_ringsOf [.ref (q 4), .int (i32 v1)] σ (r, σ) := by
  refine MI.of hq XC_M (by decide) (Nat.le_of_ble_eq_true rfl) (fun p e s m below meth c ls C hr hl => ?_)
  have hl : lv_has ls 3 [(0, .ref (q 4)), (1, .int (i32 v1))] := hl
  have h : chk v1 60 (chk 0 11 (chk v1 60 (chk 1 11 (bd (fX1_edgeBetween 95 (σ (35 + (v1).toNat) 0) (σ (35 + (v1).toNat) 1) σ) (fun x_3 => bindv x_3 (fun v2_4 => cr v2_4 ((if v2_4 < 0 then fX0_ringsOf_41 0 σ else chk v2_4 60 (fX0_ringsOf_41 (σ 103 (v2_4).toNat) σ))))))))) = some r := h
  refine v_aload_n C hl dX0_ringsOf_0 rfl 0 rfl ?_
  refine g_X0_0 C kdC_4 fl_X0_27 dX0_ringsOf_1 ?_
  refine v_aload_n C hl dX0_ringsOf_4 rfl 0 rfl ?_
  refine g_X0_1 C kdC_4 fl_X0_11 dX0_ringsOf_5 ?_
  refine v_iload_n C hl dX0_ringsOf_8 rfl 1 rfl ?_
  have hi1 := (chk_e h).1
  refine arC6 C kdC_5 h dX0_ringsOf_9 (fun h => ?_)
  refine v_iconst C dX0_ringsOf_10 ?_
  refine alC22 C (keC6 kdC_5 hi1) h dX0_ringsOf_11 (fun h => ?_)
  refine v_aload_n C hl dX0_ringsOf_12 rfl 0 rfl ?_
  refine g_X0_1 C kdC_4 fl_X0_11 dX0_ringsOf_13 ?_
  refine v_iload_n C hl dX0_ringsOf_16 rfl 1 rfl ?_
  have hi2 := (chk_e h).1
  refine arC6 C kdC_5 h dX0_ringsOf_17 (fun h => ?_)
  refine v_iconst C dX0_ringsOf_18 ?_
  refine alC22 C (keC6 kdC_5 hi2) h dX0_ringsOf_19 (fun h => ?_)
  obtain ⟨x_3, hv3, h⟩ := bd_e h
  refine v_callVI C 95 (klC kdC_95) rfl (ckC23 kdC_95 _) rfl [.int (i32 (σ (35 + (v1).toNat) 0)), .int (i32 (σ (35 + (v1).toNat) 1))] (mX1_edgeBetween C.2.2.2.2.1 kdC_95 hv3) cd_X1_edgeBetween ic_X1 im_X1_edgeBetween se_X1_edgeBetween ml_X0_55 yk_X1_edgeBetween ⟨rfl, rfl, by decide, by decide⟩ rfl hl.1 (rest := []) rfl (Nat.le_of_ble_eq_true rfl) dX0_ringsOf_20 ?_
  refine v_istore_n C hl (fun x => [(2, .int (i32 x)), (0, .ref (q 4)), (1, .int (i32 v1))]) dX0_ringsOf_23 rfl (by decide) (fun _ => rfl) h (fun v2_4 ls hl h => ?_)
  refine v_iload_n C hl dX0_ringsOf_24 rfl 0 rfl ?_
  have hz5 := (cr_e h).1
  have h := (cr_e h).2
  refine v_if_lt C (tgt := 40) hz5 h dX0_ringsOf_25 rfl (fun h => ?_) (fun h => ?_)
  · refine v_iconst C dX0_ringsOf_40 ?_
    exact wX0_ringsOf_41 C hr (lv_sub hl [1] rfl) h
  · refine v_aload_n C hl dX0_ringsOf_28 rfl 1 rfl ?_
    refine g_X0_0 C kdC_4 fl_X0_27 dX0_ringsOf_29 ?_
    refine g_X1_7 C kdC_95 fl_X0_72 dX0_ringsOf_32 ?_
    refine v_iload_n C hl dX0_ringsOf_35 rfl 0 rfl ?_
    refine alC7 C kdC_103 h dX0_ringsOf_36 (fun h => ?_)
    refine v_goto C (tgt := 41) dX0_ringsOf_37 rfl ?_
    exact wX0_ringsOf_41 C hr (lv_sub hl [1] rfl) h
end
section
variable {l : Launch} {D : va_G} {ac : Nat → ClassId} {q xa xv : Nat → Nat} {p : Program} {e : Env} {s : State} {m : MethodId} {args : Array Value} {below : List Frame} {meth : Method} {c : Code} {ls : Array Slot}
theorem dX0_traceArc_0 : decode cX0_traceArc 0 = .ok (.aload_n 0, 1) := by decide +kernel
theorem dX0_traceArc_1 : decode cX0_traceArc 1 = .ok (.getfield 27, 3) := by decide +kernel
theorem dX0_traceArc_4 : decode cX0_traceArc 4 = .ok (.getfield 40, 3) := by decide +kernel
theorem dX0_traceArc_7 : decode cX0_traceArc 7 = .ok (.iload_n 1, 1) := by decide +kernel
theorem dX0_traceArc_8 : decode cX0_traceArc 8 = .ok (.iaload, 1) := by decide +kernel
theorem dX0_traceArc_9 : decode cX0_traceArc 9 = .ok (.istore_n 3, 1) := by decide +kernel
theorem dX0_traceArc_10 : decode cX0_traceArc 10 = .ok (.aload_n 0, 1) := by decide +kernel
theorem dX0_traceArc_11 : decode cX0_traceArc 11 = .ok (.iload_n 1, 1) := by decide +kernel
theorem dX0_traceArc_12 : decode cX0_traceArc 12 = .ok (.iload_n 2, 1) := by decide +kernel
theorem dX0_traceArc_13 : decode cX0_traceArc 13 = .ok (.invokevirtual 58, 3) := by decide +kernel
theorem dX0_traceArc_16 : decode cX0_traceArc 16 = .ok (.istore 4, 2) := by decide +kernel
theorem dX0_traceArc_18 : decode cX0_traceArc 18 = .ok (.iload 4, 2) := by decide +kernel
theorem dX0_traceArc_20 : decode cX0_traceArc 20 = .ok (.ifCond .ge 7, 3) := by decide +kernel
theorem dX0_traceArc_23 : decode cX0_traceArc 23 = .ok (.iconst 1, 1) := by decide +kernel
theorem dX0_traceArc_24 : decode cX0_traceArc 24 = .ok (.goto 4, 3) := by decide +kernel
theorem dX0_traceArc_27 : decode cX0_traceArc 27 = .ok (.iconst 0, 1) := by decide +kernel
theorem dX0_traceArc_28 : decode cX0_traceArc 28 = .ok (.istore 5, 2) := by decide +kernel
theorem dX0_traceArc_30 : decode cX0_traceArc 30 = .ok (.iload 5, 2) := by decide +kernel
theorem dX0_traceArc_32 : decode cX0_traceArc 32 = .ok (.ifCond .eq 7, 3) := by decide +kernel
theorem dX0_traceArc_35 : decode cX0_traceArc 35 = .ok (.iconst 0, 1) := by decide +kernel
theorem dX0_traceArc_36 : decode cX0_traceArc 36 = .ok (.goto 5, 3) := by decide +kernel
theorem dX0_traceArc_39 : decode cX0_traceArc 39 = .ok (.iload 4, 2) := by decide +kernel
theorem dX0_traceArc_41 : decode cX0_traceArc 41 = .ok (.istore 6, 2) := by decide +kernel
theorem dX0_traceArc_43 : decode cX0_traceArc 43 = .ok (.aload_n 0, 1) := by decide +kernel
theorem dX0_traceArc_44 : decode cX0_traceArc 44 = .ok (.getfield 16, 3) := by decide +kernel
theorem dX0_traceArc_47 : decode cX0_traceArc 47 = .ok (.aload_n 0, 1) := by decide +kernel
theorem dX0_traceArc_48 : decode cX0_traceArc 48 = .ok (.getfield 31, 3) := by decide +kernel
theorem dX0_traceArc_51 : decode cX0_traceArc 51 = .ok (.iconst 0, 1) := by decide +kernel
theorem dX0_traceArc_52 : decode cX0_traceArc 52 = .ok (.iastore, 1) := by decide +kernel
theorem dX0_traceArc_53 : decode cX0_traceArc 53 = .ok (.aload_n 0, 1) := by decide +kernel
theorem dX0_traceArc_54 : decode cX0_traceArc 54 = .ok (.aload_n 0, 1) := by decide +kernel
theorem dX0_traceArc_55 : decode cX0_traceArc 55 = .ok (.getfield 27, 3) := by decide +kernel
theorem dX0_traceArc_58 : decode cX0_traceArc 58 = .ok (.getfield 49, 3) := by decide +kernel
theorem dX0_traceArc_61 : decode cX0_traceArc 61 = .ok (.iload_n 1, 1) := by decide +kernel
theorem dX0_traceArc_62 : decode cX0_traceArc 62 = .ok (.aaload, 1) := by decide +kernel
theorem dX0_traceArc_63 : decode cX0_traceArc 63 = .ok (.iload 6, 2) := by decide +kernel
theorem dX0_traceArc_65 : decode cX0_traceArc 65 = .ok (.iaload, 1) := by decide +kernel
theorem dX0_traceArc_66 : decode cX0_traceArc 66 = .ok (.invokevirtual 61, 3) := by decide +kernel
theorem dX0_traceArc_69 : decode cX0_traceArc 69 = .ok (.iconst 1, 1) := by decide +kernel
theorem dX0_traceArc_70 : decode cX0_traceArc 70 = .ok (.istore 7, 2) := by decide +kernel
theorem dX0_traceArc_72 : decode cX0_traceArc 72 = .ok (.iload 7, 2) := by decide +kernel
theorem dX0_traceArc_74 : decode cX0_traceArc 74 = .ok (.iload_n 3, 1) := by decide +kernel
theorem dX0_traceArc_75 : decode cX0_traceArc 75 = .ok (.if_icmp .gt 94, 3) := by decide +kernel
theorem dX0_traceArc_78 : decode cX0_traceArc 78 = .ok (.aload_n 0, 1) := by decide +kernel
theorem dX0_traceArc_79 : decode cX0_traceArc 79 = .ok (.iload_n 1, 1) := by decide +kernel
theorem dX0_traceArc_80 : decode cX0_traceArc 80 = .ok (.iload 6, 2) := by decide +kernel
theorem dX0_traceArc_82 : decode cX0_traceArc 82 = .ok (.invokevirtual 41, 3) := by decide +kernel
theorem dX0_traceArc_85 : decode cX0_traceArc 85 = .ok (.istore 8, 2) := by decide +kernel
theorem dX0_traceArc_87 : decode cX0_traceArc 87 = .ok (.iload 8, 2) := by decide +kernel
theorem dX0_traceArc_89 : decode cX0_traceArc 89 = .ok (.ifCond .lt 11, 3) := by decide +kernel
theorem dX0_traceArc_92 : decode cX0_traceArc 92 = .ok (.aload_n 0, 1) := by decide +kernel
theorem dX0_traceArc_93 : decode cX0_traceArc 93 = .ok (.getfield 23, 3) := by decide +kernel
theorem dX0_traceArc_96 : decode cX0_traceArc 96 = .ok (.iload 8, 2) := by decide +kernel
theorem dX0_traceArc_98 : decode cX0_traceArc 98 = .ok (.iconst 1, 1) := by decide +kernel
theorem dX0_traceArc_99 : decode cX0_traceArc 99 = .ok (.bastore, 1) := by decide +kernel
theorem dX0_traceArc_100 : decode cX0_traceArc 100 = .ok (.iload 6, 2) := by decide +kernel
theorem dX0_traceArc_102 : decode cX0_traceArc 102 = .ok (.iload_n 3, 1) := by decide +kernel
theorem dX0_traceArc_103 : decode cX0_traceArc 103 = .ok (.invokestatic 52, 3) := by decide +kernel
theorem dX0_traceArc_106 : decode cX0_traceArc 106 = .ok (.istore 6, 2) := by decide +kernel
theorem dX0_traceArc_108 : decode cX0_traceArc 108 = .ok (.iload 5, 2) := by decide +kernel
theorem dX0_traceArc_110 : decode cX0_traceArc 110 = .ok (.ifCond .eq 12, 3) := by decide +kernel
theorem dX0_traceArc_113 : decode cX0_traceArc 113 = .ok (.iload 7, 2) := by decide +kernel
theorem dX0_traceArc_115 : decode cX0_traceArc 115 = .ok (.iload_n 3, 1) := by decide +kernel
theorem dX0_traceArc_116 : decode cX0_traceArc 116 = .ok (.if_icmp .ne 6, 3) := by decide +kernel
theorem dX0_traceArc_119 : decode cX0_traceArc 119 = .ok (.goto 50, 3) := by decide +kernel
theorem dX0_traceArc_122 : decode cX0_traceArc 122 = .ok (.aload_n 0, 1) := by decide +kernel
theorem dX0_traceArc_123 : decode cX0_traceArc 123 = .ok (.aload_n 0, 1) := by decide +kernel
theorem dX0_traceArc_124 : decode cX0_traceArc 124 = .ok (.getfield 27, 3) := by decide +kernel
theorem dX0_traceArc_127 : decode cX0_traceArc 127 = .ok (.getfield 49, 3) := by decide +kernel
theorem dX0_traceArc_130 : decode cX0_traceArc 130 = .ok (.iload_n 1, 1) := by decide +kernel
theorem dX0_traceArc_131 : decode cX0_traceArc 131 = .ok (.aaload, 1) := by decide +kernel
theorem dX0_traceArc_132 : decode cX0_traceArc 132 = .ok (.iload 6, 2) := by decide +kernel
theorem dX0_traceArc_134 : decode cX0_traceArc 134 = .ok (.iaload, 1) := by decide +kernel
theorem dX0_traceArc_135 : decode cX0_traceArc 135 = .ok (.invokevirtual 61, 3) := by decide +kernel
theorem dX0_traceArc_138 : decode cX0_traceArc 138 = .ok (.aload_n 0, 1) := by decide +kernel
theorem dX0_traceArc_139 : decode cX0_traceArc 139 = .ok (.getfield 27, 3) := by decide +kernel
theorem dX0_traceArc_142 : decode cX0_traceArc 142 = .ok (.aload_n 0, 1) := by decide +kernel
theorem dX0_traceArc_143 : decode cX0_traceArc 143 = .ok (.getfield 27, 3) := by decide +kernel
theorem dX0_traceArc_146 : decode cX0_traceArc 146 = .ok (.getfield 49, 3) := by decide +kernel
theorem dX0_traceArc_149 : decode cX0_traceArc 149 = .ok (.iload_n 1, 1) := by decide +kernel
theorem dX0_traceArc_150 : decode cX0_traceArc 150 = .ok (.aaload, 1) := by decide +kernel
theorem dX0_traceArc_151 : decode cX0_traceArc 151 = .ok (.iload 6, 2) := by decide +kernel
theorem dX0_traceArc_153 : decode cX0_traceArc 153 = .ok (.iaload, 1) := by decide +kernel
theorem dX0_traceArc_154 : decode cX0_traceArc 154 = .ok (.invokevirtual 65, 3) := by decide +kernel
theorem dX0_traceArc_157 : decode cX0_traceArc 157 = .ok (.ifCond .eq 6, 3) := by decide +kernel
theorem dX0_traceArc_160 : decode cX0_traceArc 160 = .ok (.goto 9, 3) := by decide +kernel
theorem dX0_traceArc_163 : decode cX0_traceArc 163 = .ok (.iinc 7 1, 3) := by decide +kernel
theorem dX0_traceArc_166 : decode cX0_traceArc 166 = .ok (.goto (-94), 3) := by decide +kernel
theorem dX0_traceArc_169 : decode cX0_traceArc 169 = .ok (.aload_n 0, 1) := by decide +kernel
theorem dX0_traceArc_170 : decode cX0_traceArc 170 = .ok (.dup, 1) := by decide +kernel
theorem dX0_traceArc_171 : decode cX0_traceArc 171 = .ok (.getfield 31, 3) := by decide +kernel
theorem dX0_traceArc_174 : decode cX0_traceArc 174 = .ok (.iconst 1, 1) := by decide +kernel
theorem dX0_traceArc_175 : decode cX0_traceArc 175 = .ok (.iadd, 1) := by decide +kernel
theorem dX0_traceArc_176 : decode cX0_traceArc 176 = .ok (.putfield 31, 3) := by decide +kernel
theorem dX0_traceArc_179 : decode cX0_traceArc 179 = .ok (.return_, 1) := by decide +kernel
theorem wX0_traceArc_169 (C : CxC p rmX0_traceArc s m args meth c D ac q xa xv RX0 cX0_traceArc 9) (hr : meth.sig.returnType = none) {σ : Mm} {r : Mm} (hl : lv_has ls 9 [(0, .ref (q 4))]) (h : fX0_traceArc_169 σ = some r) : VC p l e rmX0_traceArc s m args below meth c D ac q (QVC D ac q xa xv below args s r) σ (F0 m 169 ls []) := by
  have h : bindv (sto σ 4 5 ((σ 4 5) + 1)) (fun σ_1 => some σ_1) = some r := h
  refine v_aload_n C hl dX0_traceArc_169 rfl 0 rfl ?_
  refine v_dup C dX0_traceArc_170 rfl ?_
  refine g_X0_5 C kdC_4 fl_X0_31 dX0_traceArc_171 ?_
  refine v_iconst C dX0_traceArc_174 ?_
  refine v_iadd C dX0_traceArc_175 ?_
  refine s_X0_5 C kdC_4 fl_X0_31 h dX0_traceArc_176 (fun σ_1 h => ?_)
  exact v_vret C hr h dX0_traceArc_179
theorem wX0_traceArc_122 (C : CxC p rmX0_traceArc s m args meth c D ac q xa xv RX0 cX0_traceArc 9) (hr : meth.sig.returnType = none) {v1 : Int} {v3 : Int} {v5 : Int} {v6 : Int} {v7 : Int} {c72 : Int → Int → Mm → Option (Mm)} {e72 : Mm → Option (Mm)} {σ : Mm} {r : Mm} (hc72 : ∀ (v6x : Int) (v7x : Int) (σ : Mm) (ls : Array Slot), lv_has ls 9 [(0, .ref (q 4)), (1, .int (i32 v1)), (3, .int (i32 v3)), (5, .int (i32 v5)), (6, .int (i32 v6x)), (7, .int (i32 v7x))] → c72 v6x v7x σ = some r → VC p l e rmX0_traceArc s m args below meth c D ac q (QVC D ac q xa xv below args s r) σ (F0 m 72 ls [])) (he72 : ∀ (σ : Mm) (ls : Array Slot), lv_has ls 9 [(0, .ref (q 4))] → e72 σ = some r → VC p l e rmX0_traceArc s m args below meth c D ac q (QVC D ac q xa xv below args s r) σ (F0 m 169 ls [])) (hl : lv_has ls 9 [(0, .ref (q 4)), (1, .int (i32 v1)), (3, .int (i32 v3)), (5, .int (i32 v5)), (6, .int (i32 v6)), (7, .int (i32 v7))]) (h : fX0_traceArc_122 c72 e72 v1 v3 v5 v6 v7 σ = some r) : VC p l e rmX0_traceArc s m args below meth c D ac q (QVC D ac q xa xv below args s r) σ (F0 m 122 ls []) := by
  have h : chk v1 6 (chk v6 10 (bd (fX0_append (σ (105 + (v1).toNat) (v6).toNat) σ) (fun σ_2 => chk v1 6 (chk v6 10 (bd (fX1_isNode 95 (σ_2 (105 + (v1).toNat) (v6).toNat) σ_2) (fun x_4 => cr x_4 ((if x_4 = 0 then bindv (v7 + 1) (fun v7_6 => c72 v6 v7_6 σ_2) else e72 σ_2)))))))) = some r := h
  refine v_aload_n C hl dX0_traceArc_122 rfl 0 rfl ?_
  refine v_aload_n C hl dX0_traceArc_123 rfl 0 rfl ?_
  refine g_X0_0 C kdC_4 fl_X0_27 dX0_traceArc_124 ?_
  refine g_X1_3 C kdC_95 fl_X0_49 dX0_traceArc_127 ?_
  refine v_iload_n C hl dX0_traceArc_130 rfl 1 rfl ?_
  have hi1 := (chk_e h).1
  refine arC24 C kdC_99 h dX0_traceArc_131 (fun h => ?_)
  refine v_iload C hl dX0_traceArc_132 4 rfl ?_
  refine alC16 C (keC24 kdC_99 hi1) h dX0_traceArc_134 (fun h => ?_)
  obtain ⟨σ_2, hv2, h⟩ := bd_e h
  refine v_callVV C 4 (klC kdC_4) rfl (ckC5 kdC_4 _) rfl [.int (i32 (σ (105 + (v1).toNat) (v6).toNat))] (mX0_append C.2.2.2.2.1 hv2) cd_X0_append ic_X0 im_X0_append se_X0_append ml_X0_61 yk_X0_append ⟨rfl, rfl, by decide, by decide⟩ rfl hl.1 (rest := []) rfl (Nat.le_of_ble_eq_true rfl) dX0_traceArc_135 ?_
  refine v_aload_n C hl dX0_traceArc_138 rfl 0 rfl ?_
  refine g_X0_0 C kdC_4 fl_X0_27 dX0_traceArc_139 ?_
  refine v_aload_n C hl dX0_traceArc_142 rfl 0 rfl ?_
  refine g_X0_0 C kdC_4 fl_X0_27 dX0_traceArc_143 ?_
  refine g_X1_3 C kdC_95 fl_X0_49 dX0_traceArc_146 ?_
  refine v_iload_n C hl dX0_traceArc_149 rfl 1 rfl ?_
  have hi3 := (chk_e h).1
  refine arC24 C kdC_99 h dX0_traceArc_150 (fun h => ?_)
  refine v_iload C hl dX0_traceArc_151 4 rfl ?_
  refine alC16 C (keC24 kdC_99 hi3) h dX0_traceArc_153 (fun h => ?_)
  obtain ⟨x_4, hv4, h⟩ := bd_e h
  refine v_callVI C 95 (klC kdC_95) rfl (ckC23 kdC_95 _) rfl [.int (i32 (σ_2 (105 + (v1).toNat) (v6).toNat))] (mX1_isNode C.2.2.2.2.1 kdC_95 hv4) cd_X1_isNode ic_X1 im_X1_isNode se_X1_isNode ml_X0_65 yk_X1_isNode ⟨rfl, rfl, by decide, by decide⟩ rfl hl.1 (rest := []) rfl (Nat.le_of_ble_eq_true rfl) dX0_traceArc_154 ?_
  have hz5 := (cr_e h).1
  have h := (cr_e h).2
  refine v_if_eq C (tgt := 163) hz5 h dX0_traceArc_157 rfl (fun h => ?_) (fun h => ?_)
  · refine v_iinc C hl (fun x => [(7, .int (i32 x)), (0, .ref (q 4)), (1, .int (i32 v1)), (3, .int (i32 v3)), (5, .int (i32 v5)), (6, .int (i32 v6))]) dX0_traceArc_163 5 rfl (by decide) (fun _ => rfl) h (fun v7_6 ls hl h => ?_)
    refine v_goto C (tgt := 72) dX0_traceArc_166 rfl ?_
    exact hc72 _ _ _ _ (lv_sub hl [1, 2, 3, 4, 5, 0] rfl) h
  · refine v_goto C (tgt := 169) dX0_traceArc_160 rfl ?_
    exact he72 _ _ (lv_sub hl [0] rfl) h
theorem wX0_traceArc_100 (C : CxC p rmX0_traceArc s m args meth c D ac q xa xv RX0 cX0_traceArc 9) (hr : meth.sig.returnType = none) {v1 : Int} {v3 : Int} {v5 : Int} {v6 : Int} {v7 : Int} {c72 : Int → Int → Mm → Option (Mm)} {e72 : Mm → Option (Mm)} {σ : Mm} {r : Mm} (hc72 : ∀ (v6x : Int) (v7x : Int) (σ : Mm) (ls : Array Slot), lv_has ls 9 [(0, .ref (q 4)), (1, .int (i32 v1)), (3, .int (i32 v3)), (5, .int (i32 v5)), (6, .int (i32 v6x)), (7, .int (i32 v7x))] → c72 v6x v7x σ = some r → VC p l e rmX0_traceArc s m args below meth c D ac q (QVC D ac q xa xv below args s r) σ (F0 m 72 ls [])) (he72 : ∀ (σ : Mm) (ls : Array Slot), lv_has ls 9 [(0, .ref (q 4))] → e72 σ = some r → VC p l e rmX0_traceArc s m args below meth c D ac q (QVC D ac q xa xv below args s r) σ (F0 m 169 ls [])) (hl : lv_has ls 9 [(0, .ref (q 4)), (1, .int (i32 v1)), (3, .int (i32 v3)), (5, .int (i32 v5)), (6, .int (i32 v6)), (7, .int (i32 v7))]) (h : fX0_traceArc_100 c72 e72 v1 v3 v5 v6 v7 σ = some r) : VC p l e rmX0_traceArc s m args below meth c D ac q (QVC D ac q xa xv below args s r) σ (F0 m 100 ls []) := by
  have h : bd (fX7_following v6 v3 σ) (fun x_1 => bindv x_1 (fun v6_2 => cr v5 ((if v5 = 0 then fX0_traceArc_122 c72 e72 v1 v3 v5 v6_2 v7 σ else cr v7 (cr v3 ((if v7 = v3 then e72 σ else fX0_traceArc_122 c72 e72 v1 v3 v5 v6_2 v7 σ))))))) = some r := h
  refine v_iload C hl dX0_traceArc_100 4 rfl ?_
  refine v_iload_n C hl dX0_traceArc_102 rfl 2 rfl ?_
  obtain ⟨x_1, hv1, h⟩ := bd_e h
  refine v_callSN C [.int (i32 v6), .int (i32 v3)] (mX7_following C.2.2.2.2.1 hv1) cd_X7_following ic_X7 sm_X7_following (nw_X0_52 C) yk_X7_following ⟨rfl, rfl, by decide, by decide⟩ rfl hl.1 (rest := []) rfl (Nat.le_of_ble_eq_true rfl) dX0_traceArc_103 ?_
  refine v_istore C hl (fun x => [(6, .int (i32 x)), (0, .ref (q 4)), (1, .int (i32 v1)), (3, .int (i32 v3)), (5, .int (i32 v5)), (7, .int (i32 v7))]) dX0_traceArc_106 (by decide) (fun _ => rfl) h (fun v6_2 ls hl h => ?_)
  refine v_iload C hl dX0_traceArc_108 4 rfl ?_
  have hz3 := (cr_e h).1
  have h := (cr_e h).2
  refine v_if_eq C (tgt := 122) hz3 h dX0_traceArc_110 rfl (fun h => ?_) (fun h => ?_)
  · exact wX0_traceArc_122 C hr hc72 he72 (lv_sub hl [1, 2, 3, 4, 0, 5] rfl) h
  · refine v_iload C hl dX0_traceArc_113 5 rfl ?_
    refine v_iload_n C hl dX0_traceArc_115 rfl 3 rfl ?_
    have hz4 := (cr_e h).1
    have h := (cr_e h).2
    have hz5 := (cr_e h).1
    have h := (cr_e h).2
    refine v_icmp_ne C (tgt := 122) hz4 hz5 h dX0_traceArc_116 rfl (fun h => ?_) (fun h => ?_)
    · exact wX0_traceArc_122 C hr hc72 he72 (lv_sub hl [1, 2, 3, 4, 0, 5] rfl) h
    · refine v_goto C (tgt := 169) dX0_traceArc_119 rfl ?_
      exact he72 _ _ (lv_sub hl [1] rfl) h
theorem wX0_traceArc_72 (C : CxC p rmX0_traceArc s m args meth c D ac q xa xv RX0 cX0_traceArc 9) (hr : meth.sig.returnType = none) {v1 : Int} {v3 : Int} {v5 : Int} {v6 : Int} {v7 : Int} {σ : Mm} {e72 : Mm → Option (Mm)} {c72 : Int → Int → Mm → Option (Mm)} {r : Mm} (he72 : ∀ (σ : Mm) (ls : Array Slot), lv_has ls 9 [(0, .ref (q 4))] → e72 σ = some r → VC p l e rmX0_traceArc s m args below meth c D ac q (QVC D ac q xa xv below args s r) σ (F0 m 169 ls [])) (hc72 : ∀ (v6x : Int) (v7x : Int) (σ : Mm) (ls : Array Slot), lv_has ls 9 [(0, .ref (q 4)), (1, .int (i32 v1)), (3, .int (i32 v3)), (5, .int (i32 v5)), (6, .int (i32 v6x)), (7, .int (i32 v7x))] → c72 v6x v7x σ = some r → VC p l e rmX0_traceArc s m args below meth c D ac q (QVC D ac q xa xv below args s r) σ (F0 m 72 ls [])) (hl : lv_has ls 9 [(0, .ref (q 4)), (1, .int (i32 v1)), (3, .int (i32 v3)), (5, .int (i32 v5)), (6, .int (i32 v6)), (7, .int (i32 v7))]) (h : fX0_traceArc_72 v1 v3 v5 e72 c72 v6 v7 σ = some r) : VC p l e rmX0_traceArc s m args below meth c D ac q (QVC D ac q xa xv below args s r) σ (F0 m 72 ls []) := by
  have h : cr v7 (cr v3 ((if v3 < v7 then e72 σ else bd (fX0_edgeBehind v1 v6 σ) (fun x_3 => bindv x_3 (fun v8_4 => cr v8_4 ((if v8_4 < 0 then fX0_traceArc_100 c72 e72 v1 v3 v5 v6 v7 σ else chb 1 (chk v8_4 60 (bindv (sto σ 8 (v8_4).toNat 1) (fun σ_6 => fX0_traceArc_100 c72 e72 v1 v3 v5 v6 v7 σ_6)))))))))) = some r := h
  refine v_iload C hl dX0_traceArc_72 5 rfl ?_
  refine v_iload_n C hl dX0_traceArc_74 rfl 2 rfl ?_
  have hz1 := (cr_e h).1
  have h := (cr_e h).2
  have hz2 := (cr_e h).1
  have h := (cr_e h).2
  refine v_icmp_gt C (tgt := 169) hz1 hz2 h dX0_traceArc_75 rfl (fun h => ?_) (fun h => ?_)
  · exact he72 _ _ (lv_sub hl [0] rfl) h
  · refine v_aload_n C hl dX0_traceArc_78 rfl 0 rfl ?_
    refine v_iload_n C hl dX0_traceArc_79 rfl 1 rfl ?_
    refine v_iload C hl dX0_traceArc_80 4 rfl ?_
    obtain ⟨x_3, hv3, h⟩ := bd_e h
    refine v_callVI C 4 (klC kdC_4) rfl (ckC5 kdC_4 _) rfl [.int (i32 v1), .int (i32 v6)] (mX0_edgeBehind C.2.2.2.2.1 hv3) cd_X0_edgeBehind ic_X0 im_X0_edgeBehind se_X0_edgeBehind ml_X0_41 yk_X0_edgeBehind ⟨rfl, rfl, by decide, by decide⟩ rfl hl.1 (rest := []) rfl (Nat.le_of_ble_eq_true rfl) dX0_traceArc_82 ?_
    refine v_istore C hl (fun x => [(8, .int (i32 x)), (0, .ref (q 4)), (1, .int (i32 v1)), (3, .int (i32 v3)), (5, .int (i32 v5)), (6, .int (i32 v6)), (7, .int (i32 v7))]) dX0_traceArc_85 (by decide) (fun _ => rfl) h (fun v8_4 ls hl h => ?_)
    refine v_iload C hl dX0_traceArc_87 0 rfl ?_
    have hz5 := (cr_e h).1
    have h := (cr_e h).2
    refine v_if_lt C (tgt := 100) hz5 h dX0_traceArc_89 rfl (fun h => ?_) (fun h => ?_)
    · exact wX0_traceArc_100 C hr hc72 he72 (lv_sub hl [1, 2, 3, 4, 5, 6] rfl) h
    · refine v_aload_n C hl dX0_traceArc_92 rfl 1 rfl ?_
      refine g_X0_4 C kdC_4 fl_X0_23 dX0_traceArc_93 ?_
      refine v_iload C hl dX0_traceArc_96 0 rfl ?_
      refine v_iconst C dX0_traceArc_98 ?_
      refine asC9 C kdC_8 h dX0_traceArc_99 (fun σ_6 h => ?_)
      exact wX0_traceArc_100 C hr hc72 he72 (lv_sub hl [1, 2, 3, 4, 5, 6] rfl) h
theorem wlX0_traceArc_72 (C : CxC p rmX0_traceArc s m args meth c D ac q xa xv RX0 cX0_traceArc 9) (hr : meth.sig.returnType = none) {v1 : Int} {v3 : Int} {v5 : Int} {e72 : Mm → Option (Mm)} {r : Mm} (he72 : ∀ (σ : Mm) (ls : Array Slot), lv_has ls 9 [(0, .ref (q 4))] → e72 σ = some r → VC p l e rmX0_traceArc s m args below meth c D ac q (QVC D ac q xa xv below args s r) σ (F0 m 169 ls [])) : ∀ (fu : Nat) (v6 : Int) (v7 : Int) (σ : Mm) (ls : Array Slot) (hl : lv_has ls 9 [(0, .ref (q 4)), (1, .int (i32 v1)), (3, .int (i32 v3)), (5, .int (i32 v5)), (6, .int (i32 v6)), (7, .int (i32 v7))]) (h : lX0_traceArc_72 v1 v3 v5 e72 fu v6 v7 σ = some r), VC p l e rmX0_traceArc s m args below meth c D ac q (QVC D ac q xa xv below args s r) σ (F0 m 72 ls []) := by
  intro fu
  induction fu with
  | zero =>
    intro v6 v7 σ ls hl h
    have h : none = some r := h
    cases h
  | succ fu ih =>
    intro v6 v7 σ ls hl h
    exact wX0_traceArc_72 C hr he72 (fun v6 v7 σ ls hl h => ih v6 v7 σ ls hl h) hl h
theorem wX0_traceArc_41 (C : CxC p rmX0_traceArc s m args meth c D ac q xa xv RX0 cX0_traceArc 9) (hr : meth.sig.returnType = none) {v1 : Int} {v3 : Int} {v5 : Int} {t0 : Int} {σ : Mm} {r : Mm} (hl : lv_has ls 9 [(0, .ref (q 4)), (1, .int (i32 v1)), (3, .int (i32 v3)), (5, .int (i32 v5))]) (h : fX0_traceArc_41 v1 v3 v5 t0 σ = some r) : VC p l e rmX0_traceArc s m args below meth c D ac q (QVC D ac q xa xv below args s r) σ (F0 m 41 ls [.int (i32 t0)]) := by
  have h : bindv t0 (fun v6_1 => chk (σ 4 5) 60 (bindv (sto σ 6 (σ 4 5).toNat 0) (fun σ_2 => chk v1 6 (chk v6_1 10 (bd (fX0_append (σ_2 (105 + (v1).toNat) (v6_1).toNat) σ_2) (fun σ_4 => bindv 1 (fun v7_5 => lX0_traceArc_72 v1 v3 v5 (fun σ_6 => fX0_traceArc_169 σ_6) 400 v6_1 v7_5 σ_4))))))) = some r := h
  refine v_istore C hl (fun x => [(6, .int (i32 x)), (0, .ref (q 4)), (1, .int (i32 v1)), (3, .int (i32 v3)), (5, .int (i32 v5))]) dX0_traceArc_41 (by decide) (fun _ => rfl) h (fun v6_1 ls hl h => ?_)
  refine v_aload_n C hl dX0_traceArc_43 rfl 1 rfl ?_
  refine g_X0_2 C kdC_4 fl_X0_16 dX0_traceArc_44 ?_
  refine v_aload_n C hl dX0_traceArc_47 rfl 1 rfl ?_
  refine g_X0_5 C kdC_4 fl_X0_31 dX0_traceArc_48 ?_
  refine v_iconst C dX0_traceArc_51 ?_
  refine asC7 C kdC_6 h dX0_traceArc_52 (fun σ_2 h => ?_)
  refine v_aload_n C hl dX0_traceArc_53 rfl 1 rfl ?_
  refine v_aload_n C hl dX0_traceArc_54 rfl 1 rfl ?_
  refine g_X0_0 C kdC_4 fl_X0_27 dX0_traceArc_55 ?_
  refine g_X1_3 C kdC_95 fl_X0_49 dX0_traceArc_58 ?_
  refine v_iload_n C hl dX0_traceArc_61 rfl 2 rfl ?_
  have hi3 := (chk_e h).1
  refine arC24 C kdC_99 h dX0_traceArc_62 (fun h => ?_)
  refine v_iload C hl dX0_traceArc_63 0 rfl ?_
  refine alC16 C (keC24 kdC_99 hi3) h dX0_traceArc_65 (fun h => ?_)
  obtain ⟨σ_4, hv4, h⟩ := bd_e h
  refine v_callVV C 4 (klC kdC_4) rfl (ckC5 kdC_4 _) rfl [.int (i32 (σ_2 (105 + (v1).toNat) (v6_1).toNat))] (mX0_append C.2.2.2.2.1 hv4) cd_X0_append ic_X0 im_X0_append se_X0_append ml_X0_61 yk_X0_append ⟨rfl, rfl, by decide, by decide⟩ rfl hl.1 (rest := []) rfl (Nat.le_of_ble_eq_true rfl) dX0_traceArc_66 ?_
  refine v_iconst C dX0_traceArc_69 ?_
  refine v_istore C hl (fun x => [(7, .int (i32 x)), (6, .int (i32 v6_1)), (0, .ref (q 4)), (1, .int (i32 v1)), (3, .int (i32 v3)), (5, .int (i32 v5))]) dX0_traceArc_70 (by decide) (fun _ => rfl) h (fun v7_5 ls hl h => ?_)
  exact wlX0_traceArc_72 C hr (fun σ_6 ls hl h => wX0_traceArc_169 C hr (lv_sub hl [0] rfl) h) _ _ _ _ _ (lv_sub hl [2, 3, 4, 5, 1, 0] rfl) h
theorem wX0_traceArc_28 (C : CxC p rmX0_traceArc s m args meth c D ac q xa xv RX0 cX0_traceArc 9) (hr : meth.sig.returnType = none) {v1 : Int} {v3 : Int} {v4 : Int} {t0 : Int} {σ : Mm} {r : Mm} (hl : lv_has ls 9 [(0, .ref (q 4)), (1, .int (i32 v1)), (3, .int (i32 v3)), (4, .int (i32 v4))]) (h : fX0_traceArc_28 v1 v3 v4 t0 σ = some r) : VC p l e rmX0_traceArc s m args below meth c D ac q (QVC D ac q xa xv below args s r) σ (F0 m 28 ls [.int (i32 t0)]) := by
  have h : bindv t0 (fun v5_1 => cr v5_1 ((if v5_1 = 0 then fX0_traceArc_41 v1 v3 v5_1 v4 σ else fX0_traceArc_41 v1 v3 v5_1 0 σ))) = some r := h
  refine v_istore C hl (fun x => [(5, .int (i32 x)), (0, .ref (q 4)), (1, .int (i32 v1)), (3, .int (i32 v3)), (4, .int (i32 v4))]) dX0_traceArc_28 (by decide) (fun _ => rfl) h (fun v5_1 ls hl h => ?_)
  refine v_iload C hl dX0_traceArc_30 0 rfl ?_
  have hz2 := (cr_e h).1
  have h := (cr_e h).2
  refine v_if_eq C (tgt := 39) hz2 h dX0_traceArc_32 rfl (fun h => ?_) (fun h => ?_)
  · refine v_iload C hl dX0_traceArc_39 4 rfl ?_
    exact wX0_traceArc_41 C hr (lv_sub hl [1, 2, 3, 0] rfl) h
  · refine v_iconst C dX0_traceArc_35 ?_
    refine v_goto C (tgt := 41) dX0_traceArc_36 rfl ?_
    exact wX0_traceArc_41 C hr (lv_sub hl [1, 2, 3, 0] rfl) h
theorem mX0_traceArc (hq : QI 175 q) {v1 : Int} {v2 : Int} {σ : Mm} {r : Mm} (h : fX0_traceArc v1 v2 σ = some r) : MVC l D ac q xa xv yX0_traceArc cX0_traceArc 9 none rmX0_traceArc [.ref (q 4), .int (i32 v1), .int (i32 v2)] σ r := by
  refine MV.of hq XC_M (by decide) (Nat.le_of_ble_eq_true rfl) (fun p e s m below meth c ls C hr hl => ?_)
  have hl : lv_has ls 9 [(0, .ref (q 4)), (1, .int (i32 v1)), (2, .int (i32 v2))] := hl
  have h : chk v1 6 (bindv (σ 100 (v1).toNat) (fun v3_1 => bd (fX0_nodeAhead v1 v2 σ) (fun x_2 => bindv x_2 (fun v4_3 => cr v4_3 ((if v4_3 < 0 then fX0_traceArc_28 v1 v3_1 v4_3 1 σ else fX0_traceArc_28 v1 v3_1 v4_3 0 σ)))))) = some r := h
  refine v_aload_n C hl dX0_traceArc_0 rfl 0 rfl ?_
  refine g_X0_0 C kdC_4 fl_X0_27 dX0_traceArc_1 ?_
  refine g_X1_4 C kdC_95 fl_X0_40 dX0_traceArc_4 ?_
  refine v_iload_n C hl dX0_traceArc_7 rfl 1 rfl ?_
  refine alC14 C kdC_100 h dX0_traceArc_8 (fun h => ?_)
  refine v_istore_n C hl (fun x => [(3, .int (i32 x)), (0, .ref (q 4)), (1, .int (i32 v1)), (2, .int (i32 v2))]) dX0_traceArc_9 rfl (by decide) (fun _ => rfl) h (fun v3_1 ls hl h => ?_)
  refine v_aload_n C hl dX0_traceArc_10 rfl 1 rfl ?_
  refine v_iload_n C hl dX0_traceArc_11 rfl 2 rfl ?_
  refine v_iload_n C hl dX0_traceArc_12 rfl 3 rfl ?_
  obtain ⟨x_2, hv2, h⟩ := bd_e h
  refine v_callVI C 4 (klC kdC_4) rfl (ckC5 kdC_4 _) rfl [.int (i32 v1), .int (i32 v2)] (mX0_nodeAhead C.2.2.2.2.1 hv2) cd_X0_nodeAhead ic_X0 im_X0_nodeAhead se_X0_nodeAhead ml_X0_58 yk_X0_nodeAhead ⟨rfl, rfl, by decide, by decide⟩ rfl hl.1 (rest := []) rfl (Nat.le_of_ble_eq_true rfl) dX0_traceArc_13 ?_
  refine v_istore C hl (fun x => [(4, .int (i32 x)), (3, .int (i32 v3_1)), (0, .ref (q 4)), (1, .int (i32 v1)), (2, .int (i32 v2))]) dX0_traceArc_16 (by decide) (fun _ => rfl) h (fun v4_3 ls hl h => ?_)
  refine v_iload C hl dX0_traceArc_18 0 rfl ?_
  have hz4 := (cr_e h).1
  have h := (cr_e h).2
  refine v_if_ge C (tgt := 27) hz4 h dX0_traceArc_20 rfl (fun h => ?_) (fun h => ?_)
  · refine v_iconst C dX0_traceArc_27 ?_
    exact wX0_traceArc_28 C hr (lv_sub hl [2, 3, 1, 0] rfl) h
  · refine v_iconst C dX0_traceArc_23 ?_
    refine v_goto C (tgt := 28) dX0_traceArc_24 rfl ?_
    exact wX0_traceArc_28 C hr (lv_sub hl [2, 3, 1, 0] rfl) h
end
section
variable {l : Launch} {D : va_G} {ac : Nat → ClassId} {q xa xv : Nat → Nat} {p : Program} {e : Env} {s : State} {m : MethodId} {args : Array Value} {below : List Frame} {meth : Method} {c : Code} {ls : Array Slot}
theorem dX0_trace_0 : decode cX0_trace 0 = .ok (.aload_n 0, 1) := by decide +kernel
theorem dX0_trace_1 : decode cX0_trace 1 = .ok (.iconst 0, 1) := by decide +kernel
theorem dX0_trace_2 : decode cX0_trace 2 = .ok (.putfield 31, 3) := by decide +kernel
theorem dX0_trace_5 : decode cX0_trace 5 = .ok (.iconst 0, 1) := by decide +kernel
theorem dX0_trace_6 : decode cX0_trace 6 = .ok (.istore_n 1, 1) := by decide +kernel
theorem dX0_trace_7 : decode cX0_trace 7 = .ok (.iload_n 1, 1) := by decide +kernel
theorem dX0_trace_8 : decode cX0_trace 8 = .ok (.bipush 60, 2) := by decide +kernel
theorem dX0_trace_10 : decode cX0_trace 10 = .ok (.if_icmp .ge 16, 3) := by decide +kernel
theorem dX0_trace_13 : decode cX0_trace 13 = .ok (.aload_n 0, 1) := by decide +kernel
theorem dX0_trace_14 : decode cX0_trace 14 = .ok (.getfield 23, 3) := by decide +kernel
theorem dX0_trace_17 : decode cX0_trace 17 = .ok (.iload_n 1, 1) := by decide +kernel
theorem dX0_trace_18 : decode cX0_trace 18 = .ok (.iconst 0, 1) := by decide +kernel
theorem dX0_trace_19 : decode cX0_trace 19 = .ok (.bastore, 1) := by decide +kernel
theorem dX0_trace_20 : decode cX0_trace 20 = .ok (.iinc 1 1, 3) := by decide +kernel
theorem dX0_trace_23 : decode cX0_trace 23 = .ok (.goto (-16), 3) := by decide +kernel
theorem dX0_trace_26 : decode cX0_trace 26 = .ok (.iconst 0, 1) := by decide +kernel
theorem dX0_trace_27 : decode cX0_trace 27 = .ok (.istore_n 1, 1) := by decide +kernel
theorem dX0_trace_28 : decode cX0_trace 28 = .ok (.iload_n 1, 1) := by decide +kernel
theorem dX0_trace_29 : decode cX0_trace 29 = .ok (.aload_n 0, 1) := by decide +kernel
theorem dX0_trace_30 : decode cX0_trace 30 = .ok (.getfield 27, 3) := by decide +kernel
theorem dX0_trace_33 : decode cX0_trace 33 = .ok (.getfield 35, 3) := by decide +kernel
theorem dX0_trace_36 : decode cX0_trace 36 = .ok (.if_icmp .ge 65, 3) := by decide +kernel
theorem dX0_trace_39 : decode cX0_trace 39 = .ok (.iconst 0, 1) := by decide +kernel
theorem dX0_trace_40 : decode cX0_trace 40 = .ok (.istore_n 2, 1) := by decide +kernel
theorem dX0_trace_41 : decode cX0_trace 41 = .ok (.iload_n 2, 1) := by decide +kernel
theorem dX0_trace_42 : decode cX0_trace 42 = .ok (.aload_n 0, 1) := by decide +kernel
theorem dX0_trace_43 : decode cX0_trace 43 = .ok (.getfield 27, 3) := by decide +kernel
theorem dX0_trace_46 : decode cX0_trace 46 = .ok (.getfield 40, 3) := by decide +kernel
theorem dX0_trace_49 : decode cX0_trace 49 = .ok (.iload_n 1, 1) := by decide +kernel
theorem dX0_trace_50 : decode cX0_trace 50 = .ok (.iaload, 1) := by decide +kernel
theorem dX0_trace_51 : decode cX0_trace 51 = .ok (.if_icmp .ge 44, 3) := by decide +kernel
theorem dX0_trace_54 : decode cX0_trace 54 = .ok (.aload_n 0, 1) := by decide +kernel
theorem dX0_trace_55 : decode cX0_trace 55 = .ok (.iload_n 1, 1) := by decide +kernel
theorem dX0_trace_56 : decode cX0_trace 56 = .ok (.iload_n 2, 1) := by decide +kernel
theorem dX0_trace_57 : decode cX0_trace 57 = .ok (.invokevirtual 41, 3) := by decide +kernel
theorem dX0_trace_60 : decode cX0_trace 60 = .ok (.istore_n 3, 1) := by decide +kernel
theorem dX0_trace_61 : decode cX0_trace 61 = .ok (.iload_n 3, 1) := by decide +kernel
theorem dX0_trace_62 : decode cX0_trace 62 = .ok (.ifCond .lt 27, 3) := by decide +kernel
theorem dX0_trace_65 : decode cX0_trace 65 = .ok (.aload_n 0, 1) := by decide +kernel
theorem dX0_trace_66 : decode cX0_trace 66 = .ok (.getfield 23, 3) := by decide +kernel
theorem dX0_trace_69 : decode cX0_trace 69 = .ok (.iload_n 3, 1) := by decide +kernel
theorem dX0_trace_70 : decode cX0_trace 70 = .ok (.baload, 1) := by decide +kernel
theorem dX0_trace_71 : decode cX0_trace 71 = .ok (.ifCond .ne 18, 3) := by decide +kernel
theorem dX0_trace_74 : decode cX0_trace 74 = .ok (.aload_n 0, 1) := by decide +kernel
theorem dX0_trace_75 : decode cX0_trace 75 = .ok (.getfield 31, 3) := by decide +kernel
theorem dX0_trace_78 : decode cX0_trace 78 = .ok (.bipush 60, 2) := by decide +kernel
theorem dX0_trace_80 : decode cX0_trace 80 = .ok (.if_icmp .ge 9, 3) := by decide +kernel
theorem dX0_trace_83 : decode cX0_trace 83 = .ok (.aload_n 0, 1) := by decide +kernel
theorem dX0_trace_84 : decode cX0_trace 84 = .ok (.iload_n 1, 1) := by decide +kernel
theorem dX0_trace_85 : decode cX0_trace 85 = .ok (.iload_n 2, 1) := by decide +kernel
theorem dX0_trace_86 : decode cX0_trace 86 = .ok (.invokevirtual 45, 3) := by decide +kernel
theorem dX0_trace_89 : decode cX0_trace 89 = .ok (.iinc 2 1, 3) := by decide +kernel
theorem dX0_trace_92 : decode cX0_trace 92 = .ok (.goto (-51), 3) := by decide +kernel
theorem dX0_trace_95 : decode cX0_trace 95 = .ok (.iinc 1 1, 3) := by decide +kernel
theorem dX0_trace_98 : decode cX0_trace 98 = .ok (.goto (-70), 3) := by decide +kernel
theorem dX0_trace_101 : decode cX0_trace 101 = .ok (.return_, 1) := by decide +kernel
theorem wX0_trace_101 (C : CxC p rmX0_trace s m args meth c D ac q xa xv RX0 cX0_trace 4) (hr : meth.sig.returnType = none) {σ : Mm} {r : Mm} (hl : lv_has ls 4 [(0, .ref (q 4))]) (h : fX0_trace_101 σ = some r) : VC p l e rmX0_trace s m args below meth c D ac q (QVC D ac q xa xv below args s r) σ (F0 m 101 ls []) := by
  have h : some σ = some r := h
  exact v_vret C hr h dX0_trace_101
theorem wX0_trace_95 (C : CxC p rmX0_trace s m args meth c D ac q xa xv RX0 cX0_trace 4) (hr : meth.sig.returnType = none) {v1 : Int} {c28 : Int → Mm → Option (Mm)} {σ : Mm} {r : Mm} (hc28 : ∀ (v1x : Int) (σ : Mm) (ls : Array Slot), lv_has ls 4 [(0, .ref (q 4)), (1, .int (i32 v1x))] → c28 v1x σ = some r → VC p l e rmX0_trace s m args below meth c D ac q (QVC D ac q xa xv below args s r) σ (F0 m 28 ls [])) (hl : lv_has ls 4 [(0, .ref (q 4)), (1, .int (i32 v1))]) (h : fX0_trace_95 c28 v1 σ = some r) : VC p l e rmX0_trace s m args below meth c D ac q (QVC D ac q xa xv below args s r) σ (F0 m 95 ls []) := by
  have h : bindv (v1 + 1) (fun v1_1 => c28 v1_1 σ) = some r := h
  refine v_iinc C hl (fun x => [(1, .int (i32 x)), (0, .ref (q 4))]) dX0_trace_95 1 rfl (by decide) (fun _ => rfl) h (fun v1_1 ls hl h => ?_)
  refine v_goto C (tgt := 28) dX0_trace_98 rfl ?_
  exact hc28 _ _ _ (lv_sub hl [1, 0] rfl) h
theorem wX0_trace_89 (C : CxC p rmX0_trace s m args meth c D ac q xa xv RX0 cX0_trace 4) (hr : meth.sig.returnType = none) {v1 : Int} {v2 : Int} {c41 : Int → Mm → Option (Mm)} {σ : Mm} {r : Mm} (hc41 : ∀ (v2x : Int) (σ : Mm) (ls : Array Slot), lv_has ls 4 [(0, .ref (q 4)), (1, .int (i32 v1)), (2, .int (i32 v2x))] → c41 v2x σ = some r → VC p l e rmX0_trace s m args below meth c D ac q (QVC D ac q xa xv below args s r) σ (F0 m 41 ls [])) (hl : lv_has ls 4 [(0, .ref (q 4)), (1, .int (i32 v1)), (2, .int (i32 v2))]) (h : fX0_trace_89 c41 v1 v2 σ = some r) : VC p l e rmX0_trace s m args below meth c D ac q (QVC D ac q xa xv below args s r) σ (F0 m 89 ls []) := by
  have h : bindv (v2 + 1) (fun v2_1 => c41 v2_1 σ) = some r := h
  refine v_iinc C hl (fun x => [(2, .int (i32 x)), (0, .ref (q 4)), (1, .int (i32 v1))]) dX0_trace_89 2 rfl (by decide) (fun _ => rfl) h (fun v2_1 ls hl h => ?_)
  refine v_goto C (tgt := 41) dX0_trace_92 rfl ?_
  exact hc41 _ _ _ (lv_sub hl [1, 2, 0] rfl) h
theorem wX0_trace_41 (C : CxC p rmX0_trace s m args meth c D ac q xa xv RX0 cX0_trace 4) (hr : meth.sig.returnType = none) {v1 : Int} {v2 : Int} {σ : Mm} {e41 : Mm → Option (Mm)} {c41 : Int → Mm → Option (Mm)} {r : Mm} (he41 : ∀ (σ : Mm) (ls : Array Slot), lv_has ls 4 [(0, .ref (q 4)), (1, .int (i32 v1))] → e41 σ = some r → VC p l e rmX0_trace s m args below meth c D ac q (QVC D ac q xa xv below args s r) σ (F0 m 95 ls [])) (hc41 : ∀ (v2x : Int) (σ : Mm) (ls : Array Slot), lv_has ls 4 [(0, .ref (q 4)), (1, .int (i32 v1)), (2, .int (i32 v2x))] → c41 v2x σ = some r → VC p l e rmX0_trace s m args below meth c D ac q (QVC D ac q xa xv below args s r) σ (F0 m 41 ls [])) (hl : lv_has ls 4 [(0, .ref (q 4)), (1, .int (i32 v1)), (2, .int (i32 v2))]) (h : fX0_trace_41 v1 e41 c41 v2 σ = some r) : VC p l e rmX0_trace s m args below meth c D ac q (QVC D ac q xa xv below args s r) σ (F0 m 41 ls []) := by
  have h : chk v1 6 (cr v2 (cr (σ 100 (v1).toNat) ((if v2 < σ 100 (v1).toNat then bd (fX0_edgeBehind v1 v2 σ) (fun x_3 => bindv x_3 (fun v3_4 => cr v3_4 ((if v3_4 < 0 then fX0_trace_89 c41 v1 v2 σ else chk v3_4 60 (cr (σ 8 (v3_4).toNat) ((if σ 8 (v3_4).toNat = 0 then cr (σ 4 5) ((if σ 4 5 < 60 then bd (fX0_traceArc v1 v2 σ) (fun σ_8 => fX0_trace_89 c41 v1 v2 σ_8) else fX0_trace_89 c41 v1 v2 σ)) else fX0_trace_89 c41 v1 v2 σ))))))) else e41 σ)))) = some r := h
  refine v_iload_n C hl dX0_trace_41 rfl 2 rfl ?_
  refine v_aload_n C hl dX0_trace_42 rfl 0 rfl ?_
  refine g_X0_0 C kdC_4 fl_X0_27 dX0_trace_43 ?_
  refine g_X1_4 C kdC_95 fl_X0_40 dX0_trace_46 ?_
  refine v_iload_n C hl dX0_trace_49 rfl 1 rfl ?_
  refine alC14 C kdC_100 h dX0_trace_50 (fun h => ?_)
  have hz1 := (cr_e h).1
  have h := (cr_e h).2
  have hz2 := (cr_e h).1
  have h := (cr_e h).2
  refine v_icmp_ge C (tgt := 95) hz1 hz2 h dX0_trace_51 rfl (fun h => ?_) (fun h => ?_)
  · exact he41 _ _ (lv_sub hl [0, 1] rfl) h
  · refine v_aload_n C hl dX0_trace_54 rfl 0 rfl ?_
    refine v_iload_n C hl dX0_trace_55 rfl 1 rfl ?_
    refine v_iload_n C hl dX0_trace_56 rfl 2 rfl ?_
    obtain ⟨x_3, hv3, h⟩ := bd_e h
    refine v_callVI C 4 (klC kdC_4) rfl (ckC5 kdC_4 _) rfl [.int (i32 v1), .int (i32 v2)] (mX0_edgeBehind C.2.2.2.2.1 hv3) cd_X0_edgeBehind ic_X0 im_X0_edgeBehind se_X0_edgeBehind ml_X0_41 yk_X0_edgeBehind ⟨rfl, rfl, by decide, by decide⟩ rfl hl.1 (rest := []) rfl (Nat.le_of_ble_eq_true rfl) dX0_trace_57 ?_
    refine v_istore_n C hl (fun x => [(3, .int (i32 x)), (0, .ref (q 4)), (1, .int (i32 v1)), (2, .int (i32 v2))]) dX0_trace_60 rfl (by decide) (fun _ => rfl) h (fun v3_4 ls hl h => ?_)
    refine v_iload_n C hl dX0_trace_61 rfl 0 rfl ?_
    have hz5 := (cr_e h).1
    have h := (cr_e h).2
    refine v_if_lt C (tgt := 89) hz5 h dX0_trace_62 rfl (fun h => ?_) (fun h => ?_)
    · exact wX0_trace_89 C hr hc41 (lv_sub hl [1, 2, 3] rfl) h
    · refine v_aload_n C hl dX0_trace_65 rfl 1 rfl ?_
      refine g_X0_4 C kdC_4 fl_X0_23 dX0_trace_66 ?_
      refine v_iload_n C hl dX0_trace_69 rfl 0 rfl ?_
      refine alC9 C kdC_8 h dX0_trace_70 (fun h => ?_)
      have hz6 := (cr_e h).1
      have h := (cr_e h).2
      refine v_if_ne C (tgt := 89) hz6 h dX0_trace_71 rfl (fun h => ?_) (fun h => ?_)
      · exact wX0_trace_89 C hr hc41 (lv_sub hl [1, 2, 3] rfl) h
      · refine v_aload_n C hl dX0_trace_74 rfl 1 rfl ?_
        refine g_X0_5 C kdC_4 fl_X0_31 dX0_trace_75 ?_
        refine v_bipush C dX0_trace_78 rfl ?_
        have hz7 := (cr_e h).1
        have h := (cr_e h).2
        refine v_icmp_ge C (tgt := 89) hz7 (by decide) h dX0_trace_80 rfl (fun h => ?_) (fun h => ?_)
        · exact wX0_trace_89 C hr hc41 (lv_sub hl [1, 2, 3] rfl) h
        · refine v_aload_n C hl dX0_trace_83 rfl 1 rfl ?_
          refine v_iload_n C hl dX0_trace_84 rfl 2 rfl ?_
          refine v_iload_n C hl dX0_trace_85 rfl 3 rfl ?_
          obtain ⟨σ_8, hv8, h⟩ := bd_e h
          refine v_callVV C 4 (klC kdC_4) rfl (ckC5 kdC_4 _) rfl [.int (i32 v1), .int (i32 v2)] (mX0_traceArc C.2.2.2.2.1 hv8) cd_X0_traceArc ic_X0 im_X0_traceArc se_X0_traceArc ml_X0_45 yk_X0_traceArc ⟨rfl, rfl, by decide, by decide⟩ rfl hl.1 (rest := []) rfl (Nat.le_of_ble_eq_true rfl) dX0_trace_86 ?_
          exact wX0_trace_89 C hr hc41 (lv_sub hl [1, 2, 3] rfl) h
theorem wlX0_trace_41 (C : CxC p rmX0_trace s m args meth c D ac q xa xv RX0 cX0_trace 4) (hr : meth.sig.returnType = none) {v1 : Int} {e41 : Mm → Option (Mm)} {r : Mm} (he41 : ∀ (σ : Mm) (ls : Array Slot), lv_has ls 4 [(0, .ref (q 4)), (1, .int (i32 v1))] → e41 σ = some r → VC p l e rmX0_trace s m args below meth c D ac q (QVC D ac q xa xv below args s r) σ (F0 m 95 ls [])) : ∀ (fu : Nat) (v2 : Int) (σ : Mm) (ls : Array Slot) (hl : lv_has ls 4 [(0, .ref (q 4)), (1, .int (i32 v1)), (2, .int (i32 v2))]) (h : lX0_trace_41 v1 e41 fu v2 σ = some r), VC p l e rmX0_trace s m args below meth c D ac q (QVC D ac q xa xv below args s r) σ (F0 m 41 ls []) := by
  intro fu
  induction fu with
  | zero =>
    intro v2 σ ls hl h
    have h : none = some r := h
    cases h
  | succ fu ih =>
    intro v2 σ ls hl h
    exact wX0_trace_41 C hr he41 (fun v2 σ ls hl h => ih v2 σ ls hl h) hl h
theorem wX0_trace_28 (C : CxC p rmX0_trace s m args meth c D ac q xa xv RX0 cX0_trace 4) (hr : meth.sig.returnType = none) {v1 : Int} {σ : Mm} {e28 : Mm → Option (Mm)} {c28 : Int → Mm → Option (Mm)} {r : Mm} (he28 : ∀ (σ : Mm) (ls : Array Slot), lv_has ls 4 [(0, .ref (q 4))] → e28 σ = some r → VC p l e rmX0_trace s m args below meth c D ac q (QVC D ac q xa xv below args s r) σ (F0 m 101 ls [])) (hc28 : ∀ (v1x : Int) (σ : Mm) (ls : Array Slot), lv_has ls 4 [(0, .ref (q 4)), (1, .int (i32 v1x))] → c28 v1x σ = some r → VC p l e rmX0_trace s m args below meth c D ac q (QVC D ac q xa xv below args s r) σ (F0 m 28 ls [])) (hl : lv_has ls 4 [(0, .ref (q 4)), (1, .int (i32 v1))]) (h : fX0_trace_28 e28 c28 v1 σ = some r) : VC p l e rmX0_trace s m args below meth c D ac q (QVC D ac q xa xv below args s r) σ (F0 m 28 ls []) := by
  have h : cr v1 (cr (σ 95 10) ((if v1 < σ 95 10 then bindv 0 (fun v2_3 => lX0_trace_41 v1 (fun σ_4 => fX0_trace_95 c28 v1 σ_4) 400 v2_3 σ) else e28 σ))) = some r := h
  refine v_iload_n C hl dX0_trace_28 rfl 1 rfl ?_
  refine v_aload_n C hl dX0_trace_29 rfl 0 rfl ?_
  refine g_X0_0 C kdC_4 fl_X0_27 dX0_trace_30 ?_
  refine g_X1_10 C kdC_95 fl_X0_35 dX0_trace_33 ?_
  have hz1 := (cr_e h).1
  have h := (cr_e h).2
  have hz2 := (cr_e h).1
  have h := (cr_e h).2
  refine v_icmp_ge C (tgt := 101) hz1 hz2 h dX0_trace_36 rfl (fun h => ?_) (fun h => ?_)
  · exact he28 _ _ (lv_sub hl [0] rfl) h
  · refine v_iconst C dX0_trace_39 ?_
    refine v_istore_n C hl (fun x => [(2, .int (i32 x)), (0, .ref (q 4)), (1, .int (i32 v1))]) dX0_trace_40 rfl (by decide) (fun _ => rfl) h (fun v2_3 ls hl h => ?_)
    exact wlX0_trace_41 C hr (fun σ_4 ls hl h => wX0_trace_95 C hr hc28 (lv_sub hl [0, 1] rfl) h) _ _ _ _ (lv_sub hl [1, 2, 0] rfl) h
theorem wlX0_trace_28 (C : CxC p rmX0_trace s m args meth c D ac q xa xv RX0 cX0_trace 4) (hr : meth.sig.returnType = none) {e28 : Mm → Option (Mm)} {r : Mm} (he28 : ∀ (σ : Mm) (ls : Array Slot), lv_has ls 4 [(0, .ref (q 4))] → e28 σ = some r → VC p l e rmX0_trace s m args below meth c D ac q (QVC D ac q xa xv below args s r) σ (F0 m 101 ls [])) : ∀ (fu : Nat) (v1 : Int) (σ : Mm) (ls : Array Slot) (hl : lv_has ls 4 [(0, .ref (q 4)), (1, .int (i32 v1))]) (h : lX0_trace_28 e28 fu v1 σ = some r), VC p l e rmX0_trace s m args below meth c D ac q (QVC D ac q xa xv below args s r) σ (F0 m 28 ls []) := by
  intro fu
  induction fu with
  | zero =>
    intro v1 σ ls hl h
    have h : none = some r := h
    cases h
  | succ fu ih =>
    intro v1 σ ls hl h
    exact wX0_trace_28 C hr he28 (fun v1 σ ls hl h => ih v1 σ ls hl h) hl h
theorem wX0_trace_26 (C : CxC p rmX0_trace s m args meth c D ac q xa xv RX0 cX0_trace 4) (hr : meth.sig.returnType = none) {σ : Mm} {r : Mm} (hl : lv_has ls 4 [(0, .ref (q 4))]) (h : fX0_trace_26 σ = some r) : VC p l e rmX0_trace s m args below meth c D ac q (QVC D ac q xa xv below args s r) σ (F0 m 26 ls []) := by
  have h : bindv 0 (fun v1_1 => lX0_trace_28 (fun σ_2 => fX0_trace_101 σ_2) 400 v1_1 σ) = some r := h
  refine v_iconst C dX0_trace_26 ?_
  refine v_istore_n C hl (fun x => [(1, .int (i32 x)), (0, .ref (q 4))]) dX0_trace_27 rfl (by decide) (fun _ => rfl) h (fun v1_1 ls hl h => ?_)
  exact wlX0_trace_28 C hr (fun σ_2 ls hl h => wX0_trace_101 C hr (lv_sub hl [0] rfl) h) _ _ _ _ (lv_sub hl [1, 0] rfl) h
theorem wX0_trace_7 (C : CxC p rmX0_trace s m args meth c D ac q xa xv RX0 cX0_trace 4) (hr : meth.sig.returnType = none) {v1 : Int} {σ : Mm} {e7 : Mm → Option (Mm)} {c7 : Int → Mm → Option (Mm)} {r : Mm} (he7 : ∀ (σ : Mm) (ls : Array Slot), lv_has ls 4 [(0, .ref (q 4))] → e7 σ = some r → VC p l e rmX0_trace s m args below meth c D ac q (QVC D ac q xa xv below args s r) σ (F0 m 26 ls [])) (hc7 : ∀ (v1x : Int) (σ : Mm) (ls : Array Slot), lv_has ls 4 [(0, .ref (q 4)), (1, .int (i32 v1x))] → c7 v1x σ = some r → VC p l e rmX0_trace s m args below meth c D ac q (QVC D ac q xa xv below args s r) σ (F0 m 7 ls [])) (hl : lv_has ls 4 [(0, .ref (q 4)), (1, .int (i32 v1))]) (h : fX0_trace_7 e7 c7 v1 σ = some r) : VC p l e rmX0_trace s m args below meth c D ac q (QVC D ac q xa xv below args s r) σ (F0 m 7 ls []) := by
  have h : cr v1 ((if v1 < 60 then chb 0 (chk v1 60 (bindv (sto σ 8 (v1).toNat 0) (fun σ_2 => bindv (v1 + 1) (fun v1_3 => c7 v1_3 σ_2)))) else e7 σ)) = some r := h
  refine v_iload_n C hl dX0_trace_7 rfl 1 rfl ?_
  refine v_bipush C dX0_trace_8 rfl ?_
  have hz1 := (cr_e h).1
  have h := (cr_e h).2
  refine v_icmp_ge C (tgt := 26) hz1 (by decide) h dX0_trace_10 rfl (fun h => ?_) (fun h => ?_)
  · exact he7 _ _ (lv_sub hl [0] rfl) h
  · refine v_aload_n C hl dX0_trace_13 rfl 0 rfl ?_
    refine g_X0_4 C kdC_4 fl_X0_23 dX0_trace_14 ?_
    refine v_iload_n C hl dX0_trace_17 rfl 1 rfl ?_
    refine v_iconst C dX0_trace_18 ?_
    refine asC9 C kdC_8 h dX0_trace_19 (fun σ_2 h => ?_)
    refine v_iinc C hl (fun x => [(1, .int (i32 x)), (0, .ref (q 4))]) dX0_trace_20 1 rfl (by decide) (fun _ => rfl) h (fun v1_3 ls hl h => ?_)
    refine v_goto C (tgt := 7) dX0_trace_23 rfl ?_
    exact hc7 _ _ _ (lv_sub hl [1, 0] rfl) h
theorem wlX0_trace_7 (C : CxC p rmX0_trace s m args meth c D ac q xa xv RX0 cX0_trace 4) (hr : meth.sig.returnType = none) {e7 : Mm → Option (Mm)} {r : Mm} (he7 : ∀ (σ : Mm) (ls : Array Slot), lv_has ls 4 [(0, .ref (q 4))] → e7 σ = some r → VC p l e rmX0_trace s m args below meth c D ac q (QVC D ac q xa xv below args s r) σ (F0 m 26 ls [])) : ∀ (fu : Nat) (v1 : Int) (σ : Mm) (ls : Array Slot) (hl : lv_has ls 4 [(0, .ref (q 4)), (1, .int (i32 v1))]) (h : lX0_trace_7 e7 fu v1 σ = some r), VC p l e rmX0_trace s m args below meth c D ac q (QVC D ac q xa xv below args s r) σ (F0 m 7 ls []) := by
  intro fu
  induction fu with
  | zero =>
    intro v1 σ ls hl h
    have h : none = some r := h
    cases h
  | succ fu ih =>
    intro v1 σ ls hl h
    exact wX0_trace_7 C hr he7 (fun v1 σ ls hl h => ih v1 σ ls hl h) hl h
theorem mX0_trace (hq : QI 175 q)  {σ : Mm} {r : Mm} (h : fX0_trace σ = some r) : MVC l D ac q xa xv yX0_trace cX0_trace 4 none rmX0_trace [.ref (q 4)] σ r := by
  refine MV.of hq XC_M (by decide) (Nat.le_of_ble_eq_true rfl) (fun p e s m below meth c ls C hr hl => ?_)
  have hl : lv_has ls 4 [(0, .ref (q 4))] := hl
  have h : bindv (sto σ 4 5 0) (fun σ_1 => bindv 0 (fun v1_2 => lX0_trace_7 (fun σ_3 => fX0_trace_26 σ_3) 400 v1_2 σ_1)) = some r := h
  refine v_aload_n C hl dX0_trace_0 rfl 0 rfl ?_
  refine v_iconst C dX0_trace_1 ?_
  refine s_X0_5 C kdC_4 fl_X0_31 h dX0_trace_2 (fun σ_1 h => ?_)
  refine v_iconst C dX0_trace_5 ?_
  refine v_istore_n C hl (fun x => [(1, .int (i32 x)), (0, .ref (q 4))]) dX0_trace_6 rfl (by decide) (fun _ => rfl) h (fun v1_2 ls hl h => ?_)
  exact wlX0_trace_7 C hr (fun σ_3 ls hl h => wX0_trace_26 C hr (lv_sub hl [0] rfl) h) _ _ _ _ (lv_sub hl [1, 0] rfl) h
end
section
variable {l : Launch} {D : va_G} {ac : Nat → ClassId} {q xa xv : Nat → Nat} {p : Program} {e : Env} {s : State} {m : MethodId} {args : Array Value} {below : List Frame} {meth : Method} {c : Code} {ls : Array Slot}
theorem dX1_addCorner_0 : decode cX1_addCorner 0 = .ok (.aload_n 0, 1) := by decide +kernel
theorem dX1_addCorner_1 : decode cX1_addCorner 1 = .ok (.getfield 46, 3) := by decide +kernel
theorem dX1_addCorner_4 : decode cX1_addCorner 4 = .ok (.iconst 1, 1) := by decide +kernel
theorem dX1_addCorner_5 : decode cX1_addCorner 5 = .ok (.isub, 1) := by decide +kernel
theorem dX1_addCorner_6 : decode cX1_addCorner 6 = .ok (.istore_n 2, 1) := by decide +kernel
theorem dX1_addCorner_7 : decode cX1_addCorner 7 = .ok (.iload_n 2, 1) := by decide +kernel
theorem dX1_addCorner_8 : decode cX1_addCorner 8 = .ok (.ifCond .lt 38, 3) := by decide +kernel
theorem dX1_addCorner_11 : decode cX1_addCorner 11 = .ok (.aload_n 0, 1) := by decide +kernel
theorem dX1_addCorner_12 : decode cX1_addCorner 12 = .ok (.getfield 27, 3) := by decide +kernel
theorem dX1_addCorner_15 : decode cX1_addCorner 15 = .ok (.iload_n 2, 1) := by decide +kernel
theorem dX1_addCorner_16 : decode cX1_addCorner 16 = .ok (.iaload, 1) := by decide +kernel
theorem dX1_addCorner_17 : decode cX1_addCorner 17 = .ok (.bipush 10, 2) := by decide +kernel
theorem dX1_addCorner_19 : decode cX1_addCorner 19 = .ok (.if_icmp .ge 27, 3) := by decide +kernel
theorem dX1_addCorner_22 : decode cX1_addCorner 22 = .ok (.aload_n 0, 1) := by decide +kernel
theorem dX1_addCorner_23 : decode cX1_addCorner 23 = .ok (.getfield 24, 3) := by decide +kernel
theorem dX1_addCorner_26 : decode cX1_addCorner 26 = .ok (.iload_n 2, 1) := by decide +kernel
theorem dX1_addCorner_27 : decode cX1_addCorner 27 = .ok (.aaload, 1) := by decide +kernel
theorem dX1_addCorner_28 : decode cX1_addCorner 28 = .ok (.aload_n 0, 1) := by decide +kernel
theorem dX1_addCorner_29 : decode cX1_addCorner 29 = .ok (.getfield 27, 3) := by decide +kernel
theorem dX1_addCorner_32 : decode cX1_addCorner 32 = .ok (.iload_n 2, 1) := by decide +kernel
theorem dX1_addCorner_33 : decode cX1_addCorner 33 = .ok (.iaload, 1) := by decide +kernel
theorem dX1_addCorner_34 : decode cX1_addCorner 34 = .ok (.iload_n 1, 1) := by decide +kernel
theorem dX1_addCorner_35 : decode cX1_addCorner 35 = .ok (.iastore, 1) := by decide +kernel
theorem dX1_addCorner_36 : decode cX1_addCorner 36 = .ok (.aload_n 0, 1) := by decide +kernel
theorem dX1_addCorner_37 : decode cX1_addCorner 37 = .ok (.getfield 27, 3) := by decide +kernel
theorem dX1_addCorner_40 : decode cX1_addCorner 40 = .ok (.iload_n 2, 1) := by decide +kernel
theorem dX1_addCorner_41 : decode cX1_addCorner 41 = .ok (.dup2, 1) := by decide +kernel
theorem dX1_addCorner_42 : decode cX1_addCorner 42 = .ok (.iaload, 1) := by decide +kernel
theorem dX1_addCorner_43 : decode cX1_addCorner 43 = .ok (.iconst 1, 1) := by decide +kernel
theorem dX1_addCorner_44 : decode cX1_addCorner 44 = .ok (.iadd, 1) := by decide +kernel
theorem dX1_addCorner_45 : decode cX1_addCorner 45 = .ok (.iastore, 1) := by decide +kernel
theorem dX1_addCorner_46 : decode cX1_addCorner 46 = .ok (.return_, 1) := by decide +kernel
theorem wX1_addCorner_46 (C : CxC p rmX1_addCorner s m args meth c D ac q xa xv RX1 cX1_addCorner 3) (hr : meth.sig.returnType = none){k : Nat} (hk : kdC k = 23) {σ : Mm} {r : Mm} (hl : lv_has ls 3 [(0, .ref (q k))]) (h : fX1_addCorner_46 k σ = some r) : VC p l e rmX1_addCorner s m args below meth c D ac q (QVC D ac q xa xv below args s r) σ (F0 m 46 ls []) := by
  have h : some σ = some r := h
  exact v_vret C hr h dX1_addCorner_46
theorem mX1_addCorner (hq : QI 175 q) {k : Nat} {v1 : Int} (hk : kdC k = 23) {σ : Mm} {r : Mm} (h : fX1_addCorner k v1 σ = some r) : MVC l D ac q xa xv yX1_addCorner cX1_addCorner 3 none rmX1_addCorner [.ref (q k), .int (i32 v1)] σ r := by
  refine MV.of hq XC_M (by decide) (Nat.le_of_ble_eq_true rfl) (fun p e s m below meth c ls C hr hl => ?_)
  have hl : lv_has ls 3 [(0, .ref (q k)), (1, .int (i32 v1))] := hl
  have h : bindv ((σ k 10) - 1) (fun v2_1 => cr v2_1 ((if v2_1 < 0 then fX1_addCorner_46 k σ else chk v2_1 6 (cr (σ (k + 5) (v2_1).toNat) ((if σ (k + 5) (v2_1).toNat < 10 then chk v2_1 6 (chk v2_1 6 (chk (σ (k + 5) (v2_1).toNat) 10 (bindv (sto σ (k + 10 + (v2_1).toNat) (σ (k + 5) (v2_1).toNat).toNat v1) (fun σ_5 => chk v2_1 6 (chk v2_1 6 (bindv (sto σ_5 (k + 5) (v2_1).toNat ((σ_5 (k + 5) (v2_1).toNat) + 1)) (fun σ_6 => fX1_addCorner_46 k σ_6))))))) else fX1_addCorner_46 k σ)))))) = some r := h
  refine v_aload_n C hl dX1_addCorner_0 rfl 0 rfl ?_
  refine g_X1_10 C hk fl_X1_46 dX1_addCorner_1 ?_
  refine v_iconst C dX1_addCorner_4 ?_
  refine v_isub C dX1_addCorner_5 ?_
  refine v_istore_n C hl (fun x => [(2, .int (i32 x)), (0, .ref (q k)), (1, .int (i32 v1))]) dX1_addCorner_6 rfl (by decide) (fun _ => rfl) h (fun v2_1 ls hl h => ?_)
  refine v_iload_n C hl dX1_addCorner_7 rfl 0 rfl ?_
  have hz2 := (cr_e h).1
  have h := (cr_e h).2
  refine v_if_lt C (tgt := 46) hz2 h dX1_addCorner_8 rfl (fun h => ?_) (fun h => ?_)
  · exact wX1_addCorner_46 C hr hk (lv_sub hl [1] rfl) h
  · refine v_aload_n C hl dX1_addCorner_11 rfl 1 rfl ?_
    refine g_X1_4 C hk fl_X1_27 dX1_addCorner_12 ?_
    refine v_iload_n C hl dX1_addCorner_15 rfl 0 rfl ?_
    refine alC14 C (kfC23_4 hk) h dX1_addCorner_16 (fun h => ?_)
    refine v_bipush C dX1_addCorner_17 rfl ?_
    have hz3 := (cr_e h).1
    have h := (cr_e h).2
    refine v_icmp_ge C (tgt := 46) hz3 (by decide) h dX1_addCorner_19 rfl (fun h => ?_) (fun h => ?_)
    · exact wX1_addCorner_46 C hr hk (lv_sub hl [1] rfl) h
    · refine v_aload_n C hl dX1_addCorner_22 rfl 1 rfl ?_
      refine g_X1_3 C hk fl_X1_24 dX1_addCorner_23 ?_
      refine v_iload_n C hl dX1_addCorner_26 rfl 0 rfl ?_
      have hi4 := (chk_e h).1
      refine arC24 C (kfC23_3 hk) h dX1_addCorner_27 (fun h => ?_)
      refine v_aload_n C hl dX1_addCorner_28 rfl 1 rfl ?_
      refine g_X1_4 C hk fl_X1_27 dX1_addCorner_29 ?_
      refine v_iload_n C hl dX1_addCorner_32 rfl 0 rfl ?_
      refine alC14 C (kfC23_4 hk) h dX1_addCorner_33 (fun h => ?_)
      refine v_iload_n C hl dX1_addCorner_34 rfl 2 rfl ?_
      refine asC16 C (keC24 (kfC23_3 hk) hi4) h dX1_addCorner_35 (fun σ_5 h => ?_)
      refine v_aload_n C hl dX1_addCorner_36 rfl 1 rfl ?_
      refine g_X1_4 C hk fl_X1_27 dX1_addCorner_37 ?_
      refine v_iload_n C hl dX1_addCorner_40 rfl 0 rfl ?_
      refine v_dup2 C dX1_addCorner_41 rfl rfl ?_
      refine alC14 C (kfC23_4 hk) h dX1_addCorner_42 (fun h => ?_)
      refine v_iconst C dX1_addCorner_43 ?_
      refine v_iadd C dX1_addCorner_44 ?_
      refine asC14 C (kfC23_4 hk) h dX1_addCorner_45 (fun σ_6 h => ?_)
      exact wX1_addCorner_46 C hr hk (lv_sub hl [1] rfl) h
end
section
variable {l : Launch} {D : va_G} {ac : Nat → ClassId} {q xa xv : Nat → Nat} {p : Program} {e : Env} {s : State} {m : MethodId} {args : Array Value} {below : List Frame} {meth : Method} {c : Code} {ls : Array Slot}
theorem dX1_addPoint_0 : decode cX1_addPoint 0 = .ok (.aload_n 0, 1) := by decide +kernel
theorem dX1_addPoint_1 : decode cX1_addPoint 1 = .ok (.getfield 42, 3) := by decide +kernel
theorem dX1_addPoint_4 : decode cX1_addPoint 4 = .ok (.bipush 24, 2) := by decide +kernel
theorem dX1_addPoint_6 : decode cX1_addPoint 6 = .ok (.if_icmp .ge 33, 3) := by decide +kernel
theorem dX1_addPoint_9 : decode cX1_addPoint 9 = .ok (.aload_n 0, 1) := by decide +kernel
theorem dX1_addPoint_10 : decode cX1_addPoint 10 = .ok (.getfield 9, 3) := by decide +kernel
theorem dX1_addPoint_13 : decode cX1_addPoint 13 = .ok (.aload_n 0, 1) := by decide +kernel
theorem dX1_addPoint_14 : decode cX1_addPoint 14 = .ok (.getfield 42, 3) := by decide +kernel
theorem dX1_addPoint_17 : decode cX1_addPoint 17 = .ok (.iload_n 1, 1) := by decide +kernel
theorem dX1_addPoint_18 : decode cX1_addPoint 18 = .ok (.iastore, 1) := by decide +kernel
theorem dX1_addPoint_19 : decode cX1_addPoint 19 = .ok (.aload_n 0, 1) := by decide +kernel
theorem dX1_addPoint_20 : decode cX1_addPoint 20 = .ok (.getfield 15, 3) := by decide +kernel
theorem dX1_addPoint_23 : decode cX1_addPoint 23 = .ok (.aload_n 0, 1) := by decide +kernel
theorem dX1_addPoint_24 : decode cX1_addPoint 24 = .ok (.getfield 42, 3) := by decide +kernel
theorem dX1_addPoint_27 : decode cX1_addPoint 27 = .ok (.iload_n 2, 1) := by decide +kernel
theorem dX1_addPoint_28 : decode cX1_addPoint 28 = .ok (.iastore, 1) := by decide +kernel
theorem dX1_addPoint_29 : decode cX1_addPoint 29 = .ok (.aload_n 0, 1) := by decide +kernel
theorem dX1_addPoint_30 : decode cX1_addPoint 30 = .ok (.dup, 1) := by decide +kernel
theorem dX1_addPoint_31 : decode cX1_addPoint 31 = .ok (.getfield 42, 3) := by decide +kernel
theorem dX1_addPoint_34 : decode cX1_addPoint 34 = .ok (.iconst 1, 1) := by decide +kernel
theorem dX1_addPoint_35 : decode cX1_addPoint 35 = .ok (.iadd, 1) := by decide +kernel
theorem dX1_addPoint_36 : decode cX1_addPoint 36 = .ok (.putfield 42, 3) := by decide +kernel
theorem dX1_addPoint_39 : decode cX1_addPoint 39 = .ok (.return_, 1) := by decide +kernel
theorem wX1_addPoint_39 (C : CxC p rmX1_addPoint s m args meth c D ac q xa xv RX1 cX1_addPoint 3) (hr : meth.sig.returnType = none){k : Nat} (hk : kdC k = 23) {σ : Mm} {r : Mm} (hl : lv_has ls 3 [(0, .ref (q k))]) (h : fX1_addPoint_39 k σ = some r) : VC p l e rmX1_addPoint s m args below meth c D ac q (QVC D ac q xa xv below args s r) σ (F0 m 39 ls []) := by
  have h : some σ = some r := h
  exact v_vret C hr h dX1_addPoint_39
theorem mX1_addPoint (hq : QI 175 q) {k : Nat} {v1 : Int} {v2 : Int} (hk : kdC k = 23) {σ : Mm} {r : Mm} (h : fX1_addPoint k v1 v2 σ = some r) : MVC l D ac q xa xv yX1_addPoint cX1_addPoint 3 none rmX1_addPoint [.ref (q k), .int (i32 v1), .int (i32 v2)] σ r := by
  refine MV.of hq XC_M (by decide) (Nat.le_of_ble_eq_true rfl) (fun p e s m below meth c ls C hr hl => ?_)
  have hl : lv_has ls 3 [(0, .ref (q k)), (1, .int (i32 v1)), (2, .int (i32 v2))] := hl
  have h : cr (σ k 9) ((if σ k 9 < 24 then chk (σ k 9) 24 (bindv (sto σ (k + 1) (σ k 9).toNat v1) (fun σ_2 => chk (σ_2 k 9) 24 (bindv (sto σ_2 (k + 2) (σ_2 k 9).toNat v2) (fun σ_3 => bindv (sto σ_3 k 9 ((σ_3 k 9) + 1)) (fun σ_4 => fX1_addPoint_39 k σ_4))))) else fX1_addPoint_39 k σ)) = some r := h
  refine v_aload_n C hl dX1_addPoint_0 rfl 0 rfl ?_
  refine g_X1_9 C hk fl_X1_42 dX1_addPoint_1 ?_
  refine v_bipush C dX1_addPoint_4 rfl ?_
  have hz1 := (cr_e h).1
  have h := (cr_e h).2
  refine v_icmp_ge C (tgt := 39) hz1 (by decide) h dX1_addPoint_6 rfl (fun h => ?_) (fun h => ?_)
  · exact wX1_addPoint_39 C hr hk (lv_sub hl [0] rfl) h
  · refine v_aload_n C hl dX1_addPoint_9 rfl 0 rfl ?_
    refine g_X1_0 C hk fl_X1_9 dX1_addPoint_10 ?_
    refine v_aload_n C hl dX1_addPoint_13 rfl 0 rfl ?_
    refine g_X1_9 C hk fl_X1_42 dX1_addPoint_14 ?_
    refine v_iload_n C hl dX1_addPoint_17 rfl 1 rfl ?_
    refine asC8 C (kfC23_0 hk) h dX1_addPoint_18 (fun σ_2 h => ?_)
    refine v_aload_n C hl dX1_addPoint_19 rfl 0 rfl ?_
    refine g_X1_1 C hk fl_X1_15 dX1_addPoint_20 ?_
    refine v_aload_n C hl dX1_addPoint_23 rfl 0 rfl ?_
    refine g_X1_9 C hk fl_X1_42 dX1_addPoint_24 ?_
    refine v_iload_n C hl dX1_addPoint_27 rfl 2 rfl ?_
    refine asC8 C (kfC23_1 hk) h dX1_addPoint_28 (fun σ_3 h => ?_)
    refine v_aload_n C hl dX1_addPoint_29 rfl 0 rfl ?_
    refine v_dup C dX1_addPoint_30 rfl ?_
    refine g_X1_9 C hk fl_X1_42 dX1_addPoint_31 ?_
    refine v_iconst C dX1_addPoint_34 ?_
    refine v_iadd C dX1_addPoint_35 ?_
    refine s_X1_9 C hk fl_X1_42 h dX1_addPoint_36 (fun σ_4 h => ?_)
    exact wX1_addPoint_39 C hr hk (lv_sub hl [0] rfl) h
end
section
variable {l : Launch} {D : va_G} {ac : Nat → ClassId} {q xa xv : Nat → Nat} {p : Program} {e : Env} {s : State} {m : MethodId} {args : Array Value} {below : List Frame} {meth : Method} {c : Code} {ls : Array Slot}
theorem dX1_areOpposite_0 : decode cX1_areOpposite 0 = .ok (.iload_n 0, 1) := by decide +kernel
theorem dX1_areOpposite_1 : decode cX1_areOpposite 1 = .ok (.ifCond .ge 7, 3) := by decide +kernel
theorem dX1_areOpposite_4 : decode cX1_areOpposite 4 = .ok (.iload_n 1, 1) := by decide +kernel
theorem dX1_areOpposite_5 : decode cX1_areOpposite 5 = .ok (.ifCond .gt 11, 3) := by decide +kernel
theorem dX1_areOpposite_8 : decode cX1_areOpposite 8 = .ok (.iload_n 0, 1) := by decide +kernel
theorem dX1_areOpposite_9 : decode cX1_areOpposite 9 = .ok (.ifCond .le 11, 3) := by decide +kernel
theorem dX1_areOpposite_12 : decode cX1_areOpposite 12 = .ok (.iload_n 1, 1) := by decide +kernel
theorem dX1_areOpposite_13 : decode cX1_areOpposite 13 = .ok (.ifCond .ge 7, 3) := by decide +kernel
theorem dX1_areOpposite_16 : decode cX1_areOpposite 16 = .ok (.iconst 1, 1) := by decide +kernel
theorem dX1_areOpposite_17 : decode cX1_areOpposite 17 = .ok (.goto 4, 3) := by decide +kernel
theorem dX1_areOpposite_20 : decode cX1_areOpposite 20 = .ok (.iconst 0, 1) := by decide +kernel
theorem dX1_areOpposite_21 : decode cX1_areOpposite 21 = .ok (.ireturn, 1) := by decide +kernel
theorem wX1_areOpposite_21 (C : CxC p rmX1_areOpposite s m args meth c D ac q xa xv RX1 cX1_areOpposite 2) (hr : meth.sig.returnType = (some .boolean)) {t0 : Int} {σ : Mm} {r : Int} (hl : lv_has ls 2 []) (h : fX1_areOpposite_21 t0 σ = some r) : VC p l e rmX1_areOpposite s m args below meth c D ac q (QIC D ac q xa xv below args s (r, σ)) σ (F0 m 21 ls [.int (i32 t0)]) := by
  have h : chb t0 (some t0) = some r := h
  have hz1 := (chb_e h).1
  have h := (chb_e h).2
  exact v_zret C hr hz1 (so1 h) dX1_areOpposite_21
theorem wX1_areOpposite_20 (C : CxC p rmX1_areOpposite s m args meth c D ac q xa xv RX1 cX1_areOpposite 2) (hr : meth.sig.returnType = (some .boolean)) {σ : Mm} {r : Int} (hl : lv_has ls 2 []) (h : fX1_areOpposite_20 σ = some r) : VC p l e rmX1_areOpposite s m args below meth c D ac q (QIC D ac q xa xv below args s (r, σ)) σ (F0 m 20 ls []) := by
  have h : fX1_areOpposite_21 0 σ = some r := h
  refine v_iconst C dX1_areOpposite_20 ?_
  exact wX1_areOpposite_21 C hr (lv_sub hl [] rfl) h
theorem wX1_areOpposite_16 (C : CxC p rmX1_areOpposite s m args meth c D ac q xa xv RX1 cX1_areOpposite 2) (hr : meth.sig.returnType = (some .boolean)) {σ : Mm} {r : Int} (hl : lv_has ls 2 []) (h : fX1_areOpposite_16 σ = some r) : VC p l e rmX1_areOpposite s m args below meth c D ac q (QIC D ac q xa xv below args s (r, σ)) σ (F0 m 16 ls []) := by
  have h : fX1_areOpposite_21 1 σ = some r := h
  refine v_iconst C dX1_areOpposite_16 ?_
  refine v_goto C (tgt := 21) dX1_areOpposite_17 rfl ?_
  exact wX1_areOpposite_21 C hr (lv_sub hl [] rfl) h
theorem wX1_areOpposite_8 (C : CxC p rmX1_areOpposite s m args meth c D ac q xa xv RX1 cX1_areOpposite 2) (hr : meth.sig.returnType = (some .boolean)) {v0 : Int} {v1 : Int} {σ : Mm} {r : Int} (hl : lv_has ls 2 [(0, .int (i32 v0)), (1, .int (i32 v1))]) (h : fX1_areOpposite_8 v0 v1 σ = some r) : VC p l e rmX1_areOpposite s m args below meth c D ac q (QIC D ac q xa xv below args s (r, σ)) σ (F0 m 8 ls []) := by
  have h : cr v0 ((if 0 < v0 then cr v1 ((if v1 < 0 then fX1_areOpposite_16 σ else fX1_areOpposite_20 σ)) else fX1_areOpposite_20 σ)) = some r := h
  refine v_iload_n C hl dX1_areOpposite_8 rfl 0 rfl ?_
  have hz1 := (cr_e h).1
  have h := (cr_e h).2
  refine v_if_le C (tgt := 20) hz1 h dX1_areOpposite_9 rfl (fun h => ?_) (fun h => ?_)
  · exact wX1_areOpposite_20 C hr (lv_sub hl [] rfl) h
  · refine v_iload_n C hl dX1_areOpposite_12 rfl 1 rfl ?_
    have hz2 := (cr_e h).1
    have h := (cr_e h).2
    refine v_if_ge C (tgt := 20) hz2 h dX1_areOpposite_13 rfl (fun h => ?_) (fun h => ?_)
    · exact wX1_areOpposite_20 C hr (lv_sub hl [] rfl) h
    · exact wX1_areOpposite_16 C hr (lv_sub hl [] rfl) h
theorem mX1_areOpposite (hq : QI 175 q) {v0 : Int} {v1 : Int} {σ : Mm} {r : Int} (h : fX1_areOpposite v0 v1 σ = some r) : MIC l D ac q xa xv yX1_areOpposite cX1_areOpposite 2 (some .boolean) rmX1_areOpposite [.int (i32 v0), .int (i32 v1)] σ (r, σ) := by
  refine MI.of hq XC_M (by decide) (Nat.le_of_ble_eq_true rfl) (fun p e s m below meth c ls C hr hl => ?_)
  have hl : lv_has ls 2 [(0, .int (i32 v0)), (1, .int (i32 v1))] := hl
  have h : cr v0 ((if v0 < 0 then cr v1 ((if 0 < v1 then fX1_areOpposite_16 σ else fX1_areOpposite_8 v0 v1 σ)) else fX1_areOpposite_8 v0 v1 σ)) = some r := h
  refine v_iload_n C hl dX1_areOpposite_0 rfl 0 rfl ?_
  have hz1 := (cr_e h).1
  have h := (cr_e h).2
  refine v_if_ge C (tgt := 8) hz1 h dX1_areOpposite_1 rfl (fun h => ?_) (fun h => ?_)
  · exact wX1_areOpposite_8 C hr (lv_sub hl [0, 1] rfl) h
  · refine v_iload_n C hl dX1_areOpposite_4 rfl 1 rfl ?_
    have hz2 := (cr_e h).1
    have h := (cr_e h).2
    refine v_if_gt C (tgt := 16) hz2 h dX1_areOpposite_5 rfl (fun h => ?_) (fun h => ?_)
    · exact wX1_areOpposite_16 C hr (lv_sub hl [] rfl) h
    · exact wX1_areOpposite_8 C hr (lv_sub hl [0, 1] rfl) h
end
section
variable {l : Launch} {D : va_G} {ac : Nat → ClassId} {q xa xv : Nat → Nat} {p : Program} {e : Env} {s : State} {m : MethodId} {args : Array Value} {below : List Frame} {meth : Method} {c : Code} {ls : Array Slot}
theorem dX1_areaOf_0 : decode cX1_areaOf 0 = .ok (.iconst 0, 1) := by decide +kernel
theorem dX1_areaOf_1 : decode cX1_areaOf 1 = .ok (.istore_n 3, 1) := by decide +kernel
theorem dX1_areaOf_2 : decode cX1_areaOf 2 = .ok (.iconst 0, 1) := by decide +kernel
theorem dX1_areaOf_3 : decode cX1_areaOf 3 = .ok (.istore 4, 2) := by decide +kernel
theorem dX1_areaOf_5 : decode cX1_areaOf 5 = .ok (.iload 4, 2) := by decide +kernel
theorem dX1_areaOf_7 : decode cX1_areaOf 7 = .ok (.iload_n 2, 1) := by decide +kernel
theorem dX1_areaOf_8 : decode cX1_areaOf 8 = .ok (.if_icmp .ge 59, 3) := by decide +kernel
theorem dX1_areaOf_11 : decode cX1_areaOf 11 = .ok (.aload_n 1, 1) := by decide +kernel
theorem dX1_areaOf_12 : decode cX1_areaOf 12 = .ok (.iload 4, 2) := by decide +kernel
theorem dX1_areaOf_14 : decode cX1_areaOf 14 = .ok (.iaload, 1) := by decide +kernel
theorem dX1_areaOf_15 : decode cX1_areaOf 15 = .ok (.istore 5, 2) := by decide +kernel
theorem dX1_areaOf_17 : decode cX1_areaOf 17 = .ok (.aload_n 1, 1) := by decide +kernel
theorem dX1_areaOf_18 : decode cX1_areaOf 18 = .ok (.iload 4, 2) := by decide +kernel
theorem dX1_areaOf_20 : decode cX1_areaOf 20 = .ok (.iload_n 2, 1) := by decide +kernel
theorem dX1_areaOf_21 : decode cX1_areaOf 21 = .ok (.invokestatic 58, 3) := by decide +kernel
theorem dX1_areaOf_24 : decode cX1_areaOf 24 = .ok (.iaload, 1) := by decide +kernel
theorem dX1_areaOf_25 : decode cX1_areaOf 25 = .ok (.istore 6, 2) := by decide +kernel
theorem dX1_areaOf_27 : decode cX1_areaOf 27 = .ok (.iload_n 3, 1) := by decide +kernel
theorem dX1_areaOf_28 : decode cX1_areaOf 28 = .ok (.aload_n 0, 1) := by decide +kernel
theorem dX1_areaOf_29 : decode cX1_areaOf 29 = .ok (.getfield 9, 3) := by decide +kernel
theorem dX1_areaOf_32 : decode cX1_areaOf 32 = .ok (.iload 5, 2) := by decide +kernel
theorem dX1_areaOf_34 : decode cX1_areaOf 34 = .ok (.iaload, 1) := by decide +kernel
theorem dX1_areaOf_35 : decode cX1_areaOf 35 = .ok (.aload_n 0, 1) := by decide +kernel
theorem dX1_areaOf_36 : decode cX1_areaOf 36 = .ok (.getfield 15, 3) := by decide +kernel
theorem dX1_areaOf_39 : decode cX1_areaOf 39 = .ok (.iload 6, 2) := by decide +kernel
theorem dX1_areaOf_41 : decode cX1_areaOf 41 = .ok (.iaload, 1) := by decide +kernel
theorem dX1_areaOf_42 : decode cX1_areaOf 42 = .ok (.imul, 1) := by decide +kernel
theorem dX1_areaOf_43 : decode cX1_areaOf 43 = .ok (.aload_n 0, 1) := by decide +kernel
theorem dX1_areaOf_44 : decode cX1_areaOf 44 = .ok (.getfield 9, 3) := by decide +kernel
theorem dX1_areaOf_47 : decode cX1_areaOf 47 = .ok (.iload 6, 2) := by decide +kernel
theorem dX1_areaOf_49 : decode cX1_areaOf 49 = .ok (.iaload, 1) := by decide +kernel
theorem dX1_areaOf_50 : decode cX1_areaOf 50 = .ok (.aload_n 0, 1) := by decide +kernel
theorem dX1_areaOf_51 : decode cX1_areaOf 51 = .ok (.getfield 15, 3) := by decide +kernel
theorem dX1_areaOf_54 : decode cX1_areaOf 54 = .ok (.iload 5, 2) := by decide +kernel
theorem dX1_areaOf_56 : decode cX1_areaOf 56 = .ok (.iaload, 1) := by decide +kernel
theorem dX1_areaOf_57 : decode cX1_areaOf 57 = .ok (.imul, 1) := by decide +kernel
theorem dX1_areaOf_58 : decode cX1_areaOf 58 = .ok (.isub, 1) := by decide +kernel
theorem dX1_areaOf_59 : decode cX1_areaOf 59 = .ok (.iadd, 1) := by decide +kernel
theorem dX1_areaOf_60 : decode cX1_areaOf 60 = .ok (.istore_n 3, 1) := by decide +kernel
theorem dX1_areaOf_61 : decode cX1_areaOf 61 = .ok (.iinc 4 1, 3) := by decide +kernel
theorem dX1_areaOf_64 : decode cX1_areaOf 64 = .ok (.goto (-59), 3) := by decide +kernel
theorem dX1_areaOf_67 : decode cX1_areaOf 67 = .ok (.iload_n 3, 1) := by decide +kernel
theorem dX1_areaOf_68 : decode cX1_areaOf 68 = .ok (.ireturn, 1) := by decide +kernel
theorem wX1_areaOf_67 (C : CxC p rmX1_areaOf s m args meth c D ac q xa xv RX1 cX1_areaOf 7) (hr : meth.sig.returnType = (some .int)){k : Nat} {w1 : Nat} (hk : kdC k = 23) (hw1 : kdC w1 = 16) {v3 : Int} {σ : Mm} {r : Int} (hl : lv_has ls 7 [(0, .ref (q k)), (3, .int (i32 v3))]) (h : fX1_areaOf_67 k w1 v3 σ = some r) : VC p l e rmX1_areaOf s m args below meth c D ac q (QIC D ac q xa xv below args s (r, σ)) σ (F0 m 67 ls []) := by
  have h : some v3 = some r := h
  refine v_iload_n C hl dX1_areaOf_67 rfl 1 rfl ?_
  exact v_iret C hr (so1 h) dX1_areaOf_68
theorem wX1_areaOf_5 (C : CxC p rmX1_areaOf s m args meth c D ac q xa xv RX1 cX1_areaOf 7) (hr : meth.sig.returnType = (some .int)){k : Nat} {w1 : Nat} (hk : kdC k = 23) (hw1 : kdC w1 = 16) {v2 : Int} {σ : Mm} {v3 : Int} {v4 : Int} {e5 : Int → Option (Int)} {c5 : Int → Int → Option (Int)} {r : Int} (he5 : ∀ (v3x : Int) (ls : Array Slot), lv_has ls 7 [(0, .ref (q k)), (3, .int (i32 v3x))] → e5 v3x = some r → VC p l e rmX1_areaOf s m args below meth c D ac q (QIC D ac q xa xv below args s (r, σ)) σ (F0 m 67 ls [])) (hc5 : ∀ (v3x : Int) (v4x : Int) (ls : Array Slot), lv_has ls 7 [(0, .ref (q k)), (1, .ref (q w1)), (2, .int (i32 v2)), (3, .int (i32 v3x)), (4, .int (i32 v4x))] → c5 v3x v4x = some r → VC p l e rmX1_areaOf s m args below meth c D ac q (QIC D ac q xa xv below args s (r, σ)) σ (F0 m 5 ls [])) (hl : lv_has ls 7 [(0, .ref (q k)), (1, .ref (q w1)), (2, .int (i32 v2)), (3, .int (i32 v3)), (4, .int (i32 v4))]) (h : fX1_areaOf_5 k w1 v2 σ e5 c5 v3 v4 = some r) : VC p l e rmX1_areaOf s m args below meth c D ac q (QIC D ac q xa xv below args s (r, σ)) σ (F0 m 5 ls []) := by
  have h : cr v4 (cr v2 ((if v4 < v2 then chk v4 10 (bindv (σ w1 (v4).toNat) (fun v5_3 => bd (fX7_following v4 v2 σ) (fun x_4 => chk x_4 10 (bindv (σ w1 (x_4).toNat) (fun v6_5 => chk v5_3 24 (chk v6_5 24 (chk v6_5 24 (chk v5_3 24 (bindv (v3 + (((σ (k + 1) (v5_3).toNat) * (σ (k + 2) (v6_5).toNat)) - ((σ (k + 1) (v6_5).toNat) * (σ (k + 2) (v5_3).toNat)))) (fun v3_6 => bindv (v4 + 1) (fun v4_7 => c5 v3_6 v4_7))))))))))) else e5 v3))) = some r := h
  refine v_iload C hl dX1_areaOf_5 4 rfl ?_
  refine v_iload_n C hl dX1_areaOf_7 rfl 2 rfl ?_
  have hz1 := (cr_e h).1
  have h := (cr_e h).2
  have hz2 := (cr_e h).1
  have h := (cr_e h).2
  refine v_icmp_ge C (tgt := 67) hz1 hz2 h dX1_areaOf_8 rfl (fun h => ?_) (fun h => ?_)
  · exact he5 _ _ (lv_sub hl [0, 3] rfl) h
  · refine v_aload_n C hl dX1_areaOf_11 rfl 1 rfl ?_
    refine v_iload C hl dX1_areaOf_12 4 rfl ?_
    refine alC16 C hw1 h dX1_areaOf_14 (fun h => ?_)
    refine v_istore C hl (fun x => [(5, .int (i32 x)), (0, .ref (q k)), (1, .ref (q w1)), (2, .int (i32 v2)), (3, .int (i32 v3)), (4, .int (i32 v4))]) dX1_areaOf_15 (by decide) (fun _ => rfl) h (fun v5_3 ls hl h => ?_)
    refine v_aload_n C hl dX1_areaOf_17 rfl 2 rfl ?_
    refine v_iload C hl dX1_areaOf_18 5 rfl ?_
    refine v_iload_n C hl dX1_areaOf_20 rfl 3 rfl ?_
    obtain ⟨x_4, hv4, h⟩ := bd_e h
    refine v_callSN C [.int (i32 v4), .int (i32 v2)] (mX7_following C.2.2.2.2.1 hv4) cd_X7_following ic_X7 sm_X7_following (nw_X1_58 C) yk_X7_following ⟨rfl, rfl, by decide, by decide⟩ rfl hl.1 (rest := [.ref (q w1)]) rfl (Nat.le_of_ble_eq_true rfl) dX1_areaOf_21 ?_
    refine alC16 C hw1 h dX1_areaOf_24 (fun h => ?_)
    refine v_istore C hl (fun x => [(6, .int (i32 x)), (5, .int (i32 v5_3)), (0, .ref (q k)), (1, .ref (q w1)), (2, .int (i32 v2)), (3, .int (i32 v3)), (4, .int (i32 v4))]) dX1_areaOf_25 (by decide) (fun _ => rfl) h (fun v6_5 ls hl h => ?_)
    refine v_iload_n C hl dX1_areaOf_27 rfl 5 rfl ?_
    refine v_aload_n C hl dX1_areaOf_28 rfl 2 rfl ?_
    refine g_X1_0 C hk fl_X1_9 dX1_areaOf_29 ?_
    refine v_iload C hl dX1_areaOf_32 1 rfl ?_
    refine alC8 C (kfC23_0 hk) h dX1_areaOf_34 (fun h => ?_)
    refine v_aload_n C hl dX1_areaOf_35 rfl 2 rfl ?_
    refine g_X1_1 C hk fl_X1_15 dX1_areaOf_36 ?_
    refine v_iload C hl dX1_areaOf_39 0 rfl ?_
    refine alC8 C (kfC23_1 hk) h dX1_areaOf_41 (fun h => ?_)
    refine v_imul C dX1_areaOf_42 ?_
    refine v_aload_n C hl dX1_areaOf_43 rfl 2 rfl ?_
    refine g_X1_0 C hk fl_X1_9 dX1_areaOf_44 ?_
    refine v_iload C hl dX1_areaOf_47 0 rfl ?_
    refine alC8 C (kfC23_0 hk) h dX1_areaOf_49 (fun h => ?_)
    refine v_aload_n C hl dX1_areaOf_50 rfl 2 rfl ?_
    refine g_X1_1 C hk fl_X1_15 dX1_areaOf_51 ?_
    refine v_iload C hl dX1_areaOf_54 1 rfl ?_
    refine alC8 C (kfC23_1 hk) h dX1_areaOf_56 (fun h => ?_)
    refine v_imul C dX1_areaOf_57 ?_
    refine v_isub C dX1_areaOf_58 ?_
    refine v_iadd C dX1_areaOf_59 ?_
    refine v_istore_n C hl (fun x => [(3, .int (i32 x)), (6, .int (i32 v6_5)), (5, .int (i32 v5_3)), (0, .ref (q k)), (1, .ref (q w1)), (2, .int (i32 v2)), (4, .int (i32 v4))]) dX1_areaOf_60 rfl (by decide) (fun _ => rfl) h (fun v3_6 ls hl h => ?_)
    refine v_iinc C hl (fun x => [(4, .int (i32 x)), (3, .int (i32 v3_6)), (6, .int (i32 v6_5)), (5, .int (i32 v5_3)), (0, .ref (q k)), (1, .ref (q w1)), (2, .int (i32 v2))]) dX1_areaOf_61 6 rfl (by decide) (fun _ => rfl) h (fun v4_7 ls hl h => ?_)
    refine v_goto C (tgt := 5) dX1_areaOf_64 rfl ?_
    exact hc5 _ _ _ (lv_sub hl [4, 5, 6, 1, 0] rfl) h
theorem wlX1_areaOf_5 (C : CxC p rmX1_areaOf s m args meth c D ac q xa xv RX1 cX1_areaOf 7) (hr : meth.sig.returnType = (some .int)){k : Nat} {w1 : Nat} (hk : kdC k = 23) (hw1 : kdC w1 = 16) {v2 : Int} {σ : Mm} {e5 : Int → Option (Int)} {r : Int} (he5 : ∀ (v3x : Int) (ls : Array Slot), lv_has ls 7 [(0, .ref (q k)), (3, .int (i32 v3x))] → e5 v3x = some r → VC p l e rmX1_areaOf s m args below meth c D ac q (QIC D ac q xa xv below args s (r, σ)) σ (F0 m 67 ls [])) : ∀ (fu : Nat) (v3 : Int) (v4 : Int) (ls : Array Slot) (hl : lv_has ls 7 [(0, .ref (q k)), (1, .ref (q w1)), (2, .int (i32 v2)), (3, .int (i32 v3)), (4, .int (i32 v4))]) (h : lX1_areaOf_5 k w1 v2 σ e5 fu v3 v4 = some r), VC p l e rmX1_areaOf s m args below meth c D ac q (QIC D ac q xa xv below args s (r, σ)) σ (F0 m 5 ls []) := by
  intro fu
  induction fu with
  | zero =>
    intro v3 v4 ls hl h
    have h : none = some r := h
    cases h
  | succ fu ih =>
    intro v3 v4 ls hl h
    exact wX1_areaOf_5 C hr hk hw1 he5 (fun v3 v4 ls hl h => ih v3 v4 ls hl h) hl h
theorem mX1_areaOf (hq : QI 175 q) {k : Nat} {w1 : Nat} {v2 : Int} (hk : kdC k = 23) (hw1 : kdC w1 = 16) {σ : Mm} {r : Int} (h : fX1_areaOf k w1 v2 σ = some r) : MIC l D ac q xa xv yX1_areaOf cX1_areaOf 7 (some .int) rmX1_areaOf [.ref (q k), .ref (q w1), .int (i32 v2)] σ (r, σ) := by
  refine MI.of hq XC_M (by decide) (Nat.le_of_ble_eq_true rfl) (fun p e s m below meth c ls C hr hl => ?_)
  have hl : lv_has ls 7 [(0, .ref (q k)), (1, .ref (q w1)), (2, .int (i32 v2))] := hl
  have h : bindv 0 (fun v3_1 => bindv 0 (fun v4_2 => lX1_areaOf_5 k w1 v2 σ (fun v3_3 => fX1_areaOf_67 k w1 v3_3 σ) 400 v3_1 v4_2)) = some r := h
  refine v_iconst C dX1_areaOf_0 ?_
  refine v_istore_n C hl (fun x => [(3, .int (i32 x)), (0, .ref (q k)), (1, .ref (q w1)), (2, .int (i32 v2))]) dX1_areaOf_1 rfl (by decide) (fun _ => rfl) h (fun v3_1 ls hl h => ?_)
  refine v_iconst C dX1_areaOf_2 ?_
  refine v_istore C hl (fun x => [(4, .int (i32 x)), (3, .int (i32 v3_1)), (0, .ref (q k)), (1, .ref (q w1)), (2, .int (i32 v2))]) dX1_areaOf_3 (by decide) (fun _ => rfl) h (fun v4_2 ls hl h => ?_)
  exact wlX1_areaOf_5 C hr hk hw1 (fun v3_3 ls hl h => wX1_areaOf_67 C hr hk hw1 (lv_sub hl [0, 1] rfl) h) _ _ _ _ (lv_sub hl [2, 3, 4, 1, 0] rfl) h
end
section
variable {l : Launch} {D : va_G} {ac : Nat → ClassId} {q xa xv : Nat → Nat} {p : Program} {e : Env} {s : State} {m : MethodId} {args : Array Value} {below : List Frame} {meth : Method} {c : Code} {ls : Array Slot}
theorem dX1_areasStand_0 : decode cX1_areasStand 0 = .ok (.iconst 0, 1) := by decide +kernel
theorem dX1_areasStand_1 : decode cX1_areasStand 1 = .ok (.istore_n 1, 1) := by decide +kernel
theorem dX1_areasStand_2 : decode cX1_areasStand 2 = .ok (.iload_n 1, 1) := by decide +kernel
theorem dX1_areasStand_3 : decode cX1_areasStand 3 = .ok (.aload_n 0, 1) := by decide +kernel
theorem dX1_areasStand_4 : decode cX1_areasStand 4 = .ok (.getfield 46, 3) := by decide +kernel
theorem dX1_areasStand_7 : decode cX1_areasStand 7 = .ok (.if_icmp .ge 30, 3) := by decide +kernel
theorem dX1_areasStand_10 : decode cX1_areasStand 10 = .ok (.aload_n 0, 1) := by decide +kernel
theorem dX1_areasStand_11 : decode cX1_areasStand 11 = .ok (.aload_n 0, 1) := by decide +kernel
theorem dX1_areasStand_12 : decode cX1_areasStand 12 = .ok (.getfield 24, 3) := by decide +kernel
theorem dX1_areasStand_15 : decode cX1_areasStand 15 = .ok (.iload_n 1, 1) := by decide +kernel
theorem dX1_areasStand_16 : decode cX1_areasStand 16 = .ok (.aaload, 1) := by decide +kernel
theorem dX1_areasStand_17 : decode cX1_areasStand 17 = .ok (.aload_n 0, 1) := by decide +kernel
theorem dX1_areasStand_18 : decode cX1_areasStand 18 = .ok (.getfield 27, 3) := by decide +kernel
theorem dX1_areasStand_21 : decode cX1_areasStand 21 = .ok (.iload_n 1, 1) := by decide +kernel
theorem dX1_areasStand_22 : decode cX1_areasStand 22 = .ok (.iaload, 1) := by decide +kernel
theorem dX1_areasStand_23 : decode cX1_areasStand 23 = .ok (.invokevirtual 80, 3) := by decide +kernel
theorem dX1_areasStand_26 : decode cX1_areasStand 26 = .ok (.ifCond .ne 5, 3) := by decide +kernel
theorem dX1_areasStand_29 : decode cX1_areasStand 29 = .ok (.iconst 0, 1) := by decide +kernel
theorem dX1_areasStand_30 : decode cX1_areasStand 30 = .ok (.ireturn, 1) := by decide +kernel
theorem dX1_areasStand_31 : decode cX1_areasStand 31 = .ok (.iinc 1 1, 3) := by decide +kernel
theorem dX1_areasStand_34 : decode cX1_areasStand 34 = .ok (.goto (-32), 3) := by decide +kernel
theorem dX1_areasStand_37 : decode cX1_areasStand 37 = .ok (.iconst 1, 1) := by decide +kernel
theorem dX1_areasStand_38 : decode cX1_areasStand 38 = .ok (.ireturn, 1) := by decide +kernel
theorem wX1_areasStand_37 (C : CxC p rmX1_areasStand s m args meth c D ac q xa xv RX1 cX1_areasStand 2) (hr : meth.sig.returnType = (some .boolean)){k : Nat} (hk : kdC k = 23) {σ : Mm} {r : Int} (hl : lv_has ls 2 [(0, .ref (q k))]) (h : fX1_areasStand_37 k σ = some r) : VC p l e rmX1_areasStand s m args below meth c D ac q (QIC D ac q xa xv below args s (r, σ)) σ (F0 m 37 ls []) := by
  have h : some 1 = some r := h
  refine v_iconst C dX1_areasStand_37 ?_
  exact v_zret C hr (Or.inr rfl) (so1 h) dX1_areasStand_38
theorem wX1_areasStand_2 (C : CxC p rmX1_areasStand s m args meth c D ac q xa xv RX1 cX1_areasStand 2) (hr : meth.sig.returnType = (some .boolean)){k : Nat} (hk : kdC k = 23) {σ : Mm} {v1 : Int} {e2 : Option (Int)} {c2 : Int → Option (Int)} {r : Int} (he2 : ∀ (ls : Array Slot), lv_has ls 2 [(0, .ref (q k))] → e2 = some r → VC p l e rmX1_areasStand s m args below meth c D ac q (QIC D ac q xa xv below args s (r, σ)) σ (F0 m 37 ls [])) (hc2 : ∀ (v1x : Int) (ls : Array Slot), lv_has ls 2 [(0, .ref (q k)), (1, .int (i32 v1x))] → c2 v1x = some r → VC p l e rmX1_areasStand s m args below meth c D ac q (QIC D ac q xa xv below args s (r, σ)) σ (F0 m 2 ls [])) (hl : lv_has ls 2 [(0, .ref (q k)), (1, .int (i32 v1))]) (h : fX1_areasStand_2 k σ e2 c2 v1 = some r) : VC p l e rmX1_areasStand s m args below meth c D ac q (QIC D ac q xa xv below args s (r, σ)) σ (F0 m 2 ls []) := by
  have h : cr v1 (cr (σ k 10) ((if v1 < σ k 10 then chk v1 6 (chk v1 6 (bd (fX1_areaOf k (k + 10 + (v1).toNat) (σ (k + 5) (v1).toNat) σ) (fun x_4 => cr x_4 ((if x_4 = 0 then some 0 else bindv (v1 + 1) (fun v1_6 => c2 v1_6)))))) else e2))) = some r := h
  refine v_iload_n C hl dX1_areasStand_2 rfl 1 rfl ?_
  refine v_aload_n C hl dX1_areasStand_3 rfl 0 rfl ?_
  refine g_X1_10 C hk fl_X1_46 dX1_areasStand_4 ?_
  have hz1 := (cr_e h).1
  have h := (cr_e h).2
  have hz2 := (cr_e h).1
  have h := (cr_e h).2
  refine v_icmp_ge C (tgt := 37) hz1 hz2 h dX1_areasStand_7 rfl (fun h => ?_) (fun h => ?_)
  · exact he2  _ (lv_sub hl [0] rfl) h
  · refine v_aload_n C hl dX1_areasStand_10 rfl 0 rfl ?_
    refine v_aload_n C hl dX1_areasStand_11 rfl 0 rfl ?_
    refine g_X1_3 C hk fl_X1_24 dX1_areasStand_12 ?_
    refine v_iload_n C hl dX1_areasStand_15 rfl 1 rfl ?_
    have hi3 := (chk_e h).1
    refine arC24 C (kfC23_3 hk) h dX1_areasStand_16 (fun h => ?_)
    refine v_aload_n C hl dX1_areasStand_17 rfl 0 rfl ?_
    refine g_X1_4 C hk fl_X1_27 dX1_areasStand_18 ?_
    refine v_iload_n C hl dX1_areasStand_21 rfl 1 rfl ?_
    refine alC14 C (kfC23_4 hk) h dX1_areasStand_22 (fun h => ?_)
    obtain ⟨x_4, hv4, h⟩ := bd_e h
    refine v_callVI C k (klC hk) rfl (ckC23 hk _) rfl [.ref (q (k + 10 + (v1).toNat)), .int (i32 (σ (k + 5) (v1).toNat))] (mX1_areaOf C.2.2.2.2.1 hk (keC24 (kfC23_3 hk) hi3) hv4) cd_X1_areaOf ic_X1 im_X1_areaOf se_X1_areaOf ml_X1_80 yk_X1_areaOf ⟨rfl, rfl, by decide, by decide⟩ rfl hl.1 (rest := []) rfl (Nat.le_of_ble_eq_true rfl) dX1_areasStand_23 ?_
    have hz5 := (cr_e h).1
    have h := (cr_e h).2
    refine v_if_ne C (tgt := 31) hz5 h dX1_areasStand_26 rfl (fun h => ?_) (fun h => ?_)
    · refine v_iinc C hl (fun x => [(1, .int (i32 x)), (0, .ref (q k))]) dX1_areasStand_31 1 rfl (by decide) (fun _ => rfl) h (fun v1_6 ls hl h => ?_)
      refine v_goto C (tgt := 2) dX1_areasStand_34 rfl ?_
      exact hc2 _ _ (lv_sub hl [1, 0] rfl) h
    · refine v_iconst C dX1_areasStand_29 ?_
      exact v_zret C hr (Or.inl rfl) (so1 h) dX1_areasStand_30
theorem wlX1_areasStand_2 (C : CxC p rmX1_areasStand s m args meth c D ac q xa xv RX1 cX1_areasStand 2) (hr : meth.sig.returnType = (some .boolean)){k : Nat} (hk : kdC k = 23) {σ : Mm} {e2 : Option (Int)} {r : Int} (he2 : ∀ (ls : Array Slot), lv_has ls 2 [(0, .ref (q k))] → e2 = some r → VC p l e rmX1_areasStand s m args below meth c D ac q (QIC D ac q xa xv below args s (r, σ)) σ (F0 m 37 ls [])) : ∀ (fu : Nat) (v1 : Int) (ls : Array Slot) (hl : lv_has ls 2 [(0, .ref (q k)), (1, .int (i32 v1))]) (h : lX1_areasStand_2 k σ e2 fu v1 = some r), VC p l e rmX1_areasStand s m args below meth c D ac q (QIC D ac q xa xv below args s (r, σ)) σ (F0 m 2 ls []) := by
  intro fu
  induction fu with
  | zero =>
    intro v1 ls hl h
    have h : none = some r := h
    cases h
  | succ fu ih =>
    intro v1 ls hl h
    exact wX1_areasStand_2 C hr hk he2 (fun v1 ls hl h => ih v1 ls hl h) hl h
theorem mX1_areasStand (hq : QI 175 q) {k : Nat} (hk : kdC k = 23) {σ : Mm} {r : Int} (h : fX1_areasStand k σ = some r) : MIC l D ac q xa xv yX1_areasStand cX1_areasStand 2 (some .boolean) rmX1_areasStand [.ref (q k)] σ (r, σ) := by
  refine MI.of hq XC_M (by decide) (Nat.le_of_ble_eq_true rfl) (fun p e s m below meth c ls C hr hl => ?_)
  have hl : lv_has ls 2 [(0, .ref (q k))] := hl
  have h : bindv 0 (fun v1_1 => lX1_areasStand_2 k σ (fX1_areasStand_37 k σ) 400 v1_1) = some r := h
  refine v_iconst C dX1_areasStand_0 ?_
  refine v_istore_n C hl (fun x => [(1, .int (i32 x)), (0, .ref (q k))]) dX1_areasStand_1 rfl (by decide) (fun _ => rfl) h (fun v1_1 ls hl h => ?_)
  exact wlX1_areasStand_2 C hr hk (fun ls hl h => wX1_areasStand_37 C hr hk (lv_sub hl [0] rfl) h) _ _ _ (lv_sub hl [1, 0] rfl) h
end
section
variable {l : Launch} {D : va_G} {ac : Nat → ClassId} {q xa xv : Nat → Nat} {p : Program} {e : Env} {s : State} {m : MethodId} {args : Array Value} {below : List Frame} {meth : Method} {c : Code} {ls : Array Slot}
theorem dX1_clear_0 : decode cX1_clear 0 = .ok (.aload_n 0, 1) := by decide +kernel
theorem dX1_clear_1 : decode cX1_clear 1 = .ok (.iconst 0, 1) := by decide +kernel
theorem dX1_clear_2 : decode cX1_clear 2 = .ok (.putfield 42, 3) := by decide +kernel
theorem dX1_clear_5 : decode cX1_clear 5 = .ok (.aload_n 0, 1) := by decide +kernel
theorem dX1_clear_6 : decode cX1_clear 6 = .ok (.iconst 0, 1) := by decide +kernel
theorem dX1_clear_7 : decode cX1_clear 7 = .ok (.putfield 46, 3) := by decide +kernel
theorem dX1_clear_10 : decode cX1_clear 10 = .ok (.iconst 0, 1) := by decide +kernel
theorem dX1_clear_11 : decode cX1_clear 11 = .ok (.istore_n 1, 1) := by decide +kernel
theorem dX1_clear_12 : decode cX1_clear 12 = .ok (.iload_n 1, 1) := by decide +kernel
theorem dX1_clear_13 : decode cX1_clear 13 = .ok (.bipush 24, 2) := by decide +kernel
theorem dX1_clear_15 : decode cX1_clear 15 = .ok (.if_icmp .ge 16, 3) := by decide +kernel
theorem dX1_clear_18 : decode cX1_clear 18 = .ok (.aload_n 0, 1) := by decide +kernel
theorem dX1_clear_19 : decode cX1_clear 19 = .ok (.getfield 18, 3) := by decide +kernel
theorem dX1_clear_22 : decode cX1_clear 22 = .ok (.iload_n 1, 1) := by decide +kernel
theorem dX1_clear_23 : decode cX1_clear 23 = .ok (.iconst 0, 1) := by decide +kernel
theorem dX1_clear_24 : decode cX1_clear 24 = .ok (.bastore, 1) := by decide +kernel
theorem dX1_clear_25 : decode cX1_clear 25 = .ok (.iinc 1 1, 3) := by decide +kernel
theorem dX1_clear_28 : decode cX1_clear 28 = .ok (.goto (-16), 3) := by decide +kernel
theorem dX1_clear_31 : decode cX1_clear 31 = .ok (.return_, 1) := by decide +kernel
theorem wX1_clear_31 (C : CxC p rmX1_clear s m args meth c D ac q xa xv RX1 cX1_clear 2) (hr : meth.sig.returnType = none){k : Nat} (hk : kdC k = 23) {σ : Mm} {r : Mm} (hl : lv_has ls 2 [(0, .ref (q k))]) (h : fX1_clear_31 k σ = some r) : VC p l e rmX1_clear s m args below meth c D ac q (QVC D ac q xa xv below args s r) σ (F0 m 31 ls []) := by
  have h : some σ = some r := h
  exact v_vret C hr h dX1_clear_31
theorem wX1_clear_12 (C : CxC p rmX1_clear s m args meth c D ac q xa xv RX1 cX1_clear 2) (hr : meth.sig.returnType = none){k : Nat} (hk : kdC k = 23) {v1 : Int} {σ : Mm} {e12 : Mm → Option (Mm)} {c12 : Int → Mm → Option (Mm)} {r : Mm} (he12 : ∀ (σ : Mm) (ls : Array Slot), lv_has ls 2 [(0, .ref (q k))] → e12 σ = some r → VC p l e rmX1_clear s m args below meth c D ac q (QVC D ac q xa xv below args s r) σ (F0 m 31 ls [])) (hc12 : ∀ (v1x : Int) (σ : Mm) (ls : Array Slot), lv_has ls 2 [(0, .ref (q k)), (1, .int (i32 v1x))] → c12 v1x σ = some r → VC p l e rmX1_clear s m args below meth c D ac q (QVC D ac q xa xv below args s r) σ (F0 m 12 ls [])) (hl : lv_has ls 2 [(0, .ref (q k)), (1, .int (i32 v1))]) (h : fX1_clear_12 k e12 c12 v1 σ = some r) : VC p l e rmX1_clear s m args below meth c D ac q (QVC D ac q xa xv below args s r) σ (F0 m 12 ls []) := by
  have h : cr v1 ((if v1 < 24 then chb 0 (chk v1 24 (bindv (sto σ (k + 3) (v1).toNat 0) (fun σ_2 => bindv (v1 + 1) (fun v1_3 => c12 v1_3 σ_2)))) else e12 σ)) = some r := h
  refine v_iload_n C hl dX1_clear_12 rfl 1 rfl ?_
  refine v_bipush C dX1_clear_13 rfl ?_
  have hz1 := (cr_e h).1
  have h := (cr_e h).2
  refine v_icmp_ge C (tgt := 31) hz1 (by decide) h dX1_clear_15 rfl (fun h => ?_) (fun h => ?_)
  · exact he12 _ _ (lv_sub hl [0] rfl) h
  · refine v_aload_n C hl dX1_clear_18 rfl 0 rfl ?_
    refine g_X1_2 C hk fl_X1_18 dX1_clear_19 ?_
    refine v_iload_n C hl dX1_clear_22 rfl 1 rfl ?_
    refine v_iconst C dX1_clear_23 ?_
    refine asC15 C (kfC23_2 hk) h dX1_clear_24 (fun σ_2 h => ?_)
    refine v_iinc C hl (fun x => [(1, .int (i32 x)), (0, .ref (q k))]) dX1_clear_25 1 rfl (by decide) (fun _ => rfl) h (fun v1_3 ls hl h => ?_)
    refine v_goto C (tgt := 12) dX1_clear_28 rfl ?_
    exact hc12 _ _ _ (lv_sub hl [1, 0] rfl) h
theorem wlX1_clear_12 (C : CxC p rmX1_clear s m args meth c D ac q xa xv RX1 cX1_clear 2) (hr : meth.sig.returnType = none){k : Nat} (hk : kdC k = 23) {e12 : Mm → Option (Mm)} {r : Mm} (he12 : ∀ (σ : Mm) (ls : Array Slot), lv_has ls 2 [(0, .ref (q k))] → e12 σ = some r → VC p l e rmX1_clear s m args below meth c D ac q (QVC D ac q xa xv below args s r) σ (F0 m 31 ls [])) : ∀ (fu : Nat) (v1 : Int) (σ : Mm) (ls : Array Slot) (hl : lv_has ls 2 [(0, .ref (q k)), (1, .int (i32 v1))]) (h : lX1_clear_12 k e12 fu v1 σ = some r), VC p l e rmX1_clear s m args below meth c D ac q (QVC D ac q xa xv below args s r) σ (F0 m 12 ls []) := by
  intro fu
  induction fu with
  | zero =>
    intro v1 σ ls hl h
    have h : none = some r := h
    cases h
  | succ fu ih =>
    intro v1 σ ls hl h
    exact wX1_clear_12 C hr hk he12 (fun v1 σ ls hl h => ih v1 σ ls hl h) hl h
theorem mX1_clear (hq : QI 175 q) {k : Nat} (hk : kdC k = 23) {σ : Mm} {r : Mm} (h : fX1_clear k σ = some r) : MVC l D ac q xa xv yX1_clear cX1_clear 2 none rmX1_clear [.ref (q k)] σ r := by
  refine MV.of hq XC_M (by decide) (Nat.le_of_ble_eq_true rfl) (fun p e s m below meth c ls C hr hl => ?_)
  have hl : lv_has ls 2 [(0, .ref (q k))] := hl
  have h : bindv (sto σ k 9 0) (fun σ_1 => bindv (sto σ_1 k 10 0) (fun σ_2 => bindv 0 (fun v1_3 => lX1_clear_12 k (fun σ_4 => fX1_clear_31 k σ_4) 400 v1_3 σ_2))) = some r := h
  refine v_aload_n C hl dX1_clear_0 rfl 0 rfl ?_
  refine v_iconst C dX1_clear_1 ?_
  refine s_X1_9 C hk fl_X1_42 h dX1_clear_2 (fun σ_1 h => ?_)
  refine v_aload_n C hl dX1_clear_5 rfl 0 rfl ?_
  refine v_iconst C dX1_clear_6 ?_
  refine s_X1_10 C hk fl_X1_46 h dX1_clear_7 (fun σ_2 h => ?_)
  refine v_iconst C dX1_clear_10 ?_
  refine v_istore_n C hl (fun x => [(1, .int (i32 x)), (0, .ref (q k))]) dX1_clear_11 rfl (by decide) (fun _ => rfl) h (fun v1_3 ls hl h => ?_)
  exact wlX1_clear_12 C hr hk (fun σ_4 ls hl h => wX1_clear_31 C hr hk (lv_sub hl [0] rfl) h) _ _ _ _ (lv_sub hl [1, 0] rfl) h
end
section
variable {l : Launch} {D : va_G} {ac : Nat → ClassId} {q xa xv : Nat → Nat} {p : Program} {e : Env} {s : State} {m : MethodId} {args : Array Value} {below : List Frame} {meth : Method} {c : Code} {ls : Array Slot}
theorem dX1_copyFrom_0 : decode cX1_copyFrom 0 = .ok (.aload_n 0, 1) := by decide +kernel
theorem dX1_copyFrom_1 : decode cX1_copyFrom 1 = .ok (.aload_n 1, 1) := by decide +kernel
theorem dX1_copyFrom_2 : decode cX1_copyFrom 2 = .ok (.getfield 42, 3) := by decide +kernel
theorem dX1_copyFrom_5 : decode cX1_copyFrom 5 = .ok (.putfield 42, 3) := by decide +kernel
theorem dX1_copyFrom_8 : decode cX1_copyFrom 8 = .ok (.aload_n 0, 1) := by decide +kernel
theorem dX1_copyFrom_9 : decode cX1_copyFrom 9 = .ok (.aload_n 1, 1) := by decide +kernel
theorem dX1_copyFrom_10 : decode cX1_copyFrom 10 = .ok (.getfield 46, 3) := by decide +kernel
theorem dX1_copyFrom_13 : decode cX1_copyFrom 13 = .ok (.putfield 46, 3) := by decide +kernel
theorem dX1_copyFrom_16 : decode cX1_copyFrom 16 = .ok (.aload_n 0, 1) := by decide +kernel
theorem dX1_copyFrom_17 : decode cX1_copyFrom 17 = .ok (.aload_n 1, 1) := by decide +kernel
theorem dX1_copyFrom_18 : decode cX1_copyFrom 18 = .ok (.getfield 49, 3) := by decide +kernel
theorem dX1_copyFrom_21 : decode cX1_copyFrom 21 = .ok (.putfield 49, 3) := by decide +kernel
theorem dX1_copyFrom_24 : decode cX1_copyFrom 24 = .ok (.aload_n 1, 1) := by decide +kernel
theorem dX1_copyFrom_25 : decode cX1_copyFrom 25 = .ok (.getfield 9, 3) := by decide +kernel
theorem dX1_copyFrom_28 : decode cX1_copyFrom 28 = .ok (.iconst 0, 1) := by decide +kernel
theorem dX1_copyFrom_29 : decode cX1_copyFrom 29 = .ok (.aload_n 0, 1) := by decide +kernel
theorem dX1_copyFrom_30 : decode cX1_copyFrom 30 = .ok (.getfield 9, 3) := by decide +kernel
theorem dX1_copyFrom_33 : decode cX1_copyFrom 33 = .ok (.iconst 0, 1) := by decide +kernel
theorem dX1_copyFrom_34 : decode cX1_copyFrom 34 = .ok (.bipush 24, 2) := by decide +kernel
theorem dX1_copyFrom_36 : decode cX1_copyFrom 36 = .ok (.invokestatic 52, 3) := by decide +kernel
theorem dX1_copyFrom_39 : decode cX1_copyFrom 39 = .ok (.aload_n 1, 1) := by decide +kernel
theorem dX1_copyFrom_40 : decode cX1_copyFrom 40 = .ok (.getfield 15, 3) := by decide +kernel
theorem dX1_copyFrom_43 : decode cX1_copyFrom 43 = .ok (.iconst 0, 1) := by decide +kernel
theorem dX1_copyFrom_44 : decode cX1_copyFrom 44 = .ok (.aload_n 0, 1) := by decide +kernel
theorem dX1_copyFrom_45 : decode cX1_copyFrom 45 = .ok (.getfield 15, 3) := by decide +kernel
theorem dX1_copyFrom_48 : decode cX1_copyFrom 48 = .ok (.iconst 0, 1) := by decide +kernel
theorem dX1_copyFrom_49 : decode cX1_copyFrom 49 = .ok (.bipush 24, 2) := by decide +kernel
theorem dX1_copyFrom_51 : decode cX1_copyFrom 51 = .ok (.invokestatic 52, 3) := by decide +kernel
theorem dX1_copyFrom_54 : decode cX1_copyFrom 54 = .ok (.iconst 0, 1) := by decide +kernel
theorem dX1_copyFrom_55 : decode cX1_copyFrom 55 = .ok (.istore_n 2, 1) := by decide +kernel
theorem dX1_copyFrom_56 : decode cX1_copyFrom 56 = .ok (.iload_n 2, 1) := by decide +kernel
theorem dX1_copyFrom_57 : decode cX1_copyFrom 57 = .ok (.bipush 24, 2) := by decide +kernel
theorem dX1_copyFrom_59 : decode cX1_copyFrom 59 = .ok (.if_icmp .ge 21, 3) := by decide +kernel
theorem dX1_copyFrom_62 : decode cX1_copyFrom 62 = .ok (.aload_n 0, 1) := by decide +kernel
theorem dX1_copyFrom_63 : decode cX1_copyFrom 63 = .ok (.getfield 18, 3) := by decide +kernel
theorem dX1_copyFrom_66 : decode cX1_copyFrom 66 = .ok (.iload_n 2, 1) := by decide +kernel
theorem dX1_copyFrom_67 : decode cX1_copyFrom 67 = .ok (.aload_n 1, 1) := by decide +kernel
theorem dX1_copyFrom_68 : decode cX1_copyFrom 68 = .ok (.getfield 18, 3) := by decide +kernel
theorem dX1_copyFrom_71 : decode cX1_copyFrom 71 = .ok (.iload_n 2, 1) := by decide +kernel
theorem dX1_copyFrom_72 : decode cX1_copyFrom 72 = .ok (.baload, 1) := by decide +kernel
theorem dX1_copyFrom_73 : decode cX1_copyFrom 73 = .ok (.bastore, 1) := by decide +kernel
theorem dX1_copyFrom_74 : decode cX1_copyFrom 74 = .ok (.iinc 2 1, 3) := by decide +kernel
theorem dX1_copyFrom_77 : decode cX1_copyFrom 77 = .ok (.goto (-21), 3) := by decide +kernel
theorem dX1_copyFrom_80 : decode cX1_copyFrom 80 = .ok (.aload_n 1, 1) := by decide +kernel
theorem dX1_copyFrom_81 : decode cX1_copyFrom 81 = .ok (.getfield 39, 3) := by decide +kernel
theorem dX1_copyFrom_84 : decode cX1_copyFrom 84 = .ok (.iconst 0, 1) := by decide +kernel
theorem dX1_copyFrom_85 : decode cX1_copyFrom 85 = .ok (.aload_n 0, 1) := by decide +kernel
theorem dX1_copyFrom_86 : decode cX1_copyFrom 86 = .ok (.getfield 39, 3) := by decide +kernel
theorem dX1_copyFrom_89 : decode cX1_copyFrom 89 = .ok (.iconst 0, 1) := by decide +kernel
theorem dX1_copyFrom_90 : decode cX1_copyFrom 90 = .ok (.bipush 24, 2) := by decide +kernel
theorem dX1_copyFrom_92 : decode cX1_copyFrom 92 = .ok (.invokestatic 52, 3) := by decide +kernel
theorem dX1_copyFrom_95 : decode cX1_copyFrom 95 = .ok (.aload_n 1, 1) := by decide +kernel
theorem dX1_copyFrom_96 : decode cX1_copyFrom 96 = .ok (.getfield 27, 3) := by decide +kernel
theorem dX1_copyFrom_99 : decode cX1_copyFrom 99 = .ok (.iconst 0, 1) := by decide +kernel
theorem dX1_copyFrom_100 : decode cX1_copyFrom 100 = .ok (.aload_n 0, 1) := by decide +kernel
theorem dX1_copyFrom_101 : decode cX1_copyFrom 101 = .ok (.getfield 27, 3) := by decide +kernel
theorem dX1_copyFrom_104 : decode cX1_copyFrom 104 = .ok (.iconst 0, 1) := by decide +kernel
theorem dX1_copyFrom_105 : decode cX1_copyFrom 105 = .ok (.bipush 6, 2) := by decide +kernel
theorem dX1_copyFrom_107 : decode cX1_copyFrom 107 = .ok (.invokestatic 52, 3) := by decide +kernel
theorem dX1_copyFrom_110 : decode cX1_copyFrom 110 = .ok (.iconst 0, 1) := by decide +kernel
theorem dX1_copyFrom_111 : decode cX1_copyFrom 111 = .ok (.istore_n 2, 1) := by decide +kernel
theorem dX1_copyFrom_112 : decode cX1_copyFrom 112 = .ok (.iload_n 2, 1) := by decide +kernel
theorem dX1_copyFrom_113 : decode cX1_copyFrom 113 = .ok (.bipush 6, 2) := by decide +kernel
theorem dX1_copyFrom_115 : decode cX1_copyFrom 115 = .ok (.if_icmp .ge 28, 3) := by decide +kernel
theorem dX1_copyFrom_118 : decode cX1_copyFrom 118 = .ok (.aload_n 1, 1) := by decide +kernel
theorem dX1_copyFrom_119 : decode cX1_copyFrom 119 = .ok (.getfield 24, 3) := by decide +kernel
theorem dX1_copyFrom_122 : decode cX1_copyFrom 122 = .ok (.iload_n 2, 1) := by decide +kernel
theorem dX1_copyFrom_123 : decode cX1_copyFrom 123 = .ok (.aaload, 1) := by decide +kernel
theorem dX1_copyFrom_124 : decode cX1_copyFrom 124 = .ok (.iconst 0, 1) := by decide +kernel
theorem dX1_copyFrom_125 : decode cX1_copyFrom 125 = .ok (.aload_n 0, 1) := by decide +kernel
theorem dX1_copyFrom_126 : decode cX1_copyFrom 126 = .ok (.getfield 24, 3) := by decide +kernel
theorem dX1_copyFrom_129 : decode cX1_copyFrom 129 = .ok (.iload_n 2, 1) := by decide +kernel
theorem dX1_copyFrom_130 : decode cX1_copyFrom 130 = .ok (.aaload, 1) := by decide +kernel
theorem dX1_copyFrom_131 : decode cX1_copyFrom 131 = .ok (.iconst 0, 1) := by decide +kernel
theorem dX1_copyFrom_132 : decode cX1_copyFrom 132 = .ok (.bipush 10, 2) := by decide +kernel
theorem dX1_copyFrom_134 : decode cX1_copyFrom 134 = .ok (.invokestatic 52, 3) := by decide +kernel
theorem dX1_copyFrom_137 : decode cX1_copyFrom 137 = .ok (.iinc 2 1, 3) := by decide +kernel
theorem dX1_copyFrom_140 : decode cX1_copyFrom 140 = .ok (.goto (-28), 3) := by decide +kernel
theorem dX1_copyFrom_143 : decode cX1_copyFrom 143 = .ok (.aload_n 1, 1) := by decide +kernel
theorem dX1_copyFrom_144 : decode cX1_copyFrom 144 = .ok (.getfield 30, 3) := by decide +kernel
theorem dX1_copyFrom_147 : decode cX1_copyFrom 147 = .ok (.iconst 0, 1) := by decide +kernel
theorem dX1_copyFrom_148 : decode cX1_copyFrom 148 = .ok (.aload_n 0, 1) := by decide +kernel
theorem dX1_copyFrom_149 : decode cX1_copyFrom 149 = .ok (.getfield 30, 3) := by decide +kernel
theorem dX1_copyFrom_152 : decode cX1_copyFrom 152 = .ok (.iconst 0, 1) := by decide +kernel
theorem dX1_copyFrom_153 : decode cX1_copyFrom 153 = .ok (.bipush 60, 2) := by decide +kernel
theorem dX1_copyFrom_155 : decode cX1_copyFrom 155 = .ok (.invokestatic 52, 3) := by decide +kernel
theorem dX1_copyFrom_158 : decode cX1_copyFrom 158 = .ok (.aload_n 1, 1) := by decide +kernel
theorem dX1_copyFrom_159 : decode cX1_copyFrom 159 = .ok (.getfield 33, 3) := by decide +kernel
theorem dX1_copyFrom_162 : decode cX1_copyFrom 162 = .ok (.iconst 0, 1) := by decide +kernel
theorem dX1_copyFrom_163 : decode cX1_copyFrom 163 = .ok (.aload_n 0, 1) := by decide +kernel
theorem dX1_copyFrom_164 : decode cX1_copyFrom 164 = .ok (.getfield 33, 3) := by decide +kernel
theorem dX1_copyFrom_167 : decode cX1_copyFrom 167 = .ok (.iconst 0, 1) := by decide +kernel
theorem dX1_copyFrom_168 : decode cX1_copyFrom 168 = .ok (.bipush 60, 2) := by decide +kernel
theorem dX1_copyFrom_170 : decode cX1_copyFrom 170 = .ok (.invokestatic 52, 3) := by decide +kernel
theorem dX1_copyFrom_173 : decode cX1_copyFrom 173 = .ok (.aload_n 1, 1) := by decide +kernel
theorem dX1_copyFrom_174 : decode cX1_copyFrom 174 = .ok (.getfield 36, 3) := by decide +kernel
theorem dX1_copyFrom_177 : decode cX1_copyFrom 177 = .ok (.iconst 0, 1) := by decide +kernel
theorem dX1_copyFrom_178 : decode cX1_copyFrom 178 = .ok (.aload_n 0, 1) := by decide +kernel
theorem dX1_copyFrom_179 : decode cX1_copyFrom 179 = .ok (.getfield 36, 3) := by decide +kernel
theorem dX1_copyFrom_182 : decode cX1_copyFrom 182 = .ok (.iconst 0, 1) := by decide +kernel
theorem dX1_copyFrom_183 : decode cX1_copyFrom 183 = .ok (.bipush 60, 2) := by decide +kernel
theorem dX1_copyFrom_185 : decode cX1_copyFrom 185 = .ok (.invokestatic 52, 3) := by decide +kernel
theorem dX1_copyFrom_188 : decode cX1_copyFrom 188 = .ok (.return_, 1) := by decide +kernel
theorem wX1_copyFrom_143 (C : CxC p rmX1_copyFrom s m args meth c D ac q xa xv RX1 cX1_copyFrom 3) (hr : meth.sig.returnType = none){k : Nat} {w1 : Nat} (hk : kdC k = 23) (hw1 : kdC w1 = 23) {σ : Mm} {r : Mm} (hl : lv_has ls 3 [(0, .ref (q k)), (1, .ref (q w1))]) (h : fX1_copyFrom_143 k w1 σ = some r) : VC p l e rmX1_copyFrom s m args below meth c D ac q (QVC D ac q xa xv below args s r) σ (F0 m 143 ls []) := by
  have h : bindv (cpy σ (w1 + 6) (k + 6) 60) (fun σ_1 => bindv (cpy σ_1 (w1 + 7) (k + 7) 60) (fun σ_2 => bindv (cpy σ_2 (w1 + 8) (k + 8) 60) (fun σ_3 => some σ_3))) = some r := h
  refine v_aload_n C hl dX1_copyFrom_143 rfl 1 rfl ?_
  refine g_X1_5 C hw1 fl_X1_30 dX1_copyFrom_144 ?_
  refine v_iconst C dX1_copyFrom_147 ?_
  refine v_aload_n C hl dX1_copyFrom_148 rfl 0 rfl ?_
  refine g_X1_5 C hk fl_X1_30 dX1_copyFrom_149 ?_
  refine v_iconst C dX1_copyFrom_152 ?_
  refine v_bipush C dX1_copyFrom_153 rfl ?_
  refine v_copyi C (rest := []) hl.1 ml_X1_52 na_ac sm_ac ic_J10 (w1 + 6) (k + 6) (klC (kfC23_5 hw1)) (klC (kfC23_5 hk)) rfl rfl 0 (ckC7 (kfC23_5 hw1) _) (ckC7 (kfC23_5 hk)) rfl 60 rfl (by decide) (by decide) (by decide) (by decide) (Nat.le_of_ble_eq_true rfl) h dX1_copyFrom_155 (fun σ_1 h => ?_)
  refine v_aload_n C hl dX1_copyFrom_158 rfl 1 rfl ?_
  refine g_X1_6 C hw1 fl_X1_33 dX1_copyFrom_159 ?_
  refine v_iconst C dX1_copyFrom_162 ?_
  refine v_aload_n C hl dX1_copyFrom_163 rfl 0 rfl ?_
  refine g_X1_6 C hk fl_X1_33 dX1_copyFrom_164 ?_
  refine v_iconst C dX1_copyFrom_167 ?_
  refine v_bipush C dX1_copyFrom_168 rfl ?_
  refine v_copyi C (rest := []) hl.1 ml_X1_52 na_ac sm_ac ic_J10 (w1 + 7) (k + 7) (klC (kfC23_6 hw1)) (klC (kfC23_6 hk)) rfl rfl 0 (ckC7 (kfC23_6 hw1) _) (ckC7 (kfC23_6 hk)) rfl 60 rfl (by decide) (by decide) (by decide) (by decide) (Nat.le_of_ble_eq_true rfl) h dX1_copyFrom_170 (fun σ_2 h => ?_)
  refine v_aload_n C hl dX1_copyFrom_173 rfl 1 rfl ?_
  refine g_X1_7 C hw1 fl_X1_36 dX1_copyFrom_174 ?_
  refine v_iconst C dX1_copyFrom_177 ?_
  refine v_aload_n C hl dX1_copyFrom_178 rfl 0 rfl ?_
  refine g_X1_7 C hk fl_X1_36 dX1_copyFrom_179 ?_
  refine v_iconst C dX1_copyFrom_182 ?_
  refine v_bipush C dX1_copyFrom_183 rfl ?_
  refine v_copyi C (rest := []) hl.1 ml_X1_52 na_ac sm_ac ic_J10 (w1 + 8) (k + 8) (klC (kfC23_7 hw1)) (klC (kfC23_7 hk)) rfl rfl 0 (ckC7 (kfC23_7 hw1) _) (ckC7 (kfC23_7 hk)) rfl 60 rfl (by decide) (by decide) (by decide) (by decide) (Nat.le_of_ble_eq_true rfl) h dX1_copyFrom_185 (fun σ_3 h => ?_)
  exact v_vret C hr h dX1_copyFrom_188
theorem wX1_copyFrom_112 (C : CxC p rmX1_copyFrom s m args meth c D ac q xa xv RX1 cX1_copyFrom 3) (hr : meth.sig.returnType = none){k : Nat} {w1 : Nat} (hk : kdC k = 23) (hw1 : kdC w1 = 23) {v2 : Int} {σ : Mm} {e112 : Mm → Option (Mm)} {c112 : Int → Mm → Option (Mm)} {r : Mm} (he112 : ∀ (σ : Mm) (ls : Array Slot), lv_has ls 3 [(0, .ref (q k)), (1, .ref (q w1))] → e112 σ = some r → VC p l e rmX1_copyFrom s m args below meth c D ac q (QVC D ac q xa xv below args s r) σ (F0 m 143 ls [])) (hc112 : ∀ (v2x : Int) (σ : Mm) (ls : Array Slot), lv_has ls 3 [(0, .ref (q k)), (1, .ref (q w1)), (2, .int (i32 v2x))] → c112 v2x σ = some r → VC p l e rmX1_copyFrom s m args below meth c D ac q (QVC D ac q xa xv below args s r) σ (F0 m 112 ls [])) (hl : lv_has ls 3 [(0, .ref (q k)), (1, .ref (q w1)), (2, .int (i32 v2))]) (h : fX1_copyFrom_112 k w1 e112 c112 v2 σ = some r) : VC p l e rmX1_copyFrom s m args below meth c D ac q (QVC D ac q xa xv below args s r) σ (F0 m 112 ls []) := by
  have h : cr v2 ((if v2 < 6 then chk v2 6 (chk v2 6 (bindv (cpy σ ((w1 + 4) + 6 + (v2).toNat) (k + 10 + (v2).toNat) 10) (fun σ_4 => bindv (v2 + 1) (fun v2_5 => c112 v2_5 σ_4)))) else e112 σ)) = some r := h
  refine v_iload_n C hl dX1_copyFrom_112 rfl 2 rfl ?_
  refine v_bipush C dX1_copyFrom_113 rfl ?_
  have hz1 := (cr_e h).1
  have h := (cr_e h).2
  refine v_icmp_ge C (tgt := 143) hz1 (by decide) h dX1_copyFrom_115 rfl (fun h => ?_) (fun h => ?_)
  · exact he112 _ _ (lv_sub hl [0, 1] rfl) h
  · refine v_aload_n C hl dX1_copyFrom_118 rfl 1 rfl ?_
    refine g_X1_3 C hw1 fl_X1_24 dX1_copyFrom_119 ?_
    refine v_iload_n C hl dX1_copyFrom_122 rfl 2 rfl ?_
    have hi2 := (chk_e h).1
    refine arC24 C (kfC23_3 hw1) h dX1_copyFrom_123 (fun h => ?_)
    refine v_iconst C dX1_copyFrom_124 ?_
    refine v_aload_n C hl dX1_copyFrom_125 rfl 0 rfl ?_
    refine g_X1_3 C hk fl_X1_24 dX1_copyFrom_126 ?_
    refine v_iload_n C hl dX1_copyFrom_129 rfl 2 rfl ?_
    have hi3 := (chk_e h).1
    refine arC24 C (kfC23_3 hk) h dX1_copyFrom_130 (fun h => ?_)
    refine v_iconst C dX1_copyFrom_131 ?_
    refine v_bipush C dX1_copyFrom_132 rfl ?_
    refine v_copyi C (rest := []) hl.1 ml_X1_52 na_ac sm_ac ic_J10 ((w1 + 4) + 6 + (v2).toNat) (k + 10 + (v2).toNat) (klC (keC24 (kfC23_3 hw1) hi2)) (klC (keC24 (kfC23_3 hk) hi3)) rfl rfl 0 (ckC16 (keC24 (kfC23_3 hw1) hi2) _) (ckC16 (keC24 (kfC23_3 hk) hi3)) rfl 10 rfl (by decide) (by decide) (by decide) (by decide) (Nat.le_of_ble_eq_true rfl) h dX1_copyFrom_134 (fun σ_4 h => ?_)
    refine v_iinc C hl (fun x => [(2, .int (i32 x)), (0, .ref (q k)), (1, .ref (q w1))]) dX1_copyFrom_137 2 rfl (by decide) (fun _ => rfl) h (fun v2_5 ls hl h => ?_)
    refine v_goto C (tgt := 112) dX1_copyFrom_140 rfl ?_
    exact hc112 _ _ _ (lv_sub hl [1, 2, 0] rfl) h
theorem wlX1_copyFrom_112 (C : CxC p rmX1_copyFrom s m args meth c D ac q xa xv RX1 cX1_copyFrom 3) (hr : meth.sig.returnType = none){k : Nat} {w1 : Nat} (hk : kdC k = 23) (hw1 : kdC w1 = 23) {e112 : Mm → Option (Mm)} {r : Mm} (he112 : ∀ (σ : Mm) (ls : Array Slot), lv_has ls 3 [(0, .ref (q k)), (1, .ref (q w1))] → e112 σ = some r → VC p l e rmX1_copyFrom s m args below meth c D ac q (QVC D ac q xa xv below args s r) σ (F0 m 143 ls [])) : ∀ (fu : Nat) (v2 : Int) (σ : Mm) (ls : Array Slot) (hl : lv_has ls 3 [(0, .ref (q k)), (1, .ref (q w1)), (2, .int (i32 v2))]) (h : lX1_copyFrom_112 k w1 e112 fu v2 σ = some r), VC p l e rmX1_copyFrom s m args below meth c D ac q (QVC D ac q xa xv below args s r) σ (F0 m 112 ls []) := by
  intro fu
  induction fu with
  | zero =>
    intro v2 σ ls hl h
    have h : none = some r := h
    cases h
  | succ fu ih =>
    intro v2 σ ls hl h
    exact wX1_copyFrom_112 C hr hk hw1 he112 (fun v2 σ ls hl h => ih v2 σ ls hl h) hl h
theorem wX1_copyFrom_80 (C : CxC p rmX1_copyFrom s m args meth c D ac q xa xv RX1 cX1_copyFrom 3) (hr : meth.sig.returnType = none){k : Nat} {w1 : Nat} (hk : kdC k = 23) (hw1 : kdC w1 = 23) {σ : Mm} {r : Mm} (hl : lv_has ls 3 [(0, .ref (q k)), (1, .ref (q w1))]) (h : fX1_copyFrom_80 k w1 σ = some r) : VC p l e rmX1_copyFrom s m args below meth c D ac q (QVC D ac q xa xv below args s r) σ (F0 m 80 ls []) := by
  have h : bindv (cpy σ (w1 + 9) (k + 9) 24) (fun σ_1 => bindv (cpy σ_1 (w1 + 5) (k + 5) 6) (fun σ_2 => bindv 0 (fun v2_3 => lX1_copyFrom_112 k w1 (fun σ_4 => fX1_copyFrom_143 k w1 σ_4) 400 v2_3 σ_2))) = some r := h
  refine v_aload_n C hl dX1_copyFrom_80 rfl 1 rfl ?_
  refine g_X1_8 C hw1 fl_X1_39 dX1_copyFrom_81 ?_
  refine v_iconst C dX1_copyFrom_84 ?_
  refine v_aload_n C hl dX1_copyFrom_85 rfl 0 rfl ?_
  refine g_X1_8 C hk fl_X1_39 dX1_copyFrom_86 ?_
  refine v_iconst C dX1_copyFrom_89 ?_
  refine v_bipush C dX1_copyFrom_90 rfl ?_
  refine v_copyi C (rest := []) hl.1 ml_X1_52 na_ac sm_ac ic_J10 (w1 + 9) (k + 9) (klC (kfC23_8 hw1)) (klC (kfC23_8 hk)) rfl rfl 0 (ckC8 (kfC23_8 hw1) _) (ckC8 (kfC23_8 hk)) rfl 24 rfl (by decide) (by decide) (by decide) (by decide) (Nat.le_of_ble_eq_true rfl) h dX1_copyFrom_92 (fun σ_1 h => ?_)
  refine v_aload_n C hl dX1_copyFrom_95 rfl 1 rfl ?_
  refine g_X1_4 C hw1 fl_X1_27 dX1_copyFrom_96 ?_
  refine v_iconst C dX1_copyFrom_99 ?_
  refine v_aload_n C hl dX1_copyFrom_100 rfl 0 rfl ?_
  refine g_X1_4 C hk fl_X1_27 dX1_copyFrom_101 ?_
  refine v_iconst C dX1_copyFrom_104 ?_
  refine v_bipush C dX1_copyFrom_105 rfl ?_
  refine v_copyi C (rest := []) hl.1 ml_X1_52 na_ac sm_ac ic_J10 (w1 + 5) (k + 5) (klC (kfC23_4 hw1)) (klC (kfC23_4 hk)) rfl rfl 0 (ckC14 (kfC23_4 hw1) _) (ckC14 (kfC23_4 hk)) rfl 6 rfl (by decide) (by decide) (by decide) (by decide) (Nat.le_of_ble_eq_true rfl) h dX1_copyFrom_107 (fun σ_2 h => ?_)
  refine v_iconst C dX1_copyFrom_110 ?_
  refine v_istore_n C hl (fun x => [(2, .int (i32 x)), (0, .ref (q k)), (1, .ref (q w1))]) dX1_copyFrom_111 rfl (by decide) (fun _ => rfl) h (fun v2_3 ls hl h => ?_)
  exact wlX1_copyFrom_112 C hr hk hw1 (fun σ_4 ls hl h => wX1_copyFrom_143 C hr hk hw1 (lv_sub hl [0, 1] rfl) h) _ _ _ _ (lv_sub hl [1, 2, 0] rfl) h
theorem wX1_copyFrom_56 (C : CxC p rmX1_copyFrom s m args meth c D ac q xa xv RX1 cX1_copyFrom 3) (hr : meth.sig.returnType = none){k : Nat} {w1 : Nat} (hk : kdC k = 23) (hw1 : kdC w1 = 23) {v2 : Int} {σ : Mm} {e56 : Mm → Option (Mm)} {c56 : Int → Mm → Option (Mm)} {r : Mm} (he56 : ∀ (σ : Mm) (ls : Array Slot), lv_has ls 3 [(0, .ref (q k)), (1, .ref (q w1))] → e56 σ = some r → VC p l e rmX1_copyFrom s m args below meth c D ac q (QVC D ac q xa xv below args s r) σ (F0 m 80 ls [])) (hc56 : ∀ (v2x : Int) (σ : Mm) (ls : Array Slot), lv_has ls 3 [(0, .ref (q k)), (1, .ref (q w1)), (2, .int (i32 v2x))] → c56 v2x σ = some r → VC p l e rmX1_copyFrom s m args below meth c D ac q (QVC D ac q xa xv below args s r) σ (F0 m 56 ls [])) (hl : lv_has ls 3 [(0, .ref (q k)), (1, .ref (q w1)), (2, .int (i32 v2))]) (h : fX1_copyFrom_56 k w1 e56 c56 v2 σ = some r) : VC p l e rmX1_copyFrom s m args below meth c D ac q (QVC D ac q xa xv below args s r) σ (F0 m 56 ls []) := by
  have h : cr v2 ((if v2 < 24 then chk v2 24 (chb (σ (w1 + 3) (v2).toNat) (chk v2 24 (bindv (sto σ (k + 3) (v2).toNat (σ (w1 + 3) (v2).toNat)) (fun σ_2 => bindv (v2 + 1) (fun v2_3 => c56 v2_3 σ_2))))) else e56 σ)) = some r := h
  refine v_iload_n C hl dX1_copyFrom_56 rfl 2 rfl ?_
  refine v_bipush C dX1_copyFrom_57 rfl ?_
  have hz1 := (cr_e h).1
  have h := (cr_e h).2
  refine v_icmp_ge C (tgt := 80) hz1 (by decide) h dX1_copyFrom_59 rfl (fun h => ?_) (fun h => ?_)
  · exact he56 _ _ (lv_sub hl [0, 1] rfl) h
  · refine v_aload_n C hl dX1_copyFrom_62 rfl 0 rfl ?_
    refine g_X1_2 C hk fl_X1_18 dX1_copyFrom_63 ?_
    refine v_iload_n C hl dX1_copyFrom_66 rfl 2 rfl ?_
    refine v_aload_n C hl dX1_copyFrom_67 rfl 1 rfl ?_
    refine g_X1_2 C hw1 fl_X1_18 dX1_copyFrom_68 ?_
    refine v_iload_n C hl dX1_copyFrom_71 rfl 2 rfl ?_
    refine alC15 C (kfC23_2 hw1) h dX1_copyFrom_72 (fun h => ?_)
    refine asC15 C (kfC23_2 hk) h dX1_copyFrom_73 (fun σ_2 h => ?_)
    refine v_iinc C hl (fun x => [(2, .int (i32 x)), (0, .ref (q k)), (1, .ref (q w1))]) dX1_copyFrom_74 2 rfl (by decide) (fun _ => rfl) h (fun v2_3 ls hl h => ?_)
    refine v_goto C (tgt := 56) dX1_copyFrom_77 rfl ?_
    exact hc56 _ _ _ (lv_sub hl [1, 2, 0] rfl) h
theorem wlX1_copyFrom_56 (C : CxC p rmX1_copyFrom s m args meth c D ac q xa xv RX1 cX1_copyFrom 3) (hr : meth.sig.returnType = none){k : Nat} {w1 : Nat} (hk : kdC k = 23) (hw1 : kdC w1 = 23) {e56 : Mm → Option (Mm)} {r : Mm} (he56 : ∀ (σ : Mm) (ls : Array Slot), lv_has ls 3 [(0, .ref (q k)), (1, .ref (q w1))] → e56 σ = some r → VC p l e rmX1_copyFrom s m args below meth c D ac q (QVC D ac q xa xv below args s r) σ (F0 m 80 ls [])) : ∀ (fu : Nat) (v2 : Int) (σ : Mm) (ls : Array Slot) (hl : lv_has ls 3 [(0, .ref (q k)), (1, .ref (q w1)), (2, .int (i32 v2))]) (h : lX1_copyFrom_56 k w1 e56 fu v2 σ = some r), VC p l e rmX1_copyFrom s m args below meth c D ac q (QVC D ac q xa xv below args s r) σ (F0 m 56 ls []) := by
  intro fu
  induction fu with
  | zero =>
    intro v2 σ ls hl h
    have h : none = some r := h
    cases h
  | succ fu ih =>
    intro v2 σ ls hl h
    exact wX1_copyFrom_56 C hr hk hw1 he56 (fun v2 σ ls hl h => ih v2 σ ls hl h) hl h
theorem mX1_copyFrom (hq : QI 175 q) {k : Nat} {w1 : Nat} (hk : kdC k = 23) (hw1 : kdC w1 = 23) {σ : Mm} {r : Mm} (h : fX1_copyFrom k w1 σ = some r) : MVC l D ac q xa xv yX1_copyFrom cX1_copyFrom 3 none rmX1_copyFrom [.ref (q k), .ref (q w1)] σ r := by
  refine MV.of hq XC_M (by decide) (Nat.le_of_ble_eq_true rfl) (fun p e s m below meth c ls C hr hl => ?_)
  have hl : lv_has ls 3 [(0, .ref (q k)), (1, .ref (q w1))] := hl
  have h : bindv (sto σ k 9 (σ w1 9)) (fun σ_1 => bindv (sto σ_1 k 10 (σ_1 w1 10)) (fun σ_2 => bindv (sto σ_2 k 11 (σ_2 w1 11)) (fun σ_3 => bindv (cpy σ_3 (w1 + 1) (k + 1) 24) (fun σ_4 => bindv (cpy σ_4 (w1 + 2) (k + 2) 24) (fun σ_5 => bindv 0 (fun v2_6 => lX1_copyFrom_56 k w1 (fun σ_7 => fX1_copyFrom_80 k w1 σ_7) 400 v2_6 σ_5)))))) = some r := h
  refine v_aload_n C hl dX1_copyFrom_0 rfl 0 rfl ?_
  refine v_aload_n C hl dX1_copyFrom_1 rfl 1 rfl ?_
  refine g_X1_9 C hw1 fl_X1_42 dX1_copyFrom_2 ?_
  refine s_X1_9 C hk fl_X1_42 h dX1_copyFrom_5 (fun σ_1 h => ?_)
  refine v_aload_n C hl dX1_copyFrom_8 rfl 0 rfl ?_
  refine v_aload_n C hl dX1_copyFrom_9 rfl 1 rfl ?_
  refine g_X1_10 C hw1 fl_X1_46 dX1_copyFrom_10 ?_
  refine s_X1_10 C hk fl_X1_46 h dX1_copyFrom_13 (fun σ_2 h => ?_)
  refine v_aload_n C hl dX1_copyFrom_16 rfl 0 rfl ?_
  refine v_aload_n C hl dX1_copyFrom_17 rfl 1 rfl ?_
  refine g_X1_11 C hw1 fl_X1_49 dX1_copyFrom_18 ?_
  refine s_X1_11 C hk fl_X1_49 h dX1_copyFrom_21 (fun σ_3 h => ?_)
  refine v_aload_n C hl dX1_copyFrom_24 rfl 1 rfl ?_
  refine g_X1_0 C hw1 fl_X1_9 dX1_copyFrom_25 ?_
  refine v_iconst C dX1_copyFrom_28 ?_
  refine v_aload_n C hl dX1_copyFrom_29 rfl 0 rfl ?_
  refine g_X1_0 C hk fl_X1_9 dX1_copyFrom_30 ?_
  refine v_iconst C dX1_copyFrom_33 ?_
  refine v_bipush C dX1_copyFrom_34 rfl ?_
  refine v_copyi C (rest := []) hl.1 ml_X1_52 na_ac sm_ac ic_J10 (w1 + 1) (k + 1) (klC (kfC23_0 hw1)) (klC (kfC23_0 hk)) rfl rfl 0 (ckC8 (kfC23_0 hw1) _) (ckC8 (kfC23_0 hk)) rfl 24 rfl (by decide) (by decide) (by decide) (by decide) (Nat.le_of_ble_eq_true rfl) h dX1_copyFrom_36 (fun σ_4 h => ?_)
  refine v_aload_n C hl dX1_copyFrom_39 rfl 1 rfl ?_
  refine g_X1_1 C hw1 fl_X1_15 dX1_copyFrom_40 ?_
  refine v_iconst C dX1_copyFrom_43 ?_
  refine v_aload_n C hl dX1_copyFrom_44 rfl 0 rfl ?_
  refine g_X1_1 C hk fl_X1_15 dX1_copyFrom_45 ?_
  refine v_iconst C dX1_copyFrom_48 ?_
  refine v_bipush C dX1_copyFrom_49 rfl ?_
  refine v_copyi C (rest := []) hl.1 ml_X1_52 na_ac sm_ac ic_J10 (w1 + 2) (k + 2) (klC (kfC23_1 hw1)) (klC (kfC23_1 hk)) rfl rfl 0 (ckC8 (kfC23_1 hw1) _) (ckC8 (kfC23_1 hk)) rfl 24 rfl (by decide) (by decide) (by decide) (by decide) (Nat.le_of_ble_eq_true rfl) h dX1_copyFrom_51 (fun σ_5 h => ?_)
  refine v_iconst C dX1_copyFrom_54 ?_
  refine v_istore_n C hl (fun x => [(2, .int (i32 x)), (0, .ref (q k)), (1, .ref (q w1))]) dX1_copyFrom_55 rfl (by decide) (fun _ => rfl) h (fun v2_6 ls hl h => ?_)
  exact wlX1_copyFrom_56 C hr hk hw1 (fun σ_7 ls hl h => wX1_copyFrom_80 C hr hk hw1 (lv_sub hl [0, 1] rfl) h) _ _ _ _ (lv_sub hl [1, 2, 0] rfl) h
end
section
variable {l : Launch} {D : va_G} {ac : Nat → ClassId} {q xa xv : Nat → Nat} {p : Program} {e : Env} {s : State} {m : MethodId} {args : Array Value} {below : List Frame} {meth : Method} {c : Code} {ls : Array Slot}
theorem dX1_sideOf_0 : decode cX1_sideOf 0 = .ok (.aload_n 0, 1) := by decide +kernel
theorem dX1_sideOf_1 : decode cX1_sideOf 1 = .ok (.getfield 9, 3) := by decide +kernel
theorem dX1_sideOf_4 : decode cX1_sideOf 4 = .ok (.iload_n 2, 1) := by decide +kernel
theorem dX1_sideOf_5 : decode cX1_sideOf 5 = .ok (.iaload, 1) := by decide +kernel
theorem dX1_sideOf_6 : decode cX1_sideOf 6 = .ok (.aload_n 0, 1) := by decide +kernel
theorem dX1_sideOf_7 : decode cX1_sideOf 7 = .ok (.getfield 9, 3) := by decide +kernel
theorem dX1_sideOf_10 : decode cX1_sideOf 10 = .ok (.iload_n 1, 1) := by decide +kernel
theorem dX1_sideOf_11 : decode cX1_sideOf 11 = .ok (.iaload, 1) := by decide +kernel
theorem dX1_sideOf_12 : decode cX1_sideOf 12 = .ok (.isub, 1) := by decide +kernel
theorem dX1_sideOf_13 : decode cX1_sideOf 13 = .ok (.iload 4, 2) := by decide +kernel
theorem dX1_sideOf_15 : decode cX1_sideOf 15 = .ok (.aload_n 0, 1) := by decide +kernel
theorem dX1_sideOf_16 : decode cX1_sideOf 16 = .ok (.getfield 15, 3) := by decide +kernel
theorem dX1_sideOf_19 : decode cX1_sideOf 19 = .ok (.iload_n 1, 1) := by decide +kernel
theorem dX1_sideOf_20 : decode cX1_sideOf 20 = .ok (.iaload, 1) := by decide +kernel
theorem dX1_sideOf_21 : decode cX1_sideOf 21 = .ok (.isub, 1) := by decide +kernel
theorem dX1_sideOf_22 : decode cX1_sideOf 22 = .ok (.imul, 1) := by decide +kernel
theorem dX1_sideOf_23 : decode cX1_sideOf 23 = .ok (.aload_n 0, 1) := by decide +kernel
theorem dX1_sideOf_24 : decode cX1_sideOf 24 = .ok (.getfield 15, 3) := by decide +kernel
theorem dX1_sideOf_27 : decode cX1_sideOf 27 = .ok (.iload_n 2, 1) := by decide +kernel
theorem dX1_sideOf_28 : decode cX1_sideOf 28 = .ok (.iaload, 1) := by decide +kernel
theorem dX1_sideOf_29 : decode cX1_sideOf 29 = .ok (.aload_n 0, 1) := by decide +kernel
theorem dX1_sideOf_30 : decode cX1_sideOf 30 = .ok (.getfield 15, 3) := by decide +kernel
theorem dX1_sideOf_33 : decode cX1_sideOf 33 = .ok (.iload_n 1, 1) := by decide +kernel
theorem dX1_sideOf_34 : decode cX1_sideOf 34 = .ok (.iaload, 1) := by decide +kernel
theorem dX1_sideOf_35 : decode cX1_sideOf 35 = .ok (.isub, 1) := by decide +kernel
theorem dX1_sideOf_36 : decode cX1_sideOf 36 = .ok (.iload_n 3, 1) := by decide +kernel
theorem dX1_sideOf_37 : decode cX1_sideOf 37 = .ok (.aload_n 0, 1) := by decide +kernel
theorem dX1_sideOf_38 : decode cX1_sideOf 38 = .ok (.getfield 9, 3) := by decide +kernel
theorem dX1_sideOf_41 : decode cX1_sideOf 41 = .ok (.iload_n 1, 1) := by decide +kernel
theorem dX1_sideOf_42 : decode cX1_sideOf 42 = .ok (.iaload, 1) := by decide +kernel
theorem dX1_sideOf_43 : decode cX1_sideOf 43 = .ok (.isub, 1) := by decide +kernel
theorem dX1_sideOf_44 : decode cX1_sideOf 44 = .ok (.imul, 1) := by decide +kernel
theorem dX1_sideOf_45 : decode cX1_sideOf 45 = .ok (.isub, 1) := by decide +kernel
theorem dX1_sideOf_46 : decode cX1_sideOf 46 = .ok (.ireturn, 1) := by decide +kernel
theorem mX1_sideOf (hq : QI 175 q) {k : Nat} {v1 : Int} {v2 : Int} {v3 : Int} {v4 : Int} (hk : kdC k = 23) {σ : Mm} {r : Int} (h : fX1_sideOf k v1 v2 v3 v4 σ = some r) : MIC l D ac q xa xv yX1_sideOf cX1_sideOf 5 (some .int) rmX1_sideOf [.ref (q k), .int (i32 v1), .int (i32 v2), .int (i32 v3), .int (i32 v4)] σ (r, σ) := by
  refine MI.of hq XC_M (by decide) (Nat.le_of_ble_eq_true rfl) (fun p e s m below meth c ls C hr hl => ?_)
  have hl : lv_has ls 5 [(0, .ref (q k)), (1, .int (i32 v1)), (2, .int (i32 v2)), (3, .int (i32 v3)), (4, .int (i32 v4))] := hl
  have h : chk v2 24 (chk v1 24 (chk v1 24 (chk v2 24 (chk v1 24 (chk v1 24 (some ((((σ (k + 1) (v2).toNat) - (σ (k + 1) (v1).toNat)) * (v4 - (σ (k + 2) (v1).toNat))) - (((σ (k + 2) (v2).toNat) - (σ (k + 2) (v1).toNat)) * (v3 - (σ (k + 1) (v1).toNat)))))))))) = some r := h
  refine v_aload_n C hl dX1_sideOf_0 rfl 0 rfl ?_
  refine g_X1_0 C hk fl_X1_9 dX1_sideOf_1 ?_
  refine v_iload_n C hl dX1_sideOf_4 rfl 2 rfl ?_
  refine alC8 C (kfC23_0 hk) h dX1_sideOf_5 (fun h => ?_)
  refine v_aload_n C hl dX1_sideOf_6 rfl 0 rfl ?_
  refine g_X1_0 C hk fl_X1_9 dX1_sideOf_7 ?_
  refine v_iload_n C hl dX1_sideOf_10 rfl 1 rfl ?_
  refine alC8 C (kfC23_0 hk) h dX1_sideOf_11 (fun h => ?_)
  refine v_isub C dX1_sideOf_12 ?_
  refine v_iload C hl dX1_sideOf_13 4 rfl ?_
  refine v_aload_n C hl dX1_sideOf_15 rfl 0 rfl ?_
  refine g_X1_1 C hk fl_X1_15 dX1_sideOf_16 ?_
  refine v_iload_n C hl dX1_sideOf_19 rfl 1 rfl ?_
  refine alC8 C (kfC23_1 hk) h dX1_sideOf_20 (fun h => ?_)
  refine v_isub C dX1_sideOf_21 ?_
  refine v_imul C dX1_sideOf_22 ?_
  refine v_aload_n C hl dX1_sideOf_23 rfl 0 rfl ?_
  refine g_X1_1 C hk fl_X1_15 dX1_sideOf_24 ?_
  refine v_iload_n C hl dX1_sideOf_27 rfl 2 rfl ?_
  refine alC8 C (kfC23_1 hk) h dX1_sideOf_28 (fun h => ?_)
  refine v_aload_n C hl dX1_sideOf_29 rfl 0 rfl ?_
  refine g_X1_1 C hk fl_X1_15 dX1_sideOf_30 ?_
  refine v_iload_n C hl dX1_sideOf_33 rfl 1 rfl ?_
  refine alC8 C (kfC23_1 hk) h dX1_sideOf_34 (fun h => ?_)
  refine v_isub C dX1_sideOf_35 ?_
  refine v_iload_n C hl dX1_sideOf_36 rfl 3 rfl ?_
  refine v_aload_n C hl dX1_sideOf_37 rfl 0 rfl ?_
  refine g_X1_0 C hk fl_X1_9 dX1_sideOf_38 ?_
  refine v_iload_n C hl dX1_sideOf_41 rfl 1 rfl ?_
  refine alC8 C (kfC23_0 hk) h dX1_sideOf_42 (fun h => ?_)
  refine v_isub C dX1_sideOf_43 ?_
  refine v_imul C dX1_sideOf_44 ?_
  refine v_isub C dX1_sideOf_45 ?_
  exact v_iret C hr (so1 h) dX1_sideOf_46
end
section
variable {l : Launch} {D : va_G} {ac : Nat → ClassId} {q xa xv : Nat → Nat} {p : Program} {e : Env} {s : State} {m : MethodId} {args : Array Value} {below : List Frame} {meth : Method} {c : Code} {ls : Array Slot}
theorem dX1_cross_0 : decode cX1_cross 0 = .ok (.aload_n 0, 1) := by decide +kernel
theorem dX1_cross_1 : decode cX1_cross 1 = .ok (.iload_n 1, 1) := by decide +kernel
theorem dX1_cross_2 : decode cX1_cross 2 = .ok (.iload_n 2, 1) := by decide +kernel
theorem dX1_cross_3 : decode cX1_cross 3 = .ok (.aload_n 0, 1) := by decide +kernel
theorem dX1_cross_4 : decode cX1_cross 4 = .ok (.getfield 9, 3) := by decide +kernel
theorem dX1_cross_7 : decode cX1_cross 7 = .ok (.iload_n 3, 1) := by decide +kernel
theorem dX1_cross_8 : decode cX1_cross 8 = .ok (.iaload, 1) := by decide +kernel
theorem dX1_cross_9 : decode cX1_cross 9 = .ok (.aload_n 0, 1) := by decide +kernel
theorem dX1_cross_10 : decode cX1_cross 10 = .ok (.getfield 15, 3) := by decide +kernel
theorem dX1_cross_13 : decode cX1_cross 13 = .ok (.iload_n 3, 1) := by decide +kernel
theorem dX1_cross_14 : decode cX1_cross 14 = .ok (.iaload, 1) := by decide +kernel
theorem dX1_cross_15 : decode cX1_cross 15 = .ok (.invokevirtual 98, 3) := by decide +kernel
theorem dX1_cross_18 : decode cX1_cross 18 = .ok (.aload_n 0, 1) := by decide +kernel
theorem dX1_cross_19 : decode cX1_cross 19 = .ok (.iload_n 1, 1) := by decide +kernel
theorem dX1_cross_20 : decode cX1_cross 20 = .ok (.iload_n 2, 1) := by decide +kernel
theorem dX1_cross_21 : decode cX1_cross 21 = .ok (.aload_n 0, 1) := by decide +kernel
theorem dX1_cross_22 : decode cX1_cross 22 = .ok (.getfield 9, 3) := by decide +kernel
theorem dX1_cross_25 : decode cX1_cross 25 = .ok (.iload 4, 2) := by decide +kernel
theorem dX1_cross_27 : decode cX1_cross 27 = .ok (.iaload, 1) := by decide +kernel
theorem dX1_cross_28 : decode cX1_cross 28 = .ok (.aload_n 0, 1) := by decide +kernel
theorem dX1_cross_29 : decode cX1_cross 29 = .ok (.getfield 15, 3) := by decide +kernel
theorem dX1_cross_32 : decode cX1_cross 32 = .ok (.iload 4, 2) := by decide +kernel
theorem dX1_cross_34 : decode cX1_cross 34 = .ok (.iaload, 1) := by decide +kernel
theorem dX1_cross_35 : decode cX1_cross 35 = .ok (.invokevirtual 98, 3) := by decide +kernel
theorem dX1_cross_38 : decode cX1_cross 38 = .ok (.invokestatic 110, 3) := by decide +kernel
theorem dX1_cross_41 : decode cX1_cross 41 = .ok (.ifCond .eq 51, 3) := by decide +kernel
theorem dX1_cross_44 : decode cX1_cross 44 = .ok (.aload_n 0, 1) := by decide +kernel
theorem dX1_cross_45 : decode cX1_cross 45 = .ok (.iload_n 3, 1) := by decide +kernel
theorem dX1_cross_46 : decode cX1_cross 46 = .ok (.iload 4, 2) := by decide +kernel
theorem dX1_cross_48 : decode cX1_cross 48 = .ok (.aload_n 0, 1) := by decide +kernel
theorem dX1_cross_49 : decode cX1_cross 49 = .ok (.getfield 9, 3) := by decide +kernel
theorem dX1_cross_52 : decode cX1_cross 52 = .ok (.iload_n 1, 1) := by decide +kernel
theorem dX1_cross_53 : decode cX1_cross 53 = .ok (.iaload, 1) := by decide +kernel
theorem dX1_cross_54 : decode cX1_cross 54 = .ok (.aload_n 0, 1) := by decide +kernel
theorem dX1_cross_55 : decode cX1_cross 55 = .ok (.getfield 15, 3) := by decide +kernel
theorem dX1_cross_58 : decode cX1_cross 58 = .ok (.iload_n 1, 1) := by decide +kernel
theorem dX1_cross_59 : decode cX1_cross 59 = .ok (.iaload, 1) := by decide +kernel
theorem dX1_cross_60 : decode cX1_cross 60 = .ok (.invokevirtual 98, 3) := by decide +kernel
theorem dX1_cross_63 : decode cX1_cross 63 = .ok (.aload_n 0, 1) := by decide +kernel
theorem dX1_cross_64 : decode cX1_cross 64 = .ok (.iload_n 3, 1) := by decide +kernel
theorem dX1_cross_65 : decode cX1_cross 65 = .ok (.iload 4, 2) := by decide +kernel
theorem dX1_cross_67 : decode cX1_cross 67 = .ok (.aload_n 0, 1) := by decide +kernel
theorem dX1_cross_68 : decode cX1_cross 68 = .ok (.getfield 9, 3) := by decide +kernel
theorem dX1_cross_71 : decode cX1_cross 71 = .ok (.iload_n 2, 1) := by decide +kernel
theorem dX1_cross_72 : decode cX1_cross 72 = .ok (.iaload, 1) := by decide +kernel
theorem dX1_cross_73 : decode cX1_cross 73 = .ok (.aload_n 0, 1) := by decide +kernel
theorem dX1_cross_74 : decode cX1_cross 74 = .ok (.getfield 15, 3) := by decide +kernel
theorem dX1_cross_77 : decode cX1_cross 77 = .ok (.iload_n 2, 1) := by decide +kernel
theorem dX1_cross_78 : decode cX1_cross 78 = .ok (.iaload, 1) := by decide +kernel
theorem dX1_cross_79 : decode cX1_cross 79 = .ok (.invokevirtual 98, 3) := by decide +kernel
theorem dX1_cross_82 : decode cX1_cross 82 = .ok (.invokestatic 110, 3) := by decide +kernel
theorem dX1_cross_85 : decode cX1_cross 85 = .ok (.ifCond .eq 7, 3) := by decide +kernel
theorem dX1_cross_88 : decode cX1_cross 88 = .ok (.iconst 1, 1) := by decide +kernel
theorem dX1_cross_89 : decode cX1_cross 89 = .ok (.goto 4, 3) := by decide +kernel
theorem dX1_cross_92 : decode cX1_cross 92 = .ok (.iconst 0, 1) := by decide +kernel
theorem dX1_cross_93 : decode cX1_cross 93 = .ok (.ireturn, 1) := by decide +kernel
theorem wX1_cross_93 (C : CxC p rmX1_cross s m args meth c D ac q xa xv RX1 cX1_cross 5) (hr : meth.sig.returnType = (some .boolean)){k : Nat} (hk : kdC k = 23) {t0 : Int} {σ : Mm} {r : Int} (hl : lv_has ls 5 [(0, .ref (q k))]) (h : fX1_cross_93 k t0 σ = some r) : VC p l e rmX1_cross s m args below meth c D ac q (QIC D ac q xa xv below args s (r, σ)) σ (F0 m 93 ls [.int (i32 t0)]) := by
  have h : chb t0 (some t0) = some r := h
  have hz1 := (chb_e h).1
  have h := (chb_e h).2
  exact v_zret C hr hz1 (so1 h) dX1_cross_93
theorem wX1_cross_92 (C : CxC p rmX1_cross s m args meth c D ac q xa xv RX1 cX1_cross 5) (hr : meth.sig.returnType = (some .boolean)){k : Nat} (hk : kdC k = 23) {σ : Mm} {r : Int} (hl : lv_has ls 5 [(0, .ref (q k))]) (h : fX1_cross_92 k σ = some r) : VC p l e rmX1_cross s m args below meth c D ac q (QIC D ac q xa xv below args s (r, σ)) σ (F0 m 92 ls []) := by
  have h : fX1_cross_93 k 0 σ = some r := h
  refine v_iconst C dX1_cross_92 ?_
  exact wX1_cross_93 C hr hk (lv_sub hl [0] rfl) h
theorem mX1_cross (hq : QI 175 q) {k : Nat} {v1 : Int} {v2 : Int} {v3 : Int} {v4 : Int} (hk : kdC k = 23) {σ : Mm} {r : Int} (h : fX1_cross k v1 v2 v3 v4 σ = some r) : MIC l D ac q xa xv yX1_cross cX1_cross 5 (some .boolean) rmX1_cross [.ref (q k), .int (i32 v1), .int (i32 v2), .int (i32 v3), .int (i32 v4)] σ (r, σ) := by
  refine MI.of hq XC_M (by decide) (Nat.le_of_ble_eq_true rfl) (fun p e s m below meth c ls C hr hl => ?_)
  have hl : lv_has ls 5 [(0, .ref (q k)), (1, .int (i32 v1)), (2, .int (i32 v2)), (3, .int (i32 v3)), (4, .int (i32 v4))] := hl
  have h : chk v3 24 (chk v3 24 (bd (fX1_sideOf k v1 v2 (σ (k + 1) (v3).toNat) (σ (k + 2) (v3).toNat) σ) (fun x_1 => chk v4 24 (chk v4 24 (bd (fX1_sideOf k v1 v2 (σ (k + 1) (v4).toNat) (σ (k + 2) (v4).toNat) σ) (fun x_2 => bd (fX1_areOpposite x_1 x_2 σ) (fun x_3 => cr x_3 ((if x_3 = 0 then fX1_cross_92 k σ else chk v1 24 (chk v1 24 (bd (fX1_sideOf k v3 v4 (σ (k + 1) (v1).toNat) (σ (k + 2) (v1).toNat) σ) (fun x_5 => chk v2 24 (chk v2 24 (bd (fX1_sideOf k v3 v4 (σ (k + 1) (v2).toNat) (σ (k + 2) (v2).toNat) σ) (fun x_6 => bd (fX1_areOpposite x_5 x_6 σ) (fun x_7 => cr x_7 ((if x_7 = 0 then fX1_cross_92 k σ else fX1_cross_93 k 1 σ)))))))))))))))))) = some r := h
  refine v_aload_n C hl dX1_cross_0 rfl 0 rfl ?_
  refine v_iload_n C hl dX1_cross_1 rfl 1 rfl ?_
  refine v_iload_n C hl dX1_cross_2 rfl 2 rfl ?_
  refine v_aload_n C hl dX1_cross_3 rfl 0 rfl ?_
  refine g_X1_0 C hk fl_X1_9 dX1_cross_4 ?_
  refine v_iload_n C hl dX1_cross_7 rfl 3 rfl ?_
  refine alC8 C (kfC23_0 hk) h dX1_cross_8 (fun h => ?_)
  refine v_aload_n C hl dX1_cross_9 rfl 0 rfl ?_
  refine g_X1_1 C hk fl_X1_15 dX1_cross_10 ?_
  refine v_iload_n C hl dX1_cross_13 rfl 3 rfl ?_
  refine alC8 C (kfC23_1 hk) h dX1_cross_14 (fun h => ?_)
  obtain ⟨x_1, hv1, h⟩ := bd_e h
  refine v_callVI C k (klC hk) rfl (ckC23 hk _) rfl [.int (i32 v1), .int (i32 v2), .int (i32 (σ (k + 1) (v3).toNat)), .int (i32 (σ (k + 2) (v3).toNat))] (mX1_sideOf C.2.2.2.2.1 hk hv1) cd_X1_sideOf ic_X1 im_X1_sideOf se_X1_sideOf ml_X1_98 yk_X1_sideOf ⟨rfl, rfl, by decide, by decide⟩ rfl hl.1 (rest := []) rfl (Nat.le_of_ble_eq_true rfl) dX1_cross_15 ?_
  refine v_aload_n C hl dX1_cross_18 rfl 0 rfl ?_
  refine v_iload_n C hl dX1_cross_19 rfl 1 rfl ?_
  refine v_iload_n C hl dX1_cross_20 rfl 2 rfl ?_
  refine v_aload_n C hl dX1_cross_21 rfl 0 rfl ?_
  refine g_X1_0 C hk fl_X1_9 dX1_cross_22 ?_
  refine v_iload C hl dX1_cross_25 4 rfl ?_
  refine alC8 C (kfC23_0 hk) h dX1_cross_27 (fun h => ?_)
  refine v_aload_n C hl dX1_cross_28 rfl 0 rfl ?_
  refine g_X1_1 C hk fl_X1_15 dX1_cross_29 ?_
  refine v_iload C hl dX1_cross_32 4 rfl ?_
  refine alC8 C (kfC23_1 hk) h dX1_cross_34 (fun h => ?_)
  obtain ⟨x_2, hv2, h⟩ := bd_e h
  refine v_callVI C k (klC hk) rfl (ckC23 hk _) rfl [.int (i32 v1), .int (i32 v2), .int (i32 (σ (k + 1) (v4).toNat)), .int (i32 (σ (k + 2) (v4).toNat))] (mX1_sideOf C.2.2.2.2.1 hk hv2) cd_X1_sideOf ic_X1 im_X1_sideOf se_X1_sideOf ml_X1_98 yk_X1_sideOf ⟨rfl, rfl, by decide, by decide⟩ rfl hl.1 (rest := [.int (i32 x_1)]) rfl (Nat.le_of_ble_eq_true rfl) dX1_cross_35 ?_
  obtain ⟨x_3, hv3, h⟩ := bd_e h
  refine v_callSI C [.int (i32 x_1), .int (i32 x_2)] (mX1_areOpposite C.2.2.2.2.1 hv3) cd_X1_areOpposite ic_X1 sm_X1_areOpposite ml_X1_110 yk_X1_areOpposite ⟨rfl, rfl, by decide, by decide⟩ rfl hl.1 (rest := []) rfl (Nat.le_of_ble_eq_true rfl) dX1_cross_38 ?_
  have hz4 := (cr_e h).1
  have h := (cr_e h).2
  refine v_if_eq C (tgt := 92) hz4 h dX1_cross_41 rfl (fun h => ?_) (fun h => ?_)
  · exact wX1_cross_92 C hr hk (lv_sub hl [0] rfl) h
  · refine v_aload_n C hl dX1_cross_44 rfl 0 rfl ?_
    refine v_iload_n C hl dX1_cross_45 rfl 3 rfl ?_
    refine v_iload C hl dX1_cross_46 4 rfl ?_
    refine v_aload_n C hl dX1_cross_48 rfl 0 rfl ?_
    refine g_X1_0 C hk fl_X1_9 dX1_cross_49 ?_
    refine v_iload_n C hl dX1_cross_52 rfl 1 rfl ?_
    refine alC8 C (kfC23_0 hk) h dX1_cross_53 (fun h => ?_)
    refine v_aload_n C hl dX1_cross_54 rfl 0 rfl ?_
    refine g_X1_1 C hk fl_X1_15 dX1_cross_55 ?_
    refine v_iload_n C hl dX1_cross_58 rfl 1 rfl ?_
    refine alC8 C (kfC23_1 hk) h dX1_cross_59 (fun h => ?_)
    obtain ⟨x_5, hv5, h⟩ := bd_e h
    refine v_callVI C k (klC hk) rfl (ckC23 hk _) rfl [.int (i32 v3), .int (i32 v4), .int (i32 (σ (k + 1) (v1).toNat)), .int (i32 (σ (k + 2) (v1).toNat))] (mX1_sideOf C.2.2.2.2.1 hk hv5) cd_X1_sideOf ic_X1 im_X1_sideOf se_X1_sideOf ml_X1_98 yk_X1_sideOf ⟨rfl, rfl, by decide, by decide⟩ rfl hl.1 (rest := []) rfl (Nat.le_of_ble_eq_true rfl) dX1_cross_60 ?_
    refine v_aload_n C hl dX1_cross_63 rfl 0 rfl ?_
    refine v_iload_n C hl dX1_cross_64 rfl 3 rfl ?_
    refine v_iload C hl dX1_cross_65 4 rfl ?_
    refine v_aload_n C hl dX1_cross_67 rfl 0 rfl ?_
    refine g_X1_0 C hk fl_X1_9 dX1_cross_68 ?_
    refine v_iload_n C hl dX1_cross_71 rfl 2 rfl ?_
    refine alC8 C (kfC23_0 hk) h dX1_cross_72 (fun h => ?_)
    refine v_aload_n C hl dX1_cross_73 rfl 0 rfl ?_
    refine g_X1_1 C hk fl_X1_15 dX1_cross_74 ?_
    refine v_iload_n C hl dX1_cross_77 rfl 2 rfl ?_
    refine alC8 C (kfC23_1 hk) h dX1_cross_78 (fun h => ?_)
    obtain ⟨x_6, hv6, h⟩ := bd_e h
    refine v_callVI C k (klC hk) rfl (ckC23 hk _) rfl [.int (i32 v3), .int (i32 v4), .int (i32 (σ (k + 1) (v2).toNat)), .int (i32 (σ (k + 2) (v2).toNat))] (mX1_sideOf C.2.2.2.2.1 hk hv6) cd_X1_sideOf ic_X1 im_X1_sideOf se_X1_sideOf ml_X1_98 yk_X1_sideOf ⟨rfl, rfl, by decide, by decide⟩ rfl hl.1 (rest := [.int (i32 x_5)]) rfl (Nat.le_of_ble_eq_true rfl) dX1_cross_79 ?_
    obtain ⟨x_7, hv7, h⟩ := bd_e h
    refine v_callSI C [.int (i32 x_5), .int (i32 x_6)] (mX1_areOpposite C.2.2.2.2.1 hv7) cd_X1_areOpposite ic_X1 sm_X1_areOpposite ml_X1_110 yk_X1_areOpposite ⟨rfl, rfl, by decide, by decide⟩ rfl hl.1 (rest := []) rfl (Nat.le_of_ble_eq_true rfl) dX1_cross_82 ?_
    have hz8 := (cr_e h).1
    have h := (cr_e h).2
    refine v_if_eq C (tgt := 92) hz8 h dX1_cross_85 rfl (fun h => ?_) (fun h => ?_)
    · exact wX1_cross_92 C hr hk (lv_sub hl [0] rfl) h
    · refine v_iconst C dX1_cross_88 ?_
      refine v_goto C (tgt := 93) dX1_cross_89 rfl ?_
      exact wX1_cross_93 C hr hk (lv_sub hl [0] rfl) h
end
section
variable {l : Launch} {D : va_G} {ac : Nat → ClassId} {q xa xv : Nat → Nat} {p : Program} {e : Env} {s : State} {m : MethodId} {args : Array Value} {below : List Frame} {meth : Method} {c : Code} {ls : Array Slot}
theorem dX1_ends_0 : decode cX1_ends 0 = .ok (.aload_n 0, 1) := by decide +kernel
theorem dX1_ends_1 : decode cX1_ends 1 = .ok (.getfield 30, 3) := by decide +kernel
theorem dX1_ends_4 : decode cX1_ends 4 = .ok (.iload_n 1, 1) := by decide +kernel
theorem dX1_ends_5 : decode cX1_ends 5 = .ok (.iaload, 1) := by decide +kernel
theorem dX1_ends_6 : decode cX1_ends 6 = .ok (.iload_n 2, 1) := by decide +kernel
theorem dX1_ends_7 : decode cX1_ends 7 = .ok (.if_icmp .eq 13, 3) := by decide +kernel
theorem dX1_ends_10 : decode cX1_ends 10 = .ok (.aload_n 0, 1) := by decide +kernel
theorem dX1_ends_11 : decode cX1_ends 11 = .ok (.getfield 33, 3) := by decide +kernel
theorem dX1_ends_14 : decode cX1_ends 14 = .ok (.iload_n 1, 1) := by decide +kernel
theorem dX1_ends_15 : decode cX1_ends 15 = .ok (.iaload, 1) := by decide +kernel
theorem dX1_ends_16 : decode cX1_ends 16 = .ok (.iload_n 2, 1) := by decide +kernel
theorem dX1_ends_17 : decode cX1_ends 17 = .ok (.if_icmp .ne 7, 3) := by decide +kernel
theorem dX1_ends_20 : decode cX1_ends 20 = .ok (.iconst 1, 1) := by decide +kernel
theorem dX1_ends_21 : decode cX1_ends 21 = .ok (.goto 4, 3) := by decide +kernel
theorem dX1_ends_24 : decode cX1_ends 24 = .ok (.iconst 0, 1) := by decide +kernel
theorem dX1_ends_25 : decode cX1_ends 25 = .ok (.ireturn, 1) := by decide +kernel
theorem wX1_ends_25 (C : CxC p rmX1_ends s m args meth c D ac q xa xv RX1 cX1_ends 3) (hr : meth.sig.returnType = (some .boolean)){k : Nat} (hk : kdC k = 23) {t0 : Int} {σ : Mm} {r : Int} (hl : lv_has ls 3 [(0, .ref (q k))]) (h : fX1_ends_25 k t0 σ = some r) : VC p l e rmX1_ends s m args below meth c D ac q (QIC D ac q xa xv below args s (r, σ)) σ (F0 m 25 ls [.int (i32 t0)]) := by
  have h : chb t0 (some t0) = some r := h
  have hz1 := (chb_e h).1
  have h := (chb_e h).2
  exact v_zret C hr hz1 (so1 h) dX1_ends_25
theorem wX1_ends_20 (C : CxC p rmX1_ends s m args meth c D ac q xa xv RX1 cX1_ends 3) (hr : meth.sig.returnType = (some .boolean)){k : Nat} (hk : kdC k = 23) {σ : Mm} {r : Int} (hl : lv_has ls 3 [(0, .ref (q k))]) (h : fX1_ends_20 k σ = some r) : VC p l e rmX1_ends s m args below meth c D ac q (QIC D ac q xa xv below args s (r, σ)) σ (F0 m 20 ls []) := by
  have h : fX1_ends_25 k 1 σ = some r := h
  refine v_iconst C dX1_ends_20 ?_
  refine v_goto C (tgt := 25) dX1_ends_21 rfl ?_
  exact wX1_ends_25 C hr hk (lv_sub hl [0] rfl) h
theorem mX1_ends (hq : QI 175 q) {k : Nat} {v1 : Int} {v2 : Int} (hk : kdC k = 23) {σ : Mm} {r : Int} (h : fX1_ends k v1 v2 σ = some r) : MIC l D ac q xa xv yX1_ends cX1_ends 3 (some .boolean) rmX1_ends [.ref (q k), .int (i32 v1), .int (i32 v2)] σ (r, σ) := by
  refine MI.of hq XC_M (by decide) (Nat.le_of_ble_eq_true rfl) (fun p e s m below meth c ls C hr hl => ?_)
  have hl : lv_has ls 3 [(0, .ref (q k)), (1, .int (i32 v1)), (2, .int (i32 v2))] := hl
  have h : chk v1 60 (cr (σ (k + 6) (v1).toNat) (cr v2 ((if σ (k + 6) (v1).toNat = v2 then fX1_ends_20 k σ else chk v1 60 (cr (σ (k + 7) (v1).toNat) (cr v2 ((if σ (k + 7) (v1).toNat = v2 then fX1_ends_20 k σ else fX1_ends_25 k 0 σ)))))))) = some r := h
  refine v_aload_n C hl dX1_ends_0 rfl 0 rfl ?_
  refine g_X1_5 C hk fl_X1_30 dX1_ends_1 ?_
  refine v_iload_n C hl dX1_ends_4 rfl 1 rfl ?_
  refine alC7 C (kfC23_5 hk) h dX1_ends_5 (fun h => ?_)
  refine v_iload_n C hl dX1_ends_6 rfl 2 rfl ?_
  have hz1 := (cr_e h).1
  have h := (cr_e h).2
  have hz2 := (cr_e h).1
  have h := (cr_e h).2
  refine v_icmp_eq C (tgt := 20) hz1 hz2 h dX1_ends_7 rfl (fun h => ?_) (fun h => ?_)
  · exact wX1_ends_20 C hr hk (lv_sub hl [0] rfl) h
  · refine v_aload_n C hl dX1_ends_10 rfl 0 rfl ?_
    refine g_X1_6 C hk fl_X1_33 dX1_ends_11 ?_
    refine v_iload_n C hl dX1_ends_14 rfl 1 rfl ?_
    refine alC7 C (kfC23_6 hk) h dX1_ends_15 (fun h => ?_)
    refine v_iload_n C hl dX1_ends_16 rfl 2 rfl ?_
    have hz3 := (cr_e h).1
    have h := (cr_e h).2
    have hz4 := (cr_e h).1
    have h := (cr_e h).2
    refine v_icmp_ne C (tgt := 24) hz3 hz4 h dX1_ends_17 rfl (fun h => ?_) (fun h => ?_)
    · refine v_iconst C dX1_ends_24 ?_
      exact wX1_ends_25 C hr hk (lv_sub hl [0] rfl) h
    · exact wX1_ends_20 C hr hk (lv_sub hl [0] rfl) h
end
section
variable {l : Launch} {D : va_G} {ac : Nat → ClassId} {q xa xv : Nat → Nat} {p : Program} {e : Env} {s : State} {m : MethodId} {args : Array Value} {below : List Frame} {meth : Method} {c : Code} {ls : Array Slot}
theorem dX1_noteEdge_0 : decode cX1_noteEdge 0 = .ok (.aload_n 0, 1) := by decide +kernel
theorem dX1_noteEdge_1 : decode cX1_noteEdge 1 = .ok (.iload_n 1, 1) := by decide +kernel
theorem dX1_noteEdge_2 : decode cX1_noteEdge 2 = .ok (.iload_n 2, 1) := by decide +kernel
theorem dX1_noteEdge_3 : decode cX1_noteEdge 3 = .ok (.invokevirtual 66, 3) := by decide +kernel
theorem dX1_noteEdge_6 : decode cX1_noteEdge 6 = .ok (.istore_n 3, 1) := by decide +kernel
theorem dX1_noteEdge_7 : decode cX1_noteEdge 7 = .ok (.iload_n 3, 1) := by decide +kernel
theorem dX1_noteEdge_8 : decode cX1_noteEdge 8 = .ok (.ifCond .lt 16, 3) := by decide +kernel
theorem dX1_noteEdge_11 : decode cX1_noteEdge 11 = .ok (.aload_n 0, 1) := by decide +kernel
theorem dX1_noteEdge_12 : decode cX1_noteEdge 12 = .ok (.getfield 36, 3) := by decide +kernel
theorem dX1_noteEdge_15 : decode cX1_noteEdge 15 = .ok (.iload_n 3, 1) := by decide +kernel
theorem dX1_noteEdge_16 : decode cX1_noteEdge 16 = .ok (.dup2, 1) := by decide +kernel
theorem dX1_noteEdge_17 : decode cX1_noteEdge 17 = .ok (.iaload, 1) := by decide +kernel
theorem dX1_noteEdge_18 : decode cX1_noteEdge 18 = .ok (.iconst 1, 1) := by decide +kernel
theorem dX1_noteEdge_19 : decode cX1_noteEdge 19 = .ok (.iadd, 1) := by decide +kernel
theorem dX1_noteEdge_20 : decode cX1_noteEdge 20 = .ok (.iastore, 1) := by decide +kernel
theorem dX1_noteEdge_21 : decode cX1_noteEdge 21 = .ok (.goto 72, 3) := by decide +kernel
theorem dX1_noteEdge_24 : decode cX1_noteEdge 24 = .ok (.aload_n 0, 1) := by decide +kernel
theorem dX1_noteEdge_25 : decode cX1_noteEdge 25 = .ok (.getfield 49, 3) := by decide +kernel
theorem dX1_noteEdge_28 : decode cX1_noteEdge 28 = .ok (.bipush 60, 2) := by decide +kernel
theorem dX1_noteEdge_30 : decode cX1_noteEdge 30 = .ok (.if_icmp .ge 63, 3) := by decide +kernel
theorem dX1_noteEdge_33 : decode cX1_noteEdge 33 = .ok (.aload_n 0, 1) := by decide +kernel
theorem dX1_noteEdge_34 : decode cX1_noteEdge 34 = .ok (.getfield 30, 3) := by decide +kernel
theorem dX1_noteEdge_37 : decode cX1_noteEdge 37 = .ok (.aload_n 0, 1) := by decide +kernel
theorem dX1_noteEdge_38 : decode cX1_noteEdge 38 = .ok (.getfield 49, 3) := by decide +kernel
theorem dX1_noteEdge_41 : decode cX1_noteEdge 41 = .ok (.iload_n 1, 1) := by decide +kernel
theorem dX1_noteEdge_42 : decode cX1_noteEdge 42 = .ok (.iastore, 1) := by decide +kernel
theorem dX1_noteEdge_43 : decode cX1_noteEdge 43 = .ok (.aload_n 0, 1) := by decide +kernel
theorem dX1_noteEdge_44 : decode cX1_noteEdge 44 = .ok (.getfield 33, 3) := by decide +kernel
theorem dX1_noteEdge_47 : decode cX1_noteEdge 47 = .ok (.aload_n 0, 1) := by decide +kernel
theorem dX1_noteEdge_48 : decode cX1_noteEdge 48 = .ok (.getfield 49, 3) := by decide +kernel
theorem dX1_noteEdge_51 : decode cX1_noteEdge 51 = .ok (.iload_n 2, 1) := by decide +kernel
theorem dX1_noteEdge_52 : decode cX1_noteEdge 52 = .ok (.iastore, 1) := by decide +kernel
theorem dX1_noteEdge_53 : decode cX1_noteEdge 53 = .ok (.aload_n 0, 1) := by decide +kernel
theorem dX1_noteEdge_54 : decode cX1_noteEdge 54 = .ok (.getfield 36, 3) := by decide +kernel
theorem dX1_noteEdge_57 : decode cX1_noteEdge 57 = .ok (.aload_n 0, 1) := by decide +kernel
theorem dX1_noteEdge_58 : decode cX1_noteEdge 58 = .ok (.getfield 49, 3) := by decide +kernel
theorem dX1_noteEdge_61 : decode cX1_noteEdge 61 = .ok (.iconst 1, 1) := by decide +kernel
theorem dX1_noteEdge_62 : decode cX1_noteEdge 62 = .ok (.iastore, 1) := by decide +kernel
theorem dX1_noteEdge_63 : decode cX1_noteEdge 63 = .ok (.aload_n 0, 1) := by decide +kernel
theorem dX1_noteEdge_64 : decode cX1_noteEdge 64 = .ok (.dup, 1) := by decide +kernel
theorem dX1_noteEdge_65 : decode cX1_noteEdge 65 = .ok (.getfield 49, 3) := by decide +kernel
theorem dX1_noteEdge_68 : decode cX1_noteEdge 68 = .ok (.iconst 1, 1) := by decide +kernel
theorem dX1_noteEdge_69 : decode cX1_noteEdge 69 = .ok (.iadd, 1) := by decide +kernel
theorem dX1_noteEdge_70 : decode cX1_noteEdge 70 = .ok (.putfield 49, 3) := by decide +kernel
theorem dX1_noteEdge_73 : decode cX1_noteEdge 73 = .ok (.aload_n 0, 1) := by decide +kernel
theorem dX1_noteEdge_74 : decode cX1_noteEdge 74 = .ok (.getfield 39, 3) := by decide +kernel
theorem dX1_noteEdge_77 : decode cX1_noteEdge 77 = .ok (.iload_n 1, 1) := by decide +kernel
theorem dX1_noteEdge_78 : decode cX1_noteEdge 78 = .ok (.dup2, 1) := by decide +kernel
theorem dX1_noteEdge_79 : decode cX1_noteEdge 79 = .ok (.iaload, 1) := by decide +kernel
theorem dX1_noteEdge_80 : decode cX1_noteEdge 80 = .ok (.iconst 1, 1) := by decide +kernel
theorem dX1_noteEdge_81 : decode cX1_noteEdge 81 = .ok (.iadd, 1) := by decide +kernel
theorem dX1_noteEdge_82 : decode cX1_noteEdge 82 = .ok (.iastore, 1) := by decide +kernel
theorem dX1_noteEdge_83 : decode cX1_noteEdge 83 = .ok (.aload_n 0, 1) := by decide +kernel
theorem dX1_noteEdge_84 : decode cX1_noteEdge 84 = .ok (.getfield 39, 3) := by decide +kernel
theorem dX1_noteEdge_87 : decode cX1_noteEdge 87 = .ok (.iload_n 2, 1) := by decide +kernel
theorem dX1_noteEdge_88 : decode cX1_noteEdge 88 = .ok (.dup2, 1) := by decide +kernel
theorem dX1_noteEdge_89 : decode cX1_noteEdge 89 = .ok (.iaload, 1) := by decide +kernel
theorem dX1_noteEdge_90 : decode cX1_noteEdge 90 = .ok (.iconst 1, 1) := by decide +kernel
theorem dX1_noteEdge_91 : decode cX1_noteEdge 91 = .ok (.iadd, 1) := by decide +kernel
theorem dX1_noteEdge_92 : decode cX1_noteEdge 92 = .ok (.iastore, 1) := by decide +kernel
theorem dX1_noteEdge_93 : decode cX1_noteEdge 93 = .ok (.return_, 1) := by decide +kernel
theorem wX1_noteEdge_93 (C : CxC p rmX1_noteEdge s m args meth c D ac q xa xv RX1 cX1_noteEdge 4) (hr : meth.sig.returnType = none){k : Nat} (hk : kdC k = 23) {σ : Mm} {r : Mm} (hl : lv_has ls 4 [(0, .ref (q k))]) (h : fX1_noteEdge_93 k σ = some r) : VC p l e rmX1_noteEdge s m args below meth c D ac q (QVC D ac q xa xv below args s r) σ (F0 m 93 ls []) := by
  have h : some σ = some r := h
  exact v_vret C hr h dX1_noteEdge_93
theorem mX1_noteEdge (hq : QI 175 q) {k : Nat} {v1 : Int} {v2 : Int} (hk : kdC k = 23) {σ : Mm} {r : Mm} (h : fX1_noteEdge k v1 v2 σ = some r) : MVC l D ac q xa xv yX1_noteEdge cX1_noteEdge 4 none rmX1_noteEdge [.ref (q k), .int (i32 v1), .int (i32 v2)] σ r := by
  refine MV.of hq XC_M (by decide) (Nat.le_of_ble_eq_true rfl) (fun p e s m below meth c ls C hr hl => ?_)
  have hl : lv_has ls 4 [(0, .ref (q k)), (1, .int (i32 v1)), (2, .int (i32 v2))] := hl
  have h : bd (fX1_edgeBetween k v1 v2 σ) (fun x_1 => bindv x_1 (fun v3_2 => cr v3_2 ((if v3_2 < 0 then cr (σ k 11) ((if σ k 11 < 60 then chk (σ k 11) 60 (bindv (sto σ (k + 6) (σ k 11).toNat v1) (fun σ_5 => chk (σ_5 k 11) 60 (bindv (sto σ_5 (k + 7) (σ_5 k 11).toNat v2) (fun σ_6 => chk (σ_6 k 11) 60 (bindv (sto σ_6 (k + 8) (σ_6 k 11).toNat 1) (fun σ_7 => bindv (sto σ_7 k 11 ((σ_7 k 11) + 1)) (fun σ_8 => chk v1 24 (chk v1 24 (bindv (sto σ_8 (k + 9) (v1).toNat ((σ_8 (k + 9) (v1).toNat) + 1)) (fun σ_9 => chk v2 24 (chk v2 24 (bindv (sto σ_9 (k + 9) (v2).toNat ((σ_9 (k + 9) (v2).toNat) + 1)) (fun σ_10 => fX1_noteEdge_93 k σ_10))))))))))))) else fX1_noteEdge_93 k σ)) else chk v3_2 60 (chk v3_2 60 (bindv (sto σ (k + 8) (v3_2).toNat ((σ (k + 8) (v3_2).toNat) + 1)) (fun σ_11 => fX1_noteEdge_93 k σ_11))))))) = some r := h
  refine v_aload_n C hl dX1_noteEdge_0 rfl 0 rfl ?_
  refine v_iload_n C hl dX1_noteEdge_1 rfl 1 rfl ?_
  refine v_iload_n C hl dX1_noteEdge_2 rfl 2 rfl ?_
  obtain ⟨x_1, hv1, h⟩ := bd_e h
  refine v_callVI C k (klC hk) rfl (ckC23 hk _) rfl [.int (i32 v1), .int (i32 v2)] (mX1_edgeBetween C.2.2.2.2.1 hk hv1) cd_X1_edgeBetween ic_X1 im_X1_edgeBetween se_X1_edgeBetween ml_X1_66 yk_X1_edgeBetween ⟨rfl, rfl, by decide, by decide⟩ rfl hl.1 (rest := []) rfl (Nat.le_of_ble_eq_true rfl) dX1_noteEdge_3 ?_
  refine v_istore_n C hl (fun x => [(3, .int (i32 x)), (0, .ref (q k)), (1, .int (i32 v1)), (2, .int (i32 v2))]) dX1_noteEdge_6 rfl (by decide) (fun _ => rfl) h (fun v3_2 ls hl h => ?_)
  refine v_iload_n C hl dX1_noteEdge_7 rfl 0 rfl ?_
  have hz3 := (cr_e h).1
  have h := (cr_e h).2
  refine v_if_lt C (tgt := 24) hz3 h dX1_noteEdge_8 rfl (fun h => ?_) (fun h => ?_)
  · refine v_aload_n C hl dX1_noteEdge_24 rfl 1 rfl ?_
    refine g_X1_11 C hk fl_X1_49 dX1_noteEdge_25 ?_
    refine v_bipush C dX1_noteEdge_28 rfl ?_
    have hz4 := (cr_e h).1
    have h := (cr_e h).2
    refine v_icmp_ge C (tgt := 93) hz4 (by decide) h dX1_noteEdge_30 rfl (fun h => ?_) (fun h => ?_)
    · exact wX1_noteEdge_93 C hr hk (lv_sub hl [1] rfl) h
    · refine v_aload_n C hl dX1_noteEdge_33 rfl 1 rfl ?_
      refine g_X1_5 C hk fl_X1_30 dX1_noteEdge_34 ?_
      refine v_aload_n C hl dX1_noteEdge_37 rfl 1 rfl ?_
      refine g_X1_11 C hk fl_X1_49 dX1_noteEdge_38 ?_
      refine v_iload_n C hl dX1_noteEdge_41 rfl 2 rfl ?_
      refine asC7 C (kfC23_5 hk) h dX1_noteEdge_42 (fun σ_5 h => ?_)
      refine v_aload_n C hl dX1_noteEdge_43 rfl 1 rfl ?_
      refine g_X1_6 C hk fl_X1_33 dX1_noteEdge_44 ?_
      refine v_aload_n C hl dX1_noteEdge_47 rfl 1 rfl ?_
      refine g_X1_11 C hk fl_X1_49 dX1_noteEdge_48 ?_
      refine v_iload_n C hl dX1_noteEdge_51 rfl 3 rfl ?_
      refine asC7 C (kfC23_6 hk) h dX1_noteEdge_52 (fun σ_6 h => ?_)
      refine v_aload_n C hl dX1_noteEdge_53 rfl 1 rfl ?_
      refine g_X1_7 C hk fl_X1_36 dX1_noteEdge_54 ?_
      refine v_aload_n C hl dX1_noteEdge_57 rfl 1 rfl ?_
      refine g_X1_11 C hk fl_X1_49 dX1_noteEdge_58 ?_
      refine v_iconst C dX1_noteEdge_61 ?_
      refine asC7 C (kfC23_7 hk) h dX1_noteEdge_62 (fun σ_7 h => ?_)
      refine v_aload_n C hl dX1_noteEdge_63 rfl 1 rfl ?_
      refine v_dup C dX1_noteEdge_64 rfl ?_
      refine g_X1_11 C hk fl_X1_49 dX1_noteEdge_65 ?_
      refine v_iconst C dX1_noteEdge_68 ?_
      refine v_iadd C dX1_noteEdge_69 ?_
      refine s_X1_11 C hk fl_X1_49 h dX1_noteEdge_70 (fun σ_8 h => ?_)
      refine v_aload_n C hl dX1_noteEdge_73 rfl 1 rfl ?_
      refine g_X1_8 C hk fl_X1_39 dX1_noteEdge_74 ?_
      refine v_iload_n C hl dX1_noteEdge_77 rfl 2 rfl ?_
      refine v_dup2 C dX1_noteEdge_78 rfl rfl ?_
      refine alC8 C (kfC23_8 hk) h dX1_noteEdge_79 (fun h => ?_)
      refine v_iconst C dX1_noteEdge_80 ?_
      refine v_iadd C dX1_noteEdge_81 ?_
      refine asC8 C (kfC23_8 hk) h dX1_noteEdge_82 (fun σ_9 h => ?_)
      refine v_aload_n C hl dX1_noteEdge_83 rfl 1 rfl ?_
      refine g_X1_8 C hk fl_X1_39 dX1_noteEdge_84 ?_
      refine v_iload_n C hl dX1_noteEdge_87 rfl 3 rfl ?_
      refine v_dup2 C dX1_noteEdge_88 rfl rfl ?_
      refine alC8 C (kfC23_8 hk) h dX1_noteEdge_89 (fun h => ?_)
      refine v_iconst C dX1_noteEdge_90 ?_
      refine v_iadd C dX1_noteEdge_91 ?_
      refine asC8 C (kfC23_8 hk) h dX1_noteEdge_92 (fun σ_10 h => ?_)
      exact wX1_noteEdge_93 C hr hk (lv_sub hl [1] rfl) h
  · refine v_aload_n C hl dX1_noteEdge_11 rfl 1 rfl ?_
    refine g_X1_7 C hk fl_X1_36 dX1_noteEdge_12 ?_
    refine v_iload_n C hl dX1_noteEdge_15 rfl 0 rfl ?_
    refine v_dup2 C dX1_noteEdge_16 rfl rfl ?_
    refine alC7 C (kfC23_7 hk) h dX1_noteEdge_17 (fun h => ?_)
    refine v_iconst C dX1_noteEdge_18 ?_
    refine v_iadd C dX1_noteEdge_19 ?_
    refine asC7 C (kfC23_7 hk) h dX1_noteEdge_20 (fun σ_11 h => ?_)
    refine v_goto C (tgt := 93) dX1_noteEdge_21 rfl ?_
    exact wX1_noteEdge_93 C hr hk (lv_sub hl [1] rfl) h
end
