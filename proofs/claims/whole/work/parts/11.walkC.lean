section
variable {l : Launch} {D : va_G} {ac : Nat → ClassId} {q xa xv : Nat → Nat} {p : Program} {e : Env} {s : State} {m : MethodId} {args : Array Value} {below : List Frame} {meth : Method} {c : Code} {ls : Array Slot}
theorem dX1_gatherEdges_0 : decode cX1_gatherEdges 0 = .ok (.aload_n 0, 1) := by decide +kernel
theorem dX1_gatherEdges_1 : decode cX1_gatherEdges 1 = .ok (.iconst 0, 1) := by decide +kernel
theorem dX1_gatherEdges_2 : decode cX1_gatherEdges 2 = .ok (.putfield 49, 3) := by decide +kernel
theorem dX1_gatherEdges_5 : decode cX1_gatherEdges 5 = .ok (.iconst 0, 1) := by decide +kernel
theorem dX1_gatherEdges_6 : decode cX1_gatherEdges 6 = .ok (.istore_n 1, 1) := by decide +kernel
theorem dX1_gatherEdges_7 : decode cX1_gatherEdges 7 = .ok (.iload_n 1, 1) := by decide +kernel
theorem dX1_gatherEdges_8 : decode cX1_gatherEdges 8 = .ok (.bipush 24, 2) := by decide +kernel
theorem dX1_gatherEdges_10 : decode cX1_gatherEdges 10 = .ok (.if_icmp .ge 16, 3) := by decide +kernel
theorem dX1_gatherEdges_13 : decode cX1_gatherEdges 13 = .ok (.aload_n 0, 1) := by decide +kernel
theorem dX1_gatherEdges_14 : decode cX1_gatherEdges 14 = .ok (.getfield 39, 3) := by decide +kernel
theorem dX1_gatherEdges_17 : decode cX1_gatherEdges 17 = .ok (.iload_n 1, 1) := by decide +kernel
theorem dX1_gatherEdges_18 : decode cX1_gatherEdges 18 = .ok (.iconst 0, 1) := by decide +kernel
theorem dX1_gatherEdges_19 : decode cX1_gatherEdges 19 = .ok (.iastore, 1) := by decide +kernel
theorem dX1_gatherEdges_20 : decode cX1_gatherEdges 20 = .ok (.iinc 1 1, 3) := by decide +kernel
theorem dX1_gatherEdges_23 : decode cX1_gatherEdges 23 = .ok (.goto (-16), 3) := by decide +kernel
theorem dX1_gatherEdges_26 : decode cX1_gatherEdges 26 = .ok (.iconst 0, 1) := by decide +kernel
theorem dX1_gatherEdges_27 : decode cX1_gatherEdges 27 = .ok (.istore_n 1, 1) := by decide +kernel
theorem dX1_gatherEdges_28 : decode cX1_gatherEdges 28 = .ok (.iload_n 1, 1) := by decide +kernel
theorem dX1_gatherEdges_29 : decode cX1_gatherEdges 29 = .ok (.aload_n 0, 1) := by decide +kernel
theorem dX1_gatherEdges_30 : decode cX1_gatherEdges 30 = .ok (.getfield 46, 3) := by decide +kernel
theorem dX1_gatherEdges_33 : decode cX1_gatherEdges 33 = .ok (.if_icmp .ge 56, 3) := by decide +kernel
theorem dX1_gatherEdges_36 : decode cX1_gatherEdges 36 = .ok (.iconst 0, 1) := by decide +kernel
theorem dX1_gatherEdges_37 : decode cX1_gatherEdges 37 = .ok (.istore_n 2, 1) := by decide +kernel
theorem dX1_gatherEdges_38 : decode cX1_gatherEdges 38 = .ok (.iload_n 2, 1) := by decide +kernel
theorem dX1_gatherEdges_39 : decode cX1_gatherEdges 39 = .ok (.aload_n 0, 1) := by decide +kernel
theorem dX1_gatherEdges_40 : decode cX1_gatherEdges 40 = .ok (.getfield 27, 3) := by decide +kernel
theorem dX1_gatherEdges_43 : decode cX1_gatherEdges 43 = .ok (.iload_n 1, 1) := by decide +kernel
theorem dX1_gatherEdges_44 : decode cX1_gatherEdges 44 = .ok (.iaload, 1) := by decide +kernel
theorem dX1_gatherEdges_45 : decode cX1_gatherEdges 45 = .ok (.if_icmp .ge 38, 3) := by decide +kernel
theorem dX1_gatherEdges_48 : decode cX1_gatherEdges 48 = .ok (.aload_n 0, 1) := by decide +kernel
theorem dX1_gatherEdges_49 : decode cX1_gatherEdges 49 = .ok (.aload_n 0, 1) := by decide +kernel
theorem dX1_gatherEdges_50 : decode cX1_gatherEdges 50 = .ok (.getfield 24, 3) := by decide +kernel
theorem dX1_gatherEdges_53 : decode cX1_gatherEdges 53 = .ok (.iload_n 1, 1) := by decide +kernel
theorem dX1_gatherEdges_54 : decode cX1_gatherEdges 54 = .ok (.aaload, 1) := by decide +kernel
theorem dX1_gatherEdges_55 : decode cX1_gatherEdges 55 = .ok (.iload_n 2, 1) := by decide +kernel
theorem dX1_gatherEdges_56 : decode cX1_gatherEdges 56 = .ok (.iaload, 1) := by decide +kernel
theorem dX1_gatherEdges_57 : decode cX1_gatherEdges 57 = .ok (.aload_n 0, 1) := by decide +kernel
theorem dX1_gatherEdges_58 : decode cX1_gatherEdges 58 = .ok (.getfield 24, 3) := by decide +kernel
theorem dX1_gatherEdges_61 : decode cX1_gatherEdges 61 = .ok (.iload_n 1, 1) := by decide +kernel
theorem dX1_gatherEdges_62 : decode cX1_gatherEdges 62 = .ok (.aaload, 1) := by decide +kernel
theorem dX1_gatherEdges_63 : decode cX1_gatherEdges 63 = .ok (.iload_n 2, 1) := by decide +kernel
theorem dX1_gatherEdges_64 : decode cX1_gatherEdges 64 = .ok (.aload_n 0, 1) := by decide +kernel
theorem dX1_gatherEdges_65 : decode cX1_gatherEdges 65 = .ok (.getfield 27, 3) := by decide +kernel
theorem dX1_gatherEdges_68 : decode cX1_gatherEdges 68 = .ok (.iload_n 1, 1) := by decide +kernel
theorem dX1_gatherEdges_69 : decode cX1_gatherEdges 69 = .ok (.iaload, 1) := by decide +kernel
theorem dX1_gatherEdges_70 : decode cX1_gatherEdges 70 = .ok (.invokestatic 58, 3) := by decide +kernel
theorem dX1_gatherEdges_73 : decode cX1_gatherEdges 73 = .ok (.iaload, 1) := by decide +kernel
theorem dX1_gatherEdges_74 : decode cX1_gatherEdges 74 = .ok (.invokevirtual 62, 3) := by decide +kernel
theorem dX1_gatherEdges_77 : decode cX1_gatherEdges 77 = .ok (.iinc 2 1, 3) := by decide +kernel
theorem dX1_gatherEdges_80 : decode cX1_gatherEdges 80 = .ok (.goto (-42), 3) := by decide +kernel
theorem dX1_gatherEdges_83 : decode cX1_gatherEdges 83 = .ok (.iinc 1 1, 3) := by decide +kernel
theorem dX1_gatherEdges_86 : decode cX1_gatherEdges 86 = .ok (.goto (-58), 3) := by decide +kernel
theorem dX1_gatherEdges_89 : decode cX1_gatherEdges 89 = .ok (.return_, 1) := by decide +kernel
theorem wX1_gatherEdges_89 (C : CxC p rmX1_gatherEdges s m args meth c D ac q xa xv RX1 cX1_gatherEdges 3) (hr : meth.sig.returnType = none){k : Nat} (hk : kdC k = 23) {σ : Mm} {r : Mm} (hl : lv_has ls 3 [(0, .ref (q k))]) (h : fX1_gatherEdges_89 k σ = some r) : VC p l e rmX1_gatherEdges s m args below meth c D ac q (QVC D ac q xa xv below args s r) σ (F0 m 89 ls []) := by
  have h : some σ = some r := h
  exact v_vret C hr h dX1_gatherEdges_89
theorem wX1_gatherEdges_83 (C : CxC p rmX1_gatherEdges s m args meth c D ac q xa xv RX1 cX1_gatherEdges 3) (hr : meth.sig.returnType = none){k : Nat} (hk : kdC k = 23) {v1 : Int} {c28 : Int → Mm → Option (Mm)} {σ : Mm} {r : Mm} (hc28 : ∀ (v1x : Int) (σ : Mm) (ls : Array Slot), lv_has ls 3 [(0, .ref (q k)), (1, .int (i32 v1x))] → c28 v1x σ = some r → VC p l e rmX1_gatherEdges s m args below meth c D ac q (QVC D ac q xa xv below args s r) σ (F0 m 28 ls [])) (hl : lv_has ls 3 [(0, .ref (q k)), (1, .int (i32 v1))]) (h : fX1_gatherEdges_83 k c28 v1 σ = some r) : VC p l e rmX1_gatherEdges s m args below meth c D ac q (QVC D ac q xa xv below args s r) σ (F0 m 83 ls []) := by
  have h : bindv (v1 + 1) (fun v1_1 => c28 v1_1 σ) = some r := h
  refine v_iinc C hl (fun x => [(1, .int (i32 x)), (0, .ref (q k))]) dX1_gatherEdges_83 1 rfl (by decide) (fun _ => rfl) h (fun v1_1 ls hl h => ?_)
  refine v_goto C (tgt := 28) dX1_gatherEdges_86 rfl ?_
  exact hc28 _ _ _ (lv_sub hl [1, 0] rfl) h
theorem wX1_gatherEdges_38 (C : CxC p rmX1_gatherEdges s m args meth c D ac q xa xv RX1 cX1_gatherEdges 3) (hr : meth.sig.returnType = none){k : Nat} (hk : kdC k = 23) {v1 : Int} {v2 : Int} {σ : Mm} {e38 : Mm → Option (Mm)} {c38 : Int → Mm → Option (Mm)} {r : Mm} (he38 : ∀ (σ : Mm) (ls : Array Slot), lv_has ls 3 [(0, .ref (q k)), (1, .int (i32 v1))] → e38 σ = some r → VC p l e rmX1_gatherEdges s m args below meth c D ac q (QVC D ac q xa xv below args s r) σ (F0 m 83 ls [])) (hc38 : ∀ (v2x : Int) (σ : Mm) (ls : Array Slot), lv_has ls 3 [(0, .ref (q k)), (1, .int (i32 v1)), (2, .int (i32 v2x))] → c38 v2x σ = some r → VC p l e rmX1_gatherEdges s m args below meth c D ac q (QVC D ac q xa xv below args s r) σ (F0 m 38 ls [])) (hl : lv_has ls 3 [(0, .ref (q k)), (1, .int (i32 v1)), (2, .int (i32 v2))]) (h : fX1_gatherEdges_38 k v1 e38 c38 v2 σ = some r) : VC p l e rmX1_gatherEdges s m args below meth c D ac q (QVC D ac q xa xv below args s r) σ (F0 m 38 ls []) := by
  have h : chk v1 6 (cr v2 (cr (σ (k + 5) (v1).toNat) ((if v2 < σ (k + 5) (v1).toNat then chk v1 6 (chk v2 10 (chk v1 6 (chk v1 6 (bd (fX7_following v2 (σ (k + 5) (v1).toNat) σ) (fun x_5 => chk x_5 10 (bd (fX1_noteEdge k (σ (k + 10 + (v1).toNat) (v2).toNat) (σ (k + 10 + (v1).toNat) (x_5).toNat) σ) (fun σ_6 => bindv (v2 + 1) (fun v2_7 => c38 v2_7 σ_6)))))))) else e38 σ)))) = some r := h
  refine v_iload_n C hl dX1_gatherEdges_38 rfl 2 rfl ?_
  refine v_aload_n C hl dX1_gatherEdges_39 rfl 0 rfl ?_
  refine g_X1_4 C hk fl_X1_27 dX1_gatherEdges_40 ?_
  refine v_iload_n C hl dX1_gatherEdges_43 rfl 1 rfl ?_
  refine alC14 C (kfC23_4 hk) h dX1_gatherEdges_44 (fun h => ?_)
  have hz1 := (cr_e h).1
  have h := (cr_e h).2
  have hz2 := (cr_e h).1
  have h := (cr_e h).2
  refine v_icmp_ge C (tgt := 83) hz1 hz2 h dX1_gatherEdges_45 rfl (fun h => ?_) (fun h => ?_)
  · exact he38 _ _ (lv_sub hl [0, 1] rfl) h
  · refine v_aload_n C hl dX1_gatherEdges_48 rfl 0 rfl ?_
    refine v_aload_n C hl dX1_gatherEdges_49 rfl 0 rfl ?_
    refine g_X1_3 C hk fl_X1_24 dX1_gatherEdges_50 ?_
    refine v_iload_n C hl dX1_gatherEdges_53 rfl 1 rfl ?_
    have hi3 := (chk_e h).1
    refine arC24 C (kfC23_3 hk) h dX1_gatherEdges_54 (fun h => ?_)
    refine v_iload_n C hl dX1_gatherEdges_55 rfl 2 rfl ?_
    refine alC16 C (keC24 (kfC23_3 hk) hi3) h dX1_gatherEdges_56 (fun h => ?_)
    refine v_aload_n C hl dX1_gatherEdges_57 rfl 0 rfl ?_
    refine g_X1_3 C hk fl_X1_24 dX1_gatherEdges_58 ?_
    refine v_iload_n C hl dX1_gatherEdges_61 rfl 1 rfl ?_
    have hi4 := (chk_e h).1
    refine arC24 C (kfC23_3 hk) h dX1_gatherEdges_62 (fun h => ?_)
    refine v_iload_n C hl dX1_gatherEdges_63 rfl 2 rfl ?_
    refine v_aload_n C hl dX1_gatherEdges_64 rfl 0 rfl ?_
    refine g_X1_4 C hk fl_X1_27 dX1_gatherEdges_65 ?_
    refine v_iload_n C hl dX1_gatherEdges_68 rfl 1 rfl ?_
    refine alC14 C (kfC23_4 hk) h dX1_gatherEdges_69 (fun h => ?_)
    obtain ⟨x_5, hv5, h⟩ := bd_e h
    refine v_callSN C [.int (i32 v2), .int (i32 (σ (k + 5) (v1).toNat))] (mX7_following C.2.2.2.2.1 hv5) cd_X7_following ic_X7 sm_X7_following (nw_X1_58 C) yk_X7_following ⟨rfl, rfl, by decide, by decide⟩ rfl hl.1 (rest := [.ref (q (k + 10 + (v1).toNat)), .int (i32 (σ (k + 10 + (v1).toNat) (v2).toNat)), .ref (q k)]) rfl (Nat.le_of_ble_eq_true rfl) dX1_gatherEdges_70 ?_
    refine alC16 C (keC24 (kfC23_3 hk) hi4) h dX1_gatherEdges_73 (fun h => ?_)
    obtain ⟨σ_6, hv6, h⟩ := bd_e h
    refine v_callVV C k (klC hk) rfl (ckC23 hk _) rfl [.int (i32 (σ (k + 10 + (v1).toNat) (v2).toNat)), .int (i32 (σ (k + 10 + (v1).toNat) (x_5).toNat))] (mX1_noteEdge C.2.2.2.2.1 hk hv6) cd_X1_noteEdge ic_X1 im_X1_noteEdge se_X1_noteEdge ml_X1_62 yk_X1_noteEdge ⟨rfl, rfl, by decide, by decide⟩ rfl hl.1 (rest := []) rfl (Nat.le_of_ble_eq_true rfl) dX1_gatherEdges_74 ?_
    refine v_iinc C hl (fun x => [(2, .int (i32 x)), (0, .ref (q k)), (1, .int (i32 v1))]) dX1_gatherEdges_77 2 rfl (by decide) (fun _ => rfl) h (fun v2_7 ls hl h => ?_)
    refine v_goto C (tgt := 38) dX1_gatherEdges_80 rfl ?_
    exact hc38 _ _ _ (lv_sub hl [1, 2, 0] rfl) h
theorem wlX1_gatherEdges_38 (C : CxC p rmX1_gatherEdges s m args meth c D ac q xa xv RX1 cX1_gatherEdges 3) (hr : meth.sig.returnType = none){k : Nat} (hk : kdC k = 23) {v1 : Int} {e38 : Mm → Option (Mm)} {r : Mm} (he38 : ∀ (σ : Mm) (ls : Array Slot), lv_has ls 3 [(0, .ref (q k)), (1, .int (i32 v1))] → e38 σ = some r → VC p l e rmX1_gatherEdges s m args below meth c D ac q (QVC D ac q xa xv below args s r) σ (F0 m 83 ls [])) : ∀ (fu : Nat) (v2 : Int) (σ : Mm) (ls : Array Slot) (hl : lv_has ls 3 [(0, .ref (q k)), (1, .int (i32 v1)), (2, .int (i32 v2))]) (h : lX1_gatherEdges_38 k v1 e38 fu v2 σ = some r), VC p l e rmX1_gatherEdges s m args below meth c D ac q (QVC D ac q xa xv below args s r) σ (F0 m 38 ls []) := by
  intro fu
  induction fu with
  | zero =>
    intro v2 σ ls hl h
    have h : none = some r := h
    cases h
  | succ fu ih =>
    intro v2 σ ls hl h
    exact wX1_gatherEdges_38 C hr hk he38 (fun v2 σ ls hl h => ih v2 σ ls hl h) hl h
theorem wX1_gatherEdges_28 (C : CxC p rmX1_gatherEdges s m args meth c D ac q xa xv RX1 cX1_gatherEdges 3) (hr : meth.sig.returnType = none){k : Nat} (hk : kdC k = 23) {v1 : Int} {σ : Mm} {e28 : Mm → Option (Mm)} {c28 : Int → Mm → Option (Mm)} {r : Mm} (he28 : ∀ (σ : Mm) (ls : Array Slot), lv_has ls 3 [(0, .ref (q k))] → e28 σ = some r → VC p l e rmX1_gatherEdges s m args below meth c D ac q (QVC D ac q xa xv below args s r) σ (F0 m 89 ls [])) (hc28 : ∀ (v1x : Int) (σ : Mm) (ls : Array Slot), lv_has ls 3 [(0, .ref (q k)), (1, .int (i32 v1x))] → c28 v1x σ = some r → VC p l e rmX1_gatherEdges s m args below meth c D ac q (QVC D ac q xa xv below args s r) σ (F0 m 28 ls [])) (hl : lv_has ls 3 [(0, .ref (q k)), (1, .int (i32 v1))]) (h : fX1_gatherEdges_28 k e28 c28 v1 σ = some r) : VC p l e rmX1_gatherEdges s m args below meth c D ac q (QVC D ac q xa xv below args s r) σ (F0 m 28 ls []) := by
  have h : cr v1 (cr (σ k 10) ((if v1 < σ k 10 then bindv 0 (fun v2_3 => lX1_gatherEdges_38 k v1 (fun σ_4 => fX1_gatherEdges_83 k c28 v1 σ_4) 400 v2_3 σ) else e28 σ))) = some r := h
  refine v_iload_n C hl dX1_gatherEdges_28 rfl 1 rfl ?_
  refine v_aload_n C hl dX1_gatherEdges_29 rfl 0 rfl ?_
  refine g_X1_10 C hk fl_X1_46 dX1_gatherEdges_30 ?_
  have hz1 := (cr_e h).1
  have h := (cr_e h).2
  have hz2 := (cr_e h).1
  have h := (cr_e h).2
  refine v_icmp_ge C (tgt := 89) hz1 hz2 h dX1_gatherEdges_33 rfl (fun h => ?_) (fun h => ?_)
  · exact he28 _ _ (lv_sub hl [0] rfl) h
  · refine v_iconst C dX1_gatherEdges_36 ?_
    refine v_istore_n C hl (fun x => [(2, .int (i32 x)), (0, .ref (q k)), (1, .int (i32 v1))]) dX1_gatherEdges_37 rfl (by decide) (fun _ => rfl) h (fun v2_3 ls hl h => ?_)
    exact wlX1_gatherEdges_38 C hr hk (fun σ_4 ls hl h => wX1_gatherEdges_83 C hr hk hc28 (lv_sub hl [0, 1] rfl) h) _ _ _ _ (lv_sub hl [1, 2, 0] rfl) h
theorem wlX1_gatherEdges_28 (C : CxC p rmX1_gatherEdges s m args meth c D ac q xa xv RX1 cX1_gatherEdges 3) (hr : meth.sig.returnType = none){k : Nat} (hk : kdC k = 23) {e28 : Mm → Option (Mm)} {r : Mm} (he28 : ∀ (σ : Mm) (ls : Array Slot), lv_has ls 3 [(0, .ref (q k))] → e28 σ = some r → VC p l e rmX1_gatherEdges s m args below meth c D ac q (QVC D ac q xa xv below args s r) σ (F0 m 89 ls [])) : ∀ (fu : Nat) (v1 : Int) (σ : Mm) (ls : Array Slot) (hl : lv_has ls 3 [(0, .ref (q k)), (1, .int (i32 v1))]) (h : lX1_gatherEdges_28 k e28 fu v1 σ = some r), VC p l e rmX1_gatherEdges s m args below meth c D ac q (QVC D ac q xa xv below args s r) σ (F0 m 28 ls []) := by
  intro fu
  induction fu with
  | zero =>
    intro v1 σ ls hl h
    have h : none = some r := h
    cases h
  | succ fu ih =>
    intro v1 σ ls hl h
    exact wX1_gatherEdges_28 C hr hk he28 (fun v1 σ ls hl h => ih v1 σ ls hl h) hl h
theorem wX1_gatherEdges_26 (C : CxC p rmX1_gatherEdges s m args meth c D ac q xa xv RX1 cX1_gatherEdges 3) (hr : meth.sig.returnType = none){k : Nat} (hk : kdC k = 23) {σ : Mm} {r : Mm} (hl : lv_has ls 3 [(0, .ref (q k))]) (h : fX1_gatherEdges_26 k σ = some r) : VC p l e rmX1_gatherEdges s m args below meth c D ac q (QVC D ac q xa xv below args s r) σ (F0 m 26 ls []) := by
  have h : bindv 0 (fun v1_1 => lX1_gatherEdges_28 k (fun σ_2 => fX1_gatherEdges_89 k σ_2) 400 v1_1 σ) = some r := h
  refine v_iconst C dX1_gatherEdges_26 ?_
  refine v_istore_n C hl (fun x => [(1, .int (i32 x)), (0, .ref (q k))]) dX1_gatherEdges_27 rfl (by decide) (fun _ => rfl) h (fun v1_1 ls hl h => ?_)
  exact wlX1_gatherEdges_28 C hr hk (fun σ_2 ls hl h => wX1_gatherEdges_89 C hr hk (lv_sub hl [0] rfl) h) _ _ _ _ (lv_sub hl [1, 0] rfl) h
theorem wX1_gatherEdges_7 (C : CxC p rmX1_gatherEdges s m args meth c D ac q xa xv RX1 cX1_gatherEdges 3) (hr : meth.sig.returnType = none){k : Nat} (hk : kdC k = 23) {v1 : Int} {σ : Mm} {e7 : Mm → Option (Mm)} {c7 : Int → Mm → Option (Mm)} {r : Mm} (he7 : ∀ (σ : Mm) (ls : Array Slot), lv_has ls 3 [(0, .ref (q k))] → e7 σ = some r → VC p l e rmX1_gatherEdges s m args below meth c D ac q (QVC D ac q xa xv below args s r) σ (F0 m 26 ls [])) (hc7 : ∀ (v1x : Int) (σ : Mm) (ls : Array Slot), lv_has ls 3 [(0, .ref (q k)), (1, .int (i32 v1x))] → c7 v1x σ = some r → VC p l e rmX1_gatherEdges s m args below meth c D ac q (QVC D ac q xa xv below args s r) σ (F0 m 7 ls [])) (hl : lv_has ls 3 [(0, .ref (q k)), (1, .int (i32 v1))]) (h : fX1_gatherEdges_7 k e7 c7 v1 σ = some r) : VC p l e rmX1_gatherEdges s m args below meth c D ac q (QVC D ac q xa xv below args s r) σ (F0 m 7 ls []) := by
  have h : cr v1 ((if v1 < 24 then chk v1 24 (bindv (sto σ (k + 9) (v1).toNat 0) (fun σ_2 => bindv (v1 + 1) (fun v1_3 => c7 v1_3 σ_2))) else e7 σ)) = some r := h
  refine v_iload_n C hl dX1_gatherEdges_7 rfl 1 rfl ?_
  refine v_bipush C dX1_gatherEdges_8 rfl ?_
  have hz1 := (cr_e h).1
  have h := (cr_e h).2
  refine v_icmp_ge C (tgt := 26) hz1 (by decide) h dX1_gatherEdges_10 rfl (fun h => ?_) (fun h => ?_)
  · exact he7 _ _ (lv_sub hl [0] rfl) h
  · refine v_aload_n C hl dX1_gatherEdges_13 rfl 0 rfl ?_
    refine g_X1_8 C hk fl_X1_39 dX1_gatherEdges_14 ?_
    refine v_iload_n C hl dX1_gatherEdges_17 rfl 1 rfl ?_
    refine v_iconst C dX1_gatherEdges_18 ?_
    refine asC8 C (kfC23_8 hk) h dX1_gatherEdges_19 (fun σ_2 h => ?_)
    refine v_iinc C hl (fun x => [(1, .int (i32 x)), (0, .ref (q k))]) dX1_gatherEdges_20 1 rfl (by decide) (fun _ => rfl) h (fun v1_3 ls hl h => ?_)
    refine v_goto C (tgt := 7) dX1_gatherEdges_23 rfl ?_
    exact hc7 _ _ _ (lv_sub hl [1, 0] rfl) h
theorem wlX1_gatherEdges_7 (C : CxC p rmX1_gatherEdges s m args meth c D ac q xa xv RX1 cX1_gatherEdges 3) (hr : meth.sig.returnType = none){k : Nat} (hk : kdC k = 23) {e7 : Mm → Option (Mm)} {r : Mm} (he7 : ∀ (σ : Mm) (ls : Array Slot), lv_has ls 3 [(0, .ref (q k))] → e7 σ = some r → VC p l e rmX1_gatherEdges s m args below meth c D ac q (QVC D ac q xa xv below args s r) σ (F0 m 26 ls [])) : ∀ (fu : Nat) (v1 : Int) (σ : Mm) (ls : Array Slot) (hl : lv_has ls 3 [(0, .ref (q k)), (1, .int (i32 v1))]) (h : lX1_gatherEdges_7 k e7 fu v1 σ = some r), VC p l e rmX1_gatherEdges s m args below meth c D ac q (QVC D ac q xa xv below args s r) σ (F0 m 7 ls []) := by
  intro fu
  induction fu with
  | zero =>
    intro v1 σ ls hl h
    have h : none = some r := h
    cases h
  | succ fu ih =>
    intro v1 σ ls hl h
    exact wX1_gatherEdges_7 C hr hk he7 (fun v1 σ ls hl h => ih v1 σ ls hl h) hl h
theorem mX1_gatherEdges (hq : QI 175 q) {k : Nat} (hk : kdC k = 23) {σ : Mm} {r : Mm} (h : fX1_gatherEdges k σ = some r) : MVC l D ac q xa xv yX1_gatherEdges cX1_gatherEdges 3 none rmX1_gatherEdges [.ref (q k)] σ r := by
  refine MV.of hq XC_M (by decide) (Nat.le_of_ble_eq_true rfl) (fun p e s m below meth c ls C hr hl => ?_)
  have hl : lv_has ls 3 [(0, .ref (q k))] := hl
  have h : bindv (sto σ k 11 0) (fun σ_1 => bindv 0 (fun v1_2 => lX1_gatherEdges_7 k (fun σ_3 => fX1_gatherEdges_26 k σ_3) 400 v1_2 σ_1)) = some r := h
  refine v_aload_n C hl dX1_gatherEdges_0 rfl 0 rfl ?_
  refine v_iconst C dX1_gatherEdges_1 ?_
  refine s_X1_11 C hk fl_X1_49 h dX1_gatherEdges_2 (fun σ_1 h => ?_)
  refine v_iconst C dX1_gatherEdges_5 ?_
  refine v_istore_n C hl (fun x => [(1, .int (i32 x)), (0, .ref (q k))]) dX1_gatherEdges_6 rfl (by decide) (fun _ => rfl) h (fun v1_2 ls hl h => ?_)
  exact wlX1_gatherEdges_7 C hr hk (fun σ_3 ls hl h => wX1_gatherEdges_26 C hr hk (lv_sub hl [0] rfl) h) _ _ _ _ (lv_sub hl [1, 0] rfl) h
end
section
variable {l : Launch} {D : va_G} {ac : Nat → ClassId} {q xa xv : Nat → Nat} {p : Program} {e : Env} {s : State} {m : MethodId} {args : Array Value} {below : List Frame} {meth : Method} {c : Code} {ls : Array Slot}
theorem dX1_isOn_0 : decode cX1_isOn 0 = .ok (.aload_n 0, 1) := by decide +kernel
theorem dX1_isOn_1 : decode cX1_isOn 1 = .ok (.iload_n 1, 1) := by decide +kernel
theorem dX1_isOn_2 : decode cX1_isOn 2 = .ok (.iload_n 2, 1) := by decide +kernel
theorem dX1_isOn_3 : decode cX1_isOn 3 = .ok (.iload_n 3, 1) := by decide +kernel
theorem dX1_isOn_4 : decode cX1_isOn 4 = .ok (.iload 4, 2) := by decide +kernel
theorem dX1_isOn_6 : decode cX1_isOn 6 = .ok (.invokevirtual 98, 3) := by decide +kernel
theorem dX1_isOn_9 : decode cX1_isOn 9 = .ok (.ifCond .ne 85, 3) := by decide +kernel
theorem dX1_isOn_12 : decode cX1_isOn 12 = .ok (.iload_n 3, 1) := by decide +kernel
theorem dX1_isOn_13 : decode cX1_isOn 13 = .ok (.aload_n 0, 1) := by decide +kernel
theorem dX1_isOn_14 : decode cX1_isOn 14 = .ok (.getfield 9, 3) := by decide +kernel
theorem dX1_isOn_17 : decode cX1_isOn 17 = .ok (.iload_n 1, 1) := by decide +kernel
theorem dX1_isOn_18 : decode cX1_isOn 18 = .ok (.iaload, 1) := by decide +kernel
theorem dX1_isOn_19 : decode cX1_isOn 19 = .ok (.aload_n 0, 1) := by decide +kernel
theorem dX1_isOn_20 : decode cX1_isOn 20 = .ok (.getfield 9, 3) := by decide +kernel
theorem dX1_isOn_23 : decode cX1_isOn 23 = .ok (.iload_n 2, 1) := by decide +kernel
theorem dX1_isOn_24 : decode cX1_isOn 24 = .ok (.iaload, 1) := by decide +kernel
theorem dX1_isOn_25 : decode cX1_isOn 25 = .ok (.invokestatic 102, 3) := by decide +kernel
theorem dX1_isOn_28 : decode cX1_isOn 28 = .ok (.if_icmp .lt 66, 3) := by decide +kernel
theorem dX1_isOn_31 : decode cX1_isOn 31 = .ok (.iload_n 3, 1) := by decide +kernel
theorem dX1_isOn_32 : decode cX1_isOn 32 = .ok (.aload_n 0, 1) := by decide +kernel
theorem dX1_isOn_33 : decode cX1_isOn 33 = .ok (.getfield 9, 3) := by decide +kernel
theorem dX1_isOn_36 : decode cX1_isOn 36 = .ok (.iload_n 1, 1) := by decide +kernel
theorem dX1_isOn_37 : decode cX1_isOn 37 = .ok (.iaload, 1) := by decide +kernel
theorem dX1_isOn_38 : decode cX1_isOn 38 = .ok (.aload_n 0, 1) := by decide +kernel
theorem dX1_isOn_39 : decode cX1_isOn 39 = .ok (.getfield 9, 3) := by decide +kernel
theorem dX1_isOn_42 : decode cX1_isOn 42 = .ok (.iload_n 2, 1) := by decide +kernel
theorem dX1_isOn_43 : decode cX1_isOn 43 = .ok (.iaload, 1) := by decide +kernel
theorem dX1_isOn_44 : decode cX1_isOn 44 = .ok (.invokestatic 107, 3) := by decide +kernel
theorem dX1_isOn_47 : decode cX1_isOn 47 = .ok (.if_icmp .gt 47, 3) := by decide +kernel
theorem dX1_isOn_50 : decode cX1_isOn 50 = .ok (.iload 4, 2) := by decide +kernel
theorem dX1_isOn_52 : decode cX1_isOn 52 = .ok (.aload_n 0, 1) := by decide +kernel
theorem dX1_isOn_53 : decode cX1_isOn 53 = .ok (.getfield 15, 3) := by decide +kernel
theorem dX1_isOn_56 : decode cX1_isOn 56 = .ok (.iload_n 1, 1) := by decide +kernel
theorem dX1_isOn_57 : decode cX1_isOn 57 = .ok (.iaload, 1) := by decide +kernel
theorem dX1_isOn_58 : decode cX1_isOn 58 = .ok (.aload_n 0, 1) := by decide +kernel
theorem dX1_isOn_59 : decode cX1_isOn 59 = .ok (.getfield 15, 3) := by decide +kernel
theorem dX1_isOn_62 : decode cX1_isOn 62 = .ok (.iload_n 2, 1) := by decide +kernel
theorem dX1_isOn_63 : decode cX1_isOn 63 = .ok (.iaload, 1) := by decide +kernel
theorem dX1_isOn_64 : decode cX1_isOn 64 = .ok (.invokestatic 102, 3) := by decide +kernel
theorem dX1_isOn_67 : decode cX1_isOn 67 = .ok (.if_icmp .lt 27, 3) := by decide +kernel
theorem dX1_isOn_70 : decode cX1_isOn 70 = .ok (.iload 4, 2) := by decide +kernel
theorem dX1_isOn_72 : decode cX1_isOn 72 = .ok (.aload_n 0, 1) := by decide +kernel
theorem dX1_isOn_73 : decode cX1_isOn 73 = .ok (.getfield 15, 3) := by decide +kernel
theorem dX1_isOn_76 : decode cX1_isOn 76 = .ok (.iload_n 1, 1) := by decide +kernel
theorem dX1_isOn_77 : decode cX1_isOn 77 = .ok (.iaload, 1) := by decide +kernel
theorem dX1_isOn_78 : decode cX1_isOn 78 = .ok (.aload_n 0, 1) := by decide +kernel
theorem dX1_isOn_79 : decode cX1_isOn 79 = .ok (.getfield 15, 3) := by decide +kernel
theorem dX1_isOn_82 : decode cX1_isOn 82 = .ok (.iload_n 2, 1) := by decide +kernel
theorem dX1_isOn_83 : decode cX1_isOn 83 = .ok (.iaload, 1) := by decide +kernel
theorem dX1_isOn_84 : decode cX1_isOn 84 = .ok (.invokestatic 107, 3) := by decide +kernel
theorem dX1_isOn_87 : decode cX1_isOn 87 = .ok (.if_icmp .gt 7, 3) := by decide +kernel
theorem dX1_isOn_90 : decode cX1_isOn 90 = .ok (.iconst 1, 1) := by decide +kernel
theorem dX1_isOn_91 : decode cX1_isOn 91 = .ok (.goto 4, 3) := by decide +kernel
theorem dX1_isOn_94 : decode cX1_isOn 94 = .ok (.iconst 0, 1) := by decide +kernel
theorem dX1_isOn_95 : decode cX1_isOn 95 = .ok (.ireturn, 1) := by decide +kernel
theorem wX1_isOn_95 (C : CxC p rmX1_isOn s m args meth c D ac q xa xv RX1 cX1_isOn 5) (hr : meth.sig.returnType = (some .boolean)){k : Nat} (hk : kdC k = 23) {t0 : Int} {σ : Mm} {r : Int} (hl : lv_has ls 5 [(0, .ref (q k))]) (h : fX1_isOn_95 k t0 σ = some r) : VC p l e rmX1_isOn s m args below meth c D ac q (QIC D ac q xa xv below args s (r, σ)) σ (F0 m 95 ls [.int (i32 t0)]) := by
  have h : chb t0 (some t0) = some r := h
  have hz1 := (chb_e h).1
  have h := (chb_e h).2
  exact v_zret C hr hz1 (so1 h) dX1_isOn_95
theorem wX1_isOn_94 (C : CxC p rmX1_isOn s m args meth c D ac q xa xv RX1 cX1_isOn 5) (hr : meth.sig.returnType = (some .boolean)){k : Nat} (hk : kdC k = 23) {σ : Mm} {r : Int} (hl : lv_has ls 5 [(0, .ref (q k))]) (h : fX1_isOn_94 k σ = some r) : VC p l e rmX1_isOn s m args below meth c D ac q (QIC D ac q xa xv below args s (r, σ)) σ (F0 m 94 ls []) := by
  have h : fX1_isOn_95 k 0 σ = some r := h
  refine v_iconst C dX1_isOn_94 ?_
  exact wX1_isOn_95 C hr hk (lv_sub hl [0] rfl) h
theorem mX1_isOn (hq : QI 175 q) {k : Nat} {v1 : Int} {v2 : Int} {v3 : Int} {v4 : Int} (hk : kdC k = 23) {σ : Mm} {r : Int} (h : fX1_isOn k v1 v2 v3 v4 σ = some r) : MIC l D ac q xa xv yX1_isOn cX1_isOn 5 (some .boolean) rmX1_isOn [.ref (q k), .int (i32 v1), .int (i32 v2), .int (i32 v3), .int (i32 v4)] σ (r, σ) := by
  refine MI.of hq XC_M (by decide) (Nat.le_of_ble_eq_true rfl) (fun p e s m below meth c ls C hr hl => ?_)
  have hl : lv_has ls 5 [(0, .ref (q k)), (1, .int (i32 v1)), (2, .int (i32 v2)), (3, .int (i32 v3)), (4, .int (i32 v4))] := hl
  have h : bd (fX1_sideOf k v1 v2 v3 v4 σ) (fun x_1 => cr x_1 ((if x_1 = 0 then chk v1 24 (chk v2 24 (cr (σ (k + 1) (v1).toNat) (cr (σ (k + 1) (v2).toNat) (cr v3 (cr (mnI (σ (k + 1) (v1).toNat) (σ (k + 1) (v2).toNat)) ((if v3 < mnI (σ (k + 1) (v1).toNat) (σ (k + 1) (v2).toNat) then fX1_isOn_94 k σ else chk v1 24 (chk v2 24 (cr (σ (k + 1) (v1).toNat) (cr (σ (k + 1) (v2).toNat) (cr v3 (cr (mxI (σ (k + 1) (v1).toNat) (σ (k + 1) (v2).toNat)) ((if mxI (σ (k + 1) (v1).toNat) (σ (k + 1) (v2).toNat) < v3 then fX1_isOn_94 k σ else chk v1 24 (chk v2 24 (cr (σ (k + 2) (v1).toNat) (cr (σ (k + 2) (v2).toNat) (cr v4 (cr (mnI (σ (k + 2) (v1).toNat) (σ (k + 2) (v2).toNat)) ((if v4 < mnI (σ (k + 2) (v1).toNat) (σ (k + 2) (v2).toNat) then fX1_isOn_94 k σ else chk v1 24 (chk v2 24 (cr (σ (k + 2) (v1).toNat) (cr (σ (k + 2) (v2).toNat) (cr v4 (cr (mxI (σ (k + 2) (v1).toNat) (σ (k + 2) (v2).toNat)) ((if mxI (σ (k + 2) (v1).toNat) (σ (k + 2) (v2).toNat) < v4 then fX1_isOn_94 k σ else fX1_isOn_95 k 1 σ)))))))))))))))))))))))))))) else fX1_isOn_94 k σ))) = some r := h
  refine v_aload_n C hl dX1_isOn_0 rfl 0 rfl ?_
  refine v_iload_n C hl dX1_isOn_1 rfl 1 rfl ?_
  refine v_iload_n C hl dX1_isOn_2 rfl 2 rfl ?_
  refine v_iload_n C hl dX1_isOn_3 rfl 3 rfl ?_
  refine v_iload C hl dX1_isOn_4 4 rfl ?_
  obtain ⟨x_1, hv1, h⟩ := bd_e h
  refine v_callVI C k (klC hk) rfl (ckC23 hk _) rfl [.int (i32 v1), .int (i32 v2), .int (i32 v3), .int (i32 v4)] (mX1_sideOf C.2.2.2.2.1 hk hv1) cd_X1_sideOf ic_X1 im_X1_sideOf se_X1_sideOf ml_X1_98 yk_X1_sideOf ⟨rfl, rfl, by decide, by decide⟩ rfl hl.1 (rest := []) rfl (Nat.le_of_ble_eq_true rfl) dX1_isOn_6 ?_
  have hz2 := (cr_e h).1
  have h := (cr_e h).2
  refine v_if_ne C (tgt := 94) hz2 h dX1_isOn_9 rfl (fun h => ?_) (fun h => ?_)
  · exact wX1_isOn_94 C hr hk (lv_sub hl [0] rfl) h
  · refine v_iload_n C hl dX1_isOn_12 rfl 3 rfl ?_
    refine v_aload_n C hl dX1_isOn_13 rfl 0 rfl ?_
    refine g_X1_0 C hk fl_X1_9 dX1_isOn_14 ?_
    refine v_iload_n C hl dX1_isOn_17 rfl 1 rfl ?_
    refine alC8 C (kfC23_0 hk) h dX1_isOn_18 (fun h => ?_)
    refine v_aload_n C hl dX1_isOn_19 rfl 0 rfl ?_
    refine g_X1_0 C hk fl_X1_9 dX1_isOn_20 ?_
    refine v_iload_n C hl dX1_isOn_23 rfl 2 rfl ?_
    refine alC8 C (kfC23_0 hk) h dX1_isOn_24 (fun h => ?_)
    refine v_min C (rest := [.int (i32 v3)]) hl.1 ml_X1_102 sm_J9_min_7cf53 ic_J9 cd_J9_min_7cf53 (by decide) (Nat.le_of_ble_eq_true rfl) h dX1_isOn_25 (fun h => ?_)
    have hz3 := (cr_e h).1
    have h := (cr_e h).2
    have hz4 := (cr_e h).1
    have h := (cr_e h).2
    refine v_icmp_lt C (tgt := 94) hz3 hz4 h dX1_isOn_28 rfl (fun h => ?_) (fun h => ?_)
    · exact wX1_isOn_94 C hr hk (lv_sub hl [0] rfl) h
    · refine v_iload_n C hl dX1_isOn_31 rfl 3 rfl ?_
      refine v_aload_n C hl dX1_isOn_32 rfl 0 rfl ?_
      refine g_X1_0 C hk fl_X1_9 dX1_isOn_33 ?_
      refine v_iload_n C hl dX1_isOn_36 rfl 1 rfl ?_
      refine alC8 C (kfC23_0 hk) h dX1_isOn_37 (fun h => ?_)
      refine v_aload_n C hl dX1_isOn_38 rfl 0 rfl ?_
      refine g_X1_0 C hk fl_X1_9 dX1_isOn_39 ?_
      refine v_iload_n C hl dX1_isOn_42 rfl 2 rfl ?_
      refine alC8 C (kfC23_0 hk) h dX1_isOn_43 (fun h => ?_)
      refine v_max C (rest := [.int (i32 v3)]) hl.1 ml_X1_107 sm_J9_max_7cf53 ic_J9 cd_J9_max_7cf53 (by decide) (Nat.le_of_ble_eq_true rfl) h dX1_isOn_44 (fun h => ?_)
      have hz5 := (cr_e h).1
      have h := (cr_e h).2
      have hz6 := (cr_e h).1
      have h := (cr_e h).2
      refine v_icmp_gt C (tgt := 94) hz5 hz6 h dX1_isOn_47 rfl (fun h => ?_) (fun h => ?_)
      · exact wX1_isOn_94 C hr hk (lv_sub hl [0] rfl) h
      · refine v_iload C hl dX1_isOn_50 4 rfl ?_
        refine v_aload_n C hl dX1_isOn_52 rfl 0 rfl ?_
        refine g_X1_1 C hk fl_X1_15 dX1_isOn_53 ?_
        refine v_iload_n C hl dX1_isOn_56 rfl 1 rfl ?_
        refine alC8 C (kfC23_1 hk) h dX1_isOn_57 (fun h => ?_)
        refine v_aload_n C hl dX1_isOn_58 rfl 0 rfl ?_
        refine g_X1_1 C hk fl_X1_15 dX1_isOn_59 ?_
        refine v_iload_n C hl dX1_isOn_62 rfl 2 rfl ?_
        refine alC8 C (kfC23_1 hk) h dX1_isOn_63 (fun h => ?_)
        refine v_min C (rest := [.int (i32 v4)]) hl.1 ml_X1_102 sm_J9_min_7cf53 ic_J9 cd_J9_min_7cf53 (by decide) (Nat.le_of_ble_eq_true rfl) h dX1_isOn_64 (fun h => ?_)
        have hz7 := (cr_e h).1
        have h := (cr_e h).2
        have hz8 := (cr_e h).1
        have h := (cr_e h).2
        refine v_icmp_lt C (tgt := 94) hz7 hz8 h dX1_isOn_67 rfl (fun h => ?_) (fun h => ?_)
        · exact wX1_isOn_94 C hr hk (lv_sub hl [0] rfl) h
        · refine v_iload C hl dX1_isOn_70 4 rfl ?_
          refine v_aload_n C hl dX1_isOn_72 rfl 0 rfl ?_
          refine g_X1_1 C hk fl_X1_15 dX1_isOn_73 ?_
          refine v_iload_n C hl dX1_isOn_76 rfl 1 rfl ?_
          refine alC8 C (kfC23_1 hk) h dX1_isOn_77 (fun h => ?_)
          refine v_aload_n C hl dX1_isOn_78 rfl 0 rfl ?_
          refine g_X1_1 C hk fl_X1_15 dX1_isOn_79 ?_
          refine v_iload_n C hl dX1_isOn_82 rfl 2 rfl ?_
          refine alC8 C (kfC23_1 hk) h dX1_isOn_83 (fun h => ?_)
          refine v_max C (rest := [.int (i32 v4)]) hl.1 ml_X1_107 sm_J9_max_7cf53 ic_J9 cd_J9_max_7cf53 (by decide) (Nat.le_of_ble_eq_true rfl) h dX1_isOn_84 (fun h => ?_)
          have hz9 := (cr_e h).1
          have h := (cr_e h).2
          have hz10 := (cr_e h).1
          have h := (cr_e h).2
          refine v_icmp_gt C (tgt := 94) hz9 hz10 h dX1_isOn_87 rfl (fun h => ?_) (fun h => ?_)
          · exact wX1_isOn_94 C hr hk (lv_sub hl [0] rfl) h
          · refine v_iconst C dX1_isOn_90 ?_
            refine v_goto C (tgt := 95) dX1_isOn_91 rfl ?_
            exact wX1_isOn_95 C hr hk (lv_sub hl [0] rfl) h
end
section
variable {l : Launch} {D : va_G} {ac : Nat → ClassId} {q xa xv : Nat → Nat} {p : Program} {e : Env} {s : State} {m : MethodId} {args : Array Value} {below : List Frame} {meth : Method} {c : Code} {ls : Array Slot}
theorem dX1_isClear_0 : decode cX1_isClear 0 = .ok (.aload_n 0, 1) := by decide +kernel
theorem dX1_isClear_1 : decode cX1_isClear 1 = .ok (.getfield 30, 3) := by decide +kernel
theorem dX1_isClear_4 : decode cX1_isClear 4 = .ok (.iload_n 1, 1) := by decide +kernel
theorem dX1_isClear_5 : decode cX1_isClear 5 = .ok (.iaload, 1) := by decide +kernel
theorem dX1_isClear_6 : decode cX1_isClear 6 = .ok (.istore_n 2, 1) := by decide +kernel
theorem dX1_isClear_7 : decode cX1_isClear 7 = .ok (.aload_n 0, 1) := by decide +kernel
theorem dX1_isClear_8 : decode cX1_isClear 8 = .ok (.getfield 33, 3) := by decide +kernel
theorem dX1_isClear_11 : decode cX1_isClear 11 = .ok (.iload_n 1, 1) := by decide +kernel
theorem dX1_isClear_12 : decode cX1_isClear 12 = .ok (.iaload, 1) := by decide +kernel
theorem dX1_isClear_13 : decode cX1_isClear 13 = .ok (.istore_n 3, 1) := by decide +kernel
theorem dX1_isClear_14 : decode cX1_isClear 14 = .ok (.iconst 0, 1) := by decide +kernel
theorem dX1_isClear_15 : decode cX1_isClear 15 = .ok (.istore 4, 2) := by decide +kernel
theorem dX1_isClear_17 : decode cX1_isClear 17 = .ok (.iload 4, 2) := by decide +kernel
theorem dX1_isClear_19 : decode cX1_isClear 19 = .ok (.aload_n 0, 1) := by decide +kernel
theorem dX1_isClear_20 : decode cX1_isClear 20 = .ok (.getfield 42, 3) := by decide +kernel
theorem dX1_isClear_23 : decode cX1_isClear 23 = .ok (.if_icmp .ge 46, 3) := by decide +kernel
theorem dX1_isClear_26 : decode cX1_isClear 26 = .ok (.iload 4, 2) := by decide +kernel
theorem dX1_isClear_28 : decode cX1_isClear 28 = .ok (.iload_n 2, 1) := by decide +kernel
theorem dX1_isClear_29 : decode cX1_isClear 29 = .ok (.if_icmp .eq 34, 3) := by decide +kernel
theorem dX1_isClear_32 : decode cX1_isClear 32 = .ok (.iload 4, 2) := by decide +kernel
theorem dX1_isClear_34 : decode cX1_isClear 34 = .ok (.iload_n 3, 1) := by decide +kernel
theorem dX1_isClear_35 : decode cX1_isClear 35 = .ok (.if_icmp .eq 28, 3) := by decide +kernel
theorem dX1_isClear_38 : decode cX1_isClear 38 = .ok (.aload_n 0, 1) := by decide +kernel
theorem dX1_isClear_39 : decode cX1_isClear 39 = .ok (.iload_n 2, 1) := by decide +kernel
theorem dX1_isClear_40 : decode cX1_isClear 40 = .ok (.iload_n 3, 1) := by decide +kernel
theorem dX1_isClear_41 : decode cX1_isClear 41 = .ok (.aload_n 0, 1) := by decide +kernel
theorem dX1_isClear_42 : decode cX1_isClear 42 = .ok (.getfield 9, 3) := by decide +kernel
theorem dX1_isClear_45 : decode cX1_isClear 45 = .ok (.iload 4, 2) := by decide +kernel
theorem dX1_isClear_47 : decode cX1_isClear 47 = .ok (.iaload, 1) := by decide +kernel
theorem dX1_isClear_48 : decode cX1_isClear 48 = .ok (.aload_n 0, 1) := by decide +kernel
theorem dX1_isClear_49 : decode cX1_isClear 49 = .ok (.getfield 15, 3) := by decide +kernel
theorem dX1_isClear_52 : decode cX1_isClear 52 = .ok (.iload 4, 2) := by decide +kernel
theorem dX1_isClear_54 : decode cX1_isClear 54 = .ok (.iaload, 1) := by decide +kernel
theorem dX1_isClear_55 : decode cX1_isClear 55 = .ok (.invokevirtual 91, 3) := by decide +kernel
theorem dX1_isClear_58 : decode cX1_isClear 58 = .ok (.ifCond .eq 5, 3) := by decide +kernel
theorem dX1_isClear_61 : decode cX1_isClear 61 = .ok (.iconst 0, 1) := by decide +kernel
theorem dX1_isClear_62 : decode cX1_isClear 62 = .ok (.ireturn, 1) := by decide +kernel
theorem dX1_isClear_63 : decode cX1_isClear 63 = .ok (.iinc 4 1, 3) := by decide +kernel
theorem dX1_isClear_66 : decode cX1_isClear 66 = .ok (.goto (-49), 3) := by decide +kernel
theorem dX1_isClear_69 : decode cX1_isClear 69 = .ok (.iconst 0, 1) := by decide +kernel
theorem dX1_isClear_70 : decode cX1_isClear 70 = .ok (.istore 4, 2) := by decide +kernel
theorem dX1_isClear_72 : decode cX1_isClear 72 = .ok (.iload 4, 2) := by decide +kernel
theorem dX1_isClear_74 : decode cX1_isClear 74 = .ok (.aload_n 0, 1) := by decide +kernel
theorem dX1_isClear_75 : decode cX1_isClear 75 = .ok (.getfield 49, 3) := by decide +kernel
theorem dX1_isClear_78 : decode cX1_isClear 78 = .ok (.if_icmp .ge 54, 3) := by decide +kernel
theorem dX1_isClear_81 : decode cX1_isClear 81 = .ok (.aload_n 0, 1) := by decide +kernel
theorem dX1_isClear_82 : decode cX1_isClear 82 = .ok (.iload 4, 2) := by decide +kernel
theorem dX1_isClear_84 : decode cX1_isClear 84 = .ok (.iload_n 2, 1) := by decide +kernel
theorem dX1_isClear_85 : decode cX1_isClear 85 = .ok (.invokevirtual 84, 3) := by decide +kernel
theorem dX1_isClear_88 : decode cX1_isClear 88 = .ok (.ifCond .ne 38, 3) := by decide +kernel
theorem dX1_isClear_91 : decode cX1_isClear 91 = .ok (.aload_n 0, 1) := by decide +kernel
theorem dX1_isClear_92 : decode cX1_isClear 92 = .ok (.iload 4, 2) := by decide +kernel
theorem dX1_isClear_94 : decode cX1_isClear 94 = .ok (.iload_n 3, 1) := by decide +kernel
theorem dX1_isClear_95 : decode cX1_isClear 95 = .ok (.invokevirtual 84, 3) := by decide +kernel
theorem dX1_isClear_98 : decode cX1_isClear 98 = .ok (.ifCond .ne 28, 3) := by decide +kernel
theorem dX1_isClear_101 : decode cX1_isClear 101 = .ok (.aload_n 0, 1) := by decide +kernel
theorem dX1_isClear_102 : decode cX1_isClear 102 = .ok (.iload_n 2, 1) := by decide +kernel
theorem dX1_isClear_103 : decode cX1_isClear 103 = .ok (.iload_n 3, 1) := by decide +kernel
theorem dX1_isClear_104 : decode cX1_isClear 104 = .ok (.aload_n 0, 1) := by decide +kernel
theorem dX1_isClear_105 : decode cX1_isClear 105 = .ok (.getfield 30, 3) := by decide +kernel
theorem dX1_isClear_108 : decode cX1_isClear 108 = .ok (.iload 4, 2) := by decide +kernel
theorem dX1_isClear_110 : decode cX1_isClear 110 = .ok (.iaload, 1) := by decide +kernel
theorem dX1_isClear_111 : decode cX1_isClear 111 = .ok (.aload_n 0, 1) := by decide +kernel
theorem dX1_isClear_112 : decode cX1_isClear 112 = .ok (.getfield 33, 3) := by decide +kernel
theorem dX1_isClear_115 : decode cX1_isClear 115 = .ok (.iload 4, 2) := by decide +kernel
theorem dX1_isClear_117 : decode cX1_isClear 117 = .ok (.iaload, 1) := by decide +kernel
theorem dX1_isClear_118 : decode cX1_isClear 118 = .ok (.invokevirtual 95, 3) := by decide +kernel
theorem dX1_isClear_121 : decode cX1_isClear 121 = .ok (.ifCond .eq 5, 3) := by decide +kernel
theorem dX1_isClear_124 : decode cX1_isClear 124 = .ok (.iconst 0, 1) := by decide +kernel
theorem dX1_isClear_125 : decode cX1_isClear 125 = .ok (.ireturn, 1) := by decide +kernel
theorem dX1_isClear_126 : decode cX1_isClear 126 = .ok (.iinc 4 1, 3) := by decide +kernel
theorem dX1_isClear_129 : decode cX1_isClear 129 = .ok (.goto (-57), 3) := by decide +kernel
theorem dX1_isClear_132 : decode cX1_isClear 132 = .ok (.iconst 1, 1) := by decide +kernel
theorem dX1_isClear_133 : decode cX1_isClear 133 = .ok (.ireturn, 1) := by decide +kernel
theorem wX1_isClear_132 (C : CxC p rmX1_isClear s m args meth c D ac q xa xv RX1 cX1_isClear 5) (hr : meth.sig.returnType = (some .boolean)){k : Nat} (hk : kdC k = 23) {σ : Mm} {r : Int} (hl : lv_has ls 5 [(0, .ref (q k))]) (h : fX1_isClear_132 k σ = some r) : VC p l e rmX1_isClear s m args below meth c D ac q (QIC D ac q xa xv below args s (r, σ)) σ (F0 m 132 ls []) := by
  have h : some 1 = some r := h
  refine v_iconst C dX1_isClear_132 ?_
  exact v_zret C hr (Or.inr rfl) (so1 h) dX1_isClear_133
theorem wX1_isClear_126 (C : CxC p rmX1_isClear s m args meth c D ac q xa xv RX1 cX1_isClear 5) (hr : meth.sig.returnType = (some .boolean)){k : Nat} (hk : kdC k = 23) {v2 : Int} {v3 : Int} {v4 : Int} {c72 : Int → Option (Int)} {σ : Mm} {r : Int} (hc72 : ∀ (v4x : Int) (ls : Array Slot), lv_has ls 5 [(0, .ref (q k)), (2, .int (i32 v2)), (3, .int (i32 v3)), (4, .int (i32 v4x))] → c72 v4x = some r → VC p l e rmX1_isClear s m args below meth c D ac q (QIC D ac q xa xv below args s (r, σ)) σ (F0 m 72 ls [])) (hl : lv_has ls 5 [(0, .ref (q k)), (2, .int (i32 v2)), (3, .int (i32 v3)), (4, .int (i32 v4))]) (h : fX1_isClear_126 k c72 v2 v3 v4 σ = some r) : VC p l e rmX1_isClear s m args below meth c D ac q (QIC D ac q xa xv below args s (r, σ)) σ (F0 m 126 ls []) := by
  have h : bindv (v4 + 1) (fun v4_1 => c72 v4_1) = some r := h
  refine v_iinc C hl (fun x => [(4, .int (i32 x)), (0, .ref (q k)), (2, .int (i32 v2)), (3, .int (i32 v3))]) dX1_isClear_126 3 rfl (by decide) (fun _ => rfl) h (fun v4_1 ls hl h => ?_)
  refine v_goto C (tgt := 72) dX1_isClear_129 rfl ?_
  exact hc72 _ _ (lv_sub hl [1, 2, 3, 0] rfl) h
theorem wX1_isClear_72 (C : CxC p rmX1_isClear s m args meth c D ac q xa xv RX1 cX1_isClear 5) (hr : meth.sig.returnType = (some .boolean)){k : Nat} (hk : kdC k = 23) {v2 : Int} {v3 : Int} {σ : Mm} {v4 : Int} {e72 : Option (Int)} {c72 : Int → Option (Int)} {r : Int} (he72 : ∀ (ls : Array Slot), lv_has ls 5 [(0, .ref (q k))] → e72 = some r → VC p l e rmX1_isClear s m args below meth c D ac q (QIC D ac q xa xv below args s (r, σ)) σ (F0 m 132 ls [])) (hc72 : ∀ (v4x : Int) (ls : Array Slot), lv_has ls 5 [(0, .ref (q k)), (2, .int (i32 v2)), (3, .int (i32 v3)), (4, .int (i32 v4x))] → c72 v4x = some r → VC p l e rmX1_isClear s m args below meth c D ac q (QIC D ac q xa xv below args s (r, σ)) σ (F0 m 72 ls [])) (hl : lv_has ls 5 [(0, .ref (q k)), (2, .int (i32 v2)), (3, .int (i32 v3)), (4, .int (i32 v4))]) (h : fX1_isClear_72 k v2 v3 σ e72 c72 v4 = some r) : VC p l e rmX1_isClear s m args below meth c D ac q (QIC D ac q xa xv below args s (r, σ)) σ (F0 m 72 ls []) := by
  have h : cr v4 (cr (σ k 11) ((if v4 < σ k 11 then bd (fX1_ends k v4 v2 σ) (fun x_3 => cr x_3 ((if x_3 = 0 then bd (fX1_ends k v4 v3 σ) (fun x_5 => cr x_5 ((if x_5 = 0 then chk v4 60 (chk v4 60 (bd (fX1_cross k v2 v3 (σ (k + 6) (v4).toNat) (σ (k + 7) (v4).toNat) σ) (fun x_7 => cr x_7 ((if x_7 = 0 then fX1_isClear_126 k c72 v2 v3 v4 σ else some 0))))) else fX1_isClear_126 k c72 v2 v3 v4 σ))) else fX1_isClear_126 k c72 v2 v3 v4 σ))) else e72))) = some r := h
  refine v_iload C hl dX1_isClear_72 3 rfl ?_
  refine v_aload_n C hl dX1_isClear_74 rfl 0 rfl ?_
  refine g_X1_11 C hk fl_X1_49 dX1_isClear_75 ?_
  have hz1 := (cr_e h).1
  have h := (cr_e h).2
  have hz2 := (cr_e h).1
  have h := (cr_e h).2
  refine v_icmp_ge C (tgt := 132) hz1 hz2 h dX1_isClear_78 rfl (fun h => ?_) (fun h => ?_)
  · exact he72  _ (lv_sub hl [0] rfl) h
  · refine v_aload_n C hl dX1_isClear_81 rfl 0 rfl ?_
    refine v_iload C hl dX1_isClear_82 3 rfl ?_
    refine v_iload_n C hl dX1_isClear_84 rfl 1 rfl ?_
    obtain ⟨x_3, hv3, h⟩ := bd_e h
    refine v_callVI C k (klC hk) rfl (ckC23 hk _) rfl [.int (i32 v4), .int (i32 v2)] (mX1_ends C.2.2.2.2.1 hk hv3) cd_X1_ends ic_X1 im_X1_ends se_X1_ends ml_X1_84 yk_X1_ends ⟨rfl, rfl, by decide, by decide⟩ rfl hl.1 (rest := []) rfl (Nat.le_of_ble_eq_true rfl) dX1_isClear_85 ?_
    have hz4 := (cr_e h).1
    have h := (cr_e h).2
    refine v_if_ne C (tgt := 126) hz4 h dX1_isClear_88 rfl (fun h => ?_) (fun h => ?_)
    · exact wX1_isClear_126 C hr hk hc72 (lv_sub hl [0, 1, 2, 3] rfl) h
    · refine v_aload_n C hl dX1_isClear_91 rfl 0 rfl ?_
      refine v_iload C hl dX1_isClear_92 3 rfl ?_
      refine v_iload_n C hl dX1_isClear_94 rfl 2 rfl ?_
      obtain ⟨x_5, hv5, h⟩ := bd_e h
      refine v_callVI C k (klC hk) rfl (ckC23 hk _) rfl [.int (i32 v4), .int (i32 v3)] (mX1_ends C.2.2.2.2.1 hk hv5) cd_X1_ends ic_X1 im_X1_ends se_X1_ends ml_X1_84 yk_X1_ends ⟨rfl, rfl, by decide, by decide⟩ rfl hl.1 (rest := []) rfl (Nat.le_of_ble_eq_true rfl) dX1_isClear_95 ?_
      have hz6 := (cr_e h).1
      have h := (cr_e h).2
      refine v_if_ne C (tgt := 126) hz6 h dX1_isClear_98 rfl (fun h => ?_) (fun h => ?_)
      · exact wX1_isClear_126 C hr hk hc72 (lv_sub hl [0, 1, 2, 3] rfl) h
      · refine v_aload_n C hl dX1_isClear_101 rfl 0 rfl ?_
        refine v_iload_n C hl dX1_isClear_102 rfl 1 rfl ?_
        refine v_iload_n C hl dX1_isClear_103 rfl 2 rfl ?_
        refine v_aload_n C hl dX1_isClear_104 rfl 0 rfl ?_
        refine g_X1_5 C hk fl_X1_30 dX1_isClear_105 ?_
        refine v_iload C hl dX1_isClear_108 3 rfl ?_
        refine alC7 C (kfC23_5 hk) h dX1_isClear_110 (fun h => ?_)
        refine v_aload_n C hl dX1_isClear_111 rfl 0 rfl ?_
        refine g_X1_6 C hk fl_X1_33 dX1_isClear_112 ?_
        refine v_iload C hl dX1_isClear_115 3 rfl ?_
        refine alC7 C (kfC23_6 hk) h dX1_isClear_117 (fun h => ?_)
        obtain ⟨x_7, hv7, h⟩ := bd_e h
        refine v_callVI C k (klC hk) rfl (ckC23 hk _) rfl [.int (i32 v2), .int (i32 v3), .int (i32 (σ (k + 6) (v4).toNat)), .int (i32 (σ (k + 7) (v4).toNat))] (mX1_cross C.2.2.2.2.1 hk hv7) cd_X1_cross ic_X1 im_X1_cross se_X1_cross ml_X1_95 yk_X1_cross ⟨rfl, rfl, by decide, by decide⟩ rfl hl.1 (rest := []) rfl (Nat.le_of_ble_eq_true rfl) dX1_isClear_118 ?_
        have hz8 := (cr_e h).1
        have h := (cr_e h).2
        refine v_if_eq C (tgt := 126) hz8 h dX1_isClear_121 rfl (fun h => ?_) (fun h => ?_)
        · exact wX1_isClear_126 C hr hk hc72 (lv_sub hl [0, 1, 2, 3] rfl) h
        · refine v_iconst C dX1_isClear_124 ?_
          exact v_zret C hr (Or.inl rfl) (so1 h) dX1_isClear_125
theorem wlX1_isClear_72 (C : CxC p rmX1_isClear s m args meth c D ac q xa xv RX1 cX1_isClear 5) (hr : meth.sig.returnType = (some .boolean)){k : Nat} (hk : kdC k = 23) {v2 : Int} {v3 : Int} {σ : Mm} {e72 : Option (Int)} {r : Int} (he72 : ∀ (ls : Array Slot), lv_has ls 5 [(0, .ref (q k))] → e72 = some r → VC p l e rmX1_isClear s m args below meth c D ac q (QIC D ac q xa xv below args s (r, σ)) σ (F0 m 132 ls [])) : ∀ (fu : Nat) (v4 : Int) (ls : Array Slot) (hl : lv_has ls 5 [(0, .ref (q k)), (2, .int (i32 v2)), (3, .int (i32 v3)), (4, .int (i32 v4))]) (h : lX1_isClear_72 k v2 v3 σ e72 fu v4 = some r), VC p l e rmX1_isClear s m args below meth c D ac q (QIC D ac q xa xv below args s (r, σ)) σ (F0 m 72 ls []) := by
  intro fu
  induction fu with
  | zero =>
    intro v4 ls hl h
    have h : none = some r := h
    cases h
  | succ fu ih =>
    intro v4 ls hl h
    exact wX1_isClear_72 C hr hk he72 (fun v4 ls hl h => ih v4 ls hl h) hl h
theorem wX1_isClear_69 (C : CxC p rmX1_isClear s m args meth c D ac q xa xv RX1 cX1_isClear 5) (hr : meth.sig.returnType = (some .boolean)){k : Nat} (hk : kdC k = 23) {v2 : Int} {v3 : Int} {σ : Mm} {r : Int} (hl : lv_has ls 5 [(0, .ref (q k)), (2, .int (i32 v2)), (3, .int (i32 v3))]) (h : fX1_isClear_69 k v2 v3 σ = some r) : VC p l e rmX1_isClear s m args below meth c D ac q (QIC D ac q xa xv below args s (r, σ)) σ (F0 m 69 ls []) := by
  have h : bindv 0 (fun v4_1 => lX1_isClear_72 k v2 v3 σ (fX1_isClear_132 k σ) 400 v4_1) = some r := h
  refine v_iconst C dX1_isClear_69 ?_
  refine v_istore C hl (fun x => [(4, .int (i32 x)), (0, .ref (q k)), (2, .int (i32 v2)), (3, .int (i32 v3))]) dX1_isClear_70 (by decide) (fun _ => rfl) h (fun v4_1 ls hl h => ?_)
  exact wlX1_isClear_72 C hr hk (fun ls hl h => wX1_isClear_132 C hr hk (lv_sub hl [0] rfl) h) _ _ _ (lv_sub hl [1, 2, 3, 0] rfl) h
theorem wX1_isClear_63 (C : CxC p rmX1_isClear s m args meth c D ac q xa xv RX1 cX1_isClear 5) (hr : meth.sig.returnType = (some .boolean)){k : Nat} (hk : kdC k = 23) {v2 : Int} {v3 : Int} {v4 : Int} {c17 : Int → Option (Int)} {σ : Mm} {r : Int} (hc17 : ∀ (v4x : Int) (ls : Array Slot), lv_has ls 5 [(0, .ref (q k)), (2, .int (i32 v2)), (3, .int (i32 v3)), (4, .int (i32 v4x))] → c17 v4x = some r → VC p l e rmX1_isClear s m args below meth c D ac q (QIC D ac q xa xv below args s (r, σ)) σ (F0 m 17 ls [])) (hl : lv_has ls 5 [(0, .ref (q k)), (2, .int (i32 v2)), (3, .int (i32 v3)), (4, .int (i32 v4))]) (h : fX1_isClear_63 k c17 v2 v3 v4 σ = some r) : VC p l e rmX1_isClear s m args below meth c D ac q (QIC D ac q xa xv below args s (r, σ)) σ (F0 m 63 ls []) := by
  have h : bindv (v4 + 1) (fun v4_1 => c17 v4_1) = some r := h
  refine v_iinc C hl (fun x => [(4, .int (i32 x)), (0, .ref (q k)), (2, .int (i32 v2)), (3, .int (i32 v3))]) dX1_isClear_63 3 rfl (by decide) (fun _ => rfl) h (fun v4_1 ls hl h => ?_)
  refine v_goto C (tgt := 17) dX1_isClear_66 rfl ?_
  exact hc17 _ _ (lv_sub hl [1, 2, 3, 0] rfl) h
theorem wX1_isClear_17 (C : CxC p rmX1_isClear s m args meth c D ac q xa xv RX1 cX1_isClear 5) (hr : meth.sig.returnType = (some .boolean)){k : Nat} (hk : kdC k = 23) {v2 : Int} {v3 : Int} {σ : Mm} {v4 : Int} {e17 : Option (Int)} {c17 : Int → Option (Int)} {r : Int} (he17 : ∀ (ls : Array Slot), lv_has ls 5 [(0, .ref (q k)), (2, .int (i32 v2)), (3, .int (i32 v3))] → e17 = some r → VC p l e rmX1_isClear s m args below meth c D ac q (QIC D ac q xa xv below args s (r, σ)) σ (F0 m 69 ls [])) (hc17 : ∀ (v4x : Int) (ls : Array Slot), lv_has ls 5 [(0, .ref (q k)), (2, .int (i32 v2)), (3, .int (i32 v3)), (4, .int (i32 v4x))] → c17 v4x = some r → VC p l e rmX1_isClear s m args below meth c D ac q (QIC D ac q xa xv below args s (r, σ)) σ (F0 m 17 ls [])) (hl : lv_has ls 5 [(0, .ref (q k)), (2, .int (i32 v2)), (3, .int (i32 v3)), (4, .int (i32 v4))]) (h : fX1_isClear_17 k v2 v3 σ e17 c17 v4 = some r) : VC p l e rmX1_isClear s m args below meth c D ac q (QIC D ac q xa xv below args s (r, σ)) σ (F0 m 17 ls []) := by
  have h : cr v4 (cr (σ k 9) ((if v4 < σ k 9 then cr v4 (cr v2 ((if v4 = v2 then fX1_isClear_63 k c17 v2 v3 v4 σ else cr v4 (cr v3 ((if v4 = v3 then fX1_isClear_63 k c17 v2 v3 v4 σ else chk v4 24 (chk v4 24 (bd (fX1_isOn k v2 v3 (σ (k + 1) (v4).toNat) (σ (k + 2) (v4).toNat) σ) (fun x_7 => cr x_7 ((if x_7 = 0 then fX1_isClear_63 k c17 v2 v3 v4 σ else some 0))))))))))) else e17))) = some r := h
  refine v_iload C hl dX1_isClear_17 3 rfl ?_
  refine v_aload_n C hl dX1_isClear_19 rfl 0 rfl ?_
  refine g_X1_9 C hk fl_X1_42 dX1_isClear_20 ?_
  have hz1 := (cr_e h).1
  have h := (cr_e h).2
  have hz2 := (cr_e h).1
  have h := (cr_e h).2
  refine v_icmp_ge C (tgt := 69) hz1 hz2 h dX1_isClear_23 rfl (fun h => ?_) (fun h => ?_)
  · exact he17  _ (lv_sub hl [0, 1, 2] rfl) h
  · refine v_iload C hl dX1_isClear_26 3 rfl ?_
    refine v_iload_n C hl dX1_isClear_28 rfl 1 rfl ?_
    have hz3 := (cr_e h).1
    have h := (cr_e h).2
    have hz4 := (cr_e h).1
    have h := (cr_e h).2
    refine v_icmp_eq C (tgt := 63) hz3 hz4 h dX1_isClear_29 rfl (fun h => ?_) (fun h => ?_)
    · exact wX1_isClear_63 C hr hk hc17 (lv_sub hl [0, 1, 2, 3] rfl) h
    · refine v_iload C hl dX1_isClear_32 3 rfl ?_
      refine v_iload_n C hl dX1_isClear_34 rfl 2 rfl ?_
      have hz5 := (cr_e h).1
      have h := (cr_e h).2
      have hz6 := (cr_e h).1
      have h := (cr_e h).2
      refine v_icmp_eq C (tgt := 63) hz5 hz6 h dX1_isClear_35 rfl (fun h => ?_) (fun h => ?_)
      · exact wX1_isClear_63 C hr hk hc17 (lv_sub hl [0, 1, 2, 3] rfl) h
      · refine v_aload_n C hl dX1_isClear_38 rfl 0 rfl ?_
        refine v_iload_n C hl dX1_isClear_39 rfl 1 rfl ?_
        refine v_iload_n C hl dX1_isClear_40 rfl 2 rfl ?_
        refine v_aload_n C hl dX1_isClear_41 rfl 0 rfl ?_
        refine g_X1_0 C hk fl_X1_9 dX1_isClear_42 ?_
        refine v_iload C hl dX1_isClear_45 3 rfl ?_
        refine alC8 C (kfC23_0 hk) h dX1_isClear_47 (fun h => ?_)
        refine v_aload_n C hl dX1_isClear_48 rfl 0 rfl ?_
        refine g_X1_1 C hk fl_X1_15 dX1_isClear_49 ?_
        refine v_iload C hl dX1_isClear_52 3 rfl ?_
        refine alC8 C (kfC23_1 hk) h dX1_isClear_54 (fun h => ?_)
        obtain ⟨x_7, hv7, h⟩ := bd_e h
        refine v_callVI C k (klC hk) rfl (ckC23 hk _) rfl [.int (i32 v2), .int (i32 v3), .int (i32 (σ (k + 1) (v4).toNat)), .int (i32 (σ (k + 2) (v4).toNat))] (mX1_isOn C.2.2.2.2.1 hk hv7) cd_X1_isOn ic_X1 im_X1_isOn se_X1_isOn ml_X1_91 yk_X1_isOn ⟨rfl, rfl, by decide, by decide⟩ rfl hl.1 (rest := []) rfl (Nat.le_of_ble_eq_true rfl) dX1_isClear_55 ?_
        have hz8 := (cr_e h).1
        have h := (cr_e h).2
        refine v_if_eq C (tgt := 63) hz8 h dX1_isClear_58 rfl (fun h => ?_) (fun h => ?_)
        · exact wX1_isClear_63 C hr hk hc17 (lv_sub hl [0, 1, 2, 3] rfl) h
        · refine v_iconst C dX1_isClear_61 ?_
          exact v_zret C hr (Or.inl rfl) (so1 h) dX1_isClear_62
theorem wlX1_isClear_17 (C : CxC p rmX1_isClear s m args meth c D ac q xa xv RX1 cX1_isClear 5) (hr : meth.sig.returnType = (some .boolean)){k : Nat} (hk : kdC k = 23) {v2 : Int} {v3 : Int} {σ : Mm} {e17 : Option (Int)} {r : Int} (he17 : ∀ (ls : Array Slot), lv_has ls 5 [(0, .ref (q k)), (2, .int (i32 v2)), (3, .int (i32 v3))] → e17 = some r → VC p l e rmX1_isClear s m args below meth c D ac q (QIC D ac q xa xv below args s (r, σ)) σ (F0 m 69 ls [])) : ∀ (fu : Nat) (v4 : Int) (ls : Array Slot) (hl : lv_has ls 5 [(0, .ref (q k)), (2, .int (i32 v2)), (3, .int (i32 v3)), (4, .int (i32 v4))]) (h : lX1_isClear_17 k v2 v3 σ e17 fu v4 = some r), VC p l e rmX1_isClear s m args below meth c D ac q (QIC D ac q xa xv below args s (r, σ)) σ (F0 m 17 ls []) := by
  intro fu
  induction fu with
  | zero =>
    intro v4 ls hl h
    have h : none = some r := h
    cases h
  | succ fu ih =>
    intro v4 ls hl h
    exact wX1_isClear_17 C hr hk he17 (fun v4 ls hl h => ih v4 ls hl h) hl h
theorem mX1_isClear (hq : QI 175 q) {k : Nat} {v1 : Int} (hk : kdC k = 23) {σ : Mm} {r : Int} (h : fX1_isClear k v1 σ = some r) : MIC l D ac q xa xv yX1_isClear cX1_isClear 5 (some .boolean) rmX1_isClear [.ref (q k), .int (i32 v1)] σ (r, σ) := by
  refine MI.of hq XC_M (by decide) (Nat.le_of_ble_eq_true rfl) (fun p e s m below meth c ls C hr hl => ?_)
  have hl : lv_has ls 5 [(0, .ref (q k)), (1, .int (i32 v1))] := hl
  have h : chk v1 60 (bindv (σ (k + 6) (v1).toNat) (fun v2_1 => chk v1 60 (bindv (σ (k + 7) (v1).toNat) (fun v3_2 => bindv 0 (fun v4_3 => lX1_isClear_17 k v2_1 v3_2 σ (fX1_isClear_69 k v2_1 v3_2 σ) 400 v4_3))))) = some r := h
  refine v_aload_n C hl dX1_isClear_0 rfl 0 rfl ?_
  refine g_X1_5 C hk fl_X1_30 dX1_isClear_1 ?_
  refine v_iload_n C hl dX1_isClear_4 rfl 1 rfl ?_
  refine alC7 C (kfC23_5 hk) h dX1_isClear_5 (fun h => ?_)
  refine v_istore_n C hl (fun x => [(2, .int (i32 x)), (0, .ref (q k)), (1, .int (i32 v1))]) dX1_isClear_6 rfl (by decide) (fun _ => rfl) h (fun v2_1 ls hl h => ?_)
  refine v_aload_n C hl dX1_isClear_7 rfl 1 rfl ?_
  refine g_X1_6 C hk fl_X1_33 dX1_isClear_8 ?_
  refine v_iload_n C hl dX1_isClear_11 rfl 2 rfl ?_
  refine alC7 C (kfC23_6 hk) h dX1_isClear_12 (fun h => ?_)
  refine v_istore_n C hl (fun x => [(3, .int (i32 x)), (2, .int (i32 v2_1)), (0, .ref (q k)), (1, .int (i32 v1))]) dX1_isClear_13 rfl (by decide) (fun _ => rfl) h (fun v3_2 ls hl h => ?_)
  refine v_iconst C dX1_isClear_14 ?_
  refine v_istore C hl (fun x => [(4, .int (i32 x)), (3, .int (i32 v3_2)), (2, .int (i32 v2_1)), (0, .ref (q k)), (1, .int (i32 v1))]) dX1_isClear_15 (by decide) (fun _ => rfl) h (fun v4_3 ls hl h => ?_)
  exact wlX1_isClear_17 C hr hk (fun ls hl h => wX1_isClear_69 C hr hk (lv_sub hl [0, 1, 2] rfl) h) _ _ _ (lv_sub hl [3, 2, 1, 0] rfl) h
end
section
variable {l : Launch} {D : va_G} {ac : Nat → ClassId} {q xa xv : Nat → Nat} {p : Program} {e : Env} {s : State} {m : MethodId} {args : Array Value} {below : List Frame} {meth : Method} {c : Code} {ls : Array Slot}
theorem dX1_isFairAround_0 : decode cX1_isFairAround 0 = .ok (.iconst 0, 1) := by decide +kernel
theorem dX1_isFairAround_1 : decode cX1_isFairAround 1 = .ok (.istore_n 2, 1) := by decide +kernel
theorem dX1_isFairAround_2 : decode cX1_isFairAround 2 = .ok (.iload_n 2, 1) := by decide +kernel
theorem dX1_isFairAround_3 : decode cX1_isFairAround 3 = .ok (.aload_n 0, 1) := by decide +kernel
theorem dX1_isFairAround_4 : decode cX1_isFairAround 4 = .ok (.getfield 42, 3) := by decide +kernel
theorem dX1_isFairAround_7 : decode cX1_isFairAround 7 = .ok (.if_icmp .ge 46, 3) := by decide +kernel
theorem dX1_isFairAround_10 : decode cX1_isFairAround 10 = .ok (.iload_n 2, 1) := by decide +kernel
theorem dX1_isFairAround_11 : decode cX1_isFairAround 11 = .ok (.iload_n 1, 1) := by decide +kernel
theorem dX1_isFairAround_12 : decode cX1_isFairAround 12 = .ok (.if_icmp .eq 35, 3) := by decide +kernel
theorem dX1_isFairAround_15 : decode cX1_isFairAround 15 = .ok (.aload_n 0, 1) := by decide +kernel
theorem dX1_isFairAround_16 : decode cX1_isFairAround 16 = .ok (.getfield 9, 3) := by decide +kernel
theorem dX1_isFairAround_19 : decode cX1_isFairAround 19 = .ok (.iload_n 2, 1) := by decide +kernel
theorem dX1_isFairAround_20 : decode cX1_isFairAround 20 = .ok (.iaload, 1) := by decide +kernel
theorem dX1_isFairAround_21 : decode cX1_isFairAround 21 = .ok (.aload_n 0, 1) := by decide +kernel
theorem dX1_isFairAround_22 : decode cX1_isFairAround 22 = .ok (.getfield 9, 3) := by decide +kernel
theorem dX1_isFairAround_25 : decode cX1_isFairAround 25 = .ok (.iload_n 1, 1) := by decide +kernel
theorem dX1_isFairAround_26 : decode cX1_isFairAround 26 = .ok (.iaload, 1) := by decide +kernel
theorem dX1_isFairAround_27 : decode cX1_isFairAround 27 = .ok (.if_icmp .ne 20, 3) := by decide +kernel
theorem dX1_isFairAround_30 : decode cX1_isFairAround 30 = .ok (.aload_n 0, 1) := by decide +kernel
theorem dX1_isFairAround_31 : decode cX1_isFairAround 31 = .ok (.getfield 15, 3) := by decide +kernel
theorem dX1_isFairAround_34 : decode cX1_isFairAround 34 = .ok (.iload_n 2, 1) := by decide +kernel
theorem dX1_isFairAround_35 : decode cX1_isFairAround 35 = .ok (.iaload, 1) := by decide +kernel
theorem dX1_isFairAround_36 : decode cX1_isFairAround 36 = .ok (.aload_n 0, 1) := by decide +kernel
theorem dX1_isFairAround_37 : decode cX1_isFairAround 37 = .ok (.getfield 15, 3) := by decide +kernel
theorem dX1_isFairAround_40 : decode cX1_isFairAround 40 = .ok (.iload_n 1, 1) := by decide +kernel
theorem dX1_isFairAround_41 : decode cX1_isFairAround 41 = .ok (.iaload, 1) := by decide +kernel
theorem dX1_isFairAround_42 : decode cX1_isFairAround 42 = .ok (.if_icmp .ne 5, 3) := by decide +kernel
theorem dX1_isFairAround_45 : decode cX1_isFairAround 45 = .ok (.iconst 0, 1) := by decide +kernel
theorem dX1_isFairAround_46 : decode cX1_isFairAround 46 = .ok (.ireturn, 1) := by decide +kernel
theorem dX1_isFairAround_47 : decode cX1_isFairAround 47 = .ok (.iinc 2 1, 3) := by decide +kernel
theorem dX1_isFairAround_50 : decode cX1_isFairAround 50 = .ok (.goto (-48), 3) := by decide +kernel
theorem dX1_isFairAround_53 : decode cX1_isFairAround 53 = .ok (.iconst 0, 1) := by decide +kernel
theorem dX1_isFairAround_54 : decode cX1_isFairAround 54 = .ok (.istore_n 2, 1) := by decide +kernel
theorem dX1_isFairAround_55 : decode cX1_isFairAround 55 = .ok (.iload_n 2, 1) := by decide +kernel
theorem dX1_isFairAround_56 : decode cX1_isFairAround 56 = .ok (.aload_n 0, 1) := by decide +kernel
theorem dX1_isFairAround_57 : decode cX1_isFairAround 57 = .ok (.getfield 49, 3) := by decide +kernel
theorem dX1_isFairAround_60 : decode cX1_isFairAround 60 = .ok (.if_icmp .ge 62, 3) := by decide +kernel
theorem dX1_isFairAround_63 : decode cX1_isFairAround 63 = .ok (.aload_n 0, 1) := by decide +kernel
theorem dX1_isFairAround_64 : decode cX1_isFairAround 64 = .ok (.iload_n 2, 1) := by decide +kernel
theorem dX1_isFairAround_65 : decode cX1_isFairAround 65 = .ok (.iload_n 1, 1) := by decide +kernel
theorem dX1_isFairAround_66 : decode cX1_isFairAround 66 = .ok (.invokevirtual 84, 3) := by decide +kernel
theorem dX1_isFairAround_69 : decode cX1_isFairAround 69 = .ok (.ifCond .eq 14, 3) := by decide +kernel
theorem dX1_isFairAround_72 : decode cX1_isFairAround 72 = .ok (.aload_n 0, 1) := by decide +kernel
theorem dX1_isFairAround_73 : decode cX1_isFairAround 73 = .ok (.iload_n 2, 1) := by decide +kernel
theorem dX1_isFairAround_74 : decode cX1_isFairAround 74 = .ok (.invokevirtual 88, 3) := by decide +kernel
theorem dX1_isFairAround_77 : decode cX1_isFairAround 77 = .ok (.ifCond .ne 39, 3) := by decide +kernel
theorem dX1_isFairAround_80 : decode cX1_isFairAround 80 = .ok (.goto 34, 3) := by decide +kernel
theorem dX1_isFairAround_83 : decode cX1_isFairAround 83 = .ok (.aload_n 0, 1) := by decide +kernel
theorem dX1_isFairAround_84 : decode cX1_isFairAround 84 = .ok (.aload_n 0, 1) := by decide +kernel
theorem dX1_isFairAround_85 : decode cX1_isFairAround 85 = .ok (.getfield 30, 3) := by decide +kernel
theorem dX1_isFairAround_88 : decode cX1_isFairAround 88 = .ok (.iload_n 2, 1) := by decide +kernel
theorem dX1_isFairAround_89 : decode cX1_isFairAround 89 = .ok (.iaload, 1) := by decide +kernel
theorem dX1_isFairAround_90 : decode cX1_isFairAround 90 = .ok (.aload_n 0, 1) := by decide +kernel
theorem dX1_isFairAround_91 : decode cX1_isFairAround 91 = .ok (.getfield 33, 3) := by decide +kernel
theorem dX1_isFairAround_94 : decode cX1_isFairAround 94 = .ok (.iload_n 2, 1) := by decide +kernel
theorem dX1_isFairAround_95 : decode cX1_isFairAround 95 = .ok (.iaload, 1) := by decide +kernel
theorem dX1_isFairAround_96 : decode cX1_isFairAround 96 = .ok (.aload_n 0, 1) := by decide +kernel
theorem dX1_isFairAround_97 : decode cX1_isFairAround 97 = .ok (.getfield 9, 3) := by decide +kernel
theorem dX1_isFairAround_100 : decode cX1_isFairAround 100 = .ok (.iload_n 1, 1) := by decide +kernel
theorem dX1_isFairAround_101 : decode cX1_isFairAround 101 = .ok (.iaload, 1) := by decide +kernel
theorem dX1_isFairAround_102 : decode cX1_isFairAround 102 = .ok (.aload_n 0, 1) := by decide +kernel
theorem dX1_isFairAround_103 : decode cX1_isFairAround 103 = .ok (.getfield 15, 3) := by decide +kernel
theorem dX1_isFairAround_106 : decode cX1_isFairAround 106 = .ok (.iload_n 1, 1) := by decide +kernel
theorem dX1_isFairAround_107 : decode cX1_isFairAround 107 = .ok (.iaload, 1) := by decide +kernel
theorem dX1_isFairAround_108 : decode cX1_isFairAround 108 = .ok (.invokevirtual 91, 3) := by decide +kernel
theorem dX1_isFairAround_111 : decode cX1_isFairAround 111 = .ok (.ifCond .eq 5, 3) := by decide +kernel
theorem dX1_isFairAround_114 : decode cX1_isFairAround 114 = .ok (.iconst 0, 1) := by decide +kernel
theorem dX1_isFairAround_115 : decode cX1_isFairAround 115 = .ok (.ireturn, 1) := by decide +kernel
theorem dX1_isFairAround_116 : decode cX1_isFairAround 116 = .ok (.iinc 2 1, 3) := by decide +kernel
theorem dX1_isFairAround_119 : decode cX1_isFairAround 119 = .ok (.goto (-64), 3) := by decide +kernel
theorem dX1_isFairAround_122 : decode cX1_isFairAround 122 = .ok (.iconst 1, 1) := by decide +kernel
theorem dX1_isFairAround_123 : decode cX1_isFairAround 123 = .ok (.ireturn, 1) := by decide +kernel
theorem wX1_isFairAround_122 (C : CxC p rmX1_isFairAround s m args meth c D ac q xa xv RX1 cX1_isFairAround 3) (hr : meth.sig.returnType = (some .boolean)){k : Nat} (hk : kdC k = 23) {σ : Mm} {r : Int} (hl : lv_has ls 3 [(0, .ref (q k))]) (h : fX1_isFairAround_122 k σ = some r) : VC p l e rmX1_isFairAround s m args below meth c D ac q (QIC D ac q xa xv below args s (r, σ)) σ (F0 m 122 ls []) := by
  have h : some 1 = some r := h
  refine v_iconst C dX1_isFairAround_122 ?_
  exact v_zret C hr (Or.inr rfl) (so1 h) dX1_isFairAround_123
theorem wX1_isFairAround_116 (C : CxC p rmX1_isFairAround s m args meth c D ac q xa xv RX1 cX1_isFairAround 3) (hr : meth.sig.returnType = (some .boolean)){k : Nat} (hk : kdC k = 23) {v1 : Int} {v2 : Int} {c55 : Int → Option (Int)} {σ : Mm} {r : Int} (hc55 : ∀ (v2x : Int) (ls : Array Slot), lv_has ls 3 [(0, .ref (q k)), (1, .int (i32 v1)), (2, .int (i32 v2x))] → c55 v2x = some r → VC p l e rmX1_isFairAround s m args below meth c D ac q (QIC D ac q xa xv below args s (r, σ)) σ (F0 m 55 ls [])) (hl : lv_has ls 3 [(0, .ref (q k)), (1, .int (i32 v1)), (2, .int (i32 v2))]) (h : fX1_isFairAround_116 k c55 v1 v2 σ = some r) : VC p l e rmX1_isFairAround s m args below meth c D ac q (QIC D ac q xa xv below args s (r, σ)) σ (F0 m 116 ls []) := by
  have h : bindv (v2 + 1) (fun v2_1 => c55 v2_1) = some r := h
  refine v_iinc C hl (fun x => [(2, .int (i32 x)), (0, .ref (q k)), (1, .int (i32 v1))]) dX1_isFairAround_116 2 rfl (by decide) (fun _ => rfl) h (fun v2_1 ls hl h => ?_)
  refine v_goto C (tgt := 55) dX1_isFairAround_119 rfl ?_
  exact hc55 _ _ (lv_sub hl [1, 2, 0] rfl) h
theorem wX1_isFairAround_114 (C : CxC p rmX1_isFairAround s m args meth c D ac q xa xv RX1 cX1_isFairAround 3) (hr : meth.sig.returnType = (some .boolean)){k : Nat} (hk : kdC k = 23) {σ : Mm} {r : Int} (hl : lv_has ls 3 [(0, .ref (q k))]) (h : fX1_isFairAround_114 k σ = some r) : VC p l e rmX1_isFairAround s m args below meth c D ac q (QIC D ac q xa xv below args s (r, σ)) σ (F0 m 114 ls []) := by
  have h : some 0 = some r := h
  refine v_iconst C dX1_isFairAround_114 ?_
  exact v_zret C hr (Or.inl rfl) (so1 h) dX1_isFairAround_115
theorem wX1_isFairAround_55 (C : CxC p rmX1_isFairAround s m args meth c D ac q xa xv RX1 cX1_isFairAround 3) (hr : meth.sig.returnType = (some .boolean)){k : Nat} (hk : kdC k = 23) {v1 : Int} {σ : Mm} {v2 : Int} {e55 : Option (Int)} {c55 : Int → Option (Int)} {r : Int} (he55 : ∀ (ls : Array Slot), lv_has ls 3 [(0, .ref (q k))] → e55 = some r → VC p l e rmX1_isFairAround s m args below meth c D ac q (QIC D ac q xa xv below args s (r, σ)) σ (F0 m 122 ls [])) (hc55 : ∀ (v2x : Int) (ls : Array Slot), lv_has ls 3 [(0, .ref (q k)), (1, .int (i32 v1)), (2, .int (i32 v2x))] → c55 v2x = some r → VC p l e rmX1_isFairAround s m args below meth c D ac q (QIC D ac q xa xv below args s (r, σ)) σ (F0 m 55 ls [])) (hl : lv_has ls 3 [(0, .ref (q k)), (1, .int (i32 v1)), (2, .int (i32 v2))]) (h : fX1_isFairAround_55 k v1 σ e55 c55 v2 = some r) : VC p l e rmX1_isFairAround s m args below meth c D ac q (QIC D ac q xa xv below args s (r, σ)) σ (F0 m 55 ls []) := by
  have h : cr v2 (cr (σ k 11) ((if v2 < σ k 11 then bd (fX1_ends k v2 v1 σ) (fun x_3 => cr x_3 ((if x_3 = 0 then chk v2 60 (chk v2 60 (chk v1 24 (chk v1 24 (bd (fX1_isOn k (σ (k + 6) (v2).toNat) (σ (k + 7) (v2).toNat) (σ (k + 1) (v1).toNat) (σ (k + 2) (v1).toNat) σ) (fun x_5 => cr x_5 ((if x_5 = 0 then fX1_isFairAround_116 k c55 v1 v2 σ else fX1_isFairAround_114 k σ))))))) else bd (fX1_isClear k v2 σ) (fun x_7 => cr x_7 ((if x_7 = 0 then fX1_isFairAround_114 k σ else fX1_isFairAround_116 k c55 v1 v2 σ)))))) else e55))) = some r := h
  refine v_iload_n C hl dX1_isFairAround_55 rfl 2 rfl ?_
  refine v_aload_n C hl dX1_isFairAround_56 rfl 0 rfl ?_
  refine g_X1_11 C hk fl_X1_49 dX1_isFairAround_57 ?_
  have hz1 := (cr_e h).1
  have h := (cr_e h).2
  have hz2 := (cr_e h).1
  have h := (cr_e h).2
  refine v_icmp_ge C (tgt := 122) hz1 hz2 h dX1_isFairAround_60 rfl (fun h => ?_) (fun h => ?_)
  · exact he55  _ (lv_sub hl [0] rfl) h
  · refine v_aload_n C hl dX1_isFairAround_63 rfl 0 rfl ?_
    refine v_iload_n C hl dX1_isFairAround_64 rfl 2 rfl ?_
    refine v_iload_n C hl dX1_isFairAround_65 rfl 1 rfl ?_
    obtain ⟨x_3, hv3, h⟩ := bd_e h
    refine v_callVI C k (klC hk) rfl (ckC23 hk _) rfl [.int (i32 v2), .int (i32 v1)] (mX1_ends C.2.2.2.2.1 hk hv3) cd_X1_ends ic_X1 im_X1_ends se_X1_ends ml_X1_84 yk_X1_ends ⟨rfl, rfl, by decide, by decide⟩ rfl hl.1 (rest := []) rfl (Nat.le_of_ble_eq_true rfl) dX1_isFairAround_66 ?_
    have hz4 := (cr_e h).1
    have h := (cr_e h).2
    refine v_if_eq C (tgt := 83) hz4 h dX1_isFairAround_69 rfl (fun h => ?_) (fun h => ?_)
    · refine v_aload_n C hl dX1_isFairAround_83 rfl 0 rfl ?_
      refine v_aload_n C hl dX1_isFairAround_84 rfl 0 rfl ?_
      refine g_X1_5 C hk fl_X1_30 dX1_isFairAround_85 ?_
      refine v_iload_n C hl dX1_isFairAround_88 rfl 2 rfl ?_
      refine alC7 C (kfC23_5 hk) h dX1_isFairAround_89 (fun h => ?_)
      refine v_aload_n C hl dX1_isFairAround_90 rfl 0 rfl ?_
      refine g_X1_6 C hk fl_X1_33 dX1_isFairAround_91 ?_
      refine v_iload_n C hl dX1_isFairAround_94 rfl 2 rfl ?_
      refine alC7 C (kfC23_6 hk) h dX1_isFairAround_95 (fun h => ?_)
      refine v_aload_n C hl dX1_isFairAround_96 rfl 0 rfl ?_
      refine g_X1_0 C hk fl_X1_9 dX1_isFairAround_97 ?_
      refine v_iload_n C hl dX1_isFairAround_100 rfl 1 rfl ?_
      refine alC8 C (kfC23_0 hk) h dX1_isFairAround_101 (fun h => ?_)
      refine v_aload_n C hl dX1_isFairAround_102 rfl 0 rfl ?_
      refine g_X1_1 C hk fl_X1_15 dX1_isFairAround_103 ?_
      refine v_iload_n C hl dX1_isFairAround_106 rfl 1 rfl ?_
      refine alC8 C (kfC23_1 hk) h dX1_isFairAround_107 (fun h => ?_)
      obtain ⟨x_5, hv5, h⟩ := bd_e h
      refine v_callVI C k (klC hk) rfl (ckC23 hk _) rfl [.int (i32 (σ (k + 6) (v2).toNat)), .int (i32 (σ (k + 7) (v2).toNat)), .int (i32 (σ (k + 1) (v1).toNat)), .int (i32 (σ (k + 2) (v1).toNat))] (mX1_isOn C.2.2.2.2.1 hk hv5) cd_X1_isOn ic_X1 im_X1_isOn se_X1_isOn ml_X1_91 yk_X1_isOn ⟨rfl, rfl, by decide, by decide⟩ rfl hl.1 (rest := []) rfl (Nat.le_of_ble_eq_true rfl) dX1_isFairAround_108 ?_
      have hz6 := (cr_e h).1
      have h := (cr_e h).2
      refine v_if_eq C (tgt := 116) hz6 h dX1_isFairAround_111 rfl (fun h => ?_) (fun h => ?_)
      · exact wX1_isFairAround_116 C hr hk hc55 (lv_sub hl [0, 1, 2] rfl) h
      · exact wX1_isFairAround_114 C hr hk (lv_sub hl [0] rfl) h
    · refine v_aload_n C hl dX1_isFairAround_72 rfl 0 rfl ?_
      refine v_iload_n C hl dX1_isFairAround_73 rfl 2 rfl ?_
      obtain ⟨x_7, hv7, h⟩ := bd_e h
      refine v_callVI C k (klC hk) rfl (ckC23 hk _) rfl [.int (i32 v2)] (mX1_isClear C.2.2.2.2.1 hk hv7) cd_X1_isClear ic_X1 im_X1_isClear se_X1_isClear ml_X1_88 yk_X1_isClear ⟨rfl, rfl, by decide, by decide⟩ rfl hl.1 (rest := []) rfl (Nat.le_of_ble_eq_true rfl) dX1_isFairAround_74 ?_
      have hz8 := (cr_e h).1
      have h := (cr_e h).2
      refine v_if_ne C (tgt := 116) hz8 h dX1_isFairAround_77 rfl (fun h => ?_) (fun h => ?_)
      · exact wX1_isFairAround_116 C hr hk hc55 (lv_sub hl [0, 1, 2] rfl) h
      · refine v_goto C (tgt := 114) dX1_isFairAround_80 rfl ?_
        exact wX1_isFairAround_114 C hr hk (lv_sub hl [0] rfl) h
theorem wlX1_isFairAround_55 (C : CxC p rmX1_isFairAround s m args meth c D ac q xa xv RX1 cX1_isFairAround 3) (hr : meth.sig.returnType = (some .boolean)){k : Nat} (hk : kdC k = 23) {v1 : Int} {σ : Mm} {e55 : Option (Int)} {r : Int} (he55 : ∀ (ls : Array Slot), lv_has ls 3 [(0, .ref (q k))] → e55 = some r → VC p l e rmX1_isFairAround s m args below meth c D ac q (QIC D ac q xa xv below args s (r, σ)) σ (F0 m 122 ls [])) : ∀ (fu : Nat) (v2 : Int) (ls : Array Slot) (hl : lv_has ls 3 [(0, .ref (q k)), (1, .int (i32 v1)), (2, .int (i32 v2))]) (h : lX1_isFairAround_55 k v1 σ e55 fu v2 = some r), VC p l e rmX1_isFairAround s m args below meth c D ac q (QIC D ac q xa xv below args s (r, σ)) σ (F0 m 55 ls []) := by
  intro fu
  induction fu with
  | zero =>
    intro v2 ls hl h
    have h : none = some r := h
    cases h
  | succ fu ih =>
    intro v2 ls hl h
    exact wX1_isFairAround_55 C hr hk he55 (fun v2 ls hl h => ih v2 ls hl h) hl h
theorem wX1_isFairAround_53 (C : CxC p rmX1_isFairAround s m args meth c D ac q xa xv RX1 cX1_isFairAround 3) (hr : meth.sig.returnType = (some .boolean)){k : Nat} (hk : kdC k = 23) {v1 : Int} {σ : Mm} {r : Int} (hl : lv_has ls 3 [(0, .ref (q k)), (1, .int (i32 v1))]) (h : fX1_isFairAround_53 k v1 σ = some r) : VC p l e rmX1_isFairAround s m args below meth c D ac q (QIC D ac q xa xv below args s (r, σ)) σ (F0 m 53 ls []) := by
  have h : bindv 0 (fun v2_1 => lX1_isFairAround_55 k v1 σ (fX1_isFairAround_122 k σ) 400 v2_1) = some r := h
  refine v_iconst C dX1_isFairAround_53 ?_
  refine v_istore_n C hl (fun x => [(2, .int (i32 x)), (0, .ref (q k)), (1, .int (i32 v1))]) dX1_isFairAround_54 rfl (by decide) (fun _ => rfl) h (fun v2_1 ls hl h => ?_)
  exact wlX1_isFairAround_55 C hr hk (fun ls hl h => wX1_isFairAround_122 C hr hk (lv_sub hl [0] rfl) h) _ _ _ (lv_sub hl [1, 2, 0] rfl) h
theorem wX1_isFairAround_47 (C : CxC p rmX1_isFairAround s m args meth c D ac q xa xv RX1 cX1_isFairAround 3) (hr : meth.sig.returnType = (some .boolean)){k : Nat} (hk : kdC k = 23) {v1 : Int} {v2 : Int} {c2 : Int → Option (Int)} {σ : Mm} {r : Int} (hc2 : ∀ (v2x : Int) (ls : Array Slot), lv_has ls 3 [(0, .ref (q k)), (1, .int (i32 v1)), (2, .int (i32 v2x))] → c2 v2x = some r → VC p l e rmX1_isFairAround s m args below meth c D ac q (QIC D ac q xa xv below args s (r, σ)) σ (F0 m 2 ls [])) (hl : lv_has ls 3 [(0, .ref (q k)), (1, .int (i32 v1)), (2, .int (i32 v2))]) (h : fX1_isFairAround_47 k c2 v1 v2 σ = some r) : VC p l e rmX1_isFairAround s m args below meth c D ac q (QIC D ac q xa xv below args s (r, σ)) σ (F0 m 47 ls []) := by
  have h : bindv (v2 + 1) (fun v2_1 => c2 v2_1) = some r := h
  refine v_iinc C hl (fun x => [(2, .int (i32 x)), (0, .ref (q k)), (1, .int (i32 v1))]) dX1_isFairAround_47 2 rfl (by decide) (fun _ => rfl) h (fun v2_1 ls hl h => ?_)
  refine v_goto C (tgt := 2) dX1_isFairAround_50 rfl ?_
  exact hc2 _ _ (lv_sub hl [1, 2, 0] rfl) h
theorem wX1_isFairAround_2 (C : CxC p rmX1_isFairAround s m args meth c D ac q xa xv RX1 cX1_isFairAround 3) (hr : meth.sig.returnType = (some .boolean)){k : Nat} (hk : kdC k = 23) {v1 : Int} {σ : Mm} {v2 : Int} {e2 : Option (Int)} {c2 : Int → Option (Int)} {r : Int} (he2 : ∀ (ls : Array Slot), lv_has ls 3 [(0, .ref (q k)), (1, .int (i32 v1))] → e2 = some r → VC p l e rmX1_isFairAround s m args below meth c D ac q (QIC D ac q xa xv below args s (r, σ)) σ (F0 m 53 ls [])) (hc2 : ∀ (v2x : Int) (ls : Array Slot), lv_has ls 3 [(0, .ref (q k)), (1, .int (i32 v1)), (2, .int (i32 v2x))] → c2 v2x = some r → VC p l e rmX1_isFairAround s m args below meth c D ac q (QIC D ac q xa xv below args s (r, σ)) σ (F0 m 2 ls [])) (hl : lv_has ls 3 [(0, .ref (q k)), (1, .int (i32 v1)), (2, .int (i32 v2))]) (h : fX1_isFairAround_2 k v1 σ e2 c2 v2 = some r) : VC p l e rmX1_isFairAround s m args below meth c D ac q (QIC D ac q xa xv below args s (r, σ)) σ (F0 m 2 ls []) := by
  have h : cr v2 (cr (σ k 9) ((if v2 < σ k 9 then cr v2 (cr v1 ((if v2 = v1 then fX1_isFairAround_47 k c2 v1 v2 σ else chk v2 24 (chk v1 24 (cr (σ (k + 1) (v2).toNat) (cr (σ (k + 1) (v1).toNat) ((if σ (k + 1) (v2).toNat = σ (k + 1) (v1).toNat then chk v2 24 (chk v1 24 (cr (σ (k + 2) (v2).toNat) (cr (σ (k + 2) (v1).toNat) ((if σ (k + 2) (v2).toNat = σ (k + 2) (v1).toNat then some 0 else fX1_isFairAround_47 k c2 v1 v2 σ))))) else fX1_isFairAround_47 k c2 v1 v2 σ)))))))) else e2))) = some r := h
  refine v_iload_n C hl dX1_isFairAround_2 rfl 2 rfl ?_
  refine v_aload_n C hl dX1_isFairAround_3 rfl 0 rfl ?_
  refine g_X1_9 C hk fl_X1_42 dX1_isFairAround_4 ?_
  have hz1 := (cr_e h).1
  have h := (cr_e h).2
  have hz2 := (cr_e h).1
  have h := (cr_e h).2
  refine v_icmp_ge C (tgt := 53) hz1 hz2 h dX1_isFairAround_7 rfl (fun h => ?_) (fun h => ?_)
  · exact he2  _ (lv_sub hl [0, 1] rfl) h
  · refine v_iload_n C hl dX1_isFairAround_10 rfl 2 rfl ?_
    refine v_iload_n C hl dX1_isFairAround_11 rfl 1 rfl ?_
    have hz3 := (cr_e h).1
    have h := (cr_e h).2
    have hz4 := (cr_e h).1
    have h := (cr_e h).2
    refine v_icmp_eq C (tgt := 47) hz3 hz4 h dX1_isFairAround_12 rfl (fun h => ?_) (fun h => ?_)
    · exact wX1_isFairAround_47 C hr hk hc2 (lv_sub hl [0, 1, 2] rfl) h
    · refine v_aload_n C hl dX1_isFairAround_15 rfl 0 rfl ?_
      refine g_X1_0 C hk fl_X1_9 dX1_isFairAround_16 ?_
      refine v_iload_n C hl dX1_isFairAround_19 rfl 2 rfl ?_
      refine alC8 C (kfC23_0 hk) h dX1_isFairAround_20 (fun h => ?_)
      refine v_aload_n C hl dX1_isFairAround_21 rfl 0 rfl ?_
      refine g_X1_0 C hk fl_X1_9 dX1_isFairAround_22 ?_
      refine v_iload_n C hl dX1_isFairAround_25 rfl 1 rfl ?_
      refine alC8 C (kfC23_0 hk) h dX1_isFairAround_26 (fun h => ?_)
      have hz5 := (cr_e h).1
      have h := (cr_e h).2
      have hz6 := (cr_e h).1
      have h := (cr_e h).2
      refine v_icmp_ne C (tgt := 47) hz5 hz6 h dX1_isFairAround_27 rfl (fun h => ?_) (fun h => ?_)
      · exact wX1_isFairAround_47 C hr hk hc2 (lv_sub hl [0, 1, 2] rfl) h
      · refine v_aload_n C hl dX1_isFairAround_30 rfl 0 rfl ?_
        refine g_X1_1 C hk fl_X1_15 dX1_isFairAround_31 ?_
        refine v_iload_n C hl dX1_isFairAround_34 rfl 2 rfl ?_
        refine alC8 C (kfC23_1 hk) h dX1_isFairAround_35 (fun h => ?_)
        refine v_aload_n C hl dX1_isFairAround_36 rfl 0 rfl ?_
        refine g_X1_1 C hk fl_X1_15 dX1_isFairAround_37 ?_
        refine v_iload_n C hl dX1_isFairAround_40 rfl 1 rfl ?_
        refine alC8 C (kfC23_1 hk) h dX1_isFairAround_41 (fun h => ?_)
        have hz7 := (cr_e h).1
        have h := (cr_e h).2
        have hz8 := (cr_e h).1
        have h := (cr_e h).2
        refine v_icmp_ne C (tgt := 47) hz7 hz8 h dX1_isFairAround_42 rfl (fun h => ?_) (fun h => ?_)
        · exact wX1_isFairAround_47 C hr hk hc2 (lv_sub hl [0, 1, 2] rfl) h
        · refine v_iconst C dX1_isFairAround_45 ?_
          exact v_zret C hr (Or.inl rfl) (so1 h) dX1_isFairAround_46
theorem wlX1_isFairAround_2 (C : CxC p rmX1_isFairAround s m args meth c D ac q xa xv RX1 cX1_isFairAround 3) (hr : meth.sig.returnType = (some .boolean)){k : Nat} (hk : kdC k = 23) {v1 : Int} {σ : Mm} {e2 : Option (Int)} {r : Int} (he2 : ∀ (ls : Array Slot), lv_has ls 3 [(0, .ref (q k)), (1, .int (i32 v1))] → e2 = some r → VC p l e rmX1_isFairAround s m args below meth c D ac q (QIC D ac q xa xv below args s (r, σ)) σ (F0 m 53 ls [])) : ∀ (fu : Nat) (v2 : Int) (ls : Array Slot) (hl : lv_has ls 3 [(0, .ref (q k)), (1, .int (i32 v1)), (2, .int (i32 v2))]) (h : lX1_isFairAround_2 k v1 σ e2 fu v2 = some r), VC p l e rmX1_isFairAround s m args below meth c D ac q (QIC D ac q xa xv below args s (r, σ)) σ (F0 m 2 ls []) := by
  intro fu
  induction fu with
  | zero =>
    intro v2 ls hl h
    have h : none = some r := h
    cases h
  | succ fu ih =>
    intro v2 ls hl h
    exact wX1_isFairAround_2 C hr hk he2 (fun v2 ls hl h => ih v2 ls hl h) hl h
theorem mX1_isFairAround (hq : QI 175 q) {k : Nat} {v1 : Int} (hk : kdC k = 23) {σ : Mm} {r : Int} (h : fX1_isFairAround k v1 σ = some r) : MIC l D ac q xa xv yX1_isFairAround cX1_isFairAround 3 (some .boolean) rmX1_isFairAround [.ref (q k), .int (i32 v1)] σ (r, σ) := by
  refine MI.of hq XC_M (by decide) (Nat.le_of_ble_eq_true rfl) (fun p e s m below meth c ls C hr hl => ?_)
  have hl : lv_has ls 3 [(0, .ref (q k)), (1, .int (i32 v1))] := hl
  have h : bindv 0 (fun v2_1 => lX1_isFairAround_2 k v1 σ (fX1_isFairAround_53 k v1 σ) 400 v2_1) = some r := h
  refine v_iconst C dX1_isFairAround_0 ?_
  refine v_istore_n C hl (fun x => [(2, .int (i32 x)), (0, .ref (q k)), (1, .int (i32 v1))]) dX1_isFairAround_1 rfl (by decide) (fun _ => rfl) h (fun v2_1 ls hl h => ?_)
  exact wlX1_isFairAround_2 C hr hk (fun ls hl h => wX1_isFairAround_53 C hr hk (lv_sub hl [0, 1] rfl) h) _ _ _ (lv_sub hl [1, 2, 0] rfl) h
end
section
variable {l : Launch} {D : va_G} {ac : Nat → ClassId} {q xa xv : Nat → Nat} {p : Program} {e : Env} {s : State} {m : MethodId} {args : Array Value} {below : List Frame} {meth : Method} {c : Code} {ls : Array Slot}
theorem dX1_isFair_0 : decode cX1_isFair 0 = .ok (.iconst 0, 1) := by decide +kernel
theorem dX1_isFair_1 : decode cX1_isFair 1 = .ok (.istore_n 1, 1) := by decide +kernel
theorem dX1_isFair_2 : decode cX1_isFair 2 = .ok (.iload_n 1, 1) := by decide +kernel
theorem dX1_isFair_3 : decode cX1_isFair 3 = .ok (.aload_n 0, 1) := by decide +kernel
theorem dX1_isFair_4 : decode cX1_isFair 4 = .ok (.getfield 49, 3) := by decide +kernel
theorem dX1_isFair_7 : decode cX1_isFair 7 = .ok (.if_icmp .ge 21, 3) := by decide +kernel
theorem dX1_isFair_10 : decode cX1_isFair 10 = .ok (.aload_n 0, 1) := by decide +kernel
theorem dX1_isFair_11 : decode cX1_isFair 11 = .ok (.getfield 36, 3) := by decide +kernel
theorem dX1_isFair_14 : decode cX1_isFair 14 = .ok (.iload_n 1, 1) := by decide +kernel
theorem dX1_isFair_15 : decode cX1_isFair 15 = .ok (.iaload, 1) := by decide +kernel
theorem dX1_isFair_16 : decode cX1_isFair 16 = .ok (.iconst 2, 1) := by decide +kernel
theorem dX1_isFair_17 : decode cX1_isFair 17 = .ok (.if_icmp .le 5, 3) := by decide +kernel
theorem dX1_isFair_20 : decode cX1_isFair 20 = .ok (.iconst 0, 1) := by decide +kernel
theorem dX1_isFair_21 : decode cX1_isFair 21 = .ok (.ireturn, 1) := by decide +kernel
theorem dX1_isFair_22 : decode cX1_isFair 22 = .ok (.iinc 1 1, 3) := by decide +kernel
theorem dX1_isFair_25 : decode cX1_isFair 25 = .ok (.goto (-23), 3) := by decide +kernel
theorem dX1_isFair_28 : decode cX1_isFair 28 = .ok (.iconst 0, 1) := by decide +kernel
theorem dX1_isFair_29 : decode cX1_isFair 29 = .ok (.istore_n 1, 1) := by decide +kernel
theorem dX1_isFair_30 : decode cX1_isFair 30 = .ok (.iload_n 1, 1) := by decide +kernel
theorem dX1_isFair_31 : decode cX1_isFair 31 = .ok (.aload_n 0, 1) := by decide +kernel
theorem dX1_isFair_32 : decode cX1_isFair 32 = .ok (.getfield 42, 3) := by decide +kernel
theorem dX1_isFair_35 : decode cX1_isFair 35 = .ok (.if_icmp .ge 19, 3) := by decide +kernel
theorem dX1_isFair_38 : decode cX1_isFair 38 = .ok (.aload_n 0, 1) := by decide +kernel
theorem dX1_isFair_39 : decode cX1_isFair 39 = .ok (.iload_n 1, 1) := by decide +kernel
theorem dX1_isFair_40 : decode cX1_isFair 40 = .ok (.invokevirtual 73, 3) := by decide +kernel
theorem dX1_isFair_43 : decode cX1_isFair 43 = .ok (.ifCond .ne 5, 3) := by decide +kernel
theorem dX1_isFair_46 : decode cX1_isFair 46 = .ok (.iconst 0, 1) := by decide +kernel
theorem dX1_isFair_47 : decode cX1_isFair 47 = .ok (.ireturn, 1) := by decide +kernel
theorem dX1_isFair_48 : decode cX1_isFair 48 = .ok (.iinc 1 1, 3) := by decide +kernel
theorem dX1_isFair_51 : decode cX1_isFair 51 = .ok (.goto (-21), 3) := by decide +kernel
theorem dX1_isFair_54 : decode cX1_isFair 54 = .ok (.aload_n 0, 1) := by decide +kernel
theorem dX1_isFair_55 : decode cX1_isFair 55 = .ok (.invokevirtual 76, 3) := by decide +kernel
theorem dX1_isFair_58 : decode cX1_isFair 58 = .ok (.ireturn, 1) := by decide +kernel
theorem wX1_isFair_54 (C : CxC p rmX1_isFair s m args meth c D ac q xa xv RX1 cX1_isFair 2) (hr : meth.sig.returnType = (some .boolean)){k : Nat} (hk : kdC k = 23) {σ : Mm} {r : Int} (hl : lv_has ls 2 [(0, .ref (q k))]) (h : fX1_isFair_54 k σ = some r) : VC p l e rmX1_isFair s m args below meth c D ac q (QIC D ac q xa xv below args s (r, σ)) σ (F0 m 54 ls []) := by
  have h : bd (fX1_areasStand k σ) (fun x_1 => chb x_1 (some x_1)) = some r := h
  refine v_aload_n C hl dX1_isFair_54 rfl 0 rfl ?_
  obtain ⟨x_1, hv1, h⟩ := bd_e h
  refine v_callVI C k (klC hk) rfl (ckC23 hk _) rfl [] (mX1_areasStand C.2.2.2.2.1 hk hv1) cd_X1_areasStand ic_X1 im_X1_areasStand se_X1_areasStand ml_X1_76 yk_X1_areasStand ⟨rfl, rfl, by decide, by decide⟩ rfl hl.1 (rest := []) rfl (Nat.le_of_ble_eq_true rfl) dX1_isFair_55 ?_
  have hz2 := (chb_e h).1
  have h := (chb_e h).2
  exact v_zret C hr hz2 (so1 h) dX1_isFair_58
theorem wX1_isFair_30 (C : CxC p rmX1_isFair s m args meth c D ac q xa xv RX1 cX1_isFair 2) (hr : meth.sig.returnType = (some .boolean)){k : Nat} (hk : kdC k = 23) {σ : Mm} {v1 : Int} {e30 : Option (Int)} {c30 : Int → Option (Int)} {r : Int} (he30 : ∀ (ls : Array Slot), lv_has ls 2 [(0, .ref (q k))] → e30 = some r → VC p l e rmX1_isFair s m args below meth c D ac q (QIC D ac q xa xv below args s (r, σ)) σ (F0 m 54 ls [])) (hc30 : ∀ (v1x : Int) (ls : Array Slot), lv_has ls 2 [(0, .ref (q k)), (1, .int (i32 v1x))] → c30 v1x = some r → VC p l e rmX1_isFair s m args below meth c D ac q (QIC D ac q xa xv below args s (r, σ)) σ (F0 m 30 ls [])) (hl : lv_has ls 2 [(0, .ref (q k)), (1, .int (i32 v1))]) (h : fX1_isFair_30 k σ e30 c30 v1 = some r) : VC p l e rmX1_isFair s m args below meth c D ac q (QIC D ac q xa xv below args s (r, σ)) σ (F0 m 30 ls []) := by
  have h : cr v1 (cr (σ k 9) ((if v1 < σ k 9 then bd (fX1_isFairAround k v1 σ) (fun x_3 => cr x_3 ((if x_3 = 0 then some 0 else bindv (v1 + 1) (fun v1_5 => c30 v1_5)))) else e30))) = some r := h
  refine v_iload_n C hl dX1_isFair_30 rfl 1 rfl ?_
  refine v_aload_n C hl dX1_isFair_31 rfl 0 rfl ?_
  refine g_X1_9 C hk fl_X1_42 dX1_isFair_32 ?_
  have hz1 := (cr_e h).1
  have h := (cr_e h).2
  have hz2 := (cr_e h).1
  have h := (cr_e h).2
  refine v_icmp_ge C (tgt := 54) hz1 hz2 h dX1_isFair_35 rfl (fun h => ?_) (fun h => ?_)
  · exact he30  _ (lv_sub hl [0] rfl) h
  · refine v_aload_n C hl dX1_isFair_38 rfl 0 rfl ?_
    refine v_iload_n C hl dX1_isFair_39 rfl 1 rfl ?_
    obtain ⟨x_3, hv3, h⟩ := bd_e h
    refine v_callVI C k (klC hk) rfl (ckC23 hk _) rfl [.int (i32 v1)] (mX1_isFairAround C.2.2.2.2.1 hk hv3) cd_X1_isFairAround ic_X1 im_X1_isFairAround se_X1_isFairAround ml_X1_73 yk_X1_isFairAround ⟨rfl, rfl, by decide, by decide⟩ rfl hl.1 (rest := []) rfl (Nat.le_of_ble_eq_true rfl) dX1_isFair_40 ?_
    have hz4 := (cr_e h).1
    have h := (cr_e h).2
    refine v_if_ne C (tgt := 48) hz4 h dX1_isFair_43 rfl (fun h => ?_) (fun h => ?_)
    · refine v_iinc C hl (fun x => [(1, .int (i32 x)), (0, .ref (q k))]) dX1_isFair_48 1 rfl (by decide) (fun _ => rfl) h (fun v1_5 ls hl h => ?_)
      refine v_goto C (tgt := 30) dX1_isFair_51 rfl ?_
      exact hc30 _ _ (lv_sub hl [1, 0] rfl) h
    · refine v_iconst C dX1_isFair_46 ?_
      exact v_zret C hr (Or.inl rfl) (so1 h) dX1_isFair_47
theorem wlX1_isFair_30 (C : CxC p rmX1_isFair s m args meth c D ac q xa xv RX1 cX1_isFair 2) (hr : meth.sig.returnType = (some .boolean)){k : Nat} (hk : kdC k = 23) {σ : Mm} {e30 : Option (Int)} {r : Int} (he30 : ∀ (ls : Array Slot), lv_has ls 2 [(0, .ref (q k))] → e30 = some r → VC p l e rmX1_isFair s m args below meth c D ac q (QIC D ac q xa xv below args s (r, σ)) σ (F0 m 54 ls [])) : ∀ (fu : Nat) (v1 : Int) (ls : Array Slot) (hl : lv_has ls 2 [(0, .ref (q k)), (1, .int (i32 v1))]) (h : lX1_isFair_30 k σ e30 fu v1 = some r), VC p l e rmX1_isFair s m args below meth c D ac q (QIC D ac q xa xv below args s (r, σ)) σ (F0 m 30 ls []) := by
  intro fu
  induction fu with
  | zero =>
    intro v1 ls hl h
    have h : none = some r := h
    cases h
  | succ fu ih =>
    intro v1 ls hl h
    exact wX1_isFair_30 C hr hk he30 (fun v1 ls hl h => ih v1 ls hl h) hl h
theorem wX1_isFair_28 (C : CxC p rmX1_isFair s m args meth c D ac q xa xv RX1 cX1_isFair 2) (hr : meth.sig.returnType = (some .boolean)){k : Nat} (hk : kdC k = 23) {σ : Mm} {r : Int} (hl : lv_has ls 2 [(0, .ref (q k))]) (h : fX1_isFair_28 k σ = some r) : VC p l e rmX1_isFair s m args below meth c D ac q (QIC D ac q xa xv below args s (r, σ)) σ (F0 m 28 ls []) := by
  have h : bindv 0 (fun v1_1 => lX1_isFair_30 k σ (fX1_isFair_54 k σ) 400 v1_1) = some r := h
  refine v_iconst C dX1_isFair_28 ?_
  refine v_istore_n C hl (fun x => [(1, .int (i32 x)), (0, .ref (q k))]) dX1_isFair_29 rfl (by decide) (fun _ => rfl) h (fun v1_1 ls hl h => ?_)
  exact wlX1_isFair_30 C hr hk (fun ls hl h => wX1_isFair_54 C hr hk (lv_sub hl [0] rfl) h) _ _ _ (lv_sub hl [1, 0] rfl) h
theorem wX1_isFair_2 (C : CxC p rmX1_isFair s m args meth c D ac q xa xv RX1 cX1_isFair 2) (hr : meth.sig.returnType = (some .boolean)){k : Nat} (hk : kdC k = 23) {σ : Mm} {v1 : Int} {e2 : Option (Int)} {c2 : Int → Option (Int)} {r : Int} (he2 : ∀ (ls : Array Slot), lv_has ls 2 [(0, .ref (q k))] → e2 = some r → VC p l e rmX1_isFair s m args below meth c D ac q (QIC D ac q xa xv below args s (r, σ)) σ (F0 m 28 ls [])) (hc2 : ∀ (v1x : Int) (ls : Array Slot), lv_has ls 2 [(0, .ref (q k)), (1, .int (i32 v1x))] → c2 v1x = some r → VC p l e rmX1_isFair s m args below meth c D ac q (QIC D ac q xa xv below args s (r, σ)) σ (F0 m 2 ls [])) (hl : lv_has ls 2 [(0, .ref (q k)), (1, .int (i32 v1))]) (h : fX1_isFair_2 k σ e2 c2 v1 = some r) : VC p l e rmX1_isFair s m args below meth c D ac q (QIC D ac q xa xv below args s (r, σ)) σ (F0 m 2 ls []) := by
  have h : cr v1 (cr (σ k 11) ((if v1 < σ k 11 then chk v1 60 (cr (σ (k + 8) (v1).toNat) ((if 2 < σ (k + 8) (v1).toNat then some 0 else bindv (v1 + 1) (fun v1_4 => c2 v1_4)))) else e2))) = some r := h
  refine v_iload_n C hl dX1_isFair_2 rfl 1 rfl ?_
  refine v_aload_n C hl dX1_isFair_3 rfl 0 rfl ?_
  refine g_X1_11 C hk fl_X1_49 dX1_isFair_4 ?_
  have hz1 := (cr_e h).1
  have h := (cr_e h).2
  have hz2 := (cr_e h).1
  have h := (cr_e h).2
  refine v_icmp_ge C (tgt := 28) hz1 hz2 h dX1_isFair_7 rfl (fun h => ?_) (fun h => ?_)
  · exact he2  _ (lv_sub hl [0] rfl) h
  · refine v_aload_n C hl dX1_isFair_10 rfl 0 rfl ?_
    refine g_X1_7 C hk fl_X1_36 dX1_isFair_11 ?_
    refine v_iload_n C hl dX1_isFair_14 rfl 1 rfl ?_
    refine alC7 C (kfC23_7 hk) h dX1_isFair_15 (fun h => ?_)
    refine v_iconst C dX1_isFair_16 ?_
    have hz3 := (cr_e h).1
    have h := (cr_e h).2
    refine v_icmp_le C (tgt := 22) hz3 (by decide) h dX1_isFair_17 rfl (fun h => ?_) (fun h => ?_)
    · refine v_iinc C hl (fun x => [(1, .int (i32 x)), (0, .ref (q k))]) dX1_isFair_22 1 rfl (by decide) (fun _ => rfl) h (fun v1_4 ls hl h => ?_)
      refine v_goto C (tgt := 2) dX1_isFair_25 rfl ?_
      exact hc2 _ _ (lv_sub hl [1, 0] rfl) h
    · refine v_iconst C dX1_isFair_20 ?_
      exact v_zret C hr (Or.inl rfl) (so1 h) dX1_isFair_21
theorem wlX1_isFair_2 (C : CxC p rmX1_isFair s m args meth c D ac q xa xv RX1 cX1_isFair 2) (hr : meth.sig.returnType = (some .boolean)){k : Nat} (hk : kdC k = 23) {σ : Mm} {e2 : Option (Int)} {r : Int} (he2 : ∀ (ls : Array Slot), lv_has ls 2 [(0, .ref (q k))] → e2 = some r → VC p l e rmX1_isFair s m args below meth c D ac q (QIC D ac q xa xv below args s (r, σ)) σ (F0 m 28 ls [])) : ∀ (fu : Nat) (v1 : Int) (ls : Array Slot) (hl : lv_has ls 2 [(0, .ref (q k)), (1, .int (i32 v1))]) (h : lX1_isFair_2 k σ e2 fu v1 = some r), VC p l e rmX1_isFair s m args below meth c D ac q (QIC D ac q xa xv below args s (r, σ)) σ (F0 m 2 ls []) := by
  intro fu
  induction fu with
  | zero =>
    intro v1 ls hl h
    have h : none = some r := h
    cases h
  | succ fu ih =>
    intro v1 ls hl h
    exact wX1_isFair_2 C hr hk he2 (fun v1 ls hl h => ih v1 ls hl h) hl h
theorem mX1_isFair (hq : QI 175 q) {k : Nat} (hk : kdC k = 23) {σ : Mm} {r : Int} (h : fX1_isFair k σ = some r) : MIC l D ac q xa xv yX1_isFair cX1_isFair 2 (some .boolean) rmX1_isFair [.ref (q k)] σ (r, σ) := by
  refine MI.of hq XC_M (by decide) (Nat.le_of_ble_eq_true rfl) (fun p e s m below meth c ls C hr hl => ?_)
  have hl : lv_has ls 2 [(0, .ref (q k))] := hl
  have h : bindv 0 (fun v1_1 => lX1_isFair_2 k σ (fX1_isFair_28 k σ) 400 v1_1) = some r := h
  refine v_iconst C dX1_isFair_0 ?_
  refine v_istore_n C hl (fun x => [(1, .int (i32 x)), (0, .ref (q k))]) dX1_isFair_1 rfl (by decide) (fun _ => rfl) h (fun v1_1 ls hl h => ?_)
  exact wlX1_isFair_2 C hr hk (fun ls hl h => wX1_isFair_28 C hr hk (lv_sub hl [0] rfl) h) _ _ _ (lv_sub hl [1, 0] rfl) h
end
section
variable {l : Launch} {D : va_G} {ac : Nat → ClassId} {q xa xv : Nat → Nat} {p : Program} {e : Env} {s : State} {m : MethodId} {args : Array Value} {below : List Frame} {meth : Method} {c : Code} {ls : Array Slot}
theorem dX1_isInFrame_0 : decode cX1_isInFrame 0 = .ok (.iload_n 3, 1) := by decide +kernel
theorem dX1_isInFrame_1 : decode cX1_isInFrame 1 = .ok (.iload_n 0, 1) := by decide +kernel
theorem dX1_isInFrame_2 : decode cX1_isInFrame 2 = .ok (.if_icmp .ge 13, 3) := by decide +kernel
theorem dX1_isInFrame_5 : decode cX1_isInFrame 5 = .ok (.iload_n 3, 1) := by decide +kernel
theorem dX1_isInFrame_6 : decode cX1_isInFrame 6 = .ok (.iload_n 1, 1) := by decide +kernel
theorem dX1_isInFrame_7 : decode cX1_isInFrame 7 = .ok (.if_icmp .ge 8, 3) := by decide +kernel
theorem dX1_isInFrame_10 : decode cX1_isInFrame 10 = .ok (.iload_n 3, 1) := by decide +kernel
theorem dX1_isInFrame_11 : decode cX1_isInFrame 11 = .ok (.iload_n 2, 1) := by decide +kernel
theorem dX1_isInFrame_12 : decode cX1_isInFrame 12 = .ok (.if_icmp .lt 22, 3) := by decide +kernel
theorem dX1_isInFrame_15 : decode cX1_isInFrame 15 = .ok (.iload_n 3, 1) := by decide +kernel
theorem dX1_isInFrame_16 : decode cX1_isInFrame 16 = .ok (.iload_n 0, 1) := by decide +kernel
theorem dX1_isInFrame_17 : decode cX1_isInFrame 17 = .ok (.if_icmp .le 13, 3) := by decide +kernel
theorem dX1_isInFrame_20 : decode cX1_isInFrame 20 = .ok (.iload_n 3, 1) := by decide +kernel
theorem dX1_isInFrame_21 : decode cX1_isInFrame 21 = .ok (.iload_n 1, 1) := by decide +kernel
theorem dX1_isInFrame_22 : decode cX1_isInFrame 22 = .ok (.if_icmp .le 8, 3) := by decide +kernel
theorem dX1_isInFrame_25 : decode cX1_isInFrame 25 = .ok (.iload_n 3, 1) := by decide +kernel
theorem dX1_isInFrame_26 : decode cX1_isInFrame 26 = .ok (.iload_n 2, 1) := by decide +kernel
theorem dX1_isInFrame_27 : decode cX1_isInFrame 27 = .ok (.if_icmp .gt 7, 3) := by decide +kernel
theorem dX1_isInFrame_30 : decode cX1_isInFrame 30 = .ok (.iconst 1, 1) := by decide +kernel
theorem dX1_isInFrame_31 : decode cX1_isInFrame 31 = .ok (.goto 4, 3) := by decide +kernel
theorem dX1_isInFrame_34 : decode cX1_isInFrame 34 = .ok (.iconst 0, 1) := by decide +kernel
theorem dX1_isInFrame_35 : decode cX1_isInFrame 35 = .ok (.ireturn, 1) := by decide +kernel
theorem wX1_isInFrame_35 (C : CxC p rmX1_isInFrame s m args meth c D ac q xa xv RX1 cX1_isInFrame 4) (hr : meth.sig.returnType = (some .boolean)) {t0 : Int} {σ : Mm} {r : Int} (hl : lv_has ls 4 []) (h : fX1_isInFrame_35 t0 σ = some r) : VC p l e rmX1_isInFrame s m args below meth c D ac q (QIC D ac q xa xv below args s (r, σ)) σ (F0 m 35 ls [.int (i32 t0)]) := by
  have h : chb t0 (some t0) = some r := h
  have hz1 := (chb_e h).1
  have h := (chb_e h).2
  exact v_zret C hr hz1 (so1 h) dX1_isInFrame_35
theorem wX1_isInFrame_34 (C : CxC p rmX1_isInFrame s m args meth c D ac q xa xv RX1 cX1_isInFrame 4) (hr : meth.sig.returnType = (some .boolean)) {σ : Mm} {r : Int} (hl : lv_has ls 4 []) (h : fX1_isInFrame_34 σ = some r) : VC p l e rmX1_isInFrame s m args below meth c D ac q (QIC D ac q xa xv below args s (r, σ)) σ (F0 m 34 ls []) := by
  have h : fX1_isInFrame_35 0 σ = some r := h
  refine v_iconst C dX1_isInFrame_34 ?_
  exact wX1_isInFrame_35 C hr (lv_sub hl [] rfl) h
theorem wX1_isInFrame_30 (C : CxC p rmX1_isInFrame s m args meth c D ac q xa xv RX1 cX1_isInFrame 4) (hr : meth.sig.returnType = (some .boolean)) {σ : Mm} {r : Int} (hl : lv_has ls 4 []) (h : fX1_isInFrame_30 σ = some r) : VC p l e rmX1_isInFrame s m args below meth c D ac q (QIC D ac q xa xv below args s (r, σ)) σ (F0 m 30 ls []) := by
  have h : fX1_isInFrame_35 1 σ = some r := h
  refine v_iconst C dX1_isInFrame_30 ?_
  refine v_goto C (tgt := 35) dX1_isInFrame_31 rfl ?_
  exact wX1_isInFrame_35 C hr (lv_sub hl [] rfl) h
theorem wX1_isInFrame_15 (C : CxC p rmX1_isInFrame s m args meth c D ac q xa xv RX1 cX1_isInFrame 4) (hr : meth.sig.returnType = (some .boolean)) {v0 : Int} {v1 : Int} {v2 : Int} {v3 : Int} {σ : Mm} {r : Int} (hl : lv_has ls 4 [(0, .int (i32 v0)), (1, .int (i32 v1)), (2, .int (i32 v2)), (3, .int (i32 v3))]) (h : fX1_isInFrame_15 v0 v1 v2 v3 σ = some r) : VC p l e rmX1_isInFrame s m args below meth c D ac q (QIC D ac q xa xv below args s (r, σ)) σ (F0 m 15 ls []) := by
  have h : cr v3 (cr v0 ((if v0 < v3 then cr v3 (cr v1 ((if v1 < v3 then cr v3 (cr v2 ((if v2 < v3 then fX1_isInFrame_34 σ else fX1_isInFrame_30 σ))) else fX1_isInFrame_30 σ))) else fX1_isInFrame_30 σ))) = some r := h
  refine v_iload_n C hl dX1_isInFrame_15 rfl 3 rfl ?_
  refine v_iload_n C hl dX1_isInFrame_16 rfl 0 rfl ?_
  have hz1 := (cr_e h).1
  have h := (cr_e h).2
  have hz2 := (cr_e h).1
  have h := (cr_e h).2
  refine v_icmp_le C (tgt := 30) hz1 hz2 h dX1_isInFrame_17 rfl (fun h => ?_) (fun h => ?_)
  · exact wX1_isInFrame_30 C hr (lv_sub hl [] rfl) h
  · refine v_iload_n C hl dX1_isInFrame_20 rfl 3 rfl ?_
    refine v_iload_n C hl dX1_isInFrame_21 rfl 1 rfl ?_
    have hz3 := (cr_e h).1
    have h := (cr_e h).2
    have hz4 := (cr_e h).1
    have h := (cr_e h).2
    refine v_icmp_le C (tgt := 30) hz3 hz4 h dX1_isInFrame_22 rfl (fun h => ?_) (fun h => ?_)
    · exact wX1_isInFrame_30 C hr (lv_sub hl [] rfl) h
    · refine v_iload_n C hl dX1_isInFrame_25 rfl 3 rfl ?_
      refine v_iload_n C hl dX1_isInFrame_26 rfl 2 rfl ?_
      have hz5 := (cr_e h).1
      have h := (cr_e h).2
      have hz6 := (cr_e h).1
      have h := (cr_e h).2
      refine v_icmp_gt C (tgt := 34) hz5 hz6 h dX1_isInFrame_27 rfl (fun h => ?_) (fun h => ?_)
      · exact wX1_isInFrame_34 C hr (lv_sub hl [] rfl) h
      · exact wX1_isInFrame_30 C hr (lv_sub hl [] rfl) h
theorem mX1_isInFrame (hq : QI 175 q) {v0 : Int} {v1 : Int} {v2 : Int} {v3 : Int} {σ : Mm} {r : Int} (h : fX1_isInFrame v0 v1 v2 v3 σ = some r) : MIC l D ac q xa xv yX1_isInFrame cX1_isInFrame 4 (some .boolean) rmX1_isInFrame [.int (i32 v0), .int (i32 v1), .int (i32 v2), .int (i32 v3)] σ (r, σ) := by
  refine MI.of hq XC_M (by decide) (Nat.le_of_ble_eq_true rfl) (fun p e s m below meth c ls C hr hl => ?_)
  have hl : lv_has ls 4 [(0, .int (i32 v0)), (1, .int (i32 v1)), (2, .int (i32 v2)), (3, .int (i32 v3))] := hl
  have h : cr v3 (cr v0 ((if v3 < v0 then cr v3 (cr v1 ((if v3 < v1 then cr v3 (cr v2 ((if v3 < v2 then fX1_isInFrame_34 σ else fX1_isInFrame_15 v0 v1 v2 v3 σ))) else fX1_isInFrame_15 v0 v1 v2 v3 σ))) else fX1_isInFrame_15 v0 v1 v2 v3 σ))) = some r := h
  refine v_iload_n C hl dX1_isInFrame_0 rfl 3 rfl ?_
  refine v_iload_n C hl dX1_isInFrame_1 rfl 0 rfl ?_
  have hz1 := (cr_e h).1
  have h := (cr_e h).2
  have hz2 := (cr_e h).1
  have h := (cr_e h).2
  refine v_icmp_ge C (tgt := 15) hz1 hz2 h dX1_isInFrame_2 rfl (fun h => ?_) (fun h => ?_)
  · exact wX1_isInFrame_15 C hr (lv_sub hl [0, 1, 2, 3] rfl) h
  · refine v_iload_n C hl dX1_isInFrame_5 rfl 3 rfl ?_
    refine v_iload_n C hl dX1_isInFrame_6 rfl 1 rfl ?_
    have hz3 := (cr_e h).1
    have h := (cr_e h).2
    have hz4 := (cr_e h).1
    have h := (cr_e h).2
    refine v_icmp_ge C (tgt := 15) hz3 hz4 h dX1_isInFrame_7 rfl (fun h => ?_) (fun h => ?_)
    · exact wX1_isInFrame_15 C hr (lv_sub hl [0, 1, 2, 3] rfl) h
    · refine v_iload_n C hl dX1_isInFrame_10 rfl 3 rfl ?_
      refine v_iload_n C hl dX1_isInFrame_11 rfl 2 rfl ?_
      have hz5 := (cr_e h).1
      have h := (cr_e h).2
      have hz6 := (cr_e h).1
      have h := (cr_e h).2
      refine v_icmp_lt C (tgt := 34) hz5 hz6 h dX1_isInFrame_12 rfl (fun h => ?_) (fun h => ?_)
      · exact wX1_isInFrame_34 C hr (lv_sub hl [] rfl) h
      · exact wX1_isInFrame_15 C hr (lv_sub hl [0, 1, 2, 3] rfl) h
end
section
variable {l : Launch} {D : va_G} {ac : Nat → ClassId} {q xa xv : Nat → Nat} {p : Program} {e : Env} {s : State} {m : MethodId} {args : Array Value} {below : List Frame} {meth : Method} {c : Code} {ls : Array Slot}
theorem dX1_isInTriangle_0 : decode cX1_isInTriangle 0 = .ok (.aload_n 0, 1) := by decide +kernel
theorem dX1_isInTriangle_1 : decode cX1_isInTriangle 1 = .ok (.iload_n 1, 1) := by decide +kernel
theorem dX1_isInTriangle_2 : decode cX1_isInTriangle 2 = .ok (.iload_n 2, 1) := by decide +kernel
theorem dX1_isInTriangle_3 : decode cX1_isInTriangle 3 = .ok (.iload 4, 2) := by decide +kernel
theorem dX1_isInTriangle_5 : decode cX1_isInTriangle 5 = .ok (.iload 5, 2) := by decide +kernel
theorem dX1_isInTriangle_7 : decode cX1_isInTriangle 7 = .ok (.invokevirtual 98, 3) := by decide +kernel
theorem dX1_isInTriangle_10 : decode cX1_isInTriangle 10 = .ok (.istore 6, 2) := by decide +kernel
theorem dX1_isInTriangle_12 : decode cX1_isInTriangle 12 = .ok (.aload_n 0, 1) := by decide +kernel
theorem dX1_isInTriangle_13 : decode cX1_isInTriangle 13 = .ok (.iload_n 2, 1) := by decide +kernel
theorem dX1_isInTriangle_14 : decode cX1_isInTriangle 14 = .ok (.iload_n 3, 1) := by decide +kernel
theorem dX1_isInTriangle_15 : decode cX1_isInTriangle 15 = .ok (.iload 4, 2) := by decide +kernel
theorem dX1_isInTriangle_17 : decode cX1_isInTriangle 17 = .ok (.iload 5, 2) := by decide +kernel
theorem dX1_isInTriangle_19 : decode cX1_isInTriangle 19 = .ok (.invokevirtual 98, 3) := by decide +kernel
theorem dX1_isInTriangle_22 : decode cX1_isInTriangle 22 = .ok (.istore 7, 2) := by decide +kernel
theorem dX1_isInTriangle_24 : decode cX1_isInTriangle 24 = .ok (.aload_n 0, 1) := by decide +kernel
theorem dX1_isInTriangle_25 : decode cX1_isInTriangle 25 = .ok (.iload_n 3, 1) := by decide +kernel
theorem dX1_isInTriangle_26 : decode cX1_isInTriangle 26 = .ok (.iload_n 1, 1) := by decide +kernel
theorem dX1_isInTriangle_27 : decode cX1_isInTriangle 27 = .ok (.iload 4, 2) := by decide +kernel
theorem dX1_isInTriangle_29 : decode cX1_isInTriangle 29 = .ok (.iload 5, 2) := by decide +kernel
theorem dX1_isInTriangle_31 : decode cX1_isInTriangle 31 = .ok (.invokevirtual 98, 3) := by decide +kernel
theorem dX1_isInTriangle_34 : decode cX1_isInTriangle 34 = .ok (.istore 8, 2) := by decide +kernel
theorem dX1_isInTriangle_36 : decode cX1_isInTriangle 36 = .ok (.iload 6, 2) := by decide +kernel
theorem dX1_isInTriangle_38 : decode cX1_isInTriangle 38 = .ok (.ifCond .lt 13, 3) := by decide +kernel
theorem dX1_isInTriangle_41 : decode cX1_isInTriangle 41 = .ok (.iload 7, 2) := by decide +kernel
theorem dX1_isInTriangle_43 : decode cX1_isInTriangle 43 = .ok (.ifCond .lt 8, 3) := by decide +kernel
theorem dX1_isInTriangle_46 : decode cX1_isInTriangle 46 = .ok (.iload 8, 2) := by decide +kernel
theorem dX1_isInTriangle_48 : decode cX1_isInTriangle 48 = .ok (.ifCond .ge 22, 3) := by decide +kernel
theorem dX1_isInTriangle_51 : decode cX1_isInTriangle 51 = .ok (.iload 6, 2) := by decide +kernel
theorem dX1_isInTriangle_53 : decode cX1_isInTriangle 53 = .ok (.ifCond .gt 13, 3) := by decide +kernel
theorem dX1_isInTriangle_56 : decode cX1_isInTriangle 56 = .ok (.iload 7, 2) := by decide +kernel
theorem dX1_isInTriangle_58 : decode cX1_isInTriangle 58 = .ok (.ifCond .gt 8, 3) := by decide +kernel
theorem dX1_isInTriangle_61 : decode cX1_isInTriangle 61 = .ok (.iload 8, 2) := by decide +kernel
theorem dX1_isInTriangle_63 : decode cX1_isInTriangle 63 = .ok (.ifCond .le 7, 3) := by decide +kernel
theorem dX1_isInTriangle_66 : decode cX1_isInTriangle 66 = .ok (.iconst 1, 1) := by decide +kernel
theorem dX1_isInTriangle_67 : decode cX1_isInTriangle 67 = .ok (.goto 4, 3) := by decide +kernel
theorem dX1_isInTriangle_70 : decode cX1_isInTriangle 70 = .ok (.iconst 0, 1) := by decide +kernel
theorem dX1_isInTriangle_71 : decode cX1_isInTriangle 71 = .ok (.istore 9, 2) := by decide +kernel
theorem dX1_isInTriangle_73 : decode cX1_isInTriangle 73 = .ok (.iload 9, 2) := by decide +kernel
theorem dX1_isInTriangle_75 : decode cX1_isInTriangle 75 = .ok (.ifCond .ne 59, 3) := by decide +kernel
theorem dX1_isInTriangle_78 : decode cX1_isInTriangle 78 = .ok (.aload_n 0, 1) := by decide +kernel
theorem dX1_isInTriangle_79 : decode cX1_isInTriangle 79 = .ok (.getfield 9, 3) := by decide +kernel
theorem dX1_isInTriangle_82 : decode cX1_isInTriangle 82 = .ok (.iload_n 1, 1) := by decide +kernel
theorem dX1_isInTriangle_83 : decode cX1_isInTriangle 83 = .ok (.iaload, 1) := by decide +kernel
theorem dX1_isInTriangle_84 : decode cX1_isInTriangle 84 = .ok (.aload_n 0, 1) := by decide +kernel
theorem dX1_isInTriangle_85 : decode cX1_isInTriangle 85 = .ok (.getfield 9, 3) := by decide +kernel
theorem dX1_isInTriangle_88 : decode cX1_isInTriangle 88 = .ok (.iload_n 2, 1) := by decide +kernel
theorem dX1_isInTriangle_89 : decode cX1_isInTriangle 89 = .ok (.iaload, 1) := by decide +kernel
theorem dX1_isInTriangle_90 : decode cX1_isInTriangle 90 = .ok (.aload_n 0, 1) := by decide +kernel
theorem dX1_isInTriangle_91 : decode cX1_isInTriangle 91 = .ok (.getfield 9, 3) := by decide +kernel
theorem dX1_isInTriangle_94 : decode cX1_isInTriangle 94 = .ok (.iload_n 3, 1) := by decide +kernel
theorem dX1_isInTriangle_95 : decode cX1_isInTriangle 95 = .ok (.iaload, 1) := by decide +kernel
theorem dX1_isInTriangle_96 : decode cX1_isInTriangle 96 = .ok (.iload 4, 2) := by decide +kernel
theorem dX1_isInTriangle_98 : decode cX1_isInTriangle 98 = .ok (.invokestatic 113, 3) := by decide +kernel
theorem dX1_isInTriangle_101 : decode cX1_isInTriangle 101 = .ok (.ifCond .eq 33, 3) := by decide +kernel
theorem dX1_isInTriangle_104 : decode cX1_isInTriangle 104 = .ok (.aload_n 0, 1) := by decide +kernel
theorem dX1_isInTriangle_105 : decode cX1_isInTriangle 105 = .ok (.getfield 15, 3) := by decide +kernel
theorem dX1_isInTriangle_108 : decode cX1_isInTriangle 108 = .ok (.iload_n 1, 1) := by decide +kernel
theorem dX1_isInTriangle_109 : decode cX1_isInTriangle 109 = .ok (.iaload, 1) := by decide +kernel
theorem dX1_isInTriangle_110 : decode cX1_isInTriangle 110 = .ok (.aload_n 0, 1) := by decide +kernel
theorem dX1_isInTriangle_111 : decode cX1_isInTriangle 111 = .ok (.getfield 15, 3) := by decide +kernel
theorem dX1_isInTriangle_114 : decode cX1_isInTriangle 114 = .ok (.iload_n 2, 1) := by decide +kernel
theorem dX1_isInTriangle_115 : decode cX1_isInTriangle 115 = .ok (.iaload, 1) := by decide +kernel
theorem dX1_isInTriangle_116 : decode cX1_isInTriangle 116 = .ok (.aload_n 0, 1) := by decide +kernel
theorem dX1_isInTriangle_117 : decode cX1_isInTriangle 117 = .ok (.getfield 15, 3) := by decide +kernel
theorem dX1_isInTriangle_120 : decode cX1_isInTriangle 120 = .ok (.iload_n 3, 1) := by decide +kernel
theorem dX1_isInTriangle_121 : decode cX1_isInTriangle 121 = .ok (.iaload, 1) := by decide +kernel
theorem dX1_isInTriangle_122 : decode cX1_isInTriangle 122 = .ok (.iload 5, 2) := by decide +kernel
theorem dX1_isInTriangle_124 : decode cX1_isInTriangle 124 = .ok (.invokestatic 113, 3) := by decide +kernel
theorem dX1_isInTriangle_127 : decode cX1_isInTriangle 127 = .ok (.ifCond .eq 7, 3) := by decide +kernel
theorem dX1_isInTriangle_130 : decode cX1_isInTriangle 130 = .ok (.iconst 1, 1) := by decide +kernel
theorem dX1_isInTriangle_131 : decode cX1_isInTriangle 131 = .ok (.goto 4, 3) := by decide +kernel
theorem dX1_isInTriangle_134 : decode cX1_isInTriangle 134 = .ok (.iconst 0, 1) := by decide +kernel
theorem dX1_isInTriangle_135 : decode cX1_isInTriangle 135 = .ok (.ireturn, 1) := by decide +kernel
theorem wX1_isInTriangle_135 (C : CxC p rmX1_isInTriangle s m args meth c D ac q xa xv RX1 cX1_isInTriangle 10) (hr : meth.sig.returnType = (some .boolean)){k : Nat} (hk : kdC k = 23) {t0 : Int} {σ : Mm} {r : Int} (hl : lv_has ls 10 [(0, .ref (q k))]) (h : fX1_isInTriangle_135 k t0 σ = some r) : VC p l e rmX1_isInTriangle s m args below meth c D ac q (QIC D ac q xa xv below args s (r, σ)) σ (F0 m 135 ls [.int (i32 t0)]) := by
  have h : chb t0 (some t0) = some r := h
  have hz1 := (chb_e h).1
  have h := (chb_e h).2
  exact v_zret C hr hz1 (so1 h) dX1_isInTriangle_135
theorem wX1_isInTriangle_134 (C : CxC p rmX1_isInTriangle s m args meth c D ac q xa xv RX1 cX1_isInTriangle 10) (hr : meth.sig.returnType = (some .boolean)){k : Nat} (hk : kdC k = 23) {σ : Mm} {r : Int} (hl : lv_has ls 10 [(0, .ref (q k))]) (h : fX1_isInTriangle_134 k σ = some r) : VC p l e rmX1_isInTriangle s m args below meth c D ac q (QIC D ac q xa xv below args s (r, σ)) σ (F0 m 134 ls []) := by
  have h : fX1_isInTriangle_135 k 0 σ = some r := h
  refine v_iconst C dX1_isInTriangle_134 ?_
  exact wX1_isInTriangle_135 C hr hk (lv_sub hl [0] rfl) h
theorem wX1_isInTriangle_71 (C : CxC p rmX1_isInTriangle s m args meth c D ac q xa xv RX1 cX1_isInTriangle 10) (hr : meth.sig.returnType = (some .boolean)){k : Nat} (hk : kdC k = 23) {v1 : Int} {v2 : Int} {v3 : Int} {v4 : Int} {v5 : Int} {t0 : Int} {σ : Mm} {r : Int} (hl : lv_has ls 10 [(0, .ref (q k)), (1, .int (i32 v1)), (2, .int (i32 v2)), (3, .int (i32 v3)), (4, .int (i32 v4)), (5, .int (i32 v5))]) (h : fX1_isInTriangle_71 k v1 v2 v3 v4 v5 t0 σ = some r) : VC p l e rmX1_isInTriangle s m args below meth c D ac q (QIC D ac q xa xv below args s (r, σ)) σ (F0 m 71 ls [.int (i32 t0)]) := by
  have h : bindv t0 (fun v9_1 => cr v9_1 ((if v9_1 = 0 then chk v1 24 (chk v2 24 (chk v3 24 (bd (fX1_isInFrame (σ (k + 1) (v1).toNat) (σ (k + 1) (v2).toNat) (σ (k + 1) (v3).toNat) v4 σ) (fun x_3 => cr x_3 ((if x_3 = 0 then fX1_isInTriangle_134 k σ else chk v1 24 (chk v2 24 (chk v3 24 (bd (fX1_isInFrame (σ (k + 2) (v1).toNat) (σ (k + 2) (v2).toNat) (σ (k + 2) (v3).toNat) v5 σ) (fun x_5 => cr x_5 ((if x_5 = 0 then fX1_isInTriangle_134 k σ else fX1_isInTriangle_135 k 1 σ)))))))))))) else fX1_isInTriangle_134 k σ))) = some r := h
  refine v_istore C hl (fun x => [(9, .int (i32 x)), (0, .ref (q k)), (1, .int (i32 v1)), (2, .int (i32 v2)), (3, .int (i32 v3)), (4, .int (i32 v4)), (5, .int (i32 v5))]) dX1_isInTriangle_71 (by decide) (fun _ => rfl) h (fun v9_1 ls hl h => ?_)
  refine v_iload C hl dX1_isInTriangle_73 0 rfl ?_
  have hz2 := (cr_e h).1
  have h := (cr_e h).2
  refine v_if_ne C (tgt := 134) hz2 h dX1_isInTriangle_75 rfl (fun h => ?_) (fun h => ?_)
  · exact wX1_isInTriangle_134 C hr hk (lv_sub hl [1] rfl) h
  · refine v_aload_n C hl dX1_isInTriangle_78 rfl 1 rfl ?_
    refine g_X1_0 C hk fl_X1_9 dX1_isInTriangle_79 ?_
    refine v_iload_n C hl dX1_isInTriangle_82 rfl 2 rfl ?_
    refine alC8 C (kfC23_0 hk) h dX1_isInTriangle_83 (fun h => ?_)
    refine v_aload_n C hl dX1_isInTriangle_84 rfl 1 rfl ?_
    refine g_X1_0 C hk fl_X1_9 dX1_isInTriangle_85 ?_
    refine v_iload_n C hl dX1_isInTriangle_88 rfl 3 rfl ?_
    refine alC8 C (kfC23_0 hk) h dX1_isInTriangle_89 (fun h => ?_)
    refine v_aload_n C hl dX1_isInTriangle_90 rfl 1 rfl ?_
    refine g_X1_0 C hk fl_X1_9 dX1_isInTriangle_91 ?_
    refine v_iload_n C hl dX1_isInTriangle_94 rfl 4 rfl ?_
    refine alC8 C (kfC23_0 hk) h dX1_isInTriangle_95 (fun h => ?_)
    refine v_iload C hl dX1_isInTriangle_96 5 rfl ?_
    obtain ⟨x_3, hv3, h⟩ := bd_e h
    refine v_callSI C [.int (i32 (σ (k + 1) (v1).toNat)), .int (i32 (σ (k + 1) (v2).toNat)), .int (i32 (σ (k + 1) (v3).toNat)), .int (i32 v4)] (mX1_isInFrame C.2.2.2.2.1 hv3) cd_X1_isInFrame ic_X1 sm_X1_isInFrame ml_X1_113 yk_X1_isInFrame ⟨rfl, rfl, by decide, by decide⟩ rfl hl.1 (rest := []) rfl (Nat.le_of_ble_eq_true rfl) dX1_isInTriangle_98 ?_
    have hz4 := (cr_e h).1
    have h := (cr_e h).2
    refine v_if_eq C (tgt := 134) hz4 h dX1_isInTriangle_101 rfl (fun h => ?_) (fun h => ?_)
    · exact wX1_isInTriangle_134 C hr hk (lv_sub hl [1] rfl) h
    · refine v_aload_n C hl dX1_isInTriangle_104 rfl 1 rfl ?_
      refine g_X1_1 C hk fl_X1_15 dX1_isInTriangle_105 ?_
      refine v_iload_n C hl dX1_isInTriangle_108 rfl 2 rfl ?_
      refine alC8 C (kfC23_1 hk) h dX1_isInTriangle_109 (fun h => ?_)
      refine v_aload_n C hl dX1_isInTriangle_110 rfl 1 rfl ?_
      refine g_X1_1 C hk fl_X1_15 dX1_isInTriangle_111 ?_
      refine v_iload_n C hl dX1_isInTriangle_114 rfl 3 rfl ?_
      refine alC8 C (kfC23_1 hk) h dX1_isInTriangle_115 (fun h => ?_)
      refine v_aload_n C hl dX1_isInTriangle_116 rfl 1 rfl ?_
      refine g_X1_1 C hk fl_X1_15 dX1_isInTriangle_117 ?_
      refine v_iload_n C hl dX1_isInTriangle_120 rfl 4 rfl ?_
      refine alC8 C (kfC23_1 hk) h dX1_isInTriangle_121 (fun h => ?_)
      refine v_iload C hl dX1_isInTriangle_122 6 rfl ?_
      obtain ⟨x_5, hv5, h⟩ := bd_e h
      refine v_callSI C [.int (i32 (σ (k + 2) (v1).toNat)), .int (i32 (σ (k + 2) (v2).toNat)), .int (i32 (σ (k + 2) (v3).toNat)), .int (i32 v5)] (mX1_isInFrame C.2.2.2.2.1 hv5) cd_X1_isInFrame ic_X1 sm_X1_isInFrame ml_X1_113 yk_X1_isInFrame ⟨rfl, rfl, by decide, by decide⟩ rfl hl.1 (rest := []) rfl (Nat.le_of_ble_eq_true rfl) dX1_isInTriangle_124 ?_
      have hz6 := (cr_e h).1
      have h := (cr_e h).2
      refine v_if_eq C (tgt := 134) hz6 h dX1_isInTriangle_127 rfl (fun h => ?_) (fun h => ?_)
      · exact wX1_isInTriangle_134 C hr hk (lv_sub hl [1] rfl) h
      · refine v_iconst C dX1_isInTriangle_130 ?_
        refine v_goto C (tgt := 135) dX1_isInTriangle_131 rfl ?_
        exact wX1_isInTriangle_135 C hr hk (lv_sub hl [1] rfl) h
theorem wX1_isInTriangle_70 (C : CxC p rmX1_isInTriangle s m args meth c D ac q xa xv RX1 cX1_isInTriangle 10) (hr : meth.sig.returnType = (some .boolean)){k : Nat} (hk : kdC k = 23) {v1 : Int} {v2 : Int} {v3 : Int} {v4 : Int} {v5 : Int} {σ : Mm} {r : Int} (hl : lv_has ls 10 [(0, .ref (q k)), (1, .int (i32 v1)), (2, .int (i32 v2)), (3, .int (i32 v3)), (4, .int (i32 v4)), (5, .int (i32 v5))]) (h : fX1_isInTriangle_70 k v1 v2 v3 v4 v5 σ = some r) : VC p l e rmX1_isInTriangle s m args below meth c D ac q (QIC D ac q xa xv below args s (r, σ)) σ (F0 m 70 ls []) := by
  have h : fX1_isInTriangle_71 k v1 v2 v3 v4 v5 0 σ = some r := h
  refine v_iconst C dX1_isInTriangle_70 ?_
  exact wX1_isInTriangle_71 C hr hk (lv_sub hl [0, 1, 2, 3, 4, 5] rfl) h
theorem wX1_isInTriangle_66 (C : CxC p rmX1_isInTriangle s m args meth c D ac q xa xv RX1 cX1_isInTriangle 10) (hr : meth.sig.returnType = (some .boolean)){k : Nat} (hk : kdC k = 23) {v1 : Int} {v2 : Int} {v3 : Int} {v4 : Int} {v5 : Int} {σ : Mm} {r : Int} (hl : lv_has ls 10 [(0, .ref (q k)), (1, .int (i32 v1)), (2, .int (i32 v2)), (3, .int (i32 v3)), (4, .int (i32 v4)), (5, .int (i32 v5))]) (h : fX1_isInTriangle_66 k v1 v2 v3 v4 v5 σ = some r) : VC p l e rmX1_isInTriangle s m args below meth c D ac q (QIC D ac q xa xv below args s (r, σ)) σ (F0 m 66 ls []) := by
  have h : fX1_isInTriangle_71 k v1 v2 v3 v4 v5 1 σ = some r := h
  refine v_iconst C dX1_isInTriangle_66 ?_
  refine v_goto C (tgt := 71) dX1_isInTriangle_67 rfl ?_
  exact wX1_isInTriangle_71 C hr hk (lv_sub hl [0, 1, 2, 3, 4, 5] rfl) h
theorem wX1_isInTriangle_51 (C : CxC p rmX1_isInTriangle s m args meth c D ac q xa xv RX1 cX1_isInTriangle 10) (hr : meth.sig.returnType = (some .boolean)){k : Nat} (hk : kdC k = 23) {v1 : Int} {v2 : Int} {v3 : Int} {v4 : Int} {v5 : Int} {v6 : Int} {v7 : Int} {v8 : Int} {σ : Mm} {r : Int} (hl : lv_has ls 10 [(0, .ref (q k)), (1, .int (i32 v1)), (2, .int (i32 v2)), (3, .int (i32 v3)), (4, .int (i32 v4)), (5, .int (i32 v5)), (6, .int (i32 v6)), (7, .int (i32 v7)), (8, .int (i32 v8))]) (h : fX1_isInTriangle_51 k v1 v2 v3 v4 v5 v6 v7 v8 σ = some r) : VC p l e rmX1_isInTriangle s m args below meth c D ac q (QIC D ac q xa xv below args s (r, σ)) σ (F0 m 51 ls []) := by
  have h : cr v6 ((if 0 < v6 then fX1_isInTriangle_66 k v1 v2 v3 v4 v5 σ else cr v7 ((if 0 < v7 then fX1_isInTriangle_66 k v1 v2 v3 v4 v5 σ else cr v8 ((if 0 < v8 then fX1_isInTriangle_66 k v1 v2 v3 v4 v5 σ else fX1_isInTriangle_70 k v1 v2 v3 v4 v5 σ)))))) = some r := h
  refine v_iload C hl dX1_isInTriangle_51 6 rfl ?_
  have hz1 := (cr_e h).1
  have h := (cr_e h).2
  refine v_if_gt C (tgt := 66) hz1 h dX1_isInTriangle_53 rfl (fun h => ?_) (fun h => ?_)
  · exact wX1_isInTriangle_66 C hr hk (lv_sub hl [0, 1, 2, 3, 4, 5] rfl) h
  · refine v_iload C hl dX1_isInTriangle_56 7 rfl ?_
    have hz2 := (cr_e h).1
    have h := (cr_e h).2
    refine v_if_gt C (tgt := 66) hz2 h dX1_isInTriangle_58 rfl (fun h => ?_) (fun h => ?_)
    · exact wX1_isInTriangle_66 C hr hk (lv_sub hl [0, 1, 2, 3, 4, 5] rfl) h
    · refine v_iload C hl dX1_isInTriangle_61 8 rfl ?_
      have hz3 := (cr_e h).1
      have h := (cr_e h).2
      refine v_if_le C (tgt := 70) hz3 h dX1_isInTriangle_63 rfl (fun h => ?_) (fun h => ?_)
      · exact wX1_isInTriangle_70 C hr hk (lv_sub hl [0, 1, 2, 3, 4, 5] rfl) h
      · exact wX1_isInTriangle_66 C hr hk (lv_sub hl [0, 1, 2, 3, 4, 5] rfl) h
theorem mX1_isInTriangle (hq : QI 175 q) {k : Nat} {v1 : Int} {v2 : Int} {v3 : Int} {v4 : Int} {v5 : Int} (hk : kdC k = 23) {σ : Mm} {r : Int} (h : fX1_isInTriangle k v1 v2 v3 v4 v5 σ = some r) : MIC l D ac q xa xv yX1_isInTriangle cX1_isInTriangle 10 (some .boolean) rmX1_isInTriangle [.ref (q k), .int (i32 v1), .int (i32 v2), .int (i32 v3), .int (i32 v4), .int (i32 v5)] σ (r, σ) := by
  refine MI.of hq XC_M (by decide) (Nat.le_of_ble_eq_true rfl) (fun p e s m below meth c ls C hr hl => ?_)
  have hl : lv_has ls 10 [(0, .ref (q k)), (1, .int (i32 v1)), (2, .int (i32 v2)), (3, .int (i32 v3)), (4, .int (i32 v4)), (5, .int (i32 v5))] := hl
  have h : bd (fX1_sideOf k v1 v2 v4 v5 σ) (fun x_1 => bindv x_1 (fun v6_2 => bd (fX1_sideOf k v2 v3 v4 v5 σ) (fun x_3 => bindv x_3 (fun v7_4 => bd (fX1_sideOf k v3 v1 v4 v5 σ) (fun x_5 => bindv x_5 (fun v8_6 => cr v6_2 ((if v6_2 < 0 then fX1_isInTriangle_51 k v1 v2 v3 v4 v5 v6_2 v7_4 v8_6 σ else cr v7_4 ((if v7_4 < 0 then fX1_isInTriangle_51 k v1 v2 v3 v4 v5 v6_2 v7_4 v8_6 σ else cr v8_6 ((if v8_6 < 0 then fX1_isInTriangle_51 k v1 v2 v3 v4 v5 v6_2 v7_4 v8_6 σ else fX1_isInTriangle_70 k v1 v2 v3 v4 v5 σ)))))))))))) = some r := h
  refine v_aload_n C hl dX1_isInTriangle_0 rfl 0 rfl ?_
  refine v_iload_n C hl dX1_isInTriangle_1 rfl 1 rfl ?_
  refine v_iload_n C hl dX1_isInTriangle_2 rfl 2 rfl ?_
  refine v_iload C hl dX1_isInTriangle_3 4 rfl ?_
  refine v_iload C hl dX1_isInTriangle_5 5 rfl ?_
  obtain ⟨x_1, hv1, h⟩ := bd_e h
  refine v_callVI C k (klC hk) rfl (ckC23 hk _) rfl [.int (i32 v1), .int (i32 v2), .int (i32 v4), .int (i32 v5)] (mX1_sideOf C.2.2.2.2.1 hk hv1) cd_X1_sideOf ic_X1 im_X1_sideOf se_X1_sideOf ml_X1_98 yk_X1_sideOf ⟨rfl, rfl, by decide, by decide⟩ rfl hl.1 (rest := []) rfl (Nat.le_of_ble_eq_true rfl) dX1_isInTriangle_7 ?_
  refine v_istore C hl (fun x => [(6, .int (i32 x)), (0, .ref (q k)), (1, .int (i32 v1)), (2, .int (i32 v2)), (3, .int (i32 v3)), (4, .int (i32 v4)), (5, .int (i32 v5))]) dX1_isInTriangle_10 (by decide) (fun _ => rfl) h (fun v6_2 ls hl h => ?_)
  refine v_aload_n C hl dX1_isInTriangle_12 rfl 1 rfl ?_
  refine v_iload_n C hl dX1_isInTriangle_13 rfl 3 rfl ?_
  refine v_iload_n C hl dX1_isInTriangle_14 rfl 4 rfl ?_
  refine v_iload C hl dX1_isInTriangle_15 5 rfl ?_
  refine v_iload C hl dX1_isInTriangle_17 6 rfl ?_
  obtain ⟨x_3, hv3, h⟩ := bd_e h
  refine v_callVI C k (klC hk) rfl (ckC23 hk _) rfl [.int (i32 v2), .int (i32 v3), .int (i32 v4), .int (i32 v5)] (mX1_sideOf C.2.2.2.2.1 hk hv3) cd_X1_sideOf ic_X1 im_X1_sideOf se_X1_sideOf ml_X1_98 yk_X1_sideOf ⟨rfl, rfl, by decide, by decide⟩ rfl hl.1 (rest := []) rfl (Nat.le_of_ble_eq_true rfl) dX1_isInTriangle_19 ?_
  refine v_istore C hl (fun x => [(7, .int (i32 x)), (6, .int (i32 v6_2)), (0, .ref (q k)), (1, .int (i32 v1)), (2, .int (i32 v2)), (3, .int (i32 v3)), (4, .int (i32 v4)), (5, .int (i32 v5))]) dX1_isInTriangle_22 (by decide) (fun _ => rfl) h (fun v7_4 ls hl h => ?_)
  refine v_aload_n C hl dX1_isInTriangle_24 rfl 2 rfl ?_
  refine v_iload_n C hl dX1_isInTriangle_25 rfl 5 rfl ?_
  refine v_iload_n C hl dX1_isInTriangle_26 rfl 3 rfl ?_
  refine v_iload C hl dX1_isInTriangle_27 6 rfl ?_
  refine v_iload C hl dX1_isInTriangle_29 7 rfl ?_
  obtain ⟨x_5, hv5, h⟩ := bd_e h
  refine v_callVI C k (klC hk) rfl (ckC23 hk _) rfl [.int (i32 v3), .int (i32 v1), .int (i32 v4), .int (i32 v5)] (mX1_sideOf C.2.2.2.2.1 hk hv5) cd_X1_sideOf ic_X1 im_X1_sideOf se_X1_sideOf ml_X1_98 yk_X1_sideOf ⟨rfl, rfl, by decide, by decide⟩ rfl hl.1 (rest := []) rfl (Nat.le_of_ble_eq_true rfl) dX1_isInTriangle_31 ?_
  refine v_istore C hl (fun x => [(8, .int (i32 x)), (7, .int (i32 v7_4)), (6, .int (i32 v6_2)), (0, .ref (q k)), (1, .int (i32 v1)), (2, .int (i32 v2)), (3, .int (i32 v3)), (4, .int (i32 v4)), (5, .int (i32 v5))]) dX1_isInTriangle_34 (by decide) (fun _ => rfl) h (fun v8_6 ls hl h => ?_)
  refine v_iload C hl dX1_isInTriangle_36 2 rfl ?_
  have hz7 := (cr_e h).1
  have h := (cr_e h).2
  refine v_if_lt C (tgt := 51) hz7 h dX1_isInTriangle_38 rfl (fun h => ?_) (fun h => ?_)
  · exact wX1_isInTriangle_51 C hr hk (lv_sub hl [3, 4, 5, 6, 7, 8, 2, 1, 0] rfl) h
  · refine v_iload C hl dX1_isInTriangle_41 1 rfl ?_
    have hz8 := (cr_e h).1
    have h := (cr_e h).2
    refine v_if_lt C (tgt := 51) hz8 h dX1_isInTriangle_43 rfl (fun h => ?_) (fun h => ?_)
    · exact wX1_isInTriangle_51 C hr hk (lv_sub hl [3, 4, 5, 6, 7, 8, 2, 1, 0] rfl) h
    · refine v_iload C hl dX1_isInTriangle_46 0 rfl ?_
      have hz9 := (cr_e h).1
      have h := (cr_e h).2
      refine v_if_ge C (tgt := 70) hz9 h dX1_isInTriangle_48 rfl (fun h => ?_) (fun h => ?_)
      · exact wX1_isInTriangle_70 C hr hk (lv_sub hl [3, 4, 5, 6, 7, 8] rfl) h
      · exact wX1_isInTriangle_51 C hr hk (lv_sub hl [3, 4, 5, 6, 7, 8, 2, 1, 0] rfl) h
end
section
variable {l : Launch} {D : va_G} {ac : Nat → ClassId} {q xa xv : Nat → Nat} {p : Program} {e : Env} {s : State} {m : MethodId} {args : Array Value} {below : List Frame} {meth : Method} {c : Code} {ls : Array Slot}
theorem dX1_isWhole_0 : decode cX1_isWhole 0 = .ok (.aload_n 0, 1) := by decide +kernel
theorem dX1_isWhole_1 : decode cX1_isWhole 1 = .ok (.getfield 42, 3) := by decide +kernel
theorem dX1_isWhole_4 : decode cX1_isWhole 4 = .ok (.istore_n 1, 1) := by decide +kernel
theorem dX1_isWhole_5 : decode cX1_isWhole 5 = .ok (.iload_n 1, 1) := by decide +kernel
theorem dX1_isWhole_6 : decode cX1_isWhole 6 = .ok (.bipush 24, 2) := by decide +kernel
theorem dX1_isWhole_8 : decode cX1_isWhole 8 = .ok (.if_icmp .ge 20, 3) := by decide +kernel
theorem dX1_isWhole_11 : decode cX1_isWhole 11 = .ok (.aload_n 0, 1) := by decide +kernel
theorem dX1_isWhole_12 : decode cX1_isWhole 12 = .ok (.getfield 18, 3) := by decide +kernel
theorem dX1_isWhole_15 : decode cX1_isWhole 15 = .ok (.iload_n 1, 1) := by decide +kernel
theorem dX1_isWhole_16 : decode cX1_isWhole 16 = .ok (.baload, 1) := by decide +kernel
theorem dX1_isWhole_17 : decode cX1_isWhole 17 = .ok (.ifCond .eq 5, 3) := by decide +kernel
theorem dX1_isWhole_20 : decode cX1_isWhole 20 = .ok (.iconst 0, 1) := by decide +kernel
theorem dX1_isWhole_21 : decode cX1_isWhole 21 = .ok (.ireturn, 1) := by decide +kernel
theorem dX1_isWhole_22 : decode cX1_isWhole 22 = .ok (.iinc 1 1, 3) := by decide +kernel
theorem dX1_isWhole_25 : decode cX1_isWhole 25 = .ok (.goto (-20), 3) := by decide +kernel
theorem dX1_isWhole_28 : decode cX1_isWhole 28 = .ok (.iconst 0, 1) := by decide +kernel
theorem dX1_isWhole_29 : decode cX1_isWhole 29 = .ok (.istore_n 1, 1) := by decide +kernel
theorem dX1_isWhole_30 : decode cX1_isWhole 30 = .ok (.iload_n 1, 1) := by decide +kernel
theorem dX1_isWhole_31 : decode cX1_isWhole 31 = .ok (.aload_n 0, 1) := by decide +kernel
theorem dX1_isWhole_32 : decode cX1_isWhole 32 = .ok (.getfield 46, 3) := by decide +kernel
theorem dX1_isWhole_35 : decode cX1_isWhole 35 = .ok (.if_icmp .ge 44, 3) := by decide +kernel
theorem dX1_isWhole_38 : decode cX1_isWhole 38 = .ok (.iconst 0, 1) := by decide +kernel
theorem dX1_isWhole_39 : decode cX1_isWhole 39 = .ok (.istore_n 2, 1) := by decide +kernel
theorem dX1_isWhole_40 : decode cX1_isWhole 40 = .ok (.iload_n 2, 1) := by decide +kernel
theorem dX1_isWhole_41 : decode cX1_isWhole 41 = .ok (.aload_n 0, 1) := by decide +kernel
theorem dX1_isWhole_42 : decode cX1_isWhole 42 = .ok (.getfield 27, 3) := by decide +kernel
theorem dX1_isWhole_45 : decode cX1_isWhole 45 = .ok (.iload_n 1, 1) := by decide +kernel
theorem dX1_isWhole_46 : decode cX1_isWhole 46 = .ok (.iaload, 1) := by decide +kernel
theorem dX1_isWhole_47 : decode cX1_isWhole 47 = .ok (.if_icmp .ge 26, 3) := by decide +kernel
theorem dX1_isWhole_50 : decode cX1_isWhole 50 = .ok (.aload_n 0, 1) := by decide +kernel
theorem dX1_isWhole_51 : decode cX1_isWhole 51 = .ok (.getfield 24, 3) := by decide +kernel
theorem dX1_isWhole_54 : decode cX1_isWhole 54 = .ok (.iload_n 1, 1) := by decide +kernel
theorem dX1_isWhole_55 : decode cX1_isWhole 55 = .ok (.aaload, 1) := by decide +kernel
theorem dX1_isWhole_56 : decode cX1_isWhole 56 = .ok (.iload_n 2, 1) := by decide +kernel
theorem dX1_isWhole_57 : decode cX1_isWhole 57 = .ok (.iaload, 1) := by decide +kernel
theorem dX1_isWhole_58 : decode cX1_isWhole 58 = .ok (.aload_n 0, 1) := by decide +kernel
theorem dX1_isWhole_59 : decode cX1_isWhole 59 = .ok (.getfield 42, 3) := by decide +kernel
theorem dX1_isWhole_62 : decode cX1_isWhole 62 = .ok (.if_icmp .lt 5, 3) := by decide +kernel
theorem dX1_isWhole_65 : decode cX1_isWhole 65 = .ok (.iconst 0, 1) := by decide +kernel
theorem dX1_isWhole_66 : decode cX1_isWhole 66 = .ok (.ireturn, 1) := by decide +kernel
theorem dX1_isWhole_67 : decode cX1_isWhole 67 = .ok (.iinc 2 1, 3) := by decide +kernel
theorem dX1_isWhole_70 : decode cX1_isWhole 70 = .ok (.goto (-30), 3) := by decide +kernel
theorem dX1_isWhole_73 : decode cX1_isWhole 73 = .ok (.iinc 1 1, 3) := by decide +kernel
theorem dX1_isWhole_76 : decode cX1_isWhole 76 = .ok (.goto (-46), 3) := by decide +kernel
theorem dX1_isWhole_79 : decode cX1_isWhole 79 = .ok (.iconst 1, 1) := by decide +kernel
theorem dX1_isWhole_80 : decode cX1_isWhole 80 = .ok (.ireturn, 1) := by decide +kernel
theorem wX1_isWhole_79 (C : CxC p rmX1_isWhole s m args meth c D ac q xa xv RX1 cX1_isWhole 3) (hr : meth.sig.returnType = (some .boolean)){k : Nat} (hk : kdC k = 23) {σ : Mm} {r : Int} (hl : lv_has ls 3 [(0, .ref (q k))]) (h : fX1_isWhole_79 k σ = some r) : VC p l e rmX1_isWhole s m args below meth c D ac q (QIC D ac q xa xv below args s (r, σ)) σ (F0 m 79 ls []) := by
  have h : some 1 = some r := h
  refine v_iconst C dX1_isWhole_79 ?_
  exact v_zret C hr (Or.inr rfl) (so1 h) dX1_isWhole_80
theorem wX1_isWhole_73 (C : CxC p rmX1_isWhole s m args meth c D ac q xa xv RX1 cX1_isWhole 3) (hr : meth.sig.returnType = (some .boolean)){k : Nat} (hk : kdC k = 23) {v1 : Int} {c30 : Int → Option (Int)} {σ : Mm} {r : Int} (hc30 : ∀ (v1x : Int) (ls : Array Slot), lv_has ls 3 [(0, .ref (q k)), (1, .int (i32 v1x))] → c30 v1x = some r → VC p l e rmX1_isWhole s m args below meth c D ac q (QIC D ac q xa xv below args s (r, σ)) σ (F0 m 30 ls [])) (hl : lv_has ls 3 [(0, .ref (q k)), (1, .int (i32 v1))]) (h : fX1_isWhole_73 k c30 v1 σ = some r) : VC p l e rmX1_isWhole s m args below meth c D ac q (QIC D ac q xa xv below args s (r, σ)) σ (F0 m 73 ls []) := by
  have h : bindv (v1 + 1) (fun v1_1 => c30 v1_1) = some r := h
  refine v_iinc C hl (fun x => [(1, .int (i32 x)), (0, .ref (q k))]) dX1_isWhole_73 1 rfl (by decide) (fun _ => rfl) h (fun v1_1 ls hl h => ?_)
  refine v_goto C (tgt := 30) dX1_isWhole_76 rfl ?_
  exact hc30 _ _ (lv_sub hl [1, 0] rfl) h
theorem wX1_isWhole_40 (C : CxC p rmX1_isWhole s m args meth c D ac q xa xv RX1 cX1_isWhole 3) (hr : meth.sig.returnType = (some .boolean)){k : Nat} (hk : kdC k = 23) {v1 : Int} {σ : Mm} {v2 : Int} {e40 : Option (Int)} {c40 : Int → Option (Int)} {r : Int} (he40 : ∀ (ls : Array Slot), lv_has ls 3 [(0, .ref (q k)), (1, .int (i32 v1))] → e40 = some r → VC p l e rmX1_isWhole s m args below meth c D ac q (QIC D ac q xa xv below args s (r, σ)) σ (F0 m 73 ls [])) (hc40 : ∀ (v2x : Int) (ls : Array Slot), lv_has ls 3 [(0, .ref (q k)), (1, .int (i32 v1)), (2, .int (i32 v2x))] → c40 v2x = some r → VC p l e rmX1_isWhole s m args below meth c D ac q (QIC D ac q xa xv below args s (r, σ)) σ (F0 m 40 ls [])) (hl : lv_has ls 3 [(0, .ref (q k)), (1, .int (i32 v1)), (2, .int (i32 v2))]) (h : fX1_isWhole_40 k v1 σ e40 c40 v2 = some r) : VC p l e rmX1_isWhole s m args below meth c D ac q (QIC D ac q xa xv below args s (r, σ)) σ (F0 m 40 ls []) := by
  have h : chk v1 6 (cr v2 (cr (σ (k + 5) (v1).toNat) ((if v2 < σ (k + 5) (v1).toNat then chk v1 6 (chk v2 10 (cr (σ (k + 10 + (v1).toNat) (v2).toNat) (cr (σ k 9) ((if σ (k + 10 + (v1).toNat) (v2).toNat < σ k 9 then bindv (v2 + 1) (fun v2_6 => c40 v2_6) else some 0))))) else e40)))) = some r := h
  refine v_iload_n C hl dX1_isWhole_40 rfl 2 rfl ?_
  refine v_aload_n C hl dX1_isWhole_41 rfl 0 rfl ?_
  refine g_X1_4 C hk fl_X1_27 dX1_isWhole_42 ?_
  refine v_iload_n C hl dX1_isWhole_45 rfl 1 rfl ?_
  refine alC14 C (kfC23_4 hk) h dX1_isWhole_46 (fun h => ?_)
  have hz1 := (cr_e h).1
  have h := (cr_e h).2
  have hz2 := (cr_e h).1
  have h := (cr_e h).2
  refine v_icmp_ge C (tgt := 73) hz1 hz2 h dX1_isWhole_47 rfl (fun h => ?_) (fun h => ?_)
  · exact he40  _ (lv_sub hl [0, 1] rfl) h
  · refine v_aload_n C hl dX1_isWhole_50 rfl 0 rfl ?_
    refine g_X1_3 C hk fl_X1_24 dX1_isWhole_51 ?_
    refine v_iload_n C hl dX1_isWhole_54 rfl 1 rfl ?_
    have hi3 := (chk_e h).1
    refine arC24 C (kfC23_3 hk) h dX1_isWhole_55 (fun h => ?_)
    refine v_iload_n C hl dX1_isWhole_56 rfl 2 rfl ?_
    refine alC16 C (keC24 (kfC23_3 hk) hi3) h dX1_isWhole_57 (fun h => ?_)
    refine v_aload_n C hl dX1_isWhole_58 rfl 0 rfl ?_
    refine g_X1_9 C hk fl_X1_42 dX1_isWhole_59 ?_
    have hz4 := (cr_e h).1
    have h := (cr_e h).2
    have hz5 := (cr_e h).1
    have h := (cr_e h).2
    refine v_icmp_lt C (tgt := 67) hz4 hz5 h dX1_isWhole_62 rfl (fun h => ?_) (fun h => ?_)
    · refine v_iinc C hl (fun x => [(2, .int (i32 x)), (0, .ref (q k)), (1, .int (i32 v1))]) dX1_isWhole_67 2 rfl (by decide) (fun _ => rfl) h (fun v2_6 ls hl h => ?_)
      refine v_goto C (tgt := 40) dX1_isWhole_70 rfl ?_
      exact hc40 _ _ (lv_sub hl [1, 2, 0] rfl) h
    · refine v_iconst C dX1_isWhole_65 ?_
      exact v_zret C hr (Or.inl rfl) (so1 h) dX1_isWhole_66
theorem wlX1_isWhole_40 (C : CxC p rmX1_isWhole s m args meth c D ac q xa xv RX1 cX1_isWhole 3) (hr : meth.sig.returnType = (some .boolean)){k : Nat} (hk : kdC k = 23) {v1 : Int} {σ : Mm} {e40 : Option (Int)} {r : Int} (he40 : ∀ (ls : Array Slot), lv_has ls 3 [(0, .ref (q k)), (1, .int (i32 v1))] → e40 = some r → VC p l e rmX1_isWhole s m args below meth c D ac q (QIC D ac q xa xv below args s (r, σ)) σ (F0 m 73 ls [])) : ∀ (fu : Nat) (v2 : Int) (ls : Array Slot) (hl : lv_has ls 3 [(0, .ref (q k)), (1, .int (i32 v1)), (2, .int (i32 v2))]) (h : lX1_isWhole_40 k v1 σ e40 fu v2 = some r), VC p l e rmX1_isWhole s m args below meth c D ac q (QIC D ac q xa xv below args s (r, σ)) σ (F0 m 40 ls []) := by
  intro fu
  induction fu with
  | zero =>
    intro v2 ls hl h
    have h : none = some r := h
    cases h
  | succ fu ih =>
    intro v2 ls hl h
    exact wX1_isWhole_40 C hr hk he40 (fun v2 ls hl h => ih v2 ls hl h) hl h
theorem wX1_isWhole_30 (C : CxC p rmX1_isWhole s m args meth c D ac q xa xv RX1 cX1_isWhole 3) (hr : meth.sig.returnType = (some .boolean)){k : Nat} (hk : kdC k = 23) {σ : Mm} {v1 : Int} {e30 : Option (Int)} {c30 : Int → Option (Int)} {r : Int} (he30 : ∀ (ls : Array Slot), lv_has ls 3 [(0, .ref (q k))] → e30 = some r → VC p l e rmX1_isWhole s m args below meth c D ac q (QIC D ac q xa xv below args s (r, σ)) σ (F0 m 79 ls [])) (hc30 : ∀ (v1x : Int) (ls : Array Slot), lv_has ls 3 [(0, .ref (q k)), (1, .int (i32 v1x))] → c30 v1x = some r → VC p l e rmX1_isWhole s m args below meth c D ac q (QIC D ac q xa xv below args s (r, σ)) σ (F0 m 30 ls [])) (hl : lv_has ls 3 [(0, .ref (q k)), (1, .int (i32 v1))]) (h : fX1_isWhole_30 k σ e30 c30 v1 = some r) : VC p l e rmX1_isWhole s m args below meth c D ac q (QIC D ac q xa xv below args s (r, σ)) σ (F0 m 30 ls []) := by
  have h : cr v1 (cr (σ k 10) ((if v1 < σ k 10 then bindv 0 (fun v2_3 => lX1_isWhole_40 k v1 σ (fX1_isWhole_73 k c30 v1 σ) 400 v2_3) else e30))) = some r := h
  refine v_iload_n C hl dX1_isWhole_30 rfl 1 rfl ?_
  refine v_aload_n C hl dX1_isWhole_31 rfl 0 rfl ?_
  refine g_X1_10 C hk fl_X1_46 dX1_isWhole_32 ?_
  have hz1 := (cr_e h).1
  have h := (cr_e h).2
  have hz2 := (cr_e h).1
  have h := (cr_e h).2
  refine v_icmp_ge C (tgt := 79) hz1 hz2 h dX1_isWhole_35 rfl (fun h => ?_) (fun h => ?_)
  · exact he30  _ (lv_sub hl [0] rfl) h
  · refine v_iconst C dX1_isWhole_38 ?_
    refine v_istore_n C hl (fun x => [(2, .int (i32 x)), (0, .ref (q k)), (1, .int (i32 v1))]) dX1_isWhole_39 rfl (by decide) (fun _ => rfl) h (fun v2_3 ls hl h => ?_)
    exact wlX1_isWhole_40 C hr hk (fun ls hl h => wX1_isWhole_73 C hr hk hc30 (lv_sub hl [0, 1] rfl) h) _ _ _ (lv_sub hl [1, 2, 0] rfl) h
theorem wlX1_isWhole_30 (C : CxC p rmX1_isWhole s m args meth c D ac q xa xv RX1 cX1_isWhole 3) (hr : meth.sig.returnType = (some .boolean)){k : Nat} (hk : kdC k = 23) {σ : Mm} {e30 : Option (Int)} {r : Int} (he30 : ∀ (ls : Array Slot), lv_has ls 3 [(0, .ref (q k))] → e30 = some r → VC p l e rmX1_isWhole s m args below meth c D ac q (QIC D ac q xa xv below args s (r, σ)) σ (F0 m 79 ls [])) : ∀ (fu : Nat) (v1 : Int) (ls : Array Slot) (hl : lv_has ls 3 [(0, .ref (q k)), (1, .int (i32 v1))]) (h : lX1_isWhole_30 k σ e30 fu v1 = some r), VC p l e rmX1_isWhole s m args below meth c D ac q (QIC D ac q xa xv below args s (r, σ)) σ (F0 m 30 ls []) := by
  intro fu
  induction fu with
  | zero =>
    intro v1 ls hl h
    have h : none = some r := h
    cases h
  | succ fu ih =>
    intro v1 ls hl h
    exact wX1_isWhole_30 C hr hk he30 (fun v1 ls hl h => ih v1 ls hl h) hl h
theorem wX1_isWhole_28 (C : CxC p rmX1_isWhole s m args meth c D ac q xa xv RX1 cX1_isWhole 3) (hr : meth.sig.returnType = (some .boolean)){k : Nat} (hk : kdC k = 23) {σ : Mm} {r : Int} (hl : lv_has ls 3 [(0, .ref (q k))]) (h : fX1_isWhole_28 k σ = some r) : VC p l e rmX1_isWhole s m args below meth c D ac q (QIC D ac q xa xv below args s (r, σ)) σ (F0 m 28 ls []) := by
  have h : bindv 0 (fun v1_1 => lX1_isWhole_30 k σ (fX1_isWhole_79 k σ) 400 v1_1) = some r := h
  refine v_iconst C dX1_isWhole_28 ?_
  refine v_istore_n C hl (fun x => [(1, .int (i32 x)), (0, .ref (q k))]) dX1_isWhole_29 rfl (by decide) (fun _ => rfl) h (fun v1_1 ls hl h => ?_)
  exact wlX1_isWhole_30 C hr hk (fun ls hl h => wX1_isWhole_79 C hr hk (lv_sub hl [0] rfl) h) _ _ _ (lv_sub hl [1, 0] rfl) h
theorem wX1_isWhole_5 (C : CxC p rmX1_isWhole s m args meth c D ac q xa xv RX1 cX1_isWhole 3) (hr : meth.sig.returnType = (some .boolean)){k : Nat} (hk : kdC k = 23) {σ : Mm} {v1 : Int} {e5 : Option (Int)} {c5 : Int → Option (Int)} {r : Int} (he5 : ∀ (ls : Array Slot), lv_has ls 3 [(0, .ref (q k))] → e5 = some r → VC p l e rmX1_isWhole s m args below meth c D ac q (QIC D ac q xa xv below args s (r, σ)) σ (F0 m 28 ls [])) (hc5 : ∀ (v1x : Int) (ls : Array Slot), lv_has ls 3 [(0, .ref (q k)), (1, .int (i32 v1x))] → c5 v1x = some r → VC p l e rmX1_isWhole s m args below meth c D ac q (QIC D ac q xa xv below args s (r, σ)) σ (F0 m 5 ls [])) (hl : lv_has ls 3 [(0, .ref (q k)), (1, .int (i32 v1))]) (h : fX1_isWhole_5 k σ e5 c5 v1 = some r) : VC p l e rmX1_isWhole s m args below meth c D ac q (QIC D ac q xa xv below args s (r, σ)) σ (F0 m 5 ls []) := by
  have h : cr v1 ((if v1 < 24 then chk v1 24 (cr (σ (k + 3) (v1).toNat) ((if σ (k + 3) (v1).toNat = 0 then bindv (v1 + 1) (fun v1_3 => c5 v1_3) else some 0))) else e5)) = some r := h
  refine v_iload_n C hl dX1_isWhole_5 rfl 1 rfl ?_
  refine v_bipush C dX1_isWhole_6 rfl ?_
  have hz1 := (cr_e h).1
  have h := (cr_e h).2
  refine v_icmp_ge C (tgt := 28) hz1 (by decide) h dX1_isWhole_8 rfl (fun h => ?_) (fun h => ?_)
  · exact he5  _ (lv_sub hl [0] rfl) h
  · refine v_aload_n C hl dX1_isWhole_11 rfl 0 rfl ?_
    refine g_X1_2 C hk fl_X1_18 dX1_isWhole_12 ?_
    refine v_iload_n C hl dX1_isWhole_15 rfl 1 rfl ?_
    refine alC15 C (kfC23_2 hk) h dX1_isWhole_16 (fun h => ?_)
    have hz2 := (cr_e h).1
    have h := (cr_e h).2
    refine v_if_eq C (tgt := 22) hz2 h dX1_isWhole_17 rfl (fun h => ?_) (fun h => ?_)
    · refine v_iinc C hl (fun x => [(1, .int (i32 x)), (0, .ref (q k))]) dX1_isWhole_22 1 rfl (by decide) (fun _ => rfl) h (fun v1_3 ls hl h => ?_)
      refine v_goto C (tgt := 5) dX1_isWhole_25 rfl ?_
      exact hc5 _ _ (lv_sub hl [1, 0] rfl) h
    · refine v_iconst C dX1_isWhole_20 ?_
      exact v_zret C hr (Or.inl rfl) (so1 h) dX1_isWhole_21
theorem wlX1_isWhole_5 (C : CxC p rmX1_isWhole s m args meth c D ac q xa xv RX1 cX1_isWhole 3) (hr : meth.sig.returnType = (some .boolean)){k : Nat} (hk : kdC k = 23) {σ : Mm} {e5 : Option (Int)} {r : Int} (he5 : ∀ (ls : Array Slot), lv_has ls 3 [(0, .ref (q k))] → e5 = some r → VC p l e rmX1_isWhole s m args below meth c D ac q (QIC D ac q xa xv below args s (r, σ)) σ (F0 m 28 ls [])) : ∀ (fu : Nat) (v1 : Int) (ls : Array Slot) (hl : lv_has ls 3 [(0, .ref (q k)), (1, .int (i32 v1))]) (h : lX1_isWhole_5 k σ e5 fu v1 = some r), VC p l e rmX1_isWhole s m args below meth c D ac q (QIC D ac q xa xv below args s (r, σ)) σ (F0 m 5 ls []) := by
  intro fu
  induction fu with
  | zero =>
    intro v1 ls hl h
    have h : none = some r := h
    cases h
  | succ fu ih =>
    intro v1 ls hl h
    exact wX1_isWhole_5 C hr hk he5 (fun v1 ls hl h => ih v1 ls hl h) hl h
theorem mX1_isWhole (hq : QI 175 q) {k : Nat} (hk : kdC k = 23) {σ : Mm} {r : Int} (h : fX1_isWhole k σ = some r) : MIC l D ac q xa xv yX1_isWhole cX1_isWhole 3 (some .boolean) rmX1_isWhole [.ref (q k)] σ (r, σ) := by
  refine MI.of hq XC_M (by decide) (Nat.le_of_ble_eq_true rfl) (fun p e s m below meth c ls C hr hl => ?_)
  have hl : lv_has ls 3 [(0, .ref (q k))] := hl
  have h : bindv (σ k 9) (fun v1_1 => lX1_isWhole_5 k σ (fX1_isWhole_28 k σ) 400 v1_1) = some r := h
  refine v_aload_n C hl dX1_isWhole_0 rfl 0 rfl ?_
  refine g_X1_9 C hk fl_X1_42 dX1_isWhole_1 ?_
  refine v_istore_n C hl (fun x => [(1, .int (i32 x)), (0, .ref (q k))]) dX1_isWhole_4 rfl (by decide) (fun _ => rfl) h (fun v1_1 ls hl h => ?_)
  exact wlX1_isWhole_5 C hr hk (fun ls hl h => wX1_isWhole_28 C hr hk (lv_sub hl [0] rfl) h) _ _ _ (lv_sub hl [1, 0] rfl) h
end
section
variable {l : Launch} {D : va_G} {ac : Nat → ClassId} {q xa xv : Nat → Nat} {p : Program} {e : Env} {s : State} {m : MethodId} {args : Array Value} {below : List Frame} {meth : Method} {c : Code} {ls : Array Slot}
theorem dX1_newestRingHas_0 : decode cX1_newestRingHas 0 = .ok (.aload_n 0, 1) := by decide +kernel
theorem dX1_newestRingHas_1 : decode cX1_newestRingHas 1 = .ok (.getfield 46, 3) := by decide +kernel
theorem dX1_newestRingHas_4 : decode cX1_newestRingHas 4 = .ok (.iconst 1, 1) := by decide +kernel
theorem dX1_newestRingHas_5 : decode cX1_newestRingHas 5 = .ok (.isub, 1) := by decide +kernel
theorem dX1_newestRingHas_6 : decode cX1_newestRingHas 6 = .ok (.istore_n 2, 1) := by decide +kernel
theorem dX1_newestRingHas_7 : decode cX1_newestRingHas 7 = .ok (.iconst 0, 1) := by decide +kernel
theorem dX1_newestRingHas_8 : decode cX1_newestRingHas 8 = .ok (.istore_n 3, 1) := by decide +kernel
theorem dX1_newestRingHas_9 : decode cX1_newestRingHas 9 = .ok (.iload_n 2, 1) := by decide +kernel
theorem dX1_newestRingHas_10 : decode cX1_newestRingHas 10 = .ok (.ifCond .lt 33, 3) := by decide +kernel
theorem dX1_newestRingHas_13 : decode cX1_newestRingHas 13 = .ok (.iload_n 3, 1) := by decide +kernel
theorem dX1_newestRingHas_14 : decode cX1_newestRingHas 14 = .ok (.aload_n 0, 1) := by decide +kernel
theorem dX1_newestRingHas_15 : decode cX1_newestRingHas 15 = .ok (.getfield 27, 3) := by decide +kernel
theorem dX1_newestRingHas_18 : decode cX1_newestRingHas 18 = .ok (.iload_n 2, 1) := by decide +kernel
theorem dX1_newestRingHas_19 : decode cX1_newestRingHas 19 = .ok (.iaload, 1) := by decide +kernel
theorem dX1_newestRingHas_20 : decode cX1_newestRingHas 20 = .ok (.if_icmp .ge 23, 3) := by decide +kernel
theorem dX1_newestRingHas_23 : decode cX1_newestRingHas 23 = .ok (.aload_n 0, 1) := by decide +kernel
theorem dX1_newestRingHas_24 : decode cX1_newestRingHas 24 = .ok (.getfield 24, 3) := by decide +kernel
theorem dX1_newestRingHas_27 : decode cX1_newestRingHas 27 = .ok (.iload_n 2, 1) := by decide +kernel
theorem dX1_newestRingHas_28 : decode cX1_newestRingHas 28 = .ok (.aaload, 1) := by decide +kernel
theorem dX1_newestRingHas_29 : decode cX1_newestRingHas 29 = .ok (.iload_n 3, 1) := by decide +kernel
theorem dX1_newestRingHas_30 : decode cX1_newestRingHas 30 = .ok (.iaload, 1) := by decide +kernel
theorem dX1_newestRingHas_31 : decode cX1_newestRingHas 31 = .ok (.iload_n 1, 1) := by decide +kernel
theorem dX1_newestRingHas_32 : decode cX1_newestRingHas 32 = .ok (.if_icmp .ne 5, 3) := by decide +kernel
theorem dX1_newestRingHas_35 : decode cX1_newestRingHas 35 = .ok (.iconst 1, 1) := by decide +kernel
theorem dX1_newestRingHas_36 : decode cX1_newestRingHas 36 = .ok (.ireturn, 1) := by decide +kernel
theorem dX1_newestRingHas_37 : decode cX1_newestRingHas 37 = .ok (.iinc 3 1, 3) := by decide +kernel
theorem dX1_newestRingHas_40 : decode cX1_newestRingHas 40 = .ok (.goto (-31), 3) := by decide +kernel
theorem dX1_newestRingHas_43 : decode cX1_newestRingHas 43 = .ok (.iconst 0, 1) := by decide +kernel
theorem dX1_newestRingHas_44 : decode cX1_newestRingHas 44 = .ok (.ireturn, 1) := by decide +kernel
theorem wX1_newestRingHas_43 (C : CxC p rmX1_newestRingHas s m args meth c D ac q xa xv RX1 cX1_newestRingHas 4) (hr : meth.sig.returnType = (some .boolean)){k : Nat} (hk : kdC k = 23) {σ : Mm} {r : Int} (hl : lv_has ls 4 [(0, .ref (q k))]) (h : fX1_newestRingHas_43 k σ = some r) : VC p l e rmX1_newestRingHas s m args below meth c D ac q (QIC D ac q xa xv below args s (r, σ)) σ (F0 m 43 ls []) := by
  have h : some 0 = some r := h
  refine v_iconst C dX1_newestRingHas_43 ?_
  exact v_zret C hr (Or.inl rfl) (so1 h) dX1_newestRingHas_44
theorem wX1_newestRingHas_9 (C : CxC p rmX1_newestRingHas s m args meth c D ac q xa xv RX1 cX1_newestRingHas 4) (hr : meth.sig.returnType = (some .boolean)){k : Nat} (hk : kdC k = 23) {v1 : Int} {v2 : Int} {σ : Mm} {v3 : Int} {e9 : Option (Int)} {c9 : Int → Option (Int)} {r : Int} (he9 : ∀ (ls : Array Slot), lv_has ls 4 [(0, .ref (q k))] → e9 = some r → VC p l e rmX1_newestRingHas s m args below meth c D ac q (QIC D ac q xa xv below args s (r, σ)) σ (F0 m 43 ls [])) (hc9 : ∀ (v3x : Int) (ls : Array Slot), lv_has ls 4 [(0, .ref (q k)), (1, .int (i32 v1)), (2, .int (i32 v2)), (3, .int (i32 v3x))] → c9 v3x = some r → VC p l e rmX1_newestRingHas s m args below meth c D ac q (QIC D ac q xa xv below args s (r, σ)) σ (F0 m 9 ls [])) (hl : lv_has ls 4 [(0, .ref (q k)), (1, .int (i32 v1)), (2, .int (i32 v2)), (3, .int (i32 v3))]) (h : fX1_newestRingHas_9 k v1 v2 σ e9 c9 v3 = some r) : VC p l e rmX1_newestRingHas s m args below meth c D ac q (QIC D ac q xa xv below args s (r, σ)) σ (F0 m 9 ls []) := by
  have h : cr v2 ((if v2 < 0 then e9 else chk v2 6 (cr v3 (cr (σ (k + 5) (v2).toNat) ((if v3 < σ (k + 5) (v2).toNat then chk v2 6 (chk v3 10 (cr (σ (k + 10 + (v2).toNat) (v3).toNat) (cr v1 ((if σ (k + 10 + (v2).toNat) (v3).toNat = v1 then some 1 else bindv (v3 + 1) (fun v3_7 => c9 v3_7)))))) else e9)))))) = some r := h
  refine v_iload_n C hl dX1_newestRingHas_9 rfl 2 rfl ?_
  have hz1 := (cr_e h).1
  have h := (cr_e h).2
  refine v_if_lt C (tgt := 43) hz1 h dX1_newestRingHas_10 rfl (fun h => ?_) (fun h => ?_)
  · exact he9  _ (lv_sub hl [0] rfl) h
  · refine v_iload_n C hl dX1_newestRingHas_13 rfl 3 rfl ?_
    refine v_aload_n C hl dX1_newestRingHas_14 rfl 0 rfl ?_
    refine g_X1_4 C hk fl_X1_27 dX1_newestRingHas_15 ?_
    refine v_iload_n C hl dX1_newestRingHas_18 rfl 2 rfl ?_
    refine alC14 C (kfC23_4 hk) h dX1_newestRingHas_19 (fun h => ?_)
    have hz2 := (cr_e h).1
    have h := (cr_e h).2
    have hz3 := (cr_e h).1
    have h := (cr_e h).2
    refine v_icmp_ge C (tgt := 43) hz2 hz3 h dX1_newestRingHas_20 rfl (fun h => ?_) (fun h => ?_)
    · exact he9  _ (lv_sub hl [0] rfl) h
    · refine v_aload_n C hl dX1_newestRingHas_23 rfl 0 rfl ?_
      refine g_X1_3 C hk fl_X1_24 dX1_newestRingHas_24 ?_
      refine v_iload_n C hl dX1_newestRingHas_27 rfl 2 rfl ?_
      have hi4 := (chk_e h).1
      refine arC24 C (kfC23_3 hk) h dX1_newestRingHas_28 (fun h => ?_)
      refine v_iload_n C hl dX1_newestRingHas_29 rfl 3 rfl ?_
      refine alC16 C (keC24 (kfC23_3 hk) hi4) h dX1_newestRingHas_30 (fun h => ?_)
      refine v_iload_n C hl dX1_newestRingHas_31 rfl 1 rfl ?_
      have hz5 := (cr_e h).1
      have h := (cr_e h).2
      have hz6 := (cr_e h).1
      have h := (cr_e h).2
      refine v_icmp_ne C (tgt := 37) hz5 hz6 h dX1_newestRingHas_32 rfl (fun h => ?_) (fun h => ?_)
      · refine v_iinc C hl (fun x => [(3, .int (i32 x)), (0, .ref (q k)), (1, .int (i32 v1)), (2, .int (i32 v2))]) dX1_newestRingHas_37 3 rfl (by decide) (fun _ => rfl) h (fun v3_7 ls hl h => ?_)
        refine v_goto C (tgt := 9) dX1_newestRingHas_40 rfl ?_
        exact hc9 _ _ (lv_sub hl [1, 2, 3, 0] rfl) h
      · refine v_iconst C dX1_newestRingHas_35 ?_
        exact v_zret C hr (Or.inr rfl) (so1 h) dX1_newestRingHas_36
theorem wlX1_newestRingHas_9 (C : CxC p rmX1_newestRingHas s m args meth c D ac q xa xv RX1 cX1_newestRingHas 4) (hr : meth.sig.returnType = (some .boolean)){k : Nat} (hk : kdC k = 23) {v1 : Int} {v2 : Int} {σ : Mm} {e9 : Option (Int)} {r : Int} (he9 : ∀ (ls : Array Slot), lv_has ls 4 [(0, .ref (q k))] → e9 = some r → VC p l e rmX1_newestRingHas s m args below meth c D ac q (QIC D ac q xa xv below args s (r, σ)) σ (F0 m 43 ls [])) : ∀ (fu : Nat) (v3 : Int) (ls : Array Slot) (hl : lv_has ls 4 [(0, .ref (q k)), (1, .int (i32 v1)), (2, .int (i32 v2)), (3, .int (i32 v3))]) (h : lX1_newestRingHas_9 k v1 v2 σ e9 fu v3 = some r), VC p l e rmX1_newestRingHas s m args below meth c D ac q (QIC D ac q xa xv below args s (r, σ)) σ (F0 m 9 ls []) := by
  intro fu
  induction fu with
  | zero =>
    intro v3 ls hl h
    have h : none = some r := h
    cases h
  | succ fu ih =>
    intro v3 ls hl h
    exact wX1_newestRingHas_9 C hr hk he9 (fun v3 ls hl h => ih v3 ls hl h) hl h
theorem mX1_newestRingHas (hq : QI 175 q) {k : Nat} {v1 : Int} (hk : kdC k = 23) {σ : Mm} {r : Int} (h : fX1_newestRingHas k v1 σ = some r) : MIC l D ac q xa xv yX1_newestRingHas cX1_newestRingHas 4 (some .boolean) rmX1_newestRingHas [.ref (q k), .int (i32 v1)] σ (r, σ) := by
  refine MI.of hq XC_M (by decide) (Nat.le_of_ble_eq_true rfl) (fun p e s m below meth c ls C hr hl => ?_)
  have hl : lv_has ls 4 [(0, .ref (q k)), (1, .int (i32 v1))] := hl
  have h : bindv ((σ k 10) - 1) (fun v2_1 => bindv 0 (fun v3_2 => lX1_newestRingHas_9 k v1 v2_1 σ (fX1_newestRingHas_43 k σ) 400 v3_2)) = some r := h
  refine v_aload_n C hl dX1_newestRingHas_0 rfl 0 rfl ?_
  refine g_X1_10 C hk fl_X1_46 dX1_newestRingHas_1 ?_
  refine v_iconst C dX1_newestRingHas_4 ?_
  refine v_isub C dX1_newestRingHas_5 ?_
  refine v_istore_n C hl (fun x => [(2, .int (i32 x)), (0, .ref (q k)), (1, .int (i32 v1))]) dX1_newestRingHas_6 rfl (by decide) (fun _ => rfl) h (fun v2_1 ls hl h => ?_)
  refine v_iconst C dX1_newestRingHas_7 ?_
  refine v_istore_n C hl (fun x => [(3, .int (i32 x)), (2, .int (i32 v2_1)), (0, .ref (q k)), (1, .int (i32 v1))]) dX1_newestRingHas_8 rfl (by decide) (fun _ => rfl) h (fun v3_2 ls hl h => ?_)
  exact wlX1_newestRingHas_9 C hr hk (fun ls hl h => wX1_newestRingHas_43 C hr hk (lv_sub hl [0] rfl) h) _ _ _ (lv_sub hl [2, 3, 1, 0] rfl) h
end
section
variable {l : Launch} {D : va_G} {ac : Nat → ClassId} {q xa xv : Nat → Nat} {p : Program} {e : Env} {s : State} {m : MethodId} {args : Array Value} {below : List Frame} {meth : Method} {c : Code} {ls : Array Slot}
theorem dX1_nodesWithEdges_0 : decode cX1_nodesWithEdges 0 = .ok (.iconst 0, 1) := by decide +kernel
theorem dX1_nodesWithEdges_1 : decode cX1_nodesWithEdges 1 = .ok (.istore_n 1, 1) := by decide +kernel
theorem dX1_nodesWithEdges_2 : decode cX1_nodesWithEdges 2 = .ok (.iconst 0, 1) := by decide +kernel
theorem dX1_nodesWithEdges_3 : decode cX1_nodesWithEdges 3 = .ok (.istore_n 2, 1) := by decide +kernel
theorem dX1_nodesWithEdges_4 : decode cX1_nodesWithEdges 4 = .ok (.iload_n 2, 1) := by decide +kernel
theorem dX1_nodesWithEdges_5 : decode cX1_nodesWithEdges 5 = .ok (.aload_n 0, 1) := by decide +kernel
theorem dX1_nodesWithEdges_6 : decode cX1_nodesWithEdges 6 = .ok (.getfield 42, 3) := by decide +kernel
theorem dX1_nodesWithEdges_9 : decode cX1_nodesWithEdges 9 = .ok (.if_icmp .ge 29, 3) := by decide +kernel
theorem dX1_nodesWithEdges_12 : decode cX1_nodesWithEdges 12 = .ok (.aload_n 0, 1) := by decide +kernel
theorem dX1_nodesWithEdges_13 : decode cX1_nodesWithEdges 13 = .ok (.getfield 39, 3) := by decide +kernel
theorem dX1_nodesWithEdges_16 : decode cX1_nodesWithEdges 16 = .ok (.iload_n 2, 1) := by decide +kernel
theorem dX1_nodesWithEdges_17 : decode cX1_nodesWithEdges 17 = .ok (.iaload, 1) := by decide +kernel
theorem dX1_nodesWithEdges_18 : decode cX1_nodesWithEdges 18 = .ok (.ifCond .le 14, 3) := by decide +kernel
theorem dX1_nodesWithEdges_21 : decode cX1_nodesWithEdges 21 = .ok (.aload_n 0, 1) := by decide +kernel
theorem dX1_nodesWithEdges_22 : decode cX1_nodesWithEdges 22 = .ok (.iload_n 2, 1) := by decide +kernel
theorem dX1_nodesWithEdges_23 : decode cX1_nodesWithEdges 23 = .ok (.invokevirtual 69, 3) := by decide +kernel
theorem dX1_nodesWithEdges_26 : decode cX1_nodesWithEdges 26 = .ok (.ifCond .eq 6, 3) := by decide +kernel
theorem dX1_nodesWithEdges_29 : decode cX1_nodesWithEdges 29 = .ok (.iinc 1 1, 3) := by decide +kernel
theorem dX1_nodesWithEdges_32 : decode cX1_nodesWithEdges 32 = .ok (.iinc 2 1, 3) := by decide +kernel
theorem dX1_nodesWithEdges_35 : decode cX1_nodesWithEdges 35 = .ok (.goto (-31), 3) := by decide +kernel
theorem dX1_nodesWithEdges_38 : decode cX1_nodesWithEdges 38 = .ok (.iload_n 1, 1) := by decide +kernel
theorem dX1_nodesWithEdges_39 : decode cX1_nodesWithEdges 39 = .ok (.ireturn, 1) := by decide +kernel
theorem wX1_nodesWithEdges_38 (C : CxC p rmX1_nodesWithEdges s m args meth c D ac q xa xv RX1 cX1_nodesWithEdges 3) (hr : meth.sig.returnType = (some .int)){k : Nat} (hk : kdC k = 23) {v1 : Int} {σ : Mm} {r : Int} (hl : lv_has ls 3 [(0, .ref (q k)), (1, .int (i32 v1))]) (h : fX1_nodesWithEdges_38 k v1 σ = some r) : VC p l e rmX1_nodesWithEdges s m args below meth c D ac q (QIC D ac q xa xv below args s (r, σ)) σ (F0 m 38 ls []) := by
  have h : some v1 = some r := h
  refine v_iload_n C hl dX1_nodesWithEdges_38 rfl 1 rfl ?_
  exact v_iret C hr (so1 h) dX1_nodesWithEdges_39
theorem wX1_nodesWithEdges_32 (C : CxC p rmX1_nodesWithEdges s m args meth c D ac q xa xv RX1 cX1_nodesWithEdges 3) (hr : meth.sig.returnType = (some .int)){k : Nat} (hk : kdC k = 23) {v1 : Int} {v2 : Int} {c4 : Int → Int → Option (Int)} {σ : Mm} {r : Int} (hc4 : ∀ (v1x : Int) (v2x : Int) (ls : Array Slot), lv_has ls 3 [(0, .ref (q k)), (1, .int (i32 v1x)), (2, .int (i32 v2x))] → c4 v1x v2x = some r → VC p l e rmX1_nodesWithEdges s m args below meth c D ac q (QIC D ac q xa xv below args s (r, σ)) σ (F0 m 4 ls [])) (hl : lv_has ls 3 [(0, .ref (q k)), (1, .int (i32 v1)), (2, .int (i32 v2))]) (h : fX1_nodesWithEdges_32 k c4 v1 v2 σ = some r) : VC p l e rmX1_nodesWithEdges s m args below meth c D ac q (QIC D ac q xa xv below args s (r, σ)) σ (F0 m 32 ls []) := by
  have h : bindv (v2 + 1) (fun v2_1 => c4 v1 v2_1) = some r := h
  refine v_iinc C hl (fun x => [(2, .int (i32 x)), (0, .ref (q k)), (1, .int (i32 v1))]) dX1_nodesWithEdges_32 2 rfl (by decide) (fun _ => rfl) h (fun v2_1 ls hl h => ?_)
  refine v_goto C (tgt := 4) dX1_nodesWithEdges_35 rfl ?_
  exact hc4 _ _ _ (lv_sub hl [1, 2, 0] rfl) h
theorem wX1_nodesWithEdges_4 (C : CxC p rmX1_nodesWithEdges s m args meth c D ac q xa xv RX1 cX1_nodesWithEdges 3) (hr : meth.sig.returnType = (some .int)){k : Nat} (hk : kdC k = 23) {σ : Mm} {v1 : Int} {v2 : Int} {e4 : Int → Option (Int)} {c4 : Int → Int → Option (Int)} {r : Int} (he4 : ∀ (v1x : Int) (ls : Array Slot), lv_has ls 3 [(0, .ref (q k)), (1, .int (i32 v1x))] → e4 v1x = some r → VC p l e rmX1_nodesWithEdges s m args below meth c D ac q (QIC D ac q xa xv below args s (r, σ)) σ (F0 m 38 ls [])) (hc4 : ∀ (v1x : Int) (v2x : Int) (ls : Array Slot), lv_has ls 3 [(0, .ref (q k)), (1, .int (i32 v1x)), (2, .int (i32 v2x))] → c4 v1x v2x = some r → VC p l e rmX1_nodesWithEdges s m args below meth c D ac q (QIC D ac q xa xv below args s (r, σ)) σ (F0 m 4 ls [])) (hl : lv_has ls 3 [(0, .ref (q k)), (1, .int (i32 v1)), (2, .int (i32 v2))]) (h : fX1_nodesWithEdges_4 k σ e4 c4 v1 v2 = some r) : VC p l e rmX1_nodesWithEdges s m args below meth c D ac q (QIC D ac q xa xv below args s (r, σ)) σ (F0 m 4 ls []) := by
  have h : cr v2 (cr (σ k 9) ((if v2 < σ k 9 then chk v2 24 (cr (σ (k + 9) (v2).toNat) ((if 0 < σ (k + 9) (v2).toNat then bd (fX1_isNode k v2 σ) (fun x_4 => cr x_4 ((if x_4 = 0 then fX1_nodesWithEdges_32 k c4 v1 v2 σ else bindv (v1 + 1) (fun v1_6 => fX1_nodesWithEdges_32 k c4 v1_6 v2 σ)))) else fX1_nodesWithEdges_32 k c4 v1 v2 σ))) else e4 v1))) = some r := h
  refine v_iload_n C hl dX1_nodesWithEdges_4 rfl 2 rfl ?_
  refine v_aload_n C hl dX1_nodesWithEdges_5 rfl 0 rfl ?_
  refine g_X1_9 C hk fl_X1_42 dX1_nodesWithEdges_6 ?_
  have hz1 := (cr_e h).1
  have h := (cr_e h).2
  have hz2 := (cr_e h).1
  have h := (cr_e h).2
  refine v_icmp_ge C (tgt := 38) hz1 hz2 h dX1_nodesWithEdges_9 rfl (fun h => ?_) (fun h => ?_)
  · exact he4 _ _ (lv_sub hl [0, 1] rfl) h
  · refine v_aload_n C hl dX1_nodesWithEdges_12 rfl 0 rfl ?_
    refine g_X1_8 C hk fl_X1_39 dX1_nodesWithEdges_13 ?_
    refine v_iload_n C hl dX1_nodesWithEdges_16 rfl 2 rfl ?_
    refine alC8 C (kfC23_8 hk) h dX1_nodesWithEdges_17 (fun h => ?_)
    have hz3 := (cr_e h).1
    have h := (cr_e h).2
    refine v_if_le C (tgt := 32) hz3 h dX1_nodesWithEdges_18 rfl (fun h => ?_) (fun h => ?_)
    · exact wX1_nodesWithEdges_32 C hr hk hc4 (lv_sub hl [0, 1, 2] rfl) h
    · refine v_aload_n C hl dX1_nodesWithEdges_21 rfl 0 rfl ?_
      refine v_iload_n C hl dX1_nodesWithEdges_22 rfl 2 rfl ?_
      obtain ⟨x_4, hv4, h⟩ := bd_e h
      refine v_callVI C k (klC hk) rfl (ckC23 hk _) rfl [.int (i32 v2)] (mX1_isNode C.2.2.2.2.1 hk hv4) cd_X1_isNode ic_X1 im_X1_isNode se_X1_isNode ml_X1_69 yk_X1_isNode ⟨rfl, rfl, by decide, by decide⟩ rfl hl.1 (rest := []) rfl (Nat.le_of_ble_eq_true rfl) dX1_nodesWithEdges_23 ?_
      have hz5 := (cr_e h).1
      have h := (cr_e h).2
      refine v_if_eq C (tgt := 32) hz5 h dX1_nodesWithEdges_26 rfl (fun h => ?_) (fun h => ?_)
      · exact wX1_nodesWithEdges_32 C hr hk hc4 (lv_sub hl [0, 1, 2] rfl) h
      · refine v_iinc C hl (fun x => [(1, .int (i32 x)), (0, .ref (q k)), (2, .int (i32 v2))]) dX1_nodesWithEdges_29 1 rfl (by decide) (fun _ => rfl) h (fun v1_6 ls hl h => ?_)
        exact wX1_nodesWithEdges_32 C hr hk hc4 (lv_sub hl [1, 0, 2] rfl) h
theorem wlX1_nodesWithEdges_4 (C : CxC p rmX1_nodesWithEdges s m args meth c D ac q xa xv RX1 cX1_nodesWithEdges 3) (hr : meth.sig.returnType = (some .int)){k : Nat} (hk : kdC k = 23) {σ : Mm} {e4 : Int → Option (Int)} {r : Int} (he4 : ∀ (v1x : Int) (ls : Array Slot), lv_has ls 3 [(0, .ref (q k)), (1, .int (i32 v1x))] → e4 v1x = some r → VC p l e rmX1_nodesWithEdges s m args below meth c D ac q (QIC D ac q xa xv below args s (r, σ)) σ (F0 m 38 ls [])) : ∀ (fu : Nat) (v1 : Int) (v2 : Int) (ls : Array Slot) (hl : lv_has ls 3 [(0, .ref (q k)), (1, .int (i32 v1)), (2, .int (i32 v2))]) (h : lX1_nodesWithEdges_4 k σ e4 fu v1 v2 = some r), VC p l e rmX1_nodesWithEdges s m args below meth c D ac q (QIC D ac q xa xv below args s (r, σ)) σ (F0 m 4 ls []) := by
  intro fu
  induction fu with
  | zero =>
    intro v1 v2 ls hl h
    have h : none = some r := h
    cases h
  | succ fu ih =>
    intro v1 v2 ls hl h
    exact wX1_nodesWithEdges_4 C hr hk he4 (fun v1 v2 ls hl h => ih v1 v2 ls hl h) hl h
theorem mX1_nodesWithEdges (hq : QI 175 q) {k : Nat} (hk : kdC k = 23) {σ : Mm} {r : Int} (h : fX1_nodesWithEdges k σ = some r) : MIC l D ac q xa xv yX1_nodesWithEdges cX1_nodesWithEdges 3 (some .int) rmX1_nodesWithEdges [.ref (q k)] σ (r, σ) := by
  refine MI.of hq XC_M (by decide) (Nat.le_of_ble_eq_true rfl) (fun p e s m below meth c ls C hr hl => ?_)
  have hl : lv_has ls 3 [(0, .ref (q k))] := hl
  have h : bindv 0 (fun v1_1 => bindv 0 (fun v2_2 => lX1_nodesWithEdges_4 k σ (fun v1_3 => fX1_nodesWithEdges_38 k v1_3 σ) 400 v1_1 v2_2)) = some r := h
  refine v_iconst C dX1_nodesWithEdges_0 ?_
  refine v_istore_n C hl (fun x => [(1, .int (i32 x)), (0, .ref (q k))]) dX1_nodesWithEdges_1 rfl (by decide) (fun _ => rfl) h (fun v1_1 ls hl h => ?_)
  refine v_iconst C dX1_nodesWithEdges_2 ?_
  refine v_istore_n C hl (fun x => [(2, .int (i32 x)), (1, .int (i32 v1_1)), (0, .ref (q k))]) dX1_nodesWithEdges_3 rfl (by decide) (fun _ => rfl) h (fun v2_2 ls hl h => ?_)
  exact wlX1_nodesWithEdges_4 C hr hk (fun v1_3 ls hl h => wX1_nodesWithEdges_38 C hr hk (lv_sub hl [0, 1] rfl) h) _ _ _ _ (lv_sub hl [2, 1, 0] rfl) h
end
section
variable {l : Launch} {D : va_G} {ac : Nat → ClassId} {q xa xv : Nat → Nat} {p : Program} {e : Env} {s : State} {m : MethodId} {args : Array Value} {below : List Frame} {meth : Method} {c : Code} {ls : Array Slot}
theorem dX1_openRing_0 : decode cX1_openRing 0 = .ok (.aload_n 0, 1) := by decide +kernel
theorem dX1_openRing_1 : decode cX1_openRing 1 = .ok (.getfield 46, 3) := by decide +kernel
theorem dX1_openRing_4 : decode cX1_openRing 4 = .ok (.bipush 6, 2) := by decide +kernel
theorem dX1_openRing_6 : decode cX1_openRing 6 = .ok (.if_icmp .ge 23, 3) := by decide +kernel
theorem dX1_openRing_9 : decode cX1_openRing 9 = .ok (.aload_n 0, 1) := by decide +kernel
theorem dX1_openRing_10 : decode cX1_openRing 10 = .ok (.getfield 27, 3) := by decide +kernel
theorem dX1_openRing_13 : decode cX1_openRing 13 = .ok (.aload_n 0, 1) := by decide +kernel
theorem dX1_openRing_14 : decode cX1_openRing 14 = .ok (.getfield 46, 3) := by decide +kernel
theorem dX1_openRing_17 : decode cX1_openRing 17 = .ok (.iconst 0, 1) := by decide +kernel
theorem dX1_openRing_18 : decode cX1_openRing 18 = .ok (.iastore, 1) := by decide +kernel
theorem dX1_openRing_19 : decode cX1_openRing 19 = .ok (.aload_n 0, 1) := by decide +kernel
theorem dX1_openRing_20 : decode cX1_openRing 20 = .ok (.dup, 1) := by decide +kernel
theorem dX1_openRing_21 : decode cX1_openRing 21 = .ok (.getfield 46, 3) := by decide +kernel
theorem dX1_openRing_24 : decode cX1_openRing 24 = .ok (.iconst 1, 1) := by decide +kernel
theorem dX1_openRing_25 : decode cX1_openRing 25 = .ok (.iadd, 1) := by decide +kernel
theorem dX1_openRing_26 : decode cX1_openRing 26 = .ok (.putfield 46, 3) := by decide +kernel
theorem dX1_openRing_29 : decode cX1_openRing 29 = .ok (.return_, 1) := by decide +kernel
theorem wX1_openRing_29 (C : CxC p rmX1_openRing s m args meth c D ac q xa xv RX1 cX1_openRing 1) (hr : meth.sig.returnType = none){k : Nat} (hk : kdC k = 23) {σ : Mm} {r : Mm} (hl : lv_has ls 1 [(0, .ref (q k))]) (h : fX1_openRing_29 k σ = some r) : VC p l e rmX1_openRing s m args below meth c D ac q (QVC D ac q xa xv below args s r) σ (F0 m 29 ls []) := by
  have h : some σ = some r := h
  exact v_vret C hr h dX1_openRing_29
theorem mX1_openRing (hq : QI 175 q) {k : Nat} (hk : kdC k = 23) {σ : Mm} {r : Mm} (h : fX1_openRing k σ = some r) : MVC l D ac q xa xv yX1_openRing cX1_openRing 1 none rmX1_openRing [.ref (q k)] σ r := by
  refine MV.of hq XC_M (by decide) (Nat.le_of_ble_eq_true rfl) (fun p e s m below meth c ls C hr hl => ?_)
  have hl : lv_has ls 1 [(0, .ref (q k))] := hl
  have h : cr (σ k 10) ((if σ k 10 < 6 then chk (σ k 10) 6 (bindv (sto σ (k + 5) (σ k 10).toNat 0) (fun σ_2 => bindv (sto σ_2 k 10 ((σ_2 k 10) + 1)) (fun σ_3 => fX1_openRing_29 k σ_3))) else fX1_openRing_29 k σ)) = some r := h
  refine v_aload_n C hl dX1_openRing_0 rfl 0 rfl ?_
  refine g_X1_10 C hk fl_X1_46 dX1_openRing_1 ?_
  refine v_bipush C dX1_openRing_4 rfl ?_
  have hz1 := (cr_e h).1
  have h := (cr_e h).2
  refine v_icmp_ge C (tgt := 29) hz1 (by decide) h dX1_openRing_6 rfl (fun h => ?_) (fun h => ?_)
  · exact wX1_openRing_29 C hr hk (lv_sub hl [0] rfl) h
  · refine v_aload_n C hl dX1_openRing_9 rfl 0 rfl ?_
    refine g_X1_4 C hk fl_X1_27 dX1_openRing_10 ?_
    refine v_aload_n C hl dX1_openRing_13 rfl 0 rfl ?_
    refine g_X1_10 C hk fl_X1_46 dX1_openRing_14 ?_
    refine v_iconst C dX1_openRing_17 ?_
    refine asC14 C (kfC23_4 hk) h dX1_openRing_18 (fun σ_2 h => ?_)
    refine v_aload_n C hl dX1_openRing_19 rfl 0 rfl ?_
    refine v_dup C dX1_openRing_20 rfl ?_
    refine g_X1_10 C hk fl_X1_46 dX1_openRing_21 ?_
    refine v_iconst C dX1_openRing_24 ?_
    refine v_iadd C dX1_openRing_25 ?_
    refine s_X1_10 C hk fl_X1_46 h dX1_openRing_26 (fun σ_3 h => ?_)
    exact wX1_openRing_29 C hr hk (lv_sub hl [0] rfl) h
end
section
variable {l : Launch} {D : va_G} {ac : Nat → ClassId} {q xa xv : Nat → Nat} {p : Program} {e : Env} {s : State} {m : MethodId} {args : Array Value} {below : List Frame} {meth : Method} {c : Code} {ls : Array Slot}
theorem dX1_pinned_0 : decode cX1_pinned 0 = .ok (.iconst 0, 1) := by decide +kernel
theorem dX1_pinned_1 : decode cX1_pinned 1 = .ok (.istore_n 1, 1) := by decide +kernel
theorem dX1_pinned_2 : decode cX1_pinned 2 = .ok (.iconst 0, 1) := by decide +kernel
theorem dX1_pinned_3 : decode cX1_pinned 3 = .ok (.istore_n 2, 1) := by decide +kernel
theorem dX1_pinned_4 : decode cX1_pinned 4 = .ok (.iload_n 2, 1) := by decide +kernel
theorem dX1_pinned_5 : decode cX1_pinned 5 = .ok (.aload_n 0, 1) := by decide +kernel
theorem dX1_pinned_6 : decode cX1_pinned 6 = .ok (.getfield 42, 3) := by decide +kernel
theorem dX1_pinned_9 : decode cX1_pinned 9 = .ok (.if_icmp .ge 21, 3) := by decide +kernel
theorem dX1_pinned_12 : decode cX1_pinned 12 = .ok (.aload_n 0, 1) := by decide +kernel
theorem dX1_pinned_13 : decode cX1_pinned 13 = .ok (.getfield 18, 3) := by decide +kernel
theorem dX1_pinned_16 : decode cX1_pinned 16 = .ok (.iload_n 2, 1) := by decide +kernel
theorem dX1_pinned_17 : decode cX1_pinned 17 = .ok (.baload, 1) := by decide +kernel
theorem dX1_pinned_18 : decode cX1_pinned 18 = .ok (.ifCond .eq 6, 3) := by decide +kernel
theorem dX1_pinned_21 : decode cX1_pinned 21 = .ok (.iinc 1 1, 3) := by decide +kernel
theorem dX1_pinned_24 : decode cX1_pinned 24 = .ok (.iinc 2 1, 3) := by decide +kernel
theorem dX1_pinned_27 : decode cX1_pinned 27 = .ok (.goto (-23), 3) := by decide +kernel
theorem dX1_pinned_30 : decode cX1_pinned 30 = .ok (.iload_n 1, 1) := by decide +kernel
theorem dX1_pinned_31 : decode cX1_pinned 31 = .ok (.ireturn, 1) := by decide +kernel
theorem wX1_pinned_30 (C : CxC p rmX1_pinned s m args meth c D ac q xa xv RX1 cX1_pinned 3) (hr : meth.sig.returnType = (some .int)){k : Nat} (hk : kdC k = 23) {v1 : Int} {σ : Mm} {r : Int} (hl : lv_has ls 3 [(0, .ref (q k)), (1, .int (i32 v1))]) (h : fX1_pinned_30 k v1 σ = some r) : VC p l e rmX1_pinned s m args below meth c D ac q (QIC D ac q xa xv below args s (r, σ)) σ (F0 m 30 ls []) := by
  have h : some v1 = some r := h
  refine v_iload_n C hl dX1_pinned_30 rfl 1 rfl ?_
  exact v_iret C hr (so1 h) dX1_pinned_31
theorem wX1_pinned_24 (C : CxC p rmX1_pinned s m args meth c D ac q xa xv RX1 cX1_pinned 3) (hr : meth.sig.returnType = (some .int)){k : Nat} (hk : kdC k = 23) {v1 : Int} {v2 : Int} {c4 : Int → Int → Option (Int)} {σ : Mm} {r : Int} (hc4 : ∀ (v1x : Int) (v2x : Int) (ls : Array Slot), lv_has ls 3 [(0, .ref (q k)), (1, .int (i32 v1x)), (2, .int (i32 v2x))] → c4 v1x v2x = some r → VC p l e rmX1_pinned s m args below meth c D ac q (QIC D ac q xa xv below args s (r, σ)) σ (F0 m 4 ls [])) (hl : lv_has ls 3 [(0, .ref (q k)), (1, .int (i32 v1)), (2, .int (i32 v2))]) (h : fX1_pinned_24 k c4 v1 v2 σ = some r) : VC p l e rmX1_pinned s m args below meth c D ac q (QIC D ac q xa xv below args s (r, σ)) σ (F0 m 24 ls []) := by
  have h : bindv (v2 + 1) (fun v2_1 => c4 v1 v2_1) = some r := h
  refine v_iinc C hl (fun x => [(2, .int (i32 x)), (0, .ref (q k)), (1, .int (i32 v1))]) dX1_pinned_24 2 rfl (by decide) (fun _ => rfl) h (fun v2_1 ls hl h => ?_)
  refine v_goto C (tgt := 4) dX1_pinned_27 rfl ?_
  exact hc4 _ _ _ (lv_sub hl [1, 2, 0] rfl) h
theorem wX1_pinned_4 (C : CxC p rmX1_pinned s m args meth c D ac q xa xv RX1 cX1_pinned 3) (hr : meth.sig.returnType = (some .int)){k : Nat} (hk : kdC k = 23) {σ : Mm} {v1 : Int} {v2 : Int} {e4 : Int → Option (Int)} {c4 : Int → Int → Option (Int)} {r : Int} (he4 : ∀ (v1x : Int) (ls : Array Slot), lv_has ls 3 [(0, .ref (q k)), (1, .int (i32 v1x))] → e4 v1x = some r → VC p l e rmX1_pinned s m args below meth c D ac q (QIC D ac q xa xv below args s (r, σ)) σ (F0 m 30 ls [])) (hc4 : ∀ (v1x : Int) (v2x : Int) (ls : Array Slot), lv_has ls 3 [(0, .ref (q k)), (1, .int (i32 v1x)), (2, .int (i32 v2x))] → c4 v1x v2x = some r → VC p l e rmX1_pinned s m args below meth c D ac q (QIC D ac q xa xv below args s (r, σ)) σ (F0 m 4 ls [])) (hl : lv_has ls 3 [(0, .ref (q k)), (1, .int (i32 v1)), (2, .int (i32 v2))]) (h : fX1_pinned_4 k σ e4 c4 v1 v2 = some r) : VC p l e rmX1_pinned s m args below meth c D ac q (QIC D ac q xa xv below args s (r, σ)) σ (F0 m 4 ls []) := by
  have h : cr v2 (cr (σ k 9) ((if v2 < σ k 9 then chk v2 24 (cr (σ (k + 3) (v2).toNat) ((if σ (k + 3) (v2).toNat = 0 then fX1_pinned_24 k c4 v1 v2 σ else bindv (v1 + 1) (fun v1_4 => fX1_pinned_24 k c4 v1_4 v2 σ)))) else e4 v1))) = some r := h
  refine v_iload_n C hl dX1_pinned_4 rfl 2 rfl ?_
  refine v_aload_n C hl dX1_pinned_5 rfl 0 rfl ?_
  refine g_X1_9 C hk fl_X1_42 dX1_pinned_6 ?_
  have hz1 := (cr_e h).1
  have h := (cr_e h).2
  have hz2 := (cr_e h).1
  have h := (cr_e h).2
  refine v_icmp_ge C (tgt := 30) hz1 hz2 h dX1_pinned_9 rfl (fun h => ?_) (fun h => ?_)
  · exact he4 _ _ (lv_sub hl [0, 1] rfl) h
  · refine v_aload_n C hl dX1_pinned_12 rfl 0 rfl ?_
    refine g_X1_2 C hk fl_X1_18 dX1_pinned_13 ?_
    refine v_iload_n C hl dX1_pinned_16 rfl 2 rfl ?_
    refine alC15 C (kfC23_2 hk) h dX1_pinned_17 (fun h => ?_)
    have hz3 := (cr_e h).1
    have h := (cr_e h).2
    refine v_if_eq C (tgt := 24) hz3 h dX1_pinned_18 rfl (fun h => ?_) (fun h => ?_)
    · exact wX1_pinned_24 C hr hk hc4 (lv_sub hl [0, 1, 2] rfl) h
    · refine v_iinc C hl (fun x => [(1, .int (i32 x)), (0, .ref (q k)), (2, .int (i32 v2))]) dX1_pinned_21 1 rfl (by decide) (fun _ => rfl) h (fun v1_4 ls hl h => ?_)
      exact wX1_pinned_24 C hr hk hc4 (lv_sub hl [1, 0, 2] rfl) h
theorem wlX1_pinned_4 (C : CxC p rmX1_pinned s m args meth c D ac q xa xv RX1 cX1_pinned 3) (hr : meth.sig.returnType = (some .int)){k : Nat} (hk : kdC k = 23) {σ : Mm} {e4 : Int → Option (Int)} {r : Int} (he4 : ∀ (v1x : Int) (ls : Array Slot), lv_has ls 3 [(0, .ref (q k)), (1, .int (i32 v1x))] → e4 v1x = some r → VC p l e rmX1_pinned s m args below meth c D ac q (QIC D ac q xa xv below args s (r, σ)) σ (F0 m 30 ls [])) : ∀ (fu : Nat) (v1 : Int) (v2 : Int) (ls : Array Slot) (hl : lv_has ls 3 [(0, .ref (q k)), (1, .int (i32 v1)), (2, .int (i32 v2))]) (h : lX1_pinned_4 k σ e4 fu v1 v2 = some r), VC p l e rmX1_pinned s m args below meth c D ac q (QIC D ac q xa xv below args s (r, σ)) σ (F0 m 4 ls []) := by
  intro fu
  induction fu with
  | zero =>
    intro v1 v2 ls hl h
    have h : none = some r := h
    cases h
  | succ fu ih =>
    intro v1 v2 ls hl h
    exact wX1_pinned_4 C hr hk he4 (fun v1 v2 ls hl h => ih v1 v2 ls hl h) hl h
theorem mX1_pinned (hq : QI 175 q) {k : Nat} (hk : kdC k = 23) {σ : Mm} {r : Int} (h : fX1_pinned k σ = some r) : MIC l D ac q xa xv yX1_pinned cX1_pinned 3 (some .int) rmX1_pinned [.ref (q k)] σ (r, σ) := by
  refine MI.of hq XC_M (by decide) (Nat.le_of_ble_eq_true rfl) (fun p e s m below meth c ls C hr hl => ?_)
  have hl : lv_has ls 3 [(0, .ref (q k))] := hl
  have h : bindv 0 (fun v1_1 => bindv 0 (fun v2_2 => lX1_pinned_4 k σ (fun v1_3 => fX1_pinned_30 k v1_3 σ) 400 v1_1 v2_2)) = some r := h
  refine v_iconst C dX1_pinned_0 ?_
  refine v_istore_n C hl (fun x => [(1, .int (i32 x)), (0, .ref (q k))]) dX1_pinned_1 rfl (by decide) (fun _ => rfl) h (fun v1_1 ls hl h => ?_)
  refine v_iconst C dX1_pinned_2 ?_
  refine v_istore_n C hl (fun x => [(2, .int (i32 x)), (1, .int (i32 v1_1)), (0, .ref (q k))]) dX1_pinned_3 rfl (by decide) (fun _ => rfl) h (fun v2_2 ls hl h => ?_)
  exact wlX1_pinned_4 C hr hk (fun v1_3 ls hl h => wX1_pinned_30 C hr hk (lv_sub hl [0, 1] rfl) h) _ _ _ _ (lv_sub hl [2, 1, 0] rfl) h
end
section
variable {l : Launch} {D : va_G} {ac : Nat → ClassId} {q xa xv : Nat → Nat} {p : Program} {e : Env} {s : State} {m : MethodId} {args : Array Value} {below : List Frame} {meth : Method} {c : Code} {ls : Array Slot}
theorem dX1_pointsWithEdges_0 : decode cX1_pointsWithEdges 0 = .ok (.iconst 0, 1) := by decide +kernel
theorem dX1_pointsWithEdges_1 : decode cX1_pointsWithEdges 1 = .ok (.istore_n 1, 1) := by decide +kernel
theorem dX1_pointsWithEdges_2 : decode cX1_pointsWithEdges 2 = .ok (.iconst 0, 1) := by decide +kernel
theorem dX1_pointsWithEdges_3 : decode cX1_pointsWithEdges 3 = .ok (.istore_n 2, 1) := by decide +kernel
theorem dX1_pointsWithEdges_4 : decode cX1_pointsWithEdges 4 = .ok (.iload_n 2, 1) := by decide +kernel
theorem dX1_pointsWithEdges_5 : decode cX1_pointsWithEdges 5 = .ok (.aload_n 0, 1) := by decide +kernel
theorem dX1_pointsWithEdges_6 : decode cX1_pointsWithEdges 6 = .ok (.getfield 42, 3) := by decide +kernel
theorem dX1_pointsWithEdges_9 : decode cX1_pointsWithEdges 9 = .ok (.if_icmp .ge 21, 3) := by decide +kernel
theorem dX1_pointsWithEdges_12 : decode cX1_pointsWithEdges 12 = .ok (.aload_n 0, 1) := by decide +kernel
theorem dX1_pointsWithEdges_13 : decode cX1_pointsWithEdges 13 = .ok (.getfield 39, 3) := by decide +kernel
theorem dX1_pointsWithEdges_16 : decode cX1_pointsWithEdges 16 = .ok (.iload_n 2, 1) := by decide +kernel
theorem dX1_pointsWithEdges_17 : decode cX1_pointsWithEdges 17 = .ok (.iaload, 1) := by decide +kernel
theorem dX1_pointsWithEdges_18 : decode cX1_pointsWithEdges 18 = .ok (.ifCond .le 6, 3) := by decide +kernel
theorem dX1_pointsWithEdges_21 : decode cX1_pointsWithEdges 21 = .ok (.iinc 1 1, 3) := by decide +kernel
theorem dX1_pointsWithEdges_24 : decode cX1_pointsWithEdges 24 = .ok (.iinc 2 1, 3) := by decide +kernel
theorem dX1_pointsWithEdges_27 : decode cX1_pointsWithEdges 27 = .ok (.goto (-23), 3) := by decide +kernel
theorem dX1_pointsWithEdges_30 : decode cX1_pointsWithEdges 30 = .ok (.iload_n 1, 1) := by decide +kernel
theorem dX1_pointsWithEdges_31 : decode cX1_pointsWithEdges 31 = .ok (.ireturn, 1) := by decide +kernel
theorem wX1_pointsWithEdges_30 (C : CxC p rmX1_pointsWithEdges s m args meth c D ac q xa xv RX1 cX1_pointsWithEdges 3) (hr : meth.sig.returnType = (some .int)){k : Nat} (hk : kdC k = 23) {v1 : Int} {σ : Mm} {r : Int} (hl : lv_has ls 3 [(0, .ref (q k)), (1, .int (i32 v1))]) (h : fX1_pointsWithEdges_30 k v1 σ = some r) : VC p l e rmX1_pointsWithEdges s m args below meth c D ac q (QIC D ac q xa xv below args s (r, σ)) σ (F0 m 30 ls []) := by
  have h : some v1 = some r := h
  refine v_iload_n C hl dX1_pointsWithEdges_30 rfl 1 rfl ?_
  exact v_iret C hr (so1 h) dX1_pointsWithEdges_31
theorem wX1_pointsWithEdges_24 (C : CxC p rmX1_pointsWithEdges s m args meth c D ac q xa xv RX1 cX1_pointsWithEdges 3) (hr : meth.sig.returnType = (some .int)){k : Nat} (hk : kdC k = 23) {v1 : Int} {v2 : Int} {c4 : Int → Int → Option (Int)} {σ : Mm} {r : Int} (hc4 : ∀ (v1x : Int) (v2x : Int) (ls : Array Slot), lv_has ls 3 [(0, .ref (q k)), (1, .int (i32 v1x)), (2, .int (i32 v2x))] → c4 v1x v2x = some r → VC p l e rmX1_pointsWithEdges s m args below meth c D ac q (QIC D ac q xa xv below args s (r, σ)) σ (F0 m 4 ls [])) (hl : lv_has ls 3 [(0, .ref (q k)), (1, .int (i32 v1)), (2, .int (i32 v2))]) (h : fX1_pointsWithEdges_24 k c4 v1 v2 σ = some r) : VC p l e rmX1_pointsWithEdges s m args below meth c D ac q (QIC D ac q xa xv below args s (r, σ)) σ (F0 m 24 ls []) := by
  have h : bindv (v2 + 1) (fun v2_1 => c4 v1 v2_1) = some r := h
  refine v_iinc C hl (fun x => [(2, .int (i32 x)), (0, .ref (q k)), (1, .int (i32 v1))]) dX1_pointsWithEdges_24 2 rfl (by decide) (fun _ => rfl) h (fun v2_1 ls hl h => ?_)
  refine v_goto C (tgt := 4) dX1_pointsWithEdges_27 rfl ?_
  exact hc4 _ _ _ (lv_sub hl [1, 2, 0] rfl) h
theorem wX1_pointsWithEdges_4 (C : CxC p rmX1_pointsWithEdges s m args meth c D ac q xa xv RX1 cX1_pointsWithEdges 3) (hr : meth.sig.returnType = (some .int)){k : Nat} (hk : kdC k = 23) {σ : Mm} {v1 : Int} {v2 : Int} {e4 : Int → Option (Int)} {c4 : Int → Int → Option (Int)} {r : Int} (he4 : ∀ (v1x : Int) (ls : Array Slot), lv_has ls 3 [(0, .ref (q k)), (1, .int (i32 v1x))] → e4 v1x = some r → VC p l e rmX1_pointsWithEdges s m args below meth c D ac q (QIC D ac q xa xv below args s (r, σ)) σ (F0 m 30 ls [])) (hc4 : ∀ (v1x : Int) (v2x : Int) (ls : Array Slot), lv_has ls 3 [(0, .ref (q k)), (1, .int (i32 v1x)), (2, .int (i32 v2x))] → c4 v1x v2x = some r → VC p l e rmX1_pointsWithEdges s m args below meth c D ac q (QIC D ac q xa xv below args s (r, σ)) σ (F0 m 4 ls [])) (hl : lv_has ls 3 [(0, .ref (q k)), (1, .int (i32 v1)), (2, .int (i32 v2))]) (h : fX1_pointsWithEdges_4 k σ e4 c4 v1 v2 = some r) : VC p l e rmX1_pointsWithEdges s m args below meth c D ac q (QIC D ac q xa xv below args s (r, σ)) σ (F0 m 4 ls []) := by
  have h : cr v2 (cr (σ k 9) ((if v2 < σ k 9 then chk v2 24 (cr (σ (k + 9) (v2).toNat) ((if 0 < σ (k + 9) (v2).toNat then bindv (v1 + 1) (fun v1_4 => fX1_pointsWithEdges_24 k c4 v1_4 v2 σ) else fX1_pointsWithEdges_24 k c4 v1 v2 σ))) else e4 v1))) = some r := h
  refine v_iload_n C hl dX1_pointsWithEdges_4 rfl 2 rfl ?_
  refine v_aload_n C hl dX1_pointsWithEdges_5 rfl 0 rfl ?_
  refine g_X1_9 C hk fl_X1_42 dX1_pointsWithEdges_6 ?_
  have hz1 := (cr_e h).1
  have h := (cr_e h).2
  have hz2 := (cr_e h).1
  have h := (cr_e h).2
  refine v_icmp_ge C (tgt := 30) hz1 hz2 h dX1_pointsWithEdges_9 rfl (fun h => ?_) (fun h => ?_)
  · exact he4 _ _ (lv_sub hl [0, 1] rfl) h
  · refine v_aload_n C hl dX1_pointsWithEdges_12 rfl 0 rfl ?_
    refine g_X1_8 C hk fl_X1_39 dX1_pointsWithEdges_13 ?_
    refine v_iload_n C hl dX1_pointsWithEdges_16 rfl 2 rfl ?_
    refine alC8 C (kfC23_8 hk) h dX1_pointsWithEdges_17 (fun h => ?_)
    have hz3 := (cr_e h).1
    have h := (cr_e h).2
    refine v_if_le C (tgt := 24) hz3 h dX1_pointsWithEdges_18 rfl (fun h => ?_) (fun h => ?_)
    · exact wX1_pointsWithEdges_24 C hr hk hc4 (lv_sub hl [0, 1, 2] rfl) h
    · refine v_iinc C hl (fun x => [(1, .int (i32 x)), (0, .ref (q k)), (2, .int (i32 v2))]) dX1_pointsWithEdges_21 1 rfl (by decide) (fun _ => rfl) h (fun v1_4 ls hl h => ?_)
      exact wX1_pointsWithEdges_24 C hr hk hc4 (lv_sub hl [1, 0, 2] rfl) h
theorem wlX1_pointsWithEdges_4 (C : CxC p rmX1_pointsWithEdges s m args meth c D ac q xa xv RX1 cX1_pointsWithEdges 3) (hr : meth.sig.returnType = (some .int)){k : Nat} (hk : kdC k = 23) {σ : Mm} {e4 : Int → Option (Int)} {r : Int} (he4 : ∀ (v1x : Int) (ls : Array Slot), lv_has ls 3 [(0, .ref (q k)), (1, .int (i32 v1x))] → e4 v1x = some r → VC p l e rmX1_pointsWithEdges s m args below meth c D ac q (QIC D ac q xa xv below args s (r, σ)) σ (F0 m 30 ls [])) : ∀ (fu : Nat) (v1 : Int) (v2 : Int) (ls : Array Slot) (hl : lv_has ls 3 [(0, .ref (q k)), (1, .int (i32 v1)), (2, .int (i32 v2))]) (h : lX1_pointsWithEdges_4 k σ e4 fu v1 v2 = some r), VC p l e rmX1_pointsWithEdges s m args below meth c D ac q (QIC D ac q xa xv below args s (r, σ)) σ (F0 m 4 ls []) := by
  intro fu
  induction fu with
  | zero =>
    intro v1 v2 ls hl h
    have h : none = some r := h
    cases h
  | succ fu ih =>
    intro v1 v2 ls hl h
    exact wX1_pointsWithEdges_4 C hr hk he4 (fun v1 v2 ls hl h => ih v1 v2 ls hl h) hl h
theorem mX1_pointsWithEdges (hq : QI 175 q) {k : Nat} (hk : kdC k = 23) {σ : Mm} {r : Int} (h : fX1_pointsWithEdges k σ = some r) : MIC l D ac q xa xv yX1_pointsWithEdges cX1_pointsWithEdges 3 (some .int) rmX1_pointsWithEdges [.ref (q k)] σ (r, σ) := by
  refine MI.of hq XC_M (by decide) (Nat.le_of_ble_eq_true rfl) (fun p e s m below meth c ls C hr hl => ?_)
  have hl : lv_has ls 3 [(0, .ref (q k))] := hl
  have h : bindv 0 (fun v1_1 => bindv 0 (fun v2_2 => lX1_pointsWithEdges_4 k σ (fun v1_3 => fX1_pointsWithEdges_30 k v1_3 σ) 400 v1_1 v2_2)) = some r := h
  refine v_iconst C dX1_pointsWithEdges_0 ?_
  refine v_istore_n C hl (fun x => [(1, .int (i32 x)), (0, .ref (q k))]) dX1_pointsWithEdges_1 rfl (by decide) (fun _ => rfl) h (fun v1_1 ls hl h => ?_)
  refine v_iconst C dX1_pointsWithEdges_2 ?_
  refine v_istore_n C hl (fun x => [(2, .int (i32 x)), (1, .int (i32 v1_1)), (0, .ref (q k))]) dX1_pointsWithEdges_3 rfl (by decide) (fun _ => rfl) h (fun v2_2 ls hl h => ?_)
  exact wlX1_pointsWithEdges_4 C hr hk (fun v1_3 ls hl h => wX1_pointsWithEdges_30 C hr hk (lv_sub hl [0, 1] rfl) h) _ _ _ _ (lv_sub hl [2, 1, 0] rfl) h
end
section
variable {l : Launch} {D : va_G} {ac : Nat → ClassId} {q xa xv : Nat → Nat} {p : Program} {e : Env} {s : State} {m : MethodId} {args : Array Value} {below : List Frame} {meth : Method} {c : Code} {ls : Array Slot}
theorem dX1_shiftIfFair_0 : decode cX1_shiftIfFair 0 = .ok (.aload_n 0, 1) := by decide +kernel
theorem dX1_shiftIfFair_1 : decode cX1_shiftIfFair 1 = .ok (.getfield 9, 3) := by decide +kernel
theorem dX1_shiftIfFair_4 : decode cX1_shiftIfFair 4 = .ok (.iload_n 1, 1) := by decide +kernel
theorem dX1_shiftIfFair_5 : decode cX1_shiftIfFair 5 = .ok (.iaload, 1) := by decide +kernel
theorem dX1_shiftIfFair_6 : decode cX1_shiftIfFair 6 = .ok (.istore 4, 2) := by decide +kernel
theorem dX1_shiftIfFair_8 : decode cX1_shiftIfFair 8 = .ok (.aload_n 0, 1) := by decide +kernel
theorem dX1_shiftIfFair_9 : decode cX1_shiftIfFair 9 = .ok (.getfield 15, 3) := by decide +kernel
theorem dX1_shiftIfFair_12 : decode cX1_shiftIfFair 12 = .ok (.iload_n 1, 1) := by decide +kernel
theorem dX1_shiftIfFair_13 : decode cX1_shiftIfFair 13 = .ok (.iaload, 1) := by decide +kernel
theorem dX1_shiftIfFair_14 : decode cX1_shiftIfFair 14 = .ok (.istore 5, 2) := by decide +kernel
theorem dX1_shiftIfFair_16 : decode cX1_shiftIfFair 16 = .ok (.aload_n 0, 1) := by decide +kernel
theorem dX1_shiftIfFair_17 : decode cX1_shiftIfFair 17 = .ok (.getfield 9, 3) := by decide +kernel
theorem dX1_shiftIfFair_20 : decode cX1_shiftIfFair 20 = .ok (.iload_n 1, 1) := by decide +kernel
theorem dX1_shiftIfFair_21 : decode cX1_shiftIfFair 21 = .ok (.iload_n 2, 1) := by decide +kernel
theorem dX1_shiftIfFair_22 : decode cX1_shiftIfFair 22 = .ok (.iastore, 1) := by decide +kernel
theorem dX1_shiftIfFair_23 : decode cX1_shiftIfFair 23 = .ok (.aload_n 0, 1) := by decide +kernel
theorem dX1_shiftIfFair_24 : decode cX1_shiftIfFair 24 = .ok (.getfield 15, 3) := by decide +kernel
theorem dX1_shiftIfFair_27 : decode cX1_shiftIfFair 27 = .ok (.iload_n 1, 1) := by decide +kernel
theorem dX1_shiftIfFair_28 : decode cX1_shiftIfFair 28 = .ok (.iload_n 3, 1) := by decide +kernel
theorem dX1_shiftIfFair_29 : decode cX1_shiftIfFair 29 = .ok (.iastore, 1) := by decide +kernel
theorem dX1_shiftIfFair_30 : decode cX1_shiftIfFair 30 = .ok (.aload_n 0, 1) := by decide +kernel
theorem dX1_shiftIfFair_31 : decode cX1_shiftIfFair 31 = .ok (.iload_n 1, 1) := by decide +kernel
theorem dX1_shiftIfFair_32 : decode cX1_shiftIfFair 32 = .ok (.invokevirtual 73, 3) := by decide +kernel
theorem dX1_shiftIfFair_35 : decode cX1_shiftIfFair 35 = .ok (.ifCond .eq 12, 3) := by decide +kernel
theorem dX1_shiftIfFair_38 : decode cX1_shiftIfFair 38 = .ok (.aload_n 0, 1) := by decide +kernel
theorem dX1_shiftIfFair_39 : decode cX1_shiftIfFair 39 = .ok (.invokevirtual 76, 3) := by decide +kernel
theorem dX1_shiftIfFair_42 : decode cX1_shiftIfFair 42 = .ok (.ifCond .eq 5, 3) := by decide +kernel
theorem dX1_shiftIfFair_45 : decode cX1_shiftIfFair 45 = .ok (.iconst 1, 1) := by decide +kernel
theorem dX1_shiftIfFair_46 : decode cX1_shiftIfFair 46 = .ok (.ireturn, 1) := by decide +kernel
theorem dX1_shiftIfFair_47 : decode cX1_shiftIfFair 47 = .ok (.aload_n 0, 1) := by decide +kernel
theorem dX1_shiftIfFair_48 : decode cX1_shiftIfFair 48 = .ok (.getfield 9, 3) := by decide +kernel
theorem dX1_shiftIfFair_51 : decode cX1_shiftIfFair 51 = .ok (.iload_n 1, 1) := by decide +kernel
theorem dX1_shiftIfFair_52 : decode cX1_shiftIfFair 52 = .ok (.iload 4, 2) := by decide +kernel
theorem dX1_shiftIfFair_54 : decode cX1_shiftIfFair 54 = .ok (.iastore, 1) := by decide +kernel
theorem dX1_shiftIfFair_55 : decode cX1_shiftIfFair 55 = .ok (.aload_n 0, 1) := by decide +kernel
theorem dX1_shiftIfFair_56 : decode cX1_shiftIfFair 56 = .ok (.getfield 15, 3) := by decide +kernel
theorem dX1_shiftIfFair_59 : decode cX1_shiftIfFair 59 = .ok (.iload_n 1, 1) := by decide +kernel
theorem dX1_shiftIfFair_60 : decode cX1_shiftIfFair 60 = .ok (.iload 5, 2) := by decide +kernel
theorem dX1_shiftIfFair_62 : decode cX1_shiftIfFair 62 = .ok (.iastore, 1) := by decide +kernel
theorem dX1_shiftIfFair_63 : decode cX1_shiftIfFair 63 = .ok (.iconst 0, 1) := by decide +kernel
theorem dX1_shiftIfFair_64 : decode cX1_shiftIfFair 64 = .ok (.ireturn, 1) := by decide +kernel
theorem wX1_shiftIfFair_47 (C : CxC p rmX1_shiftIfFair s m args meth c D ac q xa xv RX1 cX1_shiftIfFair 6) (hr : meth.sig.returnType = (some .boolean)){k : Nat} (hk : kdC k = 23) {v1 : Int} {v4 : Int} {v5 : Int} {σ : Mm} {r : Int × Mm} (hl : lv_has ls 6 [(0, .ref (q k)), (1, .int (i32 v1)), (4, .int (i32 v4)), (5, .int (i32 v5))]) (h : fX1_shiftIfFair_47 k v1 v4 v5 σ = some r) : VC p l e rmX1_shiftIfFair s m args below meth c D ac q (QIC D ac q xa xv below args s r) σ (F0 m 47 ls []) := by
  have h : chk v1 24 (bindv (sto σ (k + 1) (v1).toNat v4) (fun σ_1 => chk v1 24 (bindv (sto σ_1 (k + 2) (v1).toNat v5) (fun σ_2 => some (0, σ_2))))) = some r := h
  refine v_aload_n C hl dX1_shiftIfFair_47 rfl 0 rfl ?_
  refine g_X1_0 C hk fl_X1_9 dX1_shiftIfFair_48 ?_
  refine v_iload_n C hl dX1_shiftIfFair_51 rfl 1 rfl ?_
  refine v_iload C hl dX1_shiftIfFair_52 2 rfl ?_
  refine asC8 C (kfC23_0 hk) h dX1_shiftIfFair_54 (fun σ_1 h => ?_)
  refine v_aload_n C hl dX1_shiftIfFair_55 rfl 0 rfl ?_
  refine g_X1_1 C hk fl_X1_15 dX1_shiftIfFair_56 ?_
  refine v_iload_n C hl dX1_shiftIfFair_59 rfl 1 rfl ?_
  refine v_iload C hl dX1_shiftIfFair_60 3 rfl ?_
  refine asC8 C (kfC23_1 hk) h dX1_shiftIfFair_62 (fun σ_2 h => ?_)
  refine v_iconst C dX1_shiftIfFair_63 ?_
  exact v_zret C hr (Or.inl rfl) h dX1_shiftIfFair_64
theorem mX1_shiftIfFair (hq : QI 175 q) {k : Nat} {v1 : Int} {v2 : Int} {v3 : Int} (hk : kdC k = 23) {σ : Mm} {r : Int × Mm} (h : fX1_shiftIfFair k v1 v2 v3 σ = some r) : MIC l D ac q xa xv yX1_shiftIfFair cX1_shiftIfFair 6 (some .boolean) rmX1_shiftIfFair [.ref (q k), .int (i32 v1), .int (i32 v2), .int (i32 v3)] σ r := by
  refine MI.of hq XC_M (by decide) (Nat.le_of_ble_eq_true rfl) (fun p e s m below meth c ls C hr hl => ?_)
  have hl : lv_has ls 6 [(0, .ref (q k)), (1, .int (i32 v1)), (2, .int (i32 v2)), (3, .int (i32 v3))] := hl
  have h : chk v1 24 (bindv (σ (k + 1) (v1).toNat) (fun v4_1 => chk v1 24 (bindv (σ (k + 2) (v1).toNat) (fun v5_2 => chk v1 24 (bindv (sto σ (k + 1) (v1).toNat v2) (fun σ_3 => chk v1 24 (bindv (sto σ_3 (k + 2) (v1).toNat v3) (fun σ_4 => bd (fX1_isFairAround k v1 σ_4) (fun x_5 => cr x_5 ((if x_5 = 0 then fX1_shiftIfFair_47 k v1 v4_1 v5_2 σ_4 else bd (fX1_areasStand k σ_4) (fun x_7 => cr x_7 ((if x_7 = 0 then fX1_shiftIfFair_47 k v1 v4_1 v5_2 σ_4 else some (1, σ_4))))))))))))))) = some r := h
  refine v_aload_n C hl dX1_shiftIfFair_0 rfl 0 rfl ?_
  refine g_X1_0 C hk fl_X1_9 dX1_shiftIfFair_1 ?_
  refine v_iload_n C hl dX1_shiftIfFair_4 rfl 1 rfl ?_
  refine alC8 C (kfC23_0 hk) h dX1_shiftIfFair_5 (fun h => ?_)
  refine v_istore C hl (fun x => [(4, .int (i32 x)), (0, .ref (q k)), (1, .int (i32 v1)), (2, .int (i32 v2)), (3, .int (i32 v3))]) dX1_shiftIfFair_6 (by decide) (fun _ => rfl) h (fun v4_1 ls hl h => ?_)
  refine v_aload_n C hl dX1_shiftIfFair_8 rfl 1 rfl ?_
  refine g_X1_1 C hk fl_X1_15 dX1_shiftIfFair_9 ?_
  refine v_iload_n C hl dX1_shiftIfFair_12 rfl 2 rfl ?_
  refine alC8 C (kfC23_1 hk) h dX1_shiftIfFair_13 (fun h => ?_)
  refine v_istore C hl (fun x => [(5, .int (i32 x)), (4, .int (i32 v4_1)), (0, .ref (q k)), (1, .int (i32 v1)), (2, .int (i32 v2)), (3, .int (i32 v3))]) dX1_shiftIfFair_14 (by decide) (fun _ => rfl) h (fun v5_2 ls hl h => ?_)
  refine v_aload_n C hl dX1_shiftIfFair_16 rfl 2 rfl ?_
  refine g_X1_0 C hk fl_X1_9 dX1_shiftIfFair_17 ?_
  refine v_iload_n C hl dX1_shiftIfFair_20 rfl 3 rfl ?_
  refine v_iload_n C hl dX1_shiftIfFair_21 rfl 4 rfl ?_
  refine asC8 C (kfC23_0 hk) h dX1_shiftIfFair_22 (fun σ_3 h => ?_)
  refine v_aload_n C hl dX1_shiftIfFair_23 rfl 2 rfl ?_
  refine g_X1_1 C hk fl_X1_15 dX1_shiftIfFair_24 ?_
  refine v_iload_n C hl dX1_shiftIfFair_27 rfl 3 rfl ?_
  refine v_iload_n C hl dX1_shiftIfFair_28 rfl 5 rfl ?_
  refine asC8 C (kfC23_1 hk) h dX1_shiftIfFair_29 (fun σ_4 h => ?_)
  refine v_aload_n C hl dX1_shiftIfFair_30 rfl 2 rfl ?_
  refine v_iload_n C hl dX1_shiftIfFair_31 rfl 3 rfl ?_
  obtain ⟨x_5, hv5, h⟩ := bd_e h
  refine v_callVI C k (klC hk) rfl (ckC23 hk _) rfl [.int (i32 v1)] (mX1_isFairAround C.2.2.2.2.1 hk hv5) cd_X1_isFairAround ic_X1 im_X1_isFairAround se_X1_isFairAround ml_X1_73 yk_X1_isFairAround ⟨rfl, rfl, by decide, by decide⟩ rfl hl.1 (rest := []) rfl (Nat.le_of_ble_eq_true rfl) dX1_shiftIfFair_32 ?_
  have hz6 := (cr_e h).1
  have h := (cr_e h).2
  refine v_if_eq C (tgt := 47) hz6 h dX1_shiftIfFair_35 rfl (fun h => ?_) (fun h => ?_)
  · exact wX1_shiftIfFair_47 C hr hk (lv_sub hl [2, 3, 1, 0] rfl) h
  · refine v_aload_n C hl dX1_shiftIfFair_38 rfl 2 rfl ?_
    obtain ⟨x_7, hv7, h⟩ := bd_e h
    refine v_callVI C k (klC hk) rfl (ckC23 hk _) rfl [] (mX1_areasStand C.2.2.2.2.1 hk hv7) cd_X1_areasStand ic_X1 im_X1_areasStand se_X1_areasStand ml_X1_76 yk_X1_areasStand ⟨rfl, rfl, by decide, by decide⟩ rfl hl.1 (rest := []) rfl (Nat.le_of_ble_eq_true rfl) dX1_shiftIfFair_39 ?_
    have hz8 := (cr_e h).1
    have h := (cr_e h).2
    refine v_if_eq C (tgt := 47) hz8 h dX1_shiftIfFair_42 rfl (fun h => ?_) (fun h => ?_)
    · exact wX1_shiftIfFair_47 C hr hk (lv_sub hl [2, 3, 1, 0] rfl) h
    · refine v_iconst C dX1_shiftIfFair_45 ?_
      exact v_zret C hr (Or.inr rfl) h dX1_shiftIfFair_46
end
section
variable {l : Launch} {D : va_G} {ac : Nat → ClassId} {q xa xv : Nat → Nat} {p : Program} {e : Env} {s : State} {m : MethodId} {args : Array Value} {below : List Frame} {meth : Method} {c : Code} {ls : Array Slot}
theorem dX1_sumOf_0 : decode cX1_sumOf 0 = .ok (.iconst 0, 1) := by decide +kernel
theorem dX1_sumOf_1 : decode cX1_sumOf 1 = .ok (.istore_n 2, 1) := by decide +kernel
theorem dX1_sumOf_2 : decode cX1_sumOf 2 = .ok (.iconst 0, 1) := by decide +kernel
theorem dX1_sumOf_3 : decode cX1_sumOf 3 = .ok (.istore_n 3, 1) := by decide +kernel
theorem dX1_sumOf_4 : decode cX1_sumOf 4 = .ok (.iload_n 3, 1) := by decide +kernel
theorem dX1_sumOf_5 : decode cX1_sumOf 5 = .ok (.aload_n 0, 1) := by decide +kernel
theorem dX1_sumOf_6 : decode cX1_sumOf 6 = .ok (.getfield 42, 3) := by decide +kernel
theorem dX1_sumOf_9 : decode cX1_sumOf 9 = .ok (.if_icmp .ge 15, 3) := by decide +kernel
theorem dX1_sumOf_12 : decode cX1_sumOf 12 = .ok (.iload_n 2, 1) := by decide +kernel
theorem dX1_sumOf_13 : decode cX1_sumOf 13 = .ok (.aload_n 1, 1) := by decide +kernel
theorem dX1_sumOf_14 : decode cX1_sumOf 14 = .ok (.iload_n 3, 1) := by decide +kernel
theorem dX1_sumOf_15 : decode cX1_sumOf 15 = .ok (.iaload, 1) := by decide +kernel
theorem dX1_sumOf_16 : decode cX1_sumOf 16 = .ok (.iadd, 1) := by decide +kernel
theorem dX1_sumOf_17 : decode cX1_sumOf 17 = .ok (.istore_n 2, 1) := by decide +kernel
theorem dX1_sumOf_18 : decode cX1_sumOf 18 = .ok (.iinc 3 1, 3) := by decide +kernel
theorem dX1_sumOf_21 : decode cX1_sumOf 21 = .ok (.goto (-17), 3) := by decide +kernel
theorem dX1_sumOf_24 : decode cX1_sumOf 24 = .ok (.iload_n 2, 1) := by decide +kernel
theorem dX1_sumOf_25 : decode cX1_sumOf 25 = .ok (.ireturn, 1) := by decide +kernel
theorem wX1_sumOf_24 (C : CxC p rmX1_sumOf s m args meth c D ac q xa xv RX1 cX1_sumOf 4) (hr : meth.sig.returnType = (some .int)){k : Nat} {w1 : Nat} (hk : kdC k = 23) (hw1 : kdC w1 = 8) {v2 : Int} {σ : Mm} {r : Int} (hl : lv_has ls 4 [(0, .ref (q k)), (2, .int (i32 v2))]) (h : fX1_sumOf_24 k w1 v2 σ = some r) : VC p l e rmX1_sumOf s m args below meth c D ac q (QIC D ac q xa xv below args s (r, σ)) σ (F0 m 24 ls []) := by
  have h : some v2 = some r := h
  refine v_iload_n C hl dX1_sumOf_24 rfl 1 rfl ?_
  exact v_iret C hr (so1 h) dX1_sumOf_25
theorem wX1_sumOf_4 (C : CxC p rmX1_sumOf s m args meth c D ac q xa xv RX1 cX1_sumOf 4) (hr : meth.sig.returnType = (some .int)){k : Nat} {w1 : Nat} (hk : kdC k = 23) (hw1 : kdC w1 = 8) {σ : Mm} {v2 : Int} {v3 : Int} {e4 : Int → Option (Int)} {c4 : Int → Int → Option (Int)} {r : Int} (he4 : ∀ (v2x : Int) (ls : Array Slot), lv_has ls 4 [(0, .ref (q k)), (2, .int (i32 v2x))] → e4 v2x = some r → VC p l e rmX1_sumOf s m args below meth c D ac q (QIC D ac q xa xv below args s (r, σ)) σ (F0 m 24 ls [])) (hc4 : ∀ (v2x : Int) (v3x : Int) (ls : Array Slot), lv_has ls 4 [(0, .ref (q k)), (1, .ref (q w1)), (2, .int (i32 v2x)), (3, .int (i32 v3x))] → c4 v2x v3x = some r → VC p l e rmX1_sumOf s m args below meth c D ac q (QIC D ac q xa xv below args s (r, σ)) σ (F0 m 4 ls [])) (hl : lv_has ls 4 [(0, .ref (q k)), (1, .ref (q w1)), (2, .int (i32 v2)), (3, .int (i32 v3))]) (h : fX1_sumOf_4 k w1 σ e4 c4 v2 v3 = some r) : VC p l e rmX1_sumOf s m args below meth c D ac q (QIC D ac q xa xv below args s (r, σ)) σ (F0 m 4 ls []) := by
  have h : cr v3 (cr (σ k 9) ((if v3 < σ k 9 then chk v3 24 (bindv (v2 + (σ w1 (v3).toNat)) (fun v2_3 => bindv (v3 + 1) (fun v3_4 => c4 v2_3 v3_4))) else e4 v2))) = some r := h
  refine v_iload_n C hl dX1_sumOf_4 rfl 3 rfl ?_
  refine v_aload_n C hl dX1_sumOf_5 rfl 0 rfl ?_
  refine g_X1_9 C hk fl_X1_42 dX1_sumOf_6 ?_
  have hz1 := (cr_e h).1
  have h := (cr_e h).2
  have hz2 := (cr_e h).1
  have h := (cr_e h).2
  refine v_icmp_ge C (tgt := 24) hz1 hz2 h dX1_sumOf_9 rfl (fun h => ?_) (fun h => ?_)
  · exact he4 _ _ (lv_sub hl [0, 2] rfl) h
  · refine v_iload_n C hl dX1_sumOf_12 rfl 2 rfl ?_
    refine v_aload_n C hl dX1_sumOf_13 rfl 1 rfl ?_
    refine v_iload_n C hl dX1_sumOf_14 rfl 3 rfl ?_
    refine alC8 C hw1 h dX1_sumOf_15 (fun h => ?_)
    refine v_iadd C dX1_sumOf_16 ?_
    refine v_istore_n C hl (fun x => [(2, .int (i32 x)), (0, .ref (q k)), (1, .ref (q w1)), (3, .int (i32 v3))]) dX1_sumOf_17 rfl (by decide) (fun _ => rfl) h (fun v2_3 ls hl h => ?_)
    refine v_iinc C hl (fun x => [(3, .int (i32 x)), (2, .int (i32 v2_3)), (0, .ref (q k)), (1, .ref (q w1))]) dX1_sumOf_18 3 rfl (by decide) (fun _ => rfl) h (fun v3_4 ls hl h => ?_)
    refine v_goto C (tgt := 4) dX1_sumOf_21 rfl ?_
    exact hc4 _ _ _ (lv_sub hl [2, 3, 1, 0] rfl) h
theorem wlX1_sumOf_4 (C : CxC p rmX1_sumOf s m args meth c D ac q xa xv RX1 cX1_sumOf 4) (hr : meth.sig.returnType = (some .int)){k : Nat} {w1 : Nat} (hk : kdC k = 23) (hw1 : kdC w1 = 8) {σ : Mm} {e4 : Int → Option (Int)} {r : Int} (he4 : ∀ (v2x : Int) (ls : Array Slot), lv_has ls 4 [(0, .ref (q k)), (2, .int (i32 v2x))] → e4 v2x = some r → VC p l e rmX1_sumOf s m args below meth c D ac q (QIC D ac q xa xv below args s (r, σ)) σ (F0 m 24 ls [])) : ∀ (fu : Nat) (v2 : Int) (v3 : Int) (ls : Array Slot) (hl : lv_has ls 4 [(0, .ref (q k)), (1, .ref (q w1)), (2, .int (i32 v2)), (3, .int (i32 v3))]) (h : lX1_sumOf_4 k w1 σ e4 fu v2 v3 = some r), VC p l e rmX1_sumOf s m args below meth c D ac q (QIC D ac q xa xv below args s (r, σ)) σ (F0 m 4 ls []) := by
  intro fu
  induction fu with
  | zero =>
    intro v2 v3 ls hl h
    have h : none = some r := h
    cases h
  | succ fu ih =>
    intro v2 v3 ls hl h
    exact wX1_sumOf_4 C hr hk hw1 he4 (fun v2 v3 ls hl h => ih v2 v3 ls hl h) hl h
theorem mX1_sumOf (hq : QI 175 q) {k : Nat} {w1 : Nat} (hk : kdC k = 23) (hw1 : kdC w1 = 8) {σ : Mm} {r : Int} (h : fX1_sumOf k w1 σ = some r) : MIC l D ac q xa xv yX1_sumOf cX1_sumOf 4 (some .int) rmX1_sumOf [.ref (q k), .ref (q w1)] σ (r, σ) := by
  refine MI.of hq XC_M (by decide) (Nat.le_of_ble_eq_true rfl) (fun p e s m below meth c ls C hr hl => ?_)
  have hl : lv_has ls 4 [(0, .ref (q k)), (1, .ref (q w1))] := hl
  have h : bindv 0 (fun v2_1 => bindv 0 (fun v3_2 => lX1_sumOf_4 k w1 σ (fun v2_3 => fX1_sumOf_24 k w1 v2_3 σ) 400 v2_1 v3_2)) = some r := h
  refine v_iconst C dX1_sumOf_0 ?_
  refine v_istore_n C hl (fun x => [(2, .int (i32 x)), (0, .ref (q k)), (1, .ref (q w1))]) dX1_sumOf_1 rfl (by decide) (fun _ => rfl) h (fun v2_1 ls hl h => ?_)
  refine v_iconst C dX1_sumOf_2 ?_
  refine v_istore_n C hl (fun x => [(3, .int (i32 x)), (2, .int (i32 v2_1)), (0, .ref (q k)), (1, .ref (q w1))]) dX1_sumOf_3 rfl (by decide) (fun _ => rfl) h (fun v3_2 ls hl h => ?_)
  exact wlX1_sumOf_4 C hr hk hw1 (fun v2_3 ls hl h => wX1_sumOf_24 C hr hk hw1 (lv_sub hl [0, 1] rfl) h) _ _ _ _ (lv_sub hl [2, 3, 1, 0] rfl) h
end
section
variable {l : Launch} {D : va_G} {ac : Nat → ClassId} {q xa xv : Nat → Nat} {p : Program} {e : Env} {s : State} {m : MethodId} {args : Array Value} {below : List Frame} {meth : Method} {c : Code} {ls : Array Slot}
theorem dX2_refuse_0 : decode cX2_refuse 0 = .ok (.aload_n 0, 1) := by decide +kernel
theorem dX2_refuse_1 : decode cX2_refuse 1 = .ok (.iload_n 1, 1) := by decide +kernel
theorem dX2_refuse_2 : decode cX2_refuse 2 = .ok (.putfield 28, 3) := by decide +kernel
theorem dX2_refuse_5 : decode cX2_refuse 5 = .ok (.aload_n 0, 1) := by decide +kernel
theorem dX2_refuse_6 : decode cX2_refuse 6 = .ok (.iload_n 2, 1) := by decide +kernel
theorem dX2_refuse_7 : decode cX2_refuse 7 = .ok (.putfield 31, 3) := by decide +kernel
theorem dX2_refuse_10 : decode cX2_refuse 10 = .ok (.iconst 0, 1) := by decide +kernel
theorem dX2_refuse_11 : decode cX2_refuse 11 = .ok (.ireturn, 1) := by decide +kernel
theorem mX2_refuse (hq : QI 175 q) {v1 : Int} {v2 : Int} {σ : Mm} {r : Int × Mm} (h : fX2_refuse v1 v2 σ = some r) : MIC l D ac q xa xv yX2_refuse cX2_refuse 3 (some .boolean) rmX2_refuse [.ref (q 3), .int (i32 v1), .int (i32 v2)] σ r := by
  refine MI.of hq XC_M (by decide) (Nat.le_of_ble_eq_true rfl) (fun p e s m below meth c ls C hr hl => ?_)
  have hl : lv_has ls 3 [(0, .ref (q 3)), (1, .int (i32 v1)), (2, .int (i32 v2))] := hl
  have h : bindv (sto σ 3 6 v1) (fun σ_1 => bindv (sto σ_1 3 7 v2) (fun σ_2 => some (0, σ_2))) = some r := h
  refine v_aload_n C hl dX2_refuse_0 rfl 0 rfl ?_
  refine v_iload_n C hl dX2_refuse_1 rfl 1 rfl ?_
  refine s_X2_6 C kdC_3 fl_X2_28 h dX2_refuse_2 (fun σ_1 h => ?_)
  refine v_aload_n C hl dX2_refuse_5 rfl 0 rfl ?_
  refine v_iload_n C hl dX2_refuse_6 rfl 2 rfl ?_
  refine s_X2_7 C kdC_3 fl_X2_31 h dX2_refuse_7 (fun σ_2 h => ?_)
  refine v_iconst C dX2_refuse_10 ?_
  exact v_zret C hr (Or.inl rfl) h dX2_refuse_11
end
section
variable {l : Launch} {D : va_G} {ac : Nat → ClassId} {q xa xv : Nat → Nat} {p : Program} {e : Env} {s : State} {m : MethodId} {args : Array Value} {below : List Frame} {meth : Method} {c : Code} {ls : Array Slot}
theorem dX2_judgeAll_0 : decode cX2_judgeAll 0 = .ok (.aload_n 0, 1) := by decide +kernel
theorem dX2_judgeAll_1 : decode cX2_judgeAll 1 = .ok (.getfield 15, 3) := by decide +kernel
theorem dX2_judgeAll_4 : decode cX2_judgeAll 4 = .ok (.invokevirtual 47, 3) := by decide +kernel
theorem dX2_judgeAll_7 : decode cX2_judgeAll 7 = .ok (.ifCond .ne 17, 3) := by decide +kernel
theorem dX2_judgeAll_10 : decode cX2_judgeAll 10 = .ok (.aload_n 0, 1) := by decide +kernel
theorem dX2_judgeAll_11 : decode cX2_judgeAll 11 = .ok (.bipush 6, 2) := by decide +kernel
theorem dX2_judgeAll_13 : decode cX2_judgeAll 13 = .ok (.aload_n 0, 1) := by decide +kernel
theorem dX2_judgeAll_14 : decode cX2_judgeAll 14 = .ok (.getfield 9, 3) := by decide +kernel
theorem dX2_judgeAll_17 : decode cX2_judgeAll 17 = .ok (.getfield 50, 3) := by decide +kernel
theorem dX2_judgeAll_20 : decode cX2_judgeAll 20 = .ok (.invokevirtual 55, 3) := by decide +kernel
theorem dX2_judgeAll_23 : decode cX2_judgeAll 23 = .ok (.ireturn, 1) := by decide +kernel
theorem dX2_judgeAll_24 : decode cX2_judgeAll 24 = .ok (.aload_n 0, 1) := by decide +kernel
theorem dX2_judgeAll_25 : decode cX2_judgeAll 25 = .ok (.getfield 15, 3) := by decide +kernel
theorem dX2_judgeAll_28 : decode cX2_judgeAll 28 = .ok (.invokevirtual 59, 3) := by decide +kernel
theorem dX2_judgeAll_31 : decode cX2_judgeAll 31 = .ok (.aload_n 0, 1) := by decide +kernel
theorem dX2_judgeAll_32 : decode cX2_judgeAll 32 = .ok (.getfield 15, 3) := by decide +kernel
theorem dX2_judgeAll_35 : decode cX2_judgeAll 35 = .ok (.invokevirtual 62, 3) := by decide +kernel
theorem dX2_judgeAll_38 : decode cX2_judgeAll 38 = .ok (.ifCond .ne 19, 3) := by decide +kernel
theorem dX2_judgeAll_41 : decode cX2_judgeAll 41 = .ok (.aload_n 0, 1) := by decide +kernel
theorem dX2_judgeAll_42 : decode cX2_judgeAll 42 = .ok (.bipush 6, 2) := by decide +kernel
theorem dX2_judgeAll_44 : decode cX2_judgeAll 44 = .ok (.aload_n 0, 1) := by decide +kernel
theorem dX2_judgeAll_45 : decode cX2_judgeAll 45 = .ok (.getfield 9, 3) := by decide +kernel
theorem dX2_judgeAll_48 : decode cX2_judgeAll 48 = .ok (.getfield 50, 3) := by decide +kernel
theorem dX2_judgeAll_51 : decode cX2_judgeAll 51 = .ok (.invokevirtual 55, 3) := by decide +kernel
theorem dX2_judgeAll_54 : decode cX2_judgeAll 54 = .ok (.ifCond .eq 7, 3) := by decide +kernel
theorem dX2_judgeAll_57 : decode cX2_judgeAll 57 = .ok (.iconst 1, 1) := by decide +kernel
theorem dX2_judgeAll_58 : decode cX2_judgeAll 58 = .ok (.goto 4, 3) := by decide +kernel
theorem dX2_judgeAll_61 : decode cX2_judgeAll 61 = .ok (.iconst 0, 1) := by decide +kernel
theorem dX2_judgeAll_62 : decode cX2_judgeAll 62 = .ok (.ireturn, 1) := by decide +kernel
theorem wX2_judgeAll_62 (C : CxC p rmX2_judgeAll s m args meth c D ac q xa xv RX2 cX2_judgeAll 1) (hr : meth.sig.returnType = (some .boolean)) {t0 : Int} {σ : Mm} {r : Int × Mm} (hl : lv_has ls 1 [(0, .ref (q 3))]) (h : fX2_judgeAll_62 t0 σ = some r) : VC p l e rmX2_judgeAll s m args below meth c D ac q (QIC D ac q xa xv below args s r) σ (F0 m 62 ls [.int (i32 t0)]) := by
  have h : chb t0 (some (t0, σ)) = some r := h
  have hz1 := (chb_e h).1
  have h := (chb_e h).2
  exact v_zret C hr hz1 h dX2_judgeAll_62
theorem wX2_judgeAll_57 (C : CxC p rmX2_judgeAll s m args meth c D ac q xa xv RX2 cX2_judgeAll 1) (hr : meth.sig.returnType = (some .boolean)) {σ : Mm} {r : Int × Mm} (hl : lv_has ls 1 [(0, .ref (q 3))]) (h : fX2_judgeAll_57 σ = some r) : VC p l e rmX2_judgeAll s m args below meth c D ac q (QIC D ac q xa xv below args s r) σ (F0 m 57 ls []) := by
  have h : fX2_judgeAll_62 1 σ = some r := h
  refine v_iconst C dX2_judgeAll_57 ?_
  refine v_goto C (tgt := 62) dX2_judgeAll_58 rfl ?_
  exact wX2_judgeAll_62 C hr (lv_sub hl [0] rfl) h
theorem mX2_judgeAll (hq : QI 175 q)  {σ : Mm} {r : Int × Mm} (h : fX2_judgeAll σ = some r) : MIC l D ac q xa xv yX2_judgeAll cX2_judgeAll 1 (some .boolean) rmX2_judgeAll [.ref (q 3)] σ r := by
  refine MI.of hq XC_M (by decide) (Nat.le_of_ble_eq_true rfl) (fun p e s m below meth c ls C hr hl => ?_)
  have hl : lv_has ls 1 [(0, .ref (q 3))] := hl
  have h : bd (fX1_isWhole 111 σ) (fun x_1 => cr x_1 ((if x_1 = 0 then bd2 (fX2_refuse 6 (σ 1 1) σ) (fun x_8 σ_8 => chb x_8 (some (x_8, σ_8))) else bd (fX1_gatherEdges 111 σ) (fun σ_3 => bd (fX1_isFair 111 σ_3) (fun x_4 => cr x_4 ((if x_4 = 0 then bd2 (fX2_refuse 6 (σ_3 1 1) σ_3) (fun x_6 σ_6 => cr x_6 ((if x_6 = 0 then fX2_judgeAll_62 0 σ_6 else fX2_judgeAll_57 σ_6))) else fX2_judgeAll_57 σ_3))))))) = some r := h
  refine v_aload_n C hl dX2_judgeAll_0 rfl 0 rfl ?_
  refine g_X2_1 C kdC_3 fl_X2_15 dX2_judgeAll_1 ?_
  obtain ⟨x_1, hv1, h⟩ := bd_e h
  refine v_callVI C 111 (klC kdC_111) rfl (ckC23 kdC_111 _) rfl [] (mX1_isWhole C.2.2.2.2.1 kdC_111 hv1) cd_X1_isWhole ic_X1 im_X1_isWhole se_X1_isWhole ml_X2_47 yk_X1_isWhole ⟨rfl, rfl, by decide, by decide⟩ rfl hl.1 (rest := []) rfl (Nat.le_of_ble_eq_true rfl) dX2_judgeAll_4 ?_
  have hz2 := (cr_e h).1
  have h := (cr_e h).2
  refine v_if_ne C (tgt := 24) hz2 h dX2_judgeAll_7 rfl (fun h => ?_) (fun h => ?_)
  · refine v_aload_n C hl dX2_judgeAll_24 rfl 0 rfl ?_
    refine g_X2_1 C kdC_3 fl_X2_15 dX2_judgeAll_25 ?_
    obtain ⟨σ_3, hv3, h⟩ := bd_e h
    refine v_callVV C 111 (klC kdC_111) rfl (ckC23 kdC_111 _) rfl [] (mX1_gatherEdges C.2.2.2.2.1 kdC_111 hv3) cd_X1_gatherEdges ic_X1 im_X1_gatherEdges se_X1_gatherEdges ml_X2_59 yk_X1_gatherEdges ⟨rfl, rfl, by decide, by decide⟩ rfl hl.1 (rest := []) rfl (Nat.le_of_ble_eq_true rfl) dX2_judgeAll_28 ?_
    refine v_aload_n C hl dX2_judgeAll_31 rfl 0 rfl ?_
    refine g_X2_1 C kdC_3 fl_X2_15 dX2_judgeAll_32 ?_
    obtain ⟨x_4, hv4, h⟩ := bd_e h
    refine v_callVI C 111 (klC kdC_111) rfl (ckC23 kdC_111 _) rfl [] (mX1_isFair C.2.2.2.2.1 kdC_111 hv4) cd_X1_isFair ic_X1 im_X1_isFair se_X1_isFair ml_X2_62 yk_X1_isFair ⟨rfl, rfl, by decide, by decide⟩ rfl hl.1 (rest := []) rfl (Nat.le_of_ble_eq_true rfl) dX2_judgeAll_35 ?_
    have hz5 := (cr_e h).1
    have h := (cr_e h).2
    refine v_if_ne C (tgt := 57) hz5 h dX2_judgeAll_38 rfl (fun h => ?_) (fun h => ?_)
    · exact wX2_judgeAll_57 C hr (lv_sub hl [0] rfl) h
    · refine v_aload_n C hl dX2_judgeAll_41 rfl 0 rfl ?_
      refine v_bipush C dX2_judgeAll_42 rfl ?_
      refine v_aload_n C hl dX2_judgeAll_44 rfl 0 rfl ?_
      refine g_X2_0 C kdC_3 fl_X2_9 dX2_judgeAll_45 ?_
      refine g_X6_1 C kdC_1 fl_X2_50 dX2_judgeAll_48 ?_
      obtain ⟨x_6, σ_6, hv6, h⟩ := bd2_e h
      refine v_callVI C 3 (klC kdC_3) rfl (ckC4 kdC_3 _) rfl [.int (i32 6), .int (i32 (σ_3 1 1))] (mX2_refuse C.2.2.2.2.1 hv6) cd_X2_refuse ic_X2 im_X2_refuse se_X2_refuse ml_X2_55 yk_X2_refuse ⟨rfl, rfl, by decide, by decide⟩ rfl hl.1 (rest := []) rfl (Nat.le_of_ble_eq_true rfl) dX2_judgeAll_51 ?_
      have hz7 := (cr_e h).1
      have h := (cr_e h).2
      refine v_if_eq C (tgt := 61) hz7 h dX2_judgeAll_54 rfl (fun h => ?_) (fun h => ?_)
      · refine v_iconst C dX2_judgeAll_61 ?_
        exact wX2_judgeAll_62 C hr (lv_sub hl [0] rfl) h
      · exact wX2_judgeAll_57 C hr (lv_sub hl [0] rfl) h
  · refine v_aload_n C hl dX2_judgeAll_10 rfl 0 rfl ?_
    refine v_bipush C dX2_judgeAll_11 rfl ?_
    refine v_aload_n C hl dX2_judgeAll_13 rfl 0 rfl ?_
    refine g_X2_0 C kdC_3 fl_X2_9 dX2_judgeAll_14 ?_
    refine g_X6_1 C kdC_1 fl_X2_50 dX2_judgeAll_17 ?_
    obtain ⟨x_8, σ_8, hv8, h⟩ := bd2_e h
    refine v_callVI C 3 (klC kdC_3) rfl (ckC4 kdC_3 _) rfl [.int (i32 6), .int (i32 (σ 1 1))] (mX2_refuse C.2.2.2.2.1 hv8) cd_X2_refuse ic_X2 im_X2_refuse se_X2_refuse ml_X2_55 yk_X2_refuse ⟨rfl, rfl, by decide, by decide⟩ rfl hl.1 (rest := []) rfl (Nat.le_of_ble_eq_true rfl) dX2_judgeAll_20 ?_
    have hz9 := (chb_e h).1
    have h := (chb_e h).2
    exact v_zret C hr hz9 h dX2_judgeAll_23
end
section
variable {l : Launch} {D : va_G} {ac : Nat → ClassId} {q xa xv : Nat → Nat} {p : Program} {e : Env} {s : State} {m : MethodId} {args : Array Value} {below : List Frame} {meth : Method} {c : Code} {ls : Array Slot}
theorem dX2_kindOf_0 : decode cX2_kindOf 0 = .ok (.iload_n 0, 1) := by decide +kernel
theorem dX2_kindOf_1 : decode cX2_kindOf 1 = .ok (.bipush 97, 2) := by decide +kernel
theorem dX2_kindOf_3 : decode cX2_kindOf 3 = .ok (.if_icmp .lt 11, 3) := by decide +kernel
theorem dX2_kindOf_6 : decode cX2_kindOf 6 = .ok (.iload_n 0, 1) := by decide +kernel
theorem dX2_kindOf_7 : decode cX2_kindOf 7 = .ok (.bipush 122, 2) := by decide +kernel
theorem dX2_kindOf_9 : decode cX2_kindOf 9 = .ok (.if_icmp .gt 5, 3) := by decide +kernel
theorem dX2_kindOf_12 : decode cX2_kindOf 12 = .ok (.iconst 1, 1) := by decide +kernel
theorem dX2_kindOf_13 : decode cX2_kindOf 13 = .ok (.ireturn, 1) := by decide +kernel
theorem dX2_kindOf_14 : decode cX2_kindOf 14 = .ok (.iload_n 0, 1) := by decide +kernel
theorem dX2_kindOf_15 : decode cX2_kindOf 15 = .ok (.bipush 48, 2) := by decide +kernel
theorem dX2_kindOf_17 : decode cX2_kindOf 17 = .ok (.if_icmp .lt 11, 3) := by decide +kernel
theorem dX2_kindOf_20 : decode cX2_kindOf 20 = .ok (.iload_n 0, 1) := by decide +kernel
theorem dX2_kindOf_21 : decode cX2_kindOf 21 = .ok (.bipush 57, 2) := by decide +kernel
theorem dX2_kindOf_23 : decode cX2_kindOf 23 = .ok (.if_icmp .gt 5, 3) := by decide +kernel
theorem dX2_kindOf_26 : decode cX2_kindOf 26 = .ok (.iconst 2, 1) := by decide +kernel
theorem dX2_kindOf_27 : decode cX2_kindOf 27 = .ok (.ireturn, 1) := by decide +kernel
theorem dX2_kindOf_28 : decode cX2_kindOf 28 = .ok (.iload_n 0, 1) := by decide +kernel
theorem dX2_kindOf_29 : decode cX2_kindOf 29 = .ok (.bipush 59, 2) := by decide +kernel
theorem dX2_kindOf_31 : decode cX2_kindOf 31 = .ok (.if_icmp .ne 7, 3) := by decide +kernel
theorem dX2_kindOf_34 : decode cX2_kindOf 34 = .ok (.iconst 3, 1) := by decide +kernel
theorem dX2_kindOf_35 : decode cX2_kindOf 35 = .ok (.goto 4, 3) := by decide +kernel
theorem dX2_kindOf_38 : decode cX2_kindOf 38 = .ok (.iconst 4, 1) := by decide +kernel
theorem dX2_kindOf_39 : decode cX2_kindOf 39 = .ok (.ireturn, 1) := by decide +kernel
theorem wX2_kindOf_39 (C : CxC p rmX2_kindOf s m args meth c D ac q xa xv RX2 cX2_kindOf 1) (hr : meth.sig.returnType = (some .int)) {t0 : Int} {σ : Mm} {r : Int} (hl : lv_has ls 1 []) (h : fX2_kindOf_39 t0 σ = some r) : VC p l e rmX2_kindOf s m args below meth c D ac q (QIC D ac q xa xv below args s (r, σ)) σ (F0 m 39 ls [.int (i32 t0)]) := by
  have h : some t0 = some r := h
  exact v_iret C hr (so1 h) dX2_kindOf_39
theorem wX2_kindOf_28 (C : CxC p rmX2_kindOf s m args meth c D ac q xa xv RX2 cX2_kindOf 1) (hr : meth.sig.returnType = (some .int)) {v0 : Int} {σ : Mm} {r : Int} (hl : lv_has ls 1 [(0, .int (i32 v0))]) (h : fX2_kindOf_28 v0 σ = some r) : VC p l e rmX2_kindOf s m args below meth c D ac q (QIC D ac q xa xv below args s (r, σ)) σ (F0 m 28 ls []) := by
  have h : cr v0 ((if v0 = 59 then fX2_kindOf_39 3 σ else fX2_kindOf_39 4 σ)) = some r := h
  refine v_iload_n C hl dX2_kindOf_28 rfl 0 rfl ?_
  refine v_bipush C dX2_kindOf_29 rfl ?_
  have hz1 := (cr_e h).1
  have h := (cr_e h).2
  refine v_icmp_ne C (tgt := 38) hz1 (by decide) h dX2_kindOf_31 rfl (fun h => ?_) (fun h => ?_)
  · refine v_iconst C dX2_kindOf_38 ?_
    exact wX2_kindOf_39 C hr (lv_sub hl [] rfl) h
  · refine v_iconst C dX2_kindOf_34 ?_
    refine v_goto C (tgt := 39) dX2_kindOf_35 rfl ?_
    exact wX2_kindOf_39 C hr (lv_sub hl [] rfl) h
theorem wX2_kindOf_14 (C : CxC p rmX2_kindOf s m args meth c D ac q xa xv RX2 cX2_kindOf 1) (hr : meth.sig.returnType = (some .int)) {v0 : Int} {σ : Mm} {r : Int} (hl : lv_has ls 1 [(0, .int (i32 v0))]) (h : fX2_kindOf_14 v0 σ = some r) : VC p l e rmX2_kindOf s m args below meth c D ac q (QIC D ac q xa xv below args s (r, σ)) σ (F0 m 14 ls []) := by
  have h : cr v0 ((if v0 < 48 then fX2_kindOf_28 v0 σ else cr v0 ((if 57 < v0 then fX2_kindOf_28 v0 σ else some 2)))) = some r := h
  refine v_iload_n C hl dX2_kindOf_14 rfl 0 rfl ?_
  refine v_bipush C dX2_kindOf_15 rfl ?_
  have hz1 := (cr_e h).1
  have h := (cr_e h).2
  refine v_icmp_lt C (tgt := 28) hz1 (by decide) h dX2_kindOf_17 rfl (fun h => ?_) (fun h => ?_)
  · exact wX2_kindOf_28 C hr (lv_sub hl [0] rfl) h
  · refine v_iload_n C hl dX2_kindOf_20 rfl 0 rfl ?_
    refine v_bipush C dX2_kindOf_21 rfl ?_
    have hz2 := (cr_e h).1
    have h := (cr_e h).2
    refine v_icmp_gt C (tgt := 28) hz2 (by decide) h dX2_kindOf_23 rfl (fun h => ?_) (fun h => ?_)
    · exact wX2_kindOf_28 C hr (lv_sub hl [0] rfl) h
    · refine v_iconst C dX2_kindOf_26 ?_
      exact v_iret C hr (so1 h) dX2_kindOf_27
theorem mX2_kindOf (hq : QI 175 q) {v0 : Int} {σ : Mm} {r : Int} (h : fX2_kindOf v0 σ = some r) : MIC l D ac q xa xv yX2_kindOf cX2_kindOf 1 (some .int) rmX2_kindOf [.int (i32 v0)] σ (r, σ) := by
  refine MI.of hq XC_M (by decide) (Nat.le_of_ble_eq_true rfl) (fun p e s m below meth c ls C hr hl => ?_)
  have hl : lv_has ls 1 [(0, .int (i32 v0))] := hl
  have h : cr v0 ((if v0 < 97 then fX2_kindOf_14 v0 σ else cr v0 ((if 122 < v0 then fX2_kindOf_14 v0 σ else some 1)))) = some r := h
  refine v_iload_n C hl dX2_kindOf_0 rfl 0 rfl ?_
  refine v_bipush C dX2_kindOf_1 rfl ?_
  have hz1 := (cr_e h).1
  have h := (cr_e h).2
  refine v_icmp_lt C (tgt := 14) hz1 (by decide) h dX2_kindOf_3 rfl (fun h => ?_) (fun h => ?_)
  · exact wX2_kindOf_14 C hr (lv_sub hl [0] rfl) h
  · refine v_iload_n C hl dX2_kindOf_6 rfl 0 rfl ?_
    refine v_bipush C dX2_kindOf_7 rfl ?_
    have hz2 := (cr_e h).1
    have h := (cr_e h).2
    refine v_icmp_gt C (tgt := 14) hz2 (by decide) h dX2_kindOf_9 rfl (fun h => ?_) (fun h => ?_)
    · exact wX2_kindOf_14 C hr (lv_sub hl [0] rfl) h
    · refine v_iconst C dX2_kindOf_12 ?_
      exact v_iret C hr (so1 h) dX2_kindOf_13
end
section
variable {l : Launch} {D : va_G} {ac : Nat → ClassId} {q xa xv : Nat → Nat} {p : Program} {e : Env} {s : State} {m : MethodId} {args : Array Value} {below : List Frame} {meth : Method} {c : Code} {ls : Array Slot}
theorem dX2_nameIs_0 : decode cX2_nameIs 0 = .ok (.aload_n 0, 1) := by decide +kernel
theorem dX2_nameIs_1 : decode cX2_nameIs 1 = .ok (.getfield 40, 3) := by decide +kernel
theorem dX2_nameIs_4 : decode cX2_nameIs 4 = .ok (.iconst 1, 1) := by decide +kernel
theorem dX2_nameIs_5 : decode cX2_nameIs 5 = .ok (.if_icmp .ne 19, 3) := by decide +kernel
theorem dX2_nameIs_8 : decode cX2_nameIs 8 = .ok (.aload_n 0, 1) := by decide +kernel
theorem dX2_nameIs_9 : decode cX2_nameIs 9 = .ok (.getfield 24, 3) := by decide +kernel
theorem dX2_nameIs_12 : decode cX2_nameIs 12 = .ok (.aload_n 0, 1) := by decide +kernel
theorem dX2_nameIs_13 : decode cX2_nameIs 13 = .ok (.getfield 65, 3) := by decide +kernel
theorem dX2_nameIs_16 : decode cX2_nameIs 16 = .ok (.isub, 1) := by decide +kernel
theorem dX2_nameIs_17 : decode cX2_nameIs 17 = .ok (.aload_n 1, 1) := by decide +kernel
theorem dX2_nameIs_18 : decode cX2_nameIs 18 = .ok (.invokevirtual 141, 3) := by decide +kernel
theorem dX2_nameIs_21 : decode cX2_nameIs 21 = .ok (.if_icmp .eq 5, 3) := by decide +kernel
theorem dX2_nameIs_24 : decode cX2_nameIs 24 = .ok (.iconst 0, 1) := by decide +kernel
theorem dX2_nameIs_25 : decode cX2_nameIs 25 = .ok (.ireturn, 1) := by decide +kernel
theorem dX2_nameIs_26 : decode cX2_nameIs 26 = .ok (.iconst 0, 1) := by decide +kernel
theorem dX2_nameIs_27 : decode cX2_nameIs 27 = .ok (.istore_n 2, 1) := by decide +kernel
theorem dX2_nameIs_28 : decode cX2_nameIs 28 = .ok (.iload_n 2, 1) := by decide +kernel
theorem dX2_nameIs_29 : decode cX2_nameIs 29 = .ok (.aload_n 1, 1) := by decide +kernel
theorem dX2_nameIs_30 : decode cX2_nameIs 30 = .ok (.invokevirtual 141, 3) := by decide +kernel
theorem dX2_nameIs_33 : decode cX2_nameIs 33 = .ok (.if_icmp .ge 33, 3) := by decide +kernel
theorem dX2_nameIs_36 : decode cX2_nameIs 36 = .ok (.aload_n 0, 1) := by decide +kernel
theorem dX2_nameIs_37 : decode cX2_nameIs 37 = .ok (.getfield 9, 3) := by decide +kernel
theorem dX2_nameIs_40 : decode cX2_nameIs 40 = .ok (.getfield 130, 3) := by decide +kernel
theorem dX2_nameIs_43 : decode cX2_nameIs 43 = .ok (.aload_n 0, 1) := by decide +kernel
theorem dX2_nameIs_44 : decode cX2_nameIs 44 = .ok (.getfield 65, 3) := by decide +kernel
theorem dX2_nameIs_47 : decode cX2_nameIs 47 = .ok (.iload_n 2, 1) := by decide +kernel
theorem dX2_nameIs_48 : decode cX2_nameIs 48 = .ok (.iadd, 1) := by decide +kernel
theorem dX2_nameIs_49 : decode cX2_nameIs 49 = .ok (.baload, 1) := by decide +kernel
theorem dX2_nameIs_50 : decode cX2_nameIs 50 = .ok (.aload_n 1, 1) := by decide +kernel
theorem dX2_nameIs_51 : decode cX2_nameIs 51 = .ok (.iload_n 2, 1) := by decide +kernel
theorem dX2_nameIs_52 : decode cX2_nameIs 52 = .ok (.invokevirtual 146, 3) := by decide +kernel
theorem dX2_nameIs_55 : decode cX2_nameIs 55 = .ok (.if_icmp .eq 5, 3) := by decide +kernel
theorem dX2_nameIs_58 : decode cX2_nameIs 58 = .ok (.iconst 0, 1) := by decide +kernel
theorem dX2_nameIs_59 : decode cX2_nameIs 59 = .ok (.ireturn, 1) := by decide +kernel
theorem dX2_nameIs_60 : decode cX2_nameIs 60 = .ok (.iinc 2 1, 3) := by decide +kernel
theorem dX2_nameIs_63 : decode cX2_nameIs 63 = .ok (.goto (-35), 3) := by decide +kernel
theorem dX2_nameIs_66 : decode cX2_nameIs 66 = .ok (.iconst 1, 1) := by decide +kernel
theorem dX2_nameIs_67 : decode cX2_nameIs 67 = .ok (.ireturn, 1) := by decide +kernel
theorem wX2_nameIs_66 (C : CxC p rmX2_nameIs s m args meth c D ac q xa xv RX2 cX2_nameIs 3) (hr : meth.sig.returnType = (some .boolean)){w1 : Nat} (hw1 : w1 < 3) {σ : Mm} {r : Int} (hl : lv_has ls 3 [(0, .ref (q 3))]) (h : fX2_nameIs_66 w1 σ = some r) : VC p l e rmX2_nameIs s m args below meth c D ac q (QIC D ac q xa xv below args s (r, σ)) σ (F0 m 66 ls []) := by
  have h : some 1 = some r := h
  refine v_iconst C dX2_nameIs_66 ?_
  exact v_zret C hr (Or.inr rfl) (so1 h) dX2_nameIs_67
theorem wX2_nameIs_28 (C : CxC p rmX2_nameIs s m args meth c D ac q xa xv RX2 cX2_nameIs 3) (hr : meth.sig.returnType = (some .boolean)){w1 : Nat} (hw1 : w1 < 3) {σ : Mm} {v2 : Int} {e28 : Option (Int)} {c28 : Int → Option (Int)} {r : Int} (he28 : ∀ (ls : Array Slot), lv_has ls 3 [(0, .ref (q 3))] → e28 = some r → VC p l e rmX2_nameIs s m args below meth c D ac q (QIC D ac q xa xv below args s (r, σ)) σ (F0 m 66 ls [])) (hc28 : ∀ (v2x : Int) (ls : Array Slot), lv_has ls 3 [(0, .ref (q 3)), (1, .ref (xa w1)), (2, .int (i32 v2x))] → c28 v2x = some r → VC p l e rmX2_nameIs s m args below meth c D ac q (QIC D ac q xa xv below args s (r, σ)) σ (F0 m 28 ls [])) (hl : lv_has ls 3 [(0, .ref (q 3)), (1, .ref (xa w1)), (2, .int (i32 v2))]) (h : fX2_nameIs_28 w1 σ e28 c28 v2 = some r) : VC p l e rmX2_nameIs s m args below meth c D ac q (QIC D ac q xa xv below args s (r, σ)) σ (F0 m 28 ls []) := by
  have h : cr v2 (cr (strLn w1 : Int) ((if v2 < (strLn w1 : Int) then chk ((σ 3 4) + v2) 320 (chk v2 (strLn w1) (cr (σ 2 ((σ 3 4) + v2).toNat) (cr (strCc w1 (v2).toNat) ((if σ 2 ((σ 3 4) + v2).toNat = strCc w1 (v2).toNat then bindv (v2 + 1) (fun v2_5 => c28 v2_5) else some 0))))) else e28))) = some r := h
  refine v_iload_n C hl dX2_nameIs_28 rfl 2 rfl ?_
  refine v_aload_n C hl dX2_nameIs_29 rfl 1 rfl ?_
  refine v_slen C hw1 (rest := [.int (i32 v2)]) hl.1 ml_X2_141 (by decide) (by decide) (Nat.le_of_ble_eq_true rfl) dX2_nameIs_30 ?_
  have hz1 := (cr_e h).1
  have h := (cr_e h).2
  have hz2 := (cr_e h).1
  have h := (cr_e h).2
  refine v_icmp_ge C (tgt := 66) hz1 hz2 h dX2_nameIs_33 rfl (fun h => ?_) (fun h => ?_)
  · exact he28  _ (lv_sub hl [0] rfl) h
  · refine v_aload_n C hl dX2_nameIs_36 rfl 0 rfl ?_
    refine g_X2_0 C kdC_3 fl_X2_9 dX2_nameIs_37 ?_
    refine g_X6_0 C kdC_1 fl_X2_130 dX2_nameIs_40 ?_
    refine v_aload_n C hl dX2_nameIs_43 rfl 0 rfl ?_
    refine g_X2_4 C kdC_3 fl_X2_65 dX2_nameIs_44 ?_
    refine v_iload_n C hl dX2_nameIs_47 rfl 2 rfl ?_
    refine v_iadd C dX2_nameIs_48 ?_
    refine alC3 C kdC_2 h dX2_nameIs_49 (fun h => ?_)
    refine v_aload_n C hl dX2_nameIs_50 rfl 1 rfl ?_
    refine v_iload_n C hl dX2_nameIs_51 rfl 2 rfl ?_
    refine v_schr C hw1 (rest := [.int (i32 (σ 2 ((σ 3 4) + v2).toNat))]) hl.1 ml_X2_146 (by decide) (by decide) (Nat.le_of_ble_eq_true rfl) h dX2_nameIs_52 (fun h => ?_)
    have hz3 := (cr_e h).1
    have h := (cr_e h).2
    have hz4 := (cr_e h).1
    have h := (cr_e h).2
    refine v_icmp_eq C (tgt := 60) hz3 hz4 h dX2_nameIs_55 rfl (fun h => ?_) (fun h => ?_)
    · refine v_iinc C hl (fun x => [(2, .int (i32 x)), (0, .ref (q 3)), (1, .ref (xa w1))]) dX2_nameIs_60 2 rfl (by decide) (fun _ => rfl) h (fun v2_5 ls hl h => ?_)
      refine v_goto C (tgt := 28) dX2_nameIs_63 rfl ?_
      exact hc28 _ _ (lv_sub hl [1, 2, 0] rfl) h
    · refine v_iconst C dX2_nameIs_58 ?_
      exact v_zret C hr (Or.inl rfl) (so1 h) dX2_nameIs_59
theorem wlX2_nameIs_28 (C : CxC p rmX2_nameIs s m args meth c D ac q xa xv RX2 cX2_nameIs 3) (hr : meth.sig.returnType = (some .boolean)){w1 : Nat} (hw1 : w1 < 3) {σ : Mm} {e28 : Option (Int)} {r : Int} (he28 : ∀ (ls : Array Slot), lv_has ls 3 [(0, .ref (q 3))] → e28 = some r → VC p l e rmX2_nameIs s m args below meth c D ac q (QIC D ac q xa xv below args s (r, σ)) σ (F0 m 66 ls [])) : ∀ (fu : Nat) (v2 : Int) (ls : Array Slot) (hl : lv_has ls 3 [(0, .ref (q 3)), (1, .ref (xa w1)), (2, .int (i32 v2))]) (h : lX2_nameIs_28 w1 σ e28 fu v2 = some r), VC p l e rmX2_nameIs s m args below meth c D ac q (QIC D ac q xa xv below args s (r, σ)) σ (F0 m 28 ls []) := by
  intro fu
  induction fu with
  | zero =>
    intro v2 ls hl h
    have h : none = some r := h
    cases h
  | succ fu ih =>
    intro v2 ls hl h
    exact wX2_nameIs_28 C hr hw1 he28 (fun v2 ls hl h => ih v2 ls hl h) hl h
theorem wX2_nameIs_24 (C : CxC p rmX2_nameIs s m args meth c D ac q xa xv RX2 cX2_nameIs 3) (hr : meth.sig.returnType = (some .boolean)){w1 : Nat} (hw1 : w1 < 3) {σ : Mm} {r : Int} (hl : lv_has ls 3 [(0, .ref (q 3))]) (h : fX2_nameIs_24 w1 σ = some r) : VC p l e rmX2_nameIs s m args below meth c D ac q (QIC D ac q xa xv below args s (r, σ)) σ (F0 m 24 ls []) := by
  have h : some 0 = some r := h
  refine v_iconst C dX2_nameIs_24 ?_
  exact v_zret C hr (Or.inl rfl) (so1 h) dX2_nameIs_25
theorem mX2_nameIs (hq : QI 175 q) {w1 : Nat} (hw1 : w1 < 3) {σ : Mm} {r : Int} (h : fX2_nameIs w1 σ = some r) : MIC l D ac q xa xv yX2_nameIs cX2_nameIs 3 (some .boolean) rmX2_nameIs [.ref (q 3), .ref (xa w1)] σ (r, σ) := by
  refine MI.of hq XC_M (by decide) (Nat.le_of_ble_eq_true rfl) (fun p e s m below meth c ls C hr hl => ?_)
  have hl : lv_has ls 3 [(0, .ref (q 3)), (1, .ref (xa w1))] := hl
  have h : cr (σ 3 3) ((if σ 3 3 = 1 then cr ((σ 3 2) - (σ 3 4)) (cr (strLn w1 : Int) ((if (σ 3 2) - (σ 3 4) = (strLn w1 : Int) then bindv 0 (fun v2_4 => lX2_nameIs_28 w1 σ (fX2_nameIs_66 w1 σ) 400 v2_4) else fX2_nameIs_24 w1 σ))) else fX2_nameIs_24 w1 σ)) = some r := h
  refine v_aload_n C hl dX2_nameIs_0 rfl 0 rfl ?_
  refine g_X2_3 C kdC_3 fl_X2_40 dX2_nameIs_1 ?_
  refine v_iconst C dX2_nameIs_4 ?_
  have hz1 := (cr_e h).1
  have h := (cr_e h).2
  refine v_icmp_ne C (tgt := 24) hz1 (by decide) h dX2_nameIs_5 rfl (fun h => ?_) (fun h => ?_)
  · exact wX2_nameIs_24 C hr hw1 (lv_sub hl [0] rfl) h
  · refine v_aload_n C hl dX2_nameIs_8 rfl 0 rfl ?_
    refine g_X2_2 C kdC_3 fl_X2_24 dX2_nameIs_9 ?_
    refine v_aload_n C hl dX2_nameIs_12 rfl 0 rfl ?_
    refine g_X2_4 C kdC_3 fl_X2_65 dX2_nameIs_13 ?_
    refine v_isub C dX2_nameIs_16 ?_
    refine v_aload_n C hl dX2_nameIs_17 rfl 1 rfl ?_
    refine v_slen C hw1 (rest := [.int (i32 ((σ 3 2) - (σ 3 4)))]) hl.1 ml_X2_141 (by decide) (by decide) (Nat.le_of_ble_eq_true rfl) dX2_nameIs_18 ?_
    have hz2 := (cr_e h).1
    have h := (cr_e h).2
    have hz3 := (cr_e h).1
    have h := (cr_e h).2
    refine v_icmp_eq C (tgt := 26) hz2 hz3 h dX2_nameIs_21 rfl (fun h => ?_) (fun h => ?_)
    · refine v_iconst C dX2_nameIs_26 ?_
      refine v_istore_n C hl (fun x => [(2, .int (i32 x)), (0, .ref (q 3)), (1, .ref (xa w1))]) dX2_nameIs_27 rfl (by decide) (fun _ => rfl) h (fun v2_4 ls hl h => ?_)
      exact wlX2_nameIs_28 C hr hw1 (fun ls hl h => wX2_nameIs_66 C hr hw1 (lv_sub hl [0] rfl) h) _ _ _ (lv_sub hl [1, 2, 0] rfl) h
    · exact wX2_nameIs_24 C hr hw1 (lv_sub hl [0] rfl) h
end
section
variable {l : Launch} {D : va_G} {ac : Nat → ClassId} {q xa xv : Nat → Nat} {p : Program} {e : Env} {s : State} {m : MethodId} {args : Array Value} {below : List Frame} {meth : Method} {c : Code} {ls : Array Slot}
theorem dX2_weighNumber_0 : decode cX2_weighNumber 0 = .ok (.aload_n 0, 1) := by decide +kernel
theorem dX2_weighNumber_1 : decode cX2_weighNumber 1 = .ok (.getfield 24, 3) := by decide +kernel
theorem dX2_weighNumber_4 : decode cX2_weighNumber 4 = .ok (.aload_n 0, 1) := by decide +kernel
theorem dX2_weighNumber_5 : decode cX2_weighNumber 5 = .ok (.getfield 65, 3) := by decide +kernel
theorem dX2_weighNumber_8 : decode cX2_weighNumber 8 = .ok (.isub, 1) := by decide +kernel
theorem dX2_weighNumber_9 : decode cX2_weighNumber 9 = .ok (.iconst 3, 1) := by decide +kernel
theorem dX2_weighNumber_10 : decode cX2_weighNumber 10 = .ok (.if_icmp .le 9, 3) := by decide +kernel
theorem dX2_weighNumber_13 : decode cX2_weighNumber 13 = .ok (.aload_n 0, 1) := by decide +kernel
theorem dX2_weighNumber_14 : decode cX2_weighNumber 14 = .ok (.iconst 4, 1) := by decide +kernel
theorem dX2_weighNumber_15 : decode cX2_weighNumber 15 = .ok (.putfield 40, 3) := by decide +kernel
theorem dX2_weighNumber_18 : decode cX2_weighNumber 18 = .ok (.return_, 1) := by decide +kernel
theorem dX2_weighNumber_19 : decode cX2_weighNumber 19 = .ok (.aload_n 0, 1) := by decide +kernel
theorem dX2_weighNumber_20 : decode cX2_weighNumber 20 = .ok (.iconst 0, 1) := by decide +kernel
theorem dX2_weighNumber_21 : decode cX2_weighNumber 21 = .ok (.putfield 97, 3) := by decide +kernel
theorem dX2_weighNumber_24 : decode cX2_weighNumber 24 = .ok (.aload_n 0, 1) := by decide +kernel
theorem dX2_weighNumber_25 : decode cX2_weighNumber 25 = .ok (.getfield 65, 3) := by decide +kernel
theorem dX2_weighNumber_28 : decode cX2_weighNumber 28 = .ok (.istore_n 1, 1) := by decide +kernel
theorem dX2_weighNumber_29 : decode cX2_weighNumber 29 = .ok (.iload_n 1, 1) := by decide +kernel
theorem dX2_weighNumber_30 : decode cX2_weighNumber 30 = .ok (.aload_n 0, 1) := by decide +kernel
theorem dX2_weighNumber_31 : decode cX2_weighNumber 31 = .ok (.getfield 24, 3) := by decide +kernel
theorem dX2_weighNumber_34 : decode cX2_weighNumber 34 = .ok (.if_icmp .ge 33, 3) := by decide +kernel
theorem dX2_weighNumber_37 : decode cX2_weighNumber 37 = .ok (.aload_n 0, 1) := by decide +kernel
theorem dX2_weighNumber_38 : decode cX2_weighNumber 38 = .ok (.aload_n 0, 1) := by decide +kernel
theorem dX2_weighNumber_39 : decode cX2_weighNumber 39 = .ok (.getfield 97, 3) := by decide +kernel
theorem dX2_weighNumber_42 : decode cX2_weighNumber 42 = .ok (.bipush 10, 2) := by decide +kernel
theorem dX2_weighNumber_44 : decode cX2_weighNumber 44 = .ok (.imul, 1) := by decide +kernel
theorem dX2_weighNumber_45 : decode cX2_weighNumber 45 = .ok (.aload_n 0, 1) := by decide +kernel
theorem dX2_weighNumber_46 : decode cX2_weighNumber 46 = .ok (.getfield 9, 3) := by decide +kernel
theorem dX2_weighNumber_49 : decode cX2_weighNumber 49 = .ok (.getfield 130, 3) := by decide +kernel
theorem dX2_weighNumber_52 : decode cX2_weighNumber 52 = .ok (.iload_n 1, 1) := by decide +kernel
theorem dX2_weighNumber_53 : decode cX2_weighNumber 53 = .ok (.baload, 1) := by decide +kernel
theorem dX2_weighNumber_54 : decode cX2_weighNumber 54 = .ok (.iadd, 1) := by decide +kernel
theorem dX2_weighNumber_55 : decode cX2_weighNumber 55 = .ok (.bipush 48, 2) := by decide +kernel
theorem dX2_weighNumber_57 : decode cX2_weighNumber 57 = .ok (.isub, 1) := by decide +kernel
theorem dX2_weighNumber_58 : decode cX2_weighNumber 58 = .ok (.putfield 97, 3) := by decide +kernel
theorem dX2_weighNumber_61 : decode cX2_weighNumber 61 = .ok (.iinc 1 1, 3) := by decide +kernel
theorem dX2_weighNumber_64 : decode cX2_weighNumber 64 = .ok (.goto (-35), 3) := by decide +kernel
theorem dX2_weighNumber_67 : decode cX2_weighNumber 67 = .ok (.return_, 1) := by decide +kernel
theorem wX2_weighNumber_67 (C : CxC p rmX2_weighNumber s m args meth c D ac q xa xv RX2 cX2_weighNumber 2) (hr : meth.sig.returnType = none) {σ : Mm} {r : Mm} (hl : lv_has ls 2 [(0, .ref (q 3))]) (h : fX2_weighNumber_67 σ = some r) : VC p l e rmX2_weighNumber s m args below meth c D ac q (QVC D ac q xa xv below args s r) σ (F0 m 67 ls []) := by
  have h : some σ = some r := h
  exact v_vret C hr h dX2_weighNumber_67
theorem wX2_weighNumber_29 (C : CxC p rmX2_weighNumber s m args meth c D ac q xa xv RX2 cX2_weighNumber 2) (hr : meth.sig.returnType = none) {v1 : Int} {σ : Mm} {e29 : Mm → Option (Mm)} {c29 : Int → Mm → Option (Mm)} {r : Mm} (he29 : ∀ (σ : Mm) (ls : Array Slot), lv_has ls 2 [(0, .ref (q 3))] → e29 σ = some r → VC p l e rmX2_weighNumber s m args below meth c D ac q (QVC D ac q xa xv below args s r) σ (F0 m 67 ls [])) (hc29 : ∀ (v1x : Int) (σ : Mm) (ls : Array Slot), lv_has ls 2 [(0, .ref (q 3)), (1, .int (i32 v1x))] → c29 v1x σ = some r → VC p l e rmX2_weighNumber s m args below meth c D ac q (QVC D ac q xa xv below args s r) σ (F0 m 29 ls [])) (hl : lv_has ls 2 [(0, .ref (q 3)), (1, .int (i32 v1))]) (h : fX2_weighNumber_29 e29 c29 v1 σ = some r) : VC p l e rmX2_weighNumber s m args below meth c D ac q (QVC D ac q xa xv below args s r) σ (F0 m 29 ls []) := by
  have h : cr v1 (cr (σ 3 2) ((if v1 < σ 3 2 then chk v1 320 (bindv (sto σ 3 5 ((((σ 3 5) * 10) + (σ 2 (v1).toNat)) - 48)) (fun σ_3 => bindv (v1 + 1) (fun v1_4 => c29 v1_4 σ_3))) else e29 σ))) = some r := h
  refine v_iload_n C hl dX2_weighNumber_29 rfl 1 rfl ?_
  refine v_aload_n C hl dX2_weighNumber_30 rfl 0 rfl ?_
  refine g_X2_2 C kdC_3 fl_X2_24 dX2_weighNumber_31 ?_
  have hz1 := (cr_e h).1
  have h := (cr_e h).2
  have hz2 := (cr_e h).1
  have h := (cr_e h).2
  refine v_icmp_ge C (tgt := 67) hz1 hz2 h dX2_weighNumber_34 rfl (fun h => ?_) (fun h => ?_)
  · exact he29 _ _ (lv_sub hl [0] rfl) h
  · refine v_aload_n C hl dX2_weighNumber_37 rfl 0 rfl ?_
    refine v_aload_n C hl dX2_weighNumber_38 rfl 0 rfl ?_
    refine g_X2_5 C kdC_3 fl_X2_97 dX2_weighNumber_39 ?_
    refine v_bipush C dX2_weighNumber_42 rfl ?_
    refine v_imul C dX2_weighNumber_44 ?_
    refine v_aload_n C hl dX2_weighNumber_45 rfl 0 rfl ?_
    refine g_X2_0 C kdC_3 fl_X2_9 dX2_weighNumber_46 ?_
    refine g_X6_0 C kdC_1 fl_X2_130 dX2_weighNumber_49 ?_
    refine v_iload_n C hl dX2_weighNumber_52 rfl 1 rfl ?_
    refine alC3 C kdC_2 h dX2_weighNumber_53 (fun h => ?_)
    refine v_iadd C dX2_weighNumber_54 ?_
    refine v_bipush C dX2_weighNumber_55 rfl ?_
    refine v_isub C dX2_weighNumber_57 ?_
    refine s_X2_5 C kdC_3 fl_X2_97 h dX2_weighNumber_58 (fun σ_3 h => ?_)
    refine v_iinc C hl (fun x => [(1, .int (i32 x)), (0, .ref (q 3))]) dX2_weighNumber_61 1 rfl (by decide) (fun _ => rfl) h (fun v1_4 ls hl h => ?_)
    refine v_goto C (tgt := 29) dX2_weighNumber_64 rfl ?_
    exact hc29 _ _ _ (lv_sub hl [1, 0] rfl) h
theorem wlX2_weighNumber_29 (C : CxC p rmX2_weighNumber s m args meth c D ac q xa xv RX2 cX2_weighNumber 2) (hr : meth.sig.returnType = none) {e29 : Mm → Option (Mm)} {r : Mm} (he29 : ∀ (σ : Mm) (ls : Array Slot), lv_has ls 2 [(0, .ref (q 3))] → e29 σ = some r → VC p l e rmX2_weighNumber s m args below meth c D ac q (QVC D ac q xa xv below args s r) σ (F0 m 67 ls [])) : ∀ (fu : Nat) (v1 : Int) (σ : Mm) (ls : Array Slot) (hl : lv_has ls 2 [(0, .ref (q 3)), (1, .int (i32 v1))]) (h : lX2_weighNumber_29 e29 fu v1 σ = some r), VC p l e rmX2_weighNumber s m args below meth c D ac q (QVC D ac q xa xv below args s r) σ (F0 m 29 ls []) := by
  intro fu
  induction fu with
  | zero =>
    intro v1 σ ls hl h
    have h : none = some r := h
    cases h
  | succ fu ih =>
    intro v1 σ ls hl h
    exact wX2_weighNumber_29 C hr he29 (fun v1 σ ls hl h => ih v1 σ ls hl h) hl h
theorem mX2_weighNumber (hq : QI 175 q)  {σ : Mm} {r : Mm} (h : fX2_weighNumber σ = some r) : MVC l D ac q xa xv yX2_weighNumber cX2_weighNumber 2 none rmX2_weighNumber [.ref (q 3)] σ r := by
  refine MV.of hq XC_M (by decide) (Nat.le_of_ble_eq_true rfl) (fun p e s m below meth c ls C hr hl => ?_)
  have hl : lv_has ls 2 [(0, .ref (q 3))] := hl
  have h : cr ((σ 3 2) - (σ 3 4)) ((if 3 < (σ 3 2) - (σ 3 4) then bindv (sto σ 3 3 4) (fun σ_5 => some σ_5) else bindv (sto σ 3 5 0) (fun σ_2 => bindv (σ_2 3 4) (fun v1_3 => lX2_weighNumber_29 (fun σ_4 => fX2_weighNumber_67 σ_4) 400 v1_3 σ_2)))) = some r := h
  refine v_aload_n C hl dX2_weighNumber_0 rfl 0 rfl ?_
  refine g_X2_2 C kdC_3 fl_X2_24 dX2_weighNumber_1 ?_
  refine v_aload_n C hl dX2_weighNumber_4 rfl 0 rfl ?_
  refine g_X2_4 C kdC_3 fl_X2_65 dX2_weighNumber_5 ?_
  refine v_isub C dX2_weighNumber_8 ?_
  refine v_iconst C dX2_weighNumber_9 ?_
  have hz1 := (cr_e h).1
  have h := (cr_e h).2
  refine v_icmp_le C (tgt := 19) hz1 (by decide) h dX2_weighNumber_10 rfl (fun h => ?_) (fun h => ?_)
  · refine v_aload_n C hl dX2_weighNumber_19 rfl 0 rfl ?_
    refine v_iconst C dX2_weighNumber_20 ?_
    refine s_X2_5 C kdC_3 fl_X2_97 h dX2_weighNumber_21 (fun σ_2 h => ?_)
    refine v_aload_n C hl dX2_weighNumber_24 rfl 0 rfl ?_
    refine g_X2_4 C kdC_3 fl_X2_65 dX2_weighNumber_25 ?_
    refine v_istore_n C hl (fun x => [(1, .int (i32 x)), (0, .ref (q 3))]) dX2_weighNumber_28 rfl (by decide) (fun _ => rfl) h (fun v1_3 ls hl h => ?_)
    exact wlX2_weighNumber_29 C hr (fun σ_4 ls hl h => wX2_weighNumber_67 C hr (lv_sub hl [0] rfl) h) _ _ _ _ (lv_sub hl [1, 0] rfl) h
  · refine v_aload_n C hl dX2_weighNumber_13 rfl 0 rfl ?_
    refine v_iconst C dX2_weighNumber_14 ?_
    refine s_X2_3 C kdC_3 fl_X2_40 h dX2_weighNumber_15 (fun σ_5 h => ?_)
    exact v_vret C hr h dX2_weighNumber_18
end
section
variable {l : Launch} {D : va_G} {ac : Nat → ClassId} {q xa xv : Nat → Nat} {p : Program} {e : Env} {s : State} {m : MethodId} {args : Array Value} {below : List Frame} {meth : Method} {c : Code} {ls : Array Slot}
theorem dX2_nextToken_0 : decode cX2_nextToken 0 = .ok (.aload_n 0, 1) := by decide +kernel
theorem dX2_nextToken_1 : decode cX2_nextToken 1 = .ok (.getfield 24, 3) := by decide +kernel
theorem dX2_nextToken_4 : decode cX2_nextToken 4 = .ok (.aload_n 0, 1) := by decide +kernel
theorem dX2_nextToken_5 : decode cX2_nextToken 5 = .ok (.getfield 9, 3) := by decide +kernel
theorem dX2_nextToken_8 : decode cX2_nextToken 8 = .ok (.getfield 50, 3) := by decide +kernel
theorem dX2_nextToken_11 : decode cX2_nextToken 11 = .ok (.if_icmp .ge 33, 3) := by decide +kernel
theorem dX2_nextToken_14 : decode cX2_nextToken 14 = .ok (.aload_n 0, 1) := by decide +kernel
theorem dX2_nextToken_15 : decode cX2_nextToken 15 = .ok (.getfield 9, 3) := by decide +kernel
theorem dX2_nextToken_18 : decode cX2_nextToken 18 = .ok (.getfield 130, 3) := by decide +kernel
theorem dX2_nextToken_21 : decode cX2_nextToken 21 = .ok (.aload_n 0, 1) := by decide +kernel
theorem dX2_nextToken_22 : decode cX2_nextToken 22 = .ok (.getfield 24, 3) := by decide +kernel
theorem dX2_nextToken_25 : decode cX2_nextToken 25 = .ok (.baload, 1) := by decide +kernel
theorem dX2_nextToken_26 : decode cX2_nextToken 26 = .ok (.bipush 32, 2) := by decide +kernel
theorem dX2_nextToken_28 : decode cX2_nextToken 28 = .ok (.if_icmp .ne 16, 3) := by decide +kernel
theorem dX2_nextToken_31 : decode cX2_nextToken 31 = .ok (.aload_n 0, 1) := by decide +kernel
theorem dX2_nextToken_32 : decode cX2_nextToken 32 = .ok (.dup, 1) := by decide +kernel
theorem dX2_nextToken_33 : decode cX2_nextToken 33 = .ok (.getfield 24, 3) := by decide +kernel
theorem dX2_nextToken_36 : decode cX2_nextToken 36 = .ok (.iconst 1, 1) := by decide +kernel
theorem dX2_nextToken_37 : decode cX2_nextToken 37 = .ok (.iadd, 1) := by decide +kernel
theorem dX2_nextToken_38 : decode cX2_nextToken 38 = .ok (.putfield 24, 3) := by decide +kernel
theorem dX2_nextToken_41 : decode cX2_nextToken 41 = .ok (.goto (-41), 3) := by decide +kernel
theorem dX2_nextToken_44 : decode cX2_nextToken 44 = .ok (.aload_n 0, 1) := by decide +kernel
theorem dX2_nextToken_45 : decode cX2_nextToken 45 = .ok (.aload_n 0, 1) := by decide +kernel
theorem dX2_nextToken_46 : decode cX2_nextToken 46 = .ok (.getfield 24, 3) := by decide +kernel
theorem dX2_nextToken_49 : decode cX2_nextToken 49 = .ok (.putfield 65, 3) := by decide +kernel
theorem dX2_nextToken_52 : decode cX2_nextToken 52 = .ok (.aload_n 0, 1) := by decide +kernel
theorem dX2_nextToken_53 : decode cX2_nextToken 53 = .ok (.aload_n 0, 1) := by decide +kernel
theorem dX2_nextToken_54 : decode cX2_nextToken 54 = .ok (.getfield 24, 3) := by decide +kernel
theorem dX2_nextToken_57 : decode cX2_nextToken 57 = .ok (.aload_n 0, 1) := by decide +kernel
theorem dX2_nextToken_58 : decode cX2_nextToken 58 = .ok (.getfield 9, 3) := by decide +kernel
theorem dX2_nextToken_61 : decode cX2_nextToken 61 = .ok (.getfield 50, 3) := by decide +kernel
theorem dX2_nextToken_64 : decode cX2_nextToken 64 = .ok (.if_icmp .ge 21, 3) := by decide +kernel
theorem dX2_nextToken_67 : decode cX2_nextToken 67 = .ok (.aload_n 0, 1) := by decide +kernel
theorem dX2_nextToken_68 : decode cX2_nextToken 68 = .ok (.getfield 9, 3) := by decide +kernel
theorem dX2_nextToken_71 : decode cX2_nextToken 71 = .ok (.getfield 130, 3) := by decide +kernel
theorem dX2_nextToken_74 : decode cX2_nextToken 74 = .ok (.aload_n 0, 1) := by decide +kernel
theorem dX2_nextToken_75 : decode cX2_nextToken 75 = .ok (.getfield 24, 3) := by decide +kernel
theorem dX2_nextToken_78 : decode cX2_nextToken 78 = .ok (.baload, 1) := by decide +kernel
theorem dX2_nextToken_79 : decode cX2_nextToken 79 = .ok (.invokestatic 134, 3) := by decide +kernel
theorem dX2_nextToken_82 : decode cX2_nextToken 82 = .ok (.goto 4, 3) := by decide +kernel
theorem dX2_nextToken_85 : decode cX2_nextToken 85 = .ok (.iconst 0, 1) := by decide +kernel
theorem dX2_nextToken_86 : decode cX2_nextToken 86 = .ok (.putfield 40, 3) := by decide +kernel
theorem dX2_nextToken_89 : decode cX2_nextToken 89 = .ok (.aload_n 0, 1) := by decide +kernel
theorem dX2_nextToken_90 : decode cX2_nextToken 90 = .ok (.getfield 40, 3) := by decide +kernel
theorem dX2_nextToken_93 : decode cX2_nextToken 93 = .ok (.iconst 1, 1) := by decide +kernel
theorem dX2_nextToken_94 : decode cX2_nextToken 94 = .ok (.if_icmp .eq 11, 3) := by decide +kernel
theorem dX2_nextToken_97 : decode cX2_nextToken 97 = .ok (.aload_n 0, 1) := by decide +kernel
theorem dX2_nextToken_98 : decode cX2_nextToken 98 = .ok (.getfield 40, 3) := by decide +kernel
theorem dX2_nextToken_101 : decode cX2_nextToken 101 = .ok (.iconst 2, 1) := by decide +kernel
theorem dX2_nextToken_102 : decode cX2_nextToken 102 = .ok (.if_icmp .ne 52, 3) := by decide +kernel
theorem dX2_nextToken_105 : decode cX2_nextToken 105 = .ok (.aload_n 0, 1) := by decide +kernel
theorem dX2_nextToken_106 : decode cX2_nextToken 106 = .ok (.getfield 24, 3) := by decide +kernel
theorem dX2_nextToken_109 : decode cX2_nextToken 109 = .ok (.aload_n 0, 1) := by decide +kernel
theorem dX2_nextToken_110 : decode cX2_nextToken 110 = .ok (.getfield 9, 3) := by decide +kernel
theorem dX2_nextToken_113 : decode cX2_nextToken 113 = .ok (.getfield 50, 3) := by decide +kernel
theorem dX2_nextToken_116 : decode cX2_nextToken 116 = .ok (.if_icmp .ge 56, 3) := by decide +kernel
theorem dX2_nextToken_119 : decode cX2_nextToken 119 = .ok (.aload_n 0, 1) := by decide +kernel
theorem dX2_nextToken_120 : decode cX2_nextToken 120 = .ok (.getfield 9, 3) := by decide +kernel
theorem dX2_nextToken_123 : decode cX2_nextToken 123 = .ok (.getfield 130, 3) := by decide +kernel
theorem dX2_nextToken_126 : decode cX2_nextToken 126 = .ok (.aload_n 0, 1) := by decide +kernel
theorem dX2_nextToken_127 : decode cX2_nextToken 127 = .ok (.getfield 24, 3) := by decide +kernel
theorem dX2_nextToken_130 : decode cX2_nextToken 130 = .ok (.baload, 1) := by decide +kernel
theorem dX2_nextToken_131 : decode cX2_nextToken 131 = .ok (.invokestatic 134, 3) := by decide +kernel
theorem dX2_nextToken_134 : decode cX2_nextToken 134 = .ok (.aload_n 0, 1) := by decide +kernel
theorem dX2_nextToken_135 : decode cX2_nextToken 135 = .ok (.getfield 40, 3) := by decide +kernel
theorem dX2_nextToken_138 : decode cX2_nextToken 138 = .ok (.if_icmp .ne 34, 3) := by decide +kernel
theorem dX2_nextToken_141 : decode cX2_nextToken 141 = .ok (.aload_n 0, 1) := by decide +kernel
theorem dX2_nextToken_142 : decode cX2_nextToken 142 = .ok (.dup, 1) := by decide +kernel
theorem dX2_nextToken_143 : decode cX2_nextToken 143 = .ok (.getfield 24, 3) := by decide +kernel
theorem dX2_nextToken_146 : decode cX2_nextToken 146 = .ok (.iconst 1, 1) := by decide +kernel
theorem dX2_nextToken_147 : decode cX2_nextToken 147 = .ok (.iadd, 1) := by decide +kernel
theorem dX2_nextToken_148 : decode cX2_nextToken 148 = .ok (.putfield 24, 3) := by decide +kernel
theorem dX2_nextToken_151 : decode cX2_nextToken 151 = .ok (.goto (-46), 3) := by decide +kernel
theorem dX2_nextToken_154 : decode cX2_nextToken 154 = .ok (.aload_n 0, 1) := by decide +kernel
theorem dX2_nextToken_155 : decode cX2_nextToken 155 = .ok (.getfield 40, 3) := by decide +kernel
theorem dX2_nextToken_158 : decode cX2_nextToken 158 = .ok (.iconst 3, 1) := by decide +kernel
theorem dX2_nextToken_159 : decode cX2_nextToken 159 = .ok (.if_icmp .ne 13, 3) := by decide +kernel
theorem dX2_nextToken_162 : decode cX2_nextToken 162 = .ok (.aload_n 0, 1) := by decide +kernel
theorem dX2_nextToken_163 : decode cX2_nextToken 163 = .ok (.dup, 1) := by decide +kernel
theorem dX2_nextToken_164 : decode cX2_nextToken 164 = .ok (.getfield 24, 3) := by decide +kernel
theorem dX2_nextToken_167 : decode cX2_nextToken 167 = .ok (.iconst 1, 1) := by decide +kernel
theorem dX2_nextToken_168 : decode cX2_nextToken 168 = .ok (.iadd, 1) := by decide +kernel
theorem dX2_nextToken_169 : decode cX2_nextToken 169 = .ok (.putfield 24, 3) := by decide +kernel
theorem dX2_nextToken_172 : decode cX2_nextToken 172 = .ok (.aload_n 0, 1) := by decide +kernel
theorem dX2_nextToken_173 : decode cX2_nextToken 173 = .ok (.getfield 40, 3) := by decide +kernel
theorem dX2_nextToken_176 : decode cX2_nextToken 176 = .ok (.iconst 2, 1) := by decide +kernel
theorem dX2_nextToken_177 : decode cX2_nextToken 177 = .ok (.if_icmp .ne 7, 3) := by decide +kernel
theorem dX2_nextToken_180 : decode cX2_nextToken 180 = .ok (.aload_n 0, 1) := by decide +kernel
theorem dX2_nextToken_181 : decode cX2_nextToken 181 = .ok (.invokevirtual 138, 3) := by decide +kernel
theorem dX2_nextToken_184 : decode cX2_nextToken 184 = .ok (.return_, 1) := by decide +kernel
theorem wX2_nextToken_184 (C : CxC p rmX2_nextToken s m args meth c D ac q xa xv RX2 cX2_nextToken 1) (hr : meth.sig.returnType = none) {σ : Mm} {r : Mm} (hl : lv_has ls 1 [(0, .ref (q 3))]) (h : fX2_nextToken_184 σ = some r) : VC p l e rmX2_nextToken s m args below meth c D ac q (QVC D ac q xa xv below args s r) σ (F0 m 184 ls []) := by
  have h : some σ = some r := h
  exact v_vret C hr h dX2_nextToken_184
theorem wX2_nextToken_172 (C : CxC p rmX2_nextToken s m args meth c D ac q xa xv RX2 cX2_nextToken 1) (hr : meth.sig.returnType = none) {σ : Mm} {r : Mm} (hl : lv_has ls 1 [(0, .ref (q 3))]) (h : fX2_nextToken_172 σ = some r) : VC p l e rmX2_nextToken s m args below meth c D ac q (QVC D ac q xa xv below args s r) σ (F0 m 172 ls []) := by
  have h : cr (σ 3 3) ((if σ 3 3 = 2 then bd (fX2_weighNumber σ) (fun σ_2 => fX2_nextToken_184 σ_2) else fX2_nextToken_184 σ)) = some r := h
  refine v_aload_n C hl dX2_nextToken_172 rfl 0 rfl ?_
  refine g_X2_3 C kdC_3 fl_X2_40 dX2_nextToken_173 ?_
  refine v_iconst C dX2_nextToken_176 ?_
  have hz1 := (cr_e h).1
  have h := (cr_e h).2
  refine v_icmp_ne C (tgt := 184) hz1 (by decide) h dX2_nextToken_177 rfl (fun h => ?_) (fun h => ?_)
  · exact wX2_nextToken_184 C hr (lv_sub hl [0] rfl) h
  · refine v_aload_n C hl dX2_nextToken_180 rfl 0 rfl ?_
    obtain ⟨σ_2, hv2, h⟩ := bd_e h
    refine v_callVV C 3 (klC kdC_3) rfl (ckC4 kdC_3 _) rfl [] (mX2_weighNumber C.2.2.2.2.1 hv2) cd_X2_weighNumber ic_X2 im_X2_weighNumber se_X2_weighNumber ml_X2_138 yk_X2_weighNumber ⟨rfl, rfl, by decide, by decide⟩ rfl hl.1 (rest := []) rfl (Nat.le_of_ble_eq_true rfl) dX2_nextToken_181 ?_
    exact wX2_nextToken_184 C hr (lv_sub hl [0] rfl) h
theorem wX2_nextToken_105 (C : CxC p rmX2_nextToken s m args meth c D ac q xa xv RX2 cX2_nextToken 1) (hr : meth.sig.returnType = none) {σ : Mm} {c105 : Mm → Option (Mm)} {r : Mm} (hc105 : ∀ (σ : Mm) (ls : Array Slot), lv_has ls 1 [(0, .ref (q 3))] → c105 σ = some r → VC p l e rmX2_nextToken s m args below meth c D ac q (QVC D ac q xa xv below args s r) σ (F0 m 105 ls [])) (hl : lv_has ls 1 [(0, .ref (q 3))]) (h : fX2_nextToken_105 c105 σ = some r) : VC p l e rmX2_nextToken s m args below meth c D ac q (QVC D ac q xa xv below args s r) σ (F0 m 105 ls []) := by
  have h : cr (σ 3 2) (cr (σ 1 1) ((if σ 3 2 < σ 1 1 then chk (σ 3 2) 320 (bd (fX2_kindOf (σ 2 (σ 3 2).toNat) σ) (fun x_3 => cr x_3 (cr (σ 3 3) ((if x_3 = σ 3 3 then bindv (sto σ 3 2 ((σ 3 2) + 1)) (fun σ_6 => c105 σ_6) else fX2_nextToken_172 σ))))) else fX2_nextToken_172 σ))) = some r := h
  refine v_aload_n C hl dX2_nextToken_105 rfl 0 rfl ?_
  refine g_X2_2 C kdC_3 fl_X2_24 dX2_nextToken_106 ?_
  refine v_aload_n C hl dX2_nextToken_109 rfl 0 rfl ?_
  refine g_X2_0 C kdC_3 fl_X2_9 dX2_nextToken_110 ?_
  refine g_X6_1 C kdC_1 fl_X2_50 dX2_nextToken_113 ?_
  have hz1 := (cr_e h).1
  have h := (cr_e h).2
  have hz2 := (cr_e h).1
  have h := (cr_e h).2
  refine v_icmp_ge C (tgt := 172) hz1 hz2 h dX2_nextToken_116 rfl (fun h => ?_) (fun h => ?_)
  · exact wX2_nextToken_172 C hr (lv_sub hl [0] rfl) h
  · refine v_aload_n C hl dX2_nextToken_119 rfl 0 rfl ?_
    refine g_X2_0 C kdC_3 fl_X2_9 dX2_nextToken_120 ?_
    refine g_X6_0 C kdC_1 fl_X2_130 dX2_nextToken_123 ?_
    refine v_aload_n C hl dX2_nextToken_126 rfl 0 rfl ?_
    refine g_X2_2 C kdC_3 fl_X2_24 dX2_nextToken_127 ?_
    refine alC3 C kdC_2 h dX2_nextToken_130 (fun h => ?_)
    obtain ⟨x_3, hv3, h⟩ := bd_e h
    refine v_callSI C [.int (i32 (σ 2 (σ 3 2).toNat))] (mX2_kindOf C.2.2.2.2.1 hv3) cd_X2_kindOf ic_X2 sm_X2_kindOf ml_X2_134 yk_X2_kindOf ⟨rfl, rfl, by decide, by decide⟩ rfl hl.1 (rest := []) rfl (Nat.le_of_ble_eq_true rfl) dX2_nextToken_131 ?_
    refine v_aload_n C hl dX2_nextToken_134 rfl 0 rfl ?_
    refine g_X2_3 C kdC_3 fl_X2_40 dX2_nextToken_135 ?_
    have hz4 := (cr_e h).1
    have h := (cr_e h).2
    have hz5 := (cr_e h).1
    have h := (cr_e h).2
    refine v_icmp_ne C (tgt := 172) hz4 hz5 h dX2_nextToken_138 rfl (fun h => ?_) (fun h => ?_)
    · exact wX2_nextToken_172 C hr (lv_sub hl [0] rfl) h
    · refine v_aload_n C hl dX2_nextToken_141 rfl 0 rfl ?_
      refine v_dup C dX2_nextToken_142 rfl ?_
      refine g_X2_2 C kdC_3 fl_X2_24 dX2_nextToken_143 ?_
      refine v_iconst C dX2_nextToken_146 ?_
      refine v_iadd C dX2_nextToken_147 ?_
      refine s_X2_2 C kdC_3 fl_X2_24 h dX2_nextToken_148 (fun σ_6 h => ?_)
      refine v_goto C (tgt := 105) dX2_nextToken_151 rfl ?_
      exact hc105 _ _ (lv_sub hl [0] rfl) h
theorem wlX2_nextToken_105 (C : CxC p rmX2_nextToken s m args meth c D ac q xa xv RX2 cX2_nextToken 1) (hr : meth.sig.returnType = none) {r : Mm} : ∀ (fu : Nat) (σ : Mm) (ls : Array Slot) (hl : lv_has ls 1 [(0, .ref (q 3))]) (h : lX2_nextToken_105 fu σ = some r), VC p l e rmX2_nextToken s m args below meth c D ac q (QVC D ac q xa xv below args s r) σ (F0 m 105 ls []) := by
  intro fu
  induction fu with
  | zero =>
    intro σ ls hl h
    have h : none = some r := h
    cases h
  | succ fu ih =>
    intro σ ls hl h
    exact wX2_nextToken_105 C hr (fun σ ls hl h => ih σ ls hl h) hl h
theorem wX2_nextToken_86 (C : CxC p rmX2_nextToken s m args meth c D ac q xa xv RX2 cX2_nextToken 1) (hr : meth.sig.returnType = none) {t1 : Int} {σ : Mm} {r : Mm} (hl : lv_has ls 1 [(0, .ref (q 3))]) (h : fX2_nextToken_86 t1 σ = some r) : VC p l e rmX2_nextToken s m args below meth c D ac q (QVC D ac q xa xv below args s r) σ (F0 m 86 ls [.int (i32 t1), .ref (q 3)]) := by
  have h : bindv (sto σ 3 3 t1) (fun σ_1 => cr (σ_1 3 3) ((if σ_1 3 3 = 1 then lX2_nextToken_105 400 σ_1 else cr (σ_1 3 3) ((if σ_1 3 3 = 2 then lX2_nextToken_105 400 σ_1 else cr (σ_1 3 3) ((if σ_1 3 3 = 3 then bindv (sto σ_1 3 2 ((σ_1 3 2) + 1)) (fun σ_5 => fX2_nextToken_172 σ_5) else fX2_nextToken_172 σ_1))))))) = some r := h
  refine s_X2_3 C kdC_3 fl_X2_40 h dX2_nextToken_86 (fun σ_1 h => ?_)
  refine v_aload_n C hl dX2_nextToken_89 rfl 0 rfl ?_
  refine g_X2_3 C kdC_3 fl_X2_40 dX2_nextToken_90 ?_
  refine v_iconst C dX2_nextToken_93 ?_
  have hz2 := (cr_e h).1
  have h := (cr_e h).2
  refine v_icmp_eq C (tgt := 105) hz2 (by decide) h dX2_nextToken_94 rfl (fun h => ?_) (fun h => ?_)
  · exact wlX2_nextToken_105 C hr _ _ _ (lv_sub hl [0] rfl) h
  · refine v_aload_n C hl dX2_nextToken_97 rfl 0 rfl ?_
    refine g_X2_3 C kdC_3 fl_X2_40 dX2_nextToken_98 ?_
    refine v_iconst C dX2_nextToken_101 ?_
    have hz3 := (cr_e h).1
    have h := (cr_e h).2
    refine v_icmp_ne C (tgt := 154) hz3 (by decide) h dX2_nextToken_102 rfl (fun h => ?_) (fun h => ?_)
    · refine v_aload_n C hl dX2_nextToken_154 rfl 0 rfl ?_
      refine g_X2_3 C kdC_3 fl_X2_40 dX2_nextToken_155 ?_
      refine v_iconst C dX2_nextToken_158 ?_
      have hz4 := (cr_e h).1
      have h := (cr_e h).2
      refine v_icmp_ne C (tgt := 172) hz4 (by decide) h dX2_nextToken_159 rfl (fun h => ?_) (fun h => ?_)
      · exact wX2_nextToken_172 C hr (lv_sub hl [0] rfl) h
      · refine v_aload_n C hl dX2_nextToken_162 rfl 0 rfl ?_
        refine v_dup C dX2_nextToken_163 rfl ?_
        refine g_X2_2 C kdC_3 fl_X2_24 dX2_nextToken_164 ?_
        refine v_iconst C dX2_nextToken_167 ?_
        refine v_iadd C dX2_nextToken_168 ?_
        refine s_X2_2 C kdC_3 fl_X2_24 h dX2_nextToken_169 (fun σ_5 h => ?_)
        exact wX2_nextToken_172 C hr (lv_sub hl [0] rfl) h
    · exact wlX2_nextToken_105 C hr _ _ _ (lv_sub hl [0] rfl) h
theorem wX2_nextToken_44 (C : CxC p rmX2_nextToken s m args meth c D ac q xa xv RX2 cX2_nextToken 1) (hr : meth.sig.returnType = none) {σ : Mm} {r : Mm} (hl : lv_has ls 1 [(0, .ref (q 3))]) (h : fX2_nextToken_44 σ = some r) : VC p l e rmX2_nextToken s m args below meth c D ac q (QVC D ac q xa xv below args s r) σ (F0 m 44 ls []) := by
  have h : bindv (sto σ 3 4 (σ 3 2)) (fun σ_1 => cr (σ_1 3 2) (cr (σ_1 1 1) ((if σ_1 3 2 < σ_1 1 1 then chk (σ_1 3 2) 320 (bd (fX2_kindOf (σ_1 2 (σ_1 3 2).toNat) σ_1) (fun x_4 => fX2_nextToken_86 x_4 σ_1)) else fX2_nextToken_86 0 σ_1)))) = some r := h
  refine v_aload_n C hl dX2_nextToken_44 rfl 0 rfl ?_
  refine v_aload_n C hl dX2_nextToken_45 rfl 0 rfl ?_
  refine g_X2_2 C kdC_3 fl_X2_24 dX2_nextToken_46 ?_
  refine s_X2_4 C kdC_3 fl_X2_65 h dX2_nextToken_49 (fun σ_1 h => ?_)
  refine v_aload_n C hl dX2_nextToken_52 rfl 0 rfl ?_
  refine v_aload_n C hl dX2_nextToken_53 rfl 0 rfl ?_
  refine g_X2_2 C kdC_3 fl_X2_24 dX2_nextToken_54 ?_
  refine v_aload_n C hl dX2_nextToken_57 rfl 0 rfl ?_
  refine g_X2_0 C kdC_3 fl_X2_9 dX2_nextToken_58 ?_
  refine g_X6_1 C kdC_1 fl_X2_50 dX2_nextToken_61 ?_
  have hz2 := (cr_e h).1
  have h := (cr_e h).2
  have hz3 := (cr_e h).1
  have h := (cr_e h).2
  refine v_icmp_ge C (tgt := 85) hz2 hz3 h dX2_nextToken_64 rfl (fun h => ?_) (fun h => ?_)
  · refine v_iconst C dX2_nextToken_85 ?_
    exact wX2_nextToken_86 C hr (lv_sub hl [0] rfl) h
  · refine v_aload_n C hl dX2_nextToken_67 rfl 0 rfl ?_
    refine g_X2_0 C kdC_3 fl_X2_9 dX2_nextToken_68 ?_
    refine g_X6_0 C kdC_1 fl_X2_130 dX2_nextToken_71 ?_
    refine v_aload_n C hl dX2_nextToken_74 rfl 0 rfl ?_
    refine g_X2_2 C kdC_3 fl_X2_24 dX2_nextToken_75 ?_
    refine alC3 C kdC_2 h dX2_nextToken_78 (fun h => ?_)
    obtain ⟨x_4, hv4, h⟩ := bd_e h
    refine v_callSI C [.int (i32 (σ_1 2 (σ_1 3 2).toNat))] (mX2_kindOf C.2.2.2.2.1 hv4) cd_X2_kindOf ic_X2 sm_X2_kindOf ml_X2_134 yk_X2_kindOf ⟨rfl, rfl, by decide, by decide⟩ rfl hl.1 (rest := [.ref (q 3)]) rfl (Nat.le_of_ble_eq_true rfl) dX2_nextToken_79 ?_
    refine v_goto C (tgt := 86) dX2_nextToken_82 rfl ?_
    exact wX2_nextToken_86 C hr (lv_sub hl [0] rfl) h
theorem wX2_nextToken_0 (C : CxC p rmX2_nextToken s m args meth c D ac q xa xv RX2 cX2_nextToken 1) (hr : meth.sig.returnType = none) {σ : Mm} {e0 : Mm → Option (Mm)} {c0 : Mm → Option (Mm)} {r : Mm} (he0 : ∀ (σ : Mm) (ls : Array Slot), lv_has ls 1 [(0, .ref (q 3))] → e0 σ = some r → VC p l e rmX2_nextToken s m args below meth c D ac q (QVC D ac q xa xv below args s r) σ (F0 m 44 ls [])) (hc0 : ∀ (σ : Mm) (ls : Array Slot), lv_has ls 1 [(0, .ref (q 3))] → c0 σ = some r → VC p l e rmX2_nextToken s m args below meth c D ac q (QVC D ac q xa xv below args s r) σ (F0 m 0 ls [])) (hl : lv_has ls 1 [(0, .ref (q 3))]) (h : fX2_nextToken_0 e0 c0 σ = some r) : VC p l e rmX2_nextToken s m args below meth c D ac q (QVC D ac q xa xv below args s r) σ (F0 m 0 ls []) := by
  have h : cr (σ 3 2) (cr (σ 1 1) ((if σ 3 2 < σ 1 1 then chk (σ 3 2) 320 (cr (σ 2 (σ 3 2).toNat) ((if σ 2 (σ 3 2).toNat = 32 then bindv (sto σ 3 2 ((σ 3 2) + 1)) (fun σ_4 => c0 σ_4) else e0 σ))) else e0 σ))) = some r := h
  refine v_aload_n C hl dX2_nextToken_0 rfl 0 rfl ?_
  refine g_X2_2 C kdC_3 fl_X2_24 dX2_nextToken_1 ?_
  refine v_aload_n C hl dX2_nextToken_4 rfl 0 rfl ?_
  refine g_X2_0 C kdC_3 fl_X2_9 dX2_nextToken_5 ?_
  refine g_X6_1 C kdC_1 fl_X2_50 dX2_nextToken_8 ?_
  have hz1 := (cr_e h).1
  have h := (cr_e h).2
  have hz2 := (cr_e h).1
  have h := (cr_e h).2
  refine v_icmp_ge C (tgt := 44) hz1 hz2 h dX2_nextToken_11 rfl (fun h => ?_) (fun h => ?_)
  · exact he0 _ _ (lv_sub hl [0] rfl) h
  · refine v_aload_n C hl dX2_nextToken_14 rfl 0 rfl ?_
    refine g_X2_0 C kdC_3 fl_X2_9 dX2_nextToken_15 ?_
    refine g_X6_0 C kdC_1 fl_X2_130 dX2_nextToken_18 ?_
    refine v_aload_n C hl dX2_nextToken_21 rfl 0 rfl ?_
    refine g_X2_2 C kdC_3 fl_X2_24 dX2_nextToken_22 ?_
    refine alC3 C kdC_2 h dX2_nextToken_25 (fun h => ?_)
    refine v_bipush C dX2_nextToken_26 rfl ?_
    have hz3 := (cr_e h).1
    have h := (cr_e h).2
    refine v_icmp_ne C (tgt := 44) hz3 (by decide) h dX2_nextToken_28 rfl (fun h => ?_) (fun h => ?_)
    · exact he0 _ _ (lv_sub hl [0] rfl) h
    · refine v_aload_n C hl dX2_nextToken_31 rfl 0 rfl ?_
      refine v_dup C dX2_nextToken_32 rfl ?_
      refine g_X2_2 C kdC_3 fl_X2_24 dX2_nextToken_33 ?_
      refine v_iconst C dX2_nextToken_36 ?_
      refine v_iadd C dX2_nextToken_37 ?_
      refine s_X2_2 C kdC_3 fl_X2_24 h dX2_nextToken_38 (fun σ_4 h => ?_)
      refine v_goto C (tgt := 0) dX2_nextToken_41 rfl ?_
      exact hc0 _ _ (lv_sub hl [0] rfl) h
theorem wlX2_nextToken_0 (C : CxC p rmX2_nextToken s m args meth c D ac q xa xv RX2 cX2_nextToken 1) (hr : meth.sig.returnType = none) {e0 : Mm → Option (Mm)} {r : Mm} (he0 : ∀ (σ : Mm) (ls : Array Slot), lv_has ls 1 [(0, .ref (q 3))] → e0 σ = some r → VC p l e rmX2_nextToken s m args below meth c D ac q (QVC D ac q xa xv below args s r) σ (F0 m 44 ls [])) : ∀ (fu : Nat) (σ : Mm) (ls : Array Slot) (hl : lv_has ls 1 [(0, .ref (q 3))]) (h : lX2_nextToken_0 e0 fu σ = some r), VC p l e rmX2_nextToken s m args below meth c D ac q (QVC D ac q xa xv below args s r) σ (F0 m 0 ls []) := by
  intro fu
  induction fu with
  | zero =>
    intro σ ls hl h
    have h : none = some r := h
    cases h
  | succ fu ih =>
    intro σ ls hl h
    exact wX2_nextToken_0 C hr he0 (fun σ ls hl h => ih σ ls hl h) hl h
theorem mX2_nextToken (hq : QI 175 q)  {σ : Mm} {r : Mm} (h : fX2_nextToken σ = some r) : MVC l D ac q xa xv yX2_nextToken cX2_nextToken 1 none rmX2_nextToken [.ref (q 3)] σ r := by
  refine MV.of hq XC_M (by decide) (Nat.le_of_ble_eq_true rfl) (fun p e s m below meth c ls C hr hl => ?_)
  have hl : lv_has ls 1 [(0, .ref (q 3))] := hl
  have h : lX2_nextToken_0 (fun σ_5 => fX2_nextToken_44 σ_5) 400 σ = some r := h
  exact wlX2_nextToken_0 C hr (fun σ_5 ls hl h => wX2_nextToken_44 C hr (lv_sub hl [0] rfl) h) _ _ _ (lv_sub hl [0] rfl) h
end
section
variable {l : Launch} {D : va_G} {ac : Nat → ClassId} {q xa xv : Nat → Nat} {p : Program} {e : Env} {s : State} {m : MethodId} {args : Array Value} {below : List Frame} {meth : Method} {c : Code} {ls : Array Slot}
theorem dX2_refuseToken_0 : decode cX2_refuseToken 0 = .ok (.aload_n 0, 1) := by decide +kernel
theorem dX2_refuseToken_1 : decode cX2_refuseToken 1 = .ok (.aload_n 0, 1) := by decide +kernel
theorem dX2_refuseToken_2 : decode cX2_refuseToken 2 = .ok (.getfield 40, 3) := by decide +kernel
theorem dX2_refuseToken_5 : decode cX2_refuseToken 5 = .ok (.iconst 4, 1) := by decide +kernel
theorem dX2_refuseToken_6 : decode cX2_refuseToken 6 = .ok (.if_icmp .ne 7, 3) := by decide +kernel
theorem dX2_refuseToken_9 : decode cX2_refuseToken 9 = .ok (.iconst 1, 1) := by decide +kernel
theorem dX2_refuseToken_10 : decode cX2_refuseToken 10 = .ok (.goto 4, 3) := by decide +kernel
theorem dX2_refuseToken_13 : decode cX2_refuseToken 13 = .ok (.iconst 2, 1) := by decide +kernel
theorem dX2_refuseToken_14 : decode cX2_refuseToken 14 = .ok (.aload_n 0, 1) := by decide +kernel
theorem dX2_refuseToken_15 : decode cX2_refuseToken 15 = .ok (.getfield 65, 3) := by decide +kernel
theorem dX2_refuseToken_18 : decode cX2_refuseToken 18 = .ok (.invokevirtual 55, 3) := by decide +kernel
theorem dX2_refuseToken_21 : decode cX2_refuseToken 21 = .ok (.ireturn, 1) := by decide +kernel
theorem wX2_refuseToken_14 (C : CxC p rmX2_refuseToken s m args meth c D ac q xa xv RX2 cX2_refuseToken 1) (hr : meth.sig.returnType = (some .boolean)) {t1 : Int} {σ : Mm} {r : Int × Mm} (hl : lv_has ls 1 [(0, .ref (q 3))]) (h : fX2_refuseToken_14 t1 σ = some r) : VC p l e rmX2_refuseToken s m args below meth c D ac q (QIC D ac q xa xv below args s r) σ (F0 m 14 ls [.int (i32 t1), .ref (q 3)]) := by
  have h : bd2 (fX2_refuse t1 (σ 3 4) σ) (fun x_1 σ_1 => chb x_1 (some (x_1, σ_1))) = some r := h
  refine v_aload_n C hl dX2_refuseToken_14 rfl 0 rfl ?_
  refine g_X2_4 C kdC_3 fl_X2_65 dX2_refuseToken_15 ?_
  obtain ⟨x_1, σ_1, hv1, h⟩ := bd2_e h
  refine v_callVI C 3 (klC kdC_3) rfl (ckC4 kdC_3 _) rfl [.int (i32 t1), .int (i32 (σ 3 4))] (mX2_refuse C.2.2.2.2.1 hv1) cd_X2_refuse ic_X2 im_X2_refuse se_X2_refuse ml_X2_55 yk_X2_refuse ⟨rfl, rfl, by decide, by decide⟩ rfl hl.1 (rest := []) rfl (Nat.le_of_ble_eq_true rfl) dX2_refuseToken_18 ?_
  have hz2 := (chb_e h).1
  have h := (chb_e h).2
  exact v_zret C hr hz2 h dX2_refuseToken_21
theorem mX2_refuseToken (hq : QI 175 q)  {σ : Mm} {r : Int × Mm} (h : fX2_refuseToken σ = some r) : MIC l D ac q xa xv yX2_refuseToken cX2_refuseToken 1 (some .boolean) rmX2_refuseToken [.ref (q 3)] σ r := by
  refine MI.of hq XC_M (by decide) (Nat.le_of_ble_eq_true rfl) (fun p e s m below meth c ls C hr hl => ?_)
  have hl : lv_has ls 1 [(0, .ref (q 3))] := hl
  have h : cr (σ 3 3) ((if σ 3 3 = 4 then fX2_refuseToken_14 1 σ else fX2_refuseToken_14 2 σ)) = some r := h
  refine v_aload_n C hl dX2_refuseToken_0 rfl 0 rfl ?_
  refine v_aload_n C hl dX2_refuseToken_1 rfl 0 rfl ?_
  refine g_X2_3 C kdC_3 fl_X2_40 dX2_refuseToken_2 ?_
  refine v_iconst C dX2_refuseToken_5 ?_
  have hz1 := (cr_e h).1
  have h := (cr_e h).2
  refine v_icmp_ne C (tgt := 13) hz1 (by decide) h dX2_refuseToken_6 rfl (fun h => ?_) (fun h => ?_)
  · refine v_iconst C dX2_refuseToken_13 ?_
    exact wX2_refuseToken_14 C hr (lv_sub hl [0] rfl) h
  · refine v_iconst C dX2_refuseToken_9 ?_
    refine v_goto C (tgt := 14) dX2_refuseToken_10 rfl ?_
    exact wX2_refuseToken_14 C hr (lv_sub hl [0] rfl) h
end
section
variable {l : Launch} {D : va_G} {ac : Nat → ClassId} {q xa xv : Nat → Nat} {p : Program} {e : Env} {s : State} {m : MethodId} {args : Array Value} {below : List Frame} {meth : Method} {c : Code} {ls : Array Slot}
theorem dX2_readNumber_0 : decode cX2_readNumber 0 = .ok (.aload_n 0, 1) := by decide +kernel
theorem dX2_readNumber_1 : decode cX2_readNumber 1 = .ok (.invokevirtual 37, 3) := by decide +kernel
theorem dX2_readNumber_4 : decode cX2_readNumber 4 = .ok (.aload_n 0, 1) := by decide +kernel
theorem dX2_readNumber_5 : decode cX2_readNumber 5 = .ok (.getfield 40, 3) := by decide +kernel
theorem dX2_readNumber_8 : decode cX2_readNumber 8 = .ok (.iconst 2, 1) := by decide +kernel
theorem dX2_readNumber_9 : decode cX2_readNumber 9 = .ok (.if_icmp .eq 8, 3) := by decide +kernel
theorem dX2_readNumber_12 : decode cX2_readNumber 12 = .ok (.aload_n 0, 1) := by decide +kernel
theorem dX2_readNumber_13 : decode cX2_readNumber 13 = .ok (.invokevirtual 87, 3) := by decide +kernel
theorem dX2_readNumber_16 : decode cX2_readNumber 16 = .ok (.ireturn, 1) := by decide +kernel
theorem dX2_readNumber_17 : decode cX2_readNumber 17 = .ok (.aload_n 0, 1) := by decide +kernel
theorem dX2_readNumber_18 : decode cX2_readNumber 18 = .ok (.getfield 97, 3) := by decide +kernel
theorem dX2_readNumber_21 : decode cX2_readNumber 21 = .ok (.iload_n 1, 1) := by decide +kernel
theorem dX2_readNumber_22 : decode cX2_readNumber 22 = .ok (.if_icmp .lt 15, 3) := by decide +kernel
theorem dX2_readNumber_25 : decode cX2_readNumber 25 = .ok (.aload_n 0, 1) := by decide +kernel
theorem dX2_readNumber_26 : decode cX2_readNumber 26 = .ok (.iconst 3, 1) := by decide +kernel
theorem dX2_readNumber_27 : decode cX2_readNumber 27 = .ok (.aload_n 0, 1) := by decide +kernel
theorem dX2_readNumber_28 : decode cX2_readNumber 28 = .ok (.getfield 65, 3) := by decide +kernel
theorem dX2_readNumber_31 : decode cX2_readNumber 31 = .ok (.invokevirtual 55, 3) := by decide +kernel
theorem dX2_readNumber_34 : decode cX2_readNumber 34 = .ok (.ifCond .eq 7, 3) := by decide +kernel
theorem dX2_readNumber_37 : decode cX2_readNumber 37 = .ok (.iconst 1, 1) := by decide +kernel
theorem dX2_readNumber_38 : decode cX2_readNumber 38 = .ok (.goto 4, 3) := by decide +kernel
theorem dX2_readNumber_41 : decode cX2_readNumber 41 = .ok (.iconst 0, 1) := by decide +kernel
theorem dX2_readNumber_42 : decode cX2_readNumber 42 = .ok (.ireturn, 1) := by decide +kernel
theorem wX2_readNumber_42 (C : CxC p rmX2_readNumber s m args meth c D ac q xa xv RX2 cX2_readNumber 2) (hr : meth.sig.returnType = (some .boolean)) {t0 : Int} {σ : Mm} {r : Int × Mm} (hl : lv_has ls 2 [(0, .ref (q 3))]) (h : fX2_readNumber_42 t0 σ = some r) : VC p l e rmX2_readNumber s m args below meth c D ac q (QIC D ac q xa xv below args s r) σ (F0 m 42 ls [.int (i32 t0)]) := by
  have h : chb t0 (some (t0, σ)) = some r := h
  have hz1 := (chb_e h).1
  have h := (chb_e h).2
  exact v_zret C hr hz1 h dX2_readNumber_42
theorem wX2_readNumber_37 (C : CxC p rmX2_readNumber s m args meth c D ac q xa xv RX2 cX2_readNumber 2) (hr : meth.sig.returnType = (some .boolean)) {σ : Mm} {r : Int × Mm} (hl : lv_has ls 2 [(0, .ref (q 3))]) (h : fX2_readNumber_37 σ = some r) : VC p l e rmX2_readNumber s m args below meth c D ac q (QIC D ac q xa xv below args s r) σ (F0 m 37 ls []) := by
  have h : fX2_readNumber_42 1 σ = some r := h
  refine v_iconst C dX2_readNumber_37 ?_
  refine v_goto C (tgt := 42) dX2_readNumber_38 rfl ?_
  exact wX2_readNumber_42 C hr (lv_sub hl [0] rfl) h
theorem mX2_readNumber (hq : QI 175 q) {v1 : Int} {σ : Mm} {r : Int × Mm} (h : fX2_readNumber v1 σ = some r) : MIC l D ac q xa xv yX2_readNumber cX2_readNumber 2 (some .boolean) rmX2_readNumber [.ref (q 3), .int (i32 v1)] σ r := by
  refine MI.of hq XC_M (by decide) (Nat.le_of_ble_eq_true rfl) (fun p e s m below meth c ls C hr hl => ?_)
  have hl : lv_has ls 2 [(0, .ref (q 3)), (1, .int (i32 v1))] := hl
  have h : bd (fX2_nextToken σ) (fun σ_1 => cr (σ_1 3 3) ((if σ_1 3 3 = 2 then cr (σ_1 3 5) (cr v1 ((if σ_1 3 5 < v1 then fX2_readNumber_37 σ_1 else bd2 (fX2_refuse 3 (σ_1 3 4) σ_1) (fun x_5 σ_5 => cr x_5 ((if x_5 = 0 then fX2_readNumber_42 0 σ_5 else fX2_readNumber_37 σ_5)))))) else bd2 (fX2_refuseToken σ_1) (fun x_7 σ_7 => chb x_7 (some (x_7, σ_7)))))) = some r := h
  refine v_aload_n C hl dX2_readNumber_0 rfl 0 rfl ?_
  obtain ⟨σ_1, hv1, h⟩ := bd_e h
  refine v_callVV C 3 (klC kdC_3) rfl (ckC4 kdC_3 _) rfl [] (mX2_nextToken C.2.2.2.2.1 hv1) cd_X2_nextToken ic_X2 im_X2_nextToken se_X2_nextToken ml_X2_37 yk_X2_nextToken ⟨rfl, rfl, by decide, by decide⟩ rfl hl.1 (rest := []) rfl (Nat.le_of_ble_eq_true rfl) dX2_readNumber_1 ?_
  refine v_aload_n C hl dX2_readNumber_4 rfl 0 rfl ?_
  refine g_X2_3 C kdC_3 fl_X2_40 dX2_readNumber_5 ?_
  refine v_iconst C dX2_readNumber_8 ?_
  have hz2 := (cr_e h).1
  have h := (cr_e h).2
  refine v_icmp_eq C (tgt := 17) hz2 (by decide) h dX2_readNumber_9 rfl (fun h => ?_) (fun h => ?_)
  · refine v_aload_n C hl dX2_readNumber_17 rfl 0 rfl ?_
    refine g_X2_5 C kdC_3 fl_X2_97 dX2_readNumber_18 ?_
    refine v_iload_n C hl dX2_readNumber_21 rfl 1 rfl ?_
    have hz3 := (cr_e h).1
    have h := (cr_e h).2
    have hz4 := (cr_e h).1
    have h := (cr_e h).2
    refine v_icmp_lt C (tgt := 37) hz3 hz4 h dX2_readNumber_22 rfl (fun h => ?_) (fun h => ?_)
    · exact wX2_readNumber_37 C hr (lv_sub hl [0] rfl) h
    · refine v_aload_n C hl dX2_readNumber_25 rfl 0 rfl ?_
      refine v_iconst C dX2_readNumber_26 ?_
      refine v_aload_n C hl dX2_readNumber_27 rfl 0 rfl ?_
      refine g_X2_4 C kdC_3 fl_X2_65 dX2_readNumber_28 ?_
      obtain ⟨x_5, σ_5, hv5, h⟩ := bd2_e h
      refine v_callVI C 3 (klC kdC_3) rfl (ckC4 kdC_3 _) rfl [.int (i32 3), .int (i32 (σ_1 3 4))] (mX2_refuse C.2.2.2.2.1 hv5) cd_X2_refuse ic_X2 im_X2_refuse se_X2_refuse ml_X2_55 yk_X2_refuse ⟨rfl, rfl, by decide, by decide⟩ rfl hl.1 (rest := []) rfl (Nat.le_of_ble_eq_true rfl) dX2_readNumber_31 ?_
      have hz6 := (cr_e h).1
      have h := (cr_e h).2
      refine v_if_eq C (tgt := 41) hz6 h dX2_readNumber_34 rfl (fun h => ?_) (fun h => ?_)
      · refine v_iconst C dX2_readNumber_41 ?_
        exact wX2_readNumber_42 C hr (lv_sub hl [0] rfl) h
      · exact wX2_readNumber_37 C hr (lv_sub hl [0] rfl) h
  · refine v_aload_n C hl dX2_readNumber_12 rfl 0 rfl ?_
    obtain ⟨x_7, σ_7, hv7, h⟩ := bd2_e h
    refine v_callVI C 3 (klC kdC_3) rfl (ckC4 kdC_3 _) rfl [] (mX2_refuseToken C.2.2.2.2.1 hv7) cd_X2_refuseToken ic_X2 im_X2_refuseToken se_X2_refuseToken ml_X2_87 yk_X2_refuseToken ⟨rfl, rfl, by decide, by decide⟩ rfl hl.1 (rest := []) rfl (Nat.le_of_ble_eq_true rfl) dX2_readNumber_13 ?_
    have hz8 := (chb_e h).1
    have h := (chb_e h).2
    exact v_zret C hr hz8 h dX2_readNumber_16
end
section
variable {l : Launch} {D : va_G} {ac : Nat → ClassId} {q xa xv : Nat → Nat} {p : Program} {e : Env} {s : State} {m : MethodId} {args : Array Value} {below : List Frame} {meth : Method} {c : Code} {ls : Array Slot}
theorem dX2_readSemicolon_0 : decode cX2_readSemicolon 0 = .ok (.aload_n 0, 1) := by decide +kernel
theorem dX2_readSemicolon_1 : decode cX2_readSemicolon 1 = .ok (.invokevirtual 37, 3) := by decide +kernel
theorem dX2_readSemicolon_4 : decode cX2_readSemicolon 4 = .ok (.aload_n 0, 1) := by decide +kernel
theorem dX2_readSemicolon_5 : decode cX2_readSemicolon 5 = .ok (.getfield 40, 3) := by decide +kernel
theorem dX2_readSemicolon_8 : decode cX2_readSemicolon 8 = .ok (.iconst 3, 1) := by decide +kernel
theorem dX2_readSemicolon_9 : decode cX2_readSemicolon 9 = .ok (.if_icmp .eq 10, 3) := by decide +kernel
theorem dX2_readSemicolon_12 : decode cX2_readSemicolon 12 = .ok (.aload_n 0, 1) := by decide +kernel
theorem dX2_readSemicolon_13 : decode cX2_readSemicolon 13 = .ok (.invokevirtual 87, 3) := by decide +kernel
theorem dX2_readSemicolon_16 : decode cX2_readSemicolon 16 = .ok (.ifCond .eq 7, 3) := by decide +kernel
theorem dX2_readSemicolon_19 : decode cX2_readSemicolon 19 = .ok (.iconst 1, 1) := by decide +kernel
theorem dX2_readSemicolon_20 : decode cX2_readSemicolon 20 = .ok (.goto 4, 3) := by decide +kernel
theorem dX2_readSemicolon_23 : decode cX2_readSemicolon 23 = .ok (.iconst 0, 1) := by decide +kernel
theorem dX2_readSemicolon_24 : decode cX2_readSemicolon 24 = .ok (.ireturn, 1) := by decide +kernel
theorem wX2_readSemicolon_24 (C : CxC p rmX2_readSemicolon s m args meth c D ac q xa xv RX2 cX2_readSemicolon 1) (hr : meth.sig.returnType = (some .boolean)) {t0 : Int} {σ : Mm} {r : Int × Mm} (hl : lv_has ls 1 [(0, .ref (q 3))]) (h : fX2_readSemicolon_24 t0 σ = some r) : VC p l e rmX2_readSemicolon s m args below meth c D ac q (QIC D ac q xa xv below args s r) σ (F0 m 24 ls [.int (i32 t0)]) := by
  have h : chb t0 (some (t0, σ)) = some r := h
  have hz1 := (chb_e h).1
  have h := (chb_e h).2
  exact v_zret C hr hz1 h dX2_readSemicolon_24
theorem wX2_readSemicolon_19 (C : CxC p rmX2_readSemicolon s m args meth c D ac q xa xv RX2 cX2_readSemicolon 1) (hr : meth.sig.returnType = (some .boolean)) {σ : Mm} {r : Int × Mm} (hl : lv_has ls 1 [(0, .ref (q 3))]) (h : fX2_readSemicolon_19 σ = some r) : VC p l e rmX2_readSemicolon s m args below meth c D ac q (QIC D ac q xa xv below args s r) σ (F0 m 19 ls []) := by
  have h : fX2_readSemicolon_24 1 σ = some r := h
  refine v_iconst C dX2_readSemicolon_19 ?_
  refine v_goto C (tgt := 24) dX2_readSemicolon_20 rfl ?_
  exact wX2_readSemicolon_24 C hr (lv_sub hl [0] rfl) h
theorem mX2_readSemicolon (hq : QI 175 q)  {σ : Mm} {r : Int × Mm} (h : fX2_readSemicolon σ = some r) : MIC l D ac q xa xv yX2_readSemicolon cX2_readSemicolon 1 (some .boolean) rmX2_readSemicolon [.ref (q 3)] σ r := by
  refine MI.of hq XC_M (by decide) (Nat.le_of_ble_eq_true rfl) (fun p e s m below meth c ls C hr hl => ?_)
  have hl : lv_has ls 1 [(0, .ref (q 3))] := hl
  have h : bd (fX2_nextToken σ) (fun σ_1 => cr (σ_1 3 3) ((if σ_1 3 3 = 3 then fX2_readSemicolon_19 σ_1 else bd2 (fX2_refuseToken σ_1) (fun x_3 σ_3 => cr x_3 ((if x_3 = 0 then fX2_readSemicolon_24 0 σ_3 else fX2_readSemicolon_19 σ_3)))))) = some r := h
  refine v_aload_n C hl dX2_readSemicolon_0 rfl 0 rfl ?_
  obtain ⟨σ_1, hv1, h⟩ := bd_e h
  refine v_callVV C 3 (klC kdC_3) rfl (ckC4 kdC_3 _) rfl [] (mX2_nextToken C.2.2.2.2.1 hv1) cd_X2_nextToken ic_X2 im_X2_nextToken se_X2_nextToken ml_X2_37 yk_X2_nextToken ⟨rfl, rfl, by decide, by decide⟩ rfl hl.1 (rest := []) rfl (Nat.le_of_ble_eq_true rfl) dX2_readSemicolon_1 ?_
  refine v_aload_n C hl dX2_readSemicolon_4 rfl 0 rfl ?_
  refine g_X2_3 C kdC_3 fl_X2_40 dX2_readSemicolon_5 ?_
  refine v_iconst C dX2_readSemicolon_8 ?_
  have hz2 := (cr_e h).1
  have h := (cr_e h).2
  refine v_icmp_eq C (tgt := 19) hz2 (by decide) h dX2_readSemicolon_9 rfl (fun h => ?_) (fun h => ?_)
  · exact wX2_readSemicolon_19 C hr (lv_sub hl [0] rfl) h
  · refine v_aload_n C hl dX2_readSemicolon_12 rfl 0 rfl ?_
    obtain ⟨x_3, σ_3, hv3, h⟩ := bd2_e h
    refine v_callVI C 3 (klC kdC_3) rfl (ckC4 kdC_3 _) rfl [] (mX2_refuseToken C.2.2.2.2.1 hv3) cd_X2_refuseToken ic_X2 im_X2_refuseToken se_X2_refuseToken ml_X2_87 yk_X2_refuseToken ⟨rfl, rfl, by decide, by decide⟩ rfl hl.1 (rest := []) rfl (Nat.le_of_ble_eq_true rfl) dX2_readSemicolon_13 ?_
    have hz4 := (cr_e h).1
    have h := (cr_e h).2
    refine v_if_eq C (tgt := 23) hz4 h dX2_readSemicolon_16 rfl (fun h => ?_) (fun h => ?_)
    · refine v_iconst C dX2_readSemicolon_23 ?_
      exact wX2_readSemicolon_24 C hr (lv_sub hl [0] rfl) h
    · exact wX2_readSemicolon_19 C hr (lv_sub hl [0] rfl) h
end
section
variable {l : Launch} {D : va_G} {ac : Nat → ClassId} {q xa xv : Nat → Nat} {p : Program} {e : Env} {s : State} {m : MethodId} {args : Array Value} {below : List Frame} {meth : Method} {c : Code} {ls : Array Slot}
theorem dX2_readPoint_0 : decode cX2_readPoint 0 = .ok (.aload_n 0, 1) := by decide +kernel
theorem dX2_readPoint_1 : decode cX2_readPoint 1 = .ok (.getfield 15, 3) := by decide +kernel
theorem dX2_readPoint_4 : decode cX2_readPoint 4 = .ok (.getfield 90, 3) := by decide +kernel
theorem dX2_readPoint_7 : decode cX2_readPoint 7 = .ok (.bipush 24, 2) := by decide +kernel
theorem dX2_readPoint_9 : decode cX2_readPoint 9 = .ok (.if_icmp .lt 13, 3) := by decide +kernel
theorem dX2_readPoint_12 : decode cX2_readPoint 12 = .ok (.aload_n 0, 1) := by decide +kernel
theorem dX2_readPoint_13 : decode cX2_readPoint 13 = .ok (.iconst 5, 1) := by decide +kernel
theorem dX2_readPoint_14 : decode cX2_readPoint 14 = .ok (.aload_n 0, 1) := by decide +kernel
theorem dX2_readPoint_15 : decode cX2_readPoint 15 = .ok (.getfield 65, 3) := by decide +kernel
theorem dX2_readPoint_18 : decode cX2_readPoint 18 = .ok (.invokevirtual 55, 3) := by decide +kernel
theorem dX2_readPoint_21 : decode cX2_readPoint 21 = .ok (.ireturn, 1) := by decide +kernel
theorem dX2_readPoint_22 : decode cX2_readPoint 22 = .ok (.aload_n 0, 1) := by decide +kernel
theorem dX2_readPoint_23 : decode cX2_readPoint 23 = .ok (.sipush 200, 3) := by decide +kernel
theorem dX2_readPoint_26 : decode cX2_readPoint 26 = .ok (.invokevirtual 93, 3) := by decide +kernel
theorem dX2_readPoint_29 : decode cX2_readPoint 29 = .ok (.ifCond .ne 5, 3) := by decide +kernel
theorem dX2_readPoint_32 : decode cX2_readPoint 32 = .ok (.iconst 0, 1) := by decide +kernel
theorem dX2_readPoint_33 : decode cX2_readPoint 33 = .ok (.ireturn, 1) := by decide +kernel
theorem dX2_readPoint_34 : decode cX2_readPoint 34 = .ok (.aload_n 0, 1) := by decide +kernel
theorem dX2_readPoint_35 : decode cX2_readPoint 35 = .ok (.getfield 97, 3) := by decide +kernel
theorem dX2_readPoint_38 : decode cX2_readPoint 38 = .ok (.istore_n 1, 1) := by decide +kernel
theorem dX2_readPoint_39 : decode cX2_readPoint 39 = .ok (.aload_n 0, 1) := by decide +kernel
theorem dX2_readPoint_40 : decode cX2_readPoint 40 = .ok (.sipush 200, 3) := by decide +kernel
theorem dX2_readPoint_43 : decode cX2_readPoint 43 = .ok (.invokevirtual 93, 3) := by decide +kernel
theorem dX2_readPoint_46 : decode cX2_readPoint 46 = .ok (.ifCond .ne 5, 3) := by decide +kernel
theorem dX2_readPoint_49 : decode cX2_readPoint 49 = .ok (.iconst 0, 1) := by decide +kernel
theorem dX2_readPoint_50 : decode cX2_readPoint 50 = .ok (.ireturn, 1) := by decide +kernel
theorem dX2_readPoint_51 : decode cX2_readPoint 51 = .ok (.aload_n 0, 1) := by decide +kernel
theorem dX2_readPoint_52 : decode cX2_readPoint 52 = .ok (.getfield 15, 3) := by decide +kernel
theorem dX2_readPoint_55 : decode cX2_readPoint 55 = .ok (.iload_n 1, 1) := by decide +kernel
theorem dX2_readPoint_56 : decode cX2_readPoint 56 = .ok (.aload_n 0, 1) := by decide +kernel
theorem dX2_readPoint_57 : decode cX2_readPoint 57 = .ok (.getfield 97, 3) := by decide +kernel
theorem dX2_readPoint_60 : decode cX2_readPoint 60 = .ok (.invokevirtual 100, 3) := by decide +kernel
theorem dX2_readPoint_63 : decode cX2_readPoint 63 = .ok (.aload_n 0, 1) := by decide +kernel
theorem dX2_readPoint_64 : decode cX2_readPoint 64 = .ok (.invokevirtual 104, 3) := by decide +kernel
theorem dX2_readPoint_67 : decode cX2_readPoint 67 = .ok (.ireturn, 1) := by decide +kernel
theorem mX2_readPoint (hq : QI 175 q)  {σ : Mm} {r : Int × Mm} (h : fX2_readPoint σ = some r) : MIC l D ac q xa xv yX2_readPoint cX2_readPoint 2 (some .boolean) rmX2_readPoint [.ref (q 3)] σ r := by
  refine MI.of hq XC_M (by decide) (Nat.le_of_ble_eq_true rfl) (fun p e s m below meth c ls C hr hl => ?_)
  have hl : lv_has ls 2 [(0, .ref (q 3))] := hl
  have h : cr (σ 111 9) ((if σ 111 9 < 24 then bd2 (fX2_readNumber 200 σ) (fun x_2 σ_2 => cr x_2 ((if x_2 = 0 then some (0, σ_2) else bindv (σ_2 3 5) (fun v1_4 => bd2 (fX2_readNumber 200 σ_2) (fun x_5 σ_5 => cr x_5 ((if x_5 = 0 then some (0, σ_5) else bd (fX1_addPoint 111 v1_4 (σ_5 3 5) σ_5) (fun σ_7 => bd2 (fX2_readSemicolon σ_7) (fun x_8 σ_8 => chb x_8 (some (x_8, σ_8))))))))))) else bd2 (fX2_refuse 5 (σ 3 4) σ) (fun x_10 σ_10 => chb x_10 (some (x_10, σ_10))))) = some r := h
  refine v_aload_n C hl dX2_readPoint_0 rfl 0 rfl ?_
  refine g_X2_1 C kdC_3 fl_X2_15 dX2_readPoint_1 ?_
  refine g_X1_9 C kdC_111 fl_X2_90 dX2_readPoint_4 ?_
  refine v_bipush C dX2_readPoint_7 rfl ?_
  have hz1 := (cr_e h).1
  have h := (cr_e h).2
  refine v_icmp_lt C (tgt := 22) hz1 (by decide) h dX2_readPoint_9 rfl (fun h => ?_) (fun h => ?_)
  · refine v_aload_n C hl dX2_readPoint_22 rfl 0 rfl ?_
    refine v_sipush C dX2_readPoint_23 rfl ?_
    obtain ⟨x_2, σ_2, hv2, h⟩ := bd2_e h
    refine v_callVI C 3 (klC kdC_3) rfl (ckC4 kdC_3 _) rfl [.int (i32 200)] (mX2_readNumber C.2.2.2.2.1 hv2) cd_X2_readNumber ic_X2 im_X2_readNumber se_X2_readNumber ml_X2_93 yk_X2_readNumber ⟨rfl, rfl, by decide, by decide⟩ rfl hl.1 (rest := []) rfl (Nat.le_of_ble_eq_true rfl) dX2_readPoint_26 ?_
    have hz3 := (cr_e h).1
    have h := (cr_e h).2
    refine v_if_ne C (tgt := 34) hz3 h dX2_readPoint_29 rfl (fun h => ?_) (fun h => ?_)
    · refine v_aload_n C hl dX2_readPoint_34 rfl 0 rfl ?_
      refine g_X2_5 C kdC_3 fl_X2_97 dX2_readPoint_35 ?_
      refine v_istore_n C hl (fun x => [(1, .int (i32 x)), (0, .ref (q 3))]) dX2_readPoint_38 rfl (by decide) (fun _ => rfl) h (fun v1_4 ls hl h => ?_)
      refine v_aload_n C hl dX2_readPoint_39 rfl 1 rfl ?_
      refine v_sipush C dX2_readPoint_40 rfl ?_
      obtain ⟨x_5, σ_5, hv5, h⟩ := bd2_e h
      refine v_callVI C 3 (klC kdC_3) rfl (ckC4 kdC_3 _) rfl [.int (i32 200)] (mX2_readNumber C.2.2.2.2.1 hv5) cd_X2_readNumber ic_X2 im_X2_readNumber se_X2_readNumber ml_X2_93 yk_X2_readNumber ⟨rfl, rfl, by decide, by decide⟩ rfl hl.1 (rest := []) rfl (Nat.le_of_ble_eq_true rfl) dX2_readPoint_43 ?_
      have hz6 := (cr_e h).1
      have h := (cr_e h).2
      refine v_if_ne C (tgt := 51) hz6 h dX2_readPoint_46 rfl (fun h => ?_) (fun h => ?_)
      · refine v_aload_n C hl dX2_readPoint_51 rfl 1 rfl ?_
        refine g_X2_1 C kdC_3 fl_X2_15 dX2_readPoint_52 ?_
        refine v_iload_n C hl dX2_readPoint_55 rfl 0 rfl ?_
        refine v_aload_n C hl dX2_readPoint_56 rfl 1 rfl ?_
        refine g_X2_5 C kdC_3 fl_X2_97 dX2_readPoint_57 ?_
        obtain ⟨σ_7, hv7, h⟩ := bd_e h
        refine v_callVV C 111 (klC kdC_111) rfl (ckC23 kdC_111 _) rfl [.int (i32 v1_4), .int (i32 (σ_5 3 5))] (mX1_addPoint C.2.2.2.2.1 kdC_111 hv7) cd_X1_addPoint ic_X1 im_X1_addPoint se_X1_addPoint ml_X2_100 yk_X1_addPoint ⟨rfl, rfl, by decide, by decide⟩ rfl hl.1 (rest := []) rfl (Nat.le_of_ble_eq_true rfl) dX2_readPoint_60 ?_
        refine v_aload_n C hl dX2_readPoint_63 rfl 1 rfl ?_
        obtain ⟨x_8, σ_8, hv8, h⟩ := bd2_e h
        refine v_callVI C 3 (klC kdC_3) rfl (ckC4 kdC_3 _) rfl [] (mX2_readSemicolon C.2.2.2.2.1 hv8) cd_X2_readSemicolon ic_X2 im_X2_readSemicolon se_X2_readSemicolon ml_X2_104 yk_X2_readSemicolon ⟨rfl, rfl, by decide, by decide⟩ rfl hl.1 (rest := []) rfl (Nat.le_of_ble_eq_true rfl) dX2_readPoint_64 ?_
        have hz9 := (chb_e h).1
        have h := (chb_e h).2
        exact v_zret C hr hz9 h dX2_readPoint_67
      · refine v_iconst C dX2_readPoint_49 ?_
        exact v_zret C hr (Or.inl rfl) h dX2_readPoint_50
    · refine v_iconst C dX2_readPoint_32 ?_
      exact v_zret C hr (Or.inl rfl) h dX2_readPoint_33
  · refine v_aload_n C hl dX2_readPoint_12 rfl 0 rfl ?_
    refine v_iconst C dX2_readPoint_13 ?_
    refine v_aload_n C hl dX2_readPoint_14 rfl 0 rfl ?_
    refine g_X2_4 C kdC_3 fl_X2_65 dX2_readPoint_15 ?_
    obtain ⟨x_10, σ_10, hv10, h⟩ := bd2_e h
    refine v_callVI C 3 (klC kdC_3) rfl (ckC4 kdC_3 _) rfl [.int (i32 5), .int (i32 (σ 3 4))] (mX2_refuse C.2.2.2.2.1 hv10) cd_X2_refuse ic_X2 im_X2_refuse se_X2_refuse ml_X2_55 yk_X2_refuse ⟨rfl, rfl, by decide, by decide⟩ rfl hl.1 (rest := []) rfl (Nat.le_of_ble_eq_true rfl) dX2_readPoint_18 ?_
    have hz11 := (chb_e h).1
    have h := (chb_e h).2
    exact v_zret C hr hz11 h dX2_readPoint_21
end
