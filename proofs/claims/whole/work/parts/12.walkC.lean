section
variable {l : Launch} {D : va_G} {ac : Nat → ClassId} {q xa xv : Nat → Nat} {p : Program} {e : Env} {s : State} {m : MethodId} {args : Array Value} {below : List Frame} {meth : Method} {c : Code} {ls : Array Slot}
theorem dX2_takeCorner_0 : decode cX2_takeCorner 0 = .ok (.aload_n 0, 1) := by decide +kernel
theorem dX2_takeCorner_1 : decode cX2_takeCorner 1 = .ok (.getfield 40, 3) := by decide +kernel
theorem dX2_takeCorner_4 : decode cX2_takeCorner 4 = .ok (.iconst 2, 1) := by decide +kernel
theorem dX2_takeCorner_5 : decode cX2_takeCorner 5 = .ok (.if_icmp .eq 8, 3) := by decide +kernel
theorem dX2_takeCorner_8 : decode cX2_takeCorner 8 = .ok (.aload_n 0, 1) := by decide +kernel
theorem dX2_takeCorner_9 : decode cX2_takeCorner 9 = .ok (.invokevirtual 87, 3) := by decide +kernel
theorem dX2_takeCorner_12 : decode cX2_takeCorner 12 = .ok (.ireturn, 1) := by decide +kernel
theorem dX2_takeCorner_13 : decode cX2_takeCorner 13 = .ok (.iload_n 1, 1) := by decide +kernel
theorem dX2_takeCorner_14 : decode cX2_takeCorner 14 = .ok (.bipush 10, 2) := by decide +kernel
theorem dX2_takeCorner_16 : decode cX2_takeCorner 16 = .ok (.if_icmp .lt 13, 3) := by decide +kernel
theorem dX2_takeCorner_19 : decode cX2_takeCorner 19 = .ok (.aload_n 0, 1) := by decide +kernel
theorem dX2_takeCorner_20 : decode cX2_takeCorner 20 = .ok (.iconst 5, 1) := by decide +kernel
theorem dX2_takeCorner_21 : decode cX2_takeCorner 21 = .ok (.aload_n 0, 1) := by decide +kernel
theorem dX2_takeCorner_22 : decode cX2_takeCorner 22 = .ok (.getfield 65, 3) := by decide +kernel
theorem dX2_takeCorner_25 : decode cX2_takeCorner 25 = .ok (.invokevirtual 55, 3) := by decide +kernel
theorem dX2_takeCorner_28 : decode cX2_takeCorner 28 = .ok (.ireturn, 1) := by decide +kernel
theorem dX2_takeCorner_29 : decode cX2_takeCorner 29 = .ok (.aload_n 0, 1) := by decide +kernel
theorem dX2_takeCorner_30 : decode cX2_takeCorner 30 = .ok (.getfield 97, 3) := by decide +kernel
theorem dX2_takeCorner_33 : decode cX2_takeCorner 33 = .ok (.bipush 24, 2) := by decide +kernel
theorem dX2_takeCorner_35 : decode cX2_takeCorner 35 = .ok (.if_icmp .lt 13, 3) := by decide +kernel
theorem dX2_takeCorner_38 : decode cX2_takeCorner 38 = .ok (.aload_n 0, 1) := by decide +kernel
theorem dX2_takeCorner_39 : decode cX2_takeCorner 39 = .ok (.iconst 3, 1) := by decide +kernel
theorem dX2_takeCorner_40 : decode cX2_takeCorner 40 = .ok (.aload_n 0, 1) := by decide +kernel
theorem dX2_takeCorner_41 : decode cX2_takeCorner 41 = .ok (.getfield 65, 3) := by decide +kernel
theorem dX2_takeCorner_44 : decode cX2_takeCorner 44 = .ok (.invokevirtual 55, 3) := by decide +kernel
theorem dX2_takeCorner_47 : decode cX2_takeCorner 47 = .ok (.ireturn, 1) := by decide +kernel
theorem dX2_takeCorner_48 : decode cX2_takeCorner 48 = .ok (.aload_n 0, 1) := by decide +kernel
theorem dX2_takeCorner_49 : decode cX2_takeCorner 49 = .ok (.getfield 15, 3) := by decide +kernel
theorem dX2_takeCorner_52 : decode cX2_takeCorner 52 = .ok (.aload_n 0, 1) := by decide +kernel
theorem dX2_takeCorner_53 : decode cX2_takeCorner 53 = .ok (.getfield 97, 3) := by decide +kernel
theorem dX2_takeCorner_56 : decode cX2_takeCorner 56 = .ok (.invokevirtual 116, 3) := by decide +kernel
theorem dX2_takeCorner_59 : decode cX2_takeCorner 59 = .ok (.ifCond .eq 13, 3) := by decide +kernel
theorem dX2_takeCorner_62 : decode cX2_takeCorner 62 = .ok (.aload_n 0, 1) := by decide +kernel
theorem dX2_takeCorner_63 : decode cX2_takeCorner 63 = .ok (.iconst 4, 1) := by decide +kernel
theorem dX2_takeCorner_64 : decode cX2_takeCorner 64 = .ok (.aload_n 0, 1) := by decide +kernel
theorem dX2_takeCorner_65 : decode cX2_takeCorner 65 = .ok (.getfield 65, 3) := by decide +kernel
theorem dX2_takeCorner_68 : decode cX2_takeCorner 68 = .ok (.invokevirtual 55, 3) := by decide +kernel
theorem dX2_takeCorner_71 : decode cX2_takeCorner 71 = .ok (.ireturn, 1) := by decide +kernel
theorem dX2_takeCorner_72 : decode cX2_takeCorner 72 = .ok (.aload_n 0, 1) := by decide +kernel
theorem dX2_takeCorner_73 : decode cX2_takeCorner 73 = .ok (.getfield 15, 3) := by decide +kernel
theorem dX2_takeCorner_76 : decode cX2_takeCorner 76 = .ok (.aload_n 0, 1) := by decide +kernel
theorem dX2_takeCorner_77 : decode cX2_takeCorner 77 = .ok (.getfield 97, 3) := by decide +kernel
theorem dX2_takeCorner_80 : decode cX2_takeCorner 80 = .ok (.invokevirtual 119, 3) := by decide +kernel
theorem dX2_takeCorner_83 : decode cX2_takeCorner 83 = .ok (.iconst 1, 1) := by decide +kernel
theorem dX2_takeCorner_84 : decode cX2_takeCorner 84 = .ok (.ireturn, 1) := by decide +kernel
theorem mX2_takeCorner (hq : QI 175 q) {v1 : Int} {σ : Mm} {r : Int × Mm} (h : fX2_takeCorner v1 σ = some r) : MIC l D ac q xa xv yX2_takeCorner cX2_takeCorner 2 (some .boolean) rmX2_takeCorner [.ref (q 3), .int (i32 v1)] σ r := by
  refine MI.of hq XC_M (by decide) (Nat.le_of_ble_eq_true rfl) (fun p e s m below meth c ls C hr hl => ?_)
  have hl : lv_has ls 2 [(0, .ref (q 3)), (1, .int (i32 v1))] := hl
  have h : cr (σ 3 3) ((if σ 3 3 = 2 then cr v1 ((if v1 < 10 then cr (σ 3 5) ((if σ 3 5 < 24 then bd (fX1_newestRingHas 111 (σ 3 5) σ) (fun x_4 => cr x_4 ((if x_4 = 0 then bd (fX1_addCorner 111 (σ 3 5) σ) (fun σ_6 => some (1, σ_6)) else bd2 (fX2_refuse 4 (σ 3 4) σ) (fun x_7 σ_7 => chb x_7 (some (x_7, σ_7)))))) else bd2 (fX2_refuse 3 (σ 3 4) σ) (fun x_9 σ_9 => chb x_9 (some (x_9, σ_9))))) else bd2 (fX2_refuse 5 (σ 3 4) σ) (fun x_11 σ_11 => chb x_11 (some (x_11, σ_11))))) else bd2 (fX2_refuseToken σ) (fun x_13 σ_13 => chb x_13 (some (x_13, σ_13))))) = some r := h
  refine v_aload_n C hl dX2_takeCorner_0 rfl 0 rfl ?_
  refine g_X2_3 C kdC_3 fl_X2_40 dX2_takeCorner_1 ?_
  refine v_iconst C dX2_takeCorner_4 ?_
  have hz1 := (cr_e h).1
  have h := (cr_e h).2
  refine v_icmp_eq C (tgt := 13) hz1 (by decide) h dX2_takeCorner_5 rfl (fun h => ?_) (fun h => ?_)
  · refine v_iload_n C hl dX2_takeCorner_13 rfl 1 rfl ?_
    refine v_bipush C dX2_takeCorner_14 rfl ?_
    have hz2 := (cr_e h).1
    have h := (cr_e h).2
    refine v_icmp_lt C (tgt := 29) hz2 (by decide) h dX2_takeCorner_16 rfl (fun h => ?_) (fun h => ?_)
    · refine v_aload_n C hl dX2_takeCorner_29 rfl 0 rfl ?_
      refine g_X2_5 C kdC_3 fl_X2_97 dX2_takeCorner_30 ?_
      refine v_bipush C dX2_takeCorner_33 rfl ?_
      have hz3 := (cr_e h).1
      have h := (cr_e h).2
      refine v_icmp_lt C (tgt := 48) hz3 (by decide) h dX2_takeCorner_35 rfl (fun h => ?_) (fun h => ?_)
      · refine v_aload_n C hl dX2_takeCorner_48 rfl 0 rfl ?_
        refine g_X2_1 C kdC_3 fl_X2_15 dX2_takeCorner_49 ?_
        refine v_aload_n C hl dX2_takeCorner_52 rfl 0 rfl ?_
        refine g_X2_5 C kdC_3 fl_X2_97 dX2_takeCorner_53 ?_
        obtain ⟨x_4, hv4, h⟩ := bd_e h
        refine v_callVI C 111 (klC kdC_111) rfl (ckC23 kdC_111 _) rfl [.int (i32 (σ 3 5))] (mX1_newestRingHas C.2.2.2.2.1 kdC_111 hv4) cd_X1_newestRingHas ic_X1 im_X1_newestRingHas se_X1_newestRingHas ml_X2_116 yk_X1_newestRingHas ⟨rfl, rfl, by decide, by decide⟩ rfl hl.1 (rest := []) rfl (Nat.le_of_ble_eq_true rfl) dX2_takeCorner_56 ?_
        have hz5 := (cr_e h).1
        have h := (cr_e h).2
        refine v_if_eq C (tgt := 72) hz5 h dX2_takeCorner_59 rfl (fun h => ?_) (fun h => ?_)
        · refine v_aload_n C hl dX2_takeCorner_72 rfl 0 rfl ?_
          refine g_X2_1 C kdC_3 fl_X2_15 dX2_takeCorner_73 ?_
          refine v_aload_n C hl dX2_takeCorner_76 rfl 0 rfl ?_
          refine g_X2_5 C kdC_3 fl_X2_97 dX2_takeCorner_77 ?_
          obtain ⟨σ_6, hv6, h⟩ := bd_e h
          refine v_callVV C 111 (klC kdC_111) rfl (ckC23 kdC_111 _) rfl [.int (i32 (σ 3 5))] (mX1_addCorner C.2.2.2.2.1 kdC_111 hv6) cd_X1_addCorner ic_X1 im_X1_addCorner se_X1_addCorner ml_X2_119 yk_X1_addCorner ⟨rfl, rfl, by decide, by decide⟩ rfl hl.1 (rest := []) rfl (Nat.le_of_ble_eq_true rfl) dX2_takeCorner_80 ?_
          refine v_iconst C dX2_takeCorner_83 ?_
          exact v_zret C hr (Or.inr rfl) h dX2_takeCorner_84
        · refine v_aload_n C hl dX2_takeCorner_62 rfl 0 rfl ?_
          refine v_iconst C dX2_takeCorner_63 ?_
          refine v_aload_n C hl dX2_takeCorner_64 rfl 0 rfl ?_
          refine g_X2_4 C kdC_3 fl_X2_65 dX2_takeCorner_65 ?_
          obtain ⟨x_7, σ_7, hv7, h⟩ := bd2_e h
          refine v_callVI C 3 (klC kdC_3) rfl (ckC4 kdC_3 _) rfl [.int (i32 4), .int (i32 (σ 3 4))] (mX2_refuse C.2.2.2.2.1 hv7) cd_X2_refuse ic_X2 im_X2_refuse se_X2_refuse ml_X2_55 yk_X2_refuse ⟨rfl, rfl, by decide, by decide⟩ rfl hl.1 (rest := []) rfl (Nat.le_of_ble_eq_true rfl) dX2_takeCorner_68 ?_
          have hz8 := (chb_e h).1
          have h := (chb_e h).2
          exact v_zret C hr hz8 h dX2_takeCorner_71
      · refine v_aload_n C hl dX2_takeCorner_38 rfl 0 rfl ?_
        refine v_iconst C dX2_takeCorner_39 ?_
        refine v_aload_n C hl dX2_takeCorner_40 rfl 0 rfl ?_
        refine g_X2_4 C kdC_3 fl_X2_65 dX2_takeCorner_41 ?_
        obtain ⟨x_9, σ_9, hv9, h⟩ := bd2_e h
        refine v_callVI C 3 (klC kdC_3) rfl (ckC4 kdC_3 _) rfl [.int (i32 3), .int (i32 (σ 3 4))] (mX2_refuse C.2.2.2.2.1 hv9) cd_X2_refuse ic_X2 im_X2_refuse se_X2_refuse ml_X2_55 yk_X2_refuse ⟨rfl, rfl, by decide, by decide⟩ rfl hl.1 (rest := []) rfl (Nat.le_of_ble_eq_true rfl) dX2_takeCorner_44 ?_
        have hz10 := (chb_e h).1
        have h := (chb_e h).2
        exact v_zret C hr hz10 h dX2_takeCorner_47
    · refine v_aload_n C hl dX2_takeCorner_19 rfl 0 rfl ?_
      refine v_iconst C dX2_takeCorner_20 ?_
      refine v_aload_n C hl dX2_takeCorner_21 rfl 0 rfl ?_
      refine g_X2_4 C kdC_3 fl_X2_65 dX2_takeCorner_22 ?_
      obtain ⟨x_11, σ_11, hv11, h⟩ := bd2_e h
      refine v_callVI C 3 (klC kdC_3) rfl (ckC4 kdC_3 _) rfl [.int (i32 5), .int (i32 (σ 3 4))] (mX2_refuse C.2.2.2.2.1 hv11) cd_X2_refuse ic_X2 im_X2_refuse se_X2_refuse ml_X2_55 yk_X2_refuse ⟨rfl, rfl, by decide, by decide⟩ rfl hl.1 (rest := []) rfl (Nat.le_of_ble_eq_true rfl) dX2_takeCorner_25 ?_
      have hz12 := (chb_e h).1
      have h := (chb_e h).2
      exact v_zret C hr hz12 h dX2_takeCorner_28
  · refine v_aload_n C hl dX2_takeCorner_8 rfl 0 rfl ?_
    obtain ⟨x_13, σ_13, hv13, h⟩ := bd2_e h
    refine v_callVI C 3 (klC kdC_3) rfl (ckC4 kdC_3 _) rfl [] (mX2_refuseToken C.2.2.2.2.1 hv13) cd_X2_refuseToken ic_X2 im_X2_refuseToken se_X2_refuseToken ml_X2_87 yk_X2_refuseToken ⟨rfl, rfl, by decide, by decide⟩ rfl hl.1 (rest := []) rfl (Nat.le_of_ble_eq_true rfl) dX2_takeCorner_9 ?_
    have hz14 := (chb_e h).1
    have h := (chb_e h).2
    exact v_zret C hr hz14 h dX2_takeCorner_12
end
section
variable {l : Launch} {D : va_G} {ac : Nat → ClassId} {q xa xv : Nat → Nat} {p : Program} {e : Env} {s : State} {m : MethodId} {args : Array Value} {below : List Frame} {meth : Method} {c : Code} {ls : Array Slot}
theorem dX2_readRing_0 : decode cX2_readRing 0 = .ok (.aload_n 0, 1) := by decide +kernel
theorem dX2_readRing_1 : decode cX2_readRing 1 = .ok (.getfield 15, 3) := by decide +kernel
theorem dX2_readRing_4 : decode cX2_readRing 4 = .ok (.getfield 107, 3) := by decide +kernel
theorem dX2_readRing_7 : decode cX2_readRing 7 = .ok (.bipush 6, 2) := by decide +kernel
theorem dX2_readRing_9 : decode cX2_readRing 9 = .ok (.if_icmp .lt 13, 3) := by decide +kernel
theorem dX2_readRing_12 : decode cX2_readRing 12 = .ok (.aload_n 0, 1) := by decide +kernel
theorem dX2_readRing_13 : decode cX2_readRing 13 = .ok (.iconst 5, 1) := by decide +kernel
theorem dX2_readRing_14 : decode cX2_readRing 14 = .ok (.aload_n 0, 1) := by decide +kernel
theorem dX2_readRing_15 : decode cX2_readRing 15 = .ok (.getfield 65, 3) := by decide +kernel
theorem dX2_readRing_18 : decode cX2_readRing 18 = .ok (.invokevirtual 55, 3) := by decide +kernel
theorem dX2_readRing_21 : decode cX2_readRing 21 = .ok (.ireturn, 1) := by decide +kernel
theorem dX2_readRing_22 : decode cX2_readRing 22 = .ok (.aload_n 0, 1) := by decide +kernel
theorem dX2_readRing_23 : decode cX2_readRing 23 = .ok (.getfield 15, 3) := by decide +kernel
theorem dX2_readRing_26 : decode cX2_readRing 26 = .ok (.invokevirtual 110, 3) := by decide +kernel
theorem dX2_readRing_29 : decode cX2_readRing 29 = .ok (.iconst 0, 1) := by decide +kernel
theorem dX2_readRing_30 : decode cX2_readRing 30 = .ok (.istore_n 1, 1) := by decide +kernel
theorem dX2_readRing_31 : decode cX2_readRing 31 = .ok (.iload_n 1, 1) := by decide +kernel
theorem dX2_readRing_32 : decode cX2_readRing 32 = .ok (.bipush 10, 2) := by decide +kernel
theorem dX2_readRing_34 : decode cX2_readRing 34 = .ok (.if_icmp .gt 38, 3) := by decide +kernel
theorem dX2_readRing_37 : decode cX2_readRing 37 = .ok (.aload_n 0, 1) := by decide +kernel
theorem dX2_readRing_38 : decode cX2_readRing 38 = .ok (.invokevirtual 37, 3) := by decide +kernel
theorem dX2_readRing_41 : decode cX2_readRing 41 = .ok (.aload_n 0, 1) := by decide +kernel
theorem dX2_readRing_42 : decode cX2_readRing 42 = .ok (.getfield 40, 3) := by decide +kernel
theorem dX2_readRing_45 : decode cX2_readRing 45 = .ok (.iconst 3, 1) := by decide +kernel
theorem dX2_readRing_46 : decode cX2_readRing 46 = .ok (.if_icmp .ne 10, 3) := by decide +kernel
theorem dX2_readRing_49 : decode cX2_readRing 49 = .ok (.iload_n 1, 1) := by decide +kernel
theorem dX2_readRing_50 : decode cX2_readRing 50 = .ok (.iconst 3, 1) := by decide +kernel
theorem dX2_readRing_51 : decode cX2_readRing 51 = .ok (.if_icmp .lt 5, 3) := by decide +kernel
theorem dX2_readRing_54 : decode cX2_readRing 54 = .ok (.iconst 1, 1) := by decide +kernel
theorem dX2_readRing_55 : decode cX2_readRing 55 = .ok (.ireturn, 1) := by decide +kernel
theorem dX2_readRing_56 : decode cX2_readRing 56 = .ok (.aload_n 0, 1) := by decide +kernel
theorem dX2_readRing_57 : decode cX2_readRing 57 = .ok (.iload_n 1, 1) := by decide +kernel
theorem dX2_readRing_58 : decode cX2_readRing 58 = .ok (.invokevirtual 113, 3) := by decide +kernel
theorem dX2_readRing_61 : decode cX2_readRing 61 = .ok (.ifCond .ne 5, 3) := by decide +kernel
theorem dX2_readRing_64 : decode cX2_readRing 64 = .ok (.iconst 0, 1) := by decide +kernel
theorem dX2_readRing_65 : decode cX2_readRing 65 = .ok (.ireturn, 1) := by decide +kernel
theorem dX2_readRing_66 : decode cX2_readRing 66 = .ok (.iinc 1 1, 3) := by decide +kernel
theorem dX2_readRing_69 : decode cX2_readRing 69 = .ok (.goto (-38), 3) := by decide +kernel
theorem dX2_readRing_72 : decode cX2_readRing 72 = .ok (.iconst 0, 1) := by decide +kernel
theorem dX2_readRing_73 : decode cX2_readRing 73 = .ok (.ireturn, 1) := by decide +kernel
theorem wX2_readRing_72 (C : CxC p rmX2_readRing s m args meth c D ac q xa xv RX2 cX2_readRing 2) (hr : meth.sig.returnType = (some .boolean)) {σ : Mm} {r : Int × Mm} (hl : lv_has ls 2 [(0, .ref (q 3))]) (h : fX2_readRing_72 σ = some r) : VC p l e rmX2_readRing s m args below meth c D ac q (QIC D ac q xa xv below args s r) σ (F0 m 72 ls []) := by
  have h : some (0, σ) = some r := h
  refine v_iconst C dX2_readRing_72 ?_
  exact v_zret C hr (Or.inl rfl) h dX2_readRing_73
theorem wX2_readRing_56 (C : CxC p rmX2_readRing s m args meth c D ac q xa xv RX2 cX2_readRing 2) (hr : meth.sig.returnType = (some .boolean)) {v1 : Int} {c31 : Int → Mm → Option (Int × Mm)} {σ : Mm} {r : Int × Mm} (hc31 : ∀ (v1x : Int) (σ : Mm) (ls : Array Slot), lv_has ls 2 [(0, .ref (q 3)), (1, .int (i32 v1x))] → c31 v1x σ = some r → VC p l e rmX2_readRing s m args below meth c D ac q (QIC D ac q xa xv below args s r) σ (F0 m 31 ls [])) (hl : lv_has ls 2 [(0, .ref (q 3)), (1, .int (i32 v1))]) (h : fX2_readRing_56 c31 v1 σ = some r) : VC p l e rmX2_readRing s m args below meth c D ac q (QIC D ac q xa xv below args s r) σ (F0 m 56 ls []) := by
  have h : bd2 (fX2_takeCorner v1 σ) (fun x_1 σ_1 => cr x_1 ((if x_1 = 0 then some (0, σ_1) else bindv (v1 + 1) (fun v1_3 => c31 v1_3 σ_1)))) = some r := h
  refine v_aload_n C hl dX2_readRing_56 rfl 0 rfl ?_
  refine v_iload_n C hl dX2_readRing_57 rfl 1 rfl ?_
  obtain ⟨x_1, σ_1, hv1, h⟩ := bd2_e h
  refine v_callVI C 3 (klC kdC_3) rfl (ckC4 kdC_3 _) rfl [.int (i32 v1)] (mX2_takeCorner C.2.2.2.2.1 hv1) cd_X2_takeCorner ic_X2 im_X2_takeCorner se_X2_takeCorner ml_X2_113 yk_X2_takeCorner ⟨rfl, rfl, by decide, by decide⟩ rfl hl.1 (rest := []) rfl (Nat.le_of_ble_eq_true rfl) dX2_readRing_58 ?_
  have hz2 := (cr_e h).1
  have h := (cr_e h).2
  refine v_if_ne C (tgt := 66) hz2 h dX2_readRing_61 rfl (fun h => ?_) (fun h => ?_)
  · refine v_iinc C hl (fun x => [(1, .int (i32 x)), (0, .ref (q 3))]) dX2_readRing_66 1 rfl (by decide) (fun _ => rfl) h (fun v1_3 ls hl h => ?_)
    refine v_goto C (tgt := 31) dX2_readRing_69 rfl ?_
    exact hc31 _ _ _ (lv_sub hl [1, 0] rfl) h
  · refine v_iconst C dX2_readRing_64 ?_
    exact v_zret C hr (Or.inl rfl) h dX2_readRing_65
theorem wX2_readRing_31 (C : CxC p rmX2_readRing s m args meth c D ac q xa xv RX2 cX2_readRing 2) (hr : meth.sig.returnType = (some .boolean)) {v1 : Int} {σ : Mm} {e31 : Mm → Option (Int × Mm)} {c31 : Int → Mm → Option (Int × Mm)} {r : Int × Mm} (he31 : ∀ (σ : Mm) (ls : Array Slot), lv_has ls 2 [(0, .ref (q 3))] → e31 σ = some r → VC p l e rmX2_readRing s m args below meth c D ac q (QIC D ac q xa xv below args s r) σ (F0 m 72 ls [])) (hc31 : ∀ (v1x : Int) (σ : Mm) (ls : Array Slot), lv_has ls 2 [(0, .ref (q 3)), (1, .int (i32 v1x))] → c31 v1x σ = some r → VC p l e rmX2_readRing s m args below meth c D ac q (QIC D ac q xa xv below args s r) σ (F0 m 31 ls [])) (hl : lv_has ls 2 [(0, .ref (q 3)), (1, .int (i32 v1))]) (h : fX2_readRing_31 e31 c31 v1 σ = some r) : VC p l e rmX2_readRing s m args below meth c D ac q (QIC D ac q xa xv below args s r) σ (F0 m 31 ls []) := by
  have h : cr v1 ((if 10 < v1 then e31 σ else bd (fX2_nextToken σ) (fun σ_2 => cr (σ_2 3 3) ((if σ_2 3 3 = 3 then cr v1 ((if v1 < 3 then fX2_readRing_56 c31 v1 σ_2 else some (1, σ_2))) else fX2_readRing_56 c31 v1 σ_2))))) = some r := h
  refine v_iload_n C hl dX2_readRing_31 rfl 1 rfl ?_
  refine v_bipush C dX2_readRing_32 rfl ?_
  have hz1 := (cr_e h).1
  have h := (cr_e h).2
  refine v_icmp_gt C (tgt := 72) hz1 (by decide) h dX2_readRing_34 rfl (fun h => ?_) (fun h => ?_)
  · exact he31 _ _ (lv_sub hl [0] rfl) h
  · refine v_aload_n C hl dX2_readRing_37 rfl 0 rfl ?_
    obtain ⟨σ_2, hv2, h⟩ := bd_e h
    refine v_callVV C 3 (klC kdC_3) rfl (ckC4 kdC_3 _) rfl [] (mX2_nextToken C.2.2.2.2.1 hv2) cd_X2_nextToken ic_X2 im_X2_nextToken se_X2_nextToken ml_X2_37 yk_X2_nextToken ⟨rfl, rfl, by decide, by decide⟩ rfl hl.1 (rest := []) rfl (Nat.le_of_ble_eq_true rfl) dX2_readRing_38 ?_
    refine v_aload_n C hl dX2_readRing_41 rfl 0 rfl ?_
    refine g_X2_3 C kdC_3 fl_X2_40 dX2_readRing_42 ?_
    refine v_iconst C dX2_readRing_45 ?_
    have hz3 := (cr_e h).1
    have h := (cr_e h).2
    refine v_icmp_ne C (tgt := 56) hz3 (by decide) h dX2_readRing_46 rfl (fun h => ?_) (fun h => ?_)
    · exact wX2_readRing_56 C hr hc31 (lv_sub hl [0, 1] rfl) h
    · refine v_iload_n C hl dX2_readRing_49 rfl 1 rfl ?_
      refine v_iconst C dX2_readRing_50 ?_
      have hz4 := (cr_e h).1
      have h := (cr_e h).2
      refine v_icmp_lt C (tgt := 56) hz4 (by decide) h dX2_readRing_51 rfl (fun h => ?_) (fun h => ?_)
      · exact wX2_readRing_56 C hr hc31 (lv_sub hl [0, 1] rfl) h
      · refine v_iconst C dX2_readRing_54 ?_
        exact v_zret C hr (Or.inr rfl) h dX2_readRing_55
theorem wlX2_readRing_31 (C : CxC p rmX2_readRing s m args meth c D ac q xa xv RX2 cX2_readRing 2) (hr : meth.sig.returnType = (some .boolean)) {e31 : Mm → Option (Int × Mm)} {r : Int × Mm} (he31 : ∀ (σ : Mm) (ls : Array Slot), lv_has ls 2 [(0, .ref (q 3))] → e31 σ = some r → VC p l e rmX2_readRing s m args below meth c D ac q (QIC D ac q xa xv below args s r) σ (F0 m 72 ls [])) : ∀ (fu : Nat) (v1 : Int) (σ : Mm) (ls : Array Slot) (hl : lv_has ls 2 [(0, .ref (q 3)), (1, .int (i32 v1))]) (h : lX2_readRing_31 e31 fu v1 σ = some r), VC p l e rmX2_readRing s m args below meth c D ac q (QIC D ac q xa xv below args s r) σ (F0 m 31 ls []) := by
  intro fu
  induction fu with
  | zero =>
    intro v1 σ ls hl h
    have h : none = some r := h
    cases h
  | succ fu ih =>
    intro v1 σ ls hl h
    exact wX2_readRing_31 C hr he31 (fun v1 σ ls hl h => ih v1 σ ls hl h) hl h
theorem mX2_readRing (hq : QI 175 q)  {σ : Mm} {r : Int × Mm} (h : fX2_readRing σ = some r) : MIC l D ac q xa xv yX2_readRing cX2_readRing 2 (some .boolean) rmX2_readRing [.ref (q 3)] σ r := by
  refine MI.of hq XC_M (by decide) (Nat.le_of_ble_eq_true rfl) (fun p e s m below meth c ls C hr hl => ?_)
  have hl : lv_has ls 2 [(0, .ref (q 3))] := hl
  have h : cr (σ 111 10) ((if σ 111 10 < 6 then bd (fX1_openRing 111 σ) (fun σ_2 => bindv 0 (fun v1_3 => lX2_readRing_31 (fun σ_4 => fX2_readRing_72 σ_4) 400 v1_3 σ_2)) else bd2 (fX2_refuse 5 (σ 3 4) σ) (fun x_5 σ_5 => chb x_5 (some (x_5, σ_5))))) = some r := h
  refine v_aload_n C hl dX2_readRing_0 rfl 0 rfl ?_
  refine g_X2_1 C kdC_3 fl_X2_15 dX2_readRing_1 ?_
  refine g_X1_10 C kdC_111 fl_X2_107 dX2_readRing_4 ?_
  refine v_bipush C dX2_readRing_7 rfl ?_
  have hz1 := (cr_e h).1
  have h := (cr_e h).2
  refine v_icmp_lt C (tgt := 22) hz1 (by decide) h dX2_readRing_9 rfl (fun h => ?_) (fun h => ?_)
  · refine v_aload_n C hl dX2_readRing_22 rfl 0 rfl ?_
    refine g_X2_1 C kdC_3 fl_X2_15 dX2_readRing_23 ?_
    obtain ⟨σ_2, hv2, h⟩ := bd_e h
    refine v_callVV C 111 (klC kdC_111) rfl (ckC23 kdC_111 _) rfl [] (mX1_openRing C.2.2.2.2.1 kdC_111 hv2) cd_X1_openRing ic_X1 im_X1_openRing se_X1_openRing ml_X2_110 yk_X1_openRing ⟨rfl, rfl, by decide, by decide⟩ rfl hl.1 (rest := []) rfl (Nat.le_of_ble_eq_true rfl) dX2_readRing_26 ?_
    refine v_iconst C dX2_readRing_29 ?_
    refine v_istore_n C hl (fun x => [(1, .int (i32 x)), (0, .ref (q 3))]) dX2_readRing_30 rfl (by decide) (fun _ => rfl) h (fun v1_3 ls hl h => ?_)
    exact wlX2_readRing_31 C hr (fun σ_4 ls hl h => wX2_readRing_72 C hr (lv_sub hl [0] rfl) h) _ _ _ _ (lv_sub hl [1, 0] rfl) h
  · refine v_aload_n C hl dX2_readRing_12 rfl 0 rfl ?_
    refine v_iconst C dX2_readRing_13 ?_
    refine v_aload_n C hl dX2_readRing_14 rfl 0 rfl ?_
    refine g_X2_4 C kdC_3 fl_X2_65 dX2_readRing_15 ?_
    obtain ⟨x_5, σ_5, hv5, h⟩ := bd2_e h
    refine v_callVI C 3 (klC kdC_3) rfl (ckC4 kdC_3 _) rfl [.int (i32 5), .int (i32 (σ 3 4))] (mX2_refuse C.2.2.2.2.1 hv5) cd_X2_refuse ic_X2 im_X2_refuse se_X2_refuse ml_X2_55 yk_X2_refuse ⟨rfl, rfl, by decide, by decide⟩ rfl hl.1 (rest := []) rfl (Nat.le_of_ble_eq_true rfl) dX2_readRing_18 ?_
    have hz6 := (chb_e h).1
    have h := (chb_e h).2
    exact v_zret C hr hz6 h dX2_readRing_21
end
section
variable {l : Launch} {D : va_G} {ac : Nat → ClassId} {q xa xv : Nat → Nat} {p : Program} {e : Env} {s : State} {m : MethodId} {args : Array Value} {below : List Frame} {meth : Method} {c : Code} {ls : Array Slot}
theorem dX7_isBelow_0 : decode cX7_isBelow 0 = .ok (.iload_n 0, 1) := by decide +kernel
theorem dX7_isBelow_1 : decode cX7_isBelow 1 = .ok (.ifCond .lt 12, 3) := by decide +kernel
theorem dX7_isBelow_4 : decode cX7_isBelow 4 = .ok (.iload_n 0, 1) := by decide +kernel
theorem dX7_isBelow_5 : decode cX7_isBelow 5 = .ok (.iload_n 1, 1) := by decide +kernel
theorem dX7_isBelow_6 : decode cX7_isBelow 6 = .ok (.if_icmp .ge 7, 3) := by decide +kernel
theorem dX7_isBelow_9 : decode cX7_isBelow 9 = .ok (.iconst 1, 1) := by decide +kernel
theorem dX7_isBelow_10 : decode cX7_isBelow 10 = .ok (.goto 4, 3) := by decide +kernel
theorem dX7_isBelow_13 : decode cX7_isBelow 13 = .ok (.iconst 0, 1) := by decide +kernel
theorem dX7_isBelow_14 : decode cX7_isBelow 14 = .ok (.ireturn, 1) := by decide +kernel
theorem wX7_isBelow_14 (C : CxC p rmX7_isBelow s m args meth c D ac q xa xv RX7 cX7_isBelow 2) (hr : meth.sig.returnType = (some .boolean)) {t0 : Int} {σ : Mm} {r : Int} (hl : lv_has ls 2 []) (h : fX7_isBelow_14 t0 σ = some r) : VC p l e rmX7_isBelow s m args below meth c D ac q (QIC D ac q xa xv below args s (r, σ)) σ (F0 m 14 ls [.int (i32 t0)]) := by
  have h : chb t0 (some t0) = some r := h
  have hz1 := (chb_e h).1
  have h := (chb_e h).2
  exact v_zret C hr hz1 (so1 h) dX7_isBelow_14
theorem wX7_isBelow_13 (C : CxC p rmX7_isBelow s m args meth c D ac q xa xv RX7 cX7_isBelow 2) (hr : meth.sig.returnType = (some .boolean)) {σ : Mm} {r : Int} (hl : lv_has ls 2 []) (h : fX7_isBelow_13 σ = some r) : VC p l e rmX7_isBelow s m args below meth c D ac q (QIC D ac q xa xv below args s (r, σ)) σ (F0 m 13 ls []) := by
  have h : fX7_isBelow_14 0 σ = some r := h
  refine v_iconst C dX7_isBelow_13 ?_
  exact wX7_isBelow_14 C hr (lv_sub hl [] rfl) h
theorem mX7_isBelow (hq : QI 175 q) {v0 : Int} {v1 : Int} {σ : Mm} {r : Int} (h : fX7_isBelow v0 v1 σ = some r) : MIC l D ac q xa xv yX7_isBelow cX7_isBelow 2 (some .boolean) rmX7_isBelow [.int (i32 v0), .int (i32 v1)] σ (r, σ) := by
  refine MI.of hq XC_M (by decide) (Nat.le_of_ble_eq_true rfl) (fun p e s m below meth c ls C hr hl => ?_)
  have hl : lv_has ls 2 [(0, .int (i32 v0)), (1, .int (i32 v1))] := hl
  have h : cr v0 ((if v0 < 0 then fX7_isBelow_13 σ else cr v0 (cr v1 ((if v0 < v1 then fX7_isBelow_14 1 σ else fX7_isBelow_13 σ))))) = some r := h
  refine v_iload_n C hl dX7_isBelow_0 rfl 0 rfl ?_
  have hz1 := (cr_e h).1
  have h := (cr_e h).2
  refine v_if_lt C (tgt := 13) hz1 h dX7_isBelow_1 rfl (fun h => ?_) (fun h => ?_)
  · exact wX7_isBelow_13 C hr (lv_sub hl [] rfl) h
  · refine v_iload_n C hl dX7_isBelow_4 rfl 0 rfl ?_
    refine v_iload_n C hl dX7_isBelow_5 rfl 1 rfl ?_
    have hz2 := (cr_e h).1
    have h := (cr_e h).2
    have hz3 := (cr_e h).1
    have h := (cr_e h).2
    refine v_icmp_ge C (tgt := 13) hz2 hz3 h dX7_isBelow_6 rfl (fun h => ?_) (fun h => ?_)
    · exact wX7_isBelow_13 C hr (lv_sub hl [] rfl) h
    · refine v_iconst C dX7_isBelow_9 ?_
      refine v_goto C (tgt := 14) dX7_isBelow_10 rfl ?_
      exact wX7_isBelow_14 C hr (lv_sub hl [] rfl) h
end
section
variable {l : Launch} {D : va_G} {ac : Nat → ClassId} {q xa xv : Nat → Nat} {p : Program} {e : Env} {s : State} {m : MethodId} {args : Array Value} {below : List Frame} {meth : Method} {c : Code} {ls : Array Slot}
theorem dX2_readPin_0 : decode cX2_readPin 0 = .ok (.aload_n 0, 1) := by decide +kernel
theorem dX2_readPin_1 : decode cX2_readPin 1 = .ok (.bipush 24, 2) := by decide +kernel
theorem dX2_readPin_3 : decode cX2_readPin 3 = .ok (.invokevirtual 93, 3) := by decide +kernel
theorem dX2_readPin_6 : decode cX2_readPin 6 = .ok (.ifCond .ne 5, 3) := by decide +kernel
theorem dX2_readPin_9 : decode cX2_readPin 9 = .ok (.iconst 0, 1) := by decide +kernel
theorem dX2_readPin_10 : decode cX2_readPin 10 = .ok (.ireturn, 1) := by decide +kernel
theorem dX2_readPin_11 : decode cX2_readPin 11 = .ok (.aload_n 0, 1) := by decide +kernel
theorem dX2_readPin_12 : decode cX2_readPin 12 = .ok (.getfield 97, 3) := by decide +kernel
theorem dX2_readPin_15 : decode cX2_readPin 15 = .ok (.bipush 24, 2) := by decide +kernel
theorem dX2_readPin_17 : decode cX2_readPin 17 = .ok (.invokestatic 123, 3) := by decide +kernel
theorem dX2_readPin_20 : decode cX2_readPin 20 = .ok (.ifCond .eq 16, 3) := by decide +kernel
theorem dX2_readPin_23 : decode cX2_readPin 23 = .ok (.aload_n 0, 1) := by decide +kernel
theorem dX2_readPin_24 : decode cX2_readPin 24 = .ok (.getfield 15, 3) := by decide +kernel
theorem dX2_readPin_27 : decode cX2_readPin 27 = .ok (.getfield 126, 3) := by decide +kernel
theorem dX2_readPin_30 : decode cX2_readPin 30 = .ok (.aload_n 0, 1) := by decide +kernel
theorem dX2_readPin_31 : decode cX2_readPin 31 = .ok (.getfield 97, 3) := by decide +kernel
theorem dX2_readPin_34 : decode cX2_readPin 34 = .ok (.iconst 1, 1) := by decide +kernel
theorem dX2_readPin_35 : decode cX2_readPin 35 = .ok (.bastore, 1) := by decide +kernel
theorem dX2_readPin_36 : decode cX2_readPin 36 = .ok (.aload_n 0, 1) := by decide +kernel
theorem dX2_readPin_37 : decode cX2_readPin 37 = .ok (.invokevirtual 104, 3) := by decide +kernel
theorem dX2_readPin_40 : decode cX2_readPin 40 = .ok (.ireturn, 1) := by decide +kernel
theorem wX2_readPin_36 (C : CxC p rmX2_readPin s m args meth c D ac q xa xv RX2 cX2_readPin 1) (hr : meth.sig.returnType = (some .boolean)) {σ : Mm} {r : Int × Mm} (hl : lv_has ls 1 [(0, .ref (q 3))]) (h : fX2_readPin_36 σ = some r) : VC p l e rmX2_readPin s m args below meth c D ac q (QIC D ac q xa xv below args s r) σ (F0 m 36 ls []) := by
  have h : bd2 (fX2_readSemicolon σ) (fun x_1 σ_1 => chb x_1 (some (x_1, σ_1))) = some r := h
  refine v_aload_n C hl dX2_readPin_36 rfl 0 rfl ?_
  obtain ⟨x_1, σ_1, hv1, h⟩ := bd2_e h
  refine v_callVI C 3 (klC kdC_3) rfl (ckC4 kdC_3 _) rfl [] (mX2_readSemicolon C.2.2.2.2.1 hv1) cd_X2_readSemicolon ic_X2 im_X2_readSemicolon se_X2_readSemicolon ml_X2_104 yk_X2_readSemicolon ⟨rfl, rfl, by decide, by decide⟩ rfl hl.1 (rest := []) rfl (Nat.le_of_ble_eq_true rfl) dX2_readPin_37 ?_
  have hz2 := (chb_e h).1
  have h := (chb_e h).2
  exact v_zret C hr hz2 h dX2_readPin_40
theorem mX2_readPin (hq : QI 175 q)  {σ : Mm} {r : Int × Mm} (h : fX2_readPin σ = some r) : MIC l D ac q xa xv yX2_readPin cX2_readPin 1 (some .boolean) rmX2_readPin [.ref (q 3)] σ r := by
  refine MI.of hq XC_M (by decide) (Nat.le_of_ble_eq_true rfl) (fun p e s m below meth c ls C hr hl => ?_)
  have hl : lv_has ls 1 [(0, .ref (q 3))] := hl
  have h : bd2 (fX2_readNumber 24 σ) (fun x_1 σ_1 => cr x_1 ((if x_1 = 0 then some (0, σ_1) else bd (fX7_isBelow (σ_1 3 5) 24 σ_1) (fun x_3 => cr x_3 ((if x_3 = 0 then fX2_readPin_36 σ_1 else chb 1 (chk (σ_1 3 5) 24 (bindv (sto σ_1 114 (σ_1 3 5).toNat 1) (fun σ_5 => fX2_readPin_36 σ_5))))))))) = some r := h
  refine v_aload_n C hl dX2_readPin_0 rfl 0 rfl ?_
  refine v_bipush C dX2_readPin_1 rfl ?_
  obtain ⟨x_1, σ_1, hv1, h⟩ := bd2_e h
  refine v_callVI C 3 (klC kdC_3) rfl (ckC4 kdC_3 _) rfl [.int (i32 24)] (mX2_readNumber C.2.2.2.2.1 hv1) cd_X2_readNumber ic_X2 im_X2_readNumber se_X2_readNumber ml_X2_93 yk_X2_readNumber ⟨rfl, rfl, by decide, by decide⟩ rfl hl.1 (rest := []) rfl (Nat.le_of_ble_eq_true rfl) dX2_readPin_3 ?_
  have hz2 := (cr_e h).1
  have h := (cr_e h).2
  refine v_if_ne C (tgt := 11) hz2 h dX2_readPin_6 rfl (fun h => ?_) (fun h => ?_)
  · refine v_aload_n C hl dX2_readPin_11 rfl 0 rfl ?_
    refine g_X2_5 C kdC_3 fl_X2_97 dX2_readPin_12 ?_
    refine v_bipush C dX2_readPin_15 rfl ?_
    obtain ⟨x_3, hv3, h⟩ := bd_e h
    refine v_callSN C [.int (i32 (σ_1 3 5)), .int (i32 24)] (mX7_isBelow C.2.2.2.2.1 hv3) cd_X7_isBelow ic_X7 sm_X7_isBelow (nw_X2_123 C) yk_X7_isBelow ⟨rfl, rfl, by decide, by decide⟩ rfl hl.1 (rest := []) rfl (Nat.le_of_ble_eq_true rfl) dX2_readPin_17 ?_
    have hz4 := (cr_e h).1
    have h := (cr_e h).2
    refine v_if_eq C (tgt := 36) hz4 h dX2_readPin_20 rfl (fun h => ?_) (fun h => ?_)
    · exact wX2_readPin_36 C hr (lv_sub hl [0] rfl) h
    · refine v_aload_n C hl dX2_readPin_23 rfl 0 rfl ?_
      refine g_X2_1 C kdC_3 fl_X2_15 dX2_readPin_24 ?_
      refine g_X1_2 C kdC_111 fl_X2_126 dX2_readPin_27 ?_
      refine v_aload_n C hl dX2_readPin_30 rfl 0 rfl ?_
      refine g_X2_5 C kdC_3 fl_X2_97 dX2_readPin_31 ?_
      refine v_iconst C dX2_readPin_34 ?_
      refine asC15 C kdC_114 h dX2_readPin_35 (fun σ_5 h => ?_)
      exact wX2_readPin_36 C hr (lv_sub hl [0] rfl) h
  · refine v_iconst C dX2_readPin_9 ?_
    exact v_zret C hr (Or.inl rfl) h dX2_readPin_10
end
section
variable {l : Launch} {D : va_G} {ac : Nat → ClassId} {q xa xv : Nat → Nat} {p : Program} {e : Env} {s : State} {m : MethodId} {args : Array Value} {below : List Frame} {meth : Method} {c : Code} {ls : Array Slot}
theorem dX2_readLine_0 : decode cX2_readLine 0 = .ok (.aload_n 0, 1) := by decide +kernel
theorem dX2_readLine_1 : decode cX2_readLine 1 = .ok (.ldc 68, 2) := by decide +kernel
theorem dX2_readLine_3 : decode cX2_readLine 3 = .ok (.invokevirtual 70, 3) := by decide +kernel
theorem dX2_readLine_6 : decode cX2_readLine 6 = .ok (.ifCond .eq 8, 3) := by decide +kernel
theorem dX2_readLine_9 : decode cX2_readLine 9 = .ok (.aload_n 0, 1) := by decide +kernel
theorem dX2_readLine_10 : decode cX2_readLine 10 = .ok (.invokevirtual 74, 3) := by decide +kernel
theorem dX2_readLine_13 : decode cX2_readLine 13 = .ok (.ireturn, 1) := by decide +kernel
theorem dX2_readLine_14 : decode cX2_readLine 14 = .ok (.aload_n 0, 1) := by decide +kernel
theorem dX2_readLine_15 : decode cX2_readLine 15 = .ok (.ldc 77, 2) := by decide +kernel
theorem dX2_readLine_17 : decode cX2_readLine 17 = .ok (.invokevirtual 70, 3) := by decide +kernel
theorem dX2_readLine_20 : decode cX2_readLine 20 = .ok (.ifCond .eq 8, 3) := by decide +kernel
theorem dX2_readLine_23 : decode cX2_readLine 23 = .ok (.aload_n 0, 1) := by decide +kernel
theorem dX2_readLine_24 : decode cX2_readLine 24 = .ok (.invokevirtual 79, 3) := by decide +kernel
theorem dX2_readLine_27 : decode cX2_readLine 27 = .ok (.ireturn, 1) := by decide +kernel
theorem dX2_readLine_28 : decode cX2_readLine 28 = .ok (.aload_n 0, 1) := by decide +kernel
theorem dX2_readLine_29 : decode cX2_readLine 29 = .ok (.ldc 82, 2) := by decide +kernel
theorem dX2_readLine_31 : decode cX2_readLine 31 = .ok (.invokevirtual 70, 3) := by decide +kernel
theorem dX2_readLine_34 : decode cX2_readLine 34 = .ok (.ifCond .eq 8, 3) := by decide +kernel
theorem dX2_readLine_37 : decode cX2_readLine 37 = .ok (.aload_n 0, 1) := by decide +kernel
theorem dX2_readLine_38 : decode cX2_readLine 38 = .ok (.invokevirtual 84, 3) := by decide +kernel
theorem dX2_readLine_41 : decode cX2_readLine 41 = .ok (.ireturn, 1) := by decide +kernel
theorem dX2_readLine_42 : decode cX2_readLine 42 = .ok (.aload_n 0, 1) := by decide +kernel
theorem dX2_readLine_43 : decode cX2_readLine 43 = .ok (.invokevirtual 87, 3) := by decide +kernel
theorem dX2_readLine_46 : decode cX2_readLine 46 = .ok (.ireturn, 1) := by decide +kernel
theorem mX2_readLine (hq : QI 175 q)  {σ : Mm} {r : Int × Mm} (h : fX2_readLine σ = some r) : MIC l D ac q xa xv yX2_readLine cX2_readLine 1 (some .boolean) rmX2_readLine [.ref (q 3)] σ r := by
  refine MI.of hq XC_M (by decide) (Nat.le_of_ble_eq_true rfl) (fun p e s m below meth c ls C hr hl => ?_)
  have hl : lv_has ls 1 [(0, .ref (q 3))] := hl
  have h : bd (fX2_nameIs 0 σ) (fun x_1 => cr x_1 ((if x_1 = 0 then bd (fX2_nameIs 1 σ) (fun x_3 => cr x_3 ((if x_3 = 0 then bd (fX2_nameIs 2 σ) (fun x_5 => cr x_5 ((if x_5 = 0 then bd2 (fX2_refuseToken σ) (fun x_7 σ_7 => chb x_7 (some (x_7, σ_7))) else bd2 (fX2_readPin σ) (fun x_9 σ_9 => chb x_9 (some (x_9, σ_9)))))) else bd2 (fX2_readRing σ) (fun x_11 σ_11 => chb x_11 (some (x_11, σ_11)))))) else bd2 (fX2_readPoint σ) (fun x_13 σ_13 => chb x_13 (some (x_13, σ_13)))))) = some r := h
  refine v_aload_n C hl dX2_readLine_0 rfl 0 rfl ?_
  refine v_str C 0 (by decide) dX2_readLine_1 ?_
  obtain ⟨x_1, hv1, h⟩ := bd_e h
  refine v_callVI C 3 (klC kdC_3) rfl (ckC4 kdC_3 _) rfl [.ref (xa 0)] (mX2_nameIs C.2.2.2.2.1 (by decide) hv1) cd_X2_nameIs ic_X2 im_X2_nameIs se_X2_nameIs ml_X2_70 yk_X2_nameIs ⟨rfl, rfl, by decide, by decide⟩ rfl hl.1 (rest := []) rfl (Nat.le_of_ble_eq_true rfl) dX2_readLine_3 ?_
  have hz2 := (cr_e h).1
  have h := (cr_e h).2
  refine v_if_eq C (tgt := 14) hz2 h dX2_readLine_6 rfl (fun h => ?_) (fun h => ?_)
  · refine v_aload_n C hl dX2_readLine_14 rfl 0 rfl ?_
    refine v_str C 1 (by decide) dX2_readLine_15 ?_
    obtain ⟨x_3, hv3, h⟩ := bd_e h
    refine v_callVI C 3 (klC kdC_3) rfl (ckC4 kdC_3 _) rfl [.ref (xa 1)] (mX2_nameIs C.2.2.2.2.1 (by decide) hv3) cd_X2_nameIs ic_X2 im_X2_nameIs se_X2_nameIs ml_X2_70 yk_X2_nameIs ⟨rfl, rfl, by decide, by decide⟩ rfl hl.1 (rest := []) rfl (Nat.le_of_ble_eq_true rfl) dX2_readLine_17 ?_
    have hz4 := (cr_e h).1
    have h := (cr_e h).2
    refine v_if_eq C (tgt := 28) hz4 h dX2_readLine_20 rfl (fun h => ?_) (fun h => ?_)
    · refine v_aload_n C hl dX2_readLine_28 rfl 0 rfl ?_
      refine v_str C 2 (by decide) dX2_readLine_29 ?_
      obtain ⟨x_5, hv5, h⟩ := bd_e h
      refine v_callVI C 3 (klC kdC_3) rfl (ckC4 kdC_3 _) rfl [.ref (xa 2)] (mX2_nameIs C.2.2.2.2.1 (by decide) hv5) cd_X2_nameIs ic_X2 im_X2_nameIs se_X2_nameIs ml_X2_70 yk_X2_nameIs ⟨rfl, rfl, by decide, by decide⟩ rfl hl.1 (rest := []) rfl (Nat.le_of_ble_eq_true rfl) dX2_readLine_31 ?_
      have hz6 := (cr_e h).1
      have h := (cr_e h).2
      refine v_if_eq C (tgt := 42) hz6 h dX2_readLine_34 rfl (fun h => ?_) (fun h => ?_)
      · refine v_aload_n C hl dX2_readLine_42 rfl 0 rfl ?_
        obtain ⟨x_7, σ_7, hv7, h⟩ := bd2_e h
        refine v_callVI C 3 (klC kdC_3) rfl (ckC4 kdC_3 _) rfl [] (mX2_refuseToken C.2.2.2.2.1 hv7) cd_X2_refuseToken ic_X2 im_X2_refuseToken se_X2_refuseToken ml_X2_87 yk_X2_refuseToken ⟨rfl, rfl, by decide, by decide⟩ rfl hl.1 (rest := []) rfl (Nat.le_of_ble_eq_true rfl) dX2_readLine_43 ?_
        have hz8 := (chb_e h).1
        have h := (chb_e h).2
        exact v_zret C hr hz8 h dX2_readLine_46
      · refine v_aload_n C hl dX2_readLine_37 rfl 0 rfl ?_
        obtain ⟨x_9, σ_9, hv9, h⟩ := bd2_e h
        refine v_callVI C 3 (klC kdC_3) rfl (ckC4 kdC_3 _) rfl [] (mX2_readPin C.2.2.2.2.1 hv9) cd_X2_readPin ic_X2 im_X2_readPin se_X2_readPin ml_X2_84 yk_X2_readPin ⟨rfl, rfl, by decide, by decide⟩ rfl hl.1 (rest := []) rfl (Nat.le_of_ble_eq_true rfl) dX2_readLine_38 ?_
        have hz10 := (chb_e h).1
        have h := (chb_e h).2
        exact v_zret C hr hz10 h dX2_readLine_41
    · refine v_aload_n C hl dX2_readLine_23 rfl 0 rfl ?_
      obtain ⟨x_11, σ_11, hv11, h⟩ := bd2_e h
      refine v_callVI C 3 (klC kdC_3) rfl (ckC4 kdC_3 _) rfl [] (mX2_readRing C.2.2.2.2.1 hv11) cd_X2_readRing ic_X2 im_X2_readRing se_X2_readRing ml_X2_79 yk_X2_readRing ⟨rfl, rfl, by decide, by decide⟩ rfl hl.1 (rest := []) rfl (Nat.le_of_ble_eq_true rfl) dX2_readLine_24 ?_
      have hz12 := (chb_e h).1
      have h := (chb_e h).2
      exact v_zret C hr hz12 h dX2_readLine_27
  · refine v_aload_n C hl dX2_readLine_9 rfl 0 rfl ?_
    obtain ⟨x_13, σ_13, hv13, h⟩ := bd2_e h
    refine v_callVI C 3 (klC kdC_3) rfl (ckC4 kdC_3 _) rfl [] (mX2_readPoint C.2.2.2.2.1 hv13) cd_X2_readPoint ic_X2 im_X2_readPoint se_X2_readPoint ml_X2_74 yk_X2_readPoint ⟨rfl, rfl, by decide, by decide⟩ rfl hl.1 (rest := []) rfl (Nat.le_of_ble_eq_true rfl) dX2_readLine_10 ?_
    have hz14 := (chb_e h).1
    have h := (chb_e h).2
    exact v_zret C hr hz14 h dX2_readLine_13
end
section
variable {l : Launch} {D : va_G} {ac : Nat → ClassId} {q xa xv : Nat → Nat} {p : Program} {e : Env} {s : State} {m : MethodId} {args : Array Value} {below : List Frame} {meth : Method} {c : Code} {ls : Array Slot}
theorem dX2_readAll_0 : decode cX2_readAll 0 = .ok (.aload_n 0, 1) := by decide +kernel
theorem dX2_readAll_1 : decode cX2_readAll 1 = .ok (.getfield 15, 3) := by decide +kernel
theorem dX2_readAll_4 : decode cX2_readAll 4 = .ok (.invokevirtual 19, 3) := by decide +kernel
theorem dX2_readAll_7 : decode cX2_readAll 7 = .ok (.aload_n 0, 1) := by decide +kernel
theorem dX2_readAll_8 : decode cX2_readAll 8 = .ok (.iconst 0, 1) := by decide +kernel
theorem dX2_readAll_9 : decode cX2_readAll 9 = .ok (.putfield 24, 3) := by decide +kernel
theorem dX2_readAll_12 : decode cX2_readAll 12 = .ok (.aload_n 0, 1) := by decide +kernel
theorem dX2_readAll_13 : decode cX2_readAll 13 = .ok (.iconst 0, 1) := by decide +kernel
theorem dX2_readAll_14 : decode cX2_readAll 14 = .ok (.putfield 28, 3) := by decide +kernel
theorem dX2_readAll_17 : decode cX2_readAll 17 = .ok (.aload_n 0, 1) := by decide +kernel
theorem dX2_readAll_18 : decode cX2_readAll 18 = .ok (.iconst 0, 1) := by decide +kernel
theorem dX2_readAll_19 : decode cX2_readAll 19 = .ok (.putfield 31, 3) := by decide +kernel
theorem dX2_readAll_22 : decode cX2_readAll 22 = .ok (.aload_n 0, 1) := by decide +kernel
theorem dX2_readAll_23 : decode cX2_readAll 23 = .ok (.iconst 0, 1) := by decide +kernel
theorem dX2_readAll_24 : decode cX2_readAll 24 = .ok (.putfield 34, 3) := by decide +kernel
theorem dX2_readAll_27 : decode cX2_readAll 27 = .ok (.iconst 0, 1) := by decide +kernel
theorem dX2_readAll_28 : decode cX2_readAll 28 = .ok (.istore_n 1, 1) := by decide +kernel
theorem dX2_readAll_29 : decode cX2_readAll 29 = .ok (.iload_n 1, 1) := by decide +kernel
theorem dX2_readAll_30 : decode cX2_readAll 30 = .ok (.sipush 320, 3) := by decide +kernel
theorem dX2_readAll_33 : decode cX2_readAll 33 = .ok (.if_icmp .gt 41, 3) := by decide +kernel
theorem dX2_readAll_36 : decode cX2_readAll 36 = .ok (.aload_n 0, 1) := by decide +kernel
theorem dX2_readAll_37 : decode cX2_readAll 37 = .ok (.invokevirtual 37, 3) := by decide +kernel
theorem dX2_readAll_40 : decode cX2_readAll 40 = .ok (.aload_n 0, 1) := by decide +kernel
theorem dX2_readAll_41 : decode cX2_readAll 41 = .ok (.getfield 40, 3) := by decide +kernel
theorem dX2_readAll_44 : decode cX2_readAll 44 = .ok (.ifCond .ne 5, 3) := by decide +kernel
theorem dX2_readAll_47 : decode cX2_readAll 47 = .ok (.iconst 1, 1) := by decide +kernel
theorem dX2_readAll_48 : decode cX2_readAll 48 = .ok (.ireturn, 1) := by decide +kernel
theorem dX2_readAll_49 : decode cX2_readAll 49 = .ok (.aload_n 0, 1) := by decide +kernel
theorem dX2_readAll_50 : decode cX2_readAll 50 = .ok (.invokevirtual 43, 3) := by decide +kernel
theorem dX2_readAll_53 : decode cX2_readAll 53 = .ok (.ifCond .ne 5, 3) := by decide +kernel
theorem dX2_readAll_56 : decode cX2_readAll 56 = .ok (.iconst 0, 1) := by decide +kernel
theorem dX2_readAll_57 : decode cX2_readAll 57 = .ok (.ireturn, 1) := by decide +kernel
theorem dX2_readAll_58 : decode cX2_readAll 58 = .ok (.aload_n 0, 1) := by decide +kernel
theorem dX2_readAll_59 : decode cX2_readAll 59 = .ok (.dup, 1) := by decide +kernel
theorem dX2_readAll_60 : decode cX2_readAll 60 = .ok (.getfield 34, 3) := by decide +kernel
theorem dX2_readAll_63 : decode cX2_readAll 63 = .ok (.iconst 1, 1) := by decide +kernel
theorem dX2_readAll_64 : decode cX2_readAll 64 = .ok (.iadd, 1) := by decide +kernel
theorem dX2_readAll_65 : decode cX2_readAll 65 = .ok (.putfield 34, 3) := by decide +kernel
theorem dX2_readAll_68 : decode cX2_readAll 68 = .ok (.iinc 1 1, 3) := by decide +kernel
theorem dX2_readAll_71 : decode cX2_readAll 71 = .ok (.goto (-42), 3) := by decide +kernel
theorem dX2_readAll_74 : decode cX2_readAll 74 = .ok (.iconst 0, 1) := by decide +kernel
theorem dX2_readAll_75 : decode cX2_readAll 75 = .ok (.ireturn, 1) := by decide +kernel
theorem wX2_readAll_74 (C : CxC p rmX2_readAll s m args meth c D ac q xa xv RX2 cX2_readAll 2) (hr : meth.sig.returnType = (some .boolean)) {σ : Mm} {r : Int × Mm} (hl : lv_has ls 2 [(0, .ref (q 3))]) (h : fX2_readAll_74 σ = some r) : VC p l e rmX2_readAll s m args below meth c D ac q (QIC D ac q xa xv below args s r) σ (F0 m 74 ls []) := by
  have h : some (0, σ) = some r := h
  refine v_iconst C dX2_readAll_74 ?_
  exact v_zret C hr (Or.inl rfl) h dX2_readAll_75
theorem wX2_readAll_29 (C : CxC p rmX2_readAll s m args meth c D ac q xa xv RX2 cX2_readAll 2) (hr : meth.sig.returnType = (some .boolean)) {v1 : Int} {σ : Mm} {e29 : Mm → Option (Int × Mm)} {c29 : Int → Mm → Option (Int × Mm)} {r : Int × Mm} (he29 : ∀ (σ : Mm) (ls : Array Slot), lv_has ls 2 [(0, .ref (q 3))] → e29 σ = some r → VC p l e rmX2_readAll s m args below meth c D ac q (QIC D ac q xa xv below args s r) σ (F0 m 74 ls [])) (hc29 : ∀ (v1x : Int) (σ : Mm) (ls : Array Slot), lv_has ls 2 [(0, .ref (q 3)), (1, .int (i32 v1x))] → c29 v1x σ = some r → VC p l e rmX2_readAll s m args below meth c D ac q (QIC D ac q xa xv below args s r) σ (F0 m 29 ls [])) (hl : lv_has ls 2 [(0, .ref (q 3)), (1, .int (i32 v1))]) (h : fX2_readAll_29 e29 c29 v1 σ = some r) : VC p l e rmX2_readAll s m args below meth c D ac q (QIC D ac q xa xv below args s r) σ (F0 m 29 ls []) := by
  have h : cr v1 ((if 320 < v1 then e29 σ else bd (fX2_nextToken σ) (fun σ_2 => cr (σ_2 3 3) ((if σ_2 3 3 = 0 then some (1, σ_2) else bd2 (fX2_readLine σ_2) (fun x_4 σ_4 => cr x_4 ((if x_4 = 0 then some (0, σ_4) else bindv (sto σ_4 3 8 ((σ_4 3 8) + 1)) (fun σ_6 => bindv (v1 + 1) (fun v1_7 => c29 v1_7 σ_6)))))))))) = some r := h
  refine v_iload_n C hl dX2_readAll_29 rfl 1 rfl ?_
  refine v_sipush C dX2_readAll_30 rfl ?_
  have hz1 := (cr_e h).1
  have h := (cr_e h).2
  refine v_icmp_gt C (tgt := 74) hz1 (by decide) h dX2_readAll_33 rfl (fun h => ?_) (fun h => ?_)
  · exact he29 _ _ (lv_sub hl [0] rfl) h
  · refine v_aload_n C hl dX2_readAll_36 rfl 0 rfl ?_
    obtain ⟨σ_2, hv2, h⟩ := bd_e h
    refine v_callVV C 3 (klC kdC_3) rfl (ckC4 kdC_3 _) rfl [] (mX2_nextToken C.2.2.2.2.1 hv2) cd_X2_nextToken ic_X2 im_X2_nextToken se_X2_nextToken ml_X2_37 yk_X2_nextToken ⟨rfl, rfl, by decide, by decide⟩ rfl hl.1 (rest := []) rfl (Nat.le_of_ble_eq_true rfl) dX2_readAll_37 ?_
    refine v_aload_n C hl dX2_readAll_40 rfl 0 rfl ?_
    refine g_X2_3 C kdC_3 fl_X2_40 dX2_readAll_41 ?_
    have hz3 := (cr_e h).1
    have h := (cr_e h).2
    refine v_if_ne C (tgt := 49) hz3 h dX2_readAll_44 rfl (fun h => ?_) (fun h => ?_)
    · refine v_aload_n C hl dX2_readAll_49 rfl 0 rfl ?_
      obtain ⟨x_4, σ_4, hv4, h⟩ := bd2_e h
      refine v_callVI C 3 (klC kdC_3) rfl (ckC4 kdC_3 _) rfl [] (mX2_readLine C.2.2.2.2.1 hv4) cd_X2_readLine ic_X2 im_X2_readLine se_X2_readLine ml_X2_43 yk_X2_readLine ⟨rfl, rfl, by decide, by decide⟩ rfl hl.1 (rest := []) rfl (Nat.le_of_ble_eq_true rfl) dX2_readAll_50 ?_
      have hz5 := (cr_e h).1
      have h := (cr_e h).2
      refine v_if_ne C (tgt := 58) hz5 h dX2_readAll_53 rfl (fun h => ?_) (fun h => ?_)
      · refine v_aload_n C hl dX2_readAll_58 rfl 0 rfl ?_
        refine v_dup C dX2_readAll_59 rfl ?_
        refine g_X2_8 C kdC_3 fl_X2_34 dX2_readAll_60 ?_
        refine v_iconst C dX2_readAll_63 ?_
        refine v_iadd C dX2_readAll_64 ?_
        refine s_X2_8 C kdC_3 fl_X2_34 h dX2_readAll_65 (fun σ_6 h => ?_)
        refine v_iinc C hl (fun x => [(1, .int (i32 x)), (0, .ref (q 3))]) dX2_readAll_68 1 rfl (by decide) (fun _ => rfl) h (fun v1_7 ls hl h => ?_)
        refine v_goto C (tgt := 29) dX2_readAll_71 rfl ?_
        exact hc29 _ _ _ (lv_sub hl [1, 0] rfl) h
      · refine v_iconst C dX2_readAll_56 ?_
        exact v_zret C hr (Or.inl rfl) h dX2_readAll_57
    · refine v_iconst C dX2_readAll_47 ?_
      exact v_zret C hr (Or.inr rfl) h dX2_readAll_48
theorem wlX2_readAll_29 (C : CxC p rmX2_readAll s m args meth c D ac q xa xv RX2 cX2_readAll 2) (hr : meth.sig.returnType = (some .boolean)) {e29 : Mm → Option (Int × Mm)} {r : Int × Mm} (he29 : ∀ (σ : Mm) (ls : Array Slot), lv_has ls 2 [(0, .ref (q 3))] → e29 σ = some r → VC p l e rmX2_readAll s m args below meth c D ac q (QIC D ac q xa xv below args s r) σ (F0 m 74 ls [])) : ∀ (fu : Nat) (v1 : Int) (σ : Mm) (ls : Array Slot) (hl : lv_has ls 2 [(0, .ref (q 3)), (1, .int (i32 v1))]) (h : lX2_readAll_29 e29 fu v1 σ = some r), VC p l e rmX2_readAll s m args below meth c D ac q (QIC D ac q xa xv below args s r) σ (F0 m 29 ls []) := by
  intro fu
  induction fu with
  | zero =>
    intro v1 σ ls hl h
    have h : none = some r := h
    cases h
  | succ fu ih =>
    intro v1 σ ls hl h
    exact wX2_readAll_29 C hr he29 (fun v1 σ ls hl h => ih v1 σ ls hl h) hl h
theorem mX2_readAll (hq : QI 175 q)  {σ : Mm} {r : Int × Mm} (h : fX2_readAll σ = some r) : MIC l D ac q xa xv yX2_readAll cX2_readAll 2 (some .boolean) rmX2_readAll [.ref (q 3)] σ r := by
  refine MI.of hq XC_M (by decide) (Nat.le_of_ble_eq_true rfl) (fun p e s m below meth c ls C hr hl => ?_)
  have hl : lv_has ls 2 [(0, .ref (q 3))] := hl
  have h : bd (fX1_clear 111 σ) (fun σ_1 => bindv (sto σ_1 3 2 0) (fun σ_2 => bindv (sto σ_2 3 6 0) (fun σ_3 => bindv (sto σ_3 3 7 0) (fun σ_4 => bindv (sto σ_4 3 8 0) (fun σ_5 => bindv 0 (fun v1_6 => lX2_readAll_29 (fun σ_7 => fX2_readAll_74 σ_7) 400 v1_6 σ_5)))))) = some r := h
  refine v_aload_n C hl dX2_readAll_0 rfl 0 rfl ?_
  refine g_X2_1 C kdC_3 fl_X2_15 dX2_readAll_1 ?_
  obtain ⟨σ_1, hv1, h⟩ := bd_e h
  refine v_callVV C 111 (klC kdC_111) rfl (ckC23 kdC_111 _) rfl [] (mX1_clear C.2.2.2.2.1 kdC_111 hv1) cd_X1_clear ic_X1 im_X1_clear se_X1_clear ml_X2_19 yk_X1_clear ⟨rfl, rfl, by decide, by decide⟩ rfl hl.1 (rest := []) rfl (Nat.le_of_ble_eq_true rfl) dX2_readAll_4 ?_
  refine v_aload_n C hl dX2_readAll_7 rfl 0 rfl ?_
  refine v_iconst C dX2_readAll_8 ?_
  refine s_X2_2 C kdC_3 fl_X2_24 h dX2_readAll_9 (fun σ_2 h => ?_)
  refine v_aload_n C hl dX2_readAll_12 rfl 0 rfl ?_
  refine v_iconst C dX2_readAll_13 ?_
  refine s_X2_6 C kdC_3 fl_X2_28 h dX2_readAll_14 (fun σ_3 h => ?_)
  refine v_aload_n C hl dX2_readAll_17 rfl 0 rfl ?_
  refine v_iconst C dX2_readAll_18 ?_
  refine s_X2_7 C kdC_3 fl_X2_31 h dX2_readAll_19 (fun σ_4 h => ?_)
  refine v_aload_n C hl dX2_readAll_22 rfl 0 rfl ?_
  refine v_iconst C dX2_readAll_23 ?_
  refine s_X2_8 C kdC_3 fl_X2_34 h dX2_readAll_24 (fun σ_5 h => ?_)
  refine v_iconst C dX2_readAll_27 ?_
  refine v_istore_n C hl (fun x => [(1, .int (i32 x)), (0, .ref (q 3))]) dX2_readAll_28 rfl (by decide) (fun _ => rfl) h (fun v1_6 ls hl h => ?_)
  exact wlX2_readAll_29 C hr (fun σ_7 ls hl h => wX2_readAll_74 C hr (lv_sub hl [0] rfl) h) _ _ _ _ (lv_sub hl [1, 0] rfl) h
end
section
variable {l : Launch} {D : va_G} {ac : Nat → ClassId} {q xa xv : Nat → Nat} {p : Program} {e : Env} {s : State} {m : MethodId} {args : Array Value} {below : List Frame} {meth : Method} {c : Code} {ls : Array Slot}
theorem dX3_indexIn_0 : decode cX3_indexIn 0 = .ok (.iconst 0, 1) := by decide +kernel
theorem dX3_indexIn_1 : decode cX3_indexIn 1 = .ok (.istore_n 3, 1) := by decide +kernel
theorem dX3_indexIn_2 : decode cX3_indexIn 2 = .ok (.iload_n 3, 1) := by decide +kernel
theorem dX3_indexIn_3 : decode cX3_indexIn 3 = .ok (.aload_n 0, 1) := by decide +kernel
theorem dX3_indexIn_4 : decode cX3_indexIn 4 = .ok (.getfield 16, 3) := by decide +kernel
theorem dX3_indexIn_7 : decode cX3_indexIn 7 = .ok (.iload_n 1, 1) := by decide +kernel
theorem dX3_indexIn_8 : decode cX3_indexIn 8 = .ok (.iaload, 1) := by decide +kernel
theorem dX3_indexIn_9 : decode cX3_indexIn 9 = .ok (.if_icmp .ge 23, 3) := by decide +kernel
theorem dX3_indexIn_12 : decode cX3_indexIn 12 = .ok (.aload_n 0, 1) := by decide +kernel
theorem dX3_indexIn_13 : decode cX3_indexIn 13 = .ok (.getfield 11, 3) := by decide +kernel
theorem dX3_indexIn_16 : decode cX3_indexIn 16 = .ok (.iload_n 1, 1) := by decide +kernel
theorem dX3_indexIn_17 : decode cX3_indexIn 17 = .ok (.aaload, 1) := by decide +kernel
theorem dX3_indexIn_18 : decode cX3_indexIn 18 = .ok (.iload_n 3, 1) := by decide +kernel
theorem dX3_indexIn_19 : decode cX3_indexIn 19 = .ok (.iaload, 1) := by decide +kernel
theorem dX3_indexIn_20 : decode cX3_indexIn 20 = .ok (.iload_n 2, 1) := by decide +kernel
theorem dX3_indexIn_21 : decode cX3_indexIn 21 = .ok (.if_icmp .ne 5, 3) := by decide +kernel
theorem dX3_indexIn_24 : decode cX3_indexIn 24 = .ok (.iload_n 3, 1) := by decide +kernel
theorem dX3_indexIn_25 : decode cX3_indexIn 25 = .ok (.ireturn, 1) := by decide +kernel
theorem dX3_indexIn_26 : decode cX3_indexIn 26 = .ok (.iinc 3 1, 3) := by decide +kernel
theorem dX3_indexIn_29 : decode cX3_indexIn 29 = .ok (.goto (-27), 3) := by decide +kernel
theorem dX3_indexIn_32 : decode cX3_indexIn 32 = .ok (.iconst (-1), 1) := by decide +kernel
theorem dX3_indexIn_33 : decode cX3_indexIn 33 = .ok (.ireturn, 1) := by decide +kernel
theorem wX3_indexIn_32 (C : CxC p rmX3_indexIn s m args meth c D ac q xa xv RX3 cX3_indexIn 4) (hr : meth.sig.returnType = (some .int)) {σ : Mm} {r : Int} (hl : lv_has ls 4 [(0, .ref (q 13))]) (h : fX3_indexIn_32 σ = some r) : VC p l e rmX3_indexIn s m args below meth c D ac q (QIC D ac q xa xv below args s (r, σ)) σ (F0 m 32 ls []) := by
  have h : some (-1) = some r := h
  refine v_iconst C dX3_indexIn_32 ?_
  exact v_iret C hr (so1 h) dX3_indexIn_33
theorem wX3_indexIn_2 (C : CxC p rmX3_indexIn s m args meth c D ac q xa xv RX3 cX3_indexIn 4) (hr : meth.sig.returnType = (some .int)) {v1 : Int} {v2 : Int} {σ : Mm} {v3 : Int} {e2 : Option (Int)} {c2 : Int → Option (Int)} {r : Int} (he2 : ∀ (ls : Array Slot), lv_has ls 4 [(0, .ref (q 13))] → e2 = some r → VC p l e rmX3_indexIn s m args below meth c D ac q (QIC D ac q xa xv below args s (r, σ)) σ (F0 m 32 ls [])) (hc2 : ∀ (v3x : Int) (ls : Array Slot), lv_has ls 4 [(0, .ref (q 13)), (1, .int (i32 v1)), (2, .int (i32 v2)), (3, .int (i32 v3x))] → c2 v3x = some r → VC p l e rmX3_indexIn s m args below meth c D ac q (QIC D ac q xa xv below args s (r, σ)) σ (F0 m 2 ls [])) (hl : lv_has ls 4 [(0, .ref (q 13)), (1, .int (i32 v1)), (2, .int (i32 v2)), (3, .int (i32 v3))]) (h : fX3_indexIn_2 v1 v2 σ e2 c2 v3 = some r) : VC p l e rmX3_indexIn s m args below meth c D ac q (QIC D ac q xa xv below args s (r, σ)) σ (F0 m 2 ls []) := by
  have h : chk v1 6 (cr v3 (cr (σ 15 (v1).toNat) ((if v3 < σ 15 (v1).toNat then chk v1 6 (chk v3 10 (cr (σ (29 + (v1).toNat) (v3).toNat) (cr v2 ((if σ (29 + (v1).toNat) (v3).toNat = v2 then some v3 else bindv (v3 + 1) (fun v3_6 => c2 v3_6)))))) else e2)))) = some r := h
  refine v_iload_n C hl dX3_indexIn_2 rfl 3 rfl ?_
  refine v_aload_n C hl dX3_indexIn_3 rfl 0 rfl ?_
  refine g_X3_2 C kdC_13 fl_X3_16 dX3_indexIn_4 ?_
  refine v_iload_n C hl dX3_indexIn_7 rfl 1 rfl ?_
  refine alC14 C kdC_15 h dX3_indexIn_8 (fun h => ?_)
  have hz1 := (cr_e h).1
  have h := (cr_e h).2
  have hz2 := (cr_e h).1
  have h := (cr_e h).2
  refine v_icmp_ge C (tgt := 32) hz1 hz2 h dX3_indexIn_9 rfl (fun h => ?_) (fun h => ?_)
  · exact he2  _ (lv_sub hl [0] rfl) h
  · refine v_aload_n C hl dX3_indexIn_12 rfl 0 rfl ?_
    refine g_X3_1 C kdC_13 fl_X3_11 dX3_indexIn_13 ?_
    refine v_iload_n C hl dX3_indexIn_16 rfl 1 rfl ?_
    have hi3 := (chk_e h).1
    refine arC13 C kdC_14 h dX3_indexIn_17 (fun h => ?_)
    refine v_iload_n C hl dX3_indexIn_18 rfl 3 rfl ?_
    refine alC16 C (keC13 kdC_14 hi3) h dX3_indexIn_19 (fun h => ?_)
    refine v_iload_n C hl dX3_indexIn_20 rfl 2 rfl ?_
    have hz4 := (cr_e h).1
    have h := (cr_e h).2
    have hz5 := (cr_e h).1
    have h := (cr_e h).2
    refine v_icmp_ne C (tgt := 26) hz4 hz5 h dX3_indexIn_21 rfl (fun h => ?_) (fun h => ?_)
    · refine v_iinc C hl (fun x => [(3, .int (i32 x)), (0, .ref (q 13)), (1, .int (i32 v1)), (2, .int (i32 v2))]) dX3_indexIn_26 3 rfl (by decide) (fun _ => rfl) h (fun v3_6 ls hl h => ?_)
      refine v_goto C (tgt := 2) dX3_indexIn_29 rfl ?_
      exact hc2 _ _ (lv_sub hl [1, 2, 3, 0] rfl) h
    · refine v_iload_n C hl dX3_indexIn_24 rfl 3 rfl ?_
      exact v_iret C hr (so1 h) dX3_indexIn_25
theorem wlX3_indexIn_2 (C : CxC p rmX3_indexIn s m args meth c D ac q xa xv RX3 cX3_indexIn 4) (hr : meth.sig.returnType = (some .int)) {v1 : Int} {v2 : Int} {σ : Mm} {e2 : Option (Int)} {r : Int} (he2 : ∀ (ls : Array Slot), lv_has ls 4 [(0, .ref (q 13))] → e2 = some r → VC p l e rmX3_indexIn s m args below meth c D ac q (QIC D ac q xa xv below args s (r, σ)) σ (F0 m 32 ls [])) : ∀ (fu : Nat) (v3 : Int) (ls : Array Slot) (hl : lv_has ls 4 [(0, .ref (q 13)), (1, .int (i32 v1)), (2, .int (i32 v2)), (3, .int (i32 v3))]) (h : lX3_indexIn_2 v1 v2 σ e2 fu v3 = some r), VC p l e rmX3_indexIn s m args below meth c D ac q (QIC D ac q xa xv below args s (r, σ)) σ (F0 m 2 ls []) := by
  intro fu
  induction fu with
  | zero =>
    intro v3 ls hl h
    have h : none = some r := h
    cases h
  | succ fu ih =>
    intro v3 ls hl h
    exact wX3_indexIn_2 C hr he2 (fun v3 ls hl h => ih v3 ls hl h) hl h
theorem mX3_indexIn (hq : QI 175 q) {v1 : Int} {v2 : Int} {σ : Mm} {r : Int} (h : fX3_indexIn v1 v2 σ = some r) : MIC l D ac q xa xv yX3_indexIn cX3_indexIn 4 (some .int) rmX3_indexIn [.ref (q 13), .int (i32 v1), .int (i32 v2)] σ (r, σ) := by
  refine MI.of hq XC_M (by decide) (Nat.le_of_ble_eq_true rfl) (fun p e s m below meth c ls C hr hl => ?_)
  have hl : lv_has ls 4 [(0, .ref (q 13)), (1, .int (i32 v1)), (2, .int (i32 v2))] := hl
  have h : bindv 0 (fun v3_1 => lX3_indexIn_2 v1 v2 σ (fX3_indexIn_32 σ) 400 v3_1) = some r := h
  refine v_iconst C dX3_indexIn_0 ?_
  refine v_istore_n C hl (fun x => [(3, .int (i32 x)), (0, .ref (q 13)), (1, .int (i32 v1)), (2, .int (i32 v2))]) dX3_indexIn_1 rfl (by decide) (fun _ => rfl) h (fun v3_1 ls hl h => ?_)
  exact wlX3_indexIn_2 C hr (fun ls hl h => wX3_indexIn_32 C hr (lv_sub hl [0] rfl) h) _ _ _ (lv_sub hl [1, 2, 3, 0] rfl) h
end
section
variable {l : Launch} {D : va_G} {ac : Nat → ClassId} {q xa xv : Nat → Nat} {p : Program} {e : Env} {s : State} {m : MethodId} {args : Array Value} {below : List Frame} {meth : Method} {c : Code} {ls : Array Slot}
theorem dX3_ringWith_0 : decode cX3_ringWith 0 = .ok (.iconst 0, 1) := by decide +kernel
theorem dX3_ringWith_1 : decode cX3_ringWith 1 = .ok (.istore_n 2, 1) := by decide +kernel
theorem dX3_ringWith_2 : decode cX3_ringWith 2 = .ok (.iload_n 2, 1) := by decide +kernel
theorem dX3_ringWith_3 : decode cX3_ringWith 3 = .ok (.aload_n 0, 1) := by decide +kernel
theorem dX3_ringWith_4 : decode cX3_ringWith 4 = .ok (.getfield 27, 3) := by decide +kernel
theorem dX3_ringWith_7 : decode cX3_ringWith 7 = .ok (.getfield 31, 3) := by decide +kernel
theorem dX3_ringWith_10 : decode cX3_ringWith 10 = .ok (.if_icmp .ge 20, 3) := by decide +kernel
theorem dX3_ringWith_13 : decode cX3_ringWith 13 = .ok (.aload_n 0, 1) := by decide +kernel
theorem dX3_ringWith_14 : decode cX3_ringWith 14 = .ok (.iload_n 2, 1) := by decide +kernel
theorem dX3_ringWith_15 : decode cX3_ringWith 15 = .ok (.iload_n 1, 1) := by decide +kernel
theorem dX3_ringWith_16 : decode cX3_ringWith 16 = .ok (.invokevirtual 56, 3) := by decide +kernel
theorem dX3_ringWith_19 : decode cX3_ringWith 19 = .ok (.ifCond .lt 5, 3) := by decide +kernel
theorem dX3_ringWith_22 : decode cX3_ringWith 22 = .ok (.iload_n 2, 1) := by decide +kernel
theorem dX3_ringWith_23 : decode cX3_ringWith 23 = .ok (.ireturn, 1) := by decide +kernel
theorem dX3_ringWith_24 : decode cX3_ringWith 24 = .ok (.iinc 2 1, 3) := by decide +kernel
theorem dX3_ringWith_27 : decode cX3_ringWith 27 = .ok (.goto (-25), 3) := by decide +kernel
theorem dX3_ringWith_30 : decode cX3_ringWith 30 = .ok (.iconst (-1), 1) := by decide +kernel
theorem dX3_ringWith_31 : decode cX3_ringWith 31 = .ok (.ireturn, 1) := by decide +kernel
theorem wX3_ringWith_30 (C : CxC p rmX3_ringWith s m args meth c D ac q xa xv RX3 cX3_ringWith 3) (hr : meth.sig.returnType = (some .int)) {σ : Mm} {r : Int} (hl : lv_has ls 3 [(0, .ref (q 13))]) (h : fX3_ringWith_30 σ = some r) : VC p l e rmX3_ringWith s m args below meth c D ac q (QIC D ac q xa xv below args s (r, σ)) σ (F0 m 30 ls []) := by
  have h : some (-1) = some r := h
  refine v_iconst C dX3_ringWith_30 ?_
  exact v_iret C hr (so1 h) dX3_ringWith_31
theorem wX3_ringWith_2 (C : CxC p rmX3_ringWith s m args meth c D ac q xa xv RX3 cX3_ringWith 3) (hr : meth.sig.returnType = (some .int)) {v1 : Int} {σ : Mm} {v2 : Int} {e2 : Option (Int)} {c2 : Int → Option (Int)} {r : Int} (he2 : ∀ (ls : Array Slot), lv_has ls 3 [(0, .ref (q 13))] → e2 = some r → VC p l e rmX3_ringWith s m args below meth c D ac q (QIC D ac q xa xv below args s (r, σ)) σ (F0 m 30 ls [])) (hc2 : ∀ (v2x : Int) (ls : Array Slot), lv_has ls 3 [(0, .ref (q 13)), (1, .int (i32 v1)), (2, .int (i32 v2x))] → c2 v2x = some r → VC p l e rmX3_ringWith s m args below meth c D ac q (QIC D ac q xa xv below args s (r, σ)) σ (F0 m 2 ls [])) (hl : lv_has ls 3 [(0, .ref (q 13)), (1, .int (i32 v1)), (2, .int (i32 v2))]) (h : fX3_ringWith_2 v1 σ e2 c2 v2 = some r) : VC p l e rmX3_ringWith s m args below meth c D ac q (QIC D ac q xa xv below args s (r, σ)) σ (F0 m 2 ls []) := by
  have h : cr v2 (cr (σ 95 10) ((if v2 < σ 95 10 then bd (fX3_indexIn v2 v1 σ) (fun x_3 => cr x_3 ((if x_3 < 0 then bindv (v2 + 1) (fun v2_5 => c2 v2_5) else some v2))) else e2))) = some r := h
  refine v_iload_n C hl dX3_ringWith_2 rfl 2 rfl ?_
  refine v_aload_n C hl dX3_ringWith_3 rfl 0 rfl ?_
  refine g_X3_0 C kdC_13 fl_X3_27 dX3_ringWith_4 ?_
  refine g_X1_10 C kdC_95 fl_X3_31 dX3_ringWith_7 ?_
  have hz1 := (cr_e h).1
  have h := (cr_e h).2
  have hz2 := (cr_e h).1
  have h := (cr_e h).2
  refine v_icmp_ge C (tgt := 30) hz1 hz2 h dX3_ringWith_10 rfl (fun h => ?_) (fun h => ?_)
  · exact he2  _ (lv_sub hl [0] rfl) h
  · refine v_aload_n C hl dX3_ringWith_13 rfl 0 rfl ?_
    refine v_iload_n C hl dX3_ringWith_14 rfl 2 rfl ?_
    refine v_iload_n C hl dX3_ringWith_15 rfl 1 rfl ?_
    obtain ⟨x_3, hv3, h⟩ := bd_e h
    refine v_callVI C 13 (klC kdC_13) rfl (ckC12 kdC_13 _) rfl [.int (i32 v2), .int (i32 v1)] (mX3_indexIn C.2.2.2.2.1 hv3) cd_X3_indexIn ic_X3 im_X3_indexIn se_X3_indexIn ml_X3_56 yk_X3_indexIn ⟨rfl, rfl, by decide, by decide⟩ rfl hl.1 (rest := []) rfl (Nat.le_of_ble_eq_true rfl) dX3_ringWith_16 ?_
    have hz4 := (cr_e h).1
    have h := (cr_e h).2
    refine v_if_lt C (tgt := 24) hz4 h dX3_ringWith_19 rfl (fun h => ?_) (fun h => ?_)
    · refine v_iinc C hl (fun x => [(2, .int (i32 x)), (0, .ref (q 13)), (1, .int (i32 v1))]) dX3_ringWith_24 2 rfl (by decide) (fun _ => rfl) h (fun v2_5 ls hl h => ?_)
      refine v_goto C (tgt := 2) dX3_ringWith_27 rfl ?_
      exact hc2 _ _ (lv_sub hl [1, 2, 0] rfl) h
    · refine v_iload_n C hl dX3_ringWith_22 rfl 2 rfl ?_
      exact v_iret C hr (so1 h) dX3_ringWith_23
theorem wlX3_ringWith_2 (C : CxC p rmX3_ringWith s m args meth c D ac q xa xv RX3 cX3_ringWith 3) (hr : meth.sig.returnType = (some .int)) {v1 : Int} {σ : Mm} {e2 : Option (Int)} {r : Int} (he2 : ∀ (ls : Array Slot), lv_has ls 3 [(0, .ref (q 13))] → e2 = some r → VC p l e rmX3_ringWith s m args below meth c D ac q (QIC D ac q xa xv below args s (r, σ)) σ (F0 m 30 ls [])) : ∀ (fu : Nat) (v2 : Int) (ls : Array Slot) (hl : lv_has ls 3 [(0, .ref (q 13)), (1, .int (i32 v1)), (2, .int (i32 v2))]) (h : lX3_ringWith_2 v1 σ e2 fu v2 = some r), VC p l e rmX3_ringWith s m args below meth c D ac q (QIC D ac q xa xv below args s (r, σ)) σ (F0 m 2 ls []) := by
  intro fu
  induction fu with
  | zero =>
    intro v2 ls hl h
    have h : none = some r := h
    cases h
  | succ fu ih =>
    intro v2 ls hl h
    exact wX3_ringWith_2 C hr he2 (fun v2 ls hl h => ih v2 ls hl h) hl h
theorem mX3_ringWith (hq : QI 175 q) {v1 : Int} {σ : Mm} {r : Int} (h : fX3_ringWith v1 σ = some r) : MIC l D ac q xa xv yX3_ringWith cX3_ringWith 3 (some .int) rmX3_ringWith [.ref (q 13), .int (i32 v1)] σ (r, σ) := by
  refine MI.of hq XC_M (by decide) (Nat.le_of_ble_eq_true rfl) (fun p e s m below meth c ls C hr hl => ?_)
  have hl : lv_has ls 3 [(0, .ref (q 13)), (1, .int (i32 v1))] := hl
  have h : bindv 0 (fun v2_1 => lX3_ringWith_2 v1 σ (fX3_ringWith_30 σ) 400 v2_1) = some r := h
  refine v_iconst C dX3_ringWith_0 ?_
  refine v_istore_n C hl (fun x => [(2, .int (i32 x)), (0, .ref (q 13)), (1, .int (i32 v1))]) dX3_ringWith_1 rfl (by decide) (fun _ => rfl) h (fun v2_1 ls hl h => ?_)
  exact wlX3_ringWith_2 C hr (fun ls hl h => wX3_ringWith_30 C hr (lv_sub hl [0] rfl) h) _ _ _ (lv_sub hl [1, 2, 0] rfl) h
end
section
variable {l : Launch} {D : va_G} {ac : Nat → ClassId} {q xa xv : Nat → Nat} {p : Program} {e : Env} {s : State} {m : MethodId} {args : Array Value} {below : List Frame} {meth : Method} {c : Code} {ls : Array Slot}
theorem dX3_ahead_0 : decode cX3_ahead 0 = .ok (.aload_n 0, 1) := by decide +kernel
theorem dX3_ahead_1 : decode cX3_ahead 1 = .ok (.iload_n 1, 1) := by decide +kernel
theorem dX3_ahead_2 : decode cX3_ahead 2 = .ok (.invokevirtual 75, 3) := by decide +kernel
theorem dX3_ahead_5 : decode cX3_ahead 5 = .ok (.istore_n 2, 1) := by decide +kernel
theorem dX3_ahead_6 : decode cX3_ahead 6 = .ok (.iload_n 2, 1) := by decide +kernel
theorem dX3_ahead_7 : decode cX3_ahead 7 = .ok (.ifCond .ge 7, 3) := by decide +kernel
theorem dX3_ahead_10 : decode cX3_ahead 10 = .ok (.iconst (-1), 1) := by decide +kernel
theorem dX3_ahead_11 : decode cX3_ahead 11 = .ok (.goto 25, 3) := by decide +kernel
theorem dX3_ahead_14 : decode cX3_ahead 14 = .ok (.aload_n 0, 1) := by decide +kernel
theorem dX3_ahead_15 : decode cX3_ahead 15 = .ok (.getfield 11, 3) := by decide +kernel
theorem dX3_ahead_18 : decode cX3_ahead 18 = .ok (.iload_n 2, 1) := by decide +kernel
theorem dX3_ahead_19 : decode cX3_ahead 19 = .ok (.aaload, 1) := by decide +kernel
theorem dX3_ahead_20 : decode cX3_ahead 20 = .ok (.aload_n 0, 1) := by decide +kernel
theorem dX3_ahead_21 : decode cX3_ahead 21 = .ok (.iload_n 2, 1) := by decide +kernel
theorem dX3_ahead_22 : decode cX3_ahead 22 = .ok (.iload_n 1, 1) := by decide +kernel
theorem dX3_ahead_23 : decode cX3_ahead 23 = .ok (.invokevirtual 56, 3) := by decide +kernel
theorem dX3_ahead_26 : decode cX3_ahead 26 = .ok (.aload_n 0, 1) := by decide +kernel
theorem dX3_ahead_27 : decode cX3_ahead 27 = .ok (.getfield 16, 3) := by decide +kernel
theorem dX3_ahead_30 : decode cX3_ahead 30 = .ok (.iload_n 2, 1) := by decide +kernel
theorem dX3_ahead_31 : decode cX3_ahead 31 = .ok (.iaload, 1) := by decide +kernel
theorem dX3_ahead_32 : decode cX3_ahead 32 = .ok (.invokestatic 79, 3) := by decide +kernel
theorem dX3_ahead_35 : decode cX3_ahead 35 = .ok (.iaload, 1) := by decide +kernel
theorem dX3_ahead_36 : decode cX3_ahead 36 = .ok (.ireturn, 1) := by decide +kernel
theorem wX3_ahead_36 (C : CxC p rmX3_ahead s m args meth c D ac q xa xv RX3 cX3_ahead 3) (hr : meth.sig.returnType = (some .int)) {t0 : Int} {σ : Mm} {r : Int} (hl : lv_has ls 3 [(0, .ref (q 13))]) (h : fX3_ahead_36 t0 σ = some r) : VC p l e rmX3_ahead s m args below meth c D ac q (QIC D ac q xa xv below args s (r, σ)) σ (F0 m 36 ls [.int (i32 t0)]) := by
  have h : some t0 = some r := h
  exact v_iret C hr (so1 h) dX3_ahead_36
theorem mX3_ahead (hq : QI 175 q) {v1 : Int} {σ : Mm} {r : Int} (h : fX3_ahead v1 σ = some r) : MIC l D ac q xa xv yX3_ahead cX3_ahead 3 (some .int) rmX3_ahead [.ref (q 13), .int (i32 v1)] σ (r, σ) := by
  refine MI.of hq XC_M (by decide) (Nat.le_of_ble_eq_true rfl) (fun p e s m below meth c ls C hr hl => ?_)
  have hl : lv_has ls 3 [(0, .ref (q 13)), (1, .int (i32 v1))] := hl
  have h : bd (fX3_ringWith v1 σ) (fun x_1 => bindv x_1 (fun v2_2 => cr v2_2 ((if v2_2 < 0 then fX3_ahead_36 (-1) σ else chk v2_2 6 (bd (fX3_indexIn v2_2 v1 σ) (fun x_5 => chk v2_2 6 (bd (fX7_preceding x_5 (σ 15 (v2_2).toNat) σ) (fun x_6 => chk x_6 10 (fX3_ahead_36 (σ (29 + (v2_2).toNat) (x_6).toNat) σ))))))))) = some r := h
  refine v_aload_n C hl dX3_ahead_0 rfl 0 rfl ?_
  refine v_iload_n C hl dX3_ahead_1 rfl 1 rfl ?_
  obtain ⟨x_1, hv1, h⟩ := bd_e h
  refine v_callVI C 13 (klC kdC_13) rfl (ckC12 kdC_13 _) rfl [.int (i32 v1)] (mX3_ringWith C.2.2.2.2.1 hv1) cd_X3_ringWith ic_X3 im_X3_ringWith se_X3_ringWith ml_X3_75 yk_X3_ringWith ⟨rfl, rfl, by decide, by decide⟩ rfl hl.1 (rest := []) rfl (Nat.le_of_ble_eq_true rfl) dX3_ahead_2 ?_
  refine v_istore_n C hl (fun x => [(2, .int (i32 x)), (0, .ref (q 13)), (1, .int (i32 v1))]) dX3_ahead_5 rfl (by decide) (fun _ => rfl) h (fun v2_2 ls hl h => ?_)
  refine v_iload_n C hl dX3_ahead_6 rfl 0 rfl ?_
  have hz3 := (cr_e h).1
  have h := (cr_e h).2
  refine v_if_ge C (tgt := 14) hz3 h dX3_ahead_7 rfl (fun h => ?_) (fun h => ?_)
  · refine v_aload_n C hl dX3_ahead_14 rfl 1 rfl ?_
    refine g_X3_1 C kdC_13 fl_X3_11 dX3_ahead_15 ?_
    refine v_iload_n C hl dX3_ahead_18 rfl 0 rfl ?_
    have hi4 := (chk_e h).1
    refine arC13 C kdC_14 h dX3_ahead_19 (fun h => ?_)
    refine v_aload_n C hl dX3_ahead_20 rfl 1 rfl ?_
    refine v_iload_n C hl dX3_ahead_21 rfl 0 rfl ?_
    refine v_iload_n C hl dX3_ahead_22 rfl 2 rfl ?_
    obtain ⟨x_5, hv5, h⟩ := bd_e h
    refine v_callVI C 13 (klC kdC_13) rfl (ckC12 kdC_13 _) rfl [.int (i32 v2_2), .int (i32 v1)] (mX3_indexIn C.2.2.2.2.1 hv5) cd_X3_indexIn ic_X3 im_X3_indexIn se_X3_indexIn ml_X3_56 yk_X3_indexIn ⟨rfl, rfl, by decide, by decide⟩ rfl hl.1 (rest := [.ref (q (29 + (v2_2).toNat))]) rfl (Nat.le_of_ble_eq_true rfl) dX3_ahead_23 ?_
    refine v_aload_n C hl dX3_ahead_26 rfl 1 rfl ?_
    refine g_X3_2 C kdC_13 fl_X3_16 dX3_ahead_27 ?_
    refine v_iload_n C hl dX3_ahead_30 rfl 0 rfl ?_
    refine alC14 C kdC_15 h dX3_ahead_31 (fun h => ?_)
    obtain ⟨x_6, hv6, h⟩ := bd_e h
    refine v_callSN C [.int (i32 x_5), .int (i32 (σ 15 (v2_2).toNat))] (mX7_preceding C.2.2.2.2.1 hv6) cd_X7_preceding ic_X7 sm_X7_preceding (nw_X3_79 C) yk_X7_preceding ⟨rfl, rfl, by decide, by decide⟩ rfl hl.1 (rest := [.ref (q (29 + (v2_2).toNat))]) rfl (Nat.le_of_ble_eq_true rfl) dX3_ahead_32 ?_
    refine alC16 C (keC13 kdC_14 hi4) h dX3_ahead_35 (fun h => ?_)
    exact wX3_ahead_36 C hr (lv_sub hl [1] rfl) h
  · refine v_iconst C dX3_ahead_10 ?_
    refine v_goto C (tgt := 36) dX3_ahead_11 rfl ?_
    exact wX3_ahead_36 C hr (lv_sub hl [1] rfl) h
end
section
variable {l : Launch} {D : va_G} {ac : Nat → ClassId} {q xa xv : Nat → Nat} {p : Program} {e : Env} {s : State} {m : MethodId} {args : Array Value} {below : List Frame} {meth : Method} {c : Code} {ls : Array Slot}
theorem dX3_areaOf_0 : decode cX3_areaOf 0 = .ok (.aload_n 0, 1) := by decide +kernel
theorem dX3_areaOf_1 : decode cX3_areaOf 1 = .ok (.getfield 27, 3) := by decide +kernel
theorem dX3_areaOf_4 : decode cX3_areaOf 4 = .ok (.aload_n 0, 1) := by decide +kernel
theorem dX3_areaOf_5 : decode cX3_areaOf 5 = .ok (.getfield 11, 3) := by decide +kernel
theorem dX3_areaOf_8 : decode cX3_areaOf 8 = .ok (.iload_n 1, 1) := by decide +kernel
theorem dX3_areaOf_9 : decode cX3_areaOf 9 = .ok (.aaload, 1) := by decide +kernel
theorem dX3_areaOf_10 : decode cX3_areaOf 10 = .ok (.aload_n 0, 1) := by decide +kernel
theorem dX3_areaOf_11 : decode cX3_areaOf 11 = .ok (.getfield 16, 3) := by decide +kernel
theorem dX3_areaOf_14 : decode cX3_areaOf 14 = .ok (.iload_n 1, 1) := by decide +kernel
theorem dX3_areaOf_15 : decode cX3_areaOf 15 = .ok (.iaload, 1) := by decide +kernel
theorem dX3_areaOf_16 : decode cX3_areaOf 16 = .ok (.invokevirtual 60, 3) := by decide +kernel
theorem dX3_areaOf_19 : decode cX3_areaOf 19 = .ok (.ireturn, 1) := by decide +kernel
theorem mX3_areaOf (hq : QI 175 q) {v1 : Int} {σ : Mm} {r : Int} (h : fX3_areaOf v1 σ = some r) : MIC l D ac q xa xv yX3_areaOf cX3_areaOf 2 (some .int) rmX3_areaOf [.ref (q 13), .int (i32 v1)] σ (r, σ) := by
  refine MI.of hq XC_M (by decide) (Nat.le_of_ble_eq_true rfl) (fun p e s m below meth c ls C hr hl => ?_)
  have hl : lv_has ls 2 [(0, .ref (q 13)), (1, .int (i32 v1))] := hl
  have h : chk v1 6 (chk v1 6 (bd (fX1_areaOf 95 (29 + (v1).toNat) (σ 15 (v1).toNat) σ) (fun x_2 => some x_2))) = some r := h
  refine v_aload_n C hl dX3_areaOf_0 rfl 0 rfl ?_
  refine g_X3_0 C kdC_13 fl_X3_27 dX3_areaOf_1 ?_
  refine v_aload_n C hl dX3_areaOf_4 rfl 0 rfl ?_
  refine g_X3_1 C kdC_13 fl_X3_11 dX3_areaOf_5 ?_
  refine v_iload_n C hl dX3_areaOf_8 rfl 1 rfl ?_
  have hi1 := (chk_e h).1
  refine arC13 C kdC_14 h dX3_areaOf_9 (fun h => ?_)
  refine v_aload_n C hl dX3_areaOf_10 rfl 0 rfl ?_
  refine g_X3_2 C kdC_13 fl_X3_16 dX3_areaOf_11 ?_
  refine v_iload_n C hl dX3_areaOf_14 rfl 1 rfl ?_
  refine alC14 C kdC_15 h dX3_areaOf_15 (fun h => ?_)
  obtain ⟨x_2, hv2, h⟩ := bd_e h
  refine v_callVI C 95 (klC kdC_95) rfl (ckC23 kdC_95 _) rfl [.ref (q (29 + (v1).toNat)), .int (i32 (σ 15 (v1).toNat))] (mX1_areaOf C.2.2.2.2.1 kdC_95 (keC13 kdC_14 hi1) hv2) cd_X1_areaOf ic_X1 im_X1_areaOf se_X1_areaOf ml_X3_60 yk_X1_areaOf ⟨rfl, rfl, by decide, by decide⟩ rfl hl.1 (rest := []) rfl (Nat.le_of_ble_eq_true rfl) dX3_areaOf_16 ?_
  exact v_iret C hr (so1 h) dX3_areaOf_19
end
section
variable {l : Launch} {D : va_G} {ac : Nat → ClassId} {q xa xv : Nat → Nat} {p : Program} {e : Env} {s : State} {m : MethodId} {args : Array Value} {below : List Frame} {meth : Method} {c : Code} {ls : Array Slot}
theorem dX3_behind_0 : decode cX3_behind 0 = .ok (.aload_n 0, 1) := by decide +kernel
theorem dX3_behind_1 : decode cX3_behind 1 = .ok (.iload_n 1, 1) := by decide +kernel
theorem dX3_behind_2 : decode cX3_behind 2 = .ok (.invokevirtual 75, 3) := by decide +kernel
theorem dX3_behind_5 : decode cX3_behind 5 = .ok (.istore_n 2, 1) := by decide +kernel
theorem dX3_behind_6 : decode cX3_behind 6 = .ok (.iload_n 2, 1) := by decide +kernel
theorem dX3_behind_7 : decode cX3_behind 7 = .ok (.ifCond .ge 7, 3) := by decide +kernel
theorem dX3_behind_10 : decode cX3_behind 10 = .ok (.iconst (-1), 1) := by decide +kernel
theorem dX3_behind_11 : decode cX3_behind 11 = .ok (.goto 25, 3) := by decide +kernel
theorem dX3_behind_14 : decode cX3_behind 14 = .ok (.aload_n 0, 1) := by decide +kernel
theorem dX3_behind_15 : decode cX3_behind 15 = .ok (.getfield 11, 3) := by decide +kernel
theorem dX3_behind_18 : decode cX3_behind 18 = .ok (.iload_n 2, 1) := by decide +kernel
theorem dX3_behind_19 : decode cX3_behind 19 = .ok (.aaload, 1) := by decide +kernel
theorem dX3_behind_20 : decode cX3_behind 20 = .ok (.aload_n 0, 1) := by decide +kernel
theorem dX3_behind_21 : decode cX3_behind 21 = .ok (.iload_n 2, 1) := by decide +kernel
theorem dX3_behind_22 : decode cX3_behind 22 = .ok (.iload_n 1, 1) := by decide +kernel
theorem dX3_behind_23 : decode cX3_behind 23 = .ok (.invokevirtual 56, 3) := by decide +kernel
theorem dX3_behind_26 : decode cX3_behind 26 = .ok (.aload_n 0, 1) := by decide +kernel
theorem dX3_behind_27 : decode cX3_behind 27 = .ok (.getfield 16, 3) := by decide +kernel
theorem dX3_behind_30 : decode cX3_behind 30 = .ok (.iload_n 2, 1) := by decide +kernel
theorem dX3_behind_31 : decode cX3_behind 31 = .ok (.iaload, 1) := by decide +kernel
theorem dX3_behind_32 : decode cX3_behind 32 = .ok (.invokestatic 72, 3) := by decide +kernel
theorem dX3_behind_35 : decode cX3_behind 35 = .ok (.iaload, 1) := by decide +kernel
theorem dX3_behind_36 : decode cX3_behind 36 = .ok (.ireturn, 1) := by decide +kernel
theorem wX3_behind_36 (C : CxC p rmX3_behind s m args meth c D ac q xa xv RX3 cX3_behind 3) (hr : meth.sig.returnType = (some .int)) {t0 : Int} {σ : Mm} {r : Int} (hl : lv_has ls 3 [(0, .ref (q 13))]) (h : fX3_behind_36 t0 σ = some r) : VC p l e rmX3_behind s m args below meth c D ac q (QIC D ac q xa xv below args s (r, σ)) σ (F0 m 36 ls [.int (i32 t0)]) := by
  have h : some t0 = some r := h
  exact v_iret C hr (so1 h) dX3_behind_36
theorem mX3_behind (hq : QI 175 q) {v1 : Int} {σ : Mm} {r : Int} (h : fX3_behind v1 σ = some r) : MIC l D ac q xa xv yX3_behind cX3_behind 3 (some .int) rmX3_behind [.ref (q 13), .int (i32 v1)] σ (r, σ) := by
  refine MI.of hq XC_M (by decide) (Nat.le_of_ble_eq_true rfl) (fun p e s m below meth c ls C hr hl => ?_)
  have hl : lv_has ls 3 [(0, .ref (q 13)), (1, .int (i32 v1))] := hl
  have h : bd (fX3_ringWith v1 σ) (fun x_1 => bindv x_1 (fun v2_2 => cr v2_2 ((if v2_2 < 0 then fX3_behind_36 (-1) σ else chk v2_2 6 (bd (fX3_indexIn v2_2 v1 σ) (fun x_5 => chk v2_2 6 (bd (fX7_following x_5 (σ 15 (v2_2).toNat) σ) (fun x_6 => chk x_6 10 (fX3_behind_36 (σ (29 + (v2_2).toNat) (x_6).toNat) σ))))))))) = some r := h
  refine v_aload_n C hl dX3_behind_0 rfl 0 rfl ?_
  refine v_iload_n C hl dX3_behind_1 rfl 1 rfl ?_
  obtain ⟨x_1, hv1, h⟩ := bd_e h
  refine v_callVI C 13 (klC kdC_13) rfl (ckC12 kdC_13 _) rfl [.int (i32 v1)] (mX3_ringWith C.2.2.2.2.1 hv1) cd_X3_ringWith ic_X3 im_X3_ringWith se_X3_ringWith ml_X3_75 yk_X3_ringWith ⟨rfl, rfl, by decide, by decide⟩ rfl hl.1 (rest := []) rfl (Nat.le_of_ble_eq_true rfl) dX3_behind_2 ?_
  refine v_istore_n C hl (fun x => [(2, .int (i32 x)), (0, .ref (q 13)), (1, .int (i32 v1))]) dX3_behind_5 rfl (by decide) (fun _ => rfl) h (fun v2_2 ls hl h => ?_)
  refine v_iload_n C hl dX3_behind_6 rfl 0 rfl ?_
  have hz3 := (cr_e h).1
  have h := (cr_e h).2
  refine v_if_ge C (tgt := 14) hz3 h dX3_behind_7 rfl (fun h => ?_) (fun h => ?_)
  · refine v_aload_n C hl dX3_behind_14 rfl 1 rfl ?_
    refine g_X3_1 C kdC_13 fl_X3_11 dX3_behind_15 ?_
    refine v_iload_n C hl dX3_behind_18 rfl 0 rfl ?_
    have hi4 := (chk_e h).1
    refine arC13 C kdC_14 h dX3_behind_19 (fun h => ?_)
    refine v_aload_n C hl dX3_behind_20 rfl 1 rfl ?_
    refine v_iload_n C hl dX3_behind_21 rfl 0 rfl ?_
    refine v_iload_n C hl dX3_behind_22 rfl 2 rfl ?_
    obtain ⟨x_5, hv5, h⟩ := bd_e h
    refine v_callVI C 13 (klC kdC_13) rfl (ckC12 kdC_13 _) rfl [.int (i32 v2_2), .int (i32 v1)] (mX3_indexIn C.2.2.2.2.1 hv5) cd_X3_indexIn ic_X3 im_X3_indexIn se_X3_indexIn ml_X3_56 yk_X3_indexIn ⟨rfl, rfl, by decide, by decide⟩ rfl hl.1 (rest := [.ref (q (29 + (v2_2).toNat))]) rfl (Nat.le_of_ble_eq_true rfl) dX3_behind_23 ?_
    refine v_aload_n C hl dX3_behind_26 rfl 1 rfl ?_
    refine g_X3_2 C kdC_13 fl_X3_16 dX3_behind_27 ?_
    refine v_iload_n C hl dX3_behind_30 rfl 0 rfl ?_
    refine alC14 C kdC_15 h dX3_behind_31 (fun h => ?_)
    obtain ⟨x_6, hv6, h⟩ := bd_e h
    refine v_callSN C [.int (i32 x_5), .int (i32 (σ 15 (v2_2).toNat))] (mX7_following C.2.2.2.2.1 hv6) cd_X7_following ic_X7 sm_X7_following (nw_X3_72 C) yk_X7_following ⟨rfl, rfl, by decide, by decide⟩ rfl hl.1 (rest := [.ref (q (29 + (v2_2).toNat))]) rfl (Nat.le_of_ble_eq_true rfl) dX3_behind_32 ?_
    refine alC16 C (keC13 kdC_14 hi4) h dX3_behind_35 (fun h => ?_)
    exact wX3_behind_36 C hr (lv_sub hl [1] rfl) h
  · refine v_iconst C dX3_behind_10 ?_
    refine v_goto C (tgt := 36) dX3_behind_11 rfl ?_
    exact wX3_behind_36 C hr (lv_sub hl [1] rfl) h
end
section
variable {l : Launch} {D : va_G} {ac : Nat → ClassId} {q xa xv : Nat → Nat} {p : Program} {e : Env} {s : State} {m : MethodId} {args : Array Value} {below : List Frame} {meth : Method} {c : Code} {ls : Array Slot}
theorem dX3_copyWithout_0 : decode cX3_copyWithout 0 = .ok (.iconst 0, 1) := by decide +kernel
theorem dX3_copyWithout_1 : decode cX3_copyWithout 1 = .ok (.istore 4, 2) := by decide +kernel
theorem dX3_copyWithout_3 : decode cX3_copyWithout 3 = .ok (.iconst 0, 1) := by decide +kernel
theorem dX3_copyWithout_4 : decode cX3_copyWithout 4 = .ok (.istore 5, 2) := by decide +kernel
theorem dX3_copyWithout_6 : decode cX3_copyWithout 6 = .ok (.iload 5, 2) := by decide +kernel
theorem dX3_copyWithout_8 : decode cX3_copyWithout 8 = .ok (.aload_n 0, 1) := by decide +kernel
theorem dX3_copyWithout_9 : decode cX3_copyWithout 9 = .ok (.getfield 16, 3) := by decide +kernel
theorem dX3_copyWithout_12 : decode cX3_copyWithout 12 = .ok (.iload_n 1, 1) := by decide +kernel
theorem dX3_copyWithout_13 : decode cX3_copyWithout 13 = .ok (.iaload, 1) := by decide +kernel
theorem dX3_copyWithout_14 : decode cX3_copyWithout 14 = .ok (.if_icmp .ge 38, 3) := by decide +kernel
theorem dX3_copyWithout_17 : decode cX3_copyWithout 17 = .ok (.aload_n 0, 1) := by decide +kernel
theorem dX3_copyWithout_18 : decode cX3_copyWithout 18 = .ok (.getfield 11, 3) := by decide +kernel
theorem dX3_copyWithout_21 : decode cX3_copyWithout 21 = .ok (.iload_n 1, 1) := by decide +kernel
theorem dX3_copyWithout_22 : decode cX3_copyWithout 22 = .ok (.aaload, 1) := by decide +kernel
theorem dX3_copyWithout_23 : decode cX3_copyWithout 23 = .ok (.iload 5, 2) := by decide +kernel
theorem dX3_copyWithout_25 : decode cX3_copyWithout 25 = .ok (.iaload, 1) := by decide +kernel
theorem dX3_copyWithout_26 : decode cX3_copyWithout 26 = .ok (.iload_n 2, 1) := by decide +kernel
theorem dX3_copyWithout_27 : decode cX3_copyWithout 27 = .ok (.if_icmp .eq 19, 3) := by decide +kernel
theorem dX3_copyWithout_30 : decode cX3_copyWithout 30 = .ok (.aload_n 3, 1) := by decide +kernel
theorem dX3_copyWithout_31 : decode cX3_copyWithout 31 = .ok (.iload 4, 2) := by decide +kernel
theorem dX3_copyWithout_33 : decode cX3_copyWithout 33 = .ok (.aload_n 0, 1) := by decide +kernel
theorem dX3_copyWithout_34 : decode cX3_copyWithout 34 = .ok (.getfield 11, 3) := by decide +kernel
theorem dX3_copyWithout_37 : decode cX3_copyWithout 37 = .ok (.iload_n 1, 1) := by decide +kernel
theorem dX3_copyWithout_38 : decode cX3_copyWithout 38 = .ok (.aaload, 1) := by decide +kernel
theorem dX3_copyWithout_39 : decode cX3_copyWithout 39 = .ok (.iload 5, 2) := by decide +kernel
theorem dX3_copyWithout_41 : decode cX3_copyWithout 41 = .ok (.iaload, 1) := by decide +kernel
theorem dX3_copyWithout_42 : decode cX3_copyWithout 42 = .ok (.iastore, 1) := by decide +kernel
theorem dX3_copyWithout_43 : decode cX3_copyWithout 43 = .ok (.iinc 4 1, 3) := by decide +kernel
theorem dX3_copyWithout_46 : decode cX3_copyWithout 46 = .ok (.iinc 5 1, 3) := by decide +kernel
theorem dX3_copyWithout_49 : decode cX3_copyWithout 49 = .ok (.goto (-43), 3) := by decide +kernel
theorem dX3_copyWithout_52 : decode cX3_copyWithout 52 = .ok (.iload 4, 2) := by decide +kernel
theorem dX3_copyWithout_54 : decode cX3_copyWithout 54 = .ok (.ireturn, 1) := by decide +kernel
theorem wX3_copyWithout_52 (C : CxC p rmX3_copyWithout s m args meth c D ac q xa xv RX3 cX3_copyWithout 6) (hr : meth.sig.returnType = (some .int)){w3 : Nat} (hw3 : kdC w3 = 16) {v4 : Int} {σ : Mm} {r : Int × Mm} (hl : lv_has ls 6 [(0, .ref (q 13)), (4, .int (i32 v4))]) (h : fX3_copyWithout_52 w3 v4 σ = some r) : VC p l e rmX3_copyWithout s m args below meth c D ac q (QIC D ac q xa xv below args s r) σ (F0 m 52 ls []) := by
  have h : some (v4, σ) = some r := h
  refine v_iload C hl dX3_copyWithout_52 1 rfl ?_
  exact v_iret C hr h dX3_copyWithout_54
theorem wX3_copyWithout_46 (C : CxC p rmX3_copyWithout s m args meth c D ac q xa xv RX3 cX3_copyWithout 6) (hr : meth.sig.returnType = (some .int)){w3 : Nat} (hw3 : kdC w3 = 16) {v1 : Int} {v2 : Int} {v4 : Int} {v5 : Int} {c6 : Int → Int → Mm → Option (Int × Mm)} {σ : Mm} {r : Int × Mm} (hc6 : ∀ (v4x : Int) (v5x : Int) (σ : Mm) (ls : Array Slot), lv_has ls 6 [(0, .ref (q 13)), (1, .int (i32 v1)), (2, .int (i32 v2)), (3, .ref (q w3)), (4, .int (i32 v4x)), (5, .int (i32 v5x))] → c6 v4x v5x σ = some r → VC p l e rmX3_copyWithout s m args below meth c D ac q (QIC D ac q xa xv below args s r) σ (F0 m 6 ls [])) (hl : lv_has ls 6 [(0, .ref (q 13)), (1, .int (i32 v1)), (2, .int (i32 v2)), (3, .ref (q w3)), (4, .int (i32 v4)), (5, .int (i32 v5))]) (h : fX3_copyWithout_46 w3 c6 v1 v2 v4 v5 σ = some r) : VC p l e rmX3_copyWithout s m args below meth c D ac q (QIC D ac q xa xv below args s r) σ (F0 m 46 ls []) := by
  have h : bindv (v5 + 1) (fun v5_1 => c6 v4 v5_1 σ) = some r := h
  refine v_iinc C hl (fun x => [(5, .int (i32 x)), (0, .ref (q 13)), (1, .int (i32 v1)), (2, .int (i32 v2)), (3, .ref (q w3)), (4, .int (i32 v4))]) dX3_copyWithout_46 5 rfl (by decide) (fun _ => rfl) h (fun v5_1 ls hl h => ?_)
  refine v_goto C (tgt := 6) dX3_copyWithout_49 rfl ?_
  exact hc6 _ _ _ _ (lv_sub hl [1, 2, 3, 4, 5, 0] rfl) h
theorem wX3_copyWithout_6 (C : CxC p rmX3_copyWithout s m args meth c D ac q xa xv RX3 cX3_copyWithout 6) (hr : meth.sig.returnType = (some .int)){w3 : Nat} (hw3 : kdC w3 = 16) {v1 : Int} {v2 : Int} {v4 : Int} {v5 : Int} {σ : Mm} {e6 : Int → Mm → Option (Int × Mm)} {c6 : Int → Int → Mm → Option (Int × Mm)} {r : Int × Mm} (he6 : ∀ (v4x : Int) (σ : Mm) (ls : Array Slot), lv_has ls 6 [(0, .ref (q 13)), (4, .int (i32 v4x))] → e6 v4x σ = some r → VC p l e rmX3_copyWithout s m args below meth c D ac q (QIC D ac q xa xv below args s r) σ (F0 m 52 ls [])) (hc6 : ∀ (v4x : Int) (v5x : Int) (σ : Mm) (ls : Array Slot), lv_has ls 6 [(0, .ref (q 13)), (1, .int (i32 v1)), (2, .int (i32 v2)), (3, .ref (q w3)), (4, .int (i32 v4x)), (5, .int (i32 v5x))] → c6 v4x v5x σ = some r → VC p l e rmX3_copyWithout s m args below meth c D ac q (QIC D ac q xa xv below args s r) σ (F0 m 6 ls [])) (hl : lv_has ls 6 [(0, .ref (q 13)), (1, .int (i32 v1)), (2, .int (i32 v2)), (3, .ref (q w3)), (4, .int (i32 v4)), (5, .int (i32 v5))]) (h : fX3_copyWithout_6 w3 v1 v2 e6 c6 v4 v5 σ = some r) : VC p l e rmX3_copyWithout s m args below meth c D ac q (QIC D ac q xa xv below args s r) σ (F0 m 6 ls []) := by
  have h : chk v1 6 (cr v5 (cr (σ 15 (v1).toNat) ((if v5 < σ 15 (v1).toNat then chk v1 6 (chk v5 10 (cr (σ (29 + (v1).toNat) (v5).toNat) (cr v2 ((if σ (29 + (v1).toNat) (v5).toNat = v2 then fX3_copyWithout_46 w3 c6 v1 v2 v4 v5 σ else chk v1 6 (chk v5 10 (chk v4 10 (bindv (sto σ w3 (v4).toNat (σ (29 + (v1).toNat) (v5).toNat)) (fun σ_7 => bindv (v4 + 1) (fun v4_8 => fX3_copyWithout_46 w3 c6 v1 v2 v4_8 v5 σ_7)))))))))) else e6 v4 σ)))) = some r := h
  refine v_iload C hl dX3_copyWithout_6 5 rfl ?_
  refine v_aload_n C hl dX3_copyWithout_8 rfl 0 rfl ?_
  refine g_X3_2 C kdC_13 fl_X3_16 dX3_copyWithout_9 ?_
  refine v_iload_n C hl dX3_copyWithout_12 rfl 1 rfl ?_
  refine alC14 C kdC_15 h dX3_copyWithout_13 (fun h => ?_)
  have hz1 := (cr_e h).1
  have h := (cr_e h).2
  have hz2 := (cr_e h).1
  have h := (cr_e h).2
  refine v_icmp_ge C (tgt := 52) hz1 hz2 h dX3_copyWithout_14 rfl (fun h => ?_) (fun h => ?_)
  · exact he6 _ _ _ (lv_sub hl [0, 4] rfl) h
  · refine v_aload_n C hl dX3_copyWithout_17 rfl 0 rfl ?_
    refine g_X3_1 C kdC_13 fl_X3_11 dX3_copyWithout_18 ?_
    refine v_iload_n C hl dX3_copyWithout_21 rfl 1 rfl ?_
    have hi3 := (chk_e h).1
    refine arC13 C kdC_14 h dX3_copyWithout_22 (fun h => ?_)
    refine v_iload C hl dX3_copyWithout_23 5 rfl ?_
    refine alC16 C (keC13 kdC_14 hi3) h dX3_copyWithout_25 (fun h => ?_)
    refine v_iload_n C hl dX3_copyWithout_26 rfl 2 rfl ?_
    have hz4 := (cr_e h).1
    have h := (cr_e h).2
    have hz5 := (cr_e h).1
    have h := (cr_e h).2
    refine v_icmp_eq C (tgt := 46) hz4 hz5 h dX3_copyWithout_27 rfl (fun h => ?_) (fun h => ?_)
    · exact wX3_copyWithout_46 C hr hw3 hc6 (lv_sub hl [0, 1, 2, 3, 4, 5] rfl) h
    · refine v_aload_n C hl dX3_copyWithout_30 rfl 3 rfl ?_
      refine v_iload C hl dX3_copyWithout_31 4 rfl ?_
      refine v_aload_n C hl dX3_copyWithout_33 rfl 0 rfl ?_
      refine g_X3_1 C kdC_13 fl_X3_11 dX3_copyWithout_34 ?_
      refine v_iload_n C hl dX3_copyWithout_37 rfl 1 rfl ?_
      have hi6 := (chk_e h).1
      refine arC13 C kdC_14 h dX3_copyWithout_38 (fun h => ?_)
      refine v_iload C hl dX3_copyWithout_39 5 rfl ?_
      refine alC16 C (keC13 kdC_14 hi6) h dX3_copyWithout_41 (fun h => ?_)
      refine asC16 C hw3 h dX3_copyWithout_42 (fun σ_7 h => ?_)
      refine v_iinc C hl (fun x => [(4, .int (i32 x)), (0, .ref (q 13)), (1, .int (i32 v1)), (2, .int (i32 v2)), (3, .ref (q w3)), (5, .int (i32 v5))]) dX3_copyWithout_43 4 rfl (by decide) (fun _ => rfl) h (fun v4_8 ls hl h => ?_)
      exact wX3_copyWithout_46 C hr hw3 hc6 (lv_sub hl [1, 2, 3, 4, 0, 5] rfl) h
theorem wlX3_copyWithout_6 (C : CxC p rmX3_copyWithout s m args meth c D ac q xa xv RX3 cX3_copyWithout 6) (hr : meth.sig.returnType = (some .int)){w3 : Nat} (hw3 : kdC w3 = 16) {v1 : Int} {v2 : Int} {e6 : Int → Mm → Option (Int × Mm)} {r : Int × Mm} (he6 : ∀ (v4x : Int) (σ : Mm) (ls : Array Slot), lv_has ls 6 [(0, .ref (q 13)), (4, .int (i32 v4x))] → e6 v4x σ = some r → VC p l e rmX3_copyWithout s m args below meth c D ac q (QIC D ac q xa xv below args s r) σ (F0 m 52 ls [])) : ∀ (fu : Nat) (v4 : Int) (v5 : Int) (σ : Mm) (ls : Array Slot) (hl : lv_has ls 6 [(0, .ref (q 13)), (1, .int (i32 v1)), (2, .int (i32 v2)), (3, .ref (q w3)), (4, .int (i32 v4)), (5, .int (i32 v5))]) (h : lX3_copyWithout_6 w3 v1 v2 e6 fu v4 v5 σ = some r), VC p l e rmX3_copyWithout s m args below meth c D ac q (QIC D ac q xa xv below args s r) σ (F0 m 6 ls []) := by
  intro fu
  induction fu with
  | zero =>
    intro v4 v5 σ ls hl h
    have h : none = some r := h
    cases h
  | succ fu ih =>
    intro v4 v5 σ ls hl h
    exact wX3_copyWithout_6 C hr hw3 he6 (fun v4 v5 σ ls hl h => ih v4 v5 σ ls hl h) hl h
theorem mX3_copyWithout (hq : QI 175 q) {w3 : Nat} {v1 : Int} {v2 : Int} (hw3 : kdC w3 = 16) {σ : Mm} {r : Int × Mm} (h : fX3_copyWithout w3 v1 v2 σ = some r) : MIC l D ac q xa xv yX3_copyWithout cX3_copyWithout 6 (some .int) rmX3_copyWithout [.ref (q 13), .int (i32 v1), .int (i32 v2), .ref (q w3)] σ r := by
  refine MI.of hq XC_M (by decide) (Nat.le_of_ble_eq_true rfl) (fun p e s m below meth c ls C hr hl => ?_)
  have hl : lv_has ls 6 [(0, .ref (q 13)), (1, .int (i32 v1)), (2, .int (i32 v2)), (3, .ref (q w3))] := hl
  have h : bindv 0 (fun v4_1 => bindv 0 (fun v5_2 => lX3_copyWithout_6 w3 v1 v2 (fun v4_3 σ_4 => fX3_copyWithout_52 w3 v4_3 σ_4) 400 v4_1 v5_2 σ)) = some r := h
  refine v_iconst C dX3_copyWithout_0 ?_
  refine v_istore C hl (fun x => [(4, .int (i32 x)), (0, .ref (q 13)), (1, .int (i32 v1)), (2, .int (i32 v2)), (3, .ref (q w3))]) dX3_copyWithout_1 (by decide) (fun _ => rfl) h (fun v4_1 ls hl h => ?_)
  refine v_iconst C dX3_copyWithout_3 ?_
  refine v_istore C hl (fun x => [(5, .int (i32 x)), (4, .int (i32 v4_1)), (0, .ref (q 13)), (1, .int (i32 v1)), (2, .int (i32 v2)), (3, .ref (q w3))]) dX3_copyWithout_4 (by decide) (fun _ => rfl) h (fun v5_2 ls hl h => ?_)
  exact wlX3_copyWithout_6 C hr hw3 (fun v4_3 σ_4 ls hl h => wX3_copyWithout_52 C hr hw3 (lv_sub hl [0, 1] rfl) h) _ _ _ _ _ (lv_sub hl [2, 3, 4, 5, 1, 0] rfl) h
end
section
variable {l : Launch} {D : va_G} {ac : Nat → ClassId} {q xa xv : Nat → Nat} {p : Program} {e : Env} {s : State} {m : MethodId} {args : Array Value} {below : List Frame} {meth : Method} {c : Code} {ls : Array Slot}
theorem dX3_dropPoint_0 : decode cX3_dropPoint 0 = .ok (.aload_n 0, 1) := by decide +kernel
theorem dX3_dropPoint_1 : decode cX3_dropPoint 1 = .ok (.getfield 20, 3) := by decide +kernel
theorem dX3_dropPoint_4 : decode cX3_dropPoint 4 = .ok (.iload_n 1, 1) := by decide +kernel
theorem dX3_dropPoint_5 : decode cX3_dropPoint 5 = .ok (.iconst 0, 1) := by decide +kernel
theorem dX3_dropPoint_6 : decode cX3_dropPoint 6 = .ok (.bastore, 1) := by decide +kernel
theorem dX3_dropPoint_7 : decode cX3_dropPoint 7 = .ok (.iconst 0, 1) := by decide +kernel
theorem dX3_dropPoint_8 : decode cX3_dropPoint 8 = .ok (.istore_n 2, 1) := by decide +kernel
theorem dX3_dropPoint_9 : decode cX3_dropPoint 9 = .ok (.iload_n 2, 1) := by decide +kernel
theorem dX3_dropPoint_10 : decode cX3_dropPoint 10 = .ok (.aload_n 0, 1) := by decide +kernel
theorem dX3_dropPoint_11 : decode cX3_dropPoint 11 = .ok (.getfield 27, 3) := by decide +kernel
theorem dX3_dropPoint_14 : decode cX3_dropPoint 14 = .ok (.getfield 31, 3) := by decide +kernel
theorem dX3_dropPoint_17 : decode cX3_dropPoint 17 = .ok (.if_icmp .ge 27, 3) := by decide +kernel
theorem dX3_dropPoint_20 : decode cX3_dropPoint 20 = .ok (.aload_n 0, 1) := by decide +kernel
theorem dX3_dropPoint_21 : decode cX3_dropPoint 21 = .ok (.getfield 16, 3) := by decide +kernel
theorem dX3_dropPoint_24 : decode cX3_dropPoint 24 = .ok (.iload_n 2, 1) := by decide +kernel
theorem dX3_dropPoint_25 : decode cX3_dropPoint 25 = .ok (.aload_n 0, 1) := by decide +kernel
theorem dX3_dropPoint_26 : decode cX3_dropPoint 26 = .ok (.iload_n 2, 1) := by decide +kernel
theorem dX3_dropPoint_27 : decode cX3_dropPoint 27 = .ok (.iload_n 1, 1) := by decide +kernel
theorem dX3_dropPoint_28 : decode cX3_dropPoint 28 = .ok (.aload_n 0, 1) := by decide +kernel
theorem dX3_dropPoint_29 : decode cX3_dropPoint 29 = .ok (.getfield 11, 3) := by decide +kernel
theorem dX3_dropPoint_32 : decode cX3_dropPoint 32 = .ok (.iload_n 2, 1) := by decide +kernel
theorem dX3_dropPoint_33 : decode cX3_dropPoint 33 = .ok (.aaload, 1) := by decide +kernel
theorem dX3_dropPoint_34 : decode cX3_dropPoint 34 = .ok (.invokevirtual 52, 3) := by decide +kernel
theorem dX3_dropPoint_37 : decode cX3_dropPoint 37 = .ok (.iastore, 1) := by decide +kernel
theorem dX3_dropPoint_38 : decode cX3_dropPoint 38 = .ok (.iinc 2 1, 3) := by decide +kernel
theorem dX3_dropPoint_41 : decode cX3_dropPoint 41 = .ok (.goto (-32), 3) := by decide +kernel
theorem dX3_dropPoint_44 : decode cX3_dropPoint 44 = .ok (.return_, 1) := by decide +kernel
theorem wX3_dropPoint_44 (C : CxC p rmX3_dropPoint s m args meth c D ac q xa xv RX3 cX3_dropPoint 3) (hr : meth.sig.returnType = none) {σ : Mm} {r : Mm} (hl : lv_has ls 3 [(0, .ref (q 13))]) (h : fX3_dropPoint_44 σ = some r) : VC p l e rmX3_dropPoint s m args below meth c D ac q (QVC D ac q xa xv below args s r) σ (F0 m 44 ls []) := by
  have h : some σ = some r := h
  exact v_vret C hr h dX3_dropPoint_44
theorem wX3_dropPoint_9 (C : CxC p rmX3_dropPoint s m args meth c D ac q xa xv RX3 cX3_dropPoint 3) (hr : meth.sig.returnType = none) {v1 : Int} {v2 : Int} {σ : Mm} {e9 : Mm → Option (Mm)} {c9 : Int → Mm → Option (Mm)} {r : Mm} (he9 : ∀ (σ : Mm) (ls : Array Slot), lv_has ls 3 [(0, .ref (q 13))] → e9 σ = some r → VC p l e rmX3_dropPoint s m args below meth c D ac q (QVC D ac q xa xv below args s r) σ (F0 m 44 ls [])) (hc9 : ∀ (v2x : Int) (σ : Mm) (ls : Array Slot), lv_has ls 3 [(0, .ref (q 13)), (1, .int (i32 v1)), (2, .int (i32 v2x))] → c9 v2x σ = some r → VC p l e rmX3_dropPoint s m args below meth c D ac q (QVC D ac q xa xv below args s r) σ (F0 m 9 ls [])) (hl : lv_has ls 3 [(0, .ref (q 13)), (1, .int (i32 v1)), (2, .int (i32 v2))]) (h : fX3_dropPoint_9 v1 e9 c9 v2 σ = some r) : VC p l e rmX3_dropPoint s m args below meth c D ac q (QVC D ac q xa xv below args s r) σ (F0 m 9 ls []) := by
  have h : cr v2 (cr (σ 95 10) ((if v2 < σ 95 10 then chk v2 6 (bd2 (fX3_copyWithout (29 + (v2).toNat) v2 v1 σ) (fun x_4 σ_4 => chk v2 6 (bindv (sto σ_4 15 (v2).toNat x_4) (fun σ_5 => bindv (v2 + 1) (fun v2_6 => c9 v2_6 σ_5))))) else e9 σ))) = some r := h
  refine v_iload_n C hl dX3_dropPoint_9 rfl 2 rfl ?_
  refine v_aload_n C hl dX3_dropPoint_10 rfl 0 rfl ?_
  refine g_X3_0 C kdC_13 fl_X3_27 dX3_dropPoint_11 ?_
  refine g_X1_10 C kdC_95 fl_X3_31 dX3_dropPoint_14 ?_
  have hz1 := (cr_e h).1
  have h := (cr_e h).2
  have hz2 := (cr_e h).1
  have h := (cr_e h).2
  refine v_icmp_ge C (tgt := 44) hz1 hz2 h dX3_dropPoint_17 rfl (fun h => ?_) (fun h => ?_)
  · exact he9 _ _ (lv_sub hl [0] rfl) h
  · refine v_aload_n C hl dX3_dropPoint_20 rfl 0 rfl ?_
    refine g_X3_2 C kdC_13 fl_X3_16 dX3_dropPoint_21 ?_
    refine v_iload_n C hl dX3_dropPoint_24 rfl 2 rfl ?_
    refine v_aload_n C hl dX3_dropPoint_25 rfl 0 rfl ?_
    refine v_iload_n C hl dX3_dropPoint_26 rfl 2 rfl ?_
    refine v_iload_n C hl dX3_dropPoint_27 rfl 1 rfl ?_
    refine v_aload_n C hl dX3_dropPoint_28 rfl 0 rfl ?_
    refine g_X3_1 C kdC_13 fl_X3_11 dX3_dropPoint_29 ?_
    refine v_iload_n C hl dX3_dropPoint_32 rfl 2 rfl ?_
    have hi3 := (chk_e h).1
    refine arC13 C kdC_14 h dX3_dropPoint_33 (fun h => ?_)
    obtain ⟨x_4, σ_4, hv4, h⟩ := bd2_e h
    refine v_callVI C 13 (klC kdC_13) rfl (ckC12 kdC_13 _) rfl [.int (i32 v2), .int (i32 v1), .ref (q (29 + (v2).toNat))] (mX3_copyWithout C.2.2.2.2.1 (keC13 kdC_14 hi3) hv4) cd_X3_copyWithout ic_X3 im_X3_copyWithout se_X3_copyWithout ml_X3_52 yk_X3_copyWithout ⟨rfl, rfl, by decide, by decide⟩ rfl hl.1 (rest := [.int (i32 v2), .ref (q 15)]) rfl (Nat.le_of_ble_eq_true rfl) dX3_dropPoint_34 ?_
    refine asC14 C kdC_15 h dX3_dropPoint_37 (fun σ_5 h => ?_)
    refine v_iinc C hl (fun x => [(2, .int (i32 x)), (0, .ref (q 13)), (1, .int (i32 v1))]) dX3_dropPoint_38 2 rfl (by decide) (fun _ => rfl) h (fun v2_6 ls hl h => ?_)
    refine v_goto C (tgt := 9) dX3_dropPoint_41 rfl ?_
    exact hc9 _ _ _ (lv_sub hl [1, 2, 0] rfl) h
theorem wlX3_dropPoint_9 (C : CxC p rmX3_dropPoint s m args meth c D ac q xa xv RX3 cX3_dropPoint 3) (hr : meth.sig.returnType = none) {v1 : Int} {e9 : Mm → Option (Mm)} {r : Mm} (he9 : ∀ (σ : Mm) (ls : Array Slot), lv_has ls 3 [(0, .ref (q 13))] → e9 σ = some r → VC p l e rmX3_dropPoint s m args below meth c D ac q (QVC D ac q xa xv below args s r) σ (F0 m 44 ls [])) : ∀ (fu : Nat) (v2 : Int) (σ : Mm) (ls : Array Slot) (hl : lv_has ls 3 [(0, .ref (q 13)), (1, .int (i32 v1)), (2, .int (i32 v2))]) (h : lX3_dropPoint_9 v1 e9 fu v2 σ = some r), VC p l e rmX3_dropPoint s m args below meth c D ac q (QVC D ac q xa xv below args s r) σ (F0 m 9 ls []) := by
  intro fu
  induction fu with
  | zero =>
    intro v2 σ ls hl h
    have h : none = some r := h
    cases h
  | succ fu ih =>
    intro v2 σ ls hl h
    exact wX3_dropPoint_9 C hr he9 (fun v2 σ ls hl h => ih v2 σ ls hl h) hl h
theorem mX3_dropPoint (hq : QI 175 q) {v1 : Int} {σ : Mm} {r : Mm} (h : fX3_dropPoint v1 σ = some r) : MVC l D ac q xa xv yX3_dropPoint cX3_dropPoint 3 none rmX3_dropPoint [.ref (q 13), .int (i32 v1)] σ r := by
  refine MV.of hq XC_M (by decide) (Nat.le_of_ble_eq_true rfl) (fun p e s m below meth c ls C hr hl => ?_)
  have hl : lv_has ls 3 [(0, .ref (q 13)), (1, .int (i32 v1))] := hl
  have h : chb 0 (chk v1 24 (bindv (sto σ 16 (v1).toNat 0) (fun σ_1 => bindv 0 (fun v2_2 => lX3_dropPoint_9 v1 (fun σ_3 => fX3_dropPoint_44 σ_3) 400 v2_2 σ_1)))) = some r := h
  refine v_aload_n C hl dX3_dropPoint_0 rfl 0 rfl ?_
  refine g_X3_3 C kdC_13 fl_X3_20 dX3_dropPoint_1 ?_
  refine v_iload_n C hl dX3_dropPoint_4 rfl 1 rfl ?_
  refine v_iconst C dX3_dropPoint_5 ?_
  refine asC15 C kdC_16 h dX3_dropPoint_6 (fun σ_1 h => ?_)
  refine v_iconst C dX3_dropPoint_7 ?_
  refine v_istore_n C hl (fun x => [(2, .int (i32 x)), (0, .ref (q 13)), (1, .int (i32 v1))]) dX3_dropPoint_8 rfl (by decide) (fun _ => rfl) h (fun v2_2 ls hl h => ?_)
  exact wlX3_dropPoint_9 C hr (fun σ_3 ls hl h => wX3_dropPoint_44 C hr (lv_sub hl [0] rfl) h) _ _ _ _ (lv_sub hl [1, 2, 0] rfl) h
end
section
variable {l : Launch} {D : va_G} {ac : Nat → ClassId} {q xa xv : Nat → Nat} {p : Program} {e : Env} {s : State} {m : MethodId} {args : Array Value} {below : List Frame} {meth : Method} {c : Code} {ls : Array Slot}
theorem dX3_holds_0 : decode cX3_holds 0 = .ok (.iconst 0, 1) := by decide +kernel
theorem dX3_holds_1 : decode cX3_holds 1 = .ok (.istore 4, 2) := by decide +kernel
theorem dX3_holds_3 : decode cX3_holds 3 = .ok (.iconst 0, 1) := by decide +kernel
theorem dX3_holds_4 : decode cX3_holds 4 = .ok (.istore 5, 2) := by decide +kernel
theorem dX3_holds_6 : decode cX3_holds 6 = .ok (.iload 5, 2) := by decide +kernel
theorem dX3_holds_8 : decode cX3_holds 8 = .ok (.aload_n 0, 1) := by decide +kernel
theorem dX3_holds_9 : decode cX3_holds 9 = .ok (.getfield 16, 3) := by decide +kernel
theorem dX3_holds_12 : decode cX3_holds 12 = .ok (.iload_n 1, 1) := by decide +kernel
theorem dX3_holds_13 : decode cX3_holds 13 = .ok (.iaload, 1) := by decide +kernel
theorem dX3_holds_14 : decode cX3_holds 14 = .ok (.if_icmp .ge 157, 3) := by decide +kernel
theorem dX3_holds_17 : decode cX3_holds 17 = .ok (.aload_n 0, 1) := by decide +kernel
theorem dX3_holds_18 : decode cX3_holds 18 = .ok (.getfield 11, 3) := by decide +kernel
theorem dX3_holds_21 : decode cX3_holds 21 = .ok (.iload_n 1, 1) := by decide +kernel
theorem dX3_holds_22 : decode cX3_holds 22 = .ok (.aaload, 1) := by decide +kernel
theorem dX3_holds_23 : decode cX3_holds 23 = .ok (.iload 5, 2) := by decide +kernel
theorem dX3_holds_25 : decode cX3_holds 25 = .ok (.iaload, 1) := by decide +kernel
theorem dX3_holds_26 : decode cX3_holds 26 = .ok (.istore 6, 2) := by decide +kernel
theorem dX3_holds_28 : decode cX3_holds 28 = .ok (.aload_n 0, 1) := by decide +kernel
theorem dX3_holds_29 : decode cX3_holds 29 = .ok (.getfield 11, 3) := by decide +kernel
theorem dX3_holds_32 : decode cX3_holds 32 = .ok (.iload_n 1, 1) := by decide +kernel
theorem dX3_holds_33 : decode cX3_holds 33 = .ok (.aaload, 1) := by decide +kernel
theorem dX3_holds_34 : decode cX3_holds 34 = .ok (.iload 5, 2) := by decide +kernel
theorem dX3_holds_36 : decode cX3_holds 36 = .ok (.aload_n 0, 1) := by decide +kernel
theorem dX3_holds_37 : decode cX3_holds 37 = .ok (.getfield 16, 3) := by decide +kernel
theorem dX3_holds_40 : decode cX3_holds 40 = .ok (.iload_n 1, 1) := by decide +kernel
theorem dX3_holds_41 : decode cX3_holds 41 = .ok (.iaload, 1) := by decide +kernel
theorem dX3_holds_42 : decode cX3_holds 42 = .ok (.invokestatic 72, 3) := by decide +kernel
theorem dX3_holds_45 : decode cX3_holds 45 = .ok (.iaload, 1) := by decide +kernel
theorem dX3_holds_46 : decode cX3_holds 46 = .ok (.istore 7, 2) := by decide +kernel
theorem dX3_holds_48 : decode cX3_holds 48 = .ok (.aload_n 0, 1) := by decide +kernel
theorem dX3_holds_49 : decode cX3_holds 49 = .ok (.getfield 27, 3) := by decide +kernel
theorem dX3_holds_52 : decode cX3_holds 52 = .ok (.getfield 91, 3) := by decide +kernel
theorem dX3_holds_55 : decode cX3_holds 55 = .ok (.iload 6, 2) := by decide +kernel
theorem dX3_holds_57 : decode cX3_holds 57 = .ok (.iaload, 1) := by decide +kernel
theorem dX3_holds_58 : decode cX3_holds 58 = .ok (.iload_n 3, 1) := by decide +kernel
theorem dX3_holds_59 : decode cX3_holds 59 = .ok (.if_icmp .gt 21, 3) := by decide +kernel
theorem dX3_holds_62 : decode cX3_holds 62 = .ok (.aload_n 0, 1) := by decide +kernel
theorem dX3_holds_63 : decode cX3_holds 63 = .ok (.getfield 27, 3) := by decide +kernel
theorem dX3_holds_66 : decode cX3_holds 66 = .ok (.getfield 91, 3) := by decide +kernel
theorem dX3_holds_69 : decode cX3_holds 69 = .ok (.iload 7, 2) := by decide +kernel
theorem dX3_holds_71 : decode cX3_holds 71 = .ok (.iaload, 1) := by decide +kernel
theorem dX3_holds_72 : decode cX3_holds 72 = .ok (.iload_n 3, 1) := by decide +kernel
theorem dX3_holds_73 : decode cX3_holds 73 = .ok (.if_icmp .le 7, 3) := by decide +kernel
theorem dX3_holds_76 : decode cX3_holds 76 = .ok (.iconst 1, 1) := by decide +kernel
theorem dX3_holds_77 : decode cX3_holds 77 = .ok (.goto 4, 3) := by decide +kernel
theorem dX3_holds_80 : decode cX3_holds 80 = .ok (.iconst 0, 1) := by decide +kernel
theorem dX3_holds_81 : decode cX3_holds 81 = .ok (.istore 8, 2) := by decide +kernel
theorem dX3_holds_83 : decode cX3_holds 83 = .ok (.aload_n 0, 1) := by decide +kernel
theorem dX3_holds_84 : decode cX3_holds 84 = .ok (.getfield 27, 3) := by decide +kernel
theorem dX3_holds_87 : decode cX3_holds 87 = .ok (.getfield 91, 3) := by decide +kernel
theorem dX3_holds_90 : decode cX3_holds 90 = .ok (.iload 7, 2) := by decide +kernel
theorem dX3_holds_92 : decode cX3_holds 92 = .ok (.iaload, 1) := by decide +kernel
theorem dX3_holds_93 : decode cX3_holds 93 = .ok (.iload_n 3, 1) := by decide +kernel
theorem dX3_holds_94 : decode cX3_holds 94 = .ok (.if_icmp .gt 21, 3) := by decide +kernel
theorem dX3_holds_97 : decode cX3_holds 97 = .ok (.aload_n 0, 1) := by decide +kernel
theorem dX3_holds_98 : decode cX3_holds 98 = .ok (.getfield 27, 3) := by decide +kernel
theorem dX3_holds_101 : decode cX3_holds 101 = .ok (.getfield 91, 3) := by decide +kernel
theorem dX3_holds_104 : decode cX3_holds 104 = .ok (.iload 6, 2) := by decide +kernel
theorem dX3_holds_106 : decode cX3_holds 106 = .ok (.iaload, 1) := by decide +kernel
theorem dX3_holds_107 : decode cX3_holds 107 = .ok (.iload_n 3, 1) := by decide +kernel
theorem dX3_holds_108 : decode cX3_holds 108 = .ok (.if_icmp .le 7, 3) := by decide +kernel
theorem dX3_holds_111 : decode cX3_holds 111 = .ok (.iconst 1, 1) := by decide +kernel
theorem dX3_holds_112 : decode cX3_holds 112 = .ok (.goto 4, 3) := by decide +kernel
theorem dX3_holds_115 : decode cX3_holds 115 = .ok (.iconst 0, 1) := by decide +kernel
theorem dX3_holds_116 : decode cX3_holds 116 = .ok (.istore 9, 2) := by decide +kernel
theorem dX3_holds_118 : decode cX3_holds 118 = .ok (.aload_n 0, 1) := by decide +kernel
theorem dX3_holds_119 : decode cX3_holds 119 = .ok (.getfield 27, 3) := by decide +kernel
theorem dX3_holds_122 : decode cX3_holds 122 = .ok (.iload 6, 2) := by decide +kernel
theorem dX3_holds_124 : decode cX3_holds 124 = .ok (.iload 7, 2) := by decide +kernel
theorem dX3_holds_126 : decode cX3_holds 126 = .ok (.iload_n 2, 1) := by decide +kernel
theorem dX3_holds_127 : decode cX3_holds 127 = .ok (.iload_n 3, 1) := by decide +kernel
theorem dX3_holds_128 : decode cX3_holds 128 = .ok (.invokevirtual 94, 3) := by decide +kernel
theorem dX3_holds_131 : decode cX3_holds 131 = .ok (.istore 10, 2) := by decide +kernel
theorem dX3_holds_133 : decode cX3_holds 133 = .ok (.iload 8, 2) := by decide +kernel
theorem dX3_holds_135 : decode cX3_holds 135 = .ok (.ifCond .eq 8, 3) := by decide +kernel
theorem dX3_holds_138 : decode cX3_holds 138 = .ok (.iload 10, 2) := by decide +kernel
theorem dX3_holds_140 : decode cX3_holds 140 = .ok (.ifCond .gt 13, 3) := by decide +kernel
theorem dX3_holds_143 : decode cX3_holds 143 = .ok (.iload 9, 2) := by decide +kernel
theorem dX3_holds_145 : decode cX3_holds 145 = .ok (.ifCond .eq 20, 3) := by decide +kernel
theorem dX3_holds_148 : decode cX3_holds 148 = .ok (.iload 10, 2) := by decide +kernel
theorem dX3_holds_150 : decode cX3_holds 150 = .ok (.ifCond .ge 15, 3) := by decide +kernel
theorem dX3_holds_153 : decode cX3_holds 153 = .ok (.iload 4, 2) := by decide +kernel
theorem dX3_holds_155 : decode cX3_holds 155 = .ok (.ifCond .ne 7, 3) := by decide +kernel
theorem dX3_holds_158 : decode cX3_holds 158 = .ok (.iconst 1, 1) := by decide +kernel
theorem dX3_holds_159 : decode cX3_holds 159 = .ok (.goto 4, 3) := by decide +kernel
theorem dX3_holds_162 : decode cX3_holds 162 = .ok (.iconst 0, 1) := by decide +kernel
theorem dX3_holds_163 : decode cX3_holds 163 = .ok (.istore 4, 2) := by decide +kernel
theorem dX3_holds_165 : decode cX3_holds 165 = .ok (.iinc 5 1, 3) := by decide +kernel
theorem dX3_holds_168 : decode cX3_holds 168 = .ok (.goto (-162), 3) := by decide +kernel
theorem dX3_holds_171 : decode cX3_holds 171 = .ok (.iload 4, 2) := by decide +kernel
theorem dX3_holds_173 : decode cX3_holds 173 = .ok (.ireturn, 1) := by decide +kernel
theorem wX3_holds_171 (C : CxC p rmX3_holds s m args meth c D ac q xa xv RX3 cX3_holds 11) (hr : meth.sig.returnType = (some .boolean)) {v4 : Int} {σ : Mm} {r : Int} (hl : lv_has ls 11 [(0, .ref (q 13)), (4, .int (i32 v4))]) (h : fX3_holds_171 v4 σ = some r) : VC p l e rmX3_holds s m args below meth c D ac q (QIC D ac q xa xv below args s (r, σ)) σ (F0 m 171 ls []) := by
  have h : chb v4 (some v4) = some r := h
  refine v_iload C hl dX3_holds_171 1 rfl ?_
  have hz1 := (chb_e h).1
  have h := (chb_e h).2
  exact v_zret C hr hz1 (so1 h) dX3_holds_173
theorem wX3_holds_165 (C : CxC p rmX3_holds s m args meth c D ac q xa xv RX3 cX3_holds 11) (hr : meth.sig.returnType = (some .boolean)) {v1 : Int} {v2 : Int} {v3 : Int} {v4 : Int} {v5 : Int} {c6 : Int → Int → Option (Int)} {σ : Mm} {r : Int} (hc6 : ∀ (v4x : Int) (v5x : Int) (ls : Array Slot), lv_has ls 11 [(0, .ref (q 13)), (1, .int (i32 v1)), (2, .int (i32 v2)), (3, .int (i32 v3)), (4, .int (i32 v4x)), (5, .int (i32 v5x))] → c6 v4x v5x = some r → VC p l e rmX3_holds s m args below meth c D ac q (QIC D ac q xa xv below args s (r, σ)) σ (F0 m 6 ls [])) (hl : lv_has ls 11 [(0, .ref (q 13)), (1, .int (i32 v1)), (2, .int (i32 v2)), (3, .int (i32 v3)), (4, .int (i32 v4)), (5, .int (i32 v5))]) (h : fX3_holds_165 c6 v1 v2 v3 v4 v5 σ = some r) : VC p l e rmX3_holds s m args below meth c D ac q (QIC D ac q xa xv below args s (r, σ)) σ (F0 m 165 ls []) := by
  have h : bindv (v5 + 1) (fun v5_1 => c6 v4 v5_1) = some r := h
  refine v_iinc C hl (fun x => [(5, .int (i32 x)), (0, .ref (q 13)), (1, .int (i32 v1)), (2, .int (i32 v2)), (3, .int (i32 v3)), (4, .int (i32 v4))]) dX3_holds_165 5 rfl (by decide) (fun _ => rfl) h (fun v5_1 ls hl h => ?_)
  refine v_goto C (tgt := 6) dX3_holds_168 rfl ?_
  exact hc6 _ _ _ (lv_sub hl [1, 2, 3, 4, 5, 0] rfl) h
theorem wX3_holds_163 (C : CxC p rmX3_holds s m args meth c D ac q xa xv RX3 cX3_holds 11) (hr : meth.sig.returnType = (some .boolean)) {v1 : Int} {v2 : Int} {v3 : Int} {v5 : Int} {t0 : Int} {c6 : Int → Int → Option (Int)} {σ : Mm} {r : Int} (hc6 : ∀ (v4x : Int) (v5x : Int) (ls : Array Slot), lv_has ls 11 [(0, .ref (q 13)), (1, .int (i32 v1)), (2, .int (i32 v2)), (3, .int (i32 v3)), (4, .int (i32 v4x)), (5, .int (i32 v5x))] → c6 v4x v5x = some r → VC p l e rmX3_holds s m args below meth c D ac q (QIC D ac q xa xv below args s (r, σ)) σ (F0 m 6 ls [])) (hl : lv_has ls 11 [(0, .ref (q 13)), (1, .int (i32 v1)), (2, .int (i32 v2)), (3, .int (i32 v3)), (5, .int (i32 v5))]) (h : fX3_holds_163 c6 v1 v2 v3 v5 t0 σ = some r) : VC p l e rmX3_holds s m args below meth c D ac q (QIC D ac q xa xv below args s (r, σ)) σ (F0 m 163 ls [.int (i32 t0)]) := by
  have h : bindv t0 (fun v4_1 => fX3_holds_165 c6 v1 v2 v3 v4_1 v5 σ) = some r := h
  refine v_istore C hl (fun x => [(4, .int (i32 x)), (0, .ref (q 13)), (1, .int (i32 v1)), (2, .int (i32 v2)), (3, .int (i32 v3)), (5, .int (i32 v5))]) dX3_holds_163 (by decide) (fun _ => rfl) h (fun v4_1 ls hl h => ?_)
  exact wX3_holds_165 C hr hc6 (lv_sub hl [1, 2, 3, 4, 0, 5] rfl) h
theorem wX3_holds_153 (C : CxC p rmX3_holds s m args meth c D ac q xa xv RX3 cX3_holds 11) (hr : meth.sig.returnType = (some .boolean)) {v1 : Int} {v2 : Int} {v3 : Int} {v4 : Int} {v5 : Int} {c6 : Int → Int → Option (Int)} {σ : Mm} {r : Int} (hc6 : ∀ (v4x : Int) (v5x : Int) (ls : Array Slot), lv_has ls 11 [(0, .ref (q 13)), (1, .int (i32 v1)), (2, .int (i32 v2)), (3, .int (i32 v3)), (4, .int (i32 v4x)), (5, .int (i32 v5x))] → c6 v4x v5x = some r → VC p l e rmX3_holds s m args below meth c D ac q (QIC D ac q xa xv below args s (r, σ)) σ (F0 m 6 ls [])) (hl : lv_has ls 11 [(0, .ref (q 13)), (1, .int (i32 v1)), (2, .int (i32 v2)), (3, .int (i32 v3)), (4, .int (i32 v4)), (5, .int (i32 v5))]) (h : fX3_holds_153 c6 v1 v2 v3 v4 v5 σ = some r) : VC p l e rmX3_holds s m args below meth c D ac q (QIC D ac q xa xv below args s (r, σ)) σ (F0 m 153 ls []) := by
  have h : cr v4 ((if v4 = 0 then fX3_holds_163 c6 v1 v2 v3 v5 1 σ else fX3_holds_163 c6 v1 v2 v3 v5 0 σ)) = some r := h
  refine v_iload C hl dX3_holds_153 4 rfl ?_
  have hz1 := (cr_e h).1
  have h := (cr_e h).2
  refine v_if_ne C (tgt := 162) hz1 h dX3_holds_155 rfl (fun h => ?_) (fun h => ?_)
  · refine v_iconst C dX3_holds_162 ?_
    exact wX3_holds_163 C hr hc6 (lv_sub hl [0, 1, 2, 3, 5] rfl) h
  · refine v_iconst C dX3_holds_158 ?_
    refine v_goto C (tgt := 163) dX3_holds_159 rfl ?_
    exact wX3_holds_163 C hr hc6 (lv_sub hl [0, 1, 2, 3, 5] rfl) h
theorem wX3_holds_143 (C : CxC p rmX3_holds s m args meth c D ac q xa xv RX3 cX3_holds 11) (hr : meth.sig.returnType = (some .boolean)) {v1 : Int} {v2 : Int} {v3 : Int} {v4 : Int} {v5 : Int} {v9 : Int} {v10 : Int} {c6 : Int → Int → Option (Int)} {σ : Mm} {r : Int} (hc6 : ∀ (v4x : Int) (v5x : Int) (ls : Array Slot), lv_has ls 11 [(0, .ref (q 13)), (1, .int (i32 v1)), (2, .int (i32 v2)), (3, .int (i32 v3)), (4, .int (i32 v4x)), (5, .int (i32 v5x))] → c6 v4x v5x = some r → VC p l e rmX3_holds s m args below meth c D ac q (QIC D ac q xa xv below args s (r, σ)) σ (F0 m 6 ls [])) (hl : lv_has ls 11 [(0, .ref (q 13)), (1, .int (i32 v1)), (2, .int (i32 v2)), (3, .int (i32 v3)), (4, .int (i32 v4)), (5, .int (i32 v5)), (9, .int (i32 v9)), (10, .int (i32 v10))]) (h : fX3_holds_143 c6 v1 v2 v3 v4 v5 v9 v10 σ = some r) : VC p l e rmX3_holds s m args below meth c D ac q (QIC D ac q xa xv below args s (r, σ)) σ (F0 m 143 ls []) := by
  have h : cr v9 ((if v9 = 0 then fX3_holds_165 c6 v1 v2 v3 v4 v5 σ else cr v10 ((if v10 < 0 then fX3_holds_153 c6 v1 v2 v3 v4 v5 σ else fX3_holds_165 c6 v1 v2 v3 v4 v5 σ)))) = some r := h
  refine v_iload C hl dX3_holds_143 6 rfl ?_
  have hz1 := (cr_e h).1
  have h := (cr_e h).2
  refine v_if_eq C (tgt := 165) hz1 h dX3_holds_145 rfl (fun h => ?_) (fun h => ?_)
  · exact wX3_holds_165 C hr hc6 (lv_sub hl [0, 1, 2, 3, 4, 5] rfl) h
  · refine v_iload C hl dX3_holds_148 7 rfl ?_
    have hz2 := (cr_e h).1
    have h := (cr_e h).2
    refine v_if_ge C (tgt := 165) hz2 h dX3_holds_150 rfl (fun h => ?_) (fun h => ?_)
    · exact wX3_holds_165 C hr hc6 (lv_sub hl [0, 1, 2, 3, 4, 5] rfl) h
    · exact wX3_holds_153 C hr hc6 (lv_sub hl [0, 1, 2, 3, 4, 5] rfl) h
theorem wX3_holds_116 (C : CxC p rmX3_holds s m args meth c D ac q xa xv RX3 cX3_holds 11) (hr : meth.sig.returnType = (some .boolean)) {v1 : Int} {v2 : Int} {v3 : Int} {v4 : Int} {v5 : Int} {v6 : Int} {v7 : Int} {v8 : Int} {t0 : Int} {c6 : Int → Int → Option (Int)} {σ : Mm} {r : Int} (hc6 : ∀ (v4x : Int) (v5x : Int) (ls : Array Slot), lv_has ls 11 [(0, .ref (q 13)), (1, .int (i32 v1)), (2, .int (i32 v2)), (3, .int (i32 v3)), (4, .int (i32 v4x)), (5, .int (i32 v5x))] → c6 v4x v5x = some r → VC p l e rmX3_holds s m args below meth c D ac q (QIC D ac q xa xv below args s (r, σ)) σ (F0 m 6 ls [])) (hl : lv_has ls 11 [(0, .ref (q 13)), (1, .int (i32 v1)), (2, .int (i32 v2)), (3, .int (i32 v3)), (4, .int (i32 v4)), (5, .int (i32 v5)), (6, .int (i32 v6)), (7, .int (i32 v7)), (8, .int (i32 v8))]) (h : fX3_holds_116 c6 v1 v2 v3 v4 v5 v6 v7 v8 t0 σ = some r) : VC p l e rmX3_holds s m args below meth c D ac q (QIC D ac q xa xv below args s (r, σ)) σ (F0 m 116 ls [.int (i32 t0)]) := by
  have h : bindv t0 (fun v9_1 => bd (fX1_sideOf 95 v6 v7 v2 v3 σ) (fun x_2 => bindv x_2 (fun v10_3 => cr v8 ((if v8 = 0 then fX3_holds_143 c6 v1 v2 v3 v4 v5 v9_1 v10_3 σ else cr v10_3 ((if 0 < v10_3 then fX3_holds_153 c6 v1 v2 v3 v4 v5 σ else fX3_holds_143 c6 v1 v2 v3 v4 v5 v9_1 v10_3 σ))))))) = some r := h
  refine v_istore C hl (fun x => [(9, .int (i32 x)), (0, .ref (q 13)), (1, .int (i32 v1)), (2, .int (i32 v2)), (3, .int (i32 v3)), (4, .int (i32 v4)), (5, .int (i32 v5)), (6, .int (i32 v6)), (7, .int (i32 v7)), (8, .int (i32 v8))]) dX3_holds_116 (by decide) (fun _ => rfl) h (fun v9_1 ls hl h => ?_)
  refine v_aload_n C hl dX3_holds_118 rfl 1 rfl ?_
  refine g_X3_0 C kdC_13 fl_X3_27 dX3_holds_119 ?_
  refine v_iload C hl dX3_holds_122 7 rfl ?_
  refine v_iload C hl dX3_holds_124 8 rfl ?_
  refine v_iload_n C hl dX3_holds_126 rfl 3 rfl ?_
  refine v_iload_n C hl dX3_holds_127 rfl 4 rfl ?_
  obtain ⟨x_2, hv2, h⟩ := bd_e h
  refine v_callVI C 95 (klC kdC_95) rfl (ckC23 kdC_95 _) rfl [.int (i32 v6), .int (i32 v7), .int (i32 v2), .int (i32 v3)] (mX1_sideOf C.2.2.2.2.1 kdC_95 hv2) cd_X1_sideOf ic_X1 im_X1_sideOf se_X1_sideOf ml_X3_94 yk_X1_sideOf ⟨rfl, rfl, by decide, by decide⟩ rfl hl.1 (rest := []) rfl (Nat.le_of_ble_eq_true rfl) dX3_holds_128 ?_
  refine v_istore C hl (fun x => [(10, .int (i32 x)), (9, .int (i32 v9_1)), (0, .ref (q 13)), (1, .int (i32 v1)), (2, .int (i32 v2)), (3, .int (i32 v3)), (4, .int (i32 v4)), (5, .int (i32 v5)), (6, .int (i32 v6)), (7, .int (i32 v7)), (8, .int (i32 v8))]) dX3_holds_131 (by decide) (fun _ => rfl) h (fun v10_3 ls hl h => ?_)
  refine v_iload C hl dX3_holds_133 10 rfl ?_
  have hz4 := (cr_e h).1
  have h := (cr_e h).2
  refine v_if_eq C (tgt := 143) hz4 h dX3_holds_135 rfl (fun h => ?_) (fun h => ?_)
  · exact wX3_holds_143 C hr hc6 (lv_sub hl [2, 3, 4, 5, 6, 7, 1, 0] rfl) h
  · refine v_iload C hl dX3_holds_138 0 rfl ?_
    have hz5 := (cr_e h).1
    have h := (cr_e h).2
    refine v_if_gt C (tgt := 153) hz5 h dX3_holds_140 rfl (fun h => ?_) (fun h => ?_)
    · exact wX3_holds_153 C hr hc6 (lv_sub hl [2, 3, 4, 5, 6, 7] rfl) h
    · exact wX3_holds_143 C hr hc6 (lv_sub hl [2, 3, 4, 5, 6, 7, 1, 0] rfl) h
theorem wX3_holds_115 (C : CxC p rmX3_holds s m args meth c D ac q xa xv RX3 cX3_holds 11) (hr : meth.sig.returnType = (some .boolean)) {v1 : Int} {v2 : Int} {v3 : Int} {v4 : Int} {v5 : Int} {v6 : Int} {v7 : Int} {v8 : Int} {c6 : Int → Int → Option (Int)} {σ : Mm} {r : Int} (hc6 : ∀ (v4x : Int) (v5x : Int) (ls : Array Slot), lv_has ls 11 [(0, .ref (q 13)), (1, .int (i32 v1)), (2, .int (i32 v2)), (3, .int (i32 v3)), (4, .int (i32 v4x)), (5, .int (i32 v5x))] → c6 v4x v5x = some r → VC p l e rmX3_holds s m args below meth c D ac q (QIC D ac q xa xv below args s (r, σ)) σ (F0 m 6 ls [])) (hl : lv_has ls 11 [(0, .ref (q 13)), (1, .int (i32 v1)), (2, .int (i32 v2)), (3, .int (i32 v3)), (4, .int (i32 v4)), (5, .int (i32 v5)), (6, .int (i32 v6)), (7, .int (i32 v7)), (8, .int (i32 v8))]) (h : fX3_holds_115 c6 v1 v2 v3 v4 v5 v6 v7 v8 σ = some r) : VC p l e rmX3_holds s m args below meth c D ac q (QIC D ac q xa xv below args s (r, σ)) σ (F0 m 115 ls []) := by
  have h : fX3_holds_116 c6 v1 v2 v3 v4 v5 v6 v7 v8 0 σ = some r := h
  refine v_iconst C dX3_holds_115 ?_
  exact wX3_holds_116 C hr hc6 (lv_sub hl [0, 1, 2, 3, 4, 5, 6, 7, 8] rfl) h
theorem wX3_holds_81 (C : CxC p rmX3_holds s m args meth c D ac q xa xv RX3 cX3_holds 11) (hr : meth.sig.returnType = (some .boolean)) {v1 : Int} {v2 : Int} {v3 : Int} {v4 : Int} {v5 : Int} {v6 : Int} {v7 : Int} {t0 : Int} {c6 : Int → Int → Option (Int)} {σ : Mm} {r : Int} (hc6 : ∀ (v4x : Int) (v5x : Int) (ls : Array Slot), lv_has ls 11 [(0, .ref (q 13)), (1, .int (i32 v1)), (2, .int (i32 v2)), (3, .int (i32 v3)), (4, .int (i32 v4x)), (5, .int (i32 v5x))] → c6 v4x v5x = some r → VC p l e rmX3_holds s m args below meth c D ac q (QIC D ac q xa xv below args s (r, σ)) σ (F0 m 6 ls [])) (hl : lv_has ls 11 [(0, .ref (q 13)), (1, .int (i32 v1)), (2, .int (i32 v2)), (3, .int (i32 v3)), (4, .int (i32 v4)), (5, .int (i32 v5)), (6, .int (i32 v6)), (7, .int (i32 v7))]) (h : fX3_holds_81 c6 v1 v2 v3 v4 v5 v6 v7 t0 σ = some r) : VC p l e rmX3_holds s m args below meth c D ac q (QIC D ac q xa xv below args s (r, σ)) σ (F0 m 81 ls [.int (i32 t0)]) := by
  have h : bindv t0 (fun v8_1 => chk v7 24 (cr (σ 97 (v7).toNat) (cr v3 ((if v3 < σ 97 (v7).toNat then fX3_holds_115 c6 v1 v2 v3 v4 v5 v6 v7 v8_1 σ else chk v6 24 (cr (σ 97 (v6).toNat) (cr v3 ((if v3 < σ 97 (v6).toNat then fX3_holds_116 c6 v1 v2 v3 v4 v5 v6 v7 v8_1 1 σ else fX3_holds_115 c6 v1 v2 v3 v4 v5 v6 v7 v8_1 σ))))))))) = some r := h
  refine v_istore C hl (fun x => [(8, .int (i32 x)), (0, .ref (q 13)), (1, .int (i32 v1)), (2, .int (i32 v2)), (3, .int (i32 v3)), (4, .int (i32 v4)), (5, .int (i32 v5)), (6, .int (i32 v6)), (7, .int (i32 v7))]) dX3_holds_81 (by decide) (fun _ => rfl) h (fun v8_1 ls hl h => ?_)
  refine v_aload_n C hl dX3_holds_83 rfl 1 rfl ?_
  refine g_X3_0 C kdC_13 fl_X3_27 dX3_holds_84 ?_
  refine g_X1_1 C kdC_95 fl_X3_91 dX3_holds_87 ?_
  refine v_iload C hl dX3_holds_90 8 rfl ?_
  refine alC8 C kdC_97 h dX3_holds_92 (fun h => ?_)
  refine v_iload_n C hl dX3_holds_93 rfl 4 rfl ?_
  have hz2 := (cr_e h).1
  have h := (cr_e h).2
  have hz3 := (cr_e h).1
  have h := (cr_e h).2
  refine v_icmp_gt C (tgt := 115) hz2 hz3 h dX3_holds_94 rfl (fun h => ?_) (fun h => ?_)
  · exact wX3_holds_115 C hr hc6 (lv_sub hl [1, 2, 3, 4, 5, 6, 7, 8, 0] rfl) h
  · refine v_aload_n C hl dX3_holds_97 rfl 1 rfl ?_
    refine g_X3_0 C kdC_13 fl_X3_27 dX3_holds_98 ?_
    refine g_X1_1 C kdC_95 fl_X3_91 dX3_holds_101 ?_
    refine v_iload C hl dX3_holds_104 7 rfl ?_
    refine alC8 C kdC_97 h dX3_holds_106 (fun h => ?_)
    refine v_iload_n C hl dX3_holds_107 rfl 4 rfl ?_
    have hz4 := (cr_e h).1
    have h := (cr_e h).2
    have hz5 := (cr_e h).1
    have h := (cr_e h).2
    refine v_icmp_le C (tgt := 115) hz4 hz5 h dX3_holds_108 rfl (fun h => ?_) (fun h => ?_)
    · exact wX3_holds_115 C hr hc6 (lv_sub hl [1, 2, 3, 4, 5, 6, 7, 8, 0] rfl) h
    · refine v_iconst C dX3_holds_111 ?_
      refine v_goto C (tgt := 116) dX3_holds_112 rfl ?_
      exact wX3_holds_116 C hr hc6 (lv_sub hl [1, 2, 3, 4, 5, 6, 7, 8, 0] rfl) h
theorem wX3_holds_80 (C : CxC p rmX3_holds s m args meth c D ac q xa xv RX3 cX3_holds 11) (hr : meth.sig.returnType = (some .boolean)) {v1 : Int} {v2 : Int} {v3 : Int} {v4 : Int} {v5 : Int} {v6 : Int} {v7 : Int} {c6 : Int → Int → Option (Int)} {σ : Mm} {r : Int} (hc6 : ∀ (v4x : Int) (v5x : Int) (ls : Array Slot), lv_has ls 11 [(0, .ref (q 13)), (1, .int (i32 v1)), (2, .int (i32 v2)), (3, .int (i32 v3)), (4, .int (i32 v4x)), (5, .int (i32 v5x))] → c6 v4x v5x = some r → VC p l e rmX3_holds s m args below meth c D ac q (QIC D ac q xa xv below args s (r, σ)) σ (F0 m 6 ls [])) (hl : lv_has ls 11 [(0, .ref (q 13)), (1, .int (i32 v1)), (2, .int (i32 v2)), (3, .int (i32 v3)), (4, .int (i32 v4)), (5, .int (i32 v5)), (6, .int (i32 v6)), (7, .int (i32 v7))]) (h : fX3_holds_80 c6 v1 v2 v3 v4 v5 v6 v7 σ = some r) : VC p l e rmX3_holds s m args below meth c D ac q (QIC D ac q xa xv below args s (r, σ)) σ (F0 m 80 ls []) := by
  have h : fX3_holds_81 c6 v1 v2 v3 v4 v5 v6 v7 0 σ = some r := h
  refine v_iconst C dX3_holds_80 ?_
  exact wX3_holds_81 C hr hc6 (lv_sub hl [0, 1, 2, 3, 4, 5, 6, 7] rfl) h
theorem wX3_holds_6 (C : CxC p rmX3_holds s m args meth c D ac q xa xv RX3 cX3_holds 11) (hr : meth.sig.returnType = (some .boolean)) {v1 : Int} {v2 : Int} {v3 : Int} {σ : Mm} {v4 : Int} {v5 : Int} {e6 : Int → Option (Int)} {c6 : Int → Int → Option (Int)} {r : Int} (he6 : ∀ (v4x : Int) (ls : Array Slot), lv_has ls 11 [(0, .ref (q 13)), (4, .int (i32 v4x))] → e6 v4x = some r → VC p l e rmX3_holds s m args below meth c D ac q (QIC D ac q xa xv below args s (r, σ)) σ (F0 m 171 ls [])) (hc6 : ∀ (v4x : Int) (v5x : Int) (ls : Array Slot), lv_has ls 11 [(0, .ref (q 13)), (1, .int (i32 v1)), (2, .int (i32 v2)), (3, .int (i32 v3)), (4, .int (i32 v4x)), (5, .int (i32 v5x))] → c6 v4x v5x = some r → VC p l e rmX3_holds s m args below meth c D ac q (QIC D ac q xa xv below args s (r, σ)) σ (F0 m 6 ls [])) (hl : lv_has ls 11 [(0, .ref (q 13)), (1, .int (i32 v1)), (2, .int (i32 v2)), (3, .int (i32 v3)), (4, .int (i32 v4)), (5, .int (i32 v5))]) (h : fX3_holds_6 v1 v2 v3 σ e6 c6 v4 v5 = some r) : VC p l e rmX3_holds s m args below meth c D ac q (QIC D ac q xa xv below args s (r, σ)) σ (F0 m 6 ls []) := by
  have h : chk v1 6 (cr v5 (cr (σ 15 (v1).toNat) ((if v5 < σ 15 (v1).toNat then chk v1 6 (chk v5 10 (bindv (σ (29 + (v1).toNat) (v5).toNat) (fun v6_4 => chk v1 6 (chk v1 6 (bd (fX7_following v5 (σ 15 (v1).toNat) σ) (fun x_6 => chk x_6 10 (bindv (σ (29 + (v1).toNat) (x_6).toNat) (fun v7_7 => chk v6_4 24 (cr (σ 97 (v6_4).toNat) (cr v3 ((if v3 < σ 97 (v6_4).toNat then fX3_holds_80 c6 v1 v2 v3 v4 v5 v6_4 v7_7 σ else chk v7_7 24 (cr (σ 97 (v7_7).toNat) (cr v3 ((if v3 < σ 97 (v7_7).toNat then fX3_holds_81 c6 v1 v2 v3 v4 v5 v6_4 v7_7 1 σ else fX3_holds_80 c6 v1 v2 v3 v4 v5 v6_4 v7_7 σ)))))))))))))))) else e6 v4)))) = some r := h
  refine v_iload C hl dX3_holds_6 5 rfl ?_
  refine v_aload_n C hl dX3_holds_8 rfl 0 rfl ?_
  refine g_X3_2 C kdC_13 fl_X3_16 dX3_holds_9 ?_
  refine v_iload_n C hl dX3_holds_12 rfl 1 rfl ?_
  refine alC14 C kdC_15 h dX3_holds_13 (fun h => ?_)
  have hz1 := (cr_e h).1
  have h := (cr_e h).2
  have hz2 := (cr_e h).1
  have h := (cr_e h).2
  refine v_icmp_ge C (tgt := 171) hz1 hz2 h dX3_holds_14 rfl (fun h => ?_) (fun h => ?_)
  · exact he6 _ _ (lv_sub hl [0, 4] rfl) h
  · refine v_aload_n C hl dX3_holds_17 rfl 0 rfl ?_
    refine g_X3_1 C kdC_13 fl_X3_11 dX3_holds_18 ?_
    refine v_iload_n C hl dX3_holds_21 rfl 1 rfl ?_
    have hi3 := (chk_e h).1
    refine arC13 C kdC_14 h dX3_holds_22 (fun h => ?_)
    refine v_iload C hl dX3_holds_23 5 rfl ?_
    refine alC16 C (keC13 kdC_14 hi3) h dX3_holds_25 (fun h => ?_)
    refine v_istore C hl (fun x => [(6, .int (i32 x)), (0, .ref (q 13)), (1, .int (i32 v1)), (2, .int (i32 v2)), (3, .int (i32 v3)), (4, .int (i32 v4)), (5, .int (i32 v5))]) dX3_holds_26 (by decide) (fun _ => rfl) h (fun v6_4 ls hl h => ?_)
    refine v_aload_n C hl dX3_holds_28 rfl 1 rfl ?_
    refine g_X3_1 C kdC_13 fl_X3_11 dX3_holds_29 ?_
    refine v_iload_n C hl dX3_holds_32 rfl 2 rfl ?_
    have hi5 := (chk_e h).1
    refine arC13 C kdC_14 h dX3_holds_33 (fun h => ?_)
    refine v_iload C hl dX3_holds_34 6 rfl ?_
    refine v_aload_n C hl dX3_holds_36 rfl 1 rfl ?_
    refine g_X3_2 C kdC_13 fl_X3_16 dX3_holds_37 ?_
    refine v_iload_n C hl dX3_holds_40 rfl 2 rfl ?_
    refine alC14 C kdC_15 h dX3_holds_41 (fun h => ?_)
    obtain ⟨x_6, hv6, h⟩ := bd_e h
    refine v_callSN C [.int (i32 v5), .int (i32 (σ 15 (v1).toNat))] (mX7_following C.2.2.2.2.1 hv6) cd_X7_following ic_X7 sm_X7_following (nw_X3_72 C) yk_X7_following ⟨rfl, rfl, by decide, by decide⟩ rfl hl.1 (rest := [.ref (q (29 + (v1).toNat))]) rfl (Nat.le_of_ble_eq_true rfl) dX3_holds_42 ?_
    refine alC16 C (keC13 kdC_14 hi5) h dX3_holds_45 (fun h => ?_)
    refine v_istore C hl (fun x => [(7, .int (i32 x)), (6, .int (i32 v6_4)), (0, .ref (q 13)), (1, .int (i32 v1)), (2, .int (i32 v2)), (3, .int (i32 v3)), (4, .int (i32 v4)), (5, .int (i32 v5))]) dX3_holds_46 (by decide) (fun _ => rfl) h (fun v7_7 ls hl h => ?_)
    refine v_aload_n C hl dX3_holds_48 rfl 2 rfl ?_
    refine g_X3_0 C kdC_13 fl_X3_27 dX3_holds_49 ?_
    refine g_X1_1 C kdC_95 fl_X3_91 dX3_holds_52 ?_
    refine v_iload C hl dX3_holds_55 1 rfl ?_
    refine alC8 C kdC_97 h dX3_holds_57 (fun h => ?_)
    refine v_iload_n C hl dX3_holds_58 rfl 5 rfl ?_
    have hz8 := (cr_e h).1
    have h := (cr_e h).2
    have hz9 := (cr_e h).1
    have h := (cr_e h).2
    refine v_icmp_gt C (tgt := 80) hz8 hz9 h dX3_holds_59 rfl (fun h => ?_) (fun h => ?_)
    · exact wX3_holds_80 C hr hc6 (lv_sub hl [2, 3, 4, 5, 6, 7, 1, 0] rfl) h
    · refine v_aload_n C hl dX3_holds_62 rfl 2 rfl ?_
      refine g_X3_0 C kdC_13 fl_X3_27 dX3_holds_63 ?_
      refine g_X1_1 C kdC_95 fl_X3_91 dX3_holds_66 ?_
      refine v_iload C hl dX3_holds_69 0 rfl ?_
      refine alC8 C kdC_97 h dX3_holds_71 (fun h => ?_)
      refine v_iload_n C hl dX3_holds_72 rfl 5 rfl ?_
      have hz10 := (cr_e h).1
      have h := (cr_e h).2
      have hz11 := (cr_e h).1
      have h := (cr_e h).2
      refine v_icmp_le C (tgt := 80) hz10 hz11 h dX3_holds_73 rfl (fun h => ?_) (fun h => ?_)
      · exact wX3_holds_80 C hr hc6 (lv_sub hl [2, 3, 4, 5, 6, 7, 1, 0] rfl) h
      · refine v_iconst C dX3_holds_76 ?_
        refine v_goto C (tgt := 81) dX3_holds_77 rfl ?_
        exact wX3_holds_81 C hr hc6 (lv_sub hl [2, 3, 4, 5, 6, 7, 1, 0] rfl) h
theorem wlX3_holds_6 (C : CxC p rmX3_holds s m args meth c D ac q xa xv RX3 cX3_holds 11) (hr : meth.sig.returnType = (some .boolean)) {v1 : Int} {v2 : Int} {v3 : Int} {σ : Mm} {e6 : Int → Option (Int)} {r : Int} (he6 : ∀ (v4x : Int) (ls : Array Slot), lv_has ls 11 [(0, .ref (q 13)), (4, .int (i32 v4x))] → e6 v4x = some r → VC p l e rmX3_holds s m args below meth c D ac q (QIC D ac q xa xv below args s (r, σ)) σ (F0 m 171 ls [])) : ∀ (fu : Nat) (v4 : Int) (v5 : Int) (ls : Array Slot) (hl : lv_has ls 11 [(0, .ref (q 13)), (1, .int (i32 v1)), (2, .int (i32 v2)), (3, .int (i32 v3)), (4, .int (i32 v4)), (5, .int (i32 v5))]) (h : lX3_holds_6 v1 v2 v3 σ e6 fu v4 v5 = some r), VC p l e rmX3_holds s m args below meth c D ac q (QIC D ac q xa xv below args s (r, σ)) σ (F0 m 6 ls []) := by
  intro fu
  induction fu with
  | zero =>
    intro v4 v5 ls hl h
    have h : none = some r := h
    cases h
  | succ fu ih =>
    intro v4 v5 ls hl h
    exact wX3_holds_6 C hr he6 (fun v4 v5 ls hl h => ih v4 v5 ls hl h) hl h
theorem mX3_holds (hq : QI 175 q) {v1 : Int} {v2 : Int} {v3 : Int} {σ : Mm} {r : Int} (h : fX3_holds v1 v2 v3 σ = some r) : MIC l D ac q xa xv yX3_holds cX3_holds 11 (some .boolean) rmX3_holds [.ref (q 13), .int (i32 v1), .int (i32 v2), .int (i32 v3)] σ (r, σ) := by
  refine MI.of hq XC_M (by decide) (Nat.le_of_ble_eq_true rfl) (fun p e s m below meth c ls C hr hl => ?_)
  have hl : lv_has ls 11 [(0, .ref (q 13)), (1, .int (i32 v1)), (2, .int (i32 v2)), (3, .int (i32 v3))] := hl
  have h : bindv 0 (fun v4_1 => bindv 0 (fun v5_2 => lX3_holds_6 v1 v2 v3 σ (fun v4_3 => fX3_holds_171 v4_3 σ) 400 v4_1 v5_2)) = some r := h
  refine v_iconst C dX3_holds_0 ?_
  refine v_istore C hl (fun x => [(4, .int (i32 x)), (0, .ref (q 13)), (1, .int (i32 v1)), (2, .int (i32 v2)), (3, .int (i32 v3))]) dX3_holds_1 (by decide) (fun _ => rfl) h (fun v4_1 ls hl h => ?_)
  refine v_iconst C dX3_holds_3 ?_
  refine v_istore C hl (fun x => [(5, .int (i32 x)), (4, .int (i32 v4_1)), (0, .ref (q 13)), (1, .int (i32 v1)), (2, .int (i32 v2)), (3, .int (i32 v3))]) dX3_holds_4 (by decide) (fun _ => rfl) h (fun v5_2 ls hl h => ?_)
  exact wlX3_holds_6 C hr (fun v4_3 ls hl h => wX3_holds_171 C hr (lv_sub hl [0, 1] rfl) h) _ _ _ _ (lv_sub hl [2, 3, 4, 5, 1, 0] rfl) h
end
section
variable {l : Launch} {D : va_G} {ac : Nat → ClassId} {q xa xv : Nat → Nat} {p : Program} {e : Env} {s : State} {m : MethodId} {args : Array Value} {below : List Frame} {meth : Method} {c : Code} {ls : Array Slot}
theorem dX3_isInLeastRing_0 : decode cX3_isInLeastRing 0 = .ok (.iconst 0, 1) := by decide +kernel
theorem dX3_isInLeastRing_1 : decode cX3_isInLeastRing 1 = .ok (.istore_n 2, 1) := by decide +kernel
theorem dX3_isInLeastRing_2 : decode cX3_isInLeastRing 2 = .ok (.iload_n 2, 1) := by decide +kernel
theorem dX3_isInLeastRing_3 : decode cX3_isInLeastRing 3 = .ok (.aload_n 0, 1) := by decide +kernel
theorem dX3_isInLeastRing_4 : decode cX3_isInLeastRing 4 = .ok (.getfield 27, 3) := by decide +kernel
theorem dX3_isInLeastRing_7 : decode cX3_isInLeastRing 7 = .ok (.getfield 31, 3) := by decide +kernel
theorem dX3_isInLeastRing_10 : decode cX3_isInLeastRing 10 = .ok (.if_icmp .ge 30, 3) := by decide +kernel
theorem dX3_isInLeastRing_13 : decode cX3_isInLeastRing 13 = .ok (.aload_n 0, 1) := by decide +kernel
theorem dX3_isInLeastRing_14 : decode cX3_isInLeastRing 14 = .ok (.getfield 16, 3) := by decide +kernel
theorem dX3_isInLeastRing_17 : decode cX3_isInLeastRing 17 = .ok (.iload_n 2, 1) := by decide +kernel
theorem dX3_isInLeastRing_18 : decode cX3_isInLeastRing 18 = .ok (.iaload, 1) := by decide +kernel
theorem dX3_isInLeastRing_19 : decode cX3_isInLeastRing 19 = .ok (.iconst 3, 1) := by decide +kernel
theorem dX3_isInLeastRing_20 : decode cX3_isInLeastRing 20 = .ok (.if_icmp .gt 14, 3) := by decide +kernel
theorem dX3_isInLeastRing_23 : decode cX3_isInLeastRing 23 = .ok (.aload_n 0, 1) := by decide +kernel
theorem dX3_isInLeastRing_24 : decode cX3_isInLeastRing 24 = .ok (.iload_n 2, 1) := by decide +kernel
theorem dX3_isInLeastRing_25 : decode cX3_isInLeastRing 25 = .ok (.iload_n 1, 1) := by decide +kernel
theorem dX3_isInLeastRing_26 : decode cX3_isInLeastRing 26 = .ok (.invokevirtual 56, 3) := by decide +kernel
theorem dX3_isInLeastRing_29 : decode cX3_isInLeastRing 29 = .ok (.ifCond .lt 5, 3) := by decide +kernel
theorem dX3_isInLeastRing_32 : decode cX3_isInLeastRing 32 = .ok (.iconst 1, 1) := by decide +kernel
theorem dX3_isInLeastRing_33 : decode cX3_isInLeastRing 33 = .ok (.ireturn, 1) := by decide +kernel
theorem dX3_isInLeastRing_34 : decode cX3_isInLeastRing 34 = .ok (.iinc 2 1, 3) := by decide +kernel
theorem dX3_isInLeastRing_37 : decode cX3_isInLeastRing 37 = .ok (.goto (-35), 3) := by decide +kernel
theorem dX3_isInLeastRing_40 : decode cX3_isInLeastRing 40 = .ok (.iconst 0, 1) := by decide +kernel
theorem dX3_isInLeastRing_41 : decode cX3_isInLeastRing 41 = .ok (.ireturn, 1) := by decide +kernel
theorem wX3_isInLeastRing_40 (C : CxC p rmX3_isInLeastRing s m args meth c D ac q xa xv RX3 cX3_isInLeastRing 3) (hr : meth.sig.returnType = (some .boolean)) {σ : Mm} {r : Int} (hl : lv_has ls 3 [(0, .ref (q 13))]) (h : fX3_isInLeastRing_40 σ = some r) : VC p l e rmX3_isInLeastRing s m args below meth c D ac q (QIC D ac q xa xv below args s (r, σ)) σ (F0 m 40 ls []) := by
  have h : some 0 = some r := h
  refine v_iconst C dX3_isInLeastRing_40 ?_
  exact v_zret C hr (Or.inl rfl) (so1 h) dX3_isInLeastRing_41
theorem wX3_isInLeastRing_34 (C : CxC p rmX3_isInLeastRing s m args meth c D ac q xa xv RX3 cX3_isInLeastRing 3) (hr : meth.sig.returnType = (some .boolean)) {v1 : Int} {v2 : Int} {c2 : Int → Option (Int)} {σ : Mm} {r : Int} (hc2 : ∀ (v2x : Int) (ls : Array Slot), lv_has ls 3 [(0, .ref (q 13)), (1, .int (i32 v1)), (2, .int (i32 v2x))] → c2 v2x = some r → VC p l e rmX3_isInLeastRing s m args below meth c D ac q (QIC D ac q xa xv below args s (r, σ)) σ (F0 m 2 ls [])) (hl : lv_has ls 3 [(0, .ref (q 13)), (1, .int (i32 v1)), (2, .int (i32 v2))]) (h : fX3_isInLeastRing_34 c2 v1 v2 σ = some r) : VC p l e rmX3_isInLeastRing s m args below meth c D ac q (QIC D ac q xa xv below args s (r, σ)) σ (F0 m 34 ls []) := by
  have h : bindv (v2 + 1) (fun v2_1 => c2 v2_1) = some r := h
  refine v_iinc C hl (fun x => [(2, .int (i32 x)), (0, .ref (q 13)), (1, .int (i32 v1))]) dX3_isInLeastRing_34 2 rfl (by decide) (fun _ => rfl) h (fun v2_1 ls hl h => ?_)
  refine v_goto C (tgt := 2) dX3_isInLeastRing_37 rfl ?_
  exact hc2 _ _ (lv_sub hl [1, 2, 0] rfl) h
theorem wX3_isInLeastRing_2 (C : CxC p rmX3_isInLeastRing s m args meth c D ac q xa xv RX3 cX3_isInLeastRing 3) (hr : meth.sig.returnType = (some .boolean)) {v1 : Int} {σ : Mm} {v2 : Int} {e2 : Option (Int)} {c2 : Int → Option (Int)} {r : Int} (he2 : ∀ (ls : Array Slot), lv_has ls 3 [(0, .ref (q 13))] → e2 = some r → VC p l e rmX3_isInLeastRing s m args below meth c D ac q (QIC D ac q xa xv below args s (r, σ)) σ (F0 m 40 ls [])) (hc2 : ∀ (v2x : Int) (ls : Array Slot), lv_has ls 3 [(0, .ref (q 13)), (1, .int (i32 v1)), (2, .int (i32 v2x))] → c2 v2x = some r → VC p l e rmX3_isInLeastRing s m args below meth c D ac q (QIC D ac q xa xv below args s (r, σ)) σ (F0 m 2 ls [])) (hl : lv_has ls 3 [(0, .ref (q 13)), (1, .int (i32 v1)), (2, .int (i32 v2))]) (h : fX3_isInLeastRing_2 v1 σ e2 c2 v2 = some r) : VC p l e rmX3_isInLeastRing s m args below meth c D ac q (QIC D ac q xa xv below args s (r, σ)) σ (F0 m 2 ls []) := by
  have h : cr v2 (cr (σ 95 10) ((if v2 < σ 95 10 then chk v2 6 (cr (σ 15 (v2).toNat) ((if 3 < σ 15 (v2).toNat then fX3_isInLeastRing_34 c2 v1 v2 σ else bd (fX3_indexIn v2 v1 σ) (fun x_4 => cr x_4 ((if x_4 < 0 then fX3_isInLeastRing_34 c2 v1 v2 σ else some 1)))))) else e2))) = some r := h
  refine v_iload_n C hl dX3_isInLeastRing_2 rfl 2 rfl ?_
  refine v_aload_n C hl dX3_isInLeastRing_3 rfl 0 rfl ?_
  refine g_X3_0 C kdC_13 fl_X3_27 dX3_isInLeastRing_4 ?_
  refine g_X1_10 C kdC_95 fl_X3_31 dX3_isInLeastRing_7 ?_
  have hz1 := (cr_e h).1
  have h := (cr_e h).2
  have hz2 := (cr_e h).1
  have h := (cr_e h).2
  refine v_icmp_ge C (tgt := 40) hz1 hz2 h dX3_isInLeastRing_10 rfl (fun h => ?_) (fun h => ?_)
  · exact he2  _ (lv_sub hl [0] rfl) h
  · refine v_aload_n C hl dX3_isInLeastRing_13 rfl 0 rfl ?_
    refine g_X3_2 C kdC_13 fl_X3_16 dX3_isInLeastRing_14 ?_
    refine v_iload_n C hl dX3_isInLeastRing_17 rfl 2 rfl ?_
    refine alC14 C kdC_15 h dX3_isInLeastRing_18 (fun h => ?_)
    refine v_iconst C dX3_isInLeastRing_19 ?_
    have hz3 := (cr_e h).1
    have h := (cr_e h).2
    refine v_icmp_gt C (tgt := 34) hz3 (by decide) h dX3_isInLeastRing_20 rfl (fun h => ?_) (fun h => ?_)
    · exact wX3_isInLeastRing_34 C hr hc2 (lv_sub hl [0, 1, 2] rfl) h
    · refine v_aload_n C hl dX3_isInLeastRing_23 rfl 0 rfl ?_
      refine v_iload_n C hl dX3_isInLeastRing_24 rfl 2 rfl ?_
      refine v_iload_n C hl dX3_isInLeastRing_25 rfl 1 rfl ?_
      obtain ⟨x_4, hv4, h⟩ := bd_e h
      refine v_callVI C 13 (klC kdC_13) rfl (ckC12 kdC_13 _) rfl [.int (i32 v2), .int (i32 v1)] (mX3_indexIn C.2.2.2.2.1 hv4) cd_X3_indexIn ic_X3 im_X3_indexIn se_X3_indexIn ml_X3_56 yk_X3_indexIn ⟨rfl, rfl, by decide, by decide⟩ rfl hl.1 (rest := []) rfl (Nat.le_of_ble_eq_true rfl) dX3_isInLeastRing_26 ?_
      have hz5 := (cr_e h).1
      have h := (cr_e h).2
      refine v_if_lt C (tgt := 34) hz5 h dX3_isInLeastRing_29 rfl (fun h => ?_) (fun h => ?_)
      · exact wX3_isInLeastRing_34 C hr hc2 (lv_sub hl [0, 1, 2] rfl) h
      · refine v_iconst C dX3_isInLeastRing_32 ?_
        exact v_zret C hr (Or.inr rfl) (so1 h) dX3_isInLeastRing_33
theorem wlX3_isInLeastRing_2 (C : CxC p rmX3_isInLeastRing s m args meth c D ac q xa xv RX3 cX3_isInLeastRing 3) (hr : meth.sig.returnType = (some .boolean)) {v1 : Int} {σ : Mm} {e2 : Option (Int)} {r : Int} (he2 : ∀ (ls : Array Slot), lv_has ls 3 [(0, .ref (q 13))] → e2 = some r → VC p l e rmX3_isInLeastRing s m args below meth c D ac q (QIC D ac q xa xv below args s (r, σ)) σ (F0 m 40 ls [])) : ∀ (fu : Nat) (v2 : Int) (ls : Array Slot) (hl : lv_has ls 3 [(0, .ref (q 13)), (1, .int (i32 v1)), (2, .int (i32 v2))]) (h : lX3_isInLeastRing_2 v1 σ e2 fu v2 = some r), VC p l e rmX3_isInLeastRing s m args below meth c D ac q (QIC D ac q xa xv below args s (r, σ)) σ (F0 m 2 ls []) := by
  intro fu
  induction fu with
  | zero =>
    intro v2 ls hl h
    have h : none = some r := h
    cases h
  | succ fu ih =>
    intro v2 ls hl h
    exact wX3_isInLeastRing_2 C hr he2 (fun v2 ls hl h => ih v2 ls hl h) hl h
theorem mX3_isInLeastRing (hq : QI 175 q) {v1 : Int} {σ : Mm} {r : Int} (h : fX3_isInLeastRing v1 σ = some r) : MIC l D ac q xa xv yX3_isInLeastRing cX3_isInLeastRing 3 (some .boolean) rmX3_isInLeastRing [.ref (q 13), .int (i32 v1)] σ (r, σ) := by
  refine MI.of hq XC_M (by decide) (Nat.le_of_ble_eq_true rfl) (fun p e s m below meth c ls C hr hl => ?_)
  have hl : lv_has ls 3 [(0, .ref (q 13)), (1, .int (i32 v1))] := hl
  have h : bindv 0 (fun v2_1 => lX3_isInLeastRing_2 v1 σ (fX3_isInLeastRing_40 σ) 400 v2_1) = some r := h
  refine v_iconst C dX3_isInLeastRing_0 ?_
  refine v_istore_n C hl (fun x => [(2, .int (i32 x)), (0, .ref (q 13)), (1, .int (i32 v1))]) dX3_isInLeastRing_1 rfl (by decide) (fun _ => rfl) h (fun v2_1 ls hl h => ?_)
  exact wlX3_isInLeastRing_2 C hr (fun ls hl h => wX3_isInLeastRing_40 C hr (lv_sub hl [0] rfl) h) _ _ _ (lv_sub hl [1, 2, 0] rfl) h
end
section
variable {l : Launch} {D : va_G} {ac : Nat → ClassId} {q xa xv : Nat → Nat} {p : Program} {e : Env} {s : State} {m : MethodId} {args : Array Value} {below : List Frame} {meth : Method} {c : Code} {ls : Array Slot}
theorem dX3_isOnBorder_0 : decode cX3_isOnBorder 0 = .ok (.iconst 0, 1) := by decide +kernel
theorem dX3_isOnBorder_1 : decode cX3_isOnBorder 1 = .ok (.istore 4, 2) := by decide +kernel
theorem dX3_isOnBorder_3 : decode cX3_isOnBorder 3 = .ok (.iload 4, 2) := by decide +kernel
theorem dX3_isOnBorder_5 : decode cX3_isOnBorder 5 = .ok (.aload_n 0, 1) := by decide +kernel
theorem dX3_isOnBorder_6 : decode cX3_isOnBorder 6 = .ok (.getfield 16, 3) := by decide +kernel
theorem dX3_isOnBorder_9 : decode cX3_isOnBorder 9 = .ok (.iload_n 1, 1) := by decide +kernel
theorem dX3_isOnBorder_10 : decode cX3_isOnBorder 10 = .ok (.iaload, 1) := by decide +kernel
theorem dX3_isOnBorder_11 : decode cX3_isOnBorder 11 = .ok (.if_icmp .ge 50, 3) := by decide +kernel
theorem dX3_isOnBorder_14 : decode cX3_isOnBorder 14 = .ok (.aload_n 0, 1) := by decide +kernel
theorem dX3_isOnBorder_15 : decode cX3_isOnBorder 15 = .ok (.getfield 27, 3) := by decide +kernel
theorem dX3_isOnBorder_18 : decode cX3_isOnBorder 18 = .ok (.aload_n 0, 1) := by decide +kernel
theorem dX3_isOnBorder_19 : decode cX3_isOnBorder 19 = .ok (.getfield 11, 3) := by decide +kernel
theorem dX3_isOnBorder_22 : decode cX3_isOnBorder 22 = .ok (.iload_n 1, 1) := by decide +kernel
theorem dX3_isOnBorder_23 : decode cX3_isOnBorder 23 = .ok (.aaload, 1) := by decide +kernel
theorem dX3_isOnBorder_24 : decode cX3_isOnBorder 24 = .ok (.iload 4, 2) := by decide +kernel
theorem dX3_isOnBorder_26 : decode cX3_isOnBorder 26 = .ok (.iaload, 1) := by decide +kernel
theorem dX3_isOnBorder_27 : decode cX3_isOnBorder 27 = .ok (.aload_n 0, 1) := by decide +kernel
theorem dX3_isOnBorder_28 : decode cX3_isOnBorder 28 = .ok (.getfield 11, 3) := by decide +kernel
theorem dX3_isOnBorder_31 : decode cX3_isOnBorder 31 = .ok (.iload_n 1, 1) := by decide +kernel
theorem dX3_isOnBorder_32 : decode cX3_isOnBorder 32 = .ok (.aaload, 1) := by decide +kernel
theorem dX3_isOnBorder_33 : decode cX3_isOnBorder 33 = .ok (.iload 4, 2) := by decide +kernel
theorem dX3_isOnBorder_35 : decode cX3_isOnBorder 35 = .ok (.aload_n 0, 1) := by decide +kernel
theorem dX3_isOnBorder_36 : decode cX3_isOnBorder 36 = .ok (.getfield 16, 3) := by decide +kernel
theorem dX3_isOnBorder_39 : decode cX3_isOnBorder 39 = .ok (.iload_n 1, 1) := by decide +kernel
theorem dX3_isOnBorder_40 : decode cX3_isOnBorder 40 = .ok (.iaload, 1) := by decide +kernel
theorem dX3_isOnBorder_41 : decode cX3_isOnBorder 41 = .ok (.invokestatic 72, 3) := by decide +kernel
theorem dX3_isOnBorder_44 : decode cX3_isOnBorder 44 = .ok (.iaload, 1) := by decide +kernel
theorem dX3_isOnBorder_45 : decode cX3_isOnBorder 45 = .ok (.iload_n 2, 1) := by decide +kernel
theorem dX3_isOnBorder_46 : decode cX3_isOnBorder 46 = .ok (.iload_n 3, 1) := by decide +kernel
theorem dX3_isOnBorder_47 : decode cX3_isOnBorder 47 = .ok (.invokevirtual 129, 3) := by decide +kernel
theorem dX3_isOnBorder_50 : decode cX3_isOnBorder 50 = .ok (.ifCond .eq 5, 3) := by decide +kernel
theorem dX3_isOnBorder_53 : decode cX3_isOnBorder 53 = .ok (.iconst 1, 1) := by decide +kernel
theorem dX3_isOnBorder_54 : decode cX3_isOnBorder 54 = .ok (.ireturn, 1) := by decide +kernel
theorem dX3_isOnBorder_55 : decode cX3_isOnBorder 55 = .ok (.iinc 4 1, 3) := by decide +kernel
theorem dX3_isOnBorder_58 : decode cX3_isOnBorder 58 = .ok (.goto (-55), 3) := by decide +kernel
theorem dX3_isOnBorder_61 : decode cX3_isOnBorder 61 = .ok (.iconst 0, 1) := by decide +kernel
theorem dX3_isOnBorder_62 : decode cX3_isOnBorder 62 = .ok (.ireturn, 1) := by decide +kernel
theorem wX3_isOnBorder_61 (C : CxC p rmX3_isOnBorder s m args meth c D ac q xa xv RX3 cX3_isOnBorder 5) (hr : meth.sig.returnType = (some .boolean)) {σ : Mm} {r : Int} (hl : lv_has ls 5 [(0, .ref (q 13))]) (h : fX3_isOnBorder_61 σ = some r) : VC p l e rmX3_isOnBorder s m args below meth c D ac q (QIC D ac q xa xv below args s (r, σ)) σ (F0 m 61 ls []) := by
  have h : some 0 = some r := h
  refine v_iconst C dX3_isOnBorder_61 ?_
  exact v_zret C hr (Or.inl rfl) (so1 h) dX3_isOnBorder_62
theorem wX3_isOnBorder_3 (C : CxC p rmX3_isOnBorder s m args meth c D ac q xa xv RX3 cX3_isOnBorder 5) (hr : meth.sig.returnType = (some .boolean)) {v1 : Int} {v2 : Int} {v3 : Int} {σ : Mm} {v4 : Int} {e3 : Option (Int)} {c3 : Int → Option (Int)} {r : Int} (he3 : ∀ (ls : Array Slot), lv_has ls 5 [(0, .ref (q 13))] → e3 = some r → VC p l e rmX3_isOnBorder s m args below meth c D ac q (QIC D ac q xa xv below args s (r, σ)) σ (F0 m 61 ls [])) (hc3 : ∀ (v4x : Int) (ls : Array Slot), lv_has ls 5 [(0, .ref (q 13)), (1, .int (i32 v1)), (2, .int (i32 v2)), (3, .int (i32 v3)), (4, .int (i32 v4x))] → c3 v4x = some r → VC p l e rmX3_isOnBorder s m args below meth c D ac q (QIC D ac q xa xv below args s (r, σ)) σ (F0 m 3 ls [])) (hl : lv_has ls 5 [(0, .ref (q 13)), (1, .int (i32 v1)), (2, .int (i32 v2)), (3, .int (i32 v3)), (4, .int (i32 v4))]) (h : fX3_isOnBorder_3 v1 v2 v3 σ e3 c3 v4 = some r) : VC p l e rmX3_isOnBorder s m args below meth c D ac q (QIC D ac q xa xv below args s (r, σ)) σ (F0 m 3 ls []) := by
  have h : chk v1 6 (cr v4 (cr (σ 15 (v1).toNat) ((if v4 < σ 15 (v1).toNat then chk v1 6 (chk v4 10 (chk v1 6 (chk v1 6 (bd (fX7_following v4 (σ 15 (v1).toNat) σ) (fun x_5 => chk x_5 10 (bd (fX1_isOn 95 (σ (29 + (v1).toNat) (v4).toNat) (σ (29 + (v1).toNat) (x_5).toNat) v2 v3 σ) (fun x_6 => cr x_6 ((if x_6 = 0 then bindv (v4 + 1) (fun v4_8 => c3 v4_8) else some 1))))))))) else e3)))) = some r := h
  refine v_iload C hl dX3_isOnBorder_3 4 rfl ?_
  refine v_aload_n C hl dX3_isOnBorder_5 rfl 0 rfl ?_
  refine g_X3_2 C kdC_13 fl_X3_16 dX3_isOnBorder_6 ?_
  refine v_iload_n C hl dX3_isOnBorder_9 rfl 1 rfl ?_
  refine alC14 C kdC_15 h dX3_isOnBorder_10 (fun h => ?_)
  have hz1 := (cr_e h).1
  have h := (cr_e h).2
  have hz2 := (cr_e h).1
  have h := (cr_e h).2
  refine v_icmp_ge C (tgt := 61) hz1 hz2 h dX3_isOnBorder_11 rfl (fun h => ?_) (fun h => ?_)
  · exact he3  _ (lv_sub hl [0] rfl) h
  · refine v_aload_n C hl dX3_isOnBorder_14 rfl 0 rfl ?_
    refine g_X3_0 C kdC_13 fl_X3_27 dX3_isOnBorder_15 ?_
    refine v_aload_n C hl dX3_isOnBorder_18 rfl 0 rfl ?_
    refine g_X3_1 C kdC_13 fl_X3_11 dX3_isOnBorder_19 ?_
    refine v_iload_n C hl dX3_isOnBorder_22 rfl 1 rfl ?_
    have hi3 := (chk_e h).1
    refine arC13 C kdC_14 h dX3_isOnBorder_23 (fun h => ?_)
    refine v_iload C hl dX3_isOnBorder_24 4 rfl ?_
    refine alC16 C (keC13 kdC_14 hi3) h dX3_isOnBorder_26 (fun h => ?_)
    refine v_aload_n C hl dX3_isOnBorder_27 rfl 0 rfl ?_
    refine g_X3_1 C kdC_13 fl_X3_11 dX3_isOnBorder_28 ?_
    refine v_iload_n C hl dX3_isOnBorder_31 rfl 1 rfl ?_
    have hi4 := (chk_e h).1
    refine arC13 C kdC_14 h dX3_isOnBorder_32 (fun h => ?_)
    refine v_iload C hl dX3_isOnBorder_33 4 rfl ?_
    refine v_aload_n C hl dX3_isOnBorder_35 rfl 0 rfl ?_
    refine g_X3_2 C kdC_13 fl_X3_16 dX3_isOnBorder_36 ?_
    refine v_iload_n C hl dX3_isOnBorder_39 rfl 1 rfl ?_
    refine alC14 C kdC_15 h dX3_isOnBorder_40 (fun h => ?_)
    obtain ⟨x_5, hv5, h⟩ := bd_e h
    refine v_callSN C [.int (i32 v4), .int (i32 (σ 15 (v1).toNat))] (mX7_following C.2.2.2.2.1 hv5) cd_X7_following ic_X7 sm_X7_following (nw_X3_72 C) yk_X7_following ⟨rfl, rfl, by decide, by decide⟩ rfl hl.1 (rest := [.ref (q (29 + (v1).toNat)), .int (i32 (σ (29 + (v1).toNat) (v4).toNat)), .ref (q 95)]) rfl (Nat.le_of_ble_eq_true rfl) dX3_isOnBorder_41 ?_
    refine alC16 C (keC13 kdC_14 hi4) h dX3_isOnBorder_44 (fun h => ?_)
    refine v_iload_n C hl dX3_isOnBorder_45 rfl 2 rfl ?_
    refine v_iload_n C hl dX3_isOnBorder_46 rfl 3 rfl ?_
    obtain ⟨x_6, hv6, h⟩ := bd_e h
    refine v_callVI C 95 (klC kdC_95) rfl (ckC23 kdC_95 _) rfl [.int (i32 (σ (29 + (v1).toNat) (v4).toNat)), .int (i32 (σ (29 + (v1).toNat) (x_5).toNat)), .int (i32 v2), .int (i32 v3)] (mX1_isOn C.2.2.2.2.1 kdC_95 hv6) cd_X1_isOn ic_X1 im_X1_isOn se_X1_isOn ml_X3_129 yk_X1_isOn ⟨rfl, rfl, by decide, by decide⟩ rfl hl.1 (rest := []) rfl (Nat.le_of_ble_eq_true rfl) dX3_isOnBorder_47 ?_
    have hz7 := (cr_e h).1
    have h := (cr_e h).2
    refine v_if_eq C (tgt := 55) hz7 h dX3_isOnBorder_50 rfl (fun h => ?_) (fun h => ?_)
    · refine v_iinc C hl (fun x => [(4, .int (i32 x)), (0, .ref (q 13)), (1, .int (i32 v1)), (2, .int (i32 v2)), (3, .int (i32 v3))]) dX3_isOnBorder_55 4 rfl (by decide) (fun _ => rfl) h (fun v4_8 ls hl h => ?_)
      refine v_goto C (tgt := 3) dX3_isOnBorder_58 rfl ?_
      exact hc3 _ _ (lv_sub hl [1, 2, 3, 4, 0] rfl) h
    · refine v_iconst C dX3_isOnBorder_53 ?_
      exact v_zret C hr (Or.inr rfl) (so1 h) dX3_isOnBorder_54
theorem wlX3_isOnBorder_3 (C : CxC p rmX3_isOnBorder s m args meth c D ac q xa xv RX3 cX3_isOnBorder 5) (hr : meth.sig.returnType = (some .boolean)) {v1 : Int} {v2 : Int} {v3 : Int} {σ : Mm} {e3 : Option (Int)} {r : Int} (he3 : ∀ (ls : Array Slot), lv_has ls 5 [(0, .ref (q 13))] → e3 = some r → VC p l e rmX3_isOnBorder s m args below meth c D ac q (QIC D ac q xa xv below args s (r, σ)) σ (F0 m 61 ls [])) : ∀ (fu : Nat) (v4 : Int) (ls : Array Slot) (hl : lv_has ls 5 [(0, .ref (q 13)), (1, .int (i32 v1)), (2, .int (i32 v2)), (3, .int (i32 v3)), (4, .int (i32 v4))]) (h : lX3_isOnBorder_3 v1 v2 v3 σ e3 fu v4 = some r), VC p l e rmX3_isOnBorder s m args below meth c D ac q (QIC D ac q xa xv below args s (r, σ)) σ (F0 m 3 ls []) := by
  intro fu
  induction fu with
  | zero =>
    intro v4 ls hl h
    have h : none = some r := h
    cases h
  | succ fu ih =>
    intro v4 ls hl h
    exact wX3_isOnBorder_3 C hr he3 (fun v4 ls hl h => ih v4 ls hl h) hl h
theorem mX3_isOnBorder (hq : QI 175 q) {v1 : Int} {v2 : Int} {v3 : Int} {σ : Mm} {r : Int} (h : fX3_isOnBorder v1 v2 v3 σ = some r) : MIC l D ac q xa xv yX3_isOnBorder cX3_isOnBorder 5 (some .boolean) rmX3_isOnBorder [.ref (q 13), .int (i32 v1), .int (i32 v2), .int (i32 v3)] σ (r, σ) := by
  refine MI.of hq XC_M (by decide) (Nat.le_of_ble_eq_true rfl) (fun p e s m below meth c ls C hr hl => ?_)
  have hl : lv_has ls 5 [(0, .ref (q 13)), (1, .int (i32 v1)), (2, .int (i32 v2)), (3, .int (i32 v3))] := hl
  have h : bindv 0 (fun v4_1 => lX3_isOnBorder_3 v1 v2 v3 σ (fX3_isOnBorder_61 σ) 400 v4_1) = some r := h
  refine v_iconst C dX3_isOnBorder_0 ?_
  refine v_istore C hl (fun x => [(4, .int (i32 x)), (0, .ref (q 13)), (1, .int (i32 v1)), (2, .int (i32 v2)), (3, .int (i32 v3))]) dX3_isOnBorder_1 (by decide) (fun _ => rfl) h (fun v4_1 ls hl h => ?_)
  exact wlX3_isOnBorder_3 C hr (fun ls hl h => wX3_isOnBorder_61 C hr (lv_sub hl [0] rfl) h) _ _ _ (lv_sub hl [1, 2, 3, 4, 0] rfl) h
end
section
variable {l : Launch} {D : va_G} {ac : Nat → ClassId} {q xa xv : Nat → Nat} {p : Program} {e : Env} {s : State} {m : MethodId} {args : Array Value} {below : List Frame} {meth : Method} {c : Code} {ls : Array Slot}
theorem dX3_shareEdge_0 : decode cX3_shareEdge 0 = .ok (.iconst 0, 1) := by decide +kernel
theorem dX3_shareEdge_1 : decode cX3_shareEdge 1 = .ok (.istore_n 3, 1) := by decide +kernel
theorem dX3_shareEdge_2 : decode cX3_shareEdge 2 = .ok (.iload_n 3, 1) := by decide +kernel
theorem dX3_shareEdge_3 : decode cX3_shareEdge 3 = .ok (.aload_n 0, 1) := by decide +kernel
theorem dX3_shareEdge_4 : decode cX3_shareEdge 4 = .ok (.getfield 16, 3) := by decide +kernel
theorem dX3_shareEdge_7 : decode cX3_shareEdge 7 = .ok (.iload_n 1, 1) := by decide +kernel
theorem dX3_shareEdge_8 : decode cX3_shareEdge 8 = .ok (.iaload, 1) := by decide +kernel
theorem dX3_shareEdge_9 : decode cX3_shareEdge 9 = .ok (.if_icmp .ge 58, 3) := by decide +kernel
theorem dX3_shareEdge_12 : decode cX3_shareEdge 12 = .ok (.aload_n 0, 1) := by decide +kernel
theorem dX3_shareEdge_13 : decode cX3_shareEdge 13 = .ok (.getfield 11, 3) := by decide +kernel
theorem dX3_shareEdge_16 : decode cX3_shareEdge 16 = .ok (.iload_n 1, 1) := by decide +kernel
theorem dX3_shareEdge_17 : decode cX3_shareEdge 17 = .ok (.aaload, 1) := by decide +kernel
theorem dX3_shareEdge_18 : decode cX3_shareEdge 18 = .ok (.iload_n 3, 1) := by decide +kernel
theorem dX3_shareEdge_19 : decode cX3_shareEdge 19 = .ok (.aload_n 0, 1) := by decide +kernel
theorem dX3_shareEdge_20 : decode cX3_shareEdge 20 = .ok (.getfield 16, 3) := by decide +kernel
theorem dX3_shareEdge_23 : decode cX3_shareEdge 23 = .ok (.iload_n 1, 1) := by decide +kernel
theorem dX3_shareEdge_24 : decode cX3_shareEdge 24 = .ok (.iaload, 1) := by decide +kernel
theorem dX3_shareEdge_25 : decode cX3_shareEdge 25 = .ok (.invokestatic 72, 3) := by decide +kernel
theorem dX3_shareEdge_28 : decode cX3_shareEdge 28 = .ok (.iaload, 1) := by decide +kernel
theorem dX3_shareEdge_29 : decode cX3_shareEdge 29 = .ok (.istore 4, 2) := by decide +kernel
theorem dX3_shareEdge_31 : decode cX3_shareEdge 31 = .ok (.aload_n 0, 1) := by decide +kernel
theorem dX3_shareEdge_32 : decode cX3_shareEdge 32 = .ok (.getfield 11, 3) := by decide +kernel
theorem dX3_shareEdge_35 : decode cX3_shareEdge 35 = .ok (.iload_n 2, 1) := by decide +kernel
theorem dX3_shareEdge_36 : decode cX3_shareEdge 36 = .ok (.aaload, 1) := by decide +kernel
theorem dX3_shareEdge_37 : decode cX3_shareEdge 37 = .ok (.aload_n 0, 1) := by decide +kernel
theorem dX3_shareEdge_38 : decode cX3_shareEdge 38 = .ok (.getfield 16, 3) := by decide +kernel
theorem dX3_shareEdge_41 : decode cX3_shareEdge 41 = .ok (.iload_n 2, 1) := by decide +kernel
theorem dX3_shareEdge_42 : decode cX3_shareEdge 42 = .ok (.iaload, 1) := by decide +kernel
theorem dX3_shareEdge_43 : decode cX3_shareEdge 43 = .ok (.aload_n 0, 1) := by decide +kernel
theorem dX3_shareEdge_44 : decode cX3_shareEdge 44 = .ok (.getfield 11, 3) := by decide +kernel
theorem dX3_shareEdge_47 : decode cX3_shareEdge 47 = .ok (.iload_n 1, 1) := by decide +kernel
theorem dX3_shareEdge_48 : decode cX3_shareEdge 48 = .ok (.aaload, 1) := by decide +kernel
theorem dX3_shareEdge_49 : decode cX3_shareEdge 49 = .ok (.iload_n 3, 1) := by decide +kernel
theorem dX3_shareEdge_50 : decode cX3_shareEdge 50 = .ok (.iaload, 1) := by decide +kernel
theorem dX3_shareEdge_51 : decode cX3_shareEdge 51 = .ok (.iload 4, 2) := by decide +kernel
theorem dX3_shareEdge_53 : decode cX3_shareEdge 53 = .ok (.invokestatic 64, 3) := by decide +kernel
theorem dX3_shareEdge_56 : decode cX3_shareEdge 56 = .ok (.ifCond .eq 5, 3) := by decide +kernel
theorem dX3_shareEdge_59 : decode cX3_shareEdge 59 = .ok (.iconst 1, 1) := by decide +kernel
theorem dX3_shareEdge_60 : decode cX3_shareEdge 60 = .ok (.ireturn, 1) := by decide +kernel
theorem dX3_shareEdge_61 : decode cX3_shareEdge 61 = .ok (.iinc 3 1, 3) := by decide +kernel
theorem dX3_shareEdge_64 : decode cX3_shareEdge 64 = .ok (.goto (-62), 3) := by decide +kernel
theorem dX3_shareEdge_67 : decode cX3_shareEdge 67 = .ok (.iconst 0, 1) := by decide +kernel
theorem dX3_shareEdge_68 : decode cX3_shareEdge 68 = .ok (.ireturn, 1) := by decide +kernel
theorem wX3_shareEdge_67 (C : CxC p rmX3_shareEdge s m args meth c D ac q xa xv RX3 cX3_shareEdge 5) (hr : meth.sig.returnType = (some .boolean)) {σ : Mm} {r : Int} (hl : lv_has ls 5 [(0, .ref (q 13))]) (h : fX3_shareEdge_67 σ = some r) : VC p l e rmX3_shareEdge s m args below meth c D ac q (QIC D ac q xa xv below args s (r, σ)) σ (F0 m 67 ls []) := by
  have h : some 0 = some r := h
  refine v_iconst C dX3_shareEdge_67 ?_
  exact v_zret C hr (Or.inl rfl) (so1 h) dX3_shareEdge_68
theorem wX3_shareEdge_2 (C : CxC p rmX3_shareEdge s m args meth c D ac q xa xv RX3 cX3_shareEdge 5) (hr : meth.sig.returnType = (some .boolean)) {v1 : Int} {v2 : Int} {σ : Mm} {v3 : Int} {e2 : Option (Int)} {c2 : Int → Option (Int)} {r : Int} (he2 : ∀ (ls : Array Slot), lv_has ls 5 [(0, .ref (q 13))] → e2 = some r → VC p l e rmX3_shareEdge s m args below meth c D ac q (QIC D ac q xa xv below args s (r, σ)) σ (F0 m 67 ls [])) (hc2 : ∀ (v3x : Int) (ls : Array Slot), lv_has ls 5 [(0, .ref (q 13)), (1, .int (i32 v1)), (2, .int (i32 v2)), (3, .int (i32 v3x))] → c2 v3x = some r → VC p l e rmX3_shareEdge s m args below meth c D ac q (QIC D ac q xa xv below args s (r, σ)) σ (F0 m 2 ls [])) (hl : lv_has ls 5 [(0, .ref (q 13)), (1, .int (i32 v1)), (2, .int (i32 v2)), (3, .int (i32 v3))]) (h : fX3_shareEdge_2 v1 v2 σ e2 c2 v3 = some r) : VC p l e rmX3_shareEdge s m args below meth c D ac q (QIC D ac q xa xv below args s (r, σ)) σ (F0 m 2 ls []) := by
  have h : chk v1 6 (cr v3 (cr (σ 15 (v1).toNat) ((if v3 < σ 15 (v1).toNat then chk v1 6 (chk v1 6 (bd (fX7_following v3 (σ 15 (v1).toNat) σ) (fun x_4 => chk x_4 10 (bindv (σ (29 + (v1).toNat) (x_4).toNat) (fun v4_5 => chk v2 6 (chk v2 6 (chk v1 6 (chk v3 10 (bd (fX7_areNext (29 + (v2).toNat) (σ 15 (v2).toNat) (σ (29 + (v1).toNat) (v3).toNat) v4_5 σ) (fun x_8 => cr x_8 ((if x_8 = 0 then bindv (v3 + 1) (fun v3_10 => c2 v3_10) else some 1)))))))))))) else e2)))) = some r := h
  refine v_iload_n C hl dX3_shareEdge_2 rfl 3 rfl ?_
  refine v_aload_n C hl dX3_shareEdge_3 rfl 0 rfl ?_
  refine g_X3_2 C kdC_13 fl_X3_16 dX3_shareEdge_4 ?_
  refine v_iload_n C hl dX3_shareEdge_7 rfl 1 rfl ?_
  refine alC14 C kdC_15 h dX3_shareEdge_8 (fun h => ?_)
  have hz1 := (cr_e h).1
  have h := (cr_e h).2
  have hz2 := (cr_e h).1
  have h := (cr_e h).2
  refine v_icmp_ge C (tgt := 67) hz1 hz2 h dX3_shareEdge_9 rfl (fun h => ?_) (fun h => ?_)
  · exact he2  _ (lv_sub hl [0] rfl) h
  · refine v_aload_n C hl dX3_shareEdge_12 rfl 0 rfl ?_
    refine g_X3_1 C kdC_13 fl_X3_11 dX3_shareEdge_13 ?_
    refine v_iload_n C hl dX3_shareEdge_16 rfl 1 rfl ?_
    have hi3 := (chk_e h).1
    refine arC13 C kdC_14 h dX3_shareEdge_17 (fun h => ?_)
    refine v_iload_n C hl dX3_shareEdge_18 rfl 3 rfl ?_
    refine v_aload_n C hl dX3_shareEdge_19 rfl 0 rfl ?_
    refine g_X3_2 C kdC_13 fl_X3_16 dX3_shareEdge_20 ?_
    refine v_iload_n C hl dX3_shareEdge_23 rfl 1 rfl ?_
    refine alC14 C kdC_15 h dX3_shareEdge_24 (fun h => ?_)
    obtain ⟨x_4, hv4, h⟩ := bd_e h
    refine v_callSN C [.int (i32 v3), .int (i32 (σ 15 (v1).toNat))] (mX7_following C.2.2.2.2.1 hv4) cd_X7_following ic_X7 sm_X7_following (nw_X3_72 C) yk_X7_following ⟨rfl, rfl, by decide, by decide⟩ rfl hl.1 (rest := [.ref (q (29 + (v1).toNat))]) rfl (Nat.le_of_ble_eq_true rfl) dX3_shareEdge_25 ?_
    refine alC16 C (keC13 kdC_14 hi3) h dX3_shareEdge_28 (fun h => ?_)
    refine v_istore C hl (fun x => [(4, .int (i32 x)), (0, .ref (q 13)), (1, .int (i32 v1)), (2, .int (i32 v2)), (3, .int (i32 v3))]) dX3_shareEdge_29 (by decide) (fun _ => rfl) h (fun v4_5 ls hl h => ?_)
    refine v_aload_n C hl dX3_shareEdge_31 rfl 1 rfl ?_
    refine g_X3_1 C kdC_13 fl_X3_11 dX3_shareEdge_32 ?_
    refine v_iload_n C hl dX3_shareEdge_35 rfl 3 rfl ?_
    have hi6 := (chk_e h).1
    refine arC13 C kdC_14 h dX3_shareEdge_36 (fun h => ?_)
    refine v_aload_n C hl dX3_shareEdge_37 rfl 1 rfl ?_
    refine g_X3_2 C kdC_13 fl_X3_16 dX3_shareEdge_38 ?_
    refine v_iload_n C hl dX3_shareEdge_41 rfl 3 rfl ?_
    refine alC14 C kdC_15 h dX3_shareEdge_42 (fun h => ?_)
    refine v_aload_n C hl dX3_shareEdge_43 rfl 1 rfl ?_
    refine g_X3_1 C kdC_13 fl_X3_11 dX3_shareEdge_44 ?_
    refine v_iload_n C hl dX3_shareEdge_47 rfl 2 rfl ?_
    have hi7 := (chk_e h).1
    refine arC13 C kdC_14 h dX3_shareEdge_48 (fun h => ?_)
    refine v_iload_n C hl dX3_shareEdge_49 rfl 4 rfl ?_
    refine alC16 C (keC13 kdC_14 hi7) h dX3_shareEdge_50 (fun h => ?_)
    refine v_iload C hl dX3_shareEdge_51 0 rfl ?_
    obtain ⟨x_8, hv8, h⟩ := bd_e h
    refine v_callSN C [.ref (q (29 + (v2).toNat)), .int (i32 (σ 15 (v2).toNat)), .int (i32 (σ (29 + (v1).toNat) (v3).toNat)), .int (i32 v4_5)] (mX7_areNext C.2.2.2.2.1 (keC13 kdC_14 hi6) hv8) cd_X7_areNext ic_X7 sm_X7_areNext (nw_X3_64 C) yk_X7_areNext ⟨rfl, rfl, by decide, by decide⟩ rfl hl.1 (rest := []) rfl (Nat.le_of_ble_eq_true rfl) dX3_shareEdge_53 ?_
    have hz9 := (cr_e h).1
    have h := (cr_e h).2
    refine v_if_eq C (tgt := 61) hz9 h dX3_shareEdge_56 rfl (fun h => ?_) (fun h => ?_)
    · refine v_iinc C hl (fun x => [(3, .int (i32 x)), (4, .int (i32 v4_5)), (0, .ref (q 13)), (1, .int (i32 v1)), (2, .int (i32 v2))]) dX3_shareEdge_61 4 rfl (by decide) (fun _ => rfl) h (fun v3_10 ls hl h => ?_)
      refine v_goto C (tgt := 2) dX3_shareEdge_64 rfl ?_
      exact hc2 _ _ (lv_sub hl [2, 3, 4, 0] rfl) h
    · refine v_iconst C dX3_shareEdge_59 ?_
      exact v_zret C hr (Or.inr rfl) (so1 h) dX3_shareEdge_60
theorem wlX3_shareEdge_2 (C : CxC p rmX3_shareEdge s m args meth c D ac q xa xv RX3 cX3_shareEdge 5) (hr : meth.sig.returnType = (some .boolean)) {v1 : Int} {v2 : Int} {σ : Mm} {e2 : Option (Int)} {r : Int} (he2 : ∀ (ls : Array Slot), lv_has ls 5 [(0, .ref (q 13))] → e2 = some r → VC p l e rmX3_shareEdge s m args below meth c D ac q (QIC D ac q xa xv below args s (r, σ)) σ (F0 m 67 ls [])) : ∀ (fu : Nat) (v3 : Int) (ls : Array Slot) (hl : lv_has ls 5 [(0, .ref (q 13)), (1, .int (i32 v1)), (2, .int (i32 v2)), (3, .int (i32 v3))]) (h : lX3_shareEdge_2 v1 v2 σ e2 fu v3 = some r), VC p l e rmX3_shareEdge s m args below meth c D ac q (QIC D ac q xa xv below args s (r, σ)) σ (F0 m 2 ls []) := by
  intro fu
  induction fu with
  | zero =>
    intro v3 ls hl h
    have h : none = some r := h
    cases h
  | succ fu ih =>
    intro v3 ls hl h
    exact wX3_shareEdge_2 C hr he2 (fun v3 ls hl h => ih v3 ls hl h) hl h
theorem mX3_shareEdge (hq : QI 175 q) {v1 : Int} {v2 : Int} {σ : Mm} {r : Int} (h : fX3_shareEdge v1 v2 σ = some r) : MIC l D ac q xa xv yX3_shareEdge cX3_shareEdge 5 (some .boolean) rmX3_shareEdge [.ref (q 13), .int (i32 v1), .int (i32 v2)] σ (r, σ) := by
  refine MI.of hq XC_M (by decide) (Nat.le_of_ble_eq_true rfl) (fun p e s m below meth c ls C hr hl => ?_)
  have hl : lv_has ls 5 [(0, .ref (q 13)), (1, .int (i32 v1)), (2, .int (i32 v2))] := hl
  have h : bindv 0 (fun v3_1 => lX3_shareEdge_2 v1 v2 σ (fX3_shareEdge_67 σ) 400 v3_1) = some r := h
  refine v_iconst C dX3_shareEdge_0 ?_
  refine v_istore_n C hl (fun x => [(3, .int (i32 x)), (0, .ref (q 13)), (1, .int (i32 v1)), (2, .int (i32 v2))]) dX3_shareEdge_1 rfl (by decide) (fun _ => rfl) h (fun v3_1 ls hl h => ?_)
  exact wlX3_shareEdge_2 C hr (fun ls hl h => wX3_shareEdge_67 C hr (lv_sub hl [0] rfl) h) _ _ _ (lv_sub hl [1, 2, 3, 0] rfl) h
end
section
variable {l : Launch} {D : va_G} {ac : Nat → ClassId} {q xa xv : Nat → Nat} {p : Program} {e : Env} {s : State} {m : MethodId} {args : Array Value} {below : List Frame} {meth : Method} {c : Code} {ls : Array Slot}
theorem dX3_neighboursOf_0 : decode cX3_neighboursOf 0 = .ok (.iconst 0, 1) := by decide +kernel
theorem dX3_neighboursOf_1 : decode cX3_neighboursOf 1 = .ok (.istore_n 2, 1) := by decide +kernel
theorem dX3_neighboursOf_2 : decode cX3_neighboursOf 2 = .ok (.iconst 0, 1) := by decide +kernel
theorem dX3_neighboursOf_3 : decode cX3_neighboursOf 3 = .ok (.istore_n 3, 1) := by decide +kernel
theorem dX3_neighboursOf_4 : decode cX3_neighboursOf 4 = .ok (.iload_n 3, 1) := by decide +kernel
theorem dX3_neighboursOf_5 : decode cX3_neighboursOf 5 = .ok (.aload_n 0, 1) := by decide +kernel
theorem dX3_neighboursOf_6 : decode cX3_neighboursOf 6 = .ok (.getfield 27, 3) := by decide +kernel
theorem dX3_neighboursOf_9 : decode cX3_neighboursOf 9 = .ok (.getfield 31, 3) := by decide +kernel
theorem dX3_neighboursOf_12 : decode cX3_neighboursOf 12 = .ok (.if_icmp .ge 26, 3) := by decide +kernel
theorem dX3_neighboursOf_15 : decode cX3_neighboursOf 15 = .ok (.iload_n 3, 1) := by decide +kernel
theorem dX3_neighboursOf_16 : decode cX3_neighboursOf 16 = .ok (.iload_n 1, 1) := by decide +kernel
theorem dX3_neighboursOf_17 : decode cX3_neighboursOf 17 = .ok (.if_icmp .eq 15, 3) := by decide +kernel
theorem dX3_neighboursOf_20 : decode cX3_neighboursOf 20 = .ok (.aload_n 0, 1) := by decide +kernel
theorem dX3_neighboursOf_21 : decode cX3_neighboursOf 21 = .ok (.iload_n 1, 1) := by decide +kernel
theorem dX3_neighboursOf_22 : decode cX3_neighboursOf 22 = .ok (.iload_n 3, 1) := by decide +kernel
theorem dX3_neighboursOf_23 : decode cX3_neighboursOf 23 = .ok (.invokevirtual 68, 3) := by decide +kernel
theorem dX3_neighboursOf_26 : decode cX3_neighboursOf 26 = .ok (.ifCond .eq 6, 3) := by decide +kernel
theorem dX3_neighboursOf_29 : decode cX3_neighboursOf 29 = .ok (.iinc 2 1, 3) := by decide +kernel
theorem dX3_neighboursOf_32 : decode cX3_neighboursOf 32 = .ok (.iinc 3 1, 3) := by decide +kernel
theorem dX3_neighboursOf_35 : decode cX3_neighboursOf 35 = .ok (.goto (-31), 3) := by decide +kernel
theorem dX3_neighboursOf_38 : decode cX3_neighboursOf 38 = .ok (.iload_n 2, 1) := by decide +kernel
theorem dX3_neighboursOf_39 : decode cX3_neighboursOf 39 = .ok (.ireturn, 1) := by decide +kernel
theorem wX3_neighboursOf_38 (C : CxC p rmX3_neighboursOf s m args meth c D ac q xa xv RX3 cX3_neighboursOf 4) (hr : meth.sig.returnType = (some .int)) {v2 : Int} {σ : Mm} {r : Int} (hl : lv_has ls 4 [(0, .ref (q 13)), (2, .int (i32 v2))]) (h : fX3_neighboursOf_38 v2 σ = some r) : VC p l e rmX3_neighboursOf s m args below meth c D ac q (QIC D ac q xa xv below args s (r, σ)) σ (F0 m 38 ls []) := by
  have h : some v2 = some r := h
  refine v_iload_n C hl dX3_neighboursOf_38 rfl 1 rfl ?_
  exact v_iret C hr (so1 h) dX3_neighboursOf_39
theorem wX3_neighboursOf_32 (C : CxC p rmX3_neighboursOf s m args meth c D ac q xa xv RX3 cX3_neighboursOf 4) (hr : meth.sig.returnType = (some .int)) {v1 : Int} {v2 : Int} {v3 : Int} {c4 : Int → Int → Option (Int)} {σ : Mm} {r : Int} (hc4 : ∀ (v2x : Int) (v3x : Int) (ls : Array Slot), lv_has ls 4 [(0, .ref (q 13)), (1, .int (i32 v1)), (2, .int (i32 v2x)), (3, .int (i32 v3x))] → c4 v2x v3x = some r → VC p l e rmX3_neighboursOf s m args below meth c D ac q (QIC D ac q xa xv below args s (r, σ)) σ (F0 m 4 ls [])) (hl : lv_has ls 4 [(0, .ref (q 13)), (1, .int (i32 v1)), (2, .int (i32 v2)), (3, .int (i32 v3))]) (h : fX3_neighboursOf_32 c4 v1 v2 v3 σ = some r) : VC p l e rmX3_neighboursOf s m args below meth c D ac q (QIC D ac q xa xv below args s (r, σ)) σ (F0 m 32 ls []) := by
  have h : bindv (v3 + 1) (fun v3_1 => c4 v2 v3_1) = some r := h
  refine v_iinc C hl (fun x => [(3, .int (i32 x)), (0, .ref (q 13)), (1, .int (i32 v1)), (2, .int (i32 v2))]) dX3_neighboursOf_32 3 rfl (by decide) (fun _ => rfl) h (fun v3_1 ls hl h => ?_)
  refine v_goto C (tgt := 4) dX3_neighboursOf_35 rfl ?_
  exact hc4 _ _ _ (lv_sub hl [1, 2, 3, 0] rfl) h
theorem wX3_neighboursOf_4 (C : CxC p rmX3_neighboursOf s m args meth c D ac q xa xv RX3 cX3_neighboursOf 4) (hr : meth.sig.returnType = (some .int)) {v1 : Int} {σ : Mm} {v2 : Int} {v3 : Int} {e4 : Int → Option (Int)} {c4 : Int → Int → Option (Int)} {r : Int} (he4 : ∀ (v2x : Int) (ls : Array Slot), lv_has ls 4 [(0, .ref (q 13)), (2, .int (i32 v2x))] → e4 v2x = some r → VC p l e rmX3_neighboursOf s m args below meth c D ac q (QIC D ac q xa xv below args s (r, σ)) σ (F0 m 38 ls [])) (hc4 : ∀ (v2x : Int) (v3x : Int) (ls : Array Slot), lv_has ls 4 [(0, .ref (q 13)), (1, .int (i32 v1)), (2, .int (i32 v2x)), (3, .int (i32 v3x))] → c4 v2x v3x = some r → VC p l e rmX3_neighboursOf s m args below meth c D ac q (QIC D ac q xa xv below args s (r, σ)) σ (F0 m 4 ls [])) (hl : lv_has ls 4 [(0, .ref (q 13)), (1, .int (i32 v1)), (2, .int (i32 v2)), (3, .int (i32 v3))]) (h : fX3_neighboursOf_4 v1 σ e4 c4 v2 v3 = some r) : VC p l e rmX3_neighboursOf s m args below meth c D ac q (QIC D ac q xa xv below args s (r, σ)) σ (F0 m 4 ls []) := by
  have h : cr v3 (cr (σ 95 10) ((if v3 < σ 95 10 then cr v3 (cr v1 ((if v3 = v1 then fX3_neighboursOf_32 c4 v1 v2 v3 σ else bd (fX3_shareEdge v1 v3 σ) (fun x_5 => cr x_5 ((if x_5 = 0 then fX3_neighboursOf_32 c4 v1 v2 v3 σ else bindv (v2 + 1) (fun v2_7 => fX3_neighboursOf_32 c4 v1 v2_7 v3 σ))))))) else e4 v2))) = some r := h
  refine v_iload_n C hl dX3_neighboursOf_4 rfl 3 rfl ?_
  refine v_aload_n C hl dX3_neighboursOf_5 rfl 0 rfl ?_
  refine g_X3_0 C kdC_13 fl_X3_27 dX3_neighboursOf_6 ?_
  refine g_X1_10 C kdC_95 fl_X3_31 dX3_neighboursOf_9 ?_
  have hz1 := (cr_e h).1
  have h := (cr_e h).2
  have hz2 := (cr_e h).1
  have h := (cr_e h).2
  refine v_icmp_ge C (tgt := 38) hz1 hz2 h dX3_neighboursOf_12 rfl (fun h => ?_) (fun h => ?_)
  · exact he4 _ _ (lv_sub hl [0, 2] rfl) h
  · refine v_iload_n C hl dX3_neighboursOf_15 rfl 3 rfl ?_
    refine v_iload_n C hl dX3_neighboursOf_16 rfl 1 rfl ?_
    have hz3 := (cr_e h).1
    have h := (cr_e h).2
    have hz4 := (cr_e h).1
    have h := (cr_e h).2
    refine v_icmp_eq C (tgt := 32) hz3 hz4 h dX3_neighboursOf_17 rfl (fun h => ?_) (fun h => ?_)
    · exact wX3_neighboursOf_32 C hr hc4 (lv_sub hl [0, 1, 2, 3] rfl) h
    · refine v_aload_n C hl dX3_neighboursOf_20 rfl 0 rfl ?_
      refine v_iload_n C hl dX3_neighboursOf_21 rfl 1 rfl ?_
      refine v_iload_n C hl dX3_neighboursOf_22 rfl 3 rfl ?_
      obtain ⟨x_5, hv5, h⟩ := bd_e h
      refine v_callVI C 13 (klC kdC_13) rfl (ckC12 kdC_13 _) rfl [.int (i32 v1), .int (i32 v3)] (mX3_shareEdge C.2.2.2.2.1 hv5) cd_X3_shareEdge ic_X3 im_X3_shareEdge se_X3_shareEdge ml_X3_68 yk_X3_shareEdge ⟨rfl, rfl, by decide, by decide⟩ rfl hl.1 (rest := []) rfl (Nat.le_of_ble_eq_true rfl) dX3_neighboursOf_23 ?_
      have hz6 := (cr_e h).1
      have h := (cr_e h).2
      refine v_if_eq C (tgt := 32) hz6 h dX3_neighboursOf_26 rfl (fun h => ?_) (fun h => ?_)
      · exact wX3_neighboursOf_32 C hr hc4 (lv_sub hl [0, 1, 2, 3] rfl) h
      · refine v_iinc C hl (fun x => [(2, .int (i32 x)), (0, .ref (q 13)), (1, .int (i32 v1)), (3, .int (i32 v3))]) dX3_neighboursOf_29 2 rfl (by decide) (fun _ => rfl) h (fun v2_7 ls hl h => ?_)
        exact wX3_neighboursOf_32 C hr hc4 (lv_sub hl [1, 2, 0, 3] rfl) h
theorem wlX3_neighboursOf_4 (C : CxC p rmX3_neighboursOf s m args meth c D ac q xa xv RX3 cX3_neighboursOf 4) (hr : meth.sig.returnType = (some .int)) {v1 : Int} {σ : Mm} {e4 : Int → Option (Int)} {r : Int} (he4 : ∀ (v2x : Int) (ls : Array Slot), lv_has ls 4 [(0, .ref (q 13)), (2, .int (i32 v2x))] → e4 v2x = some r → VC p l e rmX3_neighboursOf s m args below meth c D ac q (QIC D ac q xa xv below args s (r, σ)) σ (F0 m 38 ls [])) : ∀ (fu : Nat) (v2 : Int) (v3 : Int) (ls : Array Slot) (hl : lv_has ls 4 [(0, .ref (q 13)), (1, .int (i32 v1)), (2, .int (i32 v2)), (3, .int (i32 v3))]) (h : lX3_neighboursOf_4 v1 σ e4 fu v2 v3 = some r), VC p l e rmX3_neighboursOf s m args below meth c D ac q (QIC D ac q xa xv below args s (r, σ)) σ (F0 m 4 ls []) := by
  intro fu
  induction fu with
  | zero =>
    intro v2 v3 ls hl h
    have h : none = some r := h
    cases h
  | succ fu ih =>
    intro v2 v3 ls hl h
    exact wX3_neighboursOf_4 C hr he4 (fun v2 v3 ls hl h => ih v2 v3 ls hl h) hl h
theorem mX3_neighboursOf (hq : QI 175 q) {v1 : Int} {σ : Mm} {r : Int} (h : fX3_neighboursOf v1 σ = some r) : MIC l D ac q xa xv yX3_neighboursOf cX3_neighboursOf 4 (some .int) rmX3_neighboursOf [.ref (q 13), .int (i32 v1)] σ (r, σ) := by
  refine MI.of hq XC_M (by decide) (Nat.le_of_ble_eq_true rfl) (fun p e s m below meth c ls C hr hl => ?_)
  have hl : lv_has ls 4 [(0, .ref (q 13)), (1, .int (i32 v1))] := hl
  have h : bindv 0 (fun v2_1 => bindv 0 (fun v3_2 => lX3_neighboursOf_4 v1 σ (fun v2_3 => fX3_neighboursOf_38 v2_3 σ) 400 v2_1 v3_2)) = some r := h
  refine v_iconst C dX3_neighboursOf_0 ?_
  refine v_istore_n C hl (fun x => [(2, .int (i32 x)), (0, .ref (q 13)), (1, .int (i32 v1))]) dX3_neighboursOf_1 rfl (by decide) (fun _ => rfl) h (fun v2_1 ls hl h => ?_)
  refine v_iconst C dX3_neighboursOf_2 ?_
  refine v_istore_n C hl (fun x => [(3, .int (i32 x)), (2, .int (i32 v2_1)), (0, .ref (q 13)), (1, .int (i32 v1))]) dX3_neighboursOf_3 rfl (by decide) (fun _ => rfl) h (fun v3_2 ls hl h => ?_)
  exact wlX3_neighboursOf_4 C hr (fun v2_3 ls hl h => wX3_neighboursOf_38 C hr (lv_sub hl [0, 1] rfl) h) _ _ _ _ (lv_sub hl [2, 3, 1, 0] rfl) h
end
section
variable {l : Launch} {D : va_G} {ac : Nat → ClassId} {q xa xv : Nat → Nat} {p : Program} {e : Env} {s : State} {m : MethodId} {args : Array Value} {below : List Frame} {meth : Method} {c : Code} {ls : Array Slot}
theorem dX3_usesOf_0 : decode cX3_usesOf 0 = .ok (.iconst 0, 1) := by decide +kernel
theorem dX3_usesOf_1 : decode cX3_usesOf 1 = .ok (.istore_n 3, 1) := by decide +kernel
theorem dX3_usesOf_2 : decode cX3_usesOf 2 = .ok (.iconst 0, 1) := by decide +kernel
theorem dX3_usesOf_3 : decode cX3_usesOf 3 = .ok (.istore 4, 2) := by decide +kernel
theorem dX3_usesOf_5 : decode cX3_usesOf 5 = .ok (.iload 4, 2) := by decide +kernel
theorem dX3_usesOf_7 : decode cX3_usesOf 7 = .ok (.aload_n 0, 1) := by decide +kernel
theorem dX3_usesOf_8 : decode cX3_usesOf 8 = .ok (.getfield 27, 3) := by decide +kernel
theorem dX3_usesOf_11 : decode cX3_usesOf 11 = .ok (.getfield 31, 3) := by decide +kernel
theorem dX3_usesOf_14 : decode cX3_usesOf 14 = .ok (.if_icmp .ge 34, 3) := by decide +kernel
theorem dX3_usesOf_17 : decode cX3_usesOf 17 = .ok (.aload_n 0, 1) := by decide +kernel
theorem dX3_usesOf_18 : decode cX3_usesOf 18 = .ok (.getfield 11, 3) := by decide +kernel
theorem dX3_usesOf_21 : decode cX3_usesOf 21 = .ok (.iload 4, 2) := by decide +kernel
theorem dX3_usesOf_23 : decode cX3_usesOf 23 = .ok (.aaload, 1) := by decide +kernel
theorem dX3_usesOf_24 : decode cX3_usesOf 24 = .ok (.aload_n 0, 1) := by decide +kernel
theorem dX3_usesOf_25 : decode cX3_usesOf 25 = .ok (.getfield 16, 3) := by decide +kernel
theorem dX3_usesOf_28 : decode cX3_usesOf 28 = .ok (.iload 4, 2) := by decide +kernel
theorem dX3_usesOf_30 : decode cX3_usesOf 30 = .ok (.iaload, 1) := by decide +kernel
theorem dX3_usesOf_31 : decode cX3_usesOf 31 = .ok (.iload_n 1, 1) := by decide +kernel
theorem dX3_usesOf_32 : decode cX3_usesOf 32 = .ok (.iload_n 2, 1) := by decide +kernel
theorem dX3_usesOf_33 : decode cX3_usesOf 33 = .ok (.invokestatic 64, 3) := by decide +kernel
theorem dX3_usesOf_36 : decode cX3_usesOf 36 = .ok (.ifCond .eq 6, 3) := by decide +kernel
theorem dX3_usesOf_39 : decode cX3_usesOf 39 = .ok (.iinc 3 1, 3) := by decide +kernel
theorem dX3_usesOf_42 : decode cX3_usesOf 42 = .ok (.iinc 4 1, 3) := by decide +kernel
theorem dX3_usesOf_45 : decode cX3_usesOf 45 = .ok (.goto (-40), 3) := by decide +kernel
theorem dX3_usesOf_48 : decode cX3_usesOf 48 = .ok (.iload_n 3, 1) := by decide +kernel
theorem dX3_usesOf_49 : decode cX3_usesOf 49 = .ok (.ireturn, 1) := by decide +kernel
theorem wX3_usesOf_48 (C : CxC p rmX3_usesOf s m args meth c D ac q xa xv RX3 cX3_usesOf 5) (hr : meth.sig.returnType = (some .int)) {v3 : Int} {σ : Mm} {r : Int} (hl : lv_has ls 5 [(0, .ref (q 13)), (3, .int (i32 v3))]) (h : fX3_usesOf_48 v3 σ = some r) : VC p l e rmX3_usesOf s m args below meth c D ac q (QIC D ac q xa xv below args s (r, σ)) σ (F0 m 48 ls []) := by
  have h : some v3 = some r := h
  refine v_iload_n C hl dX3_usesOf_48 rfl 1 rfl ?_
  exact v_iret C hr (so1 h) dX3_usesOf_49
theorem wX3_usesOf_42 (C : CxC p rmX3_usesOf s m args meth c D ac q xa xv RX3 cX3_usesOf 5) (hr : meth.sig.returnType = (some .int)) {v1 : Int} {v2 : Int} {v3 : Int} {v4 : Int} {c5 : Int → Int → Option (Int)} {σ : Mm} {r : Int} (hc5 : ∀ (v3x : Int) (v4x : Int) (ls : Array Slot), lv_has ls 5 [(0, .ref (q 13)), (1, .int (i32 v1)), (2, .int (i32 v2)), (3, .int (i32 v3x)), (4, .int (i32 v4x))] → c5 v3x v4x = some r → VC p l e rmX3_usesOf s m args below meth c D ac q (QIC D ac q xa xv below args s (r, σ)) σ (F0 m 5 ls [])) (hl : lv_has ls 5 [(0, .ref (q 13)), (1, .int (i32 v1)), (2, .int (i32 v2)), (3, .int (i32 v3)), (4, .int (i32 v4))]) (h : fX3_usesOf_42 c5 v1 v2 v3 v4 σ = some r) : VC p l e rmX3_usesOf s m args below meth c D ac q (QIC D ac q xa xv below args s (r, σ)) σ (F0 m 42 ls []) := by
  have h : bindv (v4 + 1) (fun v4_1 => c5 v3 v4_1) = some r := h
  refine v_iinc C hl (fun x => [(4, .int (i32 x)), (0, .ref (q 13)), (1, .int (i32 v1)), (2, .int (i32 v2)), (3, .int (i32 v3))]) dX3_usesOf_42 4 rfl (by decide) (fun _ => rfl) h (fun v4_1 ls hl h => ?_)
  refine v_goto C (tgt := 5) dX3_usesOf_45 rfl ?_
  exact hc5 _ _ _ (lv_sub hl [1, 2, 3, 4, 0] rfl) h
theorem wX3_usesOf_5 (C : CxC p rmX3_usesOf s m args meth c D ac q xa xv RX3 cX3_usesOf 5) (hr : meth.sig.returnType = (some .int)) {v1 : Int} {v2 : Int} {σ : Mm} {v3 : Int} {v4 : Int} {e5 : Int → Option (Int)} {c5 : Int → Int → Option (Int)} {r : Int} (he5 : ∀ (v3x : Int) (ls : Array Slot), lv_has ls 5 [(0, .ref (q 13)), (3, .int (i32 v3x))] → e5 v3x = some r → VC p l e rmX3_usesOf s m args below meth c D ac q (QIC D ac q xa xv below args s (r, σ)) σ (F0 m 48 ls [])) (hc5 : ∀ (v3x : Int) (v4x : Int) (ls : Array Slot), lv_has ls 5 [(0, .ref (q 13)), (1, .int (i32 v1)), (2, .int (i32 v2)), (3, .int (i32 v3x)), (4, .int (i32 v4x))] → c5 v3x v4x = some r → VC p l e rmX3_usesOf s m args below meth c D ac q (QIC D ac q xa xv below args s (r, σ)) σ (F0 m 5 ls [])) (hl : lv_has ls 5 [(0, .ref (q 13)), (1, .int (i32 v1)), (2, .int (i32 v2)), (3, .int (i32 v3)), (4, .int (i32 v4))]) (h : fX3_usesOf_5 v1 v2 σ e5 c5 v3 v4 = some r) : VC p l e rmX3_usesOf s m args below meth c D ac q (QIC D ac q xa xv below args s (r, σ)) σ (F0 m 5 ls []) := by
  have h : cr v4 (cr (σ 95 10) ((if v4 < σ 95 10 then chk v4 6 (chk v4 6 (bd (fX7_areNext (29 + (v4).toNat) (σ 15 (v4).toNat) v1 v2 σ) (fun x_4 => cr x_4 ((if x_4 = 0 then fX3_usesOf_42 c5 v1 v2 v3 v4 σ else bindv (v3 + 1) (fun v3_6 => fX3_usesOf_42 c5 v1 v2 v3_6 v4 σ)))))) else e5 v3))) = some r := h
  refine v_iload C hl dX3_usesOf_5 4 rfl ?_
  refine v_aload_n C hl dX3_usesOf_7 rfl 0 rfl ?_
  refine g_X3_0 C kdC_13 fl_X3_27 dX3_usesOf_8 ?_
  refine g_X1_10 C kdC_95 fl_X3_31 dX3_usesOf_11 ?_
  have hz1 := (cr_e h).1
  have h := (cr_e h).2
  have hz2 := (cr_e h).1
  have h := (cr_e h).2
  refine v_icmp_ge C (tgt := 48) hz1 hz2 h dX3_usesOf_14 rfl (fun h => ?_) (fun h => ?_)
  · exact he5 _ _ (lv_sub hl [0, 3] rfl) h
  · refine v_aload_n C hl dX3_usesOf_17 rfl 0 rfl ?_
    refine g_X3_1 C kdC_13 fl_X3_11 dX3_usesOf_18 ?_
    refine v_iload C hl dX3_usesOf_21 4 rfl ?_
    have hi3 := (chk_e h).1
    refine arC13 C kdC_14 h dX3_usesOf_23 (fun h => ?_)
    refine v_aload_n C hl dX3_usesOf_24 rfl 0 rfl ?_
    refine g_X3_2 C kdC_13 fl_X3_16 dX3_usesOf_25 ?_
    refine v_iload C hl dX3_usesOf_28 4 rfl ?_
    refine alC14 C kdC_15 h dX3_usesOf_30 (fun h => ?_)
    refine v_iload_n C hl dX3_usesOf_31 rfl 1 rfl ?_
    refine v_iload_n C hl dX3_usesOf_32 rfl 2 rfl ?_
    obtain ⟨x_4, hv4, h⟩ := bd_e h
    refine v_callSN C [.ref (q (29 + (v4).toNat)), .int (i32 (σ 15 (v4).toNat)), .int (i32 v1), .int (i32 v2)] (mX7_areNext C.2.2.2.2.1 (keC13 kdC_14 hi3) hv4) cd_X7_areNext ic_X7 sm_X7_areNext (nw_X3_64 C) yk_X7_areNext ⟨rfl, rfl, by decide, by decide⟩ rfl hl.1 (rest := []) rfl (Nat.le_of_ble_eq_true rfl) dX3_usesOf_33 ?_
    have hz5 := (cr_e h).1
    have h := (cr_e h).2
    refine v_if_eq C (tgt := 42) hz5 h dX3_usesOf_36 rfl (fun h => ?_) (fun h => ?_)
    · exact wX3_usesOf_42 C hr hc5 (lv_sub hl [0, 1, 2, 3, 4] rfl) h
    · refine v_iinc C hl (fun x => [(3, .int (i32 x)), (0, .ref (q 13)), (1, .int (i32 v1)), (2, .int (i32 v2)), (4, .int (i32 v4))]) dX3_usesOf_39 3 rfl (by decide) (fun _ => rfl) h (fun v3_6 ls hl h => ?_)
      exact wX3_usesOf_42 C hr hc5 (lv_sub hl [1, 2, 3, 0, 4] rfl) h
theorem wlX3_usesOf_5 (C : CxC p rmX3_usesOf s m args meth c D ac q xa xv RX3 cX3_usesOf 5) (hr : meth.sig.returnType = (some .int)) {v1 : Int} {v2 : Int} {σ : Mm} {e5 : Int → Option (Int)} {r : Int} (he5 : ∀ (v3x : Int) (ls : Array Slot), lv_has ls 5 [(0, .ref (q 13)), (3, .int (i32 v3x))] → e5 v3x = some r → VC p l e rmX3_usesOf s m args below meth c D ac q (QIC D ac q xa xv below args s (r, σ)) σ (F0 m 48 ls [])) : ∀ (fu : Nat) (v3 : Int) (v4 : Int) (ls : Array Slot) (hl : lv_has ls 5 [(0, .ref (q 13)), (1, .int (i32 v1)), (2, .int (i32 v2)), (3, .int (i32 v3)), (4, .int (i32 v4))]) (h : lX3_usesOf_5 v1 v2 σ e5 fu v3 v4 = some r), VC p l e rmX3_usesOf s m args below meth c D ac q (QIC D ac q xa xv below args s (r, σ)) σ (F0 m 5 ls []) := by
  intro fu
  induction fu with
  | zero =>
    intro v3 v4 ls hl h
    have h : none = some r := h
    cases h
  | succ fu ih =>
    intro v3 v4 ls hl h
    exact wX3_usesOf_5 C hr he5 (fun v3 v4 ls hl h => ih v3 v4 ls hl h) hl h
theorem mX3_usesOf (hq : QI 175 q) {v1 : Int} {v2 : Int} {σ : Mm} {r : Int} (h : fX3_usesOf v1 v2 σ = some r) : MIC l D ac q xa xv yX3_usesOf cX3_usesOf 5 (some .int) rmX3_usesOf [.ref (q 13), .int (i32 v1), .int (i32 v2)] σ (r, σ) := by
  refine MI.of hq XC_M (by decide) (Nat.le_of_ble_eq_true rfl) (fun p e s m below meth c ls C hr hl => ?_)
  have hl : lv_has ls 5 [(0, .ref (q 13)), (1, .int (i32 v1)), (2, .int (i32 v2))] := hl
  have h : bindv 0 (fun v3_1 => bindv 0 (fun v4_2 => lX3_usesOf_5 v1 v2 σ (fun v3_3 => fX3_usesOf_48 v3_3 σ) 400 v3_1 v4_2)) = some r := h
  refine v_iconst C dX3_usesOf_0 ?_
  refine v_istore_n C hl (fun x => [(3, .int (i32 x)), (0, .ref (q 13)), (1, .int (i32 v1)), (2, .int (i32 v2))]) dX3_usesOf_1 rfl (by decide) (fun _ => rfl) h (fun v3_1 ls hl h => ?_)
  refine v_iconst C dX3_usesOf_2 ?_
  refine v_istore C hl (fun x => [(4, .int (i32 x)), (3, .int (i32 v3_1)), (0, .ref (q 13)), (1, .int (i32 v1)), (2, .int (i32 v2))]) dX3_usesOf_3 (by decide) (fun _ => rfl) h (fun v4_2 ls hl h => ?_)
  exact wlX3_usesOf_5 C hr (fun v3_3 ls hl h => wX3_usesOf_48 C hr (lv_sub hl [0, 1] rfl) h) _ _ _ _ (lv_sub hl [2, 3, 4, 1, 0] rfl) h
end
section
variable {l : Launch} {D : va_G} {ac : Nat → ClassId} {q xa xv : Nat → Nat} {p : Program} {e : Env} {s : State} {m : MethodId} {args : Array Value} {below : List Frame} {meth : Method} {c : Code} {ls : Array Slot}
theorem dX3_someoneLiesIn_0 : decode cX3_someoneLiesIn 0 = .ok (.iconst 0, 1) := by decide +kernel
theorem dX3_someoneLiesIn_1 : decode cX3_someoneLiesIn 1 = .ok (.istore 4, 2) := by decide +kernel
theorem dX3_someoneLiesIn_3 : decode cX3_someoneLiesIn 3 = .ok (.iload 4, 2) := by decide +kernel
theorem dX3_someoneLiesIn_5 : decode cX3_someoneLiesIn 5 = .ok (.aload_n 0, 1) := by decide +kernel
theorem dX3_someoneLiesIn_6 : decode cX3_someoneLiesIn 6 = .ok (.getfield 27, 3) := by decide +kernel
theorem dX3_someoneLiesIn_9 : decode cX3_someoneLiesIn 9 = .ok (.getfield 49, 3) := by decide +kernel
theorem dX3_someoneLiesIn_12 : decode cX3_someoneLiesIn 12 = .ok (.if_icmp .ge 72, 3) := by decide +kernel
theorem dX3_someoneLiesIn_15 : decode cX3_someoneLiesIn 15 = .ok (.aload_n 0, 1) := by decide +kernel
theorem dX3_someoneLiesIn_16 : decode cX3_someoneLiesIn 16 = .ok (.getfield 20, 3) := by decide +kernel
theorem dX3_someoneLiesIn_19 : decode cX3_someoneLiesIn 19 = .ok (.iload 4, 2) := by decide +kernel
theorem dX3_someoneLiesIn_21 : decode cX3_someoneLiesIn 21 = .ok (.baload, 1) := by decide +kernel
theorem dX3_someoneLiesIn_22 : decode cX3_someoneLiesIn 22 = .ok (.ifCond .eq 56, 3) := by decide +kernel
theorem dX3_someoneLiesIn_25 : decode cX3_someoneLiesIn 25 = .ok (.iload 4, 2) := by decide +kernel
theorem dX3_someoneLiesIn_27 : decode cX3_someoneLiesIn 27 = .ok (.iload_n 1, 1) := by decide +kernel
theorem dX3_someoneLiesIn_28 : decode cX3_someoneLiesIn 28 = .ok (.if_icmp .eq 50, 3) := by decide +kernel
theorem dX3_someoneLiesIn_31 : decode cX3_someoneLiesIn 31 = .ok (.iload 4, 2) := by decide +kernel
theorem dX3_someoneLiesIn_33 : decode cX3_someoneLiesIn 33 = .ok (.iload_n 2, 1) := by decide +kernel
theorem dX3_someoneLiesIn_34 : decode cX3_someoneLiesIn 34 = .ok (.if_icmp .eq 44, 3) := by decide +kernel
theorem dX3_someoneLiesIn_37 : decode cX3_someoneLiesIn 37 = .ok (.iload 4, 2) := by decide +kernel
theorem dX3_someoneLiesIn_39 : decode cX3_someoneLiesIn 39 = .ok (.iload_n 3, 1) := by decide +kernel
theorem dX3_someoneLiesIn_40 : decode cX3_someoneLiesIn 40 = .ok (.if_icmp .eq 38, 3) := by decide +kernel
theorem dX3_someoneLiesIn_43 : decode cX3_someoneLiesIn 43 = .ok (.aload_n 0, 1) := by decide +kernel
theorem dX3_someoneLiesIn_44 : decode cX3_someoneLiesIn 44 = .ok (.getfield 27, 3) := by decide +kernel
theorem dX3_someoneLiesIn_47 : decode cX3_someoneLiesIn 47 = .ok (.iload_n 1, 1) := by decide +kernel
theorem dX3_someoneLiesIn_48 : decode cX3_someoneLiesIn 48 = .ok (.iload_n 2, 1) := by decide +kernel
theorem dX3_someoneLiesIn_49 : decode cX3_someoneLiesIn 49 = .ok (.iload_n 3, 1) := by decide +kernel
theorem dX3_someoneLiesIn_50 : decode cX3_someoneLiesIn 50 = .ok (.aload_n 0, 1) := by decide +kernel
theorem dX3_someoneLiesIn_51 : decode cX3_someoneLiesIn 51 = .ok (.getfield 27, 3) := by decide +kernel
theorem dX3_someoneLiesIn_54 : decode cX3_someoneLiesIn 54 = .ok (.getfield 88, 3) := by decide +kernel
theorem dX3_someoneLiesIn_57 : decode cX3_someoneLiesIn 57 = .ok (.iload 4, 2) := by decide +kernel
theorem dX3_someoneLiesIn_59 : decode cX3_someoneLiesIn 59 = .ok (.iaload, 1) := by decide +kernel
theorem dX3_someoneLiesIn_60 : decode cX3_someoneLiesIn 60 = .ok (.aload_n 0, 1) := by decide +kernel
theorem dX3_someoneLiesIn_61 : decode cX3_someoneLiesIn 61 = .ok (.getfield 27, 3) := by decide +kernel
theorem dX3_someoneLiesIn_64 : decode cX3_someoneLiesIn 64 = .ok (.getfield 91, 3) := by decide +kernel
theorem dX3_someoneLiesIn_67 : decode cX3_someoneLiesIn 67 = .ok (.iload 4, 2) := by decide +kernel
theorem dX3_someoneLiesIn_69 : decode cX3_someoneLiesIn 69 = .ok (.iaload, 1) := by decide +kernel
theorem dX3_someoneLiesIn_70 : decode cX3_someoneLiesIn 70 = .ok (.invokevirtual 120, 3) := by decide +kernel
theorem dX3_someoneLiesIn_73 : decode cX3_someoneLiesIn 73 = .ok (.ifCond .eq 5, 3) := by decide +kernel
theorem dX3_someoneLiesIn_76 : decode cX3_someoneLiesIn 76 = .ok (.iconst 1, 1) := by decide +kernel
theorem dX3_someoneLiesIn_77 : decode cX3_someoneLiesIn 77 = .ok (.ireturn, 1) := by decide +kernel
theorem dX3_someoneLiesIn_78 : decode cX3_someoneLiesIn 78 = .ok (.iinc 4 1, 3) := by decide +kernel
theorem dX3_someoneLiesIn_81 : decode cX3_someoneLiesIn 81 = .ok (.goto (-78), 3) := by decide +kernel
theorem dX3_someoneLiesIn_84 : decode cX3_someoneLiesIn 84 = .ok (.iconst 0, 1) := by decide +kernel
theorem dX3_someoneLiesIn_85 : decode cX3_someoneLiesIn 85 = .ok (.ireturn, 1) := by decide +kernel
theorem wX3_someoneLiesIn_84 (C : CxC p rmX3_someoneLiesIn s m args meth c D ac q xa xv RX3 cX3_someoneLiesIn 5) (hr : meth.sig.returnType = (some .boolean)) {σ : Mm} {r : Int} (hl : lv_has ls 5 [(0, .ref (q 13))]) (h : fX3_someoneLiesIn_84 σ = some r) : VC p l e rmX3_someoneLiesIn s m args below meth c D ac q (QIC D ac q xa xv below args s (r, σ)) σ (F0 m 84 ls []) := by
  have h : some 0 = some r := h
  refine v_iconst C dX3_someoneLiesIn_84 ?_
  exact v_zret C hr (Or.inl rfl) (so1 h) dX3_someoneLiesIn_85
theorem wX3_someoneLiesIn_78 (C : CxC p rmX3_someoneLiesIn s m args meth c D ac q xa xv RX3 cX3_someoneLiesIn 5) (hr : meth.sig.returnType = (some .boolean)) {v1 : Int} {v2 : Int} {v3 : Int} {v4 : Int} {c3 : Int → Option (Int)} {σ : Mm} {r : Int} (hc3 : ∀ (v4x : Int) (ls : Array Slot), lv_has ls 5 [(0, .ref (q 13)), (1, .int (i32 v1)), (2, .int (i32 v2)), (3, .int (i32 v3)), (4, .int (i32 v4x))] → c3 v4x = some r → VC p l e rmX3_someoneLiesIn s m args below meth c D ac q (QIC D ac q xa xv below args s (r, σ)) σ (F0 m 3 ls [])) (hl : lv_has ls 5 [(0, .ref (q 13)), (1, .int (i32 v1)), (2, .int (i32 v2)), (3, .int (i32 v3)), (4, .int (i32 v4))]) (h : fX3_someoneLiesIn_78 c3 v1 v2 v3 v4 σ = some r) : VC p l e rmX3_someoneLiesIn s m args below meth c D ac q (QIC D ac q xa xv below args s (r, σ)) σ (F0 m 78 ls []) := by
  have h : bindv (v4 + 1) (fun v4_1 => c3 v4_1) = some r := h
  refine v_iinc C hl (fun x => [(4, .int (i32 x)), (0, .ref (q 13)), (1, .int (i32 v1)), (2, .int (i32 v2)), (3, .int (i32 v3))]) dX3_someoneLiesIn_78 4 rfl (by decide) (fun _ => rfl) h (fun v4_1 ls hl h => ?_)
  refine v_goto C (tgt := 3) dX3_someoneLiesIn_81 rfl ?_
  exact hc3 _ _ (lv_sub hl [1, 2, 3, 4, 0] rfl) h
theorem wX3_someoneLiesIn_3 (C : CxC p rmX3_someoneLiesIn s m args meth c D ac q xa xv RX3 cX3_someoneLiesIn 5) (hr : meth.sig.returnType = (some .boolean)) {v1 : Int} {v2 : Int} {v3 : Int} {σ : Mm} {v4 : Int} {e3 : Option (Int)} {c3 : Int → Option (Int)} {r : Int} (he3 : ∀ (ls : Array Slot), lv_has ls 5 [(0, .ref (q 13))] → e3 = some r → VC p l e rmX3_someoneLiesIn s m args below meth c D ac q (QIC D ac q xa xv below args s (r, σ)) σ (F0 m 84 ls [])) (hc3 : ∀ (v4x : Int) (ls : Array Slot), lv_has ls 5 [(0, .ref (q 13)), (1, .int (i32 v1)), (2, .int (i32 v2)), (3, .int (i32 v3)), (4, .int (i32 v4x))] → c3 v4x = some r → VC p l e rmX3_someoneLiesIn s m args below meth c D ac q (QIC D ac q xa xv below args s (r, σ)) σ (F0 m 3 ls [])) (hl : lv_has ls 5 [(0, .ref (q 13)), (1, .int (i32 v1)), (2, .int (i32 v2)), (3, .int (i32 v3)), (4, .int (i32 v4))]) (h : fX3_someoneLiesIn_3 v1 v2 v3 σ e3 c3 v4 = some r) : VC p l e rmX3_someoneLiesIn s m args below meth c D ac q (QIC D ac q xa xv below args s (r, σ)) σ (F0 m 3 ls []) := by
  have h : cr v4 (cr (σ 95 9) ((if v4 < σ 95 9 then chk v4 24 (cr (σ 16 (v4).toNat) ((if σ 16 (v4).toNat = 0 then fX3_someoneLiesIn_78 c3 v1 v2 v3 v4 σ else cr v4 (cr v1 ((if v4 = v1 then fX3_someoneLiesIn_78 c3 v1 v2 v3 v4 σ else cr v4 (cr v2 ((if v4 = v2 then fX3_someoneLiesIn_78 c3 v1 v2 v3 v4 σ else cr v4 (cr v3 ((if v4 = v3 then fX3_someoneLiesIn_78 c3 v1 v2 v3 v4 σ else chk v4 24 (chk v4 24 (bd (fX1_isInTriangle 95 v1 v2 v3 (σ 96 (v4).toNat) (σ 97 (v4).toNat) σ) (fun x_10 => cr x_10 ((if x_10 = 0 then fX3_someoneLiesIn_78 c3 v1 v2 v3 v4 σ else some 1))))))))))))))))) else e3))) = some r := h
  refine v_iload C hl dX3_someoneLiesIn_3 4 rfl ?_
  refine v_aload_n C hl dX3_someoneLiesIn_5 rfl 0 rfl ?_
  refine g_X3_0 C kdC_13 fl_X3_27 dX3_someoneLiesIn_6 ?_
  refine g_X1_9 C kdC_95 fl_X3_49 dX3_someoneLiesIn_9 ?_
  have hz1 := (cr_e h).1
  have h := (cr_e h).2
  have hz2 := (cr_e h).1
  have h := (cr_e h).2
  refine v_icmp_ge C (tgt := 84) hz1 hz2 h dX3_someoneLiesIn_12 rfl (fun h => ?_) (fun h => ?_)
  · exact he3  _ (lv_sub hl [0] rfl) h
  · refine v_aload_n C hl dX3_someoneLiesIn_15 rfl 0 rfl ?_
    refine g_X3_3 C kdC_13 fl_X3_20 dX3_someoneLiesIn_16 ?_
    refine v_iload C hl dX3_someoneLiesIn_19 4 rfl ?_
    refine alC15 C kdC_16 h dX3_someoneLiesIn_21 (fun h => ?_)
    have hz3 := (cr_e h).1
    have h := (cr_e h).2
    refine v_if_eq C (tgt := 78) hz3 h dX3_someoneLiesIn_22 rfl (fun h => ?_) (fun h => ?_)
    · exact wX3_someoneLiesIn_78 C hr hc3 (lv_sub hl [0, 1, 2, 3, 4] rfl) h
    · refine v_iload C hl dX3_someoneLiesIn_25 4 rfl ?_
      refine v_iload_n C hl dX3_someoneLiesIn_27 rfl 1 rfl ?_
      have hz4 := (cr_e h).1
      have h := (cr_e h).2
      have hz5 := (cr_e h).1
      have h := (cr_e h).2
      refine v_icmp_eq C (tgt := 78) hz4 hz5 h dX3_someoneLiesIn_28 rfl (fun h => ?_) (fun h => ?_)
      · exact wX3_someoneLiesIn_78 C hr hc3 (lv_sub hl [0, 1, 2, 3, 4] rfl) h
      · refine v_iload C hl dX3_someoneLiesIn_31 4 rfl ?_
        refine v_iload_n C hl dX3_someoneLiesIn_33 rfl 2 rfl ?_
        have hz6 := (cr_e h).1
        have h := (cr_e h).2
        have hz7 := (cr_e h).1
        have h := (cr_e h).2
        refine v_icmp_eq C (tgt := 78) hz6 hz7 h dX3_someoneLiesIn_34 rfl (fun h => ?_) (fun h => ?_)
        · exact wX3_someoneLiesIn_78 C hr hc3 (lv_sub hl [0, 1, 2, 3, 4] rfl) h
        · refine v_iload C hl dX3_someoneLiesIn_37 4 rfl ?_
          refine v_iload_n C hl dX3_someoneLiesIn_39 rfl 3 rfl ?_
          have hz8 := (cr_e h).1
          have h := (cr_e h).2
          have hz9 := (cr_e h).1
          have h := (cr_e h).2
          refine v_icmp_eq C (tgt := 78) hz8 hz9 h dX3_someoneLiesIn_40 rfl (fun h => ?_) (fun h => ?_)
          · exact wX3_someoneLiesIn_78 C hr hc3 (lv_sub hl [0, 1, 2, 3, 4] rfl) h
          · refine v_aload_n C hl dX3_someoneLiesIn_43 rfl 0 rfl ?_
            refine g_X3_0 C kdC_13 fl_X3_27 dX3_someoneLiesIn_44 ?_
            refine v_iload_n C hl dX3_someoneLiesIn_47 rfl 1 rfl ?_
            refine v_iload_n C hl dX3_someoneLiesIn_48 rfl 2 rfl ?_
            refine v_iload_n C hl dX3_someoneLiesIn_49 rfl 3 rfl ?_
            refine v_aload_n C hl dX3_someoneLiesIn_50 rfl 0 rfl ?_
            refine g_X3_0 C kdC_13 fl_X3_27 dX3_someoneLiesIn_51 ?_
            refine g_X1_0 C kdC_95 fl_X3_88 dX3_someoneLiesIn_54 ?_
            refine v_iload C hl dX3_someoneLiesIn_57 4 rfl ?_
            refine alC8 C kdC_96 h dX3_someoneLiesIn_59 (fun h => ?_)
            refine v_aload_n C hl dX3_someoneLiesIn_60 rfl 0 rfl ?_
            refine g_X3_0 C kdC_13 fl_X3_27 dX3_someoneLiesIn_61 ?_
            refine g_X1_1 C kdC_95 fl_X3_91 dX3_someoneLiesIn_64 ?_
            refine v_iload C hl dX3_someoneLiesIn_67 4 rfl ?_
            refine alC8 C kdC_97 h dX3_someoneLiesIn_69 (fun h => ?_)
            obtain ⟨x_10, hv10, h⟩ := bd_e h
            refine v_callVI C 95 (klC kdC_95) rfl (ckC23 kdC_95 _) rfl [.int (i32 v1), .int (i32 v2), .int (i32 v3), .int (i32 (σ 96 (v4).toNat)), .int (i32 (σ 97 (v4).toNat))] (mX1_isInTriangle C.2.2.2.2.1 kdC_95 hv10) cd_X1_isInTriangle ic_X1 im_X1_isInTriangle se_X1_isInTriangle ml_X3_120 yk_X1_isInTriangle ⟨rfl, rfl, by decide, by decide⟩ rfl hl.1 (rest := []) rfl (Nat.le_of_ble_eq_true rfl) dX3_someoneLiesIn_70 ?_
            have hz11 := (cr_e h).1
            have h := (cr_e h).2
            refine v_if_eq C (tgt := 78) hz11 h dX3_someoneLiesIn_73 rfl (fun h => ?_) (fun h => ?_)
            · exact wX3_someoneLiesIn_78 C hr hc3 (lv_sub hl [0, 1, 2, 3, 4] rfl) h
            · refine v_iconst C dX3_someoneLiesIn_76 ?_
              exact v_zret C hr (Or.inr rfl) (so1 h) dX3_someoneLiesIn_77
theorem wlX3_someoneLiesIn_3 (C : CxC p rmX3_someoneLiesIn s m args meth c D ac q xa xv RX3 cX3_someoneLiesIn 5) (hr : meth.sig.returnType = (some .boolean)) {v1 : Int} {v2 : Int} {v3 : Int} {σ : Mm} {e3 : Option (Int)} {r : Int} (he3 : ∀ (ls : Array Slot), lv_has ls 5 [(0, .ref (q 13))] → e3 = some r → VC p l e rmX3_someoneLiesIn s m args below meth c D ac q (QIC D ac q xa xv below args s (r, σ)) σ (F0 m 84 ls [])) : ∀ (fu : Nat) (v4 : Int) (ls : Array Slot) (hl : lv_has ls 5 [(0, .ref (q 13)), (1, .int (i32 v1)), (2, .int (i32 v2)), (3, .int (i32 v3)), (4, .int (i32 v4))]) (h : lX3_someoneLiesIn_3 v1 v2 v3 σ e3 fu v4 = some r), VC p l e rmX3_someoneLiesIn s m args below meth c D ac q (QIC D ac q xa xv below args s (r, σ)) σ (F0 m 3 ls []) := by
  intro fu
  induction fu with
  | zero =>
    intro v4 ls hl h
    have h : none = some r := h
    cases h
  | succ fu ih =>
    intro v4 ls hl h
    exact wX3_someoneLiesIn_3 C hr he3 (fun v4 ls hl h => ih v4 ls hl h) hl h
theorem mX3_someoneLiesIn (hq : QI 175 q) {v1 : Int} {v2 : Int} {v3 : Int} {σ : Mm} {r : Int} (h : fX3_someoneLiesIn v1 v2 v3 σ = some r) : MIC l D ac q xa xv yX3_someoneLiesIn cX3_someoneLiesIn 5 (some .boolean) rmX3_someoneLiesIn [.ref (q 13), .int (i32 v1), .int (i32 v2), .int (i32 v3)] σ (r, σ) := by
  refine MI.of hq XC_M (by decide) (Nat.le_of_ble_eq_true rfl) (fun p e s m below meth c ls C hr hl => ?_)
  have hl : lv_has ls 5 [(0, .ref (q 13)), (1, .int (i32 v1)), (2, .int (i32 v2)), (3, .int (i32 v3))] := hl
  have h : bindv 0 (fun v4_1 => lX3_someoneLiesIn_3 v1 v2 v3 σ (fX3_someoneLiesIn_84 σ) 400 v4_1) = some r := h
  refine v_iconst C dX3_someoneLiesIn_0 ?_
  refine v_istore C hl (fun x => [(4, .int (i32 x)), (0, .ref (q 13)), (1, .int (i32 v1)), (2, .int (i32 v2)), (3, .int (i32 v3))]) dX3_someoneLiesIn_1 (by decide) (fun _ => rfl) h (fun v4_1 ls hl h => ?_)
  exact wlX3_someoneLiesIn_3 C hr (fun ls hl h => wX3_someoneLiesIn_84 C hr (lv_sub hl [0] rfl) h) _ _ _ (lv_sub hl [1, 2, 3, 4, 0] rfl) h
end
section
variable {l : Launch} {D : va_G} {ac : Nat → ClassId} {q xa xv : Nat → Nat} {p : Program} {e : Env} {s : State} {m : MethodId} {args : Array Value} {below : List Frame} {meth : Method} {c : Code} {ls : Array Slot}
theorem dX3_wouldTurnOver_0 : decode cX3_wouldTurnOver 0 = .ok (.iconst 0, 1) := by decide +kernel
theorem dX3_wouldTurnOver_1 : decode cX3_wouldTurnOver 1 = .ok (.istore_n 2, 1) := by decide +kernel
theorem dX3_wouldTurnOver_2 : decode cX3_wouldTurnOver 2 = .ok (.iload_n 2, 1) := by decide +kernel
theorem dX3_wouldTurnOver_3 : decode cX3_wouldTurnOver 3 = .ok (.aload_n 0, 1) := by decide +kernel
theorem dX3_wouldTurnOver_4 : decode cX3_wouldTurnOver 4 = .ok (.getfield 27, 3) := by decide +kernel
theorem dX3_wouldTurnOver_7 : decode cX3_wouldTurnOver 7 = .ok (.getfield 31, 3) := by decide +kernel
theorem dX3_wouldTurnOver_10 : decode cX3_wouldTurnOver 10 = .ok (.if_icmp .ge 72, 3) := by decide +kernel
theorem dX3_wouldTurnOver_13 : decode cX3_wouldTurnOver 13 = .ok (.aload_n 0, 1) := by decide +kernel
theorem dX3_wouldTurnOver_14 : decode cX3_wouldTurnOver 14 = .ok (.iload_n 2, 1) := by decide +kernel
theorem dX3_wouldTurnOver_15 : decode cX3_wouldTurnOver 15 = .ok (.iload_n 1, 1) := by decide +kernel
theorem dX3_wouldTurnOver_16 : decode cX3_wouldTurnOver 16 = .ok (.aload_n 0, 1) := by decide +kernel
theorem dX3_wouldTurnOver_17 : decode cX3_wouldTurnOver 17 = .ok (.getfield 24, 3) := by decide +kernel
theorem dX3_wouldTurnOver_20 : decode cX3_wouldTurnOver 20 = .ok (.invokevirtual 52, 3) := by decide +kernel
theorem dX3_wouldTurnOver_23 : decode cX3_wouldTurnOver 23 = .ok (.istore_n 3, 1) := by decide +kernel
theorem dX3_wouldTurnOver_24 : decode cX3_wouldTurnOver 24 = .ok (.iload_n 3, 1) := by decide +kernel
theorem dX3_wouldTurnOver_25 : decode cX3_wouldTurnOver 25 = .ok (.aload_n 0, 1) := by decide +kernel
theorem dX3_wouldTurnOver_26 : decode cX3_wouldTurnOver 26 = .ok (.getfield 16, 3) := by decide +kernel
theorem dX3_wouldTurnOver_29 : decode cX3_wouldTurnOver 29 = .ok (.iload_n 2, 1) := by decide +kernel
theorem dX3_wouldTurnOver_30 : decode cX3_wouldTurnOver 30 = .ok (.iaload, 1) := by decide +kernel
theorem dX3_wouldTurnOver_31 : decode cX3_wouldTurnOver 31 = .ok (.if_icmp .ge 45, 3) := by decide +kernel
theorem dX3_wouldTurnOver_34 : decode cX3_wouldTurnOver 34 = .ok (.aload_n 0, 1) := by decide +kernel
theorem dX3_wouldTurnOver_35 : decode cX3_wouldTurnOver 35 = .ok (.getfield 27, 3) := by decide +kernel
theorem dX3_wouldTurnOver_38 : decode cX3_wouldTurnOver 38 = .ok (.aload_n 0, 1) := by decide +kernel
theorem dX3_wouldTurnOver_39 : decode cX3_wouldTurnOver 39 = .ok (.getfield 24, 3) := by decide +kernel
theorem dX3_wouldTurnOver_42 : decode cX3_wouldTurnOver 42 = .ok (.iload_n 3, 1) := by decide +kernel
theorem dX3_wouldTurnOver_43 : decode cX3_wouldTurnOver 43 = .ok (.invokevirtual 60, 3) := by decide +kernel
theorem dX3_wouldTurnOver_46 : decode cX3_wouldTurnOver 46 = .ok (.invokestatic 124, 3) := by decide +kernel
theorem dX3_wouldTurnOver_49 : decode cX3_wouldTurnOver 49 = .ok (.aload_n 0, 1) := by decide +kernel
theorem dX3_wouldTurnOver_50 : decode cX3_wouldTurnOver 50 = .ok (.getfield 27, 3) := by decide +kernel
theorem dX3_wouldTurnOver_53 : decode cX3_wouldTurnOver 53 = .ok (.aload_n 0, 1) := by decide +kernel
theorem dX3_wouldTurnOver_54 : decode cX3_wouldTurnOver 54 = .ok (.getfield 11, 3) := by decide +kernel
theorem dX3_wouldTurnOver_57 : decode cX3_wouldTurnOver 57 = .ok (.iload_n 2, 1) := by decide +kernel
theorem dX3_wouldTurnOver_58 : decode cX3_wouldTurnOver 58 = .ok (.aaload, 1) := by decide +kernel
theorem dX3_wouldTurnOver_59 : decode cX3_wouldTurnOver 59 = .ok (.aload_n 0, 1) := by decide +kernel
theorem dX3_wouldTurnOver_60 : decode cX3_wouldTurnOver 60 = .ok (.getfield 16, 3) := by decide +kernel
theorem dX3_wouldTurnOver_63 : decode cX3_wouldTurnOver 63 = .ok (.iload_n 2, 1) := by decide +kernel
theorem dX3_wouldTurnOver_64 : decode cX3_wouldTurnOver 64 = .ok (.iaload, 1) := by decide +kernel
theorem dX3_wouldTurnOver_65 : decode cX3_wouldTurnOver 65 = .ok (.invokevirtual 60, 3) := by decide +kernel
theorem dX3_wouldTurnOver_68 : decode cX3_wouldTurnOver 68 = .ok (.invokestatic 124, 3) := by decide +kernel
theorem dX3_wouldTurnOver_71 : decode cX3_wouldTurnOver 71 = .ok (.if_icmp .eq 5, 3) := by decide +kernel
theorem dX3_wouldTurnOver_74 : decode cX3_wouldTurnOver 74 = .ok (.iconst 1, 1) := by decide +kernel
theorem dX3_wouldTurnOver_75 : decode cX3_wouldTurnOver 75 = .ok (.ireturn, 1) := by decide +kernel
theorem dX3_wouldTurnOver_76 : decode cX3_wouldTurnOver 76 = .ok (.iinc 2 1, 3) := by decide +kernel
theorem dX3_wouldTurnOver_79 : decode cX3_wouldTurnOver 79 = .ok (.goto (-77), 3) := by decide +kernel
theorem dX3_wouldTurnOver_82 : decode cX3_wouldTurnOver 82 = .ok (.iconst 0, 1) := by decide +kernel
theorem dX3_wouldTurnOver_83 : decode cX3_wouldTurnOver 83 = .ok (.ireturn, 1) := by decide +kernel
theorem wX3_wouldTurnOver_82 (C : CxC p rmX3_wouldTurnOver s m args meth c D ac q xa xv RX3 cX3_wouldTurnOver 4) (hr : meth.sig.returnType = (some .boolean)) {σ : Mm} {r : Int × Mm} (hl : lv_has ls 4 [(0, .ref (q 13))]) (h : fX3_wouldTurnOver_82 σ = some r) : VC p l e rmX3_wouldTurnOver s m args below meth c D ac q (QIC D ac q xa xv below args s r) σ (F0 m 82 ls []) := by
  have h : some (0, σ) = some r := h
  refine v_iconst C dX3_wouldTurnOver_82 ?_
  exact v_zret C hr (Or.inl rfl) h dX3_wouldTurnOver_83
theorem wX3_wouldTurnOver_76 (C : CxC p rmX3_wouldTurnOver s m args meth c D ac q xa xv RX3 cX3_wouldTurnOver 4) (hr : meth.sig.returnType = (some .boolean)) {v1 : Int} {v2 : Int} {c2 : Int → Mm → Option (Int × Mm)} {σ : Mm} {r : Int × Mm} (hc2 : ∀ (v2x : Int) (σ : Mm) (ls : Array Slot), lv_has ls 4 [(0, .ref (q 13)), (1, .int (i32 v1)), (2, .int (i32 v2x))] → c2 v2x σ = some r → VC p l e rmX3_wouldTurnOver s m args below meth c D ac q (QIC D ac q xa xv below args s r) σ (F0 m 2 ls [])) (hl : lv_has ls 4 [(0, .ref (q 13)), (1, .int (i32 v1)), (2, .int (i32 v2))]) (h : fX3_wouldTurnOver_76 c2 v1 v2 σ = some r) : VC p l e rmX3_wouldTurnOver s m args below meth c D ac q (QIC D ac q xa xv below args s r) σ (F0 m 76 ls []) := by
  have h : bindv (v2 + 1) (fun v2_1 => c2 v2_1 σ) = some r := h
  refine v_iinc C hl (fun x => [(2, .int (i32 x)), (0, .ref (q 13)), (1, .int (i32 v1))]) dX3_wouldTurnOver_76 2 rfl (by decide) (fun _ => rfl) h (fun v2_1 ls hl h => ?_)
  refine v_goto C (tgt := 2) dX3_wouldTurnOver_79 rfl ?_
  exact hc2 _ _ _ (lv_sub hl [1, 2, 0] rfl) h
theorem wX3_wouldTurnOver_2 (C : CxC p rmX3_wouldTurnOver s m args meth c D ac q xa xv RX3 cX3_wouldTurnOver 4) (hr : meth.sig.returnType = (some .boolean)) {v1 : Int} {v2 : Int} {σ : Mm} {e2 : Mm → Option (Int × Mm)} {c2 : Int → Mm → Option (Int × Mm)} {r : Int × Mm} (he2 : ∀ (σ : Mm) (ls : Array Slot), lv_has ls 4 [(0, .ref (q 13))] → e2 σ = some r → VC p l e rmX3_wouldTurnOver s m args below meth c D ac q (QIC D ac q xa xv below args s r) σ (F0 m 82 ls [])) (hc2 : ∀ (v2x : Int) (σ : Mm) (ls : Array Slot), lv_has ls 4 [(0, .ref (q 13)), (1, .int (i32 v1)), (2, .int (i32 v2x))] → c2 v2x σ = some r → VC p l e rmX3_wouldTurnOver s m args below meth c D ac q (QIC D ac q xa xv below args s r) σ (F0 m 2 ls [])) (hl : lv_has ls 4 [(0, .ref (q 13)), (1, .int (i32 v1)), (2, .int (i32 v2))]) (h : fX3_wouldTurnOver_2 v1 e2 c2 v2 σ = some r) : VC p l e rmX3_wouldTurnOver s m args below meth c D ac q (QIC D ac q xa xv below args s r) σ (F0 m 2 ls []) := by
  have h : cr v2 (cr (σ 95 10) ((if v2 < σ 95 10 then bd2 (fX3_copyWithout 17 v2 v1 σ) (fun x_3 σ_3 => bindv x_3 (fun v3_4 => chk v2 6 (cr v3_4 (cr (σ_3 15 (v2).toNat) ((if v3_4 < σ_3 15 (v2).toNat then bd (fX1_areaOf 95 17 v3_4 σ_3) (fun x_7 => bd (fJ6_signum_0f7a4 x_7 σ_3) (fun x_8 => chk v2 6 (chk v2 6 (bd (fX1_areaOf 95 (29 + (v2).toNat) (σ_3 15 (v2).toNat) σ_3) (fun x_10 => bd (fJ6_signum_0f7a4 x_10 σ_3) (fun x_11 => cr x_8 (cr x_11 ((if x_8 = x_11 then fX3_wouldTurnOver_76 c2 v1 v2 σ_3 else some (1, σ_3)))))))))) else fX3_wouldTurnOver_76 c2 v1 v2 σ_3)))))) else e2 σ))) = some r := h
  refine v_iload_n C hl dX3_wouldTurnOver_2 rfl 2 rfl ?_
  refine v_aload_n C hl dX3_wouldTurnOver_3 rfl 0 rfl ?_
  refine g_X3_0 C kdC_13 fl_X3_27 dX3_wouldTurnOver_4 ?_
  refine g_X1_10 C kdC_95 fl_X3_31 dX3_wouldTurnOver_7 ?_
  have hz1 := (cr_e h).1
  have h := (cr_e h).2
  have hz2 := (cr_e h).1
  have h := (cr_e h).2
  refine v_icmp_ge C (tgt := 82) hz1 hz2 h dX3_wouldTurnOver_10 rfl (fun h => ?_) (fun h => ?_)
  · exact he2 _ _ (lv_sub hl [0] rfl) h
  · refine v_aload_n C hl dX3_wouldTurnOver_13 rfl 0 rfl ?_
    refine v_iload_n C hl dX3_wouldTurnOver_14 rfl 2 rfl ?_
    refine v_iload_n C hl dX3_wouldTurnOver_15 rfl 1 rfl ?_
    refine v_aload_n C hl dX3_wouldTurnOver_16 rfl 0 rfl ?_
    refine g_X3_4 C kdC_13 fl_X3_24 dX3_wouldTurnOver_17 ?_
    obtain ⟨x_3, σ_3, hv3, h⟩ := bd2_e h
    refine v_callVI C 13 (klC kdC_13) rfl (ckC12 kdC_13 _) rfl [.int (i32 v2), .int (i32 v1), .ref (q 17)] (mX3_copyWithout C.2.2.2.2.1 kdC_17 hv3) cd_X3_copyWithout ic_X3 im_X3_copyWithout se_X3_copyWithout ml_X3_52 yk_X3_copyWithout ⟨rfl, rfl, by decide, by decide⟩ rfl hl.1 (rest := []) rfl (Nat.le_of_ble_eq_true rfl) dX3_wouldTurnOver_20 ?_
    refine v_istore_n C hl (fun x => [(3, .int (i32 x)), (0, .ref (q 13)), (1, .int (i32 v1)), (2, .int (i32 v2))]) dX3_wouldTurnOver_23 rfl (by decide) (fun _ => rfl) h (fun v3_4 ls hl h => ?_)
    refine v_iload_n C hl dX3_wouldTurnOver_24 rfl 0 rfl ?_
    refine v_aload_n C hl dX3_wouldTurnOver_25 rfl 1 rfl ?_
    refine g_X3_2 C kdC_13 fl_X3_16 dX3_wouldTurnOver_26 ?_
    refine v_iload_n C hl dX3_wouldTurnOver_29 rfl 3 rfl ?_
    refine alC14 C kdC_15 h dX3_wouldTurnOver_30 (fun h => ?_)
    have hz5 := (cr_e h).1
    have h := (cr_e h).2
    have hz6 := (cr_e h).1
    have h := (cr_e h).2
    refine v_icmp_ge C (tgt := 76) hz5 hz6 h dX3_wouldTurnOver_31 rfl (fun h => ?_) (fun h => ?_)
    · exact wX3_wouldTurnOver_76 C hr hc2 (lv_sub hl [1, 2, 3] rfl) h
    · refine v_aload_n C hl dX3_wouldTurnOver_34 rfl 1 rfl ?_
      refine g_X3_0 C kdC_13 fl_X3_27 dX3_wouldTurnOver_35 ?_
      refine v_aload_n C hl dX3_wouldTurnOver_38 rfl 1 rfl ?_
      refine g_X3_4 C kdC_13 fl_X3_24 dX3_wouldTurnOver_39 ?_
      refine v_iload_n C hl dX3_wouldTurnOver_42 rfl 0 rfl ?_
      obtain ⟨x_7, hv7, h⟩ := bd_e h
      refine v_callVI C 95 (klC kdC_95) rfl (ckC23 kdC_95 _) rfl [.ref (q 17), .int (i32 v3_4)] (mX1_areaOf C.2.2.2.2.1 kdC_95 kdC_17 hv7) cd_X1_areaOf ic_X1 im_X1_areaOf se_X1_areaOf ml_X3_60 yk_X1_areaOf ⟨rfl, rfl, by decide, by decide⟩ rfl hl.1 (rest := []) rfl (Nat.le_of_ble_eq_true rfl) dX3_wouldTurnOver_43 ?_
      obtain ⟨x_8, hv8, h⟩ := bd_e h
      refine v_callSI C [.int (i32 x_7)] (mJ6_signum_0f7a4 C.2.2.2.2.1 hv8) cd_J6_signum_0f7a4 ic_J6 sm_J6_signum_0f7a4 ml_X3_124 yk_J6_signum_0f7a4 ⟨rfl, rfl, by decide, by decide⟩ rfl hl.1 (rest := []) rfl (Nat.le_of_ble_eq_true rfl) dX3_wouldTurnOver_46 ?_
      refine v_aload_n C hl dX3_wouldTurnOver_49 rfl 1 rfl ?_
      refine g_X3_0 C kdC_13 fl_X3_27 dX3_wouldTurnOver_50 ?_
      refine v_aload_n C hl dX3_wouldTurnOver_53 rfl 1 rfl ?_
      refine g_X3_1 C kdC_13 fl_X3_11 dX3_wouldTurnOver_54 ?_
      refine v_iload_n C hl dX3_wouldTurnOver_57 rfl 3 rfl ?_
      have hi9 := (chk_e h).1
      refine arC13 C kdC_14 h dX3_wouldTurnOver_58 (fun h => ?_)
      refine v_aload_n C hl dX3_wouldTurnOver_59 rfl 1 rfl ?_
      refine g_X3_2 C kdC_13 fl_X3_16 dX3_wouldTurnOver_60 ?_
      refine v_iload_n C hl dX3_wouldTurnOver_63 rfl 3 rfl ?_
      refine alC14 C kdC_15 h dX3_wouldTurnOver_64 (fun h => ?_)
      obtain ⟨x_10, hv10, h⟩ := bd_e h
      refine v_callVI C 95 (klC kdC_95) rfl (ckC23 kdC_95 _) rfl [.ref (q (29 + (v2).toNat)), .int (i32 (σ_3 15 (v2).toNat))] (mX1_areaOf C.2.2.2.2.1 kdC_95 (keC13 kdC_14 hi9) hv10) cd_X1_areaOf ic_X1 im_X1_areaOf se_X1_areaOf ml_X3_60 yk_X1_areaOf ⟨rfl, rfl, by decide, by decide⟩ rfl hl.1 (rest := [.int (i32 x_8)]) rfl (Nat.le_of_ble_eq_true rfl) dX3_wouldTurnOver_65 ?_
      obtain ⟨x_11, hv11, h⟩ := bd_e h
      refine v_callSI C [.int (i32 x_10)] (mJ6_signum_0f7a4 C.2.2.2.2.1 hv11) cd_J6_signum_0f7a4 ic_J6 sm_J6_signum_0f7a4 ml_X3_124 yk_J6_signum_0f7a4 ⟨rfl, rfl, by decide, by decide⟩ rfl hl.1 (rest := [.int (i32 x_8)]) rfl (Nat.le_of_ble_eq_true rfl) dX3_wouldTurnOver_68 ?_
      have hz12 := (cr_e h).1
      have h := (cr_e h).2
      have hz13 := (cr_e h).1
      have h := (cr_e h).2
      refine v_icmp_eq C (tgt := 76) hz12 hz13 h dX3_wouldTurnOver_71 rfl (fun h => ?_) (fun h => ?_)
      · exact wX3_wouldTurnOver_76 C hr hc2 (lv_sub hl [1, 2, 3] rfl) h
      · refine v_iconst C dX3_wouldTurnOver_74 ?_
        exact v_zret C hr (Or.inr rfl) h dX3_wouldTurnOver_75
theorem wlX3_wouldTurnOver_2 (C : CxC p rmX3_wouldTurnOver s m args meth c D ac q xa xv RX3 cX3_wouldTurnOver 4) (hr : meth.sig.returnType = (some .boolean)) {v1 : Int} {e2 : Mm → Option (Int × Mm)} {r : Int × Mm} (he2 : ∀ (σ : Mm) (ls : Array Slot), lv_has ls 4 [(0, .ref (q 13))] → e2 σ = some r → VC p l e rmX3_wouldTurnOver s m args below meth c D ac q (QIC D ac q xa xv below args s r) σ (F0 m 82 ls [])) : ∀ (fu : Nat) (v2 : Int) (σ : Mm) (ls : Array Slot) (hl : lv_has ls 4 [(0, .ref (q 13)), (1, .int (i32 v1)), (2, .int (i32 v2))]) (h : lX3_wouldTurnOver_2 v1 e2 fu v2 σ = some r), VC p l e rmX3_wouldTurnOver s m args below meth c D ac q (QIC D ac q xa xv below args s r) σ (F0 m 2 ls []) := by
  intro fu
  induction fu with
  | zero =>
    intro v2 σ ls hl h
    have h : none = some r := h
    cases h
  | succ fu ih =>
    intro v2 σ ls hl h
    exact wX3_wouldTurnOver_2 C hr he2 (fun v2 σ ls hl h => ih v2 σ ls hl h) hl h
theorem mX3_wouldTurnOver (hq : QI 175 q) {v1 : Int} {σ : Mm} {r : Int × Mm} (h : fX3_wouldTurnOver v1 σ = some r) : MIC l D ac q xa xv yX3_wouldTurnOver cX3_wouldTurnOver 4 (some .boolean) rmX3_wouldTurnOver [.ref (q 13), .int (i32 v1)] σ r := by
  refine MI.of hq XC_M (by decide) (Nat.le_of_ble_eq_true rfl) (fun p e s m below meth c ls C hr hl => ?_)
  have hl : lv_has ls 4 [(0, .ref (q 13)), (1, .int (i32 v1))] := hl
  have h : bindv 0 (fun v2_1 => lX3_wouldTurnOver_2 v1 (fun σ_2 => fX3_wouldTurnOver_82 σ_2) 400 v2_1 σ) = some r := h
  refine v_iconst C dX3_wouldTurnOver_0 ?_
  refine v_istore_n C hl (fun x => [(2, .int (i32 x)), (0, .ref (q 13)), (1, .int (i32 v1))]) dX3_wouldTurnOver_1 rfl (by decide) (fun _ => rfl) h (fun v2_1 ls hl h => ?_)
  exact wlX3_wouldTurnOver_2 C hr (fun σ_2 ls hl h => wX3_wouldTurnOver_82 C hr (lv_sub hl [0] rfl) h) _ _ _ _ (lv_sub hl [1, 2, 0] rfl) h
end
section
variable {l : Launch} {D : va_G} {ac : Nat → ClassId} {q xa xv : Nat → Nat} {p : Program} {e : Env} {s : State} {m : MethodId} {args : Array Value} {below : List Frame} {meth : Method} {c : Code} {ls : Array Slot}
theorem dX3_reasonOf_0 : decode cX3_reasonOf 0 = .ok (.aload_n 0, 1) := by decide +kernel
theorem dX3_reasonOf_1 : decode cX3_reasonOf 1 = .ok (.getfield 27, 3) := by decide +kernel
theorem dX3_reasonOf_4 : decode cX3_reasonOf 4 = .ok (.iload_n 1, 1) := by decide +kernel
theorem dX3_reasonOf_5 : decode cX3_reasonOf 5 = .ok (.invokevirtual 103, 3) := by decide +kernel
theorem dX3_reasonOf_8 : decode cX3_reasonOf 8 = .ok (.ifCond .ne 12, 3) := by decide +kernel
theorem dX3_reasonOf_11 : decode cX3_reasonOf 11 = .ok (.aload_n 0, 1) := by decide +kernel
theorem dX3_reasonOf_12 : decode cX3_reasonOf 12 = .ok (.getfield 20, 3) := by decide +kernel
theorem dX3_reasonOf_15 : decode cX3_reasonOf 15 = .ok (.iload_n 1, 1) := by decide +kernel
theorem dX3_reasonOf_16 : decode cX3_reasonOf 16 = .ok (.baload, 1) := by decide +kernel
theorem dX3_reasonOf_17 : decode cX3_reasonOf 17 = .ok (.ifCond .ne 5, 3) := by decide +kernel
theorem dX3_reasonOf_20 : decode cX3_reasonOf 20 = .ok (.iconst 1, 1) := by decide +kernel
theorem dX3_reasonOf_21 : decode cX3_reasonOf 21 = .ok (.ireturn, 1) := by decide +kernel
theorem dX3_reasonOf_22 : decode cX3_reasonOf 22 = .ok (.aload_n 0, 1) := by decide +kernel
theorem dX3_reasonOf_23 : decode cX3_reasonOf 23 = .ok (.iload_n 1, 1) := by decide +kernel
theorem dX3_reasonOf_24 : decode cX3_reasonOf 24 = .ok (.invokevirtual 82, 3) := by decide +kernel
theorem dX3_reasonOf_27 : decode cX3_reasonOf 27 = .ok (.istore_n 2, 1) := by decide +kernel
theorem dX3_reasonOf_28 : decode cX3_reasonOf 28 = .ok (.aload_n 0, 1) := by decide +kernel
theorem dX3_reasonOf_29 : decode cX3_reasonOf 29 = .ok (.iload_n 1, 1) := by decide +kernel
theorem dX3_reasonOf_30 : decode cX3_reasonOf 30 = .ok (.invokevirtual 85, 3) := by decide +kernel
theorem dX3_reasonOf_33 : decode cX3_reasonOf 33 = .ok (.istore_n 3, 1) := by decide +kernel
theorem dX3_reasonOf_34 : decode cX3_reasonOf 34 = .ok (.iload_n 2, 1) := by decide +kernel
theorem dX3_reasonOf_35 : decode cX3_reasonOf 35 = .ok (.ifCond .lt 7, 3) := by decide +kernel
theorem dX3_reasonOf_38 : decode cX3_reasonOf 38 = .ok (.iload_n 3, 1) := by decide +kernel
theorem dX3_reasonOf_39 : decode cX3_reasonOf 39 = .ok (.ifCond .ge 5, 3) := by decide +kernel
theorem dX3_reasonOf_42 : decode cX3_reasonOf 42 = .ok (.iconst 1, 1) := by decide +kernel
theorem dX3_reasonOf_43 : decode cX3_reasonOf 43 = .ok (.ireturn, 1) := by decide +kernel
theorem dX3_reasonOf_44 : decode cX3_reasonOf 44 = .ok (.aload_n 0, 1) := by decide +kernel
theorem dX3_reasonOf_45 : decode cX3_reasonOf 45 = .ok (.iload_n 2, 1) := by decide +kernel
theorem dX3_reasonOf_46 : decode cX3_reasonOf 46 = .ok (.iload_n 3, 1) := by decide +kernel
theorem dX3_reasonOf_47 : decode cX3_reasonOf 47 = .ok (.invokevirtual 107, 3) := by decide +kernel
theorem dX3_reasonOf_50 : decode cX3_reasonOf 50 = .ok (.ifCond .le 5, 3) := by decide +kernel
theorem dX3_reasonOf_53 : decode cX3_reasonOf 53 = .ok (.iconst 2, 1) := by decide +kernel
theorem dX3_reasonOf_54 : decode cX3_reasonOf 54 = .ok (.ireturn, 1) := by decide +kernel
theorem dX3_reasonOf_55 : decode cX3_reasonOf 55 = .ok (.aload_n 0, 1) := by decide +kernel
theorem dX3_reasonOf_56 : decode cX3_reasonOf 56 = .ok (.iload_n 1, 1) := by decide +kernel
theorem dX3_reasonOf_57 : decode cX3_reasonOf 57 = .ok (.invokevirtual 110, 3) := by decide +kernel
theorem dX3_reasonOf_60 : decode cX3_reasonOf 60 = .ok (.ifCond .eq 5, 3) := by decide +kernel
theorem dX3_reasonOf_63 : decode cX3_reasonOf 63 = .ok (.iconst 3, 1) := by decide +kernel
theorem dX3_reasonOf_64 : decode cX3_reasonOf 64 = .ok (.ireturn, 1) := by decide +kernel
theorem dX3_reasonOf_65 : decode cX3_reasonOf 65 = .ok (.aload_n 0, 1) := by decide +kernel
theorem dX3_reasonOf_66 : decode cX3_reasonOf 66 = .ok (.iload_n 2, 1) := by decide +kernel
theorem dX3_reasonOf_67 : decode cX3_reasonOf 67 = .ok (.iload_n 1, 1) := by decide +kernel
theorem dX3_reasonOf_68 : decode cX3_reasonOf 68 = .ok (.iload_n 3, 1) := by decide +kernel
theorem dX3_reasonOf_69 : decode cX3_reasonOf 69 = .ok (.invokevirtual 113, 3) := by decide +kernel
theorem dX3_reasonOf_72 : decode cX3_reasonOf 72 = .ok (.ifCond .eq 5, 3) := by decide +kernel
theorem dX3_reasonOf_75 : decode cX3_reasonOf 75 = .ok (.iconst 4, 1) := by decide +kernel
theorem dX3_reasonOf_76 : decode cX3_reasonOf 76 = .ok (.ireturn, 1) := by decide +kernel
theorem dX3_reasonOf_77 : decode cX3_reasonOf 77 = .ok (.aload_n 0, 1) := by decide +kernel
theorem dX3_reasonOf_78 : decode cX3_reasonOf 78 = .ok (.iload_n 1, 1) := by decide +kernel
theorem dX3_reasonOf_79 : decode cX3_reasonOf 79 = .ok (.invokevirtual 117, 3) := by decide +kernel
theorem dX3_reasonOf_82 : decode cX3_reasonOf 82 = .ok (.ifCond .eq 7, 3) := by decide +kernel
theorem dX3_reasonOf_85 : decode cX3_reasonOf 85 = .ok (.iconst 5, 1) := by decide +kernel
theorem dX3_reasonOf_86 : decode cX3_reasonOf 86 = .ok (.goto 4, 3) := by decide +kernel
theorem dX3_reasonOf_89 : decode cX3_reasonOf 89 = .ok (.iconst 0, 1) := by decide +kernel
theorem dX3_reasonOf_90 : decode cX3_reasonOf 90 = .ok (.ireturn, 1) := by decide +kernel
theorem wX3_reasonOf_90 (C : CxC p rmX3_reasonOf s m args meth c D ac q xa xv RX3 cX3_reasonOf 4) (hr : meth.sig.returnType = (some .int)) {t0 : Int} {σ : Mm} {r : Int × Mm} (hl : lv_has ls 4 [(0, .ref (q 13))]) (h : fX3_reasonOf_90 t0 σ = some r) : VC p l e rmX3_reasonOf s m args below meth c D ac q (QIC D ac q xa xv below args s r) σ (F0 m 90 ls [.int (i32 t0)]) := by
  have h : some (t0, σ) = some r := h
  exact v_iret C hr h dX3_reasonOf_90
theorem wX3_reasonOf_42 (C : CxC p rmX3_reasonOf s m args meth c D ac q xa xv RX3 cX3_reasonOf 4) (hr : meth.sig.returnType = (some .int)) {σ : Mm} {r : Int × Mm} (hl : lv_has ls 4 [(0, .ref (q 13))]) (h : fX3_reasonOf_42 σ = some r) : VC p l e rmX3_reasonOf s m args below meth c D ac q (QIC D ac q xa xv below args s r) σ (F0 m 42 ls []) := by
  have h : some (1, σ) = some r := h
  refine v_iconst C dX3_reasonOf_42 ?_
  exact v_iret C hr h dX3_reasonOf_43
theorem wX3_reasonOf_20 (C : CxC p rmX3_reasonOf s m args meth c D ac q xa xv RX3 cX3_reasonOf 4) (hr : meth.sig.returnType = (some .int)) {σ : Mm} {r : Int × Mm} (hl : lv_has ls 4 [(0, .ref (q 13))]) (h : fX3_reasonOf_20 σ = some r) : VC p l e rmX3_reasonOf s m args below meth c D ac q (QIC D ac q xa xv below args s r) σ (F0 m 20 ls []) := by
  have h : some (1, σ) = some r := h
  refine v_iconst C dX3_reasonOf_20 ?_
  exact v_iret C hr h dX3_reasonOf_21
theorem mX3_reasonOf (hq : QI 175 q) {v1 : Int} {σ : Mm} {r : Int × Mm} (h : fX3_reasonOf v1 σ = some r) : MIC l D ac q xa xv yX3_reasonOf cX3_reasonOf 4 (some .int) rmX3_reasonOf [.ref (q 13), .int (i32 v1)] σ r := by
  refine MI.of hq XC_M (by decide) (Nat.le_of_ble_eq_true rfl) (fun p e s m below meth c ls C hr hl => ?_)
  have hl : lv_has ls 4 [(0, .ref (q 13)), (1, .int (i32 v1))] := hl
  have h : bd (fX1_isNode 95 v1 σ) (fun x_1 => cr x_1 ((if x_1 = 0 then chk v1 24 (cr (σ 16 (v1).toNat) ((if σ 16 (v1).toNat = 0 then fX3_reasonOf_20 σ else bd (fX3_ahead v1 σ) (fun x_4 => bindv x_4 (fun v2_5 => bd (fX3_behind v1 σ) (fun x_6 => bindv x_6 (fun v3_7 => cr v2_5 ((if v2_5 < 0 then fX3_reasonOf_42 σ else cr v3_7 ((if v3_7 < 0 then fX3_reasonOf_42 σ else bd (fX3_usesOf v2_5 v3_7 σ) (fun x_10 => cr x_10 ((if 0 < x_10 then some (2, σ) else bd (fX3_isInLeastRing v1 σ) (fun x_12 => cr x_12 ((if x_12 = 0 then bd (fX3_someoneLiesIn v2_5 v1 v3_7 σ) (fun x_14 => cr x_14 ((if x_14 = 0 then bd2 (fX3_wouldTurnOver v1 σ) (fun x_16 σ_16 => cr x_16 ((if x_16 = 0 then fX3_reasonOf_90 0 σ_16 else fX3_reasonOf_90 5 σ_16))) else some (4, σ)))) else some (3, σ)))))))))))))))))) else fX3_reasonOf_20 σ))) = some r := h
  refine v_aload_n C hl dX3_reasonOf_0 rfl 0 rfl ?_
  refine g_X3_0 C kdC_13 fl_X3_27 dX3_reasonOf_1 ?_
  refine v_iload_n C hl dX3_reasonOf_4 rfl 1 rfl ?_
  obtain ⟨x_1, hv1, h⟩ := bd_e h
  refine v_callVI C 95 (klC kdC_95) rfl (ckC23 kdC_95 _) rfl [.int (i32 v1)] (mX1_isNode C.2.2.2.2.1 kdC_95 hv1) cd_X1_isNode ic_X1 im_X1_isNode se_X1_isNode ml_X3_103 yk_X1_isNode ⟨rfl, rfl, by decide, by decide⟩ rfl hl.1 (rest := []) rfl (Nat.le_of_ble_eq_true rfl) dX3_reasonOf_5 ?_
  have hz2 := (cr_e h).1
  have h := (cr_e h).2
  refine v_if_ne C (tgt := 20) hz2 h dX3_reasonOf_8 rfl (fun h => ?_) (fun h => ?_)
  · exact wX3_reasonOf_20 C hr (lv_sub hl [0] rfl) h
  · refine v_aload_n C hl dX3_reasonOf_11 rfl 0 rfl ?_
    refine g_X3_3 C kdC_13 fl_X3_20 dX3_reasonOf_12 ?_
    refine v_iload_n C hl dX3_reasonOf_15 rfl 1 rfl ?_
    refine alC15 C kdC_16 h dX3_reasonOf_16 (fun h => ?_)
    have hz3 := (cr_e h).1
    have h := (cr_e h).2
    refine v_if_ne C (tgt := 22) hz3 h dX3_reasonOf_17 rfl (fun h => ?_) (fun h => ?_)
    · refine v_aload_n C hl dX3_reasonOf_22 rfl 0 rfl ?_
      refine v_iload_n C hl dX3_reasonOf_23 rfl 1 rfl ?_
      obtain ⟨x_4, hv4, h⟩ := bd_e h
      refine v_callVI C 13 (klC kdC_13) rfl (ckC12 kdC_13 _) rfl [.int (i32 v1)] (mX3_ahead C.2.2.2.2.1 hv4) cd_X3_ahead ic_X3 im_X3_ahead se_X3_ahead ml_X3_82 yk_X3_ahead ⟨rfl, rfl, by decide, by decide⟩ rfl hl.1 (rest := []) rfl (Nat.le_of_ble_eq_true rfl) dX3_reasonOf_24 ?_
      refine v_istore_n C hl (fun x => [(2, .int (i32 x)), (0, .ref (q 13)), (1, .int (i32 v1))]) dX3_reasonOf_27 rfl (by decide) (fun _ => rfl) h (fun v2_5 ls hl h => ?_)
      refine v_aload_n C hl dX3_reasonOf_28 rfl 1 rfl ?_
      refine v_iload_n C hl dX3_reasonOf_29 rfl 2 rfl ?_
      obtain ⟨x_6, hv6, h⟩ := bd_e h
      refine v_callVI C 13 (klC kdC_13) rfl (ckC12 kdC_13 _) rfl [.int (i32 v1)] (mX3_behind C.2.2.2.2.1 hv6) cd_X3_behind ic_X3 im_X3_behind se_X3_behind ml_X3_85 yk_X3_behind ⟨rfl, rfl, by decide, by decide⟩ rfl hl.1 (rest := []) rfl (Nat.le_of_ble_eq_true rfl) dX3_reasonOf_30 ?_
      refine v_istore_n C hl (fun x => [(3, .int (i32 x)), (2, .int (i32 v2_5)), (0, .ref (q 13)), (1, .int (i32 v1))]) dX3_reasonOf_33 rfl (by decide) (fun _ => rfl) h (fun v3_7 ls hl h => ?_)
      refine v_iload_n C hl dX3_reasonOf_34 rfl 1 rfl ?_
      have hz8 := (cr_e h).1
      have h := (cr_e h).2
      refine v_if_lt C (tgt := 42) hz8 h dX3_reasonOf_35 rfl (fun h => ?_) (fun h => ?_)
      · exact wX3_reasonOf_42 C hr (lv_sub hl [2] rfl) h
      · refine v_iload_n C hl dX3_reasonOf_38 rfl 0 rfl ?_
        have hz9 := (cr_e h).1
        have h := (cr_e h).2
        refine v_if_ge C (tgt := 44) hz9 h dX3_reasonOf_39 rfl (fun h => ?_) (fun h => ?_)
        · refine v_aload_n C hl dX3_reasonOf_44 rfl 2 rfl ?_
          refine v_iload_n C hl dX3_reasonOf_45 rfl 1 rfl ?_
          refine v_iload_n C hl dX3_reasonOf_46 rfl 0 rfl ?_
          obtain ⟨x_10, hv10, h⟩ := bd_e h
          refine v_callVI C 13 (klC kdC_13) rfl (ckC12 kdC_13 _) rfl [.int (i32 v2_5), .int (i32 v3_7)] (mX3_usesOf C.2.2.2.2.1 hv10) cd_X3_usesOf ic_X3 im_X3_usesOf se_X3_usesOf ml_X3_107 yk_X3_usesOf ⟨rfl, rfl, by decide, by decide⟩ rfl hl.1 (rest := []) rfl (Nat.le_of_ble_eq_true rfl) dX3_reasonOf_47 ?_
          have hz11 := (cr_e h).1
          have h := (cr_e h).2
          refine v_if_le C (tgt := 55) hz11 h dX3_reasonOf_50 rfl (fun h => ?_) (fun h => ?_)
          · refine v_aload_n C hl dX3_reasonOf_55 rfl 2 rfl ?_
            refine v_iload_n C hl dX3_reasonOf_56 rfl 3 rfl ?_
            obtain ⟨x_12, hv12, h⟩ := bd_e h
            refine v_callVI C 13 (klC kdC_13) rfl (ckC12 kdC_13 _) rfl [.int (i32 v1)] (mX3_isInLeastRing C.2.2.2.2.1 hv12) cd_X3_isInLeastRing ic_X3 im_X3_isInLeastRing se_X3_isInLeastRing ml_X3_110 yk_X3_isInLeastRing ⟨rfl, rfl, by decide, by decide⟩ rfl hl.1 (rest := []) rfl (Nat.le_of_ble_eq_true rfl) dX3_reasonOf_57 ?_
            have hz13 := (cr_e h).1
            have h := (cr_e h).2
            refine v_if_eq C (tgt := 65) hz13 h dX3_reasonOf_60 rfl (fun h => ?_) (fun h => ?_)
            · refine v_aload_n C hl dX3_reasonOf_65 rfl 2 rfl ?_
              refine v_iload_n C hl dX3_reasonOf_66 rfl 1 rfl ?_
              refine v_iload_n C hl dX3_reasonOf_67 rfl 3 rfl ?_
              refine v_iload_n C hl dX3_reasonOf_68 rfl 0 rfl ?_
              obtain ⟨x_14, hv14, h⟩ := bd_e h
              refine v_callVI C 13 (klC kdC_13) rfl (ckC12 kdC_13 _) rfl [.int (i32 v2_5), .int (i32 v1), .int (i32 v3_7)] (mX3_someoneLiesIn C.2.2.2.2.1 hv14) cd_X3_someoneLiesIn ic_X3 im_X3_someoneLiesIn se_X3_someoneLiesIn ml_X3_113 yk_X3_someoneLiesIn ⟨rfl, rfl, by decide, by decide⟩ rfl hl.1 (rest := []) rfl (Nat.le_of_ble_eq_true rfl) dX3_reasonOf_69 ?_
              have hz15 := (cr_e h).1
              have h := (cr_e h).2
              refine v_if_eq C (tgt := 77) hz15 h dX3_reasonOf_72 rfl (fun h => ?_) (fun h => ?_)
              · refine v_aload_n C hl dX3_reasonOf_77 rfl 2 rfl ?_
                refine v_iload_n C hl dX3_reasonOf_78 rfl 3 rfl ?_
                obtain ⟨x_16, σ_16, hv16, h⟩ := bd2_e h
                refine v_callVI C 13 (klC kdC_13) rfl (ckC12 kdC_13 _) rfl [.int (i32 v1)] (mX3_wouldTurnOver C.2.2.2.2.1 hv16) cd_X3_wouldTurnOver ic_X3 im_X3_wouldTurnOver se_X3_wouldTurnOver ml_X3_117 yk_X3_wouldTurnOver ⟨rfl, rfl, by decide, by decide⟩ rfl hl.1 (rest := []) rfl (Nat.le_of_ble_eq_true rfl) dX3_reasonOf_79 ?_
                have hz17 := (cr_e h).1
                have h := (cr_e h).2
                refine v_if_eq C (tgt := 89) hz17 h dX3_reasonOf_82 rfl (fun h => ?_) (fun h => ?_)
                · refine v_iconst C dX3_reasonOf_89 ?_
                  exact wX3_reasonOf_90 C hr (lv_sub hl [2] rfl) h
                · refine v_iconst C dX3_reasonOf_85 ?_
                  refine v_goto C (tgt := 90) dX3_reasonOf_86 rfl ?_
                  exact wX3_reasonOf_90 C hr (lv_sub hl [2] rfl) h
              · refine v_iconst C dX3_reasonOf_75 ?_
                exact v_iret C hr h dX3_reasonOf_76
            · refine v_iconst C dX3_reasonOf_63 ?_
              exact v_iret C hr h dX3_reasonOf_64
          · refine v_iconst C dX3_reasonOf_53 ?_
            exact v_iret C hr h dX3_reasonOf_54
        · exact wX3_reasonOf_42 C hr (lv_sub hl [2] rfl) h
    · exact wX3_reasonOf_20 C hr (lv_sub hl [0] rfl) h
end
section
variable {l : Launch} {D : va_G} {ac : Nat → ClassId} {q xa xv : Nat → Nat} {p : Program} {e : Env} {s : State} {m : MethodId} {args : Array Value} {below : List Frame} {meth : Method} {c : Code} {ls : Array Slot}
theorem dX3_showAll_0 : decode cX3_showAll 0 = .ok (.iconst 0, 1) := by decide +kernel
theorem dX3_showAll_1 : decode cX3_showAll 1 = .ok (.istore_n 1, 1) := by decide +kernel
theorem dX3_showAll_2 : decode cX3_showAll 2 = .ok (.iload_n 1, 1) := by decide +kernel
theorem dX3_showAll_3 : decode cX3_showAll 3 = .ok (.aload_n 0, 1) := by decide +kernel
theorem dX3_showAll_4 : decode cX3_showAll 4 = .ok (.getfield 27, 3) := by decide +kernel
theorem dX3_showAll_7 : decode cX3_showAll 7 = .ok (.getfield 31, 3) := by decide +kernel
theorem dX3_showAll_10 : decode cX3_showAll 10 = .ok (.if_icmp .ge 46, 3) := by decide +kernel
theorem dX3_showAll_13 : decode cX3_showAll 13 = .ok (.aload_n 0, 1) := by decide +kernel
theorem dX3_showAll_14 : decode cX3_showAll 14 = .ok (.getfield 16, 3) := by decide +kernel
theorem dX3_showAll_17 : decode cX3_showAll 17 = .ok (.iload_n 1, 1) := by decide +kernel
theorem dX3_showAll_18 : decode cX3_showAll 18 = .ok (.aload_n 0, 1) := by decide +kernel
theorem dX3_showAll_19 : decode cX3_showAll 19 = .ok (.getfield 27, 3) := by decide +kernel
theorem dX3_showAll_22 : decode cX3_showAll 22 = .ok (.getfield 37, 3) := by decide +kernel
theorem dX3_showAll_25 : decode cX3_showAll 25 = .ok (.iload_n 1, 1) := by decide +kernel
theorem dX3_showAll_26 : decode cX3_showAll 26 = .ok (.iaload, 1) := by decide +kernel
theorem dX3_showAll_27 : decode cX3_showAll 27 = .ok (.iastore, 1) := by decide +kernel
theorem dX3_showAll_28 : decode cX3_showAll 28 = .ok (.aload_n 0, 1) := by decide +kernel
theorem dX3_showAll_29 : decode cX3_showAll 29 = .ok (.getfield 27, 3) := by decide +kernel
theorem dX3_showAll_32 : decode cX3_showAll 32 = .ok (.getfield 40, 3) := by decide +kernel
theorem dX3_showAll_35 : decode cX3_showAll 35 = .ok (.iload_n 1, 1) := by decide +kernel
theorem dX3_showAll_36 : decode cX3_showAll 36 = .ok (.aaload, 1) := by decide +kernel
theorem dX3_showAll_37 : decode cX3_showAll 37 = .ok (.iconst 0, 1) := by decide +kernel
theorem dX3_showAll_38 : decode cX3_showAll 38 = .ok (.aload_n 0, 1) := by decide +kernel
theorem dX3_showAll_39 : decode cX3_showAll 39 = .ok (.getfield 11, 3) := by decide +kernel
theorem dX3_showAll_42 : decode cX3_showAll 42 = .ok (.iload_n 1, 1) := by decide +kernel
theorem dX3_showAll_43 : decode cX3_showAll 43 = .ok (.aaload, 1) := by decide +kernel
theorem dX3_showAll_44 : decode cX3_showAll 44 = .ok (.iconst 0, 1) := by decide +kernel
theorem dX3_showAll_45 : decode cX3_showAll 45 = .ok (.bipush 10, 2) := by decide +kernel
theorem dX3_showAll_47 : decode cX3_showAll 47 = .ok (.invokestatic 43, 3) := by decide +kernel
theorem dX3_showAll_50 : decode cX3_showAll 50 = .ok (.iinc 1 1, 3) := by decide +kernel
theorem dX3_showAll_53 : decode cX3_showAll 53 = .ok (.goto (-51), 3) := by decide +kernel
theorem dX3_showAll_56 : decode cX3_showAll 56 = .ok (.iconst 0, 1) := by decide +kernel
theorem dX3_showAll_57 : decode cX3_showAll 57 = .ok (.istore_n 1, 1) := by decide +kernel
theorem dX3_showAll_58 : decode cX3_showAll 58 = .ok (.iload_n 1, 1) := by decide +kernel
theorem dX3_showAll_59 : decode cX3_showAll 59 = .ok (.bipush 24, 2) := by decide +kernel
theorem dX3_showAll_61 : decode cX3_showAll 61 = .ok (.if_icmp .ge 31, 3) := by decide +kernel
theorem dX3_showAll_64 : decode cX3_showAll 64 = .ok (.aload_n 0, 1) := by decide +kernel
theorem dX3_showAll_65 : decode cX3_showAll 65 = .ok (.getfield 20, 3) := by decide +kernel
theorem dX3_showAll_68 : decode cX3_showAll 68 = .ok (.iload_n 1, 1) := by decide +kernel
theorem dX3_showAll_69 : decode cX3_showAll 69 = .ok (.iload_n 1, 1) := by decide +kernel
theorem dX3_showAll_70 : decode cX3_showAll 70 = .ok (.aload_n 0, 1) := by decide +kernel
theorem dX3_showAll_71 : decode cX3_showAll 71 = .ok (.getfield 27, 3) := by decide +kernel
theorem dX3_showAll_74 : decode cX3_showAll 74 = .ok (.getfield 49, 3) := by decide +kernel
theorem dX3_showAll_77 : decode cX3_showAll 77 = .ok (.if_icmp .ge 7, 3) := by decide +kernel
theorem dX3_showAll_80 : decode cX3_showAll 80 = .ok (.iconst 1, 1) := by decide +kernel
theorem dX3_showAll_81 : decode cX3_showAll 81 = .ok (.goto 4, 3) := by decide +kernel
theorem dX3_showAll_84 : decode cX3_showAll 84 = .ok (.iconst 0, 1) := by decide +kernel
theorem dX3_showAll_85 : decode cX3_showAll 85 = .ok (.bastore, 1) := by decide +kernel
theorem dX3_showAll_86 : decode cX3_showAll 86 = .ok (.iinc 1 1, 3) := by decide +kernel
theorem dX3_showAll_89 : decode cX3_showAll 89 = .ok (.goto (-31), 3) := by decide +kernel
theorem dX3_showAll_92 : decode cX3_showAll 92 = .ok (.return_, 1) := by decide +kernel
theorem wX3_showAll_92 (C : CxC p rmX3_showAll s m args meth c D ac q xa xv RX3 cX3_showAll 2) (hr : meth.sig.returnType = none) {σ : Mm} {r : Mm} (hl : lv_has ls 2 [(0, .ref (q 13))]) (h : fX3_showAll_92 σ = some r) : VC p l e rmX3_showAll s m args below meth c D ac q (QVC D ac q xa xv below args s r) σ (F0 m 92 ls []) := by
  have h : some σ = some r := h
  exact v_vret C hr h dX3_showAll_92
theorem wX3_showAll_85 (C : CxC p rmX3_showAll s m args meth c D ac q xa xv RX3 cX3_showAll 2) (hr : meth.sig.returnType = none) {v1 : Int} {t1 : Int} {t2 : Int} {c58 : Int → Mm → Option (Mm)} {σ : Mm} {r : Mm} (hc58 : ∀ (v1x : Int) (σ : Mm) (ls : Array Slot), lv_has ls 2 [(0, .ref (q 13)), (1, .int (i32 v1x))] → c58 v1x σ = some r → VC p l e rmX3_showAll s m args below meth c D ac q (QVC D ac q xa xv below args s r) σ (F0 m 58 ls [])) (hl : lv_has ls 2 [(0, .ref (q 13)), (1, .int (i32 v1))]) (h : fX3_showAll_85 c58 v1 t1 t2 σ = some r) : VC p l e rmX3_showAll s m args below meth c D ac q (QVC D ac q xa xv below args s r) σ (F0 m 85 ls [.int (i32 t2), .int (i32 t1), .ref (q 16)]) := by
  have h : chb t2 (chk t1 24 (bindv (sto σ 16 (t1).toNat t2) (fun σ_1 => bindv (v1 + 1) (fun v1_2 => c58 v1_2 σ_1)))) = some r := h
  refine asC15 C kdC_16 h dX3_showAll_85 (fun σ_1 h => ?_)
  refine v_iinc C hl (fun x => [(1, .int (i32 x)), (0, .ref (q 13))]) dX3_showAll_86 1 rfl (by decide) (fun _ => rfl) h (fun v1_2 ls hl h => ?_)
  refine v_goto C (tgt := 58) dX3_showAll_89 rfl ?_
  exact hc58 _ _ _ (lv_sub hl [1, 0] rfl) h
theorem wX3_showAll_58 (C : CxC p rmX3_showAll s m args meth c D ac q xa xv RX3 cX3_showAll 2) (hr : meth.sig.returnType = none) {v1 : Int} {σ : Mm} {e58 : Mm → Option (Mm)} {c58 : Int → Mm → Option (Mm)} {r : Mm} (he58 : ∀ (σ : Mm) (ls : Array Slot), lv_has ls 2 [(0, .ref (q 13))] → e58 σ = some r → VC p l e rmX3_showAll s m args below meth c D ac q (QVC D ac q xa xv below args s r) σ (F0 m 92 ls [])) (hc58 : ∀ (v1x : Int) (σ : Mm) (ls : Array Slot), lv_has ls 2 [(0, .ref (q 13)), (1, .int (i32 v1x))] → c58 v1x σ = some r → VC p l e rmX3_showAll s m args below meth c D ac q (QVC D ac q xa xv below args s r) σ (F0 m 58 ls [])) (hl : lv_has ls 2 [(0, .ref (q 13)), (1, .int (i32 v1))]) (h : fX3_showAll_58 e58 c58 v1 σ = some r) : VC p l e rmX3_showAll s m args below meth c D ac q (QVC D ac q xa xv below args s r) σ (F0 m 58 ls []) := by
  have h : cr v1 ((if v1 < 24 then cr v1 (cr (σ 95 9) ((if v1 < σ 95 9 then fX3_showAll_85 c58 v1 v1 1 σ else fX3_showAll_85 c58 v1 v1 0 σ))) else e58 σ)) = some r := h
  refine v_iload_n C hl dX3_showAll_58 rfl 1 rfl ?_
  refine v_bipush C dX3_showAll_59 rfl ?_
  have hz1 := (cr_e h).1
  have h := (cr_e h).2
  refine v_icmp_ge C (tgt := 92) hz1 (by decide) h dX3_showAll_61 rfl (fun h => ?_) (fun h => ?_)
  · exact he58 _ _ (lv_sub hl [0] rfl) h
  · refine v_aload_n C hl dX3_showAll_64 rfl 0 rfl ?_
    refine g_X3_3 C kdC_13 fl_X3_20 dX3_showAll_65 ?_
    refine v_iload_n C hl dX3_showAll_68 rfl 1 rfl ?_
    refine v_iload_n C hl dX3_showAll_69 rfl 1 rfl ?_
    refine v_aload_n C hl dX3_showAll_70 rfl 0 rfl ?_
    refine g_X3_0 C kdC_13 fl_X3_27 dX3_showAll_71 ?_
    refine g_X1_9 C kdC_95 fl_X3_49 dX3_showAll_74 ?_
    have hz2 := (cr_e h).1
    have h := (cr_e h).2
    have hz3 := (cr_e h).1
    have h := (cr_e h).2
    refine v_icmp_ge C (tgt := 84) hz2 hz3 h dX3_showAll_77 rfl (fun h => ?_) (fun h => ?_)
    · refine v_iconst C dX3_showAll_84 ?_
      exact wX3_showAll_85 C hr hc58 (lv_sub hl [0, 1] rfl) h
    · refine v_iconst C dX3_showAll_80 ?_
      refine v_goto C (tgt := 85) dX3_showAll_81 rfl ?_
      exact wX3_showAll_85 C hr hc58 (lv_sub hl [0, 1] rfl) h
theorem wlX3_showAll_58 (C : CxC p rmX3_showAll s m args meth c D ac q xa xv RX3 cX3_showAll 2) (hr : meth.sig.returnType = none) {e58 : Mm → Option (Mm)} {r : Mm} (he58 : ∀ (σ : Mm) (ls : Array Slot), lv_has ls 2 [(0, .ref (q 13))] → e58 σ = some r → VC p l e rmX3_showAll s m args below meth c D ac q (QVC D ac q xa xv below args s r) σ (F0 m 92 ls [])) : ∀ (fu : Nat) (v1 : Int) (σ : Mm) (ls : Array Slot) (hl : lv_has ls 2 [(0, .ref (q 13)), (1, .int (i32 v1))]) (h : lX3_showAll_58 e58 fu v1 σ = some r), VC p l e rmX3_showAll s m args below meth c D ac q (QVC D ac q xa xv below args s r) σ (F0 m 58 ls []) := by
  intro fu
  induction fu with
  | zero =>
    intro v1 σ ls hl h
    have h : none = some r := h
    cases h
  | succ fu ih =>
    intro v1 σ ls hl h
    exact wX3_showAll_58 C hr he58 (fun v1 σ ls hl h => ih v1 σ ls hl h) hl h
theorem wX3_showAll_56 (C : CxC p rmX3_showAll s m args meth c D ac q xa xv RX3 cX3_showAll 2) (hr : meth.sig.returnType = none) {σ : Mm} {r : Mm} (hl : lv_has ls 2 [(0, .ref (q 13))]) (h : fX3_showAll_56 σ = some r) : VC p l e rmX3_showAll s m args below meth c D ac q (QVC D ac q xa xv below args s r) σ (F0 m 56 ls []) := by
  have h : bindv 0 (fun v1_1 => lX3_showAll_58 (fun σ_2 => fX3_showAll_92 σ_2) 400 v1_1 σ) = some r := h
  refine v_iconst C dX3_showAll_56 ?_
  refine v_istore_n C hl (fun x => [(1, .int (i32 x)), (0, .ref (q 13))]) dX3_showAll_57 rfl (by decide) (fun _ => rfl) h (fun v1_1 ls hl h => ?_)
  exact wlX3_showAll_58 C hr (fun σ_2 ls hl h => wX3_showAll_92 C hr (lv_sub hl [0] rfl) h) _ _ _ _ (lv_sub hl [1, 0] rfl) h
theorem wX3_showAll_2 (C : CxC p rmX3_showAll s m args meth c D ac q xa xv RX3 cX3_showAll 2) (hr : meth.sig.returnType = none) {v1 : Int} {σ : Mm} {e2 : Mm → Option (Mm)} {c2 : Int → Mm → Option (Mm)} {r : Mm} (he2 : ∀ (σ : Mm) (ls : Array Slot), lv_has ls 2 [(0, .ref (q 13))] → e2 σ = some r → VC p l e rmX3_showAll s m args below meth c D ac q (QVC D ac q xa xv below args s r) σ (F0 m 56 ls [])) (hc2 : ∀ (v1x : Int) (σ : Mm) (ls : Array Slot), lv_has ls 2 [(0, .ref (q 13)), (1, .int (i32 v1x))] → c2 v1x σ = some r → VC p l e rmX3_showAll s m args below meth c D ac q (QVC D ac q xa xv below args s r) σ (F0 m 2 ls [])) (hl : lv_has ls 2 [(0, .ref (q 13)), (1, .int (i32 v1))]) (h : fX3_showAll_2 e2 c2 v1 σ = some r) : VC p l e rmX3_showAll s m args below meth c D ac q (QVC D ac q xa xv below args s r) σ (F0 m 2 ls []) := by
  have h : cr v1 (cr (σ 95 10) ((if v1 < σ 95 10 then chk v1 6 (chk v1 6 (bindv (sto σ 15 (v1).toNat (σ 100 (v1).toNat)) (fun σ_3 => chk v1 6 (chk v1 6 (bindv (cpy σ_3 (105 + (v1).toNat) (29 + (v1).toNat) 10) (fun σ_6 => bindv (v1 + 1) (fun v1_7 => c2 v1_7 σ_6))))))) else e2 σ))) = some r := h
  refine v_iload_n C hl dX3_showAll_2 rfl 1 rfl ?_
  refine v_aload_n C hl dX3_showAll_3 rfl 0 rfl ?_
  refine g_X3_0 C kdC_13 fl_X3_27 dX3_showAll_4 ?_
  refine g_X1_10 C kdC_95 fl_X3_31 dX3_showAll_7 ?_
  have hz1 := (cr_e h).1
  have h := (cr_e h).2
  have hz2 := (cr_e h).1
  have h := (cr_e h).2
  refine v_icmp_ge C (tgt := 56) hz1 hz2 h dX3_showAll_10 rfl (fun h => ?_) (fun h => ?_)
  · exact he2 _ _ (lv_sub hl [0] rfl) h
  · refine v_aload_n C hl dX3_showAll_13 rfl 0 rfl ?_
    refine g_X3_2 C kdC_13 fl_X3_16 dX3_showAll_14 ?_
    refine v_iload_n C hl dX3_showAll_17 rfl 1 rfl ?_
    refine v_aload_n C hl dX3_showAll_18 rfl 0 rfl ?_
    refine g_X3_0 C kdC_13 fl_X3_27 dX3_showAll_19 ?_
    refine g_X1_4 C kdC_95 fl_X3_37 dX3_showAll_22 ?_
    refine v_iload_n C hl dX3_showAll_25 rfl 1 rfl ?_
    refine alC14 C kdC_100 h dX3_showAll_26 (fun h => ?_)
    refine asC14 C kdC_15 h dX3_showAll_27 (fun σ_3 h => ?_)
    refine v_aload_n C hl dX3_showAll_28 rfl 0 rfl ?_
    refine g_X3_0 C kdC_13 fl_X3_27 dX3_showAll_29 ?_
    refine g_X1_3 C kdC_95 fl_X3_40 dX3_showAll_32 ?_
    refine v_iload_n C hl dX3_showAll_35 rfl 1 rfl ?_
    have hi4 := (chk_e h).1
    refine arC24 C kdC_99 h dX3_showAll_36 (fun h => ?_)
    refine v_iconst C dX3_showAll_37 ?_
    refine v_aload_n C hl dX3_showAll_38 rfl 0 rfl ?_
    refine g_X3_1 C kdC_13 fl_X3_11 dX3_showAll_39 ?_
    refine v_iload_n C hl dX3_showAll_42 rfl 1 rfl ?_
    have hi5 := (chk_e h).1
    refine arC13 C kdC_14 h dX3_showAll_43 (fun h => ?_)
    refine v_iconst C dX3_showAll_44 ?_
    refine v_bipush C dX3_showAll_45 rfl ?_
    refine v_copyi C (rest := []) hl.1 ml_X3_43 na_ac sm_ac ic_J10 (105 + (v1).toNat) (29 + (v1).toNat) (klC (keC24 kdC_99 hi4)) (klC (keC13 kdC_14 hi5)) rfl rfl 0 (ckC16 (keC24 kdC_99 hi4) _) (ckC16 (keC13 kdC_14 hi5)) rfl 10 rfl (by decide) (by decide) (by decide) (by decide) (Nat.le_of_ble_eq_true rfl) h dX3_showAll_47 (fun σ_6 h => ?_)
    refine v_iinc C hl (fun x => [(1, .int (i32 x)), (0, .ref (q 13))]) dX3_showAll_50 1 rfl (by decide) (fun _ => rfl) h (fun v1_7 ls hl h => ?_)
    refine v_goto C (tgt := 2) dX3_showAll_53 rfl ?_
    exact hc2 _ _ _ (lv_sub hl [1, 0] rfl) h
theorem wlX3_showAll_2 (C : CxC p rmX3_showAll s m args meth c D ac q xa xv RX3 cX3_showAll 2) (hr : meth.sig.returnType = none) {e2 : Mm → Option (Mm)} {r : Mm} (he2 : ∀ (σ : Mm) (ls : Array Slot), lv_has ls 2 [(0, .ref (q 13))] → e2 σ = some r → VC p l e rmX3_showAll s m args below meth c D ac q (QVC D ac q xa xv below args s r) σ (F0 m 56 ls [])) : ∀ (fu : Nat) (v1 : Int) (σ : Mm) (ls : Array Slot) (hl : lv_has ls 2 [(0, .ref (q 13)), (1, .int (i32 v1))]) (h : lX3_showAll_2 e2 fu v1 σ = some r), VC p l e rmX3_showAll s m args below meth c D ac q (QVC D ac q xa xv below args s r) σ (F0 m 2 ls []) := by
  intro fu
  induction fu with
  | zero =>
    intro v1 σ ls hl h
    have h : none = some r := h
    cases h
  | succ fu ih =>
    intro v1 σ ls hl h
    exact wX3_showAll_2 C hr he2 (fun v1 σ ls hl h => ih v1 σ ls hl h) hl h
theorem mX3_showAll (hq : QI 175 q)  {σ : Mm} {r : Mm} (h : fX3_showAll σ = some r) : MVC l D ac q xa xv yX3_showAll cX3_showAll 2 none rmX3_showAll [.ref (q 13)] σ r := by
  refine MV.of hq XC_M (by decide) (Nat.le_of_ble_eq_true rfl) (fun p e s m below meth c ls C hr hl => ?_)
  have hl : lv_has ls 2 [(0, .ref (q 13))] := hl
  have h : bindv 0 (fun v1_1 => lX3_showAll_2 (fun σ_2 => fX3_showAll_56 σ_2) 400 v1_1 σ) = some r := h
  refine v_iconst C dX3_showAll_0 ?_
  refine v_istore_n C hl (fun x => [(1, .int (i32 x)), (0, .ref (q 13))]) dX3_showAll_1 rfl (by decide) (fun _ => rfl) h (fun v1_1 ls hl h => ?_)
  exact wlX3_showAll_2 C hr (fun σ_2 ls hl h => wX3_showAll_56 C hr (lv_sub hl [0] rfl) h) _ _ _ _ (lv_sub hl [1, 0] rfl) h
end
section
variable {l : Launch} {D : va_G} {ac : Nat → ClassId} {q xa xv : Nat → Nat} {p : Program} {e : Env} {s : State} {m : MethodId} {args : Array Value} {below : List Frame} {meth : Method} {c : Code} {ls : Array Slot}
theorem dX3_triangleOf_0 : decode cX3_triangleOf 0 = .ok (.aload_n 0, 1) := by decide +kernel
theorem dX3_triangleOf_1 : decode cX3_triangleOf 1 = .ok (.iload_n 1, 1) := by decide +kernel
theorem dX3_triangleOf_2 : decode cX3_triangleOf 2 = .ok (.invokevirtual 82, 3) := by decide +kernel
theorem dX3_triangleOf_5 : decode cX3_triangleOf 5 = .ok (.istore_n 2, 1) := by decide +kernel
theorem dX3_triangleOf_6 : decode cX3_triangleOf 6 = .ok (.aload_n 0, 1) := by decide +kernel
theorem dX3_triangleOf_7 : decode cX3_triangleOf 7 = .ok (.iload_n 1, 1) := by decide +kernel
theorem dX3_triangleOf_8 : decode cX3_triangleOf 8 = .ok (.invokevirtual 85, 3) := by decide +kernel
theorem dX3_triangleOf_11 : decode cX3_triangleOf 11 = .ok (.istore_n 3, 1) := by decide +kernel
theorem dX3_triangleOf_12 : decode cX3_triangleOf 12 = .ok (.iload_n 2, 1) := by decide +kernel
theorem dX3_triangleOf_13 : decode cX3_triangleOf 13 = .ok (.ifCond .lt 7, 3) := by decide +kernel
theorem dX3_triangleOf_16 : decode cX3_triangleOf 16 = .ok (.iload_n 3, 1) := by decide +kernel
theorem dX3_triangleOf_17 : decode cX3_triangleOf 17 = .ok (.ifCond .ge 7, 3) := by decide +kernel
theorem dX3_triangleOf_20 : decode cX3_triangleOf 20 = .ok (.iconst 0, 1) := by decide +kernel
theorem dX3_triangleOf_21 : decode cX3_triangleOf 21 = .ok (.goto 33, 3) := by decide +kernel
theorem dX3_triangleOf_24 : decode cX3_triangleOf 24 = .ok (.aload_n 0, 1) := by decide +kernel
theorem dX3_triangleOf_25 : decode cX3_triangleOf 25 = .ok (.getfield 27, 3) := by decide +kernel
theorem dX3_triangleOf_28 : decode cX3_triangleOf 28 = .ok (.iload_n 2, 1) := by decide +kernel
theorem dX3_triangleOf_29 : decode cX3_triangleOf 29 = .ok (.iload_n 3, 1) := by decide +kernel
theorem dX3_triangleOf_30 : decode cX3_triangleOf 30 = .ok (.aload_n 0, 1) := by decide +kernel
theorem dX3_triangleOf_31 : decode cX3_triangleOf 31 = .ok (.getfield 27, 3) := by decide +kernel
theorem dX3_triangleOf_34 : decode cX3_triangleOf 34 = .ok (.getfield 88, 3) := by decide +kernel
theorem dX3_triangleOf_37 : decode cX3_triangleOf 37 = .ok (.iload_n 1, 1) := by decide +kernel
theorem dX3_triangleOf_38 : decode cX3_triangleOf 38 = .ok (.iaload, 1) := by decide +kernel
theorem dX3_triangleOf_39 : decode cX3_triangleOf 39 = .ok (.aload_n 0, 1) := by decide +kernel
theorem dX3_triangleOf_40 : decode cX3_triangleOf 40 = .ok (.getfield 27, 3) := by decide +kernel
theorem dX3_triangleOf_43 : decode cX3_triangleOf 43 = .ok (.getfield 91, 3) := by decide +kernel
theorem dX3_triangleOf_46 : decode cX3_triangleOf 46 = .ok (.iload_n 1, 1) := by decide +kernel
theorem dX3_triangleOf_47 : decode cX3_triangleOf 47 = .ok (.iaload, 1) := by decide +kernel
theorem dX3_triangleOf_48 : decode cX3_triangleOf 48 = .ok (.invokevirtual 94, 3) := by decide +kernel
theorem dX3_triangleOf_51 : decode cX3_triangleOf 51 = .ok (.invokestatic 98, 3) := by decide +kernel
theorem dX3_triangleOf_54 : decode cX3_triangleOf 54 = .ok (.ireturn, 1) := by decide +kernel
theorem wX3_triangleOf_54 (C : CxC p rmX3_triangleOf s m args meth c D ac q xa xv RX3 cX3_triangleOf 4) (hr : meth.sig.returnType = (some .int)) {t0 : Int} {σ : Mm} {r : Int} (hl : lv_has ls 4 [(0, .ref (q 13))]) (h : fX3_triangleOf_54 t0 σ = some r) : VC p l e rmX3_triangleOf s m args below meth c D ac q (QIC D ac q xa xv below args s (r, σ)) σ (F0 m 54 ls [.int (i32 t0)]) := by
  have h : some t0 = some r := h
  exact v_iret C hr (so1 h) dX3_triangleOf_54
theorem wX3_triangleOf_20 (C : CxC p rmX3_triangleOf s m args meth c D ac q xa xv RX3 cX3_triangleOf 4) (hr : meth.sig.returnType = (some .int)) {σ : Mm} {r : Int} (hl : lv_has ls 4 [(0, .ref (q 13))]) (h : fX3_triangleOf_20 σ = some r) : VC p l e rmX3_triangleOf s m args below meth c D ac q (QIC D ac q xa xv below args s (r, σ)) σ (F0 m 20 ls []) := by
  have h : fX3_triangleOf_54 0 σ = some r := h
  refine v_iconst C dX3_triangleOf_20 ?_
  refine v_goto C (tgt := 54) dX3_triangleOf_21 rfl ?_
  exact wX3_triangleOf_54 C hr (lv_sub hl [0] rfl) h
theorem mX3_triangleOf (hq : QI 175 q) {v1 : Int} {σ : Mm} {r : Int} (h : fX3_triangleOf v1 σ = some r) : MIC l D ac q xa xv yX3_triangleOf cX3_triangleOf 4 (some .int) rmX3_triangleOf [.ref (q 13), .int (i32 v1)] σ (r, σ) := by
  refine MI.of hq XC_M (by decide) (Nat.le_of_ble_eq_true rfl) (fun p e s m below meth c ls C hr hl => ?_)
  have hl : lv_has ls 4 [(0, .ref (q 13)), (1, .int (i32 v1))] := hl
  have h : bd (fX3_ahead v1 σ) (fun x_1 => bindv x_1 (fun v2_2 => bd (fX3_behind v1 σ) (fun x_3 => bindv x_3 (fun v3_4 => cr v2_2 ((if v2_2 < 0 then fX3_triangleOf_20 σ else cr v3_4 ((if v3_4 < 0 then fX3_triangleOf_20 σ else chk v1 24 (chk v1 24 (bd (fX1_sideOf 95 v2_2 v3_4 (σ 96 (v1).toNat) (σ 97 (v1).toNat) σ) (fun x_7 => cr x_7 (fX3_triangleOf_54 (abI x_7) σ)))))))))))) = some r := h
  refine v_aload_n C hl dX3_triangleOf_0 rfl 0 rfl ?_
  refine v_iload_n C hl dX3_triangleOf_1 rfl 1 rfl ?_
  obtain ⟨x_1, hv1, h⟩ := bd_e h
  refine v_callVI C 13 (klC kdC_13) rfl (ckC12 kdC_13 _) rfl [.int (i32 v1)] (mX3_ahead C.2.2.2.2.1 hv1) cd_X3_ahead ic_X3 im_X3_ahead se_X3_ahead ml_X3_82 yk_X3_ahead ⟨rfl, rfl, by decide, by decide⟩ rfl hl.1 (rest := []) rfl (Nat.le_of_ble_eq_true rfl) dX3_triangleOf_2 ?_
  refine v_istore_n C hl (fun x => [(2, .int (i32 x)), (0, .ref (q 13)), (1, .int (i32 v1))]) dX3_triangleOf_5 rfl (by decide) (fun _ => rfl) h (fun v2_2 ls hl h => ?_)
  refine v_aload_n C hl dX3_triangleOf_6 rfl 1 rfl ?_
  refine v_iload_n C hl dX3_triangleOf_7 rfl 2 rfl ?_
  obtain ⟨x_3, hv3, h⟩ := bd_e h
  refine v_callVI C 13 (klC kdC_13) rfl (ckC12 kdC_13 _) rfl [.int (i32 v1)] (mX3_behind C.2.2.2.2.1 hv3) cd_X3_behind ic_X3 im_X3_behind se_X3_behind ml_X3_85 yk_X3_behind ⟨rfl, rfl, by decide, by decide⟩ rfl hl.1 (rest := []) rfl (Nat.le_of_ble_eq_true rfl) dX3_triangleOf_8 ?_
  refine v_istore_n C hl (fun x => [(3, .int (i32 x)), (2, .int (i32 v2_2)), (0, .ref (q 13)), (1, .int (i32 v1))]) dX3_triangleOf_11 rfl (by decide) (fun _ => rfl) h (fun v3_4 ls hl h => ?_)
  refine v_iload_n C hl dX3_triangleOf_12 rfl 1 rfl ?_
  have hz5 := (cr_e h).1
  have h := (cr_e h).2
  refine v_if_lt C (tgt := 20) hz5 h dX3_triangleOf_13 rfl (fun h => ?_) (fun h => ?_)
  · exact wX3_triangleOf_20 C hr (lv_sub hl [2] rfl) h
  · refine v_iload_n C hl dX3_triangleOf_16 rfl 0 rfl ?_
    have hz6 := (cr_e h).1
    have h := (cr_e h).2
    refine v_if_ge C (tgt := 24) hz6 h dX3_triangleOf_17 rfl (fun h => ?_) (fun h => ?_)
    · refine v_aload_n C hl dX3_triangleOf_24 rfl 2 rfl ?_
      refine g_X3_0 C kdC_13 fl_X3_27 dX3_triangleOf_25 ?_
      refine v_iload_n C hl dX3_triangleOf_28 rfl 1 rfl ?_
      refine v_iload_n C hl dX3_triangleOf_29 rfl 0 rfl ?_
      refine v_aload_n C hl dX3_triangleOf_30 rfl 2 rfl ?_
      refine g_X3_0 C kdC_13 fl_X3_27 dX3_triangleOf_31 ?_
      refine g_X1_0 C kdC_95 fl_X3_88 dX3_triangleOf_34 ?_
      refine v_iload_n C hl dX3_triangleOf_37 rfl 3 rfl ?_
      refine alC8 C kdC_96 h dX3_triangleOf_38 (fun h => ?_)
      refine v_aload_n C hl dX3_triangleOf_39 rfl 2 rfl ?_
      refine g_X3_0 C kdC_13 fl_X3_27 dX3_triangleOf_40 ?_
      refine g_X1_1 C kdC_95 fl_X3_91 dX3_triangleOf_43 ?_
      refine v_iload_n C hl dX3_triangleOf_46 rfl 3 rfl ?_
      refine alC8 C kdC_97 h dX3_triangleOf_47 (fun h => ?_)
      obtain ⟨x_7, hv7, h⟩ := bd_e h
      refine v_callVI C 95 (klC kdC_95) rfl (ckC23 kdC_95 _) rfl [.int (i32 v2_2), .int (i32 v3_4), .int (i32 (σ 96 (v1).toNat)), .int (i32 (σ 97 (v1).toNat))] (mX1_sideOf C.2.2.2.2.1 kdC_95 hv7) cd_X1_sideOf ic_X1 im_X1_sideOf se_X1_sideOf ml_X3_94 yk_X1_sideOf ⟨rfl, rfl, by decide, by decide⟩ rfl hl.1 (rest := []) rfl (Nat.le_of_ble_eq_true rfl) dX3_triangleOf_48 ?_
      refine v_abs C (rest := []) hl.1 ml_X3_98 sm_J9_abs_0f7a4 ic_J9 cd_J9_abs_0f7a4 (by decide) (Nat.le_of_ble_eq_true rfl) h dX3_triangleOf_51 (fun h => ?_)
      exact wX3_triangleOf_54 C hr (lv_sub hl [2] rfl) h
    · exact wX3_triangleOf_20 C hr (lv_sub hl [2] rfl) h
end
section
variable {l : Launch} {D : va_G} {ac : Nat → ClassId} {q xa xv : Nat → Nat} {p : Program} {e : Env} {s : State} {m : MethodId} {args : Array Value} {below : List Frame} {meth : Method} {c : Code} {ls : Array Slot}
theorem dX4_isNothing_0 : decode cX4_isNothing 0 = .ok (.aload_n 0, 1) := by decide +kernel
theorem dX4_isNothing_1 : decode cX4_isNothing 1 = .ok (.getfield 15, 3) := by decide +kernel
theorem dX4_isNothing_4 : decode cX4_isNothing 4 = .ok (.iconst (-1), 1) := by decide +kernel
theorem dX4_isNothing_5 : decode cX4_isNothing 5 = .ok (.if_icmp .ne 7, 3) := by decide +kernel
theorem dX4_isNothing_8 : decode cX4_isNothing 8 = .ok (.iconst 1, 1) := by decide +kernel
theorem dX4_isNothing_9 : decode cX4_isNothing 9 = .ok (.goto 4, 3) := by decide +kernel
theorem dX4_isNothing_12 : decode cX4_isNothing 12 = .ok (.iconst 0, 1) := by decide +kernel
theorem dX4_isNothing_13 : decode cX4_isNothing 13 = .ok (.ireturn, 1) := by decide +kernel
theorem wX4_isNothing_13 (C : CxC p rmX4_isNothing s m args meth c D ac q xa xv RX4 cX4_isNothing 1) (hr : meth.sig.returnType = (some .boolean)){k : Nat} (hk : kdC k = 20) {t0 : Int} {σ : Mm} {r : Int} (hl : lv_has ls 1 [(0, .ref (q k))]) (h : fX4_isNothing_13 k t0 σ = some r) : VC p l e rmX4_isNothing s m args below meth c D ac q (QIC D ac q xa xv below args s (r, σ)) σ (F0 m 13 ls [.int (i32 t0)]) := by
  have h : chb t0 (some t0) = some r := h
  have hz1 := (chb_e h).1
  have h := (chb_e h).2
  exact v_zret C hr hz1 (so1 h) dX4_isNothing_13
theorem mX4_isNothing (hq : QI 175 q) {k : Nat} (hk : kdC k = 20) {σ : Mm} {r : Int} (h : fX4_isNothing k σ = some r) : MIC l D ac q xa xv yX4_isNothing cX4_isNothing 1 (some .boolean) rmX4_isNothing [.ref (q k)] σ (r, σ) := by
  refine MI.of hq XC_M (by decide) (Nat.le_of_ble_eq_true rfl) (fun p e s m below meth c ls C hr hl => ?_)
  have hl : lv_has ls 1 [(0, .ref (q k))] := hl
  have h : cr (σ k 1) ((if σ k 1 = (-1) then fX4_isNothing_13 k 1 σ else fX4_isNothing_13 k 0 σ)) = some r := h
  refine v_aload_n C hl dX4_isNothing_0 rfl 0 rfl ?_
  refine g_X4_1 C hk fl_X4_15 dX4_isNothing_1 ?_
  refine v_iconst C dX4_isNothing_4 ?_
  have hz1 := (cr_e h).1
  have h := (cr_e h).2
  refine v_icmp_ne C (tgt := 12) hz1 (by decide) h dX4_isNothing_5 rfl (fun h => ?_) (fun h => ?_)
  · refine v_iconst C dX4_isNothing_12 ?_
    exact wX4_isNothing_13 C hr hk (lv_sub hl [0] rfl) h
  · refine v_iconst C dX4_isNothing_8 ?_
    refine v_goto C (tgt := 13) dX4_isNothing_9 rfl ?_
    exact wX4_isNothing_13 C hr hk (lv_sub hl [0] rfl) h
end
section
variable {l : Launch} {D : va_G} {ac : Nat → ClassId} {q xa xv : Nat → Nat} {p : Program} {e : Env} {s : State} {m : MethodId} {args : Array Value} {below : List Frame} {meth : Method} {c : Code} {ls : Array Slot}
theorem dX4_faultOfThree_0 : decode cX4_faultOfThree 0 = .ok (.aload_n 0, 1) := by decide +kernel
theorem dX4_faultOfThree_1 : decode cX4_faultOfThree 1 = .ok (.invokevirtual 22, 3) := by decide +kernel
theorem dX4_faultOfThree_4 : decode cX4_faultOfThree 4 = .ok (.ifCond .eq 5, 3) := by decide +kernel
theorem dX4_faultOfThree_7 : decode cX4_faultOfThree 7 = .ok (.iconst 1, 1) := by decide +kernel
theorem dX4_faultOfThree_8 : decode cX4_faultOfThree 8 = .ok (.ireturn, 1) := by decide +kernel
theorem dX4_faultOfThree_9 : decode cX4_faultOfThree 9 = .ok (.aload_n 0, 1) := by decide +kernel
theorem dX4_faultOfThree_10 : decode cX4_faultOfThree 10 = .ok (.getfield 15, 3) := by decide +kernel
theorem dX4_faultOfThree_13 : decode cX4_faultOfThree 13 = .ok (.iload_n 1, 1) := by decide +kernel
theorem dX4_faultOfThree_14 : decode cX4_faultOfThree 14 = .ok (.if_icmp .eq 5, 3) := by decide +kernel
theorem dX4_faultOfThree_17 : decode cX4_faultOfThree 17 = .ok (.iconst 3, 1) := by decide +kernel
theorem dX4_faultOfThree_18 : decode cX4_faultOfThree 18 = .ok (.ireturn, 1) := by decide +kernel
theorem dX4_faultOfThree_19 : decode cX4_faultOfThree 19 = .ok (.lload_n 2, 1) := by decide +kernel
theorem dX4_faultOfThree_20 : decode cX4_faultOfThree 20 = .ok (.lconst 0, 1) := by decide +kernel
theorem dX4_faultOfThree_21 : decode cX4_faultOfThree 21 = .ok (.lcmp, 1) := by decide +kernel
theorem dX4_faultOfThree_22 : decode cX4_faultOfThree 22 = .ok (.ifCond .lt 17, 3) := by decide +kernel
theorem dX4_faultOfThree_25 : decode cX4_faultOfThree 25 = .ok (.lload_n 2, 1) := by decide +kernel
theorem dX4_faultOfThree_26 : decode cX4_faultOfThree 26 = .ok (.ldc2_w 26, 3) := by decide +kernel
theorem dX4_faultOfThree_29 : decode cX4_faultOfThree 29 = .ok (.ladd, 1) := by decide +kernel
theorem dX4_faultOfThree_30 : decode cX4_faultOfThree 30 = .ok (.aload_n 0, 1) := by decide +kernel
theorem dX4_faultOfThree_31 : decode cX4_faultOfThree 31 = .ok (.getfield 19, 3) := by decide +kernel
theorem dX4_faultOfThree_34 : decode cX4_faultOfThree 34 = .ok (.i2l, 1) := by decide +kernel
theorem dX4_faultOfThree_35 : decode cX4_faultOfThree 35 = .ok (.lcmp, 1) := by decide +kernel
theorem dX4_faultOfThree_36 : decode cX4_faultOfThree 36 = .ok (.ifCond .lt 7, 3) := by decide +kernel
theorem dX4_faultOfThree_39 : decode cX4_faultOfThree 39 = .ok (.iconst 2, 1) := by decide +kernel
theorem dX4_faultOfThree_40 : decode cX4_faultOfThree 40 = .ok (.goto 4, 3) := by decide +kernel
theorem dX4_faultOfThree_43 : decode cX4_faultOfThree 43 = .ok (.iconst 0, 1) := by decide +kernel
theorem dX4_faultOfThree_44 : decode cX4_faultOfThree 44 = .ok (.ireturn, 1) := by decide +kernel
theorem wX4_faultOfThree_44 (C : CxC p rmX4_faultOfThree s m args meth c D ac q xa xv RX4 cX4_faultOfThree 4) (hr : meth.sig.returnType = (some .int)){k : Nat} (hk : kdC k = 20) {t0 : Int} {σ : Mm} {r : Int} (hl : lv_has ls 4 [(0, .ref (q k))]) (h : fX4_faultOfThree_44 k t0 σ = some r) : VC p l e rmX4_faultOfThree s m args below meth c D ac q (QIC D ac q xa xv below args s (r, σ)) σ (F0 m 44 ls [.int (i32 t0)]) := by
  have h : some t0 = some r := h
  exact v_iret C hr (so1 h) dX4_faultOfThree_44
theorem wX4_faultOfThree_39 (C : CxC p rmX4_faultOfThree s m args meth c D ac q xa xv RX4 cX4_faultOfThree 4) (hr : meth.sig.returnType = (some .int)){k : Nat} (hk : kdC k = 20) {σ : Mm} {r : Int} (hl : lv_has ls 4 [(0, .ref (q k))]) (h : fX4_faultOfThree_39 k σ = some r) : VC p l e rmX4_faultOfThree s m args below meth c D ac q (QIC D ac q xa xv below args s (r, σ)) σ (F0 m 39 ls []) := by
  have h : fX4_faultOfThree_44 k 2 σ = some r := h
  refine v_iconst C dX4_faultOfThree_39 ?_
  refine v_goto C (tgt := 44) dX4_faultOfThree_40 rfl ?_
  exact wX4_faultOfThree_44 C hr hk (lv_sub hl [0] rfl) h
theorem mX4_faultOfThree (hq : QI 175 q) {k : Nat} {v1 : Int} {v2 : Int} (hk : kdC k = 20) {σ : Mm} {r : Int} (h : fX4_faultOfThree k v1 v2 σ = some r) : MIC l D ac q xa xv yX4_faultOfThree cX4_faultOfThree 4 (some .int) rmX4_faultOfThree [.ref (q k), .int (i32 v1), .long (i64 v2)] σ (r, σ) := by
  refine MI.of hq XC_M (by decide) (Nat.le_of_ble_eq_true rfl) (fun p e s m below meth c ls C hr hl => ?_)
  have hl : lv_has ls 4 [(0, .ref (q k)), (1, .int (i32 v1)), (2, .long (i64 v2))] := hl
  have h : bd (fX4_isNothing k σ) (fun x_1 => cr x_1 ((if x_1 = 0 then cr (σ k 1) (cr v1 ((if σ k 1 = v1 then crl v2 ((if v2 < 0 then fX4_faultOfThree_39 k σ else cr (σ k 2) (crl (v2 + 2) (crl (σ k 2) ((if v2 + 2 < σ k 2 then fX4_faultOfThree_44 k 0 σ else fX4_faultOfThree_39 k σ)))))) else some 3))) else some 1))) = some r := h
  refine v_aload_n C hl dX4_faultOfThree_0 rfl 0 rfl ?_
  obtain ⟨x_1, hv1, h⟩ := bd_e h
  refine v_callVI C k (klC hk) rfl (ckC20 hk _) rfl [] (mX4_isNothing C.2.2.2.2.1 hk hv1) cd_X4_isNothing ic_X4 im_X4_isNothing se_X4_isNothing ml_X4_22 yk_X4_isNothing ⟨rfl, rfl, by decide, by decide⟩ rfl hl.1 (rest := []) rfl (Nat.le_of_ble_eq_true rfl) dX4_faultOfThree_1 ?_
  have hz2 := (cr_e h).1
  have h := (cr_e h).2
  refine v_if_eq C (tgt := 9) hz2 h dX4_faultOfThree_4 rfl (fun h => ?_) (fun h => ?_)
  · refine v_aload_n C hl dX4_faultOfThree_9 rfl 0 rfl ?_
    refine g_X4_1 C hk fl_X4_15 dX4_faultOfThree_10 ?_
    refine v_iload_n C hl dX4_faultOfThree_13 rfl 1 rfl ?_
    have hz3 := (cr_e h).1
    have h := (cr_e h).2
    have hz4 := (cr_e h).1
    have h := (cr_e h).2
    refine v_icmp_eq C (tgt := 19) hz3 hz4 h dX4_faultOfThree_14 rfl (fun h => ?_) (fun h => ?_)
    · refine v_lload_n C hl dX4_faultOfThree_19 rfl 2 rfl ?_
      refine v_lconst C (v := 0) dX4_faultOfThree_20 rfl ?_
      have hz5 := (crl_e h).1
      have h := (crl_e h).2
      refine v_lcmp_lt C (tgt := 39) hz5 (by decide) h dX4_faultOfThree_21 dX4_faultOfThree_22 rfl (fun h => ?_) (fun h => ?_)
      · exact wX4_faultOfThree_39 C hr hk (lv_sub hl [0] rfl) h
      · refine v_lload_n C hl dX4_faultOfThree_25 rfl 2 rfl ?_
        refine v_ldc2 C (v := 2) kc_X4_26 rfl dX4_faultOfThree_26 ?_
        refine v_ladd C dX4_faultOfThree_29 ?_
        refine v_aload_n C hl dX4_faultOfThree_30 rfl 0 rfl ?_
        refine g_X4_2 C hk fl_X4_19 dX4_faultOfThree_31 ?_
        refine v_i2l C h dX4_faultOfThree_34 (fun h => ?_)
        have hz6 := (crl_e h).1
        have h := (crl_e h).2
        have hz7 := (crl_e h).1
        have h := (crl_e h).2
        refine v_lcmp_lt C (tgt := 43) hz6 hz7 h dX4_faultOfThree_35 dX4_faultOfThree_36 rfl (fun h => ?_) (fun h => ?_)
        · refine v_iconst C dX4_faultOfThree_43 ?_
          exact wX4_faultOfThree_44 C hr hk (lv_sub hl [0] rfl) h
        · exact wX4_faultOfThree_39 C hr hk (lv_sub hl [0] rfl) h
    · refine v_iconst C dX4_faultOfThree_17 ?_
      exact v_iret C hr (so1 h) dX4_faultOfThree_18
  · refine v_iconst C dX4_faultOfThree_7 ?_
    exact v_iret C hr (so1 h) dX4_faultOfThree_8
end
section
variable {l : Launch} {D : va_G} {ac : Nat → ClassId} {q xa xv : Nat → Nat} {p : Program} {e : Env} {s : State} {m : MethodId} {args : Array Value} {below : List Frame} {meth : Method} {c : Code} {ls : Array Slot}
theorem dX4_put_0 : decode cX4_put 0 = .ok (.aload_n 0, 1) := by decide +kernel
theorem dX4_put_1 : decode cX4_put 1 = .ok (.getfield 15, 3) := by decide +kernel
theorem dX4_put_4 : decode cX4_put 4 = .ok (.lookupswitch 50 #[(0, 28), (1, 39)], 28) := by decide +kernel
theorem dX4_put_32 : decode cX4_put 32 = .ok (.aload_n 0, 1) := by decide +kernel
theorem dX4_put_33 : decode cX4_put 33 = .ok (.getfield 9, 3) := by decide +kernel
theorem dX4_put_36 : decode cX4_put 36 = .ok (.iload_n 1, 1) := by decide +kernel
theorem dX4_put_37 : decode cX4_put 37 = .ok (.iload_n 2, 1) := by decide +kernel
theorem dX4_put_38 : decode cX4_put 38 = .ok (.i2b, 1) := by decide +kernel
theorem dX4_put_39 : decode cX4_put 39 = .ok (.iastore, 1) := by decide +kernel
theorem dX4_put_40 : decode cX4_put 40 = .ok (.goto 21, 3) := by decide +kernel
theorem dX4_put_43 : decode cX4_put 43 = .ok (.aload_n 0, 1) := by decide +kernel
theorem dX4_put_44 : decode cX4_put 44 = .ok (.getfield 9, 3) := by decide +kernel
theorem dX4_put_47 : decode cX4_put 47 = .ok (.iload_n 1, 1) := by decide +kernel
theorem dX4_put_48 : decode cX4_put 48 = .ok (.iload_n 2, 1) := by decide +kernel
theorem dX4_put_49 : decode cX4_put 49 = .ok (.i2s, 1) := by decide +kernel
theorem dX4_put_50 : decode cX4_put 50 = .ok (.iastore, 1) := by decide +kernel
theorem dX4_put_51 : decode cX4_put 51 = .ok (.goto 10, 3) := by decide +kernel
theorem dX4_put_54 : decode cX4_put 54 = .ok (.aload_n 0, 1) := by decide +kernel
theorem dX4_put_55 : decode cX4_put 55 = .ok (.getfield 9, 3) := by decide +kernel
theorem dX4_put_58 : decode cX4_put 58 = .ok (.iload_n 1, 1) := by decide +kernel
theorem dX4_put_59 : decode cX4_put 59 = .ok (.iload_n 2, 1) := by decide +kernel
theorem dX4_put_60 : decode cX4_put 60 = .ok (.iastore, 1) := by decide +kernel
theorem dX4_put_61 : decode cX4_put 61 = .ok (.return_, 1) := by decide +kernel
theorem wX4_put_61 (C : CxC p rmX4_put s m args meth c D ac q xa xv RX4 cX4_put 3) (hr : meth.sig.returnType = none){k : Nat} (hk : kdC k = 20) {σ : Mm} {r : Mm} (hl : lv_has ls 3 [(0, .ref (q k))]) (h : fX4_put_61 k σ = some r) : VC p l e rmX4_put s m args below meth c D ac q (QVC D ac q xa xv below args s r) σ (F0 m 61 ls []) := by
  have h : some σ = some r := h
  exact v_vret C hr h dX4_put_61
theorem mX4_put (hq : QI 175 q) {k : Nat} {v1 : Int} {v2 : Int} (hk : kdC k = 20) {σ : Mm} {r : Mm} (h : fX4_put k v1 v2 σ = some r) : MVC l D ac q xa xv yX4_put cX4_put 3 none rmX4_put [.ref (q k), .int (i32 v1), .int (i32 v2)] σ r := by
  refine MV.of hq XC_M (by decide) (Nat.le_of_ble_eq_true rfl) (fun p e s m below meth c ls C hr hl => ?_)
  have hl : lv_has ls 3 [(0, .ref (q k)), (1, .int (i32 v1)), (2, .int (i32 v2))] := hl
  have h : cr (σ k 1) ((if σ k 1 = 0 then chk v1 40 (bindv (sto σ (k + 1) (v1).toNat (byI v2)) (fun σ_3 => fX4_put_61 k σ_3)) else (if σ k 1 = 1 then chk v1 40 (bindv (sto σ (k + 1) (v1).toNat (shI v2)) (fun σ_5 => fX4_put_61 k σ_5)) else chk v1 40 (bindv (sto σ (k + 1) (v1).toNat v2) (fun σ_6 => fX4_put_61 k σ_6))))) = some r := h
  refine v_aload_n C hl dX4_put_0 rfl 0 rfl ?_
  refine g_X4_1 C hk fl_X4_15 dX4_put_1 ?_
  have hz1 := (cr_e h).1
  have h := (cr_e h).2
  rcases sw_e h with ⟨hc2, h⟩ | ⟨hc2, h⟩
  · refine v_lookup C (tgt := 32) hz1 dX4_put_4 (by decide) (by rw [hc2]) rfl ?_
    refine v_aload_n C hl dX4_put_32 rfl 0 rfl ?_
    refine g_X4_0 C hk fl_X4_9 dX4_put_33 ?_
    refine v_iload_n C hl dX4_put_36 rfl 1 rfl ?_
    refine v_iload_n C hl dX4_put_37 rfl 2 rfl ?_
    refine v_i2b C dX4_put_38 ?_
    refine asC21 C (kfC20_0 hk) h dX4_put_39 (fun σ_3 h => ?_)
    refine v_goto C (tgt := 61) dX4_put_40 rfl ?_
    exact wX4_put_61 C hr hk (lv_sub hl [0] rfl) h
  · skip
    rcases sw_e h with ⟨hc4, h⟩ | ⟨hc4, h⟩
    · refine v_lookup C (tgt := 43) hz1 dX4_put_4 (by decide) (by rw [hc4]) rfl ?_
      refine v_aload_n C hl dX4_put_43 rfl 0 rfl ?_
      refine g_X4_0 C hk fl_X4_9 dX4_put_44 ?_
      refine v_iload_n C hl dX4_put_47 rfl 1 rfl ?_
      refine v_iload_n C hl dX4_put_48 rfl 2 rfl ?_
      refine v_i2s C dX4_put_49 ?_
      refine asC21 C (kfC20_0 hk) h dX4_put_50 (fun σ_5 h => ?_)
      refine v_goto C (tgt := 61) dX4_put_51 rfl ?_
      exact wX4_put_61 C hr hk (lv_sub hl [0] rfl) h
    · skip
      refine v_lookup C (tgt := 54) (off := 50) hz1 dX4_put_4 (by decide) (by simp [Op.lookupswitch.offset, Ne.symm hc2, Ne.symm hc4]) rfl ?_
      refine v_aload_n C hl dX4_put_54 rfl 0 rfl ?_
      refine g_X4_0 C hk fl_X4_9 dX4_put_55 ?_
      refine v_iload_n C hl dX4_put_58 rfl 1 rfl ?_
      refine v_iload_n C hl dX4_put_59 rfl 2 rfl ?_
      refine asC21 C (kfC20_0 hk) h dX4_put_60 (fun σ_6 h => ?_)
      exact wX4_put_61 C hr hk (lv_sub hl [0] rfl) h
end
section
variable {l : Launch} {D : va_G} {ac : Nat → ClassId} {q xa xv : Nat → Nat} {p : Program} {e : Env} {s : State} {m : MethodId} {args : Array Value} {below : List Frame} {meth : Method} {c : Code} {ls : Array Slot}
theorem dX4_renew_0 : decode cX4_renew 0 = .ok (.aload_n 0, 1) := by decide +kernel
theorem dX4_renew_1 : decode cX4_renew 1 = .ok (.iload_n 1, 1) := by decide +kernel
theorem dX4_renew_2 : decode cX4_renew 2 = .ok (.putfield 15, 3) := by decide +kernel
theorem dX4_renew_5 : decode cX4_renew 5 = .ok (.aload_n 0, 1) := by decide +kernel
theorem dX4_renew_6 : decode cX4_renew 6 = .ok (.iload_n 2, 1) := by decide +kernel
theorem dX4_renew_7 : decode cX4_renew 7 = .ok (.putfield 19, 3) := by decide +kernel
theorem dX4_renew_10 : decode cX4_renew 10 = .ok (.iconst 0, 1) := by decide +kernel
theorem dX4_renew_11 : decode cX4_renew 11 = .ok (.istore_n 3, 1) := by decide +kernel
theorem dX4_renew_12 : decode cX4_renew 12 = .ok (.iload_n 3, 1) := by decide +kernel
theorem dX4_renew_13 : decode cX4_renew 13 = .ok (.bipush 40, 2) := by decide +kernel
theorem dX4_renew_15 : decode cX4_renew 15 = .ok (.if_icmp .ge 16, 3) := by decide +kernel
theorem dX4_renew_18 : decode cX4_renew 18 = .ok (.aload_n 0, 1) := by decide +kernel
theorem dX4_renew_19 : decode cX4_renew 19 = .ok (.getfield 9, 3) := by decide +kernel
theorem dX4_renew_22 : decode cX4_renew 22 = .ok (.iload_n 3, 1) := by decide +kernel
theorem dX4_renew_23 : decode cX4_renew 23 = .ok (.iconst 0, 1) := by decide +kernel
theorem dX4_renew_24 : decode cX4_renew 24 = .ok (.iastore, 1) := by decide +kernel
theorem dX4_renew_25 : decode cX4_renew 25 = .ok (.iinc 3 1, 3) := by decide +kernel
theorem dX4_renew_28 : decode cX4_renew 28 = .ok (.goto (-16), 3) := by decide +kernel
theorem dX4_renew_31 : decode cX4_renew 31 = .ok (.return_, 1) := by decide +kernel
theorem wX4_renew_31 (C : CxC p rmX4_renew s m args meth c D ac q xa xv RX4 cX4_renew 4) (hr : meth.sig.returnType = none){k : Nat} (hk : kdC k = 20) {σ : Mm} {r : Mm} (hl : lv_has ls 4 [(0, .ref (q k))]) (h : fX4_renew_31 k σ = some r) : VC p l e rmX4_renew s m args below meth c D ac q (QVC D ac q xa xv below args s r) σ (F0 m 31 ls []) := by
  have h : some σ = some r := h
  exact v_vret C hr h dX4_renew_31
theorem wX4_renew_12 (C : CxC p rmX4_renew s m args meth c D ac q xa xv RX4 cX4_renew 4) (hr : meth.sig.returnType = none){k : Nat} (hk : kdC k = 20) {v3 : Int} {σ : Mm} {e12 : Mm → Option (Mm)} {c12 : Int → Mm → Option (Mm)} {r : Mm} (he12 : ∀ (σ : Mm) (ls : Array Slot), lv_has ls 4 [(0, .ref (q k))] → e12 σ = some r → VC p l e rmX4_renew s m args below meth c D ac q (QVC D ac q xa xv below args s r) σ (F0 m 31 ls [])) (hc12 : ∀ (v3x : Int) (σ : Mm) (ls : Array Slot), lv_has ls 4 [(0, .ref (q k)), (3, .int (i32 v3x))] → c12 v3x σ = some r → VC p l e rmX4_renew s m args below meth c D ac q (QVC D ac q xa xv below args s r) σ (F0 m 12 ls [])) (hl : lv_has ls 4 [(0, .ref (q k)), (3, .int (i32 v3))]) (h : fX4_renew_12 k e12 c12 v3 σ = some r) : VC p l e rmX4_renew s m args below meth c D ac q (QVC D ac q xa xv below args s r) σ (F0 m 12 ls []) := by
  have h : cr v3 ((if v3 < 40 then chk v3 40 (bindv (sto σ (k + 1) (v3).toNat 0) (fun σ_2 => bindv (v3 + 1) (fun v3_3 => c12 v3_3 σ_2))) else e12 σ)) = some r := h
  refine v_iload_n C hl dX4_renew_12 rfl 1 rfl ?_
  refine v_bipush C dX4_renew_13 rfl ?_
  have hz1 := (cr_e h).1
  have h := (cr_e h).2
  refine v_icmp_ge C (tgt := 31) hz1 (by decide) h dX4_renew_15 rfl (fun h => ?_) (fun h => ?_)
  · exact he12 _ _ (lv_sub hl [0] rfl) h
  · refine v_aload_n C hl dX4_renew_18 rfl 0 rfl ?_
    refine g_X4_0 C hk fl_X4_9 dX4_renew_19 ?_
    refine v_iload_n C hl dX4_renew_22 rfl 1 rfl ?_
    refine v_iconst C dX4_renew_23 ?_
    refine asC21 C (kfC20_0 hk) h dX4_renew_24 (fun σ_2 h => ?_)
    refine v_iinc C hl (fun x => [(3, .int (i32 x)), (0, .ref (q k))]) dX4_renew_25 1 rfl (by decide) (fun _ => rfl) h (fun v3_3 ls hl h => ?_)
    refine v_goto C (tgt := 12) dX4_renew_28 rfl ?_
    exact hc12 _ _ _ (lv_sub hl [1, 0] rfl) h
theorem wlX4_renew_12 (C : CxC p rmX4_renew s m args meth c D ac q xa xv RX4 cX4_renew 4) (hr : meth.sig.returnType = none){k : Nat} (hk : kdC k = 20) {e12 : Mm → Option (Mm)} {r : Mm} (he12 : ∀ (σ : Mm) (ls : Array Slot), lv_has ls 4 [(0, .ref (q k))] → e12 σ = some r → VC p l e rmX4_renew s m args below meth c D ac q (QVC D ac q xa xv below args s r) σ (F0 m 31 ls [])) : ∀ (fu : Nat) (v3 : Int) (σ : Mm) (ls : Array Slot) (hl : lv_has ls 4 [(0, .ref (q k)), (3, .int (i32 v3))]) (h : lX4_renew_12 k e12 fu v3 σ = some r), VC p l e rmX4_renew s m args below meth c D ac q (QVC D ac q xa xv below args s r) σ (F0 m 12 ls []) := by
  intro fu
  induction fu with
  | zero =>
    intro v3 σ ls hl h
    have h : none = some r := h
    cases h
  | succ fu ih =>
    intro v3 σ ls hl h
    exact wX4_renew_12 C hr hk he12 (fun v3 σ ls hl h => ih v3 σ ls hl h) hl h
theorem mX4_renew (hq : QI 175 q) {k : Nat} {v1 : Int} {v2 : Int} (hk : kdC k = 20) {σ : Mm} {r : Mm} (h : fX4_renew k v1 v2 σ = some r) : MVC l D ac q xa xv yX4_renew cX4_renew 4 none rmX4_renew [.ref (q k), .int (i32 v1), .int (i32 v2)] σ r := by
  refine MV.of hq XC_M (by decide) (Nat.le_of_ble_eq_true rfl) (fun p e s m below meth c ls C hr hl => ?_)
  have hl : lv_has ls 4 [(0, .ref (q k)), (1, .int (i32 v1)), (2, .int (i32 v2))] := hl
  have h : bindv (sto σ k 1 v1) (fun σ_1 => bindv (sto σ_1 k 2 v2) (fun σ_2 => bindv 0 (fun v3_3 => lX4_renew_12 k (fun σ_4 => fX4_renew_31 k σ_4) 400 v3_3 σ_2))) = some r := h
  refine v_aload_n C hl dX4_renew_0 rfl 0 rfl ?_
  refine v_iload_n C hl dX4_renew_1 rfl 1 rfl ?_
  refine s_X4_1 C hk fl_X4_15 h dX4_renew_2 (fun σ_1 h => ?_)
  refine v_aload_n C hl dX4_renew_5 rfl 0 rfl ?_
  refine v_iload_n C hl dX4_renew_6 rfl 2 rfl ?_
  refine s_X4_2 C hk fl_X4_19 h dX4_renew_7 (fun σ_2 h => ?_)
  refine v_iconst C dX4_renew_10 ?_
  refine v_istore_n C hl (fun x => [(3, .int (i32 x)), (0, .ref (q k)), (1, .int (i32 v1)), (2, .int (i32 v2))]) dX4_renew_11 rfl (by decide) (fun _ => rfl) h (fun v3_3 ls hl h => ?_)
  exact wlX4_renew_12 C hr hk (fun σ_4 ls hl h => wX4_renew_31 C hr hk (lv_sub hl [0] rfl) h) _ _ _ _ (lv_sub hl [1, 0] rfl) h
end
