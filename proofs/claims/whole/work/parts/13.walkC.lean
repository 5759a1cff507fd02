section
variable {l : Launch} {D : va_G} {ac : Nat → ClassId} {q xa xv : Nat → Nat} {p : Program} {e : Env} {s : State} {m : MethodId} {args : Array Value} {below : List Frame} {meth : Method} {c : Code} {ls : Array Slot}
theorem dX5_noteGone_0 : decode cX5_noteGone 0 = .ok (.aload_n 0, 1) := by decide +kernel
theorem dX5_noteGone_1 : decode cX5_noteGone 1 = .ok (.iload_n 2, 1) := by decide +kernel
theorem dX5_noteGone_2 : decode cX5_noteGone 2 = .ok (.putfield 34, 3) := by decide +kernel
theorem dX5_noteGone_5 : decode cX5_noteGone 5 = .ok (.aload_n 0, 1) := by decide +kernel
theorem dX5_noteGone_6 : decode cX5_noteGone 6 = .ok (.getfield 9, 3) := by decide +kernel
theorem dX5_noteGone_9 : decode cX5_noteGone 9 = .ok (.iload_n 2, 1) := by decide +kernel
theorem dX5_noteGone_10 : decode cX5_noteGone 10 = .ok (.iload_n 1, 1) := by decide +kernel
theorem dX5_noteGone_11 : decode cX5_noteGone 11 = .ok (.iastore, 1) := by decide +kernel
theorem dX5_noteGone_12 : decode cX5_noteGone 12 = .ok (.aload_n 0, 1) := by decide +kernel
theorem dX5_noteGone_13 : decode cX5_noteGone 13 = .ok (.getfield 15, 3) := by decide +kernel
theorem dX5_noteGone_16 : decode cX5_noteGone 16 = .ok (.iload_n 2, 1) := by decide +kernel
theorem dX5_noteGone_17 : decode cX5_noteGone 17 = .ok (.iload_n 3, 1) := by decide +kernel
theorem dX5_noteGone_18 : decode cX5_noteGone 18 = .ok (.iastore, 1) := by decide +kernel
theorem dX5_noteGone_19 : decode cX5_noteGone 19 = .ok (.aload_n 0, 1) := by decide +kernel
theorem dX5_noteGone_20 : decode cX5_noteGone 20 = .ok (.getfield 18, 3) := by decide +kernel
theorem dX5_noteGone_23 : decode cX5_noteGone 23 = .ok (.iload_n 1, 1) := by decide +kernel
theorem dX5_noteGone_24 : decode cX5_noteGone 24 = .ok (.iload_n 2, 1) := by decide +kernel
theorem dX5_noteGone_25 : decode cX5_noteGone 25 = .ok (.iastore, 1) := by decide +kernel
theorem dX5_noteGone_26 : decode cX5_noteGone 26 = .ok (.aload_n 0, 1) := by decide +kernel
theorem dX5_noteGone_27 : decode cX5_noteGone 27 = .ok (.getfield 30, 3) := by decide +kernel
theorem dX5_noteGone_30 : decode cX5_noteGone 30 = .ok (.iload_n 1, 1) := by decide +kernel
theorem dX5_noteGone_31 : decode cX5_noteGone 31 = .ok (.invokevirtual 57, 3) := by decide +kernel
theorem dX5_noteGone_34 : decode cX5_noteGone 34 = .ok (.return_, 1) := by decide +kernel
theorem mX5_noteGone (hq : QI 175 q) {v1 : Int} {v2 : Int} {v3 : Int} {σ : Mm} {r : Mm} (h : fX5_noteGone v1 v2 v3 σ = some r) : MVC l D ac q xa xv yX5_noteGone cX5_noteGone 4 none rmX5_noteGone [.ref (q 9), .int (i32 v1), .int (i32 v2), .int (i32 v3)] σ r := by
  refine MV.of hq XC_M (by decide) (Nat.le_of_ble_eq_true rfl) (fun p e s m below meth c ls C hr hl => ?_)
  have hl : lv_has ls 4 [(0, .ref (q 9)), (1, .int (i32 v1)), (2, .int (i32 v2)), (3, .int (i32 v3))] := hl
  have h : bindv (sto σ 9 4 v2) (fun σ_1 => chk v2 25 (bindv (sto σ_1 10 (v2).toNat v1) (fun σ_2 => chk v2 25 (bindv (sto σ_2 11 (v2).toNat v3) (fun σ_3 => chk v1 24 (bindv (sto σ_3 12 (v1).toNat v2) (fun σ_4 => bd (fX3_dropPoint v1 σ_4) (fun σ_5 => some σ_5)))))))) = some r := h
  refine v_aload_n C hl dX5_noteGone_0 rfl 0 rfl ?_
  refine v_iload_n C hl dX5_noteGone_1 rfl 2 rfl ?_
  refine s_X5_4 C kdC_9 fl_X5_34 h dX5_noteGone_2 (fun σ_1 h => ?_)
  refine v_aload_n C hl dX5_noteGone_5 rfl 0 rfl ?_
  refine g_X5_1 C kdC_9 fl_X5_9 dX5_noteGone_6 ?_
  refine v_iload_n C hl dX5_noteGone_9 rfl 2 rfl ?_
  refine v_iload_n C hl dX5_noteGone_10 rfl 1 rfl ?_
  refine asC11 C kdC_10 h dX5_noteGone_11 (fun σ_2 h => ?_)
  refine v_aload_n C hl dX5_noteGone_12 rfl 0 rfl ?_
  refine g_X5_2 C kdC_9 fl_X5_15 dX5_noteGone_13 ?_
  refine v_iload_n C hl dX5_noteGone_16 rfl 2 rfl ?_
  refine v_iload_n C hl dX5_noteGone_17 rfl 3 rfl ?_
  refine asC11 C kdC_11 h dX5_noteGone_18 (fun σ_3 h => ?_)
  refine v_aload_n C hl dX5_noteGone_19 rfl 0 rfl ?_
  refine g_X5_3 C kdC_9 fl_X5_18 dX5_noteGone_20 ?_
  refine v_iload_n C hl dX5_noteGone_23 rfl 1 rfl ?_
  refine v_iload_n C hl dX5_noteGone_24 rfl 2 rfl ?_
  refine asC8 C kdC_12 h dX5_noteGone_25 (fun σ_4 h => ?_)
  refine v_aload_n C hl dX5_noteGone_26 rfl 0 rfl ?_
  refine g_X5_5 C kdC_9 fl_X5_30 dX5_noteGone_27 ?_
  refine v_iload_n C hl dX5_noteGone_30 rfl 1 rfl ?_
  obtain ⟨σ_5, hv5, h⟩ := bd_e h
  refine v_callVV C 13 (klC kdC_13) rfl (ckC12 kdC_13 _) rfl [.int (i32 v1)] (mX3_dropPoint C.2.2.2.2.1 hv5) cd_X3_dropPoint ic_X3 im_X3_dropPoint se_X3_dropPoint ml_X5_57 yk_X3_dropPoint ⟨rfl, rfl, by decide, by decide⟩ rfl hl.1 (rest := []) rfl (Nat.le_of_ble_eq_true rfl) dX5_noteGone_31 ?_
  exact v_vret C hr h dX5_noteGone_34
end
section
variable {l : Launch} {D : va_G} {ac : Nat → ClassId} {q xa xv : Nat → Nat} {p : Program} {e : Env} {s : State} {m : MethodId} {args : Array Value} {below : List Frame} {meth : Method} {c : Code} {ls : Array Slot}
theorem dX5_sceneAt_0 : decode cX5_sceneAt 0 = .ok (.aload_n 0, 1) := by decide +kernel
theorem dX5_sceneAt_1 : decode cX5_sceneAt 1 = .ok (.getfield 30, 3) := by decide +kernel
theorem dX5_sceneAt_4 : decode cX5_sceneAt 4 = .ok (.invokevirtual 38, 3) := by decide +kernel
theorem dX5_sceneAt_7 : decode cX5_sceneAt 7 = .ok (.iconst 1, 1) := by decide +kernel
theorem dX5_sceneAt_8 : decode cX5_sceneAt 8 = .ok (.istore_n 2, 1) := by decide +kernel
theorem dX5_sceneAt_9 : decode cX5_sceneAt 9 = .ok (.iload_n 2, 1) := by decide +kernel
theorem dX5_sceneAt_10 : decode cX5_sceneAt 10 = .ok (.iload_n 1, 1) := by decide +kernel
theorem dX5_sceneAt_11 : decode cX5_sceneAt 11 = .ok (.if_icmp .gt 30, 3) := by decide +kernel
theorem dX5_sceneAt_14 : decode cX5_sceneAt 14 = .ok (.iload_n 2, 1) := by decide +kernel
theorem dX5_sceneAt_15 : decode cX5_sceneAt 15 = .ok (.aload_n 0, 1) := by decide +kernel
theorem dX5_sceneAt_16 : decode cX5_sceneAt 16 = .ok (.getfield 34, 3) := by decide +kernel
theorem dX5_sceneAt_19 : decode cX5_sceneAt 19 = .ok (.if_icmp .gt 22, 3) := by decide +kernel
theorem dX5_sceneAt_22 : decode cX5_sceneAt 22 = .ok (.aload_n 0, 1) := by decide +kernel
theorem dX5_sceneAt_23 : decode cX5_sceneAt 23 = .ok (.getfield 30, 3) := by decide +kernel
theorem dX5_sceneAt_26 : decode cX5_sceneAt 26 = .ok (.aload_n 0, 1) := by decide +kernel
theorem dX5_sceneAt_27 : decode cX5_sceneAt 27 = .ok (.getfield 9, 3) := by decide +kernel
theorem dX5_sceneAt_30 : decode cX5_sceneAt 30 = .ok (.iload_n 2, 1) := by decide +kernel
theorem dX5_sceneAt_31 : decode cX5_sceneAt 31 = .ok (.iaload, 1) := by decide +kernel
theorem dX5_sceneAt_32 : decode cX5_sceneAt 32 = .ok (.invokevirtual 57, 3) := by decide +kernel
theorem dX5_sceneAt_35 : decode cX5_sceneAt 35 = .ok (.iinc 2 1, 3) := by decide +kernel
theorem dX5_sceneAt_38 : decode cX5_sceneAt 38 = .ok (.goto (-29), 3) := by decide +kernel
theorem dX5_sceneAt_41 : decode cX5_sceneAt 41 = .ok (.aload_n 0, 1) := by decide +kernel
theorem dX5_sceneAt_42 : decode cX5_sceneAt 42 = .ok (.getfield 30, 3) := by decide +kernel
theorem dX5_sceneAt_45 : decode cX5_sceneAt 45 = .ok (.areturn, 1) := by decide +kernel
theorem wX5_sceneAt_41 (C : CxC p rmX5_sceneAt s m args meth c D ac q xa xv RX5 cX5_sceneAt 3) (hr : meth.sig.returnType = (some (.object "SharedBorders$Scene"))) {σ : Mm} {r : Mm} (hl : lv_has ls 3 [(0, .ref (q 9))]) (h : fX5_sceneAt_41 σ = some r) : VC p l e rmX5_sceneAt s m args below meth c D ac q (QRC D ac q xa xv below args s (13, r)) σ (F0 m 41 ls []) := by
  have h : some σ = some r := h
  refine v_aload_n C hl dX5_sceneAt_41 rfl 0 rfl ?_
  refine g_X5_5 C kdC_9 fl_X5_30 dX5_sceneAt_42 ?_
  exact v_aret C hr (Or.inl ⟨_, rfl⟩) 13 rfl (so2 h) dX5_sceneAt_45
theorem wX5_sceneAt_9 (C : CxC p rmX5_sceneAt s m args meth c D ac q xa xv RX5 cX5_sceneAt 3) (hr : meth.sig.returnType = (some (.object "SharedBorders$Scene"))) {v1 : Int} {v2 : Int} {σ : Mm} {e9 : Mm → Option (Mm)} {c9 : Int → Mm → Option (Mm)} {r : Mm} (he9 : ∀ (σ : Mm) (ls : Array Slot), lv_has ls 3 [(0, .ref (q 9))] → e9 σ = some r → VC p l e rmX5_sceneAt s m args below meth c D ac q (QRC D ac q xa xv below args s (13, r)) σ (F0 m 41 ls [])) (hc9 : ∀ (v2x : Int) (σ : Mm) (ls : Array Slot), lv_has ls 3 [(0, .ref (q 9)), (1, .int (i32 v1)), (2, .int (i32 v2x))] → c9 v2x σ = some r → VC p l e rmX5_sceneAt s m args below meth c D ac q (QRC D ac q xa xv below args s (13, r)) σ (F0 m 9 ls [])) (hl : lv_has ls 3 [(0, .ref (q 9)), (1, .int (i32 v1)), (2, .int (i32 v2))]) (h : fX5_sceneAt_9 v1 e9 c9 v2 σ = some r) : VC p l e rmX5_sceneAt s m args below meth c D ac q (QRC D ac q xa xv below args s (13, r)) σ (F0 m 9 ls []) := by
  have h : cr v2 (cr v1 ((if v1 < v2 then e9 σ else cr v2 (cr (σ 9 4) ((if σ 9 4 < v2 then e9 σ else chk v2 25 (bd (fX3_dropPoint (σ 10 (v2).toNat) σ) (fun σ_5 => bindv (v2 + 1) (fun v2_6 => c9 v2_6 σ_5))))))))) = some r := h
  refine v_iload_n C hl dX5_sceneAt_9 rfl 2 rfl ?_
  refine v_iload_n C hl dX5_sceneAt_10 rfl 1 rfl ?_
  have hz1 := (cr_e h).1
  have h := (cr_e h).2
  have hz2 := (cr_e h).1
  have h := (cr_e h).2
  refine v_icmp_gt C (tgt := 41) hz1 hz2 h dX5_sceneAt_11 rfl (fun h => ?_) (fun h => ?_)
  · exact he9 _ _ (lv_sub hl [0] rfl) h
  · refine v_iload_n C hl dX5_sceneAt_14 rfl 2 rfl ?_
    refine v_aload_n C hl dX5_sceneAt_15 rfl 0 rfl ?_
    refine g_X5_4 C kdC_9 fl_X5_34 dX5_sceneAt_16 ?_
    have hz3 := (cr_e h).1
    have h := (cr_e h).2
    have hz4 := (cr_e h).1
    have h := (cr_e h).2
    refine v_icmp_gt C (tgt := 41) hz3 hz4 h dX5_sceneAt_19 rfl (fun h => ?_) (fun h => ?_)
    · exact he9 _ _ (lv_sub hl [0] rfl) h
    · refine v_aload_n C hl dX5_sceneAt_22 rfl 0 rfl ?_
      refine g_X5_5 C kdC_9 fl_X5_30 dX5_sceneAt_23 ?_
      refine v_aload_n C hl dX5_sceneAt_26 rfl 0 rfl ?_
      refine g_X5_1 C kdC_9 fl_X5_9 dX5_sceneAt_27 ?_
      refine v_iload_n C hl dX5_sceneAt_30 rfl 2 rfl ?_
      refine alC11 C kdC_10 h dX5_sceneAt_31 (fun h => ?_)
      obtain ⟨σ_5, hv5, h⟩ := bd_e h
      refine v_callVV C 13 (klC kdC_13) rfl (ckC12 kdC_13 _) rfl [.int (i32 (σ 10 (v2).toNat))] (mX3_dropPoint C.2.2.2.2.1 hv5) cd_X3_dropPoint ic_X3 im_X3_dropPoint se_X3_dropPoint ml_X5_57 yk_X3_dropPoint ⟨rfl, rfl, by decide, by decide⟩ rfl hl.1 (rest := []) rfl (Nat.le_of_ble_eq_true rfl) dX5_sceneAt_32 ?_
      refine v_iinc C hl (fun x => [(2, .int (i32 x)), (0, .ref (q 9)), (1, .int (i32 v1))]) dX5_sceneAt_35 2 rfl (by decide) (fun _ => rfl) h (fun v2_6 ls hl h => ?_)
      refine v_goto C (tgt := 9) dX5_sceneAt_38 rfl ?_
      exact hc9 _ _ _ (lv_sub hl [1, 2, 0] rfl) h
theorem wlX5_sceneAt_9 (C : CxC p rmX5_sceneAt s m args meth c D ac q xa xv RX5 cX5_sceneAt 3) (hr : meth.sig.returnType = (some (.object "SharedBorders$Scene"))) {v1 : Int} {e9 : Mm → Option (Mm)} {r : Mm} (he9 : ∀ (σ : Mm) (ls : Array Slot), lv_has ls 3 [(0, .ref (q 9))] → e9 σ = some r → VC p l e rmX5_sceneAt s m args below meth c D ac q (QRC D ac q xa xv below args s (13, r)) σ (F0 m 41 ls [])) : ∀ (fu : Nat) (v2 : Int) (σ : Mm) (ls : Array Slot) (hl : lv_has ls 3 [(0, .ref (q 9)), (1, .int (i32 v1)), (2, .int (i32 v2))]) (h : lX5_sceneAt_9 v1 e9 fu v2 σ = some r), VC p l e rmX5_sceneAt s m args below meth c D ac q (QRC D ac q xa xv below args s (13, r)) σ (F0 m 9 ls []) := by
  intro fu
  induction fu with
  | zero =>
    intro v2 σ ls hl h
    have h : none = some r := h
    cases h
  | succ fu ih =>
    intro v2 σ ls hl h
    exact wX5_sceneAt_9 C hr he9 (fun v2 σ ls hl h => ih v2 σ ls hl h) hl h
theorem mX5_sceneAt (hq : QI 175 q) {v1 : Int} {σ : Mm} {r : Mm} (h : fX5_sceneAt v1 σ = some r) : MRC l D ac q xa xv yX5_sceneAt cX5_sceneAt 3 (some (.object "SharedBorders$Scene")) rmX5_sceneAt [.ref (q 9), .int (i32 v1)] σ (13, r) := by
  refine MR.of hq XC_M (by decide) (Nat.le_of_ble_eq_true rfl) (fun p e s m below meth c ls C hr hl => ?_)
  have hl : lv_has ls 3 [(0, .ref (q 9)), (1, .int (i32 v1))] := hl
  have h : bd (fX3_showAll σ) (fun σ_1 => bindv 1 (fun v2_2 => lX5_sceneAt_9 v1 (fun σ_3 => fX5_sceneAt_41 σ_3) 400 v2_2 σ_1)) = some r := h
  refine v_aload_n C hl dX5_sceneAt_0 rfl 0 rfl ?_
  refine g_X5_5 C kdC_9 fl_X5_30 dX5_sceneAt_1 ?_
  obtain ⟨σ_1, hv1, h⟩ := bd_e h
  refine v_callVV C 13 (klC kdC_13) rfl (ckC12 kdC_13 _) rfl [] (mX3_showAll C.2.2.2.2.1 hv1) cd_X3_showAll ic_X3 im_X3_showAll se_X3_showAll ml_X5_38 yk_X3_showAll ⟨rfl, rfl, by decide, by decide⟩ rfl hl.1 (rest := []) rfl (Nat.le_of_ble_eq_true rfl) dX5_sceneAt_4 ?_
  refine v_iconst C dX5_sceneAt_7 ?_
  refine v_istore_n C hl (fun x => [(2, .int (i32 x)), (0, .ref (q 9)), (1, .int (i32 v1))]) dX5_sceneAt_8 rfl (by decide) (fun _ => rfl) h (fun v2_2 ls hl h => ?_)
  exact wlX5_sceneAt_9 C hr (fun σ_3 ls hl h => wX5_sceneAt_41 C hr (lv_sub hl [0] rfl) h) _ _ _ _ (lv_sub hl [1, 2, 0] rfl) h
end
section
variable {l : Launch} {D : va_G} {ac : Nat → ClassId} {q xa xv : Nat → Nat} {p : Program} {e : Env} {s : State} {m : MethodId} {args : Array Value} {below : List Frame} {meth : Method} {c : Code} {ls : Array Slot}
theorem dX5_thin_0 : decode cX5_thin 0 = .ok (.aload_n 0, 1) := by decide +kernel
theorem dX5_thin_1 : decode cX5_thin 1 = .ok (.iconst 0, 1) := by decide +kernel
theorem dX5_thin_2 : decode cX5_thin 2 = .ok (.putfield 34, 3) := by decide +kernel
theorem dX5_thin_5 : decode cX5_thin 5 = .ok (.iconst 0, 1) := by decide +kernel
theorem dX5_thin_6 : decode cX5_thin 6 = .ok (.istore_n 1, 1) := by decide +kernel
theorem dX5_thin_7 : decode cX5_thin 7 = .ok (.iload_n 1, 1) := by decide +kernel
theorem dX5_thin_8 : decode cX5_thin 8 = .ok (.bipush 24, 2) := by decide +kernel
theorem dX5_thin_10 : decode cX5_thin 10 = .ok (.if_icmp .ge 16, 3) := by decide +kernel
theorem dX5_thin_13 : decode cX5_thin 13 = .ok (.aload_n 0, 1) := by decide +kernel
theorem dX5_thin_14 : decode cX5_thin 14 = .ok (.getfield 18, 3) := by decide +kernel
theorem dX5_thin_17 : decode cX5_thin 17 = .ok (.iload_n 1, 1) := by decide +kernel
theorem dX5_thin_18 : decode cX5_thin 18 = .ok (.iconst 0, 1) := by decide +kernel
theorem dX5_thin_19 : decode cX5_thin 19 = .ok (.iastore, 1) := by decide +kernel
theorem dX5_thin_20 : decode cX5_thin 20 = .ok (.iinc 1 1, 3) := by decide +kernel
theorem dX5_thin_23 : decode cX5_thin 23 = .ok (.goto (-16), 3) := by decide +kernel
theorem dX5_thin_26 : decode cX5_thin 26 = .ok (.aload_n 0, 1) := by decide +kernel
theorem dX5_thin_27 : decode cX5_thin 27 = .ok (.getfield 30, 3) := by decide +kernel
theorem dX5_thin_30 : decode cX5_thin 30 = .ok (.invokevirtual 38, 3) := by decide +kernel
theorem dX5_thin_33 : decode cX5_thin 33 = .ok (.iconst 1, 1) := by decide +kernel
theorem dX5_thin_34 : decode cX5_thin 34 = .ok (.istore_n 1, 1) := by decide +kernel
theorem dX5_thin_35 : decode cX5_thin 35 = .ok (.iload_n 1, 1) := by decide +kernel
theorem dX5_thin_36 : decode cX5_thin 36 = .ok (.bipush 24, 2) := by decide +kernel
theorem dX5_thin_38 : decode cX5_thin 38 = .ok (.if_icmp .gt 87, 3) := by decide +kernel
theorem dX5_thin_41 : decode cX5_thin 41 = .ok (.iconst (-1), 1) := by decide +kernel
theorem dX5_thin_42 : decode cX5_thin 42 = .ok (.istore_n 2, 1) := by decide +kernel
theorem dX5_thin_43 : decode cX5_thin 43 = .ok (.iconst 0, 1) := by decide +kernel
theorem dX5_thin_44 : decode cX5_thin 44 = .ok (.istore_n 3, 1) := by decide +kernel
theorem dX5_thin_45 : decode cX5_thin 45 = .ok (.iconst 0, 1) := by decide +kernel
theorem dX5_thin_46 : decode cX5_thin 46 = .ok (.istore 4, 2) := by decide +kernel
theorem dX5_thin_48 : decode cX5_thin 48 = .ok (.iload 4, 2) := by decide +kernel
theorem dX5_thin_50 : decode cX5_thin 50 = .ok (.aload_n 0, 1) := by decide +kernel
theorem dX5_thin_51 : decode cX5_thin 51 = .ok (.getfield 21, 3) := by decide +kernel
theorem dX5_thin_54 : decode cX5_thin 54 = .ok (.getfield 41, 3) := by decide +kernel
theorem dX5_thin_57 : decode cX5_thin 57 = .ok (.if_icmp .ge 48, 3) := by decide +kernel
theorem dX5_thin_60 : decode cX5_thin 60 = .ok (.aload_n 0, 1) := by decide +kernel
theorem dX5_thin_61 : decode cX5_thin 61 = .ok (.getfield 30, 3) := by decide +kernel
theorem dX5_thin_64 : decode cX5_thin 64 = .ok (.iload 4, 2) := by decide +kernel
theorem dX5_thin_66 : decode cX5_thin 66 = .ok (.invokevirtual 46, 3) := by decide +kernel
theorem dX5_thin_69 : decode cX5_thin 69 = .ok (.istore 5, 2) := by decide +kernel
theorem dX5_thin_71 : decode cX5_thin 71 = .ok (.iload_n 2, 1) := by decide +kernel
theorem dX5_thin_72 : decode cX5_thin 72 = .ok (.ifCond .lt 9, 3) := by decide +kernel
theorem dX5_thin_75 : decode cX5_thin 75 = .ok (.iload 5, 2) := by decide +kernel
theorem dX5_thin_77 : decode cX5_thin 77 = .ok (.iload_n 3, 1) := by decide +kernel
theorem dX5_thin_78 : decode cX5_thin 78 = .ok (.if_icmp .ge 21, 3) := by decide +kernel
theorem dX5_thin_81 : decode cX5_thin 81 = .ok (.aload_n 0, 1) := by decide +kernel
theorem dX5_thin_82 : decode cX5_thin 82 = .ok (.getfield 30, 3) := by decide +kernel
theorem dX5_thin_85 : decode cX5_thin 85 = .ok (.iload 4, 2) := by decide +kernel
theorem dX5_thin_87 : decode cX5_thin 87 = .ok (.invokevirtual 50, 3) := by decide +kernel
theorem dX5_thin_90 : decode cX5_thin 90 = .ok (.ifCond .ne 9, 3) := by decide +kernel
theorem dX5_thin_93 : decode cX5_thin 93 = .ok (.iload 4, 2) := by decide +kernel
theorem dX5_thin_95 : decode cX5_thin 95 = .ok (.istore_n 2, 1) := by decide +kernel
theorem dX5_thin_96 : decode cX5_thin 96 = .ok (.iload 5, 2) := by decide +kernel
theorem dX5_thin_98 : decode cX5_thin 98 = .ok (.istore_n 3, 1) := by decide +kernel
theorem dX5_thin_99 : decode cX5_thin 99 = .ok (.iinc 4 1, 3) := by decide +kernel
theorem dX5_thin_102 : decode cX5_thin 102 = .ok (.goto (-54), 3) := by decide +kernel
theorem dX5_thin_105 : decode cX5_thin 105 = .ok (.iload_n 2, 1) := by decide +kernel
theorem dX5_thin_106 : decode cX5_thin 106 = .ok (.ifCond .ge 6, 3) := by decide +kernel
theorem dX5_thin_109 : decode cX5_thin 109 = .ok (.goto 16, 3) := by decide +kernel
theorem dX5_thin_112 : decode cX5_thin 112 = .ok (.aload_n 0, 1) := by decide +kernel
theorem dX5_thin_113 : decode cX5_thin 113 = .ok (.iload_n 2, 1) := by decide +kernel
theorem dX5_thin_114 : decode cX5_thin 114 = .ok (.iload_n 1, 1) := by decide +kernel
theorem dX5_thin_115 : decode cX5_thin 115 = .ok (.iload_n 3, 1) := by decide +kernel
theorem dX5_thin_116 : decode cX5_thin 116 = .ok (.invokevirtual 53, 3) := by decide +kernel
theorem dX5_thin_119 : decode cX5_thin 119 = .ok (.iinc 1 1, 3) := by decide +kernel
theorem dX5_thin_122 : decode cX5_thin 122 = .ok (.goto (-87), 3) := by decide +kernel
theorem dX5_thin_125 : decode cX5_thin 125 = .ok (.return_, 1) := by decide +kernel
theorem wX5_thin_125 (C : CxC p rmX5_thin s m args meth c D ac q xa xv RX5 cX5_thin 6) (hr : meth.sig.returnType = none) {σ : Mm} {r : Mm} (hl : lv_has ls 6 [(0, .ref (q 9))]) (h : fX5_thin_125 σ = some r) : VC p l e rmX5_thin s m args below meth c D ac q (QVC D ac q xa xv below args s r) σ (F0 m 125 ls []) := by
  have h : some σ = some r := h
  exact v_vret C hr h dX5_thin_125
theorem wX5_thin_105 (C : CxC p rmX5_thin s m args meth c D ac q xa xv RX5 cX5_thin 6) (hr : meth.sig.returnType = none) {v1 : Int} {v2 : Int} {v3 : Int} {c35 : Int → Mm → Option (Mm)} {e35 : Mm → Option (Mm)} {σ : Mm} {r : Mm} (hc35 : ∀ (v1x : Int) (σ : Mm) (ls : Array Slot), lv_has ls 6 [(0, .ref (q 9)), (1, .int (i32 v1x))] → c35 v1x σ = some r → VC p l e rmX5_thin s m args below meth c D ac q (QVC D ac q xa xv below args s r) σ (F0 m 35 ls [])) (he35 : ∀ (σ : Mm) (ls : Array Slot), lv_has ls 6 [(0, .ref (q 9))] → e35 σ = some r → VC p l e rmX5_thin s m args below meth c D ac q (QVC D ac q xa xv below args s r) σ (F0 m 125 ls [])) (hl : lv_has ls 6 [(0, .ref (q 9)), (1, .int (i32 v1)), (2, .int (i32 v2)), (3, .int (i32 v3))]) (h : fX5_thin_105 c35 e35 v1 v2 v3 σ = some r) : VC p l e rmX5_thin s m args below meth c D ac q (QVC D ac q xa xv below args s r) σ (F0 m 105 ls []) := by
  have h : cr v2 ((if v2 < 0 then e35 σ else bd (fX5_noteGone v2 v1 v3 σ) (fun σ_2 => bindv (v1 + 1) (fun v1_3 => c35 v1_3 σ_2)))) = some r := h
  refine v_iload_n C hl dX5_thin_105 rfl 2 rfl ?_
  have hz1 := (cr_e h).1
  have h := (cr_e h).2
  refine v_if_ge C (tgt := 112) hz1 h dX5_thin_106 rfl (fun h => ?_) (fun h => ?_)
  · refine v_aload_n C hl dX5_thin_112 rfl 0 rfl ?_
    refine v_iload_n C hl dX5_thin_113 rfl 2 rfl ?_
    refine v_iload_n C hl dX5_thin_114 rfl 1 rfl ?_
    refine v_iload_n C hl dX5_thin_115 rfl 3 rfl ?_
    obtain ⟨σ_2, hv2, h⟩ := bd_e h
    refine v_callVV C 9 (klC kdC_9) rfl (ckC10 kdC_9 _) rfl [.int (i32 v2), .int (i32 v1), .int (i32 v3)] (mX5_noteGone C.2.2.2.2.1 hv2) cd_X5_noteGone ic_X5 im_X5_noteGone se_X5_noteGone ml_X5_53 yk_X5_noteGone ⟨rfl, rfl, by decide, by decide⟩ rfl hl.1 (rest := []) rfl (Nat.le_of_ble_eq_true rfl) dX5_thin_116 ?_
    refine v_iinc C hl (fun x => [(1, .int (i32 x)), (0, .ref (q 9)), (2, .int (i32 v2)), (3, .int (i32 v3))]) dX5_thin_119 1 rfl (by decide) (fun _ => rfl) h (fun v1_3 ls hl h => ?_)
    refine v_goto C (tgt := 35) dX5_thin_122 rfl ?_
    exact hc35 _ _ _ (lv_sub hl [1, 0] rfl) h
  · refine v_goto C (tgt := 125) dX5_thin_109 rfl ?_
    exact he35 _ _ (lv_sub hl [0] rfl) h
theorem wX5_thin_99 (C : CxC p rmX5_thin s m args meth c D ac q xa xv RX5 cX5_thin 6) (hr : meth.sig.returnType = none) {v1 : Int} {v2 : Int} {v3 : Int} {v4 : Int} {c48 : Int → Int → Int → Mm → Option (Mm)} {σ : Mm} {r : Mm} (hc48 : ∀ (v2x : Int) (v3x : Int) (v4x : Int) (σ : Mm) (ls : Array Slot), lv_has ls 6 [(0, .ref (q 9)), (1, .int (i32 v1)), (2, .int (i32 v2x)), (3, .int (i32 v3x)), (4, .int (i32 v4x))] → c48 v2x v3x v4x σ = some r → VC p l e rmX5_thin s m args below meth c D ac q (QVC D ac q xa xv below args s r) σ (F0 m 48 ls [])) (hl : lv_has ls 6 [(0, .ref (q 9)), (1, .int (i32 v1)), (2, .int (i32 v2)), (3, .int (i32 v3)), (4, .int (i32 v4))]) (h : fX5_thin_99 c48 v1 v2 v3 v4 σ = some r) : VC p l e rmX5_thin s m args below meth c D ac q (QVC D ac q xa xv below args s r) σ (F0 m 99 ls []) := by
  have h : bindv (v4 + 1) (fun v4_1 => c48 v2 v3 v4_1 σ) = some r := h
  refine v_iinc C hl (fun x => [(4, .int (i32 x)), (0, .ref (q 9)), (1, .int (i32 v1)), (2, .int (i32 v2)), (3, .int (i32 v3))]) dX5_thin_99 4 rfl (by decide) (fun _ => rfl) h (fun v4_1 ls hl h => ?_)
  refine v_goto C (tgt := 48) dX5_thin_102 rfl ?_
  exact hc48 _ _ _ _ _ (lv_sub hl [1, 2, 3, 4, 0] rfl) h
theorem wX5_thin_81 (C : CxC p rmX5_thin s m args meth c D ac q xa xv RX5 cX5_thin 6) (hr : meth.sig.returnType = none) {v1 : Int} {v2 : Int} {v3 : Int} {v4 : Int} {v5 : Int} {c48 : Int → Int → Int → Mm → Option (Mm)} {σ : Mm} {r : Mm} (hc48 : ∀ (v2x : Int) (v3x : Int) (v4x : Int) (σ : Mm) (ls : Array Slot), lv_has ls 6 [(0, .ref (q 9)), (1, .int (i32 v1)), (2, .int (i32 v2x)), (3, .int (i32 v3x)), (4, .int (i32 v4x))] → c48 v2x v3x v4x σ = some r → VC p l e rmX5_thin s m args below meth c D ac q (QVC D ac q xa xv below args s r) σ (F0 m 48 ls [])) (hl : lv_has ls 6 [(0, .ref (q 9)), (1, .int (i32 v1)), (2, .int (i32 v2)), (3, .int (i32 v3)), (4, .int (i32 v4)), (5, .int (i32 v5))]) (h : fX5_thin_81 c48 v1 v2 v3 v4 v5 σ = some r) : VC p l e rmX5_thin s m args below meth c D ac q (QVC D ac q xa xv below args s r) σ (F0 m 81 ls []) := by
  have h : bd2 (fX3_reasonOf v4 σ) (fun x_1 σ_1 => cr x_1 ((if x_1 = 0 then bindv v4 (fun v2_3 => bindv v5 (fun v3_4 => fX5_thin_99 c48 v1 v2_3 v3_4 v4 σ_1)) else fX5_thin_99 c48 v1 v2 v3 v4 σ_1))) = some r := h
  refine v_aload_n C hl dX5_thin_81 rfl 0 rfl ?_
  refine g_X5_5 C kdC_9 fl_X5_30 dX5_thin_82 ?_
  refine v_iload C hl dX5_thin_85 4 rfl ?_
  obtain ⟨x_1, σ_1, hv1, h⟩ := bd2_e h
  refine v_callVI C 13 (klC kdC_13) rfl (ckC12 kdC_13 _) rfl [.int (i32 v4)] (mX3_reasonOf C.2.2.2.2.1 hv1) cd_X3_reasonOf ic_X3 im_X3_reasonOf se_X3_reasonOf ml_X5_50 yk_X3_reasonOf ⟨rfl, rfl, by decide, by decide⟩ rfl hl.1 (rest := []) rfl (Nat.le_of_ble_eq_true rfl) dX5_thin_87 ?_
  have hz2 := (cr_e h).1
  have h := (cr_e h).2
  refine v_if_ne C (tgt := 99) hz2 h dX5_thin_90 rfl (fun h => ?_) (fun h => ?_)
  · exact wX5_thin_99 C hr hc48 (lv_sub hl [0, 1, 2, 3, 4] rfl) h
  · refine v_iload C hl dX5_thin_93 4 rfl ?_
    refine v_istore_n C hl (fun x => [(2, .int (i32 x)), (0, .ref (q 9)), (1, .int (i32 v1)), (3, .int (i32 v3)), (4, .int (i32 v4)), (5, .int (i32 v5))]) dX5_thin_95 rfl (by decide) (fun _ => rfl) h (fun v2_3 ls hl h => ?_)
    refine v_iload C hl dX5_thin_96 5 rfl ?_
    refine v_istore_n C hl (fun x => [(3, .int (i32 x)), (2, .int (i32 v2_3)), (0, .ref (q 9)), (1, .int (i32 v1)), (4, .int (i32 v4)), (5, .int (i32 v5))]) dX5_thin_98 rfl (by decide) (fun _ => rfl) h (fun v3_4 ls hl h => ?_)
    exact wX5_thin_99 C hr hc48 (lv_sub hl [2, 3, 1, 0, 4] rfl) h
theorem wX5_thin_48 (C : CxC p rmX5_thin s m args meth c D ac q xa xv RX5 cX5_thin 6) (hr : meth.sig.returnType = none) {v1 : Int} {v2 : Int} {v3 : Int} {v4 : Int} {σ : Mm} {e48 : Int → Int → Mm → Option (Mm)} {c48 : Int → Int → Int → Mm → Option (Mm)} {r : Mm} (he48 : ∀ (v2x : Int) (v3x : Int) (σ : Mm) (ls : Array Slot), lv_has ls 6 [(0, .ref (q 9)), (1, .int (i32 v1)), (2, .int (i32 v2x)), (3, .int (i32 v3x))] → e48 v2x v3x σ = some r → VC p l e rmX5_thin s m args below meth c D ac q (QVC D ac q xa xv below args s r) σ (F0 m 105 ls [])) (hc48 : ∀ (v2x : Int) (v3x : Int) (v4x : Int) (σ : Mm) (ls : Array Slot), lv_has ls 6 [(0, .ref (q 9)), (1, .int (i32 v1)), (2, .int (i32 v2x)), (3, .int (i32 v3x)), (4, .int (i32 v4x))] → c48 v2x v3x v4x σ = some r → VC p l e rmX5_thin s m args below meth c D ac q (QVC D ac q xa xv below args s r) σ (F0 m 48 ls [])) (hl : lv_has ls 6 [(0, .ref (q 9)), (1, .int (i32 v1)), (2, .int (i32 v2)), (3, .int (i32 v3)), (4, .int (i32 v4))]) (h : fX5_thin_48 v1 e48 c48 v2 v3 v4 σ = some r) : VC p l e rmX5_thin s m args below meth c D ac q (QVC D ac q xa xv below args s r) σ (F0 m 48 ls []) := by
  have h : cr v4 (cr (σ 95 9) ((if v4 < σ 95 9 then bd (fX3_triangleOf v4 σ) (fun x_3 => bindv x_3 (fun v5_4 => cr v2 ((if v2 < 0 then fX5_thin_81 c48 v1 v2 v3 v4 v5_4 σ else cr v5_4 (cr v3 ((if v5_4 < v3 then fX5_thin_81 c48 v1 v2 v3 v4 v5_4 σ else fX5_thin_99 c48 v1 v2 v3 v4 σ))))))) else e48 v2 v3 σ))) = some r := h
  refine v_iload C hl dX5_thin_48 4 rfl ?_
  refine v_aload_n C hl dX5_thin_50 rfl 0 rfl ?_
  refine g_X5_0 C kdC_9 fl_X5_21 dX5_thin_51 ?_
  refine g_X1_9 C kdC_95 fl_X5_41 dX5_thin_54 ?_
  have hz1 := (cr_e h).1
  have h := (cr_e h).2
  have hz2 := (cr_e h).1
  have h := (cr_e h).2
  refine v_icmp_ge C (tgt := 105) hz1 hz2 h dX5_thin_57 rfl (fun h => ?_) (fun h => ?_)
  · exact he48 _ _ _ _ (lv_sub hl [0, 1, 2, 3] rfl) h
  · refine v_aload_n C hl dX5_thin_60 rfl 0 rfl ?_
    refine g_X5_5 C kdC_9 fl_X5_30 dX5_thin_61 ?_
    refine v_iload C hl dX5_thin_64 4 rfl ?_
    obtain ⟨x_3, hv3, h⟩ := bd_e h
    refine v_callVI C 13 (klC kdC_13) rfl (ckC12 kdC_13 _) rfl [.int (i32 v4)] (mX3_triangleOf C.2.2.2.2.1 hv3) cd_X3_triangleOf ic_X3 im_X3_triangleOf se_X3_triangleOf ml_X5_46 yk_X3_triangleOf ⟨rfl, rfl, by decide, by decide⟩ rfl hl.1 (rest := []) rfl (Nat.le_of_ble_eq_true rfl) dX5_thin_66 ?_
    refine v_istore C hl (fun x => [(5, .int (i32 x)), (0, .ref (q 9)), (1, .int (i32 v1)), (2, .int (i32 v2)), (3, .int (i32 v3)), (4, .int (i32 v4))]) dX5_thin_69 (by decide) (fun _ => rfl) h (fun v5_4 ls hl h => ?_)
    refine v_iload_n C hl dX5_thin_71 rfl 3 rfl ?_
    have hz5 := (cr_e h).1
    have h := (cr_e h).2
    refine v_if_lt C (tgt := 81) hz5 h dX5_thin_72 rfl (fun h => ?_) (fun h => ?_)
    · exact wX5_thin_81 C hr hc48 (lv_sub hl [1, 2, 3, 4, 5, 0] rfl) h
    · refine v_iload C hl dX5_thin_75 0 rfl ?_
      refine v_iload_n C hl dX5_thin_77 rfl 4 rfl ?_
      have hz6 := (cr_e h).1
      have h := (cr_e h).2
      have hz7 := (cr_e h).1
      have h := (cr_e h).2
      refine v_icmp_ge C (tgt := 99) hz6 hz7 h dX5_thin_78 rfl (fun h => ?_) (fun h => ?_)
      · exact wX5_thin_99 C hr hc48 (lv_sub hl [1, 2, 3, 4, 5] rfl) h
      · exact wX5_thin_81 C hr hc48 (lv_sub hl [1, 2, 3, 4, 5, 0] rfl) h
theorem wlX5_thin_48 (C : CxC p rmX5_thin s m args meth c D ac q xa xv RX5 cX5_thin 6) (hr : meth.sig.returnType = none) {v1 : Int} {e48 : Int → Int → Mm → Option (Mm)} {r : Mm} (he48 : ∀ (v2x : Int) (v3x : Int) (σ : Mm) (ls : Array Slot), lv_has ls 6 [(0, .ref (q 9)), (1, .int (i32 v1)), (2, .int (i32 v2x)), (3, .int (i32 v3x))] → e48 v2x v3x σ = some r → VC p l e rmX5_thin s m args below meth c D ac q (QVC D ac q xa xv below args s r) σ (F0 m 105 ls [])) : ∀ (fu : Nat) (v2 : Int) (v3 : Int) (v4 : Int) (σ : Mm) (ls : Array Slot) (hl : lv_has ls 6 [(0, .ref (q 9)), (1, .int (i32 v1)), (2, .int (i32 v2)), (3, .int (i32 v3)), (4, .int (i32 v4))]) (h : lX5_thin_48 v1 e48 fu v2 v3 v4 σ = some r), VC p l e rmX5_thin s m args below meth c D ac q (QVC D ac q xa xv below args s r) σ (F0 m 48 ls []) := by
  intro fu
  induction fu with
  | zero =>
    intro v2 v3 v4 σ ls hl h
    have h : none = some r := h
    cases h
  | succ fu ih =>
    intro v2 v3 v4 σ ls hl h
    exact wX5_thin_48 C hr he48 (fun v2 v3 v4 σ ls hl h => ih v2 v3 v4 σ ls hl h) hl h
theorem wX5_thin_35 (C : CxC p rmX5_thin s m args meth c D ac q xa xv RX5 cX5_thin 6) (hr : meth.sig.returnType = none) {v1 : Int} {σ : Mm} {e35 : Mm → Option (Mm)} {c35 : Int → Mm → Option (Mm)} {r : Mm} (he35 : ∀ (σ : Mm) (ls : Array Slot), lv_has ls 6 [(0, .ref (q 9))] → e35 σ = some r → VC p l e rmX5_thin s m args below meth c D ac q (QVC D ac q xa xv below args s r) σ (F0 m 125 ls [])) (hc35 : ∀ (v1x : Int) (σ : Mm) (ls : Array Slot), lv_has ls 6 [(0, .ref (q 9)), (1, .int (i32 v1x))] → c35 v1x σ = some r → VC p l e rmX5_thin s m args below meth c D ac q (QVC D ac q xa xv below args s r) σ (F0 m 35 ls [])) (hl : lv_has ls 6 [(0, .ref (q 9)), (1, .int (i32 v1))]) (h : fX5_thin_35 e35 c35 v1 σ = some r) : VC p l e rmX5_thin s m args below meth c D ac q (QVC D ac q xa xv below args s r) σ (F0 m 35 ls []) := by
  have h : cr v1 ((if 24 < v1 then e35 σ else bindv (-1) (fun v2_2 => bindv 0 (fun v3_3 => bindv 0 (fun v4_4 => lX5_thin_48 v1 (fun v2_5 v3_6 σ_7 => fX5_thin_105 c35 e35 v1 v2_5 v3_6 σ_7) 400 v2_2 v3_3 v4_4 σ))))) = some r := h
  refine v_iload_n C hl dX5_thin_35 rfl 1 rfl ?_
  refine v_bipush C dX5_thin_36 rfl ?_
  have hz1 := (cr_e h).1
  have h := (cr_e h).2
  refine v_icmp_gt C (tgt := 125) hz1 (by decide) h dX5_thin_38 rfl (fun h => ?_) (fun h => ?_)
  · exact he35 _ _ (lv_sub hl [0] rfl) h
  · refine v_iconst C dX5_thin_41 ?_
    refine v_istore_n C hl (fun x => [(2, .int (i32 x)), (0, .ref (q 9)), (1, .int (i32 v1))]) dX5_thin_42 rfl (by decide) (fun _ => rfl) h (fun v2_2 ls hl h => ?_)
    refine v_iconst C dX5_thin_43 ?_
    refine v_istore_n C hl (fun x => [(3, .int (i32 x)), (2, .int (i32 v2_2)), (0, .ref (q 9)), (1, .int (i32 v1))]) dX5_thin_44 rfl (by decide) (fun _ => rfl) h (fun v3_3 ls hl h => ?_)
    refine v_iconst C dX5_thin_45 ?_
    refine v_istore C hl (fun x => [(4, .int (i32 x)), (3, .int (i32 v3_3)), (2, .int (i32 v2_2)), (0, .ref (q 9)), (1, .int (i32 v1))]) dX5_thin_46 (by decide) (fun _ => rfl) h (fun v4_4 ls hl h => ?_)
    exact wlX5_thin_48 C hr (fun v2_5 v3_6 σ_7 ls hl h => wX5_thin_105 C hr hc35 he35 (lv_sub hl [0, 1, 2, 3] rfl) h) _ _ _ _ _ _ (lv_sub hl [3, 4, 2, 1, 0] rfl) h
theorem wlX5_thin_35 (C : CxC p rmX5_thin s m args meth c D ac q xa xv RX5 cX5_thin 6) (hr : meth.sig.returnType = none) {e35 : Mm → Option (Mm)} {r : Mm} (he35 : ∀ (σ : Mm) (ls : Array Slot), lv_has ls 6 [(0, .ref (q 9))] → e35 σ = some r → VC p l e rmX5_thin s m args below meth c D ac q (QVC D ac q xa xv below args s r) σ (F0 m 125 ls [])) : ∀ (fu : Nat) (v1 : Int) (σ : Mm) (ls : Array Slot) (hl : lv_has ls 6 [(0, .ref (q 9)), (1, .int (i32 v1))]) (h : lX5_thin_35 e35 fu v1 σ = some r), VC p l e rmX5_thin s m args below meth c D ac q (QVC D ac q xa xv below args s r) σ (F0 m 35 ls []) := by
  intro fu
  induction fu with
  | zero =>
    intro v1 σ ls hl h
    have h : none = some r := h
    cases h
  | succ fu ih =>
    intro v1 σ ls hl h
    exact wX5_thin_35 C hr he35 (fun v1 σ ls hl h => ih v1 σ ls hl h) hl h
theorem wX5_thin_26 (C : CxC p rmX5_thin s m args meth c D ac q xa xv RX5 cX5_thin 6) (hr : meth.sig.returnType = none) {σ : Mm} {r : Mm} (hl : lv_has ls 6 [(0, .ref (q 9))]) (h : fX5_thin_26 σ = some r) : VC p l e rmX5_thin s m args below meth c D ac q (QVC D ac q xa xv below args s r) σ (F0 m 26 ls []) := by
  have h : bd (fX3_showAll σ) (fun σ_1 => bindv 1 (fun v1_2 => lX5_thin_35 (fun σ_3 => fX5_thin_125 σ_3) 400 v1_2 σ_1)) = some r := h
  refine v_aload_n C hl dX5_thin_26 rfl 0 rfl ?_
  refine g_X5_5 C kdC_9 fl_X5_30 dX5_thin_27 ?_
  obtain ⟨σ_1, hv1, h⟩ := bd_e h
  refine v_callVV C 13 (klC kdC_13) rfl (ckC12 kdC_13 _) rfl [] (mX3_showAll C.2.2.2.2.1 hv1) cd_X3_showAll ic_X3 im_X3_showAll se_X3_showAll ml_X5_38 yk_X3_showAll ⟨rfl, rfl, by decide, by decide⟩ rfl hl.1 (rest := []) rfl (Nat.le_of_ble_eq_true rfl) dX5_thin_30 ?_
  refine v_iconst C dX5_thin_33 ?_
  refine v_istore_n C hl (fun x => [(1, .int (i32 x)), (0, .ref (q 9))]) dX5_thin_34 rfl (by decide) (fun _ => rfl) h (fun v1_2 ls hl h => ?_)
  exact wlX5_thin_35 C hr (fun σ_3 ls hl h => wX5_thin_125 C hr (lv_sub hl [0] rfl) h) _ _ _ _ (lv_sub hl [1, 0] rfl) h
theorem wX5_thin_7 (C : CxC p rmX5_thin s m args meth c D ac q xa xv RX5 cX5_thin 6) (hr : meth.sig.returnType = none) {v1 : Int} {σ : Mm} {e7 : Mm → Option (Mm)} {c7 : Int → Mm → Option (Mm)} {r : Mm} (he7 : ∀ (σ : Mm) (ls : Array Slot), lv_has ls 6 [(0, .ref (q 9))] → e7 σ = some r → VC p l e rmX5_thin s m args below meth c D ac q (QVC D ac q xa xv below args s r) σ (F0 m 26 ls [])) (hc7 : ∀ (v1x : Int) (σ : Mm) (ls : Array Slot), lv_has ls 6 [(0, .ref (q 9)), (1, .int (i32 v1x))] → c7 v1x σ = some r → VC p l e rmX5_thin s m args below meth c D ac q (QVC D ac q xa xv below args s r) σ (F0 m 7 ls [])) (hl : lv_has ls 6 [(0, .ref (q 9)), (1, .int (i32 v1))]) (h : fX5_thin_7 e7 c7 v1 σ = some r) : VC p l e rmX5_thin s m args below meth c D ac q (QVC D ac q xa xv below args s r) σ (F0 m 7 ls []) := by
  have h : cr v1 ((if v1 < 24 then chk v1 24 (bindv (sto σ 12 (v1).toNat 0) (fun σ_2 => bindv (v1 + 1) (fun v1_3 => c7 v1_3 σ_2))) else e7 σ)) = some r := h
  refine v_iload_n C hl dX5_thin_7 rfl 1 rfl ?_
  refine v_bipush C dX5_thin_8 rfl ?_
  have hz1 := (cr_e h).1
  have h := (cr_e h).2
  refine v_icmp_ge C (tgt := 26) hz1 (by decide) h dX5_thin_10 rfl (fun h => ?_) (fun h => ?_)
  · exact he7 _ _ (lv_sub hl [0] rfl) h
  · refine v_aload_n C hl dX5_thin_13 rfl 0 rfl ?_
    refine g_X5_3 C kdC_9 fl_X5_18 dX5_thin_14 ?_
    refine v_iload_n C hl dX5_thin_17 rfl 1 rfl ?_
    refine v_iconst C dX5_thin_18 ?_
    refine asC8 C kdC_12 h dX5_thin_19 (fun σ_2 h => ?_)
    refine v_iinc C hl (fun x => [(1, .int (i32 x)), (0, .ref (q 9))]) dX5_thin_20 1 rfl (by decide) (fun _ => rfl) h (fun v1_3 ls hl h => ?_)
    refine v_goto C (tgt := 7) dX5_thin_23 rfl ?_
    exact hc7 _ _ _ (lv_sub hl [1, 0] rfl) h
theorem wlX5_thin_7 (C : CxC p rmX5_thin s m args meth c D ac q xa xv RX5 cX5_thin 6) (hr : meth.sig.returnType = none) {e7 : Mm → Option (Mm)} {r : Mm} (he7 : ∀ (σ : Mm) (ls : Array Slot), lv_has ls 6 [(0, .ref (q 9))] → e7 σ = some r → VC p l e rmX5_thin s m args below meth c D ac q (QVC D ac q xa xv below args s r) σ (F0 m 26 ls [])) : ∀ (fu : Nat) (v1 : Int) (σ : Mm) (ls : Array Slot) (hl : lv_has ls 6 [(0, .ref (q 9)), (1, .int (i32 v1))]) (h : lX5_thin_7 e7 fu v1 σ = some r), VC p l e rmX5_thin s m args below meth c D ac q (QVC D ac q xa xv below args s r) σ (F0 m 7 ls []) := by
  intro fu
  induction fu with
  | zero =>
    intro v1 σ ls hl h
    have h : none = some r := h
    cases h
  | succ fu ih =>
    intro v1 σ ls hl h
    exact wX5_thin_7 C hr he7 (fun v1 σ ls hl h => ih v1 σ ls hl h) hl h
theorem mX5_thin (hq : QI 175 q)  {σ : Mm} {r : Mm} (h : fX5_thin σ = some r) : MVC l D ac q xa xv yX5_thin cX5_thin 6 none rmX5_thin [.ref (q 9)] σ r := by
  refine MV.of hq XC_M (by decide) (Nat.le_of_ble_eq_true rfl) (fun p e s m below meth c ls C hr hl => ?_)
  have hl : lv_has ls 6 [(0, .ref (q 9))] := hl
  have h : bindv (sto σ 9 4 0) (fun σ_1 => bindv 0 (fun v1_2 => lX5_thin_7 (fun σ_3 => fX5_thin_26 σ_3) 400 v1_2 σ_1)) = some r := h
  refine v_aload_n C hl dX5_thin_0 rfl 0 rfl ?_
  refine v_iconst C dX5_thin_1 ?_
  refine s_X5_4 C kdC_9 fl_X5_34 h dX5_thin_2 (fun σ_1 h => ?_)
  refine v_iconst C dX5_thin_5 ?_
  refine v_istore_n C hl (fun x => [(1, .int (i32 x)), (0, .ref (q 9))]) dX5_thin_6 rfl (by decide) (fun _ => rfl) h (fun v1_2 ls hl h => ?_)
  exact wlX5_thin_7 C hr (fun σ_3 ls hl h => wX5_thin_26 C hr (lv_sub hl [0] rfl) h) _ _ _ _ (lv_sub hl [1, 0] rfl) h
end
section
variable {l : Launch} {D : va_G} {ac : Nat → ClassId} {q xa xv : Nat → Nat} {p : Program} {e : Env} {s : State} {m : MethodId} {args : Array Value} {below : List Frame} {meth : Method} {c : Code} {ls : Array Slot}
theorem dX6_append_0 : decode cX6_append 0 = .ok (.aload_n 0, 1) := by decide +kernel
theorem dX6_append_1 : decode cX6_append 1 = .ok (.getfield 15, 3) := by decide +kernel
theorem dX6_append_4 : decode cX6_append 4 = .ok (.sipush 320, 3) := by decide +kernel
theorem dX6_append_7 : decode cX6_append 7 = .ok (.if_icmp .ge 24, 3) := by decide +kernel
theorem dX6_append_10 : decode cX6_append 10 = .ok (.aload_n 0, 1) := by decide +kernel
theorem dX6_append_11 : decode cX6_append 11 = .ok (.getfield 9, 3) := by decide +kernel
theorem dX6_append_14 : decode cX6_append 14 = .ok (.aload_n 0, 1) := by decide +kernel
theorem dX6_append_15 : decode cX6_append 15 = .ok (.getfield 15, 3) := by decide +kernel
theorem dX6_append_18 : decode cX6_append 18 = .ok (.iload_n 1, 1) := by decide +kernel
theorem dX6_append_19 : decode cX6_append 19 = .ok (.i2b, 1) := by decide +kernel
theorem dX6_append_20 : decode cX6_append 20 = .ok (.bastore, 1) := by decide +kernel
theorem dX6_append_21 : decode cX6_append 21 = .ok (.aload_n 0, 1) := by decide +kernel
theorem dX6_append_22 : decode cX6_append 22 = .ok (.dup, 1) := by decide +kernel
theorem dX6_append_23 : decode cX6_append 23 = .ok (.getfield 15, 3) := by decide +kernel
theorem dX6_append_26 : decode cX6_append 26 = .ok (.iconst 1, 1) := by decide +kernel
theorem dX6_append_27 : decode cX6_append 27 = .ok (.iadd, 1) := by decide +kernel
theorem dX6_append_28 : decode cX6_append 28 = .ok (.putfield 15, 3) := by decide +kernel
theorem dX6_append_31 : decode cX6_append 31 = .ok (.return_, 1) := by decide +kernel
theorem wX6_append_31 (C : CxC p rmX6_append s m args meth c D ac q xa xv RX6 cX6_append 2) (hr : meth.sig.returnType = none) {σ : Mm} {r : Mm} (hl : lv_has ls 2 [(0, .ref (q 1))]) (h : fX6_append_31 σ = some r) : VC p l e rmX6_append s m args below meth c D ac q (QVC D ac q xa xv below args s r) σ (F0 m 31 ls []) := by
  have h : some σ = some r := h
  exact v_vret C hr h dX6_append_31
theorem mX6_append (hq : QI 175 q) {v1 : Int} {σ : Mm} {r : Mm} (h : fX6_append v1 σ = some r) : MVC l D ac q xa xv yX6_append cX6_append 2 none rmX6_append [.ref (q 1), .int (i32 v1)] σ r := by
  refine MV.of hq XC_M (by decide) (Nat.le_of_ble_eq_true rfl) (fun p e s m below meth c ls C hr hl => ?_)
  have hl : lv_has ls 2 [(0, .ref (q 1)), (1, .int (i32 v1))] := hl
  have h : cr (σ 1 1) ((if σ 1 1 < 320 then chk (σ 1 1) 320 (bindv (sto σ 2 (σ 1 1).toNat (byI (byI v1))) (fun σ_2 => bindv (sto σ_2 1 1 ((σ_2 1 1) + 1)) (fun σ_3 => fX6_append_31 σ_3))) else fX6_append_31 σ)) = some r := h
  refine v_aload_n C hl dX6_append_0 rfl 0 rfl ?_
  refine g_X6_1 C kdC_1 fl_X6_15 dX6_append_1 ?_
  refine v_sipush C dX6_append_4 rfl ?_
  have hz1 := (cr_e h).1
  have h := (cr_e h).2
  refine v_icmp_ge C (tgt := 31) hz1 (by decide) h dX6_append_7 rfl (fun h => ?_) (fun h => ?_)
  · exact wX6_append_31 C hr (lv_sub hl [0] rfl) h
  · refine v_aload_n C hl dX6_append_10 rfl 0 rfl ?_
    refine g_X6_0 C kdC_1 fl_X6_9 dX6_append_11 ?_
    refine v_aload_n C hl dX6_append_14 rfl 0 rfl ?_
    refine g_X6_1 C kdC_1 fl_X6_15 dX6_append_15 ?_
    refine v_iload_n C hl dX6_append_18 rfl 1 rfl ?_
    refine v_i2b C dX6_append_19 ?_
    refine asC3 C kdC_2 h dX6_append_20 (fun σ_2 h => ?_)
    refine v_aload_n C hl dX6_append_21 rfl 0 rfl ?_
    refine v_dup C dX6_append_22 rfl ?_
    refine g_X6_1 C kdC_1 fl_X6_15 dX6_append_23 ?_
    refine v_iconst C dX6_append_26 ?_
    refine v_iadd C dX6_append_27 ?_
    refine s_X6_1 C kdC_1 fl_X6_15 h dX6_append_28 (fun σ_3 h => ?_)
    exact wX6_append_31 C hr (lv_sub hl [0] rfl) h
end
section
variable {l : Launch} {D : va_G} {ac : Nat → ClassId} {q xa xv : Nat → Nat} {p : Program} {e : Env} {s : State} {m : MethodId} {args : Array Value} {below : List Frame} {meth : Method} {c : Code} {ls : Array Slot}
theorem dX7_along_0 : decode cX7_along 0 = .ok (.iload_n 1, 1) := by decide +kernel
theorem dX7_along_1 : decode cX7_along 1 = .ok (.aload_n 0, 1) := by decide +kernel
theorem dX7_along_2 : decode cX7_along 2 = .ok (.getfield 43, 3) := by decide +kernel
theorem dX7_along_5 : decode cX7_along 5 = .ok (.getfield 122, 3) := by decide +kernel
theorem dX7_along_8 : decode cX7_along 8 = .ok (.invokestatic 69, 3) := by decide +kernel
theorem dX7_along_11 : decode cX7_along 11 = .ok (.ifCond .eq 15, 3) := by decide +kernel
theorem dX7_along_14 : decode cX7_along 14 = .ok (.iload_n 2, 1) := by decide +kernel
theorem dX7_along_15 : decode cX7_along 15 = .ok (.ifCond .lt 11, 3) := by decide +kernel
theorem dX7_along_18 : decode cX7_along 18 = .ok (.iload_n 3, 1) := by decide +kernel
theorem dX7_along_19 : decode cX7_along 19 = .ok (.iconst 2, 1) := by decide +kernel
theorem dX7_along_20 : decode cX7_along 20 = .ok (.invokestatic 69, 3) := by decide +kernel
theorem dX7_along_23 : decode cX7_along 23 = .ok (.ifCond .ne 5, 3) := by decide +kernel
theorem dX7_along_26 : decode cX7_along 26 = .ok (.iconst (-1), 1) := by decide +kernel
theorem dX7_along_27 : decode cX7_along 27 = .ok (.ireturn, 1) := by decide +kernel
theorem dX7_along_28 : decode cX7_along 28 = .ok (.iload_n 3, 1) := by decide +kernel
theorem dX7_along_29 : decode cX7_along 29 = .ok (.iconst 1, 1) := by decide +kernel
theorem dX7_along_30 : decode cX7_along 30 = .ok (.if_icmp .ne 13, 3) := by decide +kernel
theorem dX7_along_33 : decode cX7_along 33 = .ok (.aload_n 0, 1) := by decide +kernel
theorem dX7_along_34 : decode cX7_along 34 = .ok (.getfield 43, 3) := by decide +kernel
theorem dX7_along_37 : decode cX7_along 37 = .ok (.iload_n 1, 1) := by decide +kernel
theorem dX7_along_38 : decode cX7_along 38 = .ok (.iload_n 2, 1) := by decide +kernel
theorem dX7_along_39 : decode cX7_along 39 = .ok (.invokevirtual 195, 3) := by decide +kernel
theorem dX7_along_42 : decode cX7_along 42 = .ok (.ireturn, 1) := by decide +kernel
theorem dX7_along_43 : decode cX7_along 43 = .ok (.iload_n 2, 1) := by decide +kernel
theorem dX7_along_44 : decode cX7_along 44 = .ok (.aload_n 0, 1) := by decide +kernel
theorem dX7_along_45 : decode cX7_along 45 = .ok (.getfield 43, 3) := by decide +kernel
theorem dX7_along_48 : decode cX7_along 48 = .ok (.getfield 183, 3) := by decide +kernel
theorem dX7_along_51 : decode cX7_along 51 = .ok (.iload_n 1, 1) := by decide +kernel
theorem dX7_along_52 : decode cX7_along 52 = .ok (.iaload, 1) := by decide +kernel
theorem dX7_along_53 : decode cX7_along 53 = .ok (.if_icmp .ge 17, 3) := by decide +kernel
theorem dX7_along_56 : decode cX7_along 56 = .ok (.aload_n 0, 1) := by decide +kernel
theorem dX7_along_57 : decode cX7_along 57 = .ok (.getfield 43, 3) := by decide +kernel
theorem dX7_along_60 : decode cX7_along 60 = .ok (.getfield 199, 3) := by decide +kernel
theorem dX7_along_63 : decode cX7_along 63 = .ok (.iload_n 1, 1) := by decide +kernel
theorem dX7_along_64 : decode cX7_along 64 = .ok (.aaload, 1) := by decide +kernel
theorem dX7_along_65 : decode cX7_along 65 = .ok (.iload_n 2, 1) := by decide +kernel
theorem dX7_along_66 : decode cX7_along 66 = .ok (.iaload, 1) := by decide +kernel
theorem dX7_along_67 : decode cX7_along 67 = .ok (.goto 5, 3) := by decide +kernel
theorem dX7_along_70 : decode cX7_along 70 = .ok (.bipush (-4), 2) := by decide +kernel
theorem dX7_along_72 : decode cX7_along 72 = .ok (.ireturn, 1) := by decide +kernel
theorem wX7_along_72 (C : CxC p rmX7_along s m args meth c D ac q xa xv RX7 cX7_along 4) (hr : meth.sig.returnType = (some .int)) {t0 : Int} {σ : Mm} {r : Int} (hl : lv_has ls 4 [(0, .ref (q 0))]) (h : fX7_along_72 t0 σ = some r) : VC p l e rmX7_along s m args below meth c D ac q (QIC D ac q xa xv below args s (r, σ)) σ (F0 m 72 ls [.int (i32 t0)]) := by
  have h : some t0 = some r := h
  exact v_iret C hr (so1 h) dX7_along_72
theorem wX7_along_26 (C : CxC p rmX7_along s m args meth c D ac q xa xv RX7 cX7_along 4) (hr : meth.sig.returnType = (some .int)) {σ : Mm} {r : Int} (hl : lv_has ls 4 [(0, .ref (q 0))]) (h : fX7_along_26 σ = some r) : VC p l e rmX7_along s m args below meth c D ac q (QIC D ac q xa xv below args s (r, σ)) σ (F0 m 26 ls []) := by
  have h : some (-1) = some r := h
  refine v_iconst C dX7_along_26 ?_
  exact v_iret C hr (so1 h) dX7_along_27
theorem mX7_along (hq : QI 175 q) {v1 : Int} {v2 : Int} {v3 : Int} {σ : Mm} {r : Int} (h : fX7_along v1 v2 v3 σ = some r) : MIC l D ac q xa xv yX7_along cX7_along 4 (some .int) rmX7_along [.ref (q 0), .int (i32 v1), .int (i32 v2), .int (i32 v3)] σ (r, σ) := by
  refine MI.of hq XC_M (by decide) (Nat.le_of_ble_eq_true rfl) (fun p e s m below meth c ls C hr hl => ?_)
  have hl : lv_has ls 4 [(0, .ref (q 0)), (1, .int (i32 v1)), (2, .int (i32 v2)), (3, .int (i32 v3))] := hl
  have h : bd (fX7_isBelow v1 (σ 4 5) σ) (fun x_1 => cr x_1 ((if x_1 = 0 then fX7_along_26 σ else cr v2 ((if v2 < 0 then fX7_along_26 σ else bd (fX7_isBelow v3 2 σ) (fun x_4 => cr x_4 ((if x_4 = 0 then fX7_along_26 σ else cr v3 ((if v3 = 1 then bd (fX0_ringOf v1 v2 σ) (fun x_10 => some x_10) else chk v1 60 (cr v2 (cr (σ 6 (v1).toNat) ((if v2 < σ 6 (v1).toNat then chk v1 60 (chk v2 11 (fX7_along_72 (σ (35 + (v1).toNat) (v2).toNat) σ)) else fX7_along_72 (-4) σ)))))))))))))) = some r := h
  refine v_iload_n C hl dX7_along_0 rfl 1 rfl ?_
  refine v_aload_n C hl dX7_along_1 rfl 0 rfl ?_
  refine g_X7_5 C kdC_0 fl_X7_43 dX7_along_2 ?_
  refine g_X0_5 C kdC_4 fl_X7_122 dX7_along_5 ?_
  obtain ⟨x_1, hv1, h⟩ := bd_e h
  refine v_callSI C [.int (i32 v1), .int (i32 (σ 4 5))] (mX7_isBelow C.2.2.2.2.1 hv1) cd_X7_isBelow ic_X7 sm_X7_isBelow ml_X7_69 yk_X7_isBelow ⟨rfl, rfl, by decide, by decide⟩ rfl hl.1 (rest := []) rfl (Nat.le_of_ble_eq_true rfl) dX7_along_8 ?_
  have hz2 := (cr_e h).1
  have h := (cr_e h).2
  refine v_if_eq C (tgt := 26) hz2 h dX7_along_11 rfl (fun h => ?_) (fun h => ?_)
  · exact wX7_along_26 C hr (lv_sub hl [0] rfl) h
  · refine v_iload_n C hl dX7_along_14 rfl 2 rfl ?_
    have hz3 := (cr_e h).1
    have h := (cr_e h).2
    refine v_if_lt C (tgt := 26) hz3 h dX7_along_15 rfl (fun h => ?_) (fun h => ?_)
    · exact wX7_along_26 C hr (lv_sub hl [0] rfl) h
    · refine v_iload_n C hl dX7_along_18 rfl 3 rfl ?_
      refine v_iconst C dX7_along_19 ?_
      obtain ⟨x_4, hv4, h⟩ := bd_e h
      refine v_callSI C [.int (i32 v3), .int (i32 2)] (mX7_isBelow C.2.2.2.2.1 hv4) cd_X7_isBelow ic_X7 sm_X7_isBelow ml_X7_69 yk_X7_isBelow ⟨rfl, rfl, by decide, by decide⟩ rfl hl.1 (rest := []) rfl (Nat.le_of_ble_eq_true rfl) dX7_along_20 ?_
      have hz5 := (cr_e h).1
      have h := (cr_e h).2
      refine v_if_ne C (tgt := 28) hz5 h dX7_along_23 rfl (fun h => ?_) (fun h => ?_)
      · refine v_iload_n C hl dX7_along_28 rfl 3 rfl ?_
        refine v_iconst C dX7_along_29 ?_
        have hz6 := (cr_e h).1
        have h := (cr_e h).2
        refine v_icmp_ne C (tgt := 43) hz6 (by decide) h dX7_along_30 rfl (fun h => ?_) (fun h => ?_)
        · refine v_iload_n C hl dX7_along_43 rfl 2 rfl ?_
          refine v_aload_n C hl dX7_along_44 rfl 0 rfl ?_
          refine g_X7_5 C kdC_0 fl_X7_43 dX7_along_45 ?_
          refine g_X0_2 C kdC_4 fl_X7_183 dX7_along_48 ?_
          refine v_iload_n C hl dX7_along_51 rfl 1 rfl ?_
          refine alC7 C kdC_6 h dX7_along_52 (fun h => ?_)
          have hz7 := (cr_e h).1
          have h := (cr_e h).2
          have hz8 := (cr_e h).1
          have h := (cr_e h).2
          refine v_icmp_ge C (tgt := 70) hz7 hz8 h dX7_along_53 rfl (fun h => ?_) (fun h => ?_)
          · refine v_bipush C dX7_along_70 rfl ?_
            exact wX7_along_72 C hr (lv_sub hl [0] rfl) h
          · refine v_aload_n C hl dX7_along_56 rfl 0 rfl ?_
            refine g_X7_5 C kdC_0 fl_X7_43 dX7_along_57 ?_
            refine g_X0_1 C kdC_4 fl_X7_199 dX7_along_60 ?_
            refine v_iload_n C hl dX7_along_63 rfl 1 rfl ?_
            have hi9 := (chk_e h).1
            refine arC6 C kdC_5 h dX7_along_64 (fun h => ?_)
            refine v_iload_n C hl dX7_along_65 rfl 2 rfl ?_
            refine alC22 C (keC6 kdC_5 hi9) h dX7_along_66 (fun h => ?_)
            refine v_goto C (tgt := 72) dX7_along_67 rfl ?_
            exact wX7_along_72 C hr (lv_sub hl [0] rfl) h
        · refine v_aload_n C hl dX7_along_33 rfl 0 rfl ?_
          refine g_X7_5 C kdC_0 fl_X7_43 dX7_along_34 ?_
          refine v_iload_n C hl dX7_along_37 rfl 1 rfl ?_
          refine v_iload_n C hl dX7_along_38 rfl 2 rfl ?_
          obtain ⟨x_10, hv10, h⟩ := bd_e h
          refine v_callVI C 4 (klC kdC_4) rfl (ckC5 kdC_4 _) rfl [.int (i32 v1), .int (i32 v2)] (mX0_ringOf C.2.2.2.2.1 hv10) cd_X0_ringOf ic_X0 im_X0_ringOf se_X0_ringOf ml_X7_195 yk_X0_ringOf ⟨rfl, rfl, by decide, by decide⟩ rfl hl.1 (rest := []) rfl (Nat.le_of_ble_eq_true rfl) dX7_along_39 ?_
          exact v_iret C hr (so1 h) dX7_along_42
      · exact wX7_along_26 C hr (lv_sub hl [0] rfl) h
end
section
variable {l : Launch} {D : va_G} {ac : Nat → ClassId} {q xa xv : Nat → Nat} {p : Program} {e : Env} {s : State} {m : MethodId} {args : Array Value} {below : List Frame} {meth : Method} {c : Code} {ls : Array Slot}
theorem dX7_arc_0 : decode cX7_arc 0 = .ok (.iload_n 1, 1) := by decide +kernel
theorem dX7_arc_1 : decode cX7_arc 1 = .ok (.aload_n 0, 1) := by decide +kernel
theorem dX7_arc_2 : decode cX7_arc 2 = .ok (.getfield 43, 3) := by decide +kernel
theorem dX7_arc_5 : decode cX7_arc 5 = .ok (.getfield 122, 3) := by decide +kernel
theorem dX7_arc_8 : decode cX7_arc 8 = .ok (.invokestatic 69, 3) := by decide +kernel
theorem dX7_arc_11 : decode cX7_arc 11 = .ok (.ifCond .ne 5, 3) := by decide +kernel
theorem dX7_arc_14 : decode cX7_arc 14 = .ok (.iconst (-1), 1) := by decide +kernel
theorem dX7_arc_15 : decode cX7_arc 15 = .ok (.ireturn, 1) := by decide +kernel
theorem dX7_arc_16 : decode cX7_arc 16 = .ok (.iload_n 2, 1) := by decide +kernel
theorem dX7_arc_17 : decode cX7_arc 17 = .ok (.tableswitch 68 0 3 #[31, 41, 50, 59], 31) := by decide +kernel
theorem dX7_arc_48 : decode cX7_arc 48 = .ok (.aload_n 0, 1) := by decide +kernel
theorem dX7_arc_49 : decode cX7_arc 49 = .ok (.getfield 43, 3) := by decide +kernel
theorem dX7_arc_52 : decode cX7_arc 52 = .ok (.getfield 183, 3) := by decide +kernel
theorem dX7_arc_55 : decode cX7_arc 55 = .ok (.iload_n 1, 1) := by decide +kernel
theorem dX7_arc_56 : decode cX7_arc 56 = .ok (.iaload, 1) := by decide +kernel
theorem dX7_arc_57 : decode cX7_arc 57 = .ok (.ireturn, 1) := by decide +kernel
theorem dX7_arc_58 : decode cX7_arc 58 = .ok (.aload_n 0, 1) := by decide +kernel
theorem dX7_arc_59 : decode cX7_arc 59 = .ok (.getfield 43, 3) := by decide +kernel
theorem dX7_arc_62 : decode cX7_arc 62 = .ok (.iload_n 1, 1) := by decide +kernel
theorem dX7_arc_63 : decode cX7_arc 63 = .ok (.invokevirtual 186, 3) := by decide +kernel
theorem dX7_arc_66 : decode cX7_arc 66 = .ok (.ireturn, 1) := by decide +kernel
theorem dX7_arc_67 : decode cX7_arc 67 = .ok (.aload_n 0, 1) := by decide +kernel
theorem dX7_arc_68 : decode cX7_arc 68 = .ok (.getfield 43, 3) := by decide +kernel
theorem dX7_arc_71 : decode cX7_arc 71 = .ok (.iload_n 1, 1) := by decide +kernel
theorem dX7_arc_72 : decode cX7_arc 72 = .ok (.invokevirtual 189, 3) := by decide +kernel
theorem dX7_arc_75 : decode cX7_arc 75 = .ok (.ireturn, 1) := by decide +kernel
theorem dX7_arc_76 : decode cX7_arc 76 = .ok (.aload_n 0, 1) := by decide +kernel
theorem dX7_arc_77 : decode cX7_arc 77 = .ok (.getfield 43, 3) := by decide +kernel
theorem dX7_arc_80 : decode cX7_arc 80 = .ok (.iload_n 1, 1) := by decide +kernel
theorem dX7_arc_81 : decode cX7_arc 81 = .ok (.invokevirtual 192, 3) := by decide +kernel
theorem dX7_arc_84 : decode cX7_arc 84 = .ok (.ireturn, 1) := by decide +kernel
theorem dX7_arc_85 : decode cX7_arc 85 = .ok (.iconst (-1), 1) := by decide +kernel
theorem dX7_arc_86 : decode cX7_arc 86 = .ok (.ireturn, 1) := by decide +kernel
theorem mX7_arc (hq : QI 175 q) {v1 : Int} {v2 : Int} {σ : Mm} {r : Int} (h : fX7_arc v1 v2 σ = some r) : MIC l D ac q xa xv yX7_arc cX7_arc 3 (some .int) rmX7_arc [.ref (q 0), .int (i32 v1), .int (i32 v2)] σ (r, σ) := by
  refine MI.of hq XC_M (by decide) (Nat.le_of_ble_eq_true rfl) (fun p e s m below meth c ls C hr hl => ?_)
  have hl : lv_has ls 3 [(0, .ref (q 0)), (1, .int (i32 v1)), (2, .int (i32 v2))] := hl
  have h : bd (fX7_isBelow v1 (σ 4 5) σ) (fun x_1 => cr x_1 ((if x_1 = 0 then some (-1) else cr v2 ((if v2 = 0 then chk v1 60 (some (σ 6 (v1).toNat)) else (if v2 = 1 then bd (fX0_firstOf v1 σ) (fun x_6 => some x_6) else (if v2 = 2 then bd (fX0_lastOf v1 σ) (fun x_8 => some x_8) else (if v2 = 3 then bd (fX0_ringsOf v1 σ) (fun x_10 => some x_10) else some (-1))))))))) = some r := h
  refine v_iload_n C hl dX7_arc_0 rfl 1 rfl ?_
  refine v_aload_n C hl dX7_arc_1 rfl 0 rfl ?_
  refine g_X7_5 C kdC_0 fl_X7_43 dX7_arc_2 ?_
  refine g_X0_5 C kdC_4 fl_X7_122 dX7_arc_5 ?_
  obtain ⟨x_1, hv1, h⟩ := bd_e h
  refine v_callSI C [.int (i32 v1), .int (i32 (σ 4 5))] (mX7_isBelow C.2.2.2.2.1 hv1) cd_X7_isBelow ic_X7 sm_X7_isBelow ml_X7_69 yk_X7_isBelow ⟨rfl, rfl, by decide, by decide⟩ rfl hl.1 (rest := []) rfl (Nat.le_of_ble_eq_true rfl) dX7_arc_8 ?_
  have hz2 := (cr_e h).1
  have h := (cr_e h).2
  refine v_if_ne C (tgt := 16) hz2 h dX7_arc_11 rfl (fun h => ?_) (fun h => ?_)
  · refine v_iload_n C hl dX7_arc_16 rfl 2 rfl ?_
    have hz3 := (cr_e h).1
    have h := (cr_e h).2
    rcases sw_e h with ⟨hc4, h⟩ | ⟨hc4, h⟩
    · refine v_tabIn C (tgt := 48) hz3 hc4 dX7_arc_17 (by decide) (by decide) rfl rfl ?_
      refine v_aload_n C hl dX7_arc_48 rfl 0 rfl ?_
      refine g_X7_5 C kdC_0 fl_X7_43 dX7_arc_49 ?_
      refine g_X0_2 C kdC_4 fl_X7_183 dX7_arc_52 ?_
      refine v_iload_n C hl dX7_arc_55 rfl 1 rfl ?_
      refine alC7 C kdC_6 h dX7_arc_56 (fun h => ?_)
      exact v_iret C hr (so1 h) dX7_arc_57
    · skip
      rcases sw_e h with ⟨hc5, h⟩ | ⟨hc5, h⟩
      · refine v_tabIn C (tgt := 58) hz3 hc5 dX7_arc_17 (by decide) (by decide) rfl rfl ?_
        refine v_aload_n C hl dX7_arc_58 rfl 0 rfl ?_
        refine g_X7_5 C kdC_0 fl_X7_43 dX7_arc_59 ?_
        refine v_iload_n C hl dX7_arc_62 rfl 1 rfl ?_
        obtain ⟨x_6, hv6, h⟩ := bd_e h
        refine v_callVI C 4 (klC kdC_4) rfl (ckC5 kdC_4 _) rfl [.int (i32 v1)] (mX0_firstOf C.2.2.2.2.1 hv6) cd_X0_firstOf ic_X0 im_X0_firstOf se_X0_firstOf ml_X7_186 yk_X0_firstOf ⟨rfl, rfl, by decide, by decide⟩ rfl hl.1 (rest := []) rfl (Nat.le_of_ble_eq_true rfl) dX7_arc_63 ?_
        exact v_iret C hr (so1 h) dX7_arc_66
      · skip
        rcases sw_e h with ⟨hc7, h⟩ | ⟨hc7, h⟩
        · refine v_tabIn C (tgt := 67) hz3 hc7 dX7_arc_17 (by decide) (by decide) rfl rfl ?_
          refine v_aload_n C hl dX7_arc_67 rfl 0 rfl ?_
          refine g_X7_5 C kdC_0 fl_X7_43 dX7_arc_68 ?_
          refine v_iload_n C hl dX7_arc_71 rfl 1 rfl ?_
          obtain ⟨x_8, hv8, h⟩ := bd_e h
          refine v_callVI C 4 (klC kdC_4) rfl (ckC5 kdC_4 _) rfl [.int (i32 v1)] (mX0_lastOf C.2.2.2.2.1 hv8) cd_X0_lastOf ic_X0 im_X0_lastOf se_X0_lastOf ml_X7_189 yk_X0_lastOf ⟨rfl, rfl, by decide, by decide⟩ rfl hl.1 (rest := []) rfl (Nat.le_of_ble_eq_true rfl) dX7_arc_72 ?_
          exact v_iret C hr (so1 h) dX7_arc_75
        · skip
          rcases sw_e h with ⟨hc9, h⟩ | ⟨hc9, h⟩
          · refine v_tabIn C (tgt := 76) hz3 hc9 dX7_arc_17 (by decide) (by decide) rfl rfl ?_
            refine v_aload_n C hl dX7_arc_76 rfl 0 rfl ?_
            refine g_X7_5 C kdC_0 fl_X7_43 dX7_arc_77 ?_
            refine v_iload_n C hl dX7_arc_80 rfl 1 rfl ?_
            obtain ⟨x_10, hv10, h⟩ := bd_e h
            refine v_callVI C 4 (klC kdC_4) rfl (ckC5 kdC_4 _) rfl [.int (i32 v1)] (mX0_ringsOf C.2.2.2.2.1 hv10) cd_X0_ringsOf ic_X0 im_X0_ringsOf se_X0_ringsOf ml_X7_192 yk_X0_ringsOf ⟨rfl, rfl, by decide, by decide⟩ rfl hl.1 (rest := []) rfl (Nat.le_of_ble_eq_true rfl) dX7_arc_81 ?_
            exact v_iret C hr (so1 h) dX7_arc_84
          · skip
            refine v_tabOut C (tgt := 85) hz3 dX7_arc_17 (by omega) rfl ?_
            refine v_iconst C dX7_arc_85 ?_
            exact v_iret C hr (so1 h) dX7_arc_86
  · refine v_iconst C dX7_arc_14 ?_
    exact v_iret C hr (so1 h) dX7_arc_15
end
section
variable {l : Launch} {D : va_G} {ac : Nat → ClassId} {q xa xv : Nat → Nat} {p : Program} {e : Env} {s : State} {m : MethodId} {args : Array Value} {below : List Frame} {meth : Method} {c : Code} {ls : Array Slot}
theorem dX7_refresh_0 : decode cX7_refresh 0 = .ok (.aload_n 0, 1) := by decide +kernel
theorem dX7_refresh_1 : decode cX7_refresh 1 = .ok (.getfield 43, 3) := by decide +kernel
theorem dX7_refresh_4 : decode cX7_refresh 4 = .ok (.invokevirtual 265, 3) := by decide +kernel
theorem dX7_refresh_7 : decode cX7_refresh 7 = .ok (.aload_n 0, 1) := by decide +kernel
theorem dX7_refresh_8 : decode cX7_refresh 8 = .ok (.getfield 50, 3) := by decide +kernel
theorem dX7_refresh_11 : decode cX7_refresh 11 = .ok (.invokevirtual 268, 3) := by decide +kernel
theorem dX7_refresh_14 : decode cX7_refresh 14 = .ok (.return_, 1) := by decide +kernel
theorem mX7_refresh (hq : QI 175 q)  {σ : Mm} {r : Mm} (h : fX7_refresh σ = some r) : MVC l D ac q xa xv yX7_refresh cX7_refresh 1 none rmX7_refresh [.ref (q 0)] σ r := by
  refine MV.of hq XC_M (by decide) (Nat.le_of_ble_eq_true rfl) (fun p e s m below meth c ls C hr hl => ?_)
  have hl : lv_has ls 1 [(0, .ref (q 0))] := hl
  have h : bd (fX0_trace σ) (fun σ_1 => bd (fX5_thin σ_1) (fun σ_2 => some σ_2)) = some r := h
  refine v_aload_n C hl dX7_refresh_0 rfl 0 rfl ?_
  refine g_X7_5 C kdC_0 fl_X7_43 dX7_refresh_1 ?_
  obtain ⟨σ_1, hv1, h⟩ := bd_e h
  refine v_callVV C 4 (klC kdC_4) rfl (ckC5 kdC_4 _) rfl [] (mX0_trace C.2.2.2.2.1 hv1) cd_X0_trace ic_X0 im_X0_trace se_X0_trace ml_X7_265 yk_X0_trace ⟨rfl, rfl, by decide, by decide⟩ rfl hl.1 (rest := []) rfl (Nat.le_of_ble_eq_true rfl) dX7_refresh_4 ?_
  refine v_aload_n C hl dX7_refresh_7 rfl 0 rfl ?_
  refine g_X7_6 C kdC_0 fl_X7_50 dX7_refresh_8 ?_
  obtain ⟨σ_2, hv2, h⟩ := bd_e h
  refine v_callVV C 9 (klC kdC_9) rfl (ckC10 kdC_9 _) rfl [] (mX5_thin C.2.2.2.2.1 hv2) cd_X5_thin ic_X5 im_X5_thin se_X5_thin ml_X7_268 yk_X5_thin ⟨rfl, rfl, by decide, by decide⟩ rfl hl.1 (rest := []) rfl (Nat.le_of_ble_eq_true rfl) dX7_refresh_11 ?_
  exact v_vret C hr h dX7_refresh_14
end
section
variable {l : Launch} {D : va_G} {ac : Nat → ClassId} {q xa xv : Nat → Nat} {p : Program} {e : Env} {s : State} {m : MethodId} {args : Array Value} {below : List Frame} {meth : Method} {c : Code} {ls : Array Slot}
theorem dX7_back_0 : decode cX7_back 0 = .ok (.iload_n 1, 1) := by decide +kernel
theorem dX7_back_1 : decode cX7_back 1 = .ok (.iconst 2, 1) := by decide +kernel
theorem dX7_back_2 : decode cX7_back 2 = .ok (.invokestatic 69, 3) := by decide +kernel
theorem dX7_back_5 : decode cX7_back 5 = .ok (.ifCond .ne 5, 3) := by decide +kernel
theorem dX7_back_8 : decode cX7_back 8 = .ok (.iconst (-1), 1) := by decide +kernel
theorem dX7_back_9 : decode cX7_back 9 = .ok (.ireturn, 1) := by decide +kernel
theorem dX7_back_10 : decode cX7_back 10 = .ok (.aload_n 0, 1) := by decide +kernel
theorem dX7_back_11 : decode cX7_back 11 = .ok (.getfield 54, 3) := by decide +kernel
theorem dX7_back_14 : decode cX7_back 14 = .ok (.iload_n 1, 1) := by decide +kernel
theorem dX7_back_15 : decode cX7_back 15 = .ok (.baload, 1) := by decide +kernel
theorem dX7_back_16 : decode cX7_back 16 = .ok (.ifCond .ne 6, 3) := by decide +kernel
theorem dX7_back_19 : decode cX7_back 19 = .ok (.bipush (-2), 2) := by decide +kernel
theorem dX7_back_21 : decode cX7_back 21 = .ok (.ireturn, 1) := by decide +kernel
theorem dX7_back_22 : decode cX7_back 22 = .ok (.aload_n 0, 1) := by decide +kernel
theorem dX7_back_23 : decode cX7_back 23 = .ok (.getfield 19, 3) := by decide +kernel
theorem dX7_back_26 : decode cX7_back 26 = .ok (.aload_n 0, 1) := by decide +kernel
theorem dX7_back_27 : decode cX7_back 27 = .ok (.getfield 58, 3) := by decide +kernel
theorem dX7_back_30 : decode cX7_back 30 = .ok (.iload_n 1, 1) := by decide +kernel
theorem dX7_back_31 : decode cX7_back 31 = .ok (.aaload, 1) := by decide +kernel
theorem dX7_back_32 : decode cX7_back 32 = .ok (.invokevirtual 97, 3) := by decide +kernel
theorem dX7_back_35 : decode cX7_back 35 = .ok (.aload_n 0, 1) := by decide +kernel
theorem dX7_back_36 : decode cX7_back 36 = .ok (.invokevirtual 103, 3) := by decide +kernel
theorem dX7_back_39 : decode cX7_back 39 = .ok (.aload_n 0, 1) := by decide +kernel
theorem dX7_back_40 : decode cX7_back 40 = .ok (.getfield 19, 3) := by decide +kernel
theorem dX7_back_43 : decode cX7_back 43 = .ok (.getfield 109, 3) := by decide +kernel
theorem dX7_back_46 : decode cX7_back 46 = .ok (.ireturn, 1) := by decide +kernel
theorem mX7_back (hq : QI 175 q) {v1 : Int} {σ : Mm} {r : Int × Mm} (h : fX7_back v1 σ = some r) : MIC l D ac q xa xv yX7_back cX7_back 2 (some .int) rmX7_back [.ref (q 0), .int (i32 v1)] σ r := by
  refine MI.of hq XC_M (by decide) (Nat.le_of_ble_eq_true rfl) (fun p e s m below meth c ls C hr hl => ?_)
  have hl : lv_has ls 2 [(0, .ref (q 0)), (1, .int (i32 v1))] := hl
  have h : bd (fX7_isBelow v1 2 σ) (fun x_1 => cr x_1 ((if x_1 = 0 then some ((-1), σ) else chk v1 2 (cr (σ 19 (v1).toNat) ((if σ 19 (v1).toNat = 0 then some ((-2), σ) else chk v1 2 (bd (fX1_copyFrom 95 (143 + 16 * (v1).toNat) σ) (fun σ_5 => bd (fX7_refresh σ_5) (fun σ_6 => some (σ_6 95 9, σ_6)))))))))) = some r := h
  refine v_iload_n C hl dX7_back_0 rfl 1 rfl ?_
  refine v_iconst C dX7_back_1 ?_
  obtain ⟨x_1, hv1, h⟩ := bd_e h
  refine v_callSI C [.int (i32 v1), .int (i32 2)] (mX7_isBelow C.2.2.2.2.1 hv1) cd_X7_isBelow ic_X7 sm_X7_isBelow ml_X7_69 yk_X7_isBelow ⟨rfl, rfl, by decide, by decide⟩ rfl hl.1 (rest := []) rfl (Nat.le_of_ble_eq_true rfl) dX7_back_2 ?_
  have hz2 := (cr_e h).1
  have h := (cr_e h).2
  refine v_if_ne C (tgt := 10) hz2 h dX7_back_5 rfl (fun h => ?_) (fun h => ?_)
  · refine v_aload_n C hl dX7_back_10 rfl 0 rfl ?_
    refine g_X7_8 C kdC_0 fl_X7_54 dX7_back_11 ?_
    refine v_iload_n C hl dX7_back_14 rfl 1 rfl ?_
    refine alC18 C kdC_19 h dX7_back_15 (fun h => ?_)
    have hz3 := (cr_e h).1
    have h := (cr_e h).2
    refine v_if_ne C (tgt := 22) hz3 h dX7_back_16 rfl (fun h => ?_) (fun h => ?_)
    · refine v_aload_n C hl dX7_back_22 rfl 0 rfl ?_
      refine g_X7_1 C kdC_0 fl_X7_19 dX7_back_23 ?_
      refine v_aload_n C hl dX7_back_26 rfl 0 rfl ?_
      refine g_X7_7 C kdC_0 fl_X7_58 dX7_back_27 ?_
      refine v_iload_n C hl dX7_back_30 rfl 1 rfl ?_
      have hi4 := (chk_e h).1
      refine arC17 C kdC_18 h dX7_back_31 (fun h => ?_)
      obtain ⟨σ_5, hv5, h⟩ := bd_e h
      refine v_callVV C 95 (klC kdC_95) rfl (ckC23 kdC_95 _) rfl [.ref (q (143 + 16 * (v1).toNat))] (mX1_copyFrom C.2.2.2.2.1 kdC_95 (keC17 kdC_18 hi4) hv5) cd_X1_copyFrom ic_X1 im_X1_copyFrom se_X1_copyFrom ml_X7_97 yk_X1_copyFrom ⟨rfl, rfl, by decide, by decide⟩ rfl hl.1 (rest := []) rfl (Nat.le_of_ble_eq_true rfl) dX7_back_32 ?_
      refine v_aload_n C hl dX7_back_35 rfl 0 rfl ?_
      obtain ⟨σ_6, hv6, h⟩ := bd_e h
      refine v_callVV C 0 (klC kdC_0) rfl (ckC1 kdC_0 _) rfl [] (mX7_refresh C.2.2.2.2.1 hv6) cd_X7_refresh ic_X7 im_X7_refresh se_X7_refresh ml_X7_103 yk_X7_refresh ⟨rfl, rfl, by decide, by decide⟩ rfl hl.1 (rest := []) rfl (Nat.le_of_ble_eq_true rfl) dX7_back_36 ?_
      refine v_aload_n C hl dX7_back_39 rfl 0 rfl ?_
      refine g_X7_1 C kdC_0 fl_X7_19 dX7_back_40 ?_
      refine g_X1_9 C kdC_95 fl_X7_109 dX7_back_43 ?_
      exact v_iret C hr h dX7_back_46
    · refine v_bipush C dX7_back_19 rfl ?_
      exact v_iret C hr h dX7_back_21
  · refine v_iconst C dX7_back_8 ?_
    exact v_iret C hr h dX7_back_9
end
section
variable {l : Launch} {D : va_G} {ac : Nat → ClassId} {q xa xv : Nat → Nat} {p : Program} {e : Env} {s : State} {m : MethodId} {args : Array Value} {below : List Frame} {meth : Method} {c : Code} {ls : Array Slot}
theorem dX7_isStage_0 : decode cX7_isStage 0 = .ok (.iload_n 1, 1) := by decide +kernel
theorem dX7_isStage_1 : decode cX7_isStage 1 = .ok (.ifCond .lt 18, 3) := by decide +kernel
theorem dX7_isStage_4 : decode cX7_isStage 4 = .ok (.iload_n 1, 1) := by decide +kernel
theorem dX7_isStage_5 : decode cX7_isStage 5 = .ok (.aload_n 0, 1) := by decide +kernel
theorem dX7_isStage_6 : decode cX7_isStage 6 = .ok (.getfield 50, 3) := by decide +kernel
theorem dX7_isStage_9 : decode cX7_isStage 9 = .ok (.getfield 125, 3) := by decide +kernel
theorem dX7_isStage_12 : decode cX7_isStage 12 = .ok (.if_icmp .gt 7, 3) := by decide +kernel
theorem dX7_isStage_15 : decode cX7_isStage 15 = .ok (.iconst 1, 1) := by decide +kernel
theorem dX7_isStage_16 : decode cX7_isStage 16 = .ok (.goto 4, 3) := by decide +kernel
theorem dX7_isStage_19 : decode cX7_isStage 19 = .ok (.iconst 0, 1) := by decide +kernel
theorem dX7_isStage_20 : decode cX7_isStage 20 = .ok (.ireturn, 1) := by decide +kernel
theorem wX7_isStage_20 (C : CxC p rmX7_isStage s m args meth c D ac q xa xv RX7 cX7_isStage 2) (hr : meth.sig.returnType = (some .boolean)) {t0 : Int} {σ : Mm} {r : Int} (hl : lv_has ls 2 [(0, .ref (q 0))]) (h : fX7_isStage_20 t0 σ = some r) : VC p l e rmX7_isStage s m args below meth c D ac q (QIC D ac q xa xv below args s (r, σ)) σ (F0 m 20 ls [.int (i32 t0)]) := by
  have h : chb t0 (some t0) = some r := h
  have hz1 := (chb_e h).1
  have h := (chb_e h).2
  exact v_zret C hr hz1 (so1 h) dX7_isStage_20
theorem wX7_isStage_19 (C : CxC p rmX7_isStage s m args meth c D ac q xa xv RX7 cX7_isStage 2) (hr : meth.sig.returnType = (some .boolean)) {σ : Mm} {r : Int} (hl : lv_has ls 2 [(0, .ref (q 0))]) (h : fX7_isStage_19 σ = some r) : VC p l e rmX7_isStage s m args below meth c D ac q (QIC D ac q xa xv below args s (r, σ)) σ (F0 m 19 ls []) := by
  have h : fX7_isStage_20 0 σ = some r := h
  refine v_iconst C dX7_isStage_19 ?_
  exact wX7_isStage_20 C hr (lv_sub hl [0] rfl) h
theorem mX7_isStage (hq : QI 175 q) {v1 : Int} {σ : Mm} {r : Int} (h : fX7_isStage v1 σ = some r) : MIC l D ac q xa xv yX7_isStage cX7_isStage 2 (some .boolean) rmX7_isStage [.ref (q 0), .int (i32 v1)] σ (r, σ) := by
  refine MI.of hq XC_M (by decide) (Nat.le_of_ble_eq_true rfl) (fun p e s m below meth c ls C hr hl => ?_)
  have hl : lv_has ls 2 [(0, .ref (q 0)), (1, .int (i32 v1))] := hl
  have h : cr v1 ((if v1 < 0 then fX7_isStage_19 σ else cr v1 (cr (σ 9 4) ((if σ 9 4 < v1 then fX7_isStage_19 σ else fX7_isStage_20 1 σ))))) = some r := h
  refine v_iload_n C hl dX7_isStage_0 rfl 1 rfl ?_
  have hz1 := (cr_e h).1
  have h := (cr_e h).2
  refine v_if_lt C (tgt := 19) hz1 h dX7_isStage_1 rfl (fun h => ?_) (fun h => ?_)
  · exact wX7_isStage_19 C hr (lv_sub hl [0] rfl) h
  · refine v_iload_n C hl dX7_isStage_4 rfl 1 rfl ?_
    refine v_aload_n C hl dX7_isStage_5 rfl 0 rfl ?_
    refine g_X7_6 C kdC_0 fl_X7_50 dX7_isStage_6 ?_
    refine g_X5_4 C kdC_9 fl_X7_125 dX7_isStage_9 ?_
    have hz2 := (cr_e h).1
    have h := (cr_e h).2
    have hz3 := (cr_e h).1
    have h := (cr_e h).2
    refine v_icmp_gt C (tgt := 19) hz2 hz3 h dX7_isStage_12 rfl (fun h => ?_) (fun h => ?_)
    · exact wX7_isStage_19 C hr (lv_sub hl [0] rfl) h
    · refine v_iconst C dX7_isStage_15 ?_
      refine v_goto C (tgt := 20) dX7_isStage_16 rfl ?_
      exact wX7_isStage_20 C hr (lv_sub hl [0] rfl) h
end
section
variable {l : Launch} {D : va_G} {ac : Nat → ClassId} {q xa xv : Nat → Nat} {p : Program} {e : Env} {s : State} {m : MethodId} {args : Array Value} {below : List Frame} {meth : Method} {c : Code} {ls : Array Slot}
theorem dX7_corner_0 : decode cX7_corner 0 = .ok (.iload_n 1, 1) := by decide +kernel
theorem dX7_corner_1 : decode cX7_corner 1 = .ok (.aload_n 0, 1) := by decide +kernel
theorem dX7_corner_2 : decode cX7_corner 2 = .ok (.getfield 19, 3) := by decide +kernel
theorem dX7_corner_5 : decode cX7_corner 5 = .ok (.getfield 112, 3) := by decide +kernel
theorem dX7_corner_8 : decode cX7_corner 8 = .ok (.invokestatic 69, 3) := by decide +kernel
theorem dX7_corner_11 : decode cX7_corner 11 = .ok (.ifCond .eq 11, 3) := by decide +kernel
theorem dX7_corner_14 : decode cX7_corner 14 = .ok (.aload_n 0, 1) := by decide +kernel
theorem dX7_corner_15 : decode cX7_corner 15 = .ok (.iload_n 2, 1) := by decide +kernel
theorem dX7_corner_16 : decode cX7_corner 16 = .ok (.invokevirtual 160, 3) := by decide +kernel
theorem dX7_corner_19 : decode cX7_corner 19 = .ok (.ifCond .ne 5, 3) := by decide +kernel
theorem dX7_corner_22 : decode cX7_corner 22 = .ok (.iconst (-1), 1) := by decide +kernel
theorem dX7_corner_23 : decode cX7_corner 23 = .ok (.ireturn, 1) := by decide +kernel
theorem dX7_corner_24 : decode cX7_corner 24 = .ok (.aload_n 0, 1) := by decide +kernel
theorem dX7_corner_25 : decode cX7_corner 25 = .ok (.getfield 50, 3) := by decide +kernel
theorem dX7_corner_28 : decode cX7_corner 28 = .ok (.iload_n 2, 1) := by decide +kernel
theorem dX7_corner_29 : decode cX7_corner 29 = .ok (.invokevirtual 163, 3) := by decide +kernel
theorem dX7_corner_32 : decode cX7_corner 32 = .ok (.astore 4, 2) := by decide +kernel
theorem dX7_corner_34 : decode cX7_corner 34 = .ok (.iload_n 3, 1) := by decide +kernel
theorem dX7_corner_35 : decode cX7_corner 35 = .ok (.aload 4, 2) := by decide +kernel
theorem dX7_corner_37 : decode cX7_corner 37 = .ok (.getfield 167, 3) := by decide +kernel
theorem dX7_corner_40 : decode cX7_corner 40 = .ok (.iload_n 1, 1) := by decide +kernel
theorem dX7_corner_41 : decode cX7_corner 41 = .ok (.iaload, 1) := by decide +kernel
theorem dX7_corner_42 : decode cX7_corner 42 = .ok (.invokestatic 69, 3) := by decide +kernel
theorem dX7_corner_45 : decode cX7_corner 45 = .ok (.ifCond .eq 15, 3) := by decide +kernel
theorem dX7_corner_48 : decode cX7_corner 48 = .ok (.aload 4, 2) := by decide +kernel
theorem dX7_corner_50 : decode cX7_corner 50 = .ok (.getfield 179, 3) := by decide +kernel
theorem dX7_corner_53 : decode cX7_corner 53 = .ok (.iload_n 1, 1) := by decide +kernel
theorem dX7_corner_54 : decode cX7_corner 54 = .ok (.aaload, 1) := by decide +kernel
theorem dX7_corner_55 : decode cX7_corner 55 = .ok (.iload_n 3, 1) := by decide +kernel
theorem dX7_corner_56 : decode cX7_corner 56 = .ok (.iaload, 1) := by decide +kernel
theorem dX7_corner_57 : decode cX7_corner 57 = .ok (.goto 4, 3) := by decide +kernel
theorem dX7_corner_60 : decode cX7_corner 60 = .ok (.iconst (-1), 1) := by decide +kernel
theorem dX7_corner_61 : decode cX7_corner 61 = .ok (.ireturn, 1) := by decide +kernel
theorem wX7_corner_61 (C : CxC p rmX7_corner s m args meth c D ac q xa xv RX7 cX7_corner 5) (hr : meth.sig.returnType = (some .int)) {t0 : Int} {σ : Mm} {r : Int × Mm} (hl : lv_has ls 5 [(0, .ref (q 0))]) (h : fX7_corner_61 t0 σ = some r) : VC p l e rmX7_corner s m args below meth c D ac q (QIC D ac q xa xv below args s r) σ (F0 m 61 ls [.int (i32 t0)]) := by
  have h : some (t0, σ) = some r := h
  exact v_iret C hr h dX7_corner_61
theorem wX7_corner_22 (C : CxC p rmX7_corner s m args meth c D ac q xa xv RX7 cX7_corner 5) (hr : meth.sig.returnType = (some .int)) {σ : Mm} {r : Int × Mm} (hl : lv_has ls 5 [(0, .ref (q 0))]) (h : fX7_corner_22 σ = some r) : VC p l e rmX7_corner s m args below meth c D ac q (QIC D ac q xa xv below args s r) σ (F0 m 22 ls []) := by
  have h : some ((-1), σ) = some r := h
  refine v_iconst C dX7_corner_22 ?_
  exact v_iret C hr h dX7_corner_23
theorem mX7_corner (hq : QI 175 q) {v1 : Int} {v2 : Int} {v3 : Int} {σ : Mm} {r : Int × Mm} (h : fX7_corner v1 v2 v3 σ = some r) : MIC l D ac q xa xv yX7_corner cX7_corner 5 (some .int) rmX7_corner [.ref (q 0), .int (i32 v1), .int (i32 v2), .int (i32 v3)] σ r := by
  refine MI.of hq XC_M (by decide) (Nat.le_of_ble_eq_true rfl) (fun p e s m below meth c ls C hr hl => ?_)
  have hl : lv_has ls 5 [(0, .ref (q 0)), (1, .int (i32 v1)), (2, .int (i32 v2)), (3, .int (i32 v3))] := hl
  have h : bd (fX7_isBelow v1 (σ 95 10) σ) (fun x_1 => cr x_1 ((if x_1 = 0 then fX7_corner_22 σ else bd (fX7_isStage v2 σ) (fun x_3 => cr x_3 ((if x_3 = 0 then fX7_corner_22 σ else bd (fX5_sceneAt v2 σ) (fun σ_5 => chk v1 6 (bd (fX7_isBelow v3 (σ_5 15 (v1).toNat) σ_5) (fun x_6 => cr x_6 ((if x_6 = 0 then fX7_corner_61 (-1) σ_5 else chk v1 6 (chk v3 10 (fX7_corner_61 (σ_5 (29 + (v1).toNat) (v3).toNat) σ_5))))))))))))) = some r := h
  refine v_iload_n C hl dX7_corner_0 rfl 1 rfl ?_
  refine v_aload_n C hl dX7_corner_1 rfl 0 rfl ?_
  refine g_X7_1 C kdC_0 fl_X7_19 dX7_corner_2 ?_
  refine g_X1_10 C kdC_95 fl_X7_112 dX7_corner_5 ?_
  obtain ⟨x_1, hv1, h⟩ := bd_e h
  refine v_callSI C [.int (i32 v1), .int (i32 (σ 95 10))] (mX7_isBelow C.2.2.2.2.1 hv1) cd_X7_isBelow ic_X7 sm_X7_isBelow ml_X7_69 yk_X7_isBelow ⟨rfl, rfl, by decide, by decide⟩ rfl hl.1 (rest := []) rfl (Nat.le_of_ble_eq_true rfl) dX7_corner_8 ?_
  have hz2 := (cr_e h).1
  have h := (cr_e h).2
  refine v_if_eq C (tgt := 22) hz2 h dX7_corner_11 rfl (fun h => ?_) (fun h => ?_)
  · exact wX7_corner_22 C hr (lv_sub hl [0] rfl) h
  · refine v_aload_n C hl dX7_corner_14 rfl 0 rfl ?_
    refine v_iload_n C hl dX7_corner_15 rfl 2 rfl ?_
    obtain ⟨x_3, hv3, h⟩ := bd_e h
    refine v_callVI C 0 (klC kdC_0) rfl (ckC1 kdC_0 _) rfl [.int (i32 v2)] (mX7_isStage C.2.2.2.2.1 hv3) cd_X7_isStage ic_X7 im_X7_isStage se_X7_isStage ml_X7_160 yk_X7_isStage ⟨rfl, rfl, by decide, by decide⟩ rfl hl.1 (rest := []) rfl (Nat.le_of_ble_eq_true rfl) dX7_corner_16 ?_
    have hz4 := (cr_e h).1
    have h := (cr_e h).2
    refine v_if_ne C (tgt := 24) hz4 h dX7_corner_19 rfl (fun h => ?_) (fun h => ?_)
    · refine v_aload_n C hl dX7_corner_24 rfl 0 rfl ?_
      refine g_X7_6 C kdC_0 fl_X7_50 dX7_corner_25 ?_
      refine v_iload_n C hl dX7_corner_28 rfl 2 rfl ?_
      obtain ⟨σ_5, hv5, h⟩ := bd_e h
      refine v_callVR C 9 (klC kdC_9) rfl (ckC10 kdC_9 _) rfl [.int (i32 v2)] (mX5_sceneAt C.2.2.2.2.1 hv5) cd_X5_sceneAt ic_X5 im_X5_sceneAt se_X5_sceneAt ml_X7_163 yk_X5_sceneAt ⟨rfl, rfl, by decide, by decide⟩ rfl hl.1 (rest := []) rfl (Nat.le_of_ble_eq_true rfl) dX7_corner_29 ?_
      refine v_astore C hl ([(4, .ref (q 13)), (0, .ref (q 0)), (1, .int (i32 v1)), (2, .int (i32 v2)), (3, .int (i32 v3))]) dX7_corner_32 (by decide) rfl (fun ls hl => ?_)
      refine v_iload_n C hl dX7_corner_34 rfl 4 rfl ?_
      refine v_aload C hl dX7_corner_35 0 rfl ?_
      refine g_X3_2 C kdC_13 fl_X7_167 dX7_corner_37 ?_
      refine v_iload_n C hl dX7_corner_40 rfl 2 rfl ?_
      refine alC14 C kdC_15 h dX7_corner_41 (fun h => ?_)
      obtain ⟨x_6, hv6, h⟩ := bd_e h
      refine v_callSI C [.int (i32 v3), .int (i32 (σ_5 15 (v1).toNat))] (mX7_isBelow C.2.2.2.2.1 hv6) cd_X7_isBelow ic_X7 sm_X7_isBelow ml_X7_69 yk_X7_isBelow ⟨rfl, rfl, by decide, by decide⟩ rfl hl.1 (rest := []) rfl (Nat.le_of_ble_eq_true rfl) dX7_corner_42 ?_
      have hz7 := (cr_e h).1
      have h := (cr_e h).2
      refine v_if_eq C (tgt := 60) hz7 h dX7_corner_45 rfl (fun h => ?_) (fun h => ?_)
      · refine v_iconst C dX7_corner_60 ?_
        exact wX7_corner_61 C hr (lv_sub hl [1] rfl) h
      · refine v_aload C hl dX7_corner_48 0 rfl ?_
        refine g_X3_1 C kdC_13 fl_X7_179 dX7_corner_50 ?_
        refine v_iload_n C hl dX7_corner_53 rfl 2 rfl ?_
        have hi8 := (chk_e h).1
        refine arC13 C kdC_14 h dX7_corner_54 (fun h => ?_)
        refine v_iload_n C hl dX7_corner_55 rfl 4 rfl ?_
        refine alC16 C (keC13 kdC_14 hi8) h dX7_corner_56 (fun h => ?_)
        refine v_goto C (tgt := 61) dX7_corner_57 rfl ?_
        exact wX7_corner_61 C hr (lv_sub hl [1] rfl) h
    · exact wX7_corner_22 C hr (lv_sub hl [0] rfl) h
end
section
variable {l : Launch} {D : va_G} {ac : Nat → ClassId} {q xa xv : Nat → Nat} {p : Program} {e : Env} {s : State} {m : MethodId} {args : Array Value} {below : List Frame} {meth : Method} {c : Code} {ls : Array Slot}
theorem dX7_count_0 : decode cX7_count 0 = .ok (.iload_n 1, 1) := by decide +kernel
theorem dX7_count_1 : decode cX7_count 1 = .ok (.tableswitch 130 0 4 #[35, 65, 73, 100, 115], 35) := by decide +kernel
theorem dX7_count_36 : decode cX7_count 36 = .ok (.aload_n 0, 1) := by decide +kernel
theorem dX7_count_37 : decode cX7_count 37 = .ok (.getfield 54, 3) := by decide +kernel
theorem dX7_count_40 : decode cX7_count 40 = .ok (.iconst 0, 1) := by decide +kernel
theorem dX7_count_41 : decode cX7_count 41 = .ok (.baload, 1) := by decide +kernel
theorem dX7_count_42 : decode cX7_count 42 = .ok (.ifCond .eq 7, 3) := by decide +kernel
theorem dX7_count_45 : decode cX7_count 45 = .ok (.iconst 1, 1) := by decide +kernel
theorem dX7_count_46 : decode cX7_count 46 = .ok (.goto 4, 3) := by decide +kernel
theorem dX7_count_49 : decode cX7_count 49 = .ok (.iconst 0, 1) := by decide +kernel
theorem dX7_count_50 : decode cX7_count 50 = .ok (.aload_n 0, 1) := by decide +kernel
theorem dX7_count_51 : decode cX7_count 51 = .ok (.getfield 54, 3) := by decide +kernel
theorem dX7_count_54 : decode cX7_count 54 = .ok (.iconst 1, 1) := by decide +kernel
theorem dX7_count_55 : decode cX7_count 55 = .ok (.baload, 1) := by decide +kernel
theorem dX7_count_56 : decode cX7_count 56 = .ok (.ifCond .eq 7, 3) := by decide +kernel
theorem dX7_count_59 : decode cX7_count 59 = .ok (.iconst 1, 1) := by decide +kernel
theorem dX7_count_60 : decode cX7_count 60 = .ok (.goto 4, 3) := by decide +kernel
theorem dX7_count_63 : decode cX7_count 63 = .ok (.iconst 0, 1) := by decide +kernel
theorem dX7_count_64 : decode cX7_count 64 = .ok (.iadd, 1) := by decide +kernel
theorem dX7_count_65 : decode cX7_count 65 = .ok (.ireturn, 1) := by decide +kernel
theorem dX7_count_66 : decode cX7_count 66 = .ok (.aload_n 0, 1) := by decide +kernel
theorem dX7_count_67 : decode cX7_count 67 = .ok (.getfield 12, 3) := by decide +kernel
theorem dX7_count_70 : decode cX7_count 70 = .ok (.getfield 73, 3) := by decide +kernel
theorem dX7_count_73 : decode cX7_count 73 = .ok (.ireturn, 1) := by decide +kernel
theorem dX7_count_74 : decode cX7_count 74 = .ok (.aload_n 0, 1) := by decide +kernel
theorem dX7_count_75 : decode cX7_count 75 = .ok (.getfield 64, 3) := by decide +kernel
theorem dX7_count_78 : decode cX7_count 78 = .ok (.iconst 0, 1) := by decide +kernel
theorem dX7_count_79 : decode cX7_count 79 = .ok (.aaload, 1) := by decide +kernel
theorem dX7_count_80 : decode cX7_count 80 = .ok (.invokevirtual 239, 3) := by decide +kernel
theorem dX7_count_83 : decode cX7_count 83 = .ok (.ifCond .eq 8, 3) := by decide +kernel
theorem dX7_count_86 : decode cX7_count 86 = .ok (.bipush (-4), 2) := by decide +kernel
theorem dX7_count_88 : decode cX7_count 88 = .ok (.goto 12, 3) := by decide +kernel
theorem dX7_count_91 : decode cX7_count 91 = .ok (.aload_n 0, 1) := by decide +kernel
theorem dX7_count_92 : decode cX7_count 92 = .ok (.getfield 64, 3) := by decide +kernel
theorem dX7_count_95 : decode cX7_count 95 = .ok (.iconst 0, 1) := by decide +kernel
theorem dX7_count_96 : decode cX7_count 96 = .ok (.aaload, 1) := by decide +kernel
theorem dX7_count_97 : decode cX7_count 97 = .ok (.getfield 242, 3) := by decide +kernel
theorem dX7_count_100 : decode cX7_count 100 = .ok (.ireturn, 1) := by decide +kernel
theorem dX7_count_101 : decode cX7_count 101 = .ok (.aload_n 0, 1) := by decide +kernel
theorem dX7_count_102 : decode cX7_count 102 = .ok (.getfield 19, 3) := by decide +kernel
theorem dX7_count_105 : decode cX7_count 105 = .ok (.aload_n 0, 1) := by decide +kernel
theorem dX7_count_106 : decode cX7_count 106 = .ok (.getfield 19, 3) := by decide +kernel
theorem dX7_count_109 : decode cX7_count 109 = .ok (.getfield 134, 3) := by decide +kernel
theorem dX7_count_112 : decode cX7_count 112 = .ok (.invokevirtual 258, 3) := by decide +kernel
theorem dX7_count_115 : decode cX7_count 115 = .ok (.ireturn, 1) := by decide +kernel
theorem dX7_count_116 : decode cX7_count 116 = .ok (.aload_n 0, 1) := by decide +kernel
theorem dX7_count_117 : decode cX7_count 117 = .ok (.getfield 19, 3) := by decide +kernel
theorem dX7_count_120 : decode cX7_count 120 = .ok (.aload_n 0, 1) := by decide +kernel
theorem dX7_count_121 : decode cX7_count 121 = .ok (.getfield 19, 3) := by decide +kernel
theorem dX7_count_124 : decode cX7_count 124 = .ok (.getfield 138, 3) := by decide +kernel
theorem dX7_count_127 : decode cX7_count 127 = .ok (.invokevirtual 258, 3) := by decide +kernel
theorem dX7_count_130 : decode cX7_count 130 = .ok (.ireturn, 1) := by decide +kernel
theorem dX7_count_131 : decode cX7_count 131 = .ok (.iconst (-1), 1) := by decide +kernel
theorem dX7_count_132 : decode cX7_count 132 = .ok (.ireturn, 1) := by decide +kernel
theorem wX7_count_100 (C : CxC p rmX7_count s m args meth c D ac q xa xv RX7 cX7_count 2) (hr : meth.sig.returnType = (some .int)) {t0 : Int} {σ : Mm} {r : Int} (hl : lv_has ls 2 [(0, .ref (q 0))]) (h : fX7_count_100 t0 σ = some r) : VC p l e rmX7_count s m args below meth c D ac q (QIC D ac q xa xv below args s (r, σ)) σ (F0 m 100 ls [.int (i32 t0)]) := by
  have h : some t0 = some r := h
  exact v_iret C hr (so1 h) dX7_count_100
theorem wX7_count_64 (C : CxC p rmX7_count s m args meth c D ac q xa xv RX7 cX7_count 2) (hr : meth.sig.returnType = (some .int)) {t0 : Int} {t1 : Int} {σ : Mm} {r : Int} (hl : lv_has ls 2 [(0, .ref (q 0))]) (h : fX7_count_64 t0 t1 σ = some r) : VC p l e rmX7_count s m args below meth c D ac q (QIC D ac q xa xv below args s (r, σ)) σ (F0 m 64 ls [.int (i32 t1), .int (i32 t0)]) := by
  have h : some (t0 + t1) = some r := h
  refine v_iadd C dX7_count_64 ?_
  exact v_iret C hr (so1 h) dX7_count_65
theorem wX7_count_50 (C : CxC p rmX7_count s m args meth c D ac q xa xv RX7 cX7_count 2) (hr : meth.sig.returnType = (some .int)) {t0 : Int} {σ : Mm} {r : Int} (hl : lv_has ls 2 [(0, .ref (q 0))]) (h : fX7_count_50 t0 σ = some r) : VC p l e rmX7_count s m args below meth c D ac q (QIC D ac q xa xv below args s (r, σ)) σ (F0 m 50 ls [.int (i32 t0)]) := by
  have h : chk 1 2 (cr (σ 19 1) ((if σ 19 1 = 0 then fX7_count_64 t0 0 σ else fX7_count_64 t0 1 σ))) = some r := h
  refine v_aload_n C hl dX7_count_50 rfl 0 rfl ?_
  refine g_X7_8 C kdC_0 fl_X7_54 dX7_count_51 ?_
  refine v_iconst C dX7_count_54 ?_
  refine alC18 C kdC_19 h dX7_count_55 (fun h => ?_)
  have hz1 := (cr_e h).1
  have h := (cr_e h).2
  refine v_if_eq C (tgt := 63) hz1 h dX7_count_56 rfl (fun h => ?_) (fun h => ?_)
  · refine v_iconst C dX7_count_63 ?_
    exact wX7_count_64 C hr (lv_sub hl [0] rfl) h
  · refine v_iconst C dX7_count_59 ?_
    refine v_goto C (tgt := 64) dX7_count_60 rfl ?_
    exact wX7_count_64 C hr (lv_sub hl [0] rfl) h
theorem mX7_count (hq : QI 175 q) {v1 : Int} {σ : Mm} {r : Int} (h : fX7_count v1 σ = some r) : MIC l D ac q xa xv yX7_count cX7_count 2 (some .int) rmX7_count [.ref (q 0), .int (i32 v1)] σ (r, σ) := by
  refine MI.of hq XC_M (by decide) (Nat.le_of_ble_eq_true rfl) (fun p e s m below meth c ls C hr hl => ?_)
  have hl : lv_has ls 2 [(0, .ref (q 0)), (1, .int (i32 v1))] := hl
  have h : cr v1 ((if v1 = 0 then chk 0 2 (cr (σ 19 0) ((if σ 19 0 = 0 then fX7_count_50 0 σ else fX7_count_50 1 σ))) else (if v1 = 1 then some (σ 1 1) else (if v1 = 2 then chk 0 4 (bd (fX4_isNothing (21 + 2 * 0) σ) (fun x_7 => cr x_7 ((if x_7 = 0 then chk 0 4 (fX7_count_100 (σ (21 + 2 * 0) 2) σ) else fX7_count_100 (-4) σ)))) else (if v1 = 3 then bd (fX1_sumOf 95 96 σ) (fun x_11 => some x_11) else (if v1 = 4 then bd (fX1_sumOf 95 97 σ) (fun x_13 => some x_13) else some (-1))))))) = some r := h
  refine v_iload_n C hl dX7_count_0 rfl 1 rfl ?_
  have hz1 := (cr_e h).1
  have h := (cr_e h).2
  rcases sw_e h with ⟨hc2, h⟩ | ⟨hc2, h⟩
  · refine v_tabIn C (tgt := 36) hz1 hc2 dX7_count_1 (by decide) (by decide) rfl rfl ?_
    refine v_aload_n C hl dX7_count_36 rfl 0 rfl ?_
    refine g_X7_8 C kdC_0 fl_X7_54 dX7_count_37 ?_
    refine v_iconst C dX7_count_40 ?_
    refine alC18 C kdC_19 h dX7_count_41 (fun h => ?_)
    have hz3 := (cr_e h).1
    have h := (cr_e h).2
    refine v_if_eq C (tgt := 49) hz3 h dX7_count_42 rfl (fun h => ?_) (fun h => ?_)
    · refine v_iconst C dX7_count_49 ?_
      exact wX7_count_50 C hr (lv_sub hl [0] rfl) h
    · refine v_iconst C dX7_count_45 ?_
      refine v_goto C (tgt := 50) dX7_count_46 rfl ?_
      exact wX7_count_50 C hr (lv_sub hl [0] rfl) h
  · skip
    rcases sw_e h with ⟨hc4, h⟩ | ⟨hc4, h⟩
    · refine v_tabIn C (tgt := 66) hz1 hc4 dX7_count_1 (by decide) (by decide) rfl rfl ?_
      refine v_aload_n C hl dX7_count_66 rfl 0 rfl ?_
      refine g_X7_0 C kdC_0 fl_X7_12 dX7_count_67 ?_
      refine g_X6_1 C kdC_1 fl_X7_73 dX7_count_70 ?_
      exact v_iret C hr (so1 h) dX7_count_73
    · skip
      rcases sw_e h with ⟨hc5, h⟩ | ⟨hc5, h⟩
      · refine v_tabIn C (tgt := 74) hz1 hc5 dX7_count_1 (by decide) (by decide) rfl rfl ?_
        refine v_aload_n C hl dX7_count_74 rfl 0 rfl ?_
        refine g_X7_9 C kdC_0 fl_X7_64 dX7_count_75 ?_
        refine v_iconst C dX7_count_78 ?_
        have hi6 := (chk_e h).1
        refine arC19 C kdC_20 h dX7_count_79 (fun h => ?_)
        obtain ⟨x_7, hv7, h⟩ := bd_e h
        refine v_callVI C (21 + 2 * 0) (klC (keC19 kdC_20 hi6)) rfl (ckC20 (keC19 kdC_20 hi6) _) rfl [] (mX4_isNothing C.2.2.2.2.1 (keC19 kdC_20 hi6) hv7) cd_X4_isNothing ic_X4 im_X4_isNothing se_X4_isNothing ml_X7_239 yk_X4_isNothing ⟨rfl, rfl, by decide, by decide⟩ rfl hl.1 (rest := []) rfl (Nat.le_of_ble_eq_true rfl) dX7_count_80 ?_
        have hz8 := (cr_e h).1
        have h := (cr_e h).2
        refine v_if_eq C (tgt := 91) hz8 h dX7_count_83 rfl (fun h => ?_) (fun h => ?_)
        · refine v_aload_n C hl dX7_count_91 rfl 0 rfl ?_
          refine g_X7_9 C kdC_0 fl_X7_64 dX7_count_92 ?_
          refine v_iconst C dX7_count_95 ?_
          have hi9 := (chk_e h).1
          refine arC19 C kdC_20 h dX7_count_96 (fun h => ?_)
          refine g_X4_2 C (keC19 kdC_20 hi9) fl_X7_242 dX7_count_97 ?_
          exact wX7_count_100 C hr (lv_sub hl [0] rfl) h
        · refine v_bipush C dX7_count_86 rfl ?_
          refine v_goto C (tgt := 100) dX7_count_88 rfl ?_
          exact wX7_count_100 C hr (lv_sub hl [0] rfl) h
      · skip
        rcases sw_e h with ⟨hc10, h⟩ | ⟨hc10, h⟩
        · refine v_tabIn C (tgt := 101) hz1 hc10 dX7_count_1 (by decide) (by decide) rfl rfl ?_
          refine v_aload_n C hl dX7_count_101 rfl 0 rfl ?_
          refine g_X7_1 C kdC_0 fl_X7_19 dX7_count_102 ?_
          refine v_aload_n C hl dX7_count_105 rfl 0 rfl ?_
          refine g_X7_1 C kdC_0 fl_X7_19 dX7_count_106 ?_
          refine g_X1_0 C kdC_95 fl_X7_134 dX7_count_109 ?_
          obtain ⟨x_11, hv11, h⟩ := bd_e h
          refine v_callVI C 95 (klC kdC_95) rfl (ckC23 kdC_95 _) rfl [.ref (q 96)] (mX1_sumOf C.2.2.2.2.1 kdC_95 kdC_96 hv11) cd_X1_sumOf ic_X1 im_X1_sumOf se_X1_sumOf ml_X7_258 yk_X1_sumOf ⟨rfl, rfl, by decide, by decide⟩ rfl hl.1 (rest := []) rfl (Nat.le_of_ble_eq_true rfl) dX7_count_112 ?_
          exact v_iret C hr (so1 h) dX7_count_115
        · skip
          rcases sw_e h with ⟨hc12, h⟩ | ⟨hc12, h⟩
          · refine v_tabIn C (tgt := 116) hz1 hc12 dX7_count_1 (by decide) (by decide) rfl rfl ?_
            refine v_aload_n C hl dX7_count_116 rfl 0 rfl ?_
            refine g_X7_1 C kdC_0 fl_X7_19 dX7_count_117 ?_
            refine v_aload_n C hl dX7_count_120 rfl 0 rfl ?_
            refine g_X7_1 C kdC_0 fl_X7_19 dX7_count_121 ?_
            refine g_X1_1 C kdC_95 fl_X7_138 dX7_count_124 ?_
            obtain ⟨x_13, hv13, h⟩ := bd_e h
            refine v_callVI C 95 (klC kdC_95) rfl (ckC23 kdC_95 _) rfl [.ref (q 97)] (mX1_sumOf C.2.2.2.2.1 kdC_95 kdC_97 hv13) cd_X1_sumOf ic_X1 im_X1_sumOf se_X1_sumOf ml_X7_258 yk_X1_sumOf ⟨rfl, rfl, by decide, by decide⟩ rfl hl.1 (rest := []) rfl (Nat.le_of_ble_eq_true rfl) dX7_count_127 ?_
            exact v_iret C hr (so1 h) dX7_count_130
          · skip
            refine v_tabOut C (tgt := 131) hz1 dX7_count_1 (by omega) rfl ?_
            refine v_iconst C dX7_count_131 ?_
            exact v_iret C hr (so1 h) dX7_count_132
end
section
variable {l : Launch} {D : va_G} {ac : Nat → ClassId} {q xa xv : Nat → Nat} {p : Program} {e : Env} {s : State} {m : MethodId} {args : Array Value} {below : List Frame} {meth : Method} {c : Code} {ls : Array Slot}
theorem dX7_edge_0 : decode cX7_edge 0 = .ok (.iload_n 1, 1) := by decide +kernel
theorem dX7_edge_1 : decode cX7_edge 1 = .ok (.aload_n 0, 1) := by decide +kernel
theorem dX7_edge_2 : decode cX7_edge 2 = .ok (.getfield 19, 3) := by decide +kernel
theorem dX7_edge_5 : decode cX7_edge 5 = .ok (.getfield 109, 3) := by decide +kernel
theorem dX7_edge_8 : decode cX7_edge 8 = .ok (.invokestatic 69, 3) := by decide +kernel
theorem dX7_edge_11 : decode cX7_edge 11 = .ok (.ifCond .eq 25, 3) := by decide +kernel
theorem dX7_edge_14 : decode cX7_edge 14 = .ok (.iload_n 2, 1) := by decide +kernel
theorem dX7_edge_15 : decode cX7_edge 15 = .ok (.aload_n 0, 1) := by decide +kernel
theorem dX7_edge_16 : decode cX7_edge 16 = .ok (.getfield 19, 3) := by decide +kernel
theorem dX7_edge_19 : decode cX7_edge 19 = .ok (.getfield 109, 3) := by decide +kernel
theorem dX7_edge_22 : decode cX7_edge 22 = .ok (.invokestatic 69, 3) := by decide +kernel
theorem dX7_edge_25 : decode cX7_edge 25 = .ok (.ifCond .eq 11, 3) := by decide +kernel
theorem dX7_edge_28 : decode cX7_edge 28 = .ok (.aload_n 0, 1) := by decide +kernel
theorem dX7_edge_29 : decode cX7_edge 29 = .ok (.iload_n 3, 1) := by decide +kernel
theorem dX7_edge_30 : decode cX7_edge 30 = .ok (.invokevirtual 160, 3) := by decide +kernel
theorem dX7_edge_33 : decode cX7_edge 33 = .ok (.ifCond .ne 5, 3) := by decide +kernel
theorem dX7_edge_36 : decode cX7_edge 36 = .ok (.iconst (-1), 1) := by decide +kernel
theorem dX7_edge_37 : decode cX7_edge 37 = .ok (.ireturn, 1) := by decide +kernel
theorem dX7_edge_38 : decode cX7_edge 38 = .ok (.aload_n 0, 1) := by decide +kernel
theorem dX7_edge_39 : decode cX7_edge 39 = .ok (.getfield 50, 3) := by decide +kernel
theorem dX7_edge_42 : decode cX7_edge 42 = .ok (.iload_n 3, 1) := by decide +kernel
theorem dX7_edge_43 : decode cX7_edge 43 = .ok (.invokevirtual 163, 3) := by decide +kernel
theorem dX7_edge_46 : decode cX7_edge 46 = .ok (.iload_n 1, 1) := by decide +kernel
theorem dX7_edge_47 : decode cX7_edge 47 = .ok (.iload_n 2, 1) := by decide +kernel
theorem dX7_edge_48 : decode cX7_edge 48 = .ok (.invokevirtual 203, 3) := by decide +kernel
theorem dX7_edge_51 : decode cX7_edge 51 = .ok (.ireturn, 1) := by decide +kernel
theorem wX7_edge_36 (C : CxC p rmX7_edge s m args meth c D ac q xa xv RX7 cX7_edge 4) (hr : meth.sig.returnType = (some .int)) {σ : Mm} {r : Int × Mm} (hl : lv_has ls 4 [(0, .ref (q 0))]) (h : fX7_edge_36 σ = some r) : VC p l e rmX7_edge s m args below meth c D ac q (QIC D ac q xa xv below args s r) σ (F0 m 36 ls []) := by
  have h : some ((-1), σ) = some r := h
  refine v_iconst C dX7_edge_36 ?_
  exact v_iret C hr h dX7_edge_37
theorem mX7_edge (hq : QI 175 q) {v1 : Int} {v2 : Int} {v3 : Int} {σ : Mm} {r : Int × Mm} (h : fX7_edge v1 v2 v3 σ = some r) : MIC l D ac q xa xv yX7_edge cX7_edge 4 (some .int) rmX7_edge [.ref (q 0), .int (i32 v1), .int (i32 v2), .int (i32 v3)] σ r := by
  refine MI.of hq XC_M (by decide) (Nat.le_of_ble_eq_true rfl) (fun p e s m below meth c ls C hr hl => ?_)
  have hl : lv_has ls 4 [(0, .ref (q 0)), (1, .int (i32 v1)), (2, .int (i32 v2)), (3, .int (i32 v3))] := hl
  have h : bd (fX7_isBelow v1 (σ 95 9) σ) (fun x_1 => cr x_1 ((if x_1 = 0 then fX7_edge_36 σ else bd (fX7_isBelow v2 (σ 95 9) σ) (fun x_3 => cr x_3 ((if x_3 = 0 then fX7_edge_36 σ else bd (fX7_isStage v3 σ) (fun x_5 => cr x_5 ((if x_5 = 0 then fX7_edge_36 σ else bd (fX5_sceneAt v3 σ) (fun σ_7 => bd (fX3_usesOf v1 v2 σ_7) (fun x_8 => some (x_8, σ_7)))))))))))) = some r := h
  refine v_iload_n C hl dX7_edge_0 rfl 1 rfl ?_
  refine v_aload_n C hl dX7_edge_1 rfl 0 rfl ?_
  refine g_X7_1 C kdC_0 fl_X7_19 dX7_edge_2 ?_
  refine g_X1_9 C kdC_95 fl_X7_109 dX7_edge_5 ?_
  obtain ⟨x_1, hv1, h⟩ := bd_e h
  refine v_callSI C [.int (i32 v1), .int (i32 (σ 95 9))] (mX7_isBelow C.2.2.2.2.1 hv1) cd_X7_isBelow ic_X7 sm_X7_isBelow ml_X7_69 yk_X7_isBelow ⟨rfl, rfl, by decide, by decide⟩ rfl hl.1 (rest := []) rfl (Nat.le_of_ble_eq_true rfl) dX7_edge_8 ?_
  have hz2 := (cr_e h).1
  have h := (cr_e h).2
  refine v_if_eq C (tgt := 36) hz2 h dX7_edge_11 rfl (fun h => ?_) (fun h => ?_)
  · exact wX7_edge_36 C hr (lv_sub hl [0] rfl) h
  · refine v_iload_n C hl dX7_edge_14 rfl 2 rfl ?_
    refine v_aload_n C hl dX7_edge_15 rfl 0 rfl ?_
    refine g_X7_1 C kdC_0 fl_X7_19 dX7_edge_16 ?_
    refine g_X1_9 C kdC_95 fl_X7_109 dX7_edge_19 ?_
    obtain ⟨x_3, hv3, h⟩ := bd_e h
    refine v_callSI C [.int (i32 v2), .int (i32 (σ 95 9))] (mX7_isBelow C.2.2.2.2.1 hv3) cd_X7_isBelow ic_X7 sm_X7_isBelow ml_X7_69 yk_X7_isBelow ⟨rfl, rfl, by decide, by decide⟩ rfl hl.1 (rest := []) rfl (Nat.le_of_ble_eq_true rfl) dX7_edge_22 ?_
    have hz4 := (cr_e h).1
    have h := (cr_e h).2
    refine v_if_eq C (tgt := 36) hz4 h dX7_edge_25 rfl (fun h => ?_) (fun h => ?_)
    · exact wX7_edge_36 C hr (lv_sub hl [0] rfl) h
    · refine v_aload_n C hl dX7_edge_28 rfl 0 rfl ?_
      refine v_iload_n C hl dX7_edge_29 rfl 3 rfl ?_
      obtain ⟨x_5, hv5, h⟩ := bd_e h
      refine v_callVI C 0 (klC kdC_0) rfl (ckC1 kdC_0 _) rfl [.int (i32 v3)] (mX7_isStage C.2.2.2.2.1 hv5) cd_X7_isStage ic_X7 im_X7_isStage se_X7_isStage ml_X7_160 yk_X7_isStage ⟨rfl, rfl, by decide, by decide⟩ rfl hl.1 (rest := []) rfl (Nat.le_of_ble_eq_true rfl) dX7_edge_30 ?_
      have hz6 := (cr_e h).1
      have h := (cr_e h).2
      refine v_if_ne C (tgt := 38) hz6 h dX7_edge_33 rfl (fun h => ?_) (fun h => ?_)
      · refine v_aload_n C hl dX7_edge_38 rfl 0 rfl ?_
        refine g_X7_6 C kdC_0 fl_X7_50 dX7_edge_39 ?_
        refine v_iload_n C hl dX7_edge_42 rfl 3 rfl ?_
        obtain ⟨σ_7, hv7, h⟩ := bd_e h
        refine v_callVR C 9 (klC kdC_9) rfl (ckC10 kdC_9 _) rfl [.int (i32 v3)] (mX5_sceneAt C.2.2.2.2.1 hv7) cd_X5_sceneAt ic_X5 im_X5_sceneAt se_X5_sceneAt ml_X7_163 yk_X5_sceneAt ⟨rfl, rfl, by decide, by decide⟩ rfl hl.1 (rest := []) rfl (Nat.le_of_ble_eq_true rfl) dX7_edge_43 ?_
        refine v_iload_n C hl dX7_edge_46 rfl 1 rfl ?_
        refine v_iload_n C hl dX7_edge_47 rfl 2 rfl ?_
        obtain ⟨x_8, hv8, h⟩ := bd_e h
        refine v_callVI C 13 (klC kdC_13) rfl (ckC12 kdC_13 _) rfl [.int (i32 v1), .int (i32 v2)] (mX3_usesOf C.2.2.2.2.1 hv8) cd_X3_usesOf ic_X3 im_X3_usesOf se_X3_usesOf ml_X7_203 yk_X3_usesOf ⟨rfl, rfl, by decide, by decide⟩ rfl hl.1 (rest := []) rfl (Nat.le_of_ble_eq_true rfl) dX7_edge_48 ?_
        exact v_iret C hr h dX7_edge_51
      · exact wX7_edge_36 C hr (lv_sub hl [0] rfl) h
end
section
variable {l : Launch} {D : va_G} {ac : Nat → ClassId} {q xa xv : Nat → Nat} {p : Program} {e : Env} {s : State} {m : MethodId} {args : Array Value} {below : List Frame} {meth : Method} {c : Code} {ls : Array Slot}
theorem dX7_end_0 : decode cX7_end 0 = .ok (.iload_n 1, 1) := by decide +kernel
theorem dX7_end_1 : decode cX7_end 1 = .ok (.ifCond .lt 14, 3) := by decide +kernel
theorem dX7_end_4 : decode cX7_end 4 = .ok (.iload_n 1, 1) := by decide +kernel
theorem dX7_end_5 : decode cX7_end 5 = .ok (.aload_n 0, 1) := by decide +kernel
theorem dX7_end_6 : decode cX7_end 6 = .ok (.getfield 12, 3) := by decide +kernel
theorem dX7_end_9 : decode cX7_end 9 = .ok (.getfield 73, 3) := by decide +kernel
theorem dX7_end_12 : decode cX7_end 12 = .ok (.if_icmp .le 5, 3) := by decide +kernel
theorem dX7_end_15 : decode cX7_end 15 = .ok (.iconst (-1), 1) := by decide +kernel
theorem dX7_end_16 : decode cX7_end 16 = .ok (.ireturn, 1) := by decide +kernel
theorem dX7_end_17 : decode cX7_end 17 = .ok (.aload_n 0, 1) := by decide +kernel
theorem dX7_end_18 : decode cX7_end 18 = .ok (.getfield 12, 3) := by decide +kernel
theorem dX7_end_21 : decode cX7_end 21 = .ok (.getfield 73, 3) := by decide +kernel
theorem dX7_end_24 : decode cX7_end 24 = .ok (.istore_n 2, 1) := by decide +kernel
theorem dX7_end_25 : decode cX7_end 25 = .ok (.aload_n 0, 1) := by decide +kernel
theorem dX7_end_26 : decode cX7_end 26 = .ok (.getfield 12, 3) := by decide +kernel
theorem dX7_end_29 : decode cX7_end 29 = .ok (.iload_n 1, 1) := by decide +kernel
theorem dX7_end_30 : decode cX7_end 30 = .ok (.putfield 73, 3) := by decide +kernel
theorem dX7_end_33 : decode cX7_end 33 = .ok (.iload_n 2, 1) := by decide +kernel
theorem dX7_end_34 : decode cX7_end 34 = .ok (.ireturn, 1) := by decide +kernel
theorem wX7_end_15 (C : CxC p rmX7_end s m args meth c D ac q xa xv RX7 cX7_end 3) (hr : meth.sig.returnType = (some .int)) {σ : Mm} {r : Int × Mm} (hl : lv_has ls 3 [(0, .ref (q 0))]) (h : fX7_end_15 σ = some r) : VC p l e rmX7_end s m args below meth c D ac q (QIC D ac q xa xv below args s r) σ (F0 m 15 ls []) := by
  have h : some ((-1), σ) = some r := h
  refine v_iconst C dX7_end_15 ?_
  exact v_iret C hr h dX7_end_16
theorem mX7_end (hq : QI 175 q) {v1 : Int} {σ : Mm} {r : Int × Mm} (h : fX7_end v1 σ = some r) : MIC l D ac q xa xv yX7_end cX7_end 3 (some .int) rmX7_end [.ref (q 0), .int (i32 v1)] σ r := by
  refine MI.of hq XC_M (by decide) (Nat.le_of_ble_eq_true rfl) (fun p e s m below meth c ls C hr hl => ?_)
  have hl : lv_has ls 3 [(0, .ref (q 0)), (1, .int (i32 v1))] := hl
  have h : cr v1 ((if v1 < 0 then fX7_end_15 σ else cr v1 (cr (σ 1 1) ((if σ 1 1 < v1 then fX7_end_15 σ else bindv (σ 1 1) (fun v2_4 => bindv (sto σ 1 1 v1) (fun σ_5 => some (v2_4, σ_5)))))))) = some r := h
  refine v_iload_n C hl dX7_end_0 rfl 1 rfl ?_
  have hz1 := (cr_e h).1
  have h := (cr_e h).2
  refine v_if_lt C (tgt := 15) hz1 h dX7_end_1 rfl (fun h => ?_) (fun h => ?_)
  · exact wX7_end_15 C hr (lv_sub hl [0] rfl) h
  · refine v_iload_n C hl dX7_end_4 rfl 1 rfl ?_
    refine v_aload_n C hl dX7_end_5 rfl 0 rfl ?_
    refine g_X7_0 C kdC_0 fl_X7_12 dX7_end_6 ?_
    refine g_X6_1 C kdC_1 fl_X7_73 dX7_end_9 ?_
    have hz2 := (cr_e h).1
    have h := (cr_e h).2
    have hz3 := (cr_e h).1
    have h := (cr_e h).2
    refine v_icmp_le C (tgt := 17) hz2 hz3 h dX7_end_12 rfl (fun h => ?_) (fun h => ?_)
    · refine v_aload_n C hl dX7_end_17 rfl 0 rfl ?_
      refine g_X7_0 C kdC_0 fl_X7_12 dX7_end_18 ?_
      refine g_X6_1 C kdC_1 fl_X7_73 dX7_end_21 ?_
      refine v_istore_n C hl (fun x => [(2, .int (i32 x)), (0, .ref (q 0)), (1, .int (i32 v1))]) dX7_end_24 rfl (by decide) (fun _ => rfl) h (fun v2_4 ls hl h => ?_)
      refine v_aload_n C hl dX7_end_25 rfl 1 rfl ?_
      refine g_X7_0 C kdC_0 fl_X7_12 dX7_end_26 ?_
      refine v_iload_n C hl dX7_end_29 rfl 2 rfl ?_
      refine s_X6_1 C kdC_1 fl_X7_73 h dX7_end_30 (fun σ_5 h => ?_)
      refine v_iload_n C hl dX7_end_33 rfl 0 rfl ?_
      exact v_iret C hr h dX7_end_34
    · exact wX7_end_15 C hr (lv_sub hl [0] rfl) h
end
section
variable {l : Launch} {D : va_G} {ac : Nat → ClassId} {q xa xv : Nat → Nat} {p : Program} {e : Env} {s : State} {m : MethodId} {args : Array Value} {below : List Frame} {meth : Method} {c : Code} {ls : Array Slot}
theorem dX7_fault_0 : decode cX7_fault 0 = .ok (.aload_n 0, 1) := by decide +kernel
theorem dX7_fault_1 : decode cX7_fault 1 = .ok (.getfield 91, 3) := by decide +kernel
theorem dX7_fault_4 : decode cX7_fault 4 = .ok (.ireturn, 1) := by decide +kernel
theorem mX7_fault (hq : QI 175 q)  {σ : Mm} {r : Int} (h : fX7_fault σ = some r) : MIC l D ac q xa xv yX7_fault cX7_fault 1 (some .int) rmX7_fault [.ref (q 0)] σ (r, σ) := by
  refine MI.of hq XC_M (by decide) (Nat.le_of_ble_eq_true rfl) (fun p e s m below meth c ls C hr hl => ?_)
  have hl : lv_has ls 1 [(0, .ref (q 0))] := hl
  have h : some (σ 0 10) = some r := h
  refine v_aload_n C hl dX7_fault_0 rfl 0 rfl ?_
  refine g_X7_10 C kdC_0 fl_X7_91 dX7_fault_1 ?_
  exact v_iret C hr (so1 h) dX7_fault_4
end
section
variable {l : Launch} {D : va_G} {ac : Nat → ClassId} {q xa xv : Nat → Nat} {p : Program} {e : Env} {s : State} {m : MethodId} {args : Array Value} {below : List Frame} {meth : Method} {c : Code} {ls : Array Slot}
theorem dX7_feed_0 : decode cX7_feed 0 = .ok (.iload_n 1, 1) := by decide +kernel
theorem dX7_feed_1 : decode cX7_feed 1 = .ok (.sipush 128, 3) := by decide +kernel
theorem dX7_feed_4 : decode cX7_feed 4 = .ok (.invokestatic 69, 3) := by decide +kernel
theorem dX7_feed_7 : decode cX7_feed 7 = .ok (.ifCond .ne 5, 3) := by decide +kernel
theorem dX7_feed_10 : decode cX7_feed 10 = .ok (.iconst (-1), 1) := by decide +kernel
theorem dX7_feed_11 : decode cX7_feed 11 = .ok (.ireturn, 1) := by decide +kernel
theorem dX7_feed_12 : decode cX7_feed 12 = .ok (.aload_n 0, 1) := by decide +kernel
theorem dX7_feed_13 : decode cX7_feed 13 = .ok (.getfield 12, 3) := by decide +kernel
theorem dX7_feed_16 : decode cX7_feed 16 = .ok (.getfield 73, 3) := by decide +kernel
theorem dX7_feed_19 : decode cX7_feed 19 = .ok (.sipush 320, 3) := by decide +kernel
theorem dX7_feed_22 : decode cX7_feed 22 = .ok (.if_icmp .lt 6, 3) := by decide +kernel
theorem dX7_feed_25 : decode cX7_feed 25 = .ok (.bipush (-3), 2) := by decide +kernel
theorem dX7_feed_27 : decode cX7_feed 27 = .ok (.ireturn, 1) := by decide +kernel
theorem dX7_feed_28 : decode cX7_feed 28 = .ok (.aload_n 0, 1) := by decide +kernel
theorem dX7_feed_29 : decode cX7_feed 29 = .ok (.getfield 12, 3) := by decide +kernel
theorem dX7_feed_32 : decode cX7_feed 32 = .ok (.iload_n 1, 1) := by decide +kernel
theorem dX7_feed_33 : decode cX7_feed 33 = .ok (.invokevirtual 77, 3) := by decide +kernel
theorem dX7_feed_36 : decode cX7_feed 36 = .ok (.aload_n 0, 1) := by decide +kernel
theorem dX7_feed_37 : decode cX7_feed 37 = .ok (.getfield 12, 3) := by decide +kernel
theorem dX7_feed_40 : decode cX7_feed 40 = .ok (.getfield 73, 3) := by decide +kernel
theorem dX7_feed_43 : decode cX7_feed 43 = .ok (.ireturn, 1) := by decide +kernel
theorem mX7_feed (hq : QI 175 q) {v1 : Int} {σ : Mm} {r : Int × Mm} (h : fX7_feed v1 σ = some r) : MIC l D ac q xa xv yX7_feed cX7_feed 2 (some .int) rmX7_feed [.ref (q 0), .int (i32 v1)] σ r := by
  refine MI.of hq XC_M (by decide) (Nat.le_of_ble_eq_true rfl) (fun p e s m below meth c ls C hr hl => ?_)
  have hl : lv_has ls 2 [(0, .ref (q 0)), (1, .int (i32 v1))] := hl
  have h : bd (fX7_isBelow v1 128 σ) (fun x_1 => cr x_1 ((if x_1 = 0 then some ((-1), σ) else cr (σ 1 1) ((if σ 1 1 < 320 then bd (fX6_append v1 σ) (fun σ_4 => some (σ_4 1 1, σ_4)) else some ((-3), σ)))))) = some r := h
  refine v_iload_n C hl dX7_feed_0 rfl 1 rfl ?_
  refine v_sipush C dX7_feed_1 rfl ?_
  obtain ⟨x_1, hv1, h⟩ := bd_e h
  refine v_callSI C [.int (i32 v1), .int (i32 128)] (mX7_isBelow C.2.2.2.2.1 hv1) cd_X7_isBelow ic_X7 sm_X7_isBelow ml_X7_69 yk_X7_isBelow ⟨rfl, rfl, by decide, by decide⟩ rfl hl.1 (rest := []) rfl (Nat.le_of_ble_eq_true rfl) dX7_feed_4 ?_
  have hz2 := (cr_e h).1
  have h := (cr_e h).2
  refine v_if_ne C (tgt := 12) hz2 h dX7_feed_7 rfl (fun h => ?_) (fun h => ?_)
  · refine v_aload_n C hl dX7_feed_12 rfl 0 rfl ?_
    refine g_X7_0 C kdC_0 fl_X7_12 dX7_feed_13 ?_
    refine g_X6_1 C kdC_1 fl_X7_73 dX7_feed_16 ?_
    refine v_sipush C dX7_feed_19 rfl ?_
    have hz3 := (cr_e h).1
    have h := (cr_e h).2
    refine v_icmp_lt C (tgt := 28) hz3 (by decide) h dX7_feed_22 rfl (fun h => ?_) (fun h => ?_)
    · refine v_aload_n C hl dX7_feed_28 rfl 0 rfl ?_
      refine g_X7_0 C kdC_0 fl_X7_12 dX7_feed_29 ?_
      refine v_iload_n C hl dX7_feed_32 rfl 1 rfl ?_
      obtain ⟨σ_4, hv4, h⟩ := bd_e h
      refine v_callVV C 1 (klC kdC_1) rfl (ckC2 kdC_1 _) rfl [.int (i32 v1)] (mX6_append C.2.2.2.2.1 hv4) cd_X6_append ic_X6 im_X6_append se_X6_append ml_X7_77 yk_X6_append ⟨rfl, rfl, by decide, by decide⟩ rfl hl.1 (rest := []) rfl (Nat.le_of_ble_eq_true rfl) dX7_feed_33 ?_
      refine v_aload_n C hl dX7_feed_36 rfl 0 rfl ?_
      refine g_X7_0 C kdC_0 fl_X7_12 dX7_feed_37 ?_
      refine g_X6_1 C kdC_1 fl_X7_73 dX7_feed_40 ?_
      exact v_iret C hr h dX7_feed_43
    · refine v_bipush C dX7_feed_25 rfl ?_
      exact v_iret C hr h dX7_feed_27
  · refine v_iconst C dX7_feed_10 ?_
    exact v_iret C hr h dX7_feed_11
end
section
variable {l : Launch} {D : va_G} {ac : Nat → ClassId} {q xa xv : Nat → Nat} {p : Program} {e : Env} {s : State} {m : MethodId} {args : Array Value} {below : List Frame} {meth : Method} {c : Code} {ls : Array Slot}
theorem dX7_forgetImages_0 : decode cX7_forgetImages 0 = .ok (.iconst 0, 1) := by decide +kernel
theorem dX7_forgetImages_1 : decode cX7_forgetImages 1 = .ok (.istore_n 1, 1) := by decide +kernel
theorem dX7_forgetImages_2 : decode cX7_forgetImages 2 = .ok (.iload_n 1, 1) := by decide +kernel
theorem dX7_forgetImages_3 : decode cX7_forgetImages 3 = .ok (.iconst 2, 1) := by decide +kernel
theorem dX7_forgetImages_4 : decode cX7_forgetImages 4 = .ok (.if_icmp .ge 16, 3) := by decide +kernel
theorem dX7_forgetImages_7 : decode cX7_forgetImages 7 = .ok (.aload_n 0, 1) := by decide +kernel
theorem dX7_forgetImages_8 : decode cX7_forgetImages 8 = .ok (.getfield 54, 3) := by decide +kernel
theorem dX7_forgetImages_11 : decode cX7_forgetImages 11 = .ok (.iload_n 1, 1) := by decide +kernel
theorem dX7_forgetImages_12 : decode cX7_forgetImages 12 = .ok (.iconst 0, 1) := by decide +kernel
theorem dX7_forgetImages_13 : decode cX7_forgetImages 13 = .ok (.bastore, 1) := by decide +kernel
theorem dX7_forgetImages_14 : decode cX7_forgetImages 14 = .ok (.iinc 1 1, 3) := by decide +kernel
theorem dX7_forgetImages_17 : decode cX7_forgetImages 17 = .ok (.goto (-15), 3) := by decide +kernel
theorem dX7_forgetImages_20 : decode cX7_forgetImages 20 = .ok (.return_, 1) := by decide +kernel
theorem wX7_forgetImages_20 (C : CxC p rmX7_forgetImages s m args meth c D ac q xa xv RX7 cX7_forgetImages 2) (hr : meth.sig.returnType = none) {σ : Mm} {r : Mm} (hl : lv_has ls 2 [(0, .ref (q 0))]) (h : fX7_forgetImages_20 σ = some r) : VC p l e rmX7_forgetImages s m args below meth c D ac q (QVC D ac q xa xv below args s r) σ (F0 m 20 ls []) := by
  have h : some σ = some r := h
  exact v_vret C hr h dX7_forgetImages_20
theorem wX7_forgetImages_2 (C : CxC p rmX7_forgetImages s m args meth c D ac q xa xv RX7 cX7_forgetImages 2) (hr : meth.sig.returnType = none) {v1 : Int} {σ : Mm} {e2 : Mm → Option (Mm)} {c2 : Int → Mm → Option (Mm)} {r : Mm} (he2 : ∀ (σ : Mm) (ls : Array Slot), lv_has ls 2 [(0, .ref (q 0))] → e2 σ = some r → VC p l e rmX7_forgetImages s m args below meth c D ac q (QVC D ac q xa xv below args s r) σ (F0 m 20 ls [])) (hc2 : ∀ (v1x : Int) (σ : Mm) (ls : Array Slot), lv_has ls 2 [(0, .ref (q 0)), (1, .int (i32 v1x))] → c2 v1x σ = some r → VC p l e rmX7_forgetImages s m args below meth c D ac q (QVC D ac q xa xv below args s r) σ (F0 m 2 ls [])) (hl : lv_has ls 2 [(0, .ref (q 0)), (1, .int (i32 v1))]) (h : fX7_forgetImages_2 e2 c2 v1 σ = some r) : VC p l e rmX7_forgetImages s m args below meth c D ac q (QVC D ac q xa xv below args s r) σ (F0 m 2 ls []) := by
  have h : cr v1 ((if v1 < 2 then chb 0 (chk v1 2 (bindv (sto σ 19 (v1).toNat 0) (fun σ_2 => bindv (v1 + 1) (fun v1_3 => c2 v1_3 σ_2)))) else e2 σ)) = some r := h
  refine v_iload_n C hl dX7_forgetImages_2 rfl 1 rfl ?_
  refine v_iconst C dX7_forgetImages_3 ?_
  have hz1 := (cr_e h).1
  have h := (cr_e h).2
  refine v_icmp_ge C (tgt := 20) hz1 (by decide) h dX7_forgetImages_4 rfl (fun h => ?_) (fun h => ?_)
  · exact he2 _ _ (lv_sub hl [0] rfl) h
  · refine v_aload_n C hl dX7_forgetImages_7 rfl 0 rfl ?_
    refine g_X7_8 C kdC_0 fl_X7_54 dX7_forgetImages_8 ?_
    refine v_iload_n C hl dX7_forgetImages_11 rfl 1 rfl ?_
    refine v_iconst C dX7_forgetImages_12 ?_
    refine asC18 C kdC_19 h dX7_forgetImages_13 (fun σ_2 h => ?_)
    refine v_iinc C hl (fun x => [(1, .int (i32 x)), (0, .ref (q 0))]) dX7_forgetImages_14 1 rfl (by decide) (fun _ => rfl) h (fun v1_3 ls hl h => ?_)
    refine v_goto C (tgt := 2) dX7_forgetImages_17 rfl ?_
    exact hc2 _ _ _ (lv_sub hl [1, 0] rfl) h
theorem wlX7_forgetImages_2 (C : CxC p rmX7_forgetImages s m args meth c D ac q xa xv RX7 cX7_forgetImages 2) (hr : meth.sig.returnType = none) {e2 : Mm → Option (Mm)} {r : Mm} (he2 : ∀ (σ : Mm) (ls : Array Slot), lv_has ls 2 [(0, .ref (q 0))] → e2 σ = some r → VC p l e rmX7_forgetImages s m args below meth c D ac q (QVC D ac q xa xv below args s r) σ (F0 m 20 ls [])) : ∀ (fu : Nat) (v1 : Int) (σ : Mm) (ls : Array Slot) (hl : lv_has ls 2 [(0, .ref (q 0)), (1, .int (i32 v1))]) (h : lX7_forgetImages_2 e2 fu v1 σ = some r), VC p l e rmX7_forgetImages s m args below meth c D ac q (QVC D ac q xa xv below args s r) σ (F0 m 2 ls []) := by
  intro fu
  induction fu with
  | zero =>
    intro v1 σ ls hl h
    have h : none = some r := h
    cases h
  | succ fu ih =>
    intro v1 σ ls hl h
    exact wX7_forgetImages_2 C hr he2 (fun v1 σ ls hl h => ih v1 σ ls hl h) hl h
theorem mX7_forgetImages (hq : QI 175 q)  {σ : Mm} {r : Mm} (h : fX7_forgetImages σ = some r) : MVC l D ac q xa xv yX7_forgetImages cX7_forgetImages 2 none rmX7_forgetImages [.ref (q 0)] σ r := by
  refine MV.of hq XC_M (by decide) (Nat.le_of_ble_eq_true rfl) (fun p e s m below meth c ls C hr hl => ?_)
  have hl : lv_has ls 2 [(0, .ref (q 0))] := hl
  have h : bindv 0 (fun v1_1 => lX7_forgetImages_2 (fun σ_2 => fX7_forgetImages_20 σ_2) 400 v1_1 σ) = some r := h
  refine v_iconst C dX7_forgetImages_0 ?_
  refine v_istore_n C hl (fun x => [(1, .int (i32 x)), (0, .ref (q 0))]) dX7_forgetImages_1 rfl (by decide) (fun _ => rfl) h (fun v1_1 ls hl h => ?_)
  exact wlX7_forgetImages_2 C hr (fun σ_2 ls hl h => wX7_forgetImages_20 C hr (lv_sub hl [0] rfl) h) _ _ _ _ (lv_sub hl [1, 0] rfl) h
end
section
variable {l : Launch} {D : va_G} {ac : Nat → ClassId} {q xa xv : Nat → Nat} {p : Program} {e : Env} {s : State} {m : MethodId} {args : Array Value} {below : List Frame} {meth : Method} {c : Code} {ls : Array Slot}
theorem dX7_gone_0 : decode cX7_gone 0 = .ok (.iload_n 1, 1) := by decide +kernel
theorem dX7_gone_1 : decode cX7_gone 1 = .ok (.ifCond .eq 11, 3) := by decide +kernel
theorem dX7_gone_4 : decode cX7_gone 4 = .ok (.aload_n 0, 1) := by decide +kernel
theorem dX7_gone_5 : decode cX7_gone 5 = .ok (.iload_n 1, 1) := by decide +kernel
theorem dX7_gone_6 : decode cX7_gone 6 = .ok (.invokevirtual 160, 3) := by decide +kernel
theorem dX7_gone_9 : decode cX7_gone 9 = .ok (.ifCond .ne 7, 3) := by decide +kernel
theorem dX7_gone_12 : decode cX7_gone 12 = .ok (.iconst (-1), 1) := by decide +kernel
theorem dX7_gone_13 : decode cX7_gone 13 = .ok (.goto 12, 3) := by decide +kernel
theorem dX7_gone_16 : decode cX7_gone 16 = .ok (.aload_n 0, 1) := by decide +kernel
theorem dX7_gone_17 : decode cX7_gone 17 = .ok (.getfield 50, 3) := by decide +kernel
theorem dX7_gone_20 : decode cX7_gone 20 = .ok (.getfield 200, 3) := by decide +kernel
theorem dX7_gone_23 : decode cX7_gone 23 = .ok (.iload_n 1, 1) := by decide +kernel
theorem dX7_gone_24 : decode cX7_gone 24 = .ok (.iaload, 1) := by decide +kernel
theorem dX7_gone_25 : decode cX7_gone 25 = .ok (.ireturn, 1) := by decide +kernel
theorem wX7_gone_25 (C : CxC p rmX7_gone s m args meth c D ac q xa xv RX7 cX7_gone 2) (hr : meth.sig.returnType = (some .int)) {t0 : Int} {σ : Mm} {r : Int} (hl : lv_has ls 2 [(0, .ref (q 0))]) (h : fX7_gone_25 t0 σ = some r) : VC p l e rmX7_gone s m args below meth c D ac q (QIC D ac q xa xv below args s (r, σ)) σ (F0 m 25 ls [.int (i32 t0)]) := by
  have h : some t0 = some r := h
  exact v_iret C hr (so1 h) dX7_gone_25
theorem wX7_gone_12 (C : CxC p rmX7_gone s m args meth c D ac q xa xv RX7 cX7_gone 2) (hr : meth.sig.returnType = (some .int)) {σ : Mm} {r : Int} (hl : lv_has ls 2 [(0, .ref (q 0))]) (h : fX7_gone_12 σ = some r) : VC p l e rmX7_gone s m args below meth c D ac q (QIC D ac q xa xv below args s (r, σ)) σ (F0 m 12 ls []) := by
  have h : fX7_gone_25 (-1) σ = some r := h
  refine v_iconst C dX7_gone_12 ?_
  refine v_goto C (tgt := 25) dX7_gone_13 rfl ?_
  exact wX7_gone_25 C hr (lv_sub hl [0] rfl) h
theorem mX7_gone (hq : QI 175 q) {v1 : Int} {σ : Mm} {r : Int} (h : fX7_gone v1 σ = some r) : MIC l D ac q xa xv yX7_gone cX7_gone 2 (some .int) rmX7_gone [.ref (q 0), .int (i32 v1)] σ (r, σ) := by
  refine MI.of hq XC_M (by decide) (Nat.le_of_ble_eq_true rfl) (fun p e s m below meth c ls C hr hl => ?_)
  have hl : lv_has ls 2 [(0, .ref (q 0)), (1, .int (i32 v1))] := hl
  have h : cr v1 ((if v1 = 0 then fX7_gone_12 σ else bd (fX7_isStage v1 σ) (fun x_2 => cr x_2 ((if x_2 = 0 then fX7_gone_12 σ else chk v1 25 (fX7_gone_25 (σ 10 (v1).toNat) σ)))))) = some r := h
  refine v_iload_n C hl dX7_gone_0 rfl 1 rfl ?_
  have hz1 := (cr_e h).1
  have h := (cr_e h).2
  refine v_if_eq C (tgt := 12) hz1 h dX7_gone_1 rfl (fun h => ?_) (fun h => ?_)
  · exact wX7_gone_12 C hr (lv_sub hl [0] rfl) h
  · refine v_aload_n C hl dX7_gone_4 rfl 0 rfl ?_
    refine v_iload_n C hl dX7_gone_5 rfl 1 rfl ?_
    obtain ⟨x_2, hv2, h⟩ := bd_e h
    refine v_callVI C 0 (klC kdC_0) rfl (ckC1 kdC_0 _) rfl [.int (i32 v1)] (mX7_isStage C.2.2.2.2.1 hv2) cd_X7_isStage ic_X7 im_X7_isStage se_X7_isStage ml_X7_160 yk_X7_isStage ⟨rfl, rfl, by decide, by decide⟩ rfl hl.1 (rest := []) rfl (Nat.le_of_ble_eq_true rfl) dX7_gone_6 ?_
    have hz3 := (cr_e h).1
    have h := (cr_e h).2
    refine v_if_ne C (tgt := 16) hz3 h dX7_gone_9 rfl (fun h => ?_) (fun h => ?_)
    · refine v_aload_n C hl dX7_gone_16 rfl 0 rfl ?_
      refine g_X7_6 C kdC_0 fl_X7_50 dX7_gone_17 ?_
      refine g_X5_1 C kdC_9 fl_X7_200 dX7_gone_20 ?_
      refine v_iload_n C hl dX7_gone_23 rfl 1 rfl ?_
      refine alC11 C kdC_10 h dX7_gone_24 (fun h => ?_)
      exact wX7_gone_25 C hr (lv_sub hl [0] rfl) h
    · exact wX7_gone_12 C hr (lv_sub hl [0] rfl) h
end
section
variable {l : Launch} {D : va_G} {ac : Nat → ClassId} {q xa xv : Nat → Nat} {p : Program} {e : Env} {s : State} {m : MethodId} {args : Array Value} {below : List Frame} {meth : Method} {c : Code} {ls : Array Slot}
theorem dX7_isPlace_0 : decode cX7_isPlace 0 = .ok (.iload_n 0, 1) := by decide +kernel
theorem dX7_isPlace_1 : decode cX7_isPlace 1 = .ok (.sipush 200, 3) := by decide +kernel
theorem dX7_isPlace_4 : decode cX7_isPlace 4 = .ok (.invokestatic 69, 3) := by decide +kernel
theorem dX7_isPlace_7 : decode cX7_isPlace 7 = .ok (.ifCond .eq 17, 3) := by decide +kernel
theorem dX7_isPlace_10 : decode cX7_isPlace 10 = .ok (.iload_n 1, 1) := by decide +kernel
theorem dX7_isPlace_11 : decode cX7_isPlace 11 = .ok (.sipush 200, 3) := by decide +kernel
theorem dX7_isPlace_14 : decode cX7_isPlace 14 = .ok (.invokestatic 69, 3) := by decide +kernel
theorem dX7_isPlace_17 : decode cX7_isPlace 17 = .ok (.ifCond .eq 7, 3) := by decide +kernel
theorem dX7_isPlace_20 : decode cX7_isPlace 20 = .ok (.iconst 1, 1) := by decide +kernel
theorem dX7_isPlace_21 : decode cX7_isPlace 21 = .ok (.goto 4, 3) := by decide +kernel
theorem dX7_isPlace_24 : decode cX7_isPlace 24 = .ok (.iconst 0, 1) := by decide +kernel
theorem dX7_isPlace_25 : decode cX7_isPlace 25 = .ok (.ireturn, 1) := by decide +kernel
theorem wX7_isPlace_25 (C : CxC p rmX7_isPlace s m args meth c D ac q xa xv RX7 cX7_isPlace 2) (hr : meth.sig.returnType = (some .boolean)) {t0 : Int} {σ : Mm} {r : Int} (hl : lv_has ls 2 []) (h : fX7_isPlace_25 t0 σ = some r) : VC p l e rmX7_isPlace s m args below meth c D ac q (QIC D ac q xa xv below args s (r, σ)) σ (F0 m 25 ls [.int (i32 t0)]) := by
  have h : chb t0 (some t0) = some r := h
  have hz1 := (chb_e h).1
  have h := (chb_e h).2
  exact v_zret C hr hz1 (so1 h) dX7_isPlace_25
theorem wX7_isPlace_24 (C : CxC p rmX7_isPlace s m args meth c D ac q xa xv RX7 cX7_isPlace 2) (hr : meth.sig.returnType = (some .boolean)) {σ : Mm} {r : Int} (hl : lv_has ls 2 []) (h : fX7_isPlace_24 σ = some r) : VC p l e rmX7_isPlace s m args below meth c D ac q (QIC D ac q xa xv below args s (r, σ)) σ (F0 m 24 ls []) := by
  have h : fX7_isPlace_25 0 σ = some r := h
  refine v_iconst C dX7_isPlace_24 ?_
  exact wX7_isPlace_25 C hr (lv_sub hl [] rfl) h
theorem mX7_isPlace (hq : QI 175 q) {v0 : Int} {v1 : Int} {σ : Mm} {r : Int} (h : fX7_isPlace v0 v1 σ = some r) : MIC l D ac q xa xv yX7_isPlace cX7_isPlace 2 (some .boolean) rmX7_isPlace [.int (i32 v0), .int (i32 v1)] σ (r, σ) := by
  refine MI.of hq XC_M (by decide) (Nat.le_of_ble_eq_true rfl) (fun p e s m below meth c ls C hr hl => ?_)
  have hl : lv_has ls 2 [(0, .int (i32 v0)), (1, .int (i32 v1))] := hl
  have h : bd (fX7_isBelow v0 200 σ) (fun x_1 => cr x_1 ((if x_1 = 0 then fX7_isPlace_24 σ else bd (fX7_isBelow v1 200 σ) (fun x_3 => cr x_3 ((if x_3 = 0 then fX7_isPlace_24 σ else fX7_isPlace_25 1 σ)))))) = some r := h
  refine v_iload_n C hl dX7_isPlace_0 rfl 0 rfl ?_
  refine v_sipush C dX7_isPlace_1 rfl ?_
  obtain ⟨x_1, hv1, h⟩ := bd_e h
  refine v_callSI C [.int (i32 v0), .int (i32 200)] (mX7_isBelow C.2.2.2.2.1 hv1) cd_X7_isBelow ic_X7 sm_X7_isBelow ml_X7_69 yk_X7_isBelow ⟨rfl, rfl, by decide, by decide⟩ rfl hl.1 (rest := []) rfl (Nat.le_of_ble_eq_true rfl) dX7_isPlace_4 ?_
  have hz2 := (cr_e h).1
  have h := (cr_e h).2
  refine v_if_eq C (tgt := 24) hz2 h dX7_isPlace_7 rfl (fun h => ?_) (fun h => ?_)
  · exact wX7_isPlace_24 C hr (lv_sub hl [] rfl) h
  · refine v_iload_n C hl dX7_isPlace_10 rfl 1 rfl ?_
    refine v_sipush C dX7_isPlace_11 rfl ?_
    obtain ⟨x_3, hv3, h⟩ := bd_e h
    refine v_callSI C [.int (i32 v1), .int (i32 200)] (mX7_isBelow C.2.2.2.2.1 hv3) cd_X7_isBelow ic_X7 sm_X7_isBelow ml_X7_69 yk_X7_isBelow ⟨rfl, rfl, by decide, by decide⟩ rfl hl.1 (rest := []) rfl (Nat.le_of_ble_eq_true rfl) dX7_isPlace_14 ?_
    have hz4 := (cr_e h).1
    have h := (cr_e h).2
    refine v_if_eq C (tgt := 24) hz4 h dX7_isPlace_17 rfl (fun h => ?_) (fun h => ?_)
    · exact wX7_isPlace_24 C hr (lv_sub hl [] rfl) h
    · refine v_iconst C dX7_isPlace_20 ?_
      refine v_goto C (tgt := 25) dX7_isPlace_21 rfl ?_
      exact wX7_isPlace_25 C hr (lv_sub hl [] rfl) h
end
section
variable {l : Launch} {D : va_G} {ac : Nat → ClassId} {q xa xv : Nat → Nat} {p : Program} {e : Env} {s : State} {m : MethodId} {args : Array Value} {below : List Frame} {meth : Method} {c : Code} {ls : Array Slot}
theorem dX7_keep_0 : decode cX7_keep 0 = .ok (.iload_n 1, 1) := by decide +kernel
theorem dX7_keep_1 : decode cX7_keep 1 = .ok (.ifCond .ge 5, 3) := by decide +kernel
theorem dX7_keep_4 : decode cX7_keep 4 = .ok (.iconst (-1), 1) := by decide +kernel
theorem dX7_keep_5 : decode cX7_keep 5 = .ok (.ireturn, 1) := by decide +kernel
theorem dX7_keep_6 : decode cX7_keep 6 = .ok (.iconst 0, 1) := by decide +kernel
theorem dX7_keep_7 : decode cX7_keep 7 = .ok (.aload_n 0, 1) := by decide +kernel
theorem dX7_keep_8 : decode cX7_keep 8 = .ok (.getfield 19, 3) := by decide +kernel
theorem dX7_keep_11 : decode cX7_keep 11 = .ok (.invokevirtual 128, 3) := by decide +kernel
theorem dX7_keep_14 : decode cX7_keep 14 = .ok (.iload_n 1, 1) := by decide +kernel
theorem dX7_keep_15 : decode cX7_keep 15 = .ok (.isub, 1) := by decide +kernel
theorem dX7_keep_16 : decode cX7_keep 16 = .ok (.invokestatic 215, 3) := by decide +kernel
theorem dX7_keep_19 : decode cX7_keep 19 = .ok (.istore_n 2, 1) := by decide +kernel
theorem dX7_keep_20 : decode cX7_keep 20 = .ok (.iload_n 2, 1) := by decide +kernel
theorem dX7_keep_21 : decode cX7_keep 21 = .ok (.aload_n 0, 1) := by decide +kernel
theorem dX7_keep_22 : decode cX7_keep 22 = .ok (.getfield 50, 3) := by decide +kernel
theorem dX7_keep_25 : decode cX7_keep 25 = .ok (.getfield 125, 3) := by decide +kernel
theorem dX7_keep_28 : decode cX7_keep 28 = .ok (.if_icmp .gt 7, 3) := by decide +kernel
theorem dX7_keep_31 : decode cX7_keep 31 = .ok (.iload_n 2, 1) := by decide +kernel
theorem dX7_keep_32 : decode cX7_keep 32 = .ok (.goto 5, 3) := by decide +kernel
theorem dX7_keep_35 : decode cX7_keep 35 = .ok (.bipush (-4), 2) := by decide +kernel
theorem dX7_keep_37 : decode cX7_keep 37 = .ok (.ireturn, 1) := by decide +kernel
theorem wX7_keep_37 (C : CxC p rmX7_keep s m args meth c D ac q xa xv RX7 cX7_keep 3) (hr : meth.sig.returnType = (some .int)) {t0 : Int} {σ : Mm} {r : Int} (hl : lv_has ls 3 [(0, .ref (q 0))]) (h : fX7_keep_37 t0 σ = some r) : VC p l e rmX7_keep s m args below meth c D ac q (QIC D ac q xa xv below args s (r, σ)) σ (F0 m 37 ls [.int (i32 t0)]) := by
  have h : some t0 = some r := h
  exact v_iret C hr (so1 h) dX7_keep_37
theorem mX7_keep (hq : QI 175 q) {v1 : Int} {σ : Mm} {r : Int} (h : fX7_keep v1 σ = some r) : MIC l D ac q xa xv yX7_keep cX7_keep 3 (some .int) rmX7_keep [.ref (q 0), .int (i32 v1)] σ (r, σ) := by
  refine MI.of hq XC_M (by decide) (Nat.le_of_ble_eq_true rfl) (fun p e s m below meth c ls C hr hl => ?_)
  have hl : lv_has ls 3 [(0, .ref (q 0)), (1, .int (i32 v1))] := hl
  have h : cr v1 ((if v1 < 0 then some (-1) else bd (fX1_pointsWithEdges 95 σ) (fun x_2 => cr 0 (cr (x_2 - v1) (bindv (mxI 0 (x_2 - v1)) (fun v2_3 => cr v2_3 (cr (σ 9 4) ((if σ 9 4 < v2_3 then fX7_keep_37 (-4) σ else fX7_keep_37 v2_3 σ))))))))) = some r := h
  refine v_iload_n C hl dX7_keep_0 rfl 1 rfl ?_
  have hz1 := (cr_e h).1
  have h := (cr_e h).2
  refine v_if_ge C (tgt := 6) hz1 h dX7_keep_1 rfl (fun h => ?_) (fun h => ?_)
  · refine v_iconst C dX7_keep_6 ?_
    refine v_aload_n C hl dX7_keep_7 rfl 0 rfl ?_
    refine g_X7_1 C kdC_0 fl_X7_19 dX7_keep_8 ?_
    obtain ⟨x_2, hv2, h⟩ := bd_e h
    refine v_callVI C 95 (klC kdC_95) rfl (ckC23 kdC_95 _) rfl [] (mX1_pointsWithEdges C.2.2.2.2.1 kdC_95 hv2) cd_X1_pointsWithEdges ic_X1 im_X1_pointsWithEdges se_X1_pointsWithEdges ml_X7_128 yk_X1_pointsWithEdges ⟨rfl, rfl, by decide, by decide⟩ rfl hl.1 (rest := [.int (i32 0)]) rfl (Nat.le_of_ble_eq_true rfl) dX7_keep_11 ?_
    refine v_iload_n C hl dX7_keep_14 rfl 1 rfl ?_
    refine v_isub C dX7_keep_15 ?_
    refine v_max C (rest := []) hl.1 ml_X7_215 sm_J9_max_7cf53 ic_J9 cd_J9_max_7cf53 (by decide) (Nat.le_of_ble_eq_true rfl) h dX7_keep_16 (fun h => ?_)
    refine v_istore_n C hl (fun x => [(2, .int (i32 x)), (0, .ref (q 0)), (1, .int (i32 v1))]) dX7_keep_19 rfl (by decide) (fun _ => rfl) h (fun v2_3 ls hl h => ?_)
    refine v_iload_n C hl dX7_keep_20 rfl 0 rfl ?_
    refine v_aload_n C hl dX7_keep_21 rfl 1 rfl ?_
    refine g_X7_6 C kdC_0 fl_X7_50 dX7_keep_22 ?_
    refine g_X5_4 C kdC_9 fl_X7_125 dX7_keep_25 ?_
    have hz4 := (cr_e h).1
    have h := (cr_e h).2
    have hz5 := (cr_e h).1
    have h := (cr_e h).2
    refine v_icmp_gt C (tgt := 35) hz4 hz5 h dX7_keep_28 rfl (fun h => ?_) (fun h => ?_)
    · refine v_bipush C dX7_keep_35 rfl ?_
      exact wX7_keep_37 C hr (lv_sub hl [1] rfl) h
    · refine v_iload_n C hl dX7_keep_31 rfl 0 rfl ?_
      refine v_goto C (tgt := 37) dX7_keep_32 rfl ?_
      exact wX7_keep_37 C hr (lv_sub hl [1] rfl) h
  · refine v_iconst C dX7_keep_4 ?_
    exact v_iret C hr (so1 h) dX7_keep_5
end
section
variable {l : Launch} {D : va_G} {ac : Nat → ClassId} {q xa xv : Nat → Nat} {p : Program} {e : Env} {s : State} {m : MethodId} {args : Array Value} {below : List Frame} {meth : Method} {c : Code} {ls : Array Slot}
theorem dX7_lay_0 : decode cX7_lay 0 = .ok (.iload_n 1, 1) := by decide +kernel
theorem dX7_lay_1 : decode cX7_lay 1 = .ok (.iconst 4, 1) := by decide +kernel
theorem dX7_lay_2 : decode cX7_lay 2 = .ok (.invokestatic 69, 3) := by decide +kernel
theorem dX7_lay_5 : decode cX7_lay 5 = .ok (.ifCond .ne 5, 3) := by decide +kernel
theorem dX7_lay_8 : decode cX7_lay 8 = .ok (.iconst (-1), 1) := by decide +kernel
theorem dX7_lay_9 : decode cX7_lay 9 = .ok (.ireturn, 1) := by decide +kernel
theorem dX7_lay_10 : decode cX7_lay 10 = .ok (.aload_n 0, 1) := by decide +kernel
theorem dX7_lay_11 : decode cX7_lay 11 = .ok (.getfield 64, 3) := by decide +kernel
theorem dX7_lay_14 : decode cX7_lay 14 = .ok (.iload_n 1, 1) := by decide +kernel
theorem dX7_lay_15 : decode cX7_lay 15 = .ok (.aaload, 1) := by decide +kernel
theorem dX7_lay_16 : decode cX7_lay 16 = .ok (.astore 4, 2) := by decide +kernel
theorem dX7_lay_18 : decode cX7_lay 18 = .ok (.aload 4, 2) := by decide +kernel
theorem dX7_lay_20 : decode cX7_lay 20 = .ok (.invokevirtual 239, 3) := by decide +kernel
theorem dX7_lay_23 : decode cX7_lay 23 = .ok (.ifCond .eq 6, 3) := by decide +kernel
theorem dX7_lay_26 : decode cX7_lay 26 = .ok (.bipush (-11), 2) := by decide +kernel
theorem dX7_lay_28 : decode cX7_lay 28 = .ok (.ireturn, 1) := by decide +kernel
theorem dX7_lay_29 : decode cX7_lay 29 = .ok (.iload_n 2, 1) := by decide +kernel
theorem dX7_lay_30 : decode cX7_lay 30 = .ok (.aload 4, 2) := by decide +kernel
theorem dX7_lay_32 : decode cX7_lay 32 = .ok (.getfield 242, 3) := by decide +kernel
theorem dX7_lay_35 : decode cX7_lay 35 = .ok (.invokestatic 69, 3) := by decide +kernel
theorem dX7_lay_38 : decode cX7_lay 38 = .ok (.ifCond .ne 6, 3) := by decide +kernel
theorem dX7_lay_41 : decode cX7_lay 41 = .ok (.bipush (-12), 2) := by decide +kernel
theorem dX7_lay_43 : decode cX7_lay 43 = .ok (.ireturn, 1) := by decide +kernel
theorem dX7_lay_44 : decode cX7_lay 44 = .ok (.aload 4, 2) := by decide +kernel
theorem dX7_lay_46 : decode cX7_lay 46 = .ok (.iload_n 2, 1) := by decide +kernel
theorem dX7_lay_47 : decode cX7_lay 47 = .ok (.iload_n 3, 1) := by decide +kernel
theorem dX7_lay_48 : decode cX7_lay 48 = .ok (.invokevirtual 243, 3) := by decide +kernel
theorem dX7_lay_51 : decode cX7_lay 51 = .ok (.iconst 1, 1) := by decide +kernel
theorem dX7_lay_52 : decode cX7_lay 52 = .ok (.ireturn, 1) := by decide +kernel
theorem mX7_lay (hq : QI 175 q) {v1 : Int} {v2 : Int} {v3 : Int} {σ : Mm} {r : Int × Mm} (h : fX7_lay v1 v2 v3 σ = some r) : MIC l D ac q xa xv yX7_lay cX7_lay 5 (some .int) rmX7_lay [.ref (q 0), .int (i32 v1), .int (i32 v2), .int (i32 v3)] σ r := by
  refine MI.of hq XC_M (by decide) (Nat.le_of_ble_eq_true rfl) (fun p e s m below meth c ls C hr hl => ?_)
  have hl : lv_has ls 5 [(0, .ref (q 0)), (1, .int (i32 v1)), (2, .int (i32 v2)), (3, .int (i32 v3))] := hl
  have h : bd (fX7_isBelow v1 4 σ) (fun x_1 => cr x_1 ((if x_1 = 0 then some ((-1), σ) else chk v1 4 (bd (fX4_isNothing (21 + 2 * (v1).toNat) σ) (fun x_4 => cr x_4 ((if x_4 = 0 then bd (fX7_isBelow v2 (σ (21 + 2 * (v1).toNat) 2) σ) (fun x_6 => cr x_6 ((if x_6 = 0 then some ((-12), σ) else bd (fX4_put (21 + 2 * (v1).toNat) v2 v3 σ) (fun σ_8 => some (1, σ_8))))) else some ((-11), σ)))))))) = some r := h
  refine v_iload_n C hl dX7_lay_0 rfl 1 rfl ?_
  refine v_iconst C dX7_lay_1 ?_
  obtain ⟨x_1, hv1, h⟩ := bd_e h
  refine v_callSI C [.int (i32 v1), .int (i32 4)] (mX7_isBelow C.2.2.2.2.1 hv1) cd_X7_isBelow ic_X7 sm_X7_isBelow ml_X7_69 yk_X7_isBelow ⟨rfl, rfl, by decide, by decide⟩ rfl hl.1 (rest := []) rfl (Nat.le_of_ble_eq_true rfl) dX7_lay_2 ?_
  have hz2 := (cr_e h).1
  have h := (cr_e h).2
  refine v_if_ne C (tgt := 10) hz2 h dX7_lay_5 rfl (fun h => ?_) (fun h => ?_)
  · refine v_aload_n C hl dX7_lay_10 rfl 0 rfl ?_
    refine g_X7_9 C kdC_0 fl_X7_64 dX7_lay_11 ?_
    refine v_iload_n C hl dX7_lay_14 rfl 1 rfl ?_
    have hi3 := (chk_e h).1
    refine arC19 C kdC_20 h dX7_lay_15 (fun h => ?_)
    refine v_astore C hl ([(4, .ref (q (21 + 2 * (v1).toNat))), (0, .ref (q 0)), (1, .int (i32 v1)), (2, .int (i32 v2)), (3, .int (i32 v3))]) dX7_lay_16 (by decide) rfl (fun ls hl => ?_)
    refine v_aload C hl dX7_lay_18 0 rfl ?_
    obtain ⟨x_4, hv4, h⟩ := bd_e h
    refine v_callVI C (21 + 2 * (v1).toNat) (klC (keC19 kdC_20 hi3)) rfl (ckC20 (keC19 kdC_20 hi3) _) rfl [] (mX4_isNothing C.2.2.2.2.1 (keC19 kdC_20 hi3) hv4) cd_X4_isNothing ic_X4 im_X4_isNothing se_X4_isNothing ml_X7_239 yk_X4_isNothing ⟨rfl, rfl, by decide, by decide⟩ rfl hl.1 (rest := []) rfl (Nat.le_of_ble_eq_true rfl) dX7_lay_20 ?_
    have hz5 := (cr_e h).1
    have h := (cr_e h).2
    refine v_if_eq C (tgt := 29) hz5 h dX7_lay_23 rfl (fun h => ?_) (fun h => ?_)
    · refine v_iload_n C hl dX7_lay_29 rfl 3 rfl ?_
      refine v_aload C hl dX7_lay_30 0 rfl ?_
      refine g_X4_2 C (keC19 kdC_20 hi3) fl_X7_242 dX7_lay_32 ?_
      obtain ⟨x_6, hv6, h⟩ := bd_e h
      refine v_callSI C [.int (i32 v2), .int (i32 (σ (21 + 2 * (v1).toNat) 2))] (mX7_isBelow C.2.2.2.2.1 hv6) cd_X7_isBelow ic_X7 sm_X7_isBelow ml_X7_69 yk_X7_isBelow ⟨rfl, rfl, by decide, by decide⟩ rfl hl.1 (rest := []) rfl (Nat.le_of_ble_eq_true rfl) dX7_lay_35 ?_
      have hz7 := (cr_e h).1
      have h := (cr_e h).2
      refine v_if_ne C (tgt := 44) hz7 h dX7_lay_38 rfl (fun h => ?_) (fun h => ?_)
      · refine v_aload C hl dX7_lay_44 0 rfl ?_
        refine v_iload_n C hl dX7_lay_46 rfl 3 rfl ?_
        refine v_iload_n C hl dX7_lay_47 rfl 4 rfl ?_
        obtain ⟨σ_8, hv8, h⟩ := bd_e h
        refine v_callVV C (21 + 2 * (v1).toNat) (klC (keC19 kdC_20 hi3)) rfl (ckC20 (keC19 kdC_20 hi3) _) rfl [.int (i32 v2), .int (i32 v3)] (mX4_put C.2.2.2.2.1 (keC19 kdC_20 hi3) hv8) cd_X4_put ic_X4 im_X4_put se_X4_put ml_X7_243 yk_X4_put ⟨rfl, rfl, by decide, by decide⟩ rfl hl.1 (rest := []) rfl (Nat.le_of_ble_eq_true rfl) dX7_lay_48 ?_
        refine v_iconst C dX7_lay_51 ?_
        exact v_iret C hr h dX7_lay_52
      · refine v_bipush C dX7_lay_41 rfl ?_
        exact v_iret C hr h dX7_lay_43
    · refine v_bipush C dX7_lay_26 rfl ?_
      exact v_iret C hr h dX7_lay_28
  · refine v_iconst C dX7_lay_8 ?_
    exact v_iret C hr h dX7_lay_9
end
section
variable {l : Launch} {D : va_G} {ac : Nat → ClassId} {q xa xv : Nat → Nat} {p : Program} {e : Env} {s : State} {m : MethodId} {args : Array Value} {below : List Frame} {meth : Method} {c : Code} {ls : Array Slot}
theorem dX7_left_0 : decode cX7_left 0 = .ok (.aload_n 0, 1) := by decide +kernel
theorem dX7_left_1 : decode cX7_left 1 = .ok (.iload_n 1, 1) := by decide +kernel
theorem dX7_left_2 : decode cX7_left 2 = .ok (.invokevirtual 160, 3) := by decide +kernel
theorem dX7_left_5 : decode cX7_left 5 = .ok (.ifCond .eq 15, 3) := by decide +kernel
theorem dX7_left_8 : decode cX7_left 8 = .ok (.aload_n 0, 1) := by decide +kernel
theorem dX7_left_9 : decode cX7_left 9 = .ok (.getfield 19, 3) := by decide +kernel
theorem dX7_left_12 : decode cX7_left 12 = .ok (.invokevirtual 128, 3) := by decide +kernel
theorem dX7_left_15 : decode cX7_left 15 = .ok (.iload_n 1, 1) := by decide +kernel
theorem dX7_left_16 : decode cX7_left 16 = .ok (.isub, 1) := by decide +kernel
theorem dX7_left_17 : decode cX7_left 17 = .ok (.goto 4, 3) := by decide +kernel
theorem dX7_left_20 : decode cX7_left 20 = .ok (.iconst (-1), 1) := by decide +kernel
theorem dX7_left_21 : decode cX7_left 21 = .ok (.ireturn, 1) := by decide +kernel
theorem wX7_left_21 (C : CxC p rmX7_left s m args meth c D ac q xa xv RX7 cX7_left 2) (hr : meth.sig.returnType = (some .int)) {t0 : Int} {σ : Mm} {r : Int} (hl : lv_has ls 2 [(0, .ref (q 0))]) (h : fX7_left_21 t0 σ = some r) : VC p l e rmX7_left s m args below meth c D ac q (QIC D ac q xa xv below args s (r, σ)) σ (F0 m 21 ls [.int (i32 t0)]) := by
  have h : some t0 = some r := h
  exact v_iret C hr (so1 h) dX7_left_21
theorem mX7_left (hq : QI 175 q) {v1 : Int} {σ : Mm} {r : Int} (h : fX7_left v1 σ = some r) : MIC l D ac q xa xv yX7_left cX7_left 2 (some .int) rmX7_left [.ref (q 0), .int (i32 v1)] σ (r, σ) := by
  refine MI.of hq XC_M (by decide) (Nat.le_of_ble_eq_true rfl) (fun p e s m below meth c ls C hr hl => ?_)
  have hl : lv_has ls 2 [(0, .ref (q 0)), (1, .int (i32 v1))] := hl
  have h : bd (fX7_isStage v1 σ) (fun x_1 => cr x_1 ((if x_1 = 0 then fX7_left_21 (-1) σ else bd (fX1_pointsWithEdges 95 σ) (fun x_3 => fX7_left_21 (x_3 - v1) σ)))) = some r := h
  refine v_aload_n C hl dX7_left_0 rfl 0 rfl ?_
  refine v_iload_n C hl dX7_left_1 rfl 1 rfl ?_
  obtain ⟨x_1, hv1, h⟩ := bd_e h
  refine v_callVI C 0 (klC kdC_0) rfl (ckC1 kdC_0 _) rfl [.int (i32 v1)] (mX7_isStage C.2.2.2.2.1 hv1) cd_X7_isStage ic_X7 im_X7_isStage se_X7_isStage ml_X7_160 yk_X7_isStage ⟨rfl, rfl, by decide, by decide⟩ rfl hl.1 (rest := []) rfl (Nat.le_of_ble_eq_true rfl) dX7_left_2 ?_
  have hz2 := (cr_e h).1
  have h := (cr_e h).2
  refine v_if_eq C (tgt := 20) hz2 h dX7_left_5 rfl (fun h => ?_) (fun h => ?_)
  · refine v_iconst C dX7_left_20 ?_
    exact wX7_left_21 C hr (lv_sub hl [0] rfl) h
  · refine v_aload_n C hl dX7_left_8 rfl 0 rfl ?_
    refine g_X7_1 C kdC_0 fl_X7_19 dX7_left_9 ?_
    obtain ⟨x_3, hv3, h⟩ := bd_e h
    refine v_callVI C 95 (klC kdC_95) rfl (ckC23 kdC_95 _) rfl [] (mX1_pointsWithEdges C.2.2.2.2.1 kdC_95 hv3) cd_X1_pointsWithEdges ic_X1 im_X1_pointsWithEdges se_X1_pointsWithEdges ml_X7_128 yk_X1_pointsWithEdges ⟨rfl, rfl, by decide, by decide⟩ rfl hl.1 (rest := []) rfl (Nat.le_of_ble_eq_true rfl) dX7_left_12 ?_
    refine v_iload_n C hl dX7_left_15 rfl 1 rfl ?_
    refine v_isub C dX7_left_16 ?_
    refine v_goto C (tgt := 21) dX7_left_17 rfl ?_
    exact wX7_left_21 C hr (lv_sub hl [0] rfl) h
end
section
variable {l : Launch} {D : va_G} {ac : Nat → ClassId} {q xa xv : Nat → Nat} {p : Program} {e : Env} {s : State} {m : MethodId} {args : Array Value} {below : List Frame} {meth : Method} {c : Code} {ls : Array Slot}
theorem dX7_limit_0 : decode cX7_limit 0 = .ok (.iload_n 1, 1) := by decide +kernel
theorem dX7_limit_1 : decode cX7_limit 1 = .ok (.ifCond .ge 5, 3) := by decide +kernel
theorem dX7_limit_4 : decode cX7_limit 4 = .ok (.iconst (-1), 1) := by decide +kernel
theorem dX7_limit_5 : decode cX7_limit 5 = .ok (.ireturn, 1) := by decide +kernel
theorem dX7_limit_6 : decode cX7_limit 6 = .ok (.iconst 1, 1) := by decide +kernel
theorem dX7_limit_7 : decode cX7_limit 7 = .ok (.istore_n 2, 1) := by decide +kernel
theorem dX7_limit_8 : decode cX7_limit 8 = .ok (.iload_n 2, 1) := by decide +kernel
theorem dX7_limit_9 : decode cX7_limit 9 = .ok (.aload_n 0, 1) := by decide +kernel
theorem dX7_limit_10 : decode cX7_limit 10 = .ok (.getfield 50, 3) := by decide +kernel
theorem dX7_limit_13 : decode cX7_limit 13 = .ok (.getfield 125, 3) := by decide +kernel
theorem dX7_limit_16 : decode cX7_limit 16 = .ok (.if_icmp .gt 26, 3) := by decide +kernel
theorem dX7_limit_19 : decode cX7_limit 19 = .ok (.aload_n 0, 1) := by decide +kernel
theorem dX7_limit_20 : decode cX7_limit 20 = .ok (.getfield 50, 3) := by decide +kernel
theorem dX7_limit_23 : decode cX7_limit 23 = .ok (.getfield 154, 3) := by decide +kernel
theorem dX7_limit_26 : decode cX7_limit 26 = .ok (.iload_n 2, 1) := by decide +kernel
theorem dX7_limit_27 : decode cX7_limit 27 = .ok (.iaload, 1) := by decide +kernel
theorem dX7_limit_28 : decode cX7_limit 28 = .ok (.iload_n 1, 1) := by decide +kernel
theorem dX7_limit_29 : decode cX7_limit 29 = .ok (.if_icmp .le 7, 3) := by decide +kernel
theorem dX7_limit_32 : decode cX7_limit 32 = .ok (.iload_n 2, 1) := by decide +kernel
theorem dX7_limit_33 : decode cX7_limit 33 = .ok (.iconst 1, 1) := by decide +kernel
theorem dX7_limit_34 : decode cX7_limit 34 = .ok (.isub, 1) := by decide +kernel
theorem dX7_limit_35 : decode cX7_limit 35 = .ok (.ireturn, 1) := by decide +kernel
theorem dX7_limit_36 : decode cX7_limit 36 = .ok (.iinc 2 1, 3) := by decide +kernel
theorem dX7_limit_39 : decode cX7_limit 39 = .ok (.goto (-31), 3) := by decide +kernel
theorem dX7_limit_42 : decode cX7_limit 42 = .ok (.aload_n 0, 1) := by decide +kernel
theorem dX7_limit_43 : decode cX7_limit 43 = .ok (.getfield 50, 3) := by decide +kernel
theorem dX7_limit_46 : decode cX7_limit 46 = .ok (.getfield 125, 3) := by decide +kernel
theorem dX7_limit_49 : decode cX7_limit 49 = .ok (.ireturn, 1) := by decide +kernel
theorem wX7_limit_42 (C : CxC p rmX7_limit s m args meth c D ac q xa xv RX7 cX7_limit 3) (hr : meth.sig.returnType = (some .int)) {σ : Mm} {r : Int} (hl : lv_has ls 3 [(0, .ref (q 0))]) (h : fX7_limit_42 σ = some r) : VC p l e rmX7_limit s m args below meth c D ac q (QIC D ac q xa xv below args s (r, σ)) σ (F0 m 42 ls []) := by
  have h : some (σ 9 4) = some r := h
  refine v_aload_n C hl dX7_limit_42 rfl 0 rfl ?_
  refine g_X7_6 C kdC_0 fl_X7_50 dX7_limit_43 ?_
  refine g_X5_4 C kdC_9 fl_X7_125 dX7_limit_46 ?_
  exact v_iret C hr (so1 h) dX7_limit_49
theorem wX7_limit_8 (C : CxC p rmX7_limit s m args meth c D ac q xa xv RX7 cX7_limit 3) (hr : meth.sig.returnType = (some .int)) {v1 : Int} {σ : Mm} {v2 : Int} {e8 : Option (Int)} {c8 : Int → Option (Int)} {r : Int} (he8 : ∀ (ls : Array Slot), lv_has ls 3 [(0, .ref (q 0))] → e8 = some r → VC p l e rmX7_limit s m args below meth c D ac q (QIC D ac q xa xv below args s (r, σ)) σ (F0 m 42 ls [])) (hc8 : ∀ (v2x : Int) (ls : Array Slot), lv_has ls 3 [(0, .ref (q 0)), (1, .int (i32 v1)), (2, .int (i32 v2x))] → c8 v2x = some r → VC p l e rmX7_limit s m args below meth c D ac q (QIC D ac q xa xv below args s (r, σ)) σ (F0 m 8 ls [])) (hl : lv_has ls 3 [(0, .ref (q 0)), (1, .int (i32 v1)), (2, .int (i32 v2))]) (h : fX7_limit_8 v1 σ e8 c8 v2 = some r) : VC p l e rmX7_limit s m args below meth c D ac q (QIC D ac q xa xv below args s (r, σ)) σ (F0 m 8 ls []) := by
  have h : cr v2 (cr (σ 9 4) ((if σ 9 4 < v2 then e8 else chk v2 25 (cr (σ 11 (v2).toNat) (cr v1 ((if v1 < σ 11 (v2).toNat then some (v2 - 1) else bindv (v2 + 1) (fun v2_5 => c8 v2_5)))))))) = some r := h
  refine v_iload_n C hl dX7_limit_8 rfl 2 rfl ?_
  refine v_aload_n C hl dX7_limit_9 rfl 0 rfl ?_
  refine g_X7_6 C kdC_0 fl_X7_50 dX7_limit_10 ?_
  refine g_X5_4 C kdC_9 fl_X7_125 dX7_limit_13 ?_
  have hz1 := (cr_e h).1
  have h := (cr_e h).2
  have hz2 := (cr_e h).1
  have h := (cr_e h).2
  refine v_icmp_gt C (tgt := 42) hz1 hz2 h dX7_limit_16 rfl (fun h => ?_) (fun h => ?_)
  · exact he8  _ (lv_sub hl [0] rfl) h
  · refine v_aload_n C hl dX7_limit_19 rfl 0 rfl ?_
    refine g_X7_6 C kdC_0 fl_X7_50 dX7_limit_20 ?_
    refine g_X5_2 C kdC_9 fl_X7_154 dX7_limit_23 ?_
    refine v_iload_n C hl dX7_limit_26 rfl 2 rfl ?_
    refine alC11 C kdC_11 h dX7_limit_27 (fun h => ?_)
    refine v_iload_n C hl dX7_limit_28 rfl 1 rfl ?_
    have hz3 := (cr_e h).1
    have h := (cr_e h).2
    have hz4 := (cr_e h).1
    have h := (cr_e h).2
    refine v_icmp_le C (tgt := 36) hz3 hz4 h dX7_limit_29 rfl (fun h => ?_) (fun h => ?_)
    · refine v_iinc C hl (fun x => [(2, .int (i32 x)), (0, .ref (q 0)), (1, .int (i32 v1))]) dX7_limit_36 2 rfl (by decide) (fun _ => rfl) h (fun v2_5 ls hl h => ?_)
      refine v_goto C (tgt := 8) dX7_limit_39 rfl ?_
      exact hc8 _ _ (lv_sub hl [1, 2, 0] rfl) h
    · refine v_iload_n C hl dX7_limit_32 rfl 2 rfl ?_
      refine v_iconst C dX7_limit_33 ?_
      refine v_isub C dX7_limit_34 ?_
      exact v_iret C hr (so1 h) dX7_limit_35
theorem wlX7_limit_8 (C : CxC p rmX7_limit s m args meth c D ac q xa xv RX7 cX7_limit 3) (hr : meth.sig.returnType = (some .int)) {v1 : Int} {σ : Mm} {e8 : Option (Int)} {r : Int} (he8 : ∀ (ls : Array Slot), lv_has ls 3 [(0, .ref (q 0))] → e8 = some r → VC p l e rmX7_limit s m args below meth c D ac q (QIC D ac q xa xv below args s (r, σ)) σ (F0 m 42 ls [])) : ∀ (fu : Nat) (v2 : Int) (ls : Array Slot) (hl : lv_has ls 3 [(0, .ref (q 0)), (1, .int (i32 v1)), (2, .int (i32 v2))]) (h : lX7_limit_8 v1 σ e8 fu v2 = some r), VC p l e rmX7_limit s m args below meth c D ac q (QIC D ac q xa xv below args s (r, σ)) σ (F0 m 8 ls []) := by
  intro fu
  induction fu with
  | zero =>
    intro v2 ls hl h
    have h : none = some r := h
    cases h
  | succ fu ih =>
    intro v2 ls hl h
    exact wX7_limit_8 C hr he8 (fun v2 ls hl h => ih v2 ls hl h) hl h
theorem mX7_limit (hq : QI 175 q) {v1 : Int} {σ : Mm} {r : Int} (h : fX7_limit v1 σ = some r) : MIC l D ac q xa xv yX7_limit cX7_limit 3 (some .int) rmX7_limit [.ref (q 0), .int (i32 v1)] σ (r, σ) := by
  refine MI.of hq XC_M (by decide) (Nat.le_of_ble_eq_true rfl) (fun p e s m below meth c ls C hr hl => ?_)
  have hl : lv_has ls 3 [(0, .ref (q 0)), (1, .int (i32 v1))] := hl
  have h : cr v1 ((if v1 < 0 then some (-1) else bindv 1 (fun v2_2 => lX7_limit_8 v1 σ (fX7_limit_42 σ) 400 v2_2))) = some r := h
  refine v_iload_n C hl dX7_limit_0 rfl 1 rfl ?_
  have hz1 := (cr_e h).1
  have h := (cr_e h).2
  refine v_if_ge C (tgt := 6) hz1 h dX7_limit_1 rfl (fun h => ?_) (fun h => ?_)
  · refine v_iconst C dX7_limit_6 ?_
    refine v_istore_n C hl (fun x => [(2, .int (i32 x)), (0, .ref (q 0)), (1, .int (i32 v1))]) dX7_limit_7 rfl (by decide) (fun _ => rfl) h (fun v2_2 ls hl h => ?_)
    exact wlX7_limit_8 C hr (fun ls hl h => wX7_limit_42 C hr (lv_sub hl [0] rfl) h) _ _ _ (lv_sub hl [1, 2, 0] rfl) h
  · refine v_iconst C dX7_limit_4 ?_
    exact v_iret C hr (so1 h) dX7_limit_5
end
section
variable {l : Launch} {D : va_G} {ac : Nat → ClassId} {q xa xv : Nat → Nat} {p : Program} {e : Env} {s : State} {m : MethodId} {args : Array Value} {below : List Frame} {meth : Method} {c : Code} {ls : Array Slot}
theorem dX7_shift_0 : decode cX7_shift 0 = .ok (.iload_n 1, 1) := by decide +kernel
theorem dX7_shift_1 : decode cX7_shift 1 = .ok (.aload_n 0, 1) := by decide +kernel
theorem dX7_shift_2 : decode cX7_shift 2 = .ok (.getfield 19, 3) := by decide +kernel
theorem dX7_shift_5 : decode cX7_shift 5 = .ok (.getfield 109, 3) := by decide +kernel
theorem dX7_shift_8 : decode cX7_shift 8 = .ok (.invokestatic 69, 3) := by decide +kernel
theorem dX7_shift_11 : decode cX7_shift 11 = .ok (.ifCond .eq 11, 3) := by decide +kernel
theorem dX7_shift_14 : decode cX7_shift 14 = .ok (.iload_n 2, 1) := by decide +kernel
theorem dX7_shift_15 : decode cX7_shift 15 = .ok (.iload_n 3, 1) := by decide +kernel
theorem dX7_shift_16 : decode cX7_shift 16 = .ok (.invokestatic 220, 3) := by decide +kernel
theorem dX7_shift_19 : decode cX7_shift 19 = .ok (.ifCond .ne 5, 3) := by decide +kernel
theorem dX7_shift_22 : decode cX7_shift 22 = .ok (.iconst (-1), 1) := by decide +kernel
theorem dX7_shift_23 : decode cX7_shift 23 = .ok (.ireturn, 1) := by decide +kernel
theorem dX7_shift_24 : decode cX7_shift 24 = .ok (.aload_n 0, 1) := by decide +kernel
theorem dX7_shift_25 : decode cX7_shift 25 = .ok (.getfield 19, 3) := by decide +kernel
theorem dX7_shift_28 : decode cX7_shift 28 = .ok (.iload_n 1, 1) := by decide +kernel
theorem dX7_shift_29 : decode cX7_shift 29 = .ok (.iload_n 2, 1) := by decide +kernel
theorem dX7_shift_30 : decode cX7_shift 30 = .ok (.iload_n 3, 1) := by decide +kernel
theorem dX7_shift_31 : decode cX7_shift 31 = .ok (.invokevirtual 271, 3) := by decide +kernel
theorem dX7_shift_34 : decode cX7_shift 34 = .ok (.ifCond .eq 7, 3) := by decide +kernel
theorem dX7_shift_37 : decode cX7_shift 37 = .ok (.iconst 1, 1) := by decide +kernel
theorem dX7_shift_38 : decode cX7_shift 38 = .ok (.goto 5, 3) := by decide +kernel
theorem dX7_shift_41 : decode cX7_shift 41 = .ok (.bipush (-2), 2) := by decide +kernel
theorem dX7_shift_43 : decode cX7_shift 43 = .ok (.ireturn, 1) := by decide +kernel
theorem wX7_shift_43 (C : CxC p rmX7_shift s m args meth c D ac q xa xv RX7 cX7_shift 4) (hr : meth.sig.returnType = (some .int)) {t0 : Int} {σ : Mm} {r : Int × Mm} (hl : lv_has ls 4 [(0, .ref (q 0))]) (h : fX7_shift_43 t0 σ = some r) : VC p l e rmX7_shift s m args below meth c D ac q (QIC D ac q xa xv below args s r) σ (F0 m 43 ls [.int (i32 t0)]) := by
  have h : some (t0, σ) = some r := h
  exact v_iret C hr h dX7_shift_43
theorem wX7_shift_22 (C : CxC p rmX7_shift s m args meth c D ac q xa xv RX7 cX7_shift 4) (hr : meth.sig.returnType = (some .int)) {σ : Mm} {r : Int × Mm} (hl : lv_has ls 4 [(0, .ref (q 0))]) (h : fX7_shift_22 σ = some r) : VC p l e rmX7_shift s m args below meth c D ac q (QIC D ac q xa xv below args s r) σ (F0 m 22 ls []) := by
  have h : some ((-1), σ) = some r := h
  refine v_iconst C dX7_shift_22 ?_
  exact v_iret C hr h dX7_shift_23
theorem mX7_shift (hq : QI 175 q) {v1 : Int} {v2 : Int} {v3 : Int} {σ : Mm} {r : Int × Mm} (h : fX7_shift v1 v2 v3 σ = some r) : MIC l D ac q xa xv yX7_shift cX7_shift 4 (some .int) rmX7_shift [.ref (q 0), .int (i32 v1), .int (i32 v2), .int (i32 v3)] σ r := by
  refine MI.of hq XC_M (by decide) (Nat.le_of_ble_eq_true rfl) (fun p e s m below meth c ls C hr hl => ?_)
  have hl : lv_has ls 4 [(0, .ref (q 0)), (1, .int (i32 v1)), (2, .int (i32 v2)), (3, .int (i32 v3))] := hl
  have h : bd (fX7_isBelow v1 (σ 95 9) σ) (fun x_1 => cr x_1 ((if x_1 = 0 then fX7_shift_22 σ else bd (fX7_isPlace v2 v3 σ) (fun x_3 => cr x_3 ((if x_3 = 0 then fX7_shift_22 σ else bd2 (fX1_shiftIfFair 95 v1 v2 v3 σ) (fun x_5 σ_5 => cr x_5 ((if x_5 = 0 then fX7_shift_43 (-2) σ_5 else fX7_shift_43 1 σ_5))))))))) = some r := h
  refine v_iload_n C hl dX7_shift_0 rfl 1 rfl ?_
  refine v_aload_n C hl dX7_shift_1 rfl 0 rfl ?_
  refine g_X7_1 C kdC_0 fl_X7_19 dX7_shift_2 ?_
  refine g_X1_9 C kdC_95 fl_X7_109 dX7_shift_5 ?_
  obtain ⟨x_1, hv1, h⟩ := bd_e h
  refine v_callSI C [.int (i32 v1), .int (i32 (σ 95 9))] (mX7_isBelow C.2.2.2.2.1 hv1) cd_X7_isBelow ic_X7 sm_X7_isBelow ml_X7_69 yk_X7_isBelow ⟨rfl, rfl, by decide, by decide⟩ rfl hl.1 (rest := []) rfl (Nat.le_of_ble_eq_true rfl) dX7_shift_8 ?_
  have hz2 := (cr_e h).1
  have h := (cr_e h).2
  refine v_if_eq C (tgt := 22) hz2 h dX7_shift_11 rfl (fun h => ?_) (fun h => ?_)
  · exact wX7_shift_22 C hr (lv_sub hl [0] rfl) h
  · refine v_iload_n C hl dX7_shift_14 rfl 2 rfl ?_
    refine v_iload_n C hl dX7_shift_15 rfl 3 rfl ?_
    obtain ⟨x_3, hv3, h⟩ := bd_e h
    refine v_callSI C [.int (i32 v2), .int (i32 v3)] (mX7_isPlace C.2.2.2.2.1 hv3) cd_X7_isPlace ic_X7 sm_X7_isPlace ml_X7_220 yk_X7_isPlace ⟨rfl, rfl, by decide, by decide⟩ rfl hl.1 (rest := []) rfl (Nat.le_of_ble_eq_true rfl) dX7_shift_16 ?_
    have hz4 := (cr_e h).1
    have h := (cr_e h).2
    refine v_if_ne C (tgt := 24) hz4 h dX7_shift_19 rfl (fun h => ?_) (fun h => ?_)
    · refine v_aload_n C hl dX7_shift_24 rfl 0 rfl ?_
      refine g_X7_1 C kdC_0 fl_X7_19 dX7_shift_25 ?_
      refine v_iload_n C hl dX7_shift_28 rfl 1 rfl ?_
      refine v_iload_n C hl dX7_shift_29 rfl 2 rfl ?_
      refine v_iload_n C hl dX7_shift_30 rfl 3 rfl ?_
      obtain ⟨x_5, σ_5, hv5, h⟩ := bd2_e h
      refine v_callVI C 95 (klC kdC_95) rfl (ckC23 kdC_95 _) rfl [.int (i32 v1), .int (i32 v2), .int (i32 v3)] (mX1_shiftIfFair C.2.2.2.2.1 kdC_95 hv5) cd_X1_shiftIfFair ic_X1 im_X1_shiftIfFair se_X1_shiftIfFair ml_X7_271 yk_X1_shiftIfFair ⟨rfl, rfl, by decide, by decide⟩ rfl hl.1 (rest := []) rfl (Nat.le_of_ble_eq_true rfl) dX7_shift_31 ?_
      have hz6 := (cr_e h).1
      have h := (cr_e h).2
      refine v_if_eq C (tgt := 41) hz6 h dX7_shift_34 rfl (fun h => ?_) (fun h => ?_)
      · refine v_bipush C dX7_shift_41 rfl ?_
        exact wX7_shift_43 C hr (lv_sub hl [0] rfl) h
      · refine v_iconst C dX7_shift_37 ?_
        refine v_goto C (tgt := 43) dX7_shift_38 rfl ?_
        exact wX7_shift_43 C hr (lv_sub hl [0] rfl) h
    · exact wX7_shift_22 C hr (lv_sub hl [0] rfl) h
end
section
variable {l : Launch} {D : va_G} {ac : Nat → ClassId} {q xa xv : Nat → Nat} {p : Program} {e : Env} {s : State} {m : MethodId} {args : Array Value} {below : List Frame} {meth : Method} {c : Code} {ls : Array Slot}
theorem dX7_move_0 : decode cX7_move 0 = .ok (.aload_n 0, 1) := by decide +kernel
theorem dX7_move_1 : decode cX7_move 1 = .ok (.iload_n 1, 1) := by decide +kernel
theorem dX7_move_2 : decode cX7_move 2 = .ok (.iload_n 2, 1) := by decide +kernel
theorem dX7_move_3 : decode cX7_move 3 = .ok (.iload_n 3, 1) := by decide +kernel
theorem dX7_move_4 : decode cX7_move 4 = .ok (.invokevirtual 230, 3) := by decide +kernel
theorem dX7_move_7 : decode cX7_move 7 = .ok (.istore 4, 2) := by decide +kernel
theorem dX7_move_9 : decode cX7_move 9 = .ok (.iload 4, 2) := by decide +kernel
theorem dX7_move_11 : decode cX7_move 11 = .ok (.iconst 1, 1) := by decide +kernel
theorem dX7_move_12 : decode cX7_move 12 = .ok (.if_icmp .ne 7, 3) := by decide +kernel
theorem dX7_move_15 : decode cX7_move 15 = .ok (.aload_n 0, 1) := by decide +kernel
theorem dX7_move_16 : decode cX7_move 16 = .ok (.invokevirtual 103, 3) := by decide +kernel
theorem dX7_move_19 : decode cX7_move 19 = .ok (.iload 4, 2) := by decide +kernel
theorem dX7_move_21 : decode cX7_move 21 = .ok (.ireturn, 1) := by decide +kernel
theorem wX7_move_19 (C : CxC p rmX7_move s m args meth c D ac q xa xv RX7 cX7_move 5) (hr : meth.sig.returnType = (some .int)) {v4 : Int} {σ : Mm} {r : Int × Mm} (hl : lv_has ls 5 [(0, .ref (q 0)), (4, .int (i32 v4))]) (h : fX7_move_19 v4 σ = some r) : VC p l e rmX7_move s m args below meth c D ac q (QIC D ac q xa xv below args s r) σ (F0 m 19 ls []) := by
  have h : some (v4, σ) = some r := h
  refine v_iload C hl dX7_move_19 1 rfl ?_
  exact v_iret C hr h dX7_move_21
theorem mX7_move (hq : QI 175 q) {v1 : Int} {v2 : Int} {v3 : Int} {σ : Mm} {r : Int × Mm} (h : fX7_move v1 v2 v3 σ = some r) : MIC l D ac q xa xv yX7_move cX7_move 5 (some .int) rmX7_move [.ref (q 0), .int (i32 v1), .int (i32 v2), .int (i32 v3)] σ r := by
  refine MI.of hq XC_M (by decide) (Nat.le_of_ble_eq_true rfl) (fun p e s m below meth c ls C hr hl => ?_)
  have hl : lv_has ls 5 [(0, .ref (q 0)), (1, .int (i32 v1)), (2, .int (i32 v2)), (3, .int (i32 v3))] := hl
  have h : bd2 (fX7_shift v1 v2 v3 σ) (fun x_1 σ_1 => bindv x_1 (fun v4_2 => cr v4_2 ((if v4_2 = 1 then bd (fX7_refresh σ_1) (fun σ_4 => fX7_move_19 v4_2 σ_4) else fX7_move_19 v4_2 σ_1)))) = some r := h
  refine v_aload_n C hl dX7_move_0 rfl 0 rfl ?_
  refine v_iload_n C hl dX7_move_1 rfl 1 rfl ?_
  refine v_iload_n C hl dX7_move_2 rfl 2 rfl ?_
  refine v_iload_n C hl dX7_move_3 rfl 3 rfl ?_
  obtain ⟨x_1, σ_1, hv1, h⟩ := bd2_e h
  refine v_callVI C 0 (klC kdC_0) rfl (ckC1 kdC_0 _) rfl [.int (i32 v1), .int (i32 v2), .int (i32 v3)] (mX7_shift C.2.2.2.2.1 hv1) cd_X7_shift ic_X7 im_X7_shift se_X7_shift ml_X7_230 yk_X7_shift ⟨rfl, rfl, by decide, by decide⟩ rfl hl.1 (rest := []) rfl (Nat.le_of_ble_eq_true rfl) dX7_move_4 ?_
  refine v_istore C hl (fun x => [(4, .int (i32 x)), (0, .ref (q 0)), (1, .int (i32 v1)), (2, .int (i32 v2)), (3, .int (i32 v3))]) dX7_move_7 (by decide) (fun _ => rfl) h (fun v4_2 ls hl h => ?_)
  refine v_iload C hl dX7_move_9 0 rfl ?_
  refine v_iconst C dX7_move_11 ?_
  have hz3 := (cr_e h).1
  have h := (cr_e h).2
  refine v_icmp_ne C (tgt := 19) hz3 (by decide) h dX7_move_12 rfl (fun h => ?_) (fun h => ?_)
  · exact wX7_move_19 C hr (lv_sub hl [1, 0] rfl) h
  · refine v_aload_n C hl dX7_move_15 rfl 1 rfl ?_
    obtain ⟨σ_4, hv4, h⟩ := bd_e h
    refine v_callVV C 0 (klC kdC_0) rfl (ckC1 kdC_0 _) rfl [] (mX7_refresh C.2.2.2.2.1 hv4) cd_X7_refresh ic_X7 im_X7_refresh se_X7_refresh ml_X7_103 yk_X7_refresh ⟨rfl, rfl, by decide, by decide⟩ rfl hl.1 (rest := []) rfl (Nat.le_of_ble_eq_true rfl) dX7_move_16 ?_
    exact wX7_move_19 C hr (lv_sub hl [1, 0] rfl) h
end
section
variable {l : Launch} {D : va_G} {ac : Nat → ClassId} {q xa xv : Nat → Nat} {p : Program} {e : Env} {s : State} {m : MethodId} {args : Array Value} {below : List Frame} {meth : Method} {c : Code} {ls : Array Slot}
theorem dX7_pin_0 : decode cX7_pin 0 = .ok (.iload_n 1, 1) := by decide +kernel
theorem dX7_pin_1 : decode cX7_pin 1 = .ok (.aload_n 0, 1) := by decide +kernel
theorem dX7_pin_2 : decode cX7_pin 2 = .ok (.getfield 19, 3) := by decide +kernel
theorem dX7_pin_5 : decode cX7_pin 5 = .ok (.getfield 109, 3) := by decide +kernel
theorem dX7_pin_8 : decode cX7_pin 8 = .ok (.invokestatic 69, 3) := by decide +kernel
theorem dX7_pin_11 : decode cX7_pin 11 = .ok (.ifCond .eq 11, 3) := by decide +kernel
theorem dX7_pin_14 : decode cX7_pin 14 = .ok (.iload_n 2, 1) := by decide +kernel
theorem dX7_pin_15 : decode cX7_pin 15 = .ok (.iconst 2, 1) := by decide +kernel
theorem dX7_pin_16 : decode cX7_pin 16 = .ok (.invokestatic 69, 3) := by decide +kernel
theorem dX7_pin_19 : decode cX7_pin 19 = .ok (.ifCond .ne 5, 3) := by decide +kernel
theorem dX7_pin_22 : decode cX7_pin 22 = .ok (.iconst (-1), 1) := by decide +kernel
theorem dX7_pin_23 : decode cX7_pin 23 = .ok (.ireturn, 1) := by decide +kernel
theorem dX7_pin_24 : decode cX7_pin 24 = .ok (.aload_n 0, 1) := by decide +kernel
theorem dX7_pin_25 : decode cX7_pin 25 = .ok (.getfield 19, 3) := by decide +kernel
theorem dX7_pin_28 : decode cX7_pin 28 = .ok (.getfield 157, 3) := by decide +kernel
theorem dX7_pin_31 : decode cX7_pin 31 = .ok (.iload_n 1, 1) := by decide +kernel
theorem dX7_pin_32 : decode cX7_pin 32 = .ok (.baload, 1) := by decide +kernel
theorem dX7_pin_33 : decode cX7_pin 33 = .ok (.ifCond .eq 7, 3) := by decide +kernel
theorem dX7_pin_36 : decode cX7_pin 36 = .ok (.iconst 1, 1) := by decide +kernel
theorem dX7_pin_37 : decode cX7_pin 37 = .ok (.goto 4, 3) := by decide +kernel
theorem dX7_pin_40 : decode cX7_pin 40 = .ok (.iconst 0, 1) := by decide +kernel
theorem dX7_pin_41 : decode cX7_pin 41 = .ok (.istore_n 3, 1) := by decide +kernel
theorem dX7_pin_42 : decode cX7_pin 42 = .ok (.aload_n 0, 1) := by decide +kernel
theorem dX7_pin_43 : decode cX7_pin 43 = .ok (.getfield 19, 3) := by decide +kernel
theorem dX7_pin_46 : decode cX7_pin 46 = .ok (.getfield 157, 3) := by decide +kernel
theorem dX7_pin_49 : decode cX7_pin 49 = .ok (.iload_n 1, 1) := by decide +kernel
theorem dX7_pin_50 : decode cX7_pin 50 = .ok (.iload_n 2, 1) := by decide +kernel
theorem dX7_pin_51 : decode cX7_pin 51 = .ok (.iconst 1, 1) := by decide +kernel
theorem dX7_pin_52 : decode cX7_pin 52 = .ok (.if_icmp .ne 7, 3) := by decide +kernel
theorem dX7_pin_55 : decode cX7_pin 55 = .ok (.iconst 1, 1) := by decide +kernel
theorem dX7_pin_56 : decode cX7_pin 56 = .ok (.goto 4, 3) := by decide +kernel
theorem dX7_pin_59 : decode cX7_pin 59 = .ok (.iconst 0, 1) := by decide +kernel
theorem dX7_pin_60 : decode cX7_pin 60 = .ok (.bastore, 1) := by decide +kernel
theorem dX7_pin_61 : decode cX7_pin 61 = .ok (.aload_n 0, 1) := by decide +kernel
theorem dX7_pin_62 : decode cX7_pin 62 = .ok (.invokevirtual 103, 3) := by decide +kernel
theorem dX7_pin_65 : decode cX7_pin 65 = .ok (.iload_n 3, 1) := by decide +kernel
theorem dX7_pin_66 : decode cX7_pin 66 = .ok (.ireturn, 1) := by decide +kernel
theorem wX7_pin_60 (C : CxC p rmX7_pin s m args meth c D ac q xa xv RX7 cX7_pin 4) (hr : meth.sig.returnType = (some .int)) {v3 : Int} {t1 : Int} {t2 : Int} {σ : Mm} {r : Int × Mm} (hl : lv_has ls 4 [(0, .ref (q 0)), (3, .int (i32 v3))]) (h : fX7_pin_60 v3 t1 t2 σ = some r) : VC p l e rmX7_pin s m args below meth c D ac q (QIC D ac q xa xv below args s r) σ (F0 m 60 ls [.int (i32 t2), .int (i32 t1), .ref (q 98)]) := by
  have h : chb t2 (chk t1 24 (bindv (sto σ 98 (t1).toNat t2) (fun σ_1 => bd (fX7_refresh σ_1) (fun σ_2 => some (v3, σ_2))))) = some r := h
  refine asC15 C kdC_98 h dX7_pin_60 (fun σ_1 h => ?_)
  refine v_aload_n C hl dX7_pin_61 rfl 0 rfl ?_
  obtain ⟨σ_2, hv2, h⟩ := bd_e h
  refine v_callVV C 0 (klC kdC_0) rfl (ckC1 kdC_0 _) rfl [] (mX7_refresh C.2.2.2.2.1 hv2) cd_X7_refresh ic_X7 im_X7_refresh se_X7_refresh ml_X7_103 yk_X7_refresh ⟨rfl, rfl, by decide, by decide⟩ rfl hl.1 (rest := []) rfl (Nat.le_of_ble_eq_true rfl) dX7_pin_62 ?_
  refine v_iload_n C hl dX7_pin_65 rfl 1 rfl ?_
  exact v_iret C hr h dX7_pin_66
theorem wX7_pin_41 (C : CxC p rmX7_pin s m args meth c D ac q xa xv RX7 cX7_pin 4) (hr : meth.sig.returnType = (some .int)) {v1 : Int} {v2 : Int} {t0 : Int} {σ : Mm} {r : Int × Mm} (hl : lv_has ls 4 [(0, .ref (q 0)), (1, .int (i32 v1)), (2, .int (i32 v2))]) (h : fX7_pin_41 v1 v2 t0 σ = some r) : VC p l e rmX7_pin s m args below meth c D ac q (QIC D ac q xa xv below args s r) σ (F0 m 41 ls [.int (i32 t0)]) := by
  have h : bindv t0 (fun v3_1 => cr v2 ((if v2 = 1 then fX7_pin_60 v3_1 v1 1 σ else fX7_pin_60 v3_1 v1 0 σ))) = some r := h
  refine v_istore_n C hl (fun x => [(3, .int (i32 x)), (0, .ref (q 0)), (1, .int (i32 v1)), (2, .int (i32 v2))]) dX7_pin_41 rfl (by decide) (fun _ => rfl) h (fun v3_1 ls hl h => ?_)
  refine v_aload_n C hl dX7_pin_42 rfl 1 rfl ?_
  refine g_X7_1 C kdC_0 fl_X7_19 dX7_pin_43 ?_
  refine g_X1_2 C kdC_95 fl_X7_157 dX7_pin_46 ?_
  refine v_iload_n C hl dX7_pin_49 rfl 2 rfl ?_
  refine v_iload_n C hl dX7_pin_50 rfl 3 rfl ?_
  refine v_iconst C dX7_pin_51 ?_
  have hz2 := (cr_e h).1
  have h := (cr_e h).2
  refine v_icmp_ne C (tgt := 59) hz2 (by decide) h dX7_pin_52 rfl (fun h => ?_) (fun h => ?_)
  · refine v_iconst C dX7_pin_59 ?_
    exact wX7_pin_60 C hr (lv_sub hl [1, 0] rfl) h
  · refine v_iconst C dX7_pin_55 ?_
    refine v_goto C (tgt := 60) dX7_pin_56 rfl ?_
    exact wX7_pin_60 C hr (lv_sub hl [1, 0] rfl) h
theorem wX7_pin_22 (C : CxC p rmX7_pin s m args meth c D ac q xa xv RX7 cX7_pin 4) (hr : meth.sig.returnType = (some .int)) {σ : Mm} {r : Int × Mm} (hl : lv_has ls 4 [(0, .ref (q 0))]) (h : fX7_pin_22 σ = some r) : VC p l e rmX7_pin s m args below meth c D ac q (QIC D ac q xa xv below args s r) σ (F0 m 22 ls []) := by
  have h : some ((-1), σ) = some r := h
  refine v_iconst C dX7_pin_22 ?_
  exact v_iret C hr h dX7_pin_23
theorem mX7_pin (hq : QI 175 q) {v1 : Int} {v2 : Int} {σ : Mm} {r : Int × Mm} (h : fX7_pin v1 v2 σ = some r) : MIC l D ac q xa xv yX7_pin cX7_pin 4 (some .int) rmX7_pin [.ref (q 0), .int (i32 v1), .int (i32 v2)] σ r := by
  refine MI.of hq XC_M (by decide) (Nat.le_of_ble_eq_true rfl) (fun p e s m below meth c ls C hr hl => ?_)
  have hl : lv_has ls 4 [(0, .ref (q 0)), (1, .int (i32 v1)), (2, .int (i32 v2))] := hl
  have h : bd (fX7_isBelow v1 (σ 95 9) σ) (fun x_1 => cr x_1 ((if x_1 = 0 then fX7_pin_22 σ else bd (fX7_isBelow v2 2 σ) (fun x_3 => cr x_3 ((if x_3 = 0 then fX7_pin_22 σ else chk v1 24 (cr (σ 98 (v1).toNat) ((if σ 98 (v1).toNat = 0 then fX7_pin_41 v1 v2 0 σ else fX7_pin_41 v1 v2 1 σ))))))))) = some r := h
  refine v_iload_n C hl dX7_pin_0 rfl 1 rfl ?_
  refine v_aload_n C hl dX7_pin_1 rfl 0 rfl ?_
  refine g_X7_1 C kdC_0 fl_X7_19 dX7_pin_2 ?_
  refine g_X1_9 C kdC_95 fl_X7_109 dX7_pin_5 ?_
  obtain ⟨x_1, hv1, h⟩ := bd_e h
  refine v_callSI C [.int (i32 v1), .int (i32 (σ 95 9))] (mX7_isBelow C.2.2.2.2.1 hv1) cd_X7_isBelow ic_X7 sm_X7_isBelow ml_X7_69 yk_X7_isBelow ⟨rfl, rfl, by decide, by decide⟩ rfl hl.1 (rest := []) rfl (Nat.le_of_ble_eq_true rfl) dX7_pin_8 ?_
  have hz2 := (cr_e h).1
  have h := (cr_e h).2
  refine v_if_eq C (tgt := 22) hz2 h dX7_pin_11 rfl (fun h => ?_) (fun h => ?_)
  · exact wX7_pin_22 C hr (lv_sub hl [0] rfl) h
  · refine v_iload_n C hl dX7_pin_14 rfl 2 rfl ?_
    refine v_iconst C dX7_pin_15 ?_
    obtain ⟨x_3, hv3, h⟩ := bd_e h
    refine v_callSI C [.int (i32 v2), .int (i32 2)] (mX7_isBelow C.2.2.2.2.1 hv3) cd_X7_isBelow ic_X7 sm_X7_isBelow ml_X7_69 yk_X7_isBelow ⟨rfl, rfl, by decide, by decide⟩ rfl hl.1 (rest := []) rfl (Nat.le_of_ble_eq_true rfl) dX7_pin_16 ?_
    have hz4 := (cr_e h).1
    have h := (cr_e h).2
    refine v_if_ne C (tgt := 24) hz4 h dX7_pin_19 rfl (fun h => ?_) (fun h => ?_)
    · refine v_aload_n C hl dX7_pin_24 rfl 0 rfl ?_
      refine g_X7_1 C kdC_0 fl_X7_19 dX7_pin_25 ?_
      refine g_X1_2 C kdC_95 fl_X7_157 dX7_pin_28 ?_
      refine v_iload_n C hl dX7_pin_31 rfl 1 rfl ?_
      refine alC15 C kdC_98 h dX7_pin_32 (fun h => ?_)
      have hz5 := (cr_e h).1
      have h := (cr_e h).2
      refine v_if_eq C (tgt := 40) hz5 h dX7_pin_33 rfl (fun h => ?_) (fun h => ?_)
      · refine v_iconst C dX7_pin_40 ?_
        exact wX7_pin_41 C hr (lv_sub hl [0, 1, 2] rfl) h
      · refine v_iconst C dX7_pin_36 ?_
        refine v_goto C (tgt := 41) dX7_pin_37 rfl ?_
        exact wX7_pin_41 C hr (lv_sub hl [0, 1, 2] rfl) h
    · exact wX7_pin_22 C hr (lv_sub hl [0] rfl) h
end
section
variable {l : Launch} {D : va_G} {ac : Nat → ClassId} {q xa xv : Nat → Nat} {p : Program} {e : Env} {s : State} {m : MethodId} {args : Array Value} {below : List Frame} {meth : Method} {c : Code} {ls : Array Slot}
theorem dX7_point_0 : decode cX7_point 0 = .ok (.iload_n 1, 1) := by decide +kernel
theorem dX7_point_1 : decode cX7_point 1 = .ok (.aload_n 0, 1) := by decide +kernel
theorem dX7_point_2 : decode cX7_point 2 = .ok (.getfield 19, 3) := by decide +kernel
theorem dX7_point_5 : decode cX7_point 5 = .ok (.getfield 109, 3) := by decide +kernel
theorem dX7_point_8 : decode cX7_point 8 = .ok (.invokestatic 69, 3) := by decide +kernel
theorem dX7_point_11 : decode cX7_point 11 = .ok (.ifCond .ne 5, 3) := by decide +kernel
theorem dX7_point_14 : decode cX7_point 14 = .ok (.iconst (-1), 1) := by decide +kernel
theorem dX7_point_15 : decode cX7_point 15 = .ok (.ireturn, 1) := by decide +kernel
theorem dX7_point_16 : decode cX7_point 16 = .ok (.iload_n 2, 1) := by decide +kernel
theorem dX7_point_17 : decode cX7_point 17 = .ok (.tableswitch 200 0 7 #[47, 57, 67, 77, 94, 120, 147, 182], 47) := by decide +kernel
theorem dX7_point_64 : decode cX7_point 64 = .ok (.aload_n 0, 1) := by decide +kernel
theorem dX7_point_65 : decode cX7_point 65 = .ok (.getfield 19, 3) := by decide +kernel
theorem dX7_point_68 : decode cX7_point 68 = .ok (.getfield 134, 3) := by decide +kernel
theorem dX7_point_71 : decode cX7_point 71 = .ok (.iload_n 1, 1) := by decide +kernel
theorem dX7_point_72 : decode cX7_point 72 = .ok (.iaload, 1) := by decide +kernel
theorem dX7_point_73 : decode cX7_point 73 = .ok (.ireturn, 1) := by decide +kernel
theorem dX7_point_74 : decode cX7_point 74 = .ok (.aload_n 0, 1) := by decide +kernel
theorem dX7_point_75 : decode cX7_point 75 = .ok (.getfield 19, 3) := by decide +kernel
theorem dX7_point_78 : decode cX7_point 78 = .ok (.getfield 138, 3) := by decide +kernel
theorem dX7_point_81 : decode cX7_point 81 = .ok (.iload_n 1, 1) := by decide +kernel
theorem dX7_point_82 : decode cX7_point 82 = .ok (.iaload, 1) := by decide +kernel
theorem dX7_point_83 : decode cX7_point 83 = .ok (.ireturn, 1) := by decide +kernel
theorem dX7_point_84 : decode cX7_point 84 = .ok (.aload_n 0, 1) := by decide +kernel
theorem dX7_point_85 : decode cX7_point 85 = .ok (.getfield 19, 3) := by decide +kernel
theorem dX7_point_88 : decode cX7_point 88 = .ok (.getfield 141, 3) := by decide +kernel
theorem dX7_point_91 : decode cX7_point 91 = .ok (.iload_n 1, 1) := by decide +kernel
theorem dX7_point_92 : decode cX7_point 92 = .ok (.iaload, 1) := by decide +kernel
theorem dX7_point_93 : decode cX7_point 93 = .ok (.ireturn, 1) := by decide +kernel
theorem dX7_point_94 : decode cX7_point 94 = .ok (.aload_n 0, 1) := by decide +kernel
theorem dX7_point_95 : decode cX7_point 95 = .ok (.getfield 19, 3) := by decide +kernel
theorem dX7_point_98 : decode cX7_point 98 = .ok (.iload_n 1, 1) := by decide +kernel
theorem dX7_point_99 : decode cX7_point 99 = .ok (.invokevirtual 144, 3) := by decide +kernel
theorem dX7_point_102 : decode cX7_point 102 = .ok (.ifCond .eq 7, 3) := by decide +kernel
theorem dX7_point_105 : decode cX7_point 105 = .ok (.iconst 1, 1) := by decide +kernel
theorem dX7_point_106 : decode cX7_point 106 = .ok (.goto 4, 3) := by decide +kernel
theorem dX7_point_109 : decode cX7_point 109 = .ok (.iconst 0, 1) := by decide +kernel
theorem dX7_point_110 : decode cX7_point 110 = .ok (.ireturn, 1) := by decide +kernel
theorem dX7_point_111 : decode cX7_point 111 = .ok (.aload_n 0, 1) := by decide +kernel
theorem dX7_point_112 : decode cX7_point 112 = .ok (.getfield 19, 3) := by decide +kernel
theorem dX7_point_115 : decode cX7_point 115 = .ok (.iload_n 1, 1) := by decide +kernel
theorem dX7_point_116 : decode cX7_point 116 = .ok (.invokevirtual 144, 3) := by decide +kernel
theorem dX7_point_119 : decode cX7_point 119 = .ok (.ifCond .eq 8, 3) := by decide +kernel
theorem dX7_point_122 : decode cX7_point 122 = .ok (.bipush (-4), 2) := by decide +kernel
theorem dX7_point_124 : decode cX7_point 124 = .ok (.goto 12, 3) := by decide +kernel
theorem dX7_point_127 : decode cX7_point 127 = .ok (.aload_n 0, 1) := by decide +kernel
theorem dX7_point_128 : decode cX7_point 128 = .ok (.getfield 43, 3) := by decide +kernel
theorem dX7_point_131 : decode cX7_point 131 = .ok (.getfield 148, 3) := by decide +kernel
theorem dX7_point_134 : decode cX7_point 134 = .ok (.iload_n 1, 1) := by decide +kernel
theorem dX7_point_135 : decode cX7_point 135 = .ok (.iaload, 1) := by decide +kernel
theorem dX7_point_136 : decode cX7_point 136 = .ok (.ireturn, 1) := by decide +kernel
theorem dX7_point_137 : decode cX7_point 137 = .ok (.aload_n 0, 1) := by decide +kernel
theorem dX7_point_138 : decode cX7_point 138 = .ok (.getfield 50, 3) := by decide +kernel
theorem dX7_point_141 : decode cX7_point 141 = .ok (.getfield 151, 3) := by decide +kernel
theorem dX7_point_144 : decode cX7_point 144 = .ok (.iload_n 1, 1) := by decide +kernel
theorem dX7_point_145 : decode cX7_point 145 = .ok (.iaload, 1) := by decide +kernel
theorem dX7_point_146 : decode cX7_point 146 = .ok (.ifCond .le 15, 3) := by decide +kernel
theorem dX7_point_149 : decode cX7_point 149 = .ok (.aload_n 0, 1) := by decide +kernel
theorem dX7_point_150 : decode cX7_point 150 = .ok (.getfield 50, 3) := by decide +kernel
theorem dX7_point_153 : decode cX7_point 153 = .ok (.getfield 151, 3) := by decide +kernel
theorem dX7_point_156 : decode cX7_point 156 = .ok (.iload_n 1, 1) := by decide +kernel
theorem dX7_point_157 : decode cX7_point 157 = .ok (.iaload, 1) := by decide +kernel
theorem dX7_point_158 : decode cX7_point 158 = .ok (.goto 5, 3) := by decide +kernel
theorem dX7_point_161 : decode cX7_point 161 = .ok (.bipush (-4), 2) := by decide +kernel
theorem dX7_point_163 : decode cX7_point 163 = .ok (.ireturn, 1) := by decide +kernel
theorem dX7_point_164 : decode cX7_point 164 = .ok (.aload_n 0, 1) := by decide +kernel
theorem dX7_point_165 : decode cX7_point 165 = .ok (.getfield 50, 3) := by decide +kernel
theorem dX7_point_168 : decode cX7_point 168 = .ok (.getfield 151, 3) := by decide +kernel
theorem dX7_point_171 : decode cX7_point 171 = .ok (.iload_n 1, 1) := by decide +kernel
theorem dX7_point_172 : decode cX7_point 172 = .ok (.iaload, 1) := by decide +kernel
theorem dX7_point_173 : decode cX7_point 173 = .ok (.ifCond .le 23, 3) := by decide +kernel
theorem dX7_point_176 : decode cX7_point 176 = .ok (.aload_n 0, 1) := by decide +kernel
theorem dX7_point_177 : decode cX7_point 177 = .ok (.getfield 50, 3) := by decide +kernel
theorem dX7_point_180 : decode cX7_point 180 = .ok (.getfield 154, 3) := by decide +kernel
theorem dX7_point_183 : decode cX7_point 183 = .ok (.aload_n 0, 1) := by decide +kernel
theorem dX7_point_184 : decode cX7_point 184 = .ok (.getfield 50, 3) := by decide +kernel
theorem dX7_point_187 : decode cX7_point 187 = .ok (.getfield 151, 3) := by decide +kernel
theorem dX7_point_190 : decode cX7_point 190 = .ok (.iload_n 1, 1) := by decide +kernel
theorem dX7_point_191 : decode cX7_point 191 = .ok (.iaload, 1) := by decide +kernel
theorem dX7_point_192 : decode cX7_point 192 = .ok (.iaload, 1) := by decide +kernel
theorem dX7_point_193 : decode cX7_point 193 = .ok (.goto 5, 3) := by decide +kernel
theorem dX7_point_196 : decode cX7_point 196 = .ok (.bipush (-4), 2) := by decide +kernel
theorem dX7_point_198 : decode cX7_point 198 = .ok (.ireturn, 1) := by decide +kernel
theorem dX7_point_199 : decode cX7_point 199 = .ok (.aload_n 0, 1) := by decide +kernel
theorem dX7_point_200 : decode cX7_point 200 = .ok (.getfield 19, 3) := by decide +kernel
theorem dX7_point_203 : decode cX7_point 203 = .ok (.getfield 157, 3) := by decide +kernel
theorem dX7_point_206 : decode cX7_point 206 = .ok (.iload_n 1, 1) := by decide +kernel
theorem dX7_point_207 : decode cX7_point 207 = .ok (.baload, 1) := by decide +kernel
theorem dX7_point_208 : decode cX7_point 208 = .ok (.ifCond .eq 7, 3) := by decide +kernel
theorem dX7_point_211 : decode cX7_point 211 = .ok (.iconst 1, 1) := by decide +kernel
theorem dX7_point_212 : decode cX7_point 212 = .ok (.goto 4, 3) := by decide +kernel
theorem dX7_point_215 : decode cX7_point 215 = .ok (.iconst 0, 1) := by decide +kernel
theorem dX7_point_216 : decode cX7_point 216 = .ok (.ireturn, 1) := by decide +kernel
theorem dX7_point_217 : decode cX7_point 217 = .ok (.iconst (-1), 1) := by decide +kernel
theorem dX7_point_218 : decode cX7_point 218 = .ok (.ireturn, 1) := by decide +kernel
theorem wX7_point_216 (C : CxC p rmX7_point s m args meth c D ac q xa xv RX7 cX7_point 3) (hr : meth.sig.returnType = (some .int)) {t0 : Int} {σ : Mm} {r : Int} (hl : lv_has ls 3 [(0, .ref (q 0))]) (h : fX7_point_216 t0 σ = some r) : VC p l e rmX7_point s m args below meth c D ac q (QIC D ac q xa xv below args s (r, σ)) σ (F0 m 216 ls [.int (i32 t0)]) := by
  have h : some t0 = some r := h
  exact v_iret C hr (so1 h) dX7_point_216
theorem wX7_point_198 (C : CxC p rmX7_point s m args meth c D ac q xa xv RX7 cX7_point 3) (hr : meth.sig.returnType = (some .int)) {t0 : Int} {σ : Mm} {r : Int} (hl : lv_has ls 3 [(0, .ref (q 0))]) (h : fX7_point_198 t0 σ = some r) : VC p l e rmX7_point s m args below meth c D ac q (QIC D ac q xa xv below args s (r, σ)) σ (F0 m 198 ls [.int (i32 t0)]) := by
  have h : some t0 = some r := h
  exact v_iret C hr (so1 h) dX7_point_198
theorem wX7_point_163 (C : CxC p rmX7_point s m args meth c D ac q xa xv RX7 cX7_point 3) (hr : meth.sig.returnType = (some .int)) {t0 : Int} {σ : Mm} {r : Int} (hl : lv_has ls 3 [(0, .ref (q 0))]) (h : fX7_point_163 t0 σ = some r) : VC p l e rmX7_point s m args below meth c D ac q (QIC D ac q xa xv below args s (r, σ)) σ (F0 m 163 ls [.int (i32 t0)]) := by
  have h : some t0 = some r := h
  exact v_iret C hr (so1 h) dX7_point_163
theorem wX7_point_136 (C : CxC p rmX7_point s m args meth c D ac q xa xv RX7 cX7_point 3) (hr : meth.sig.returnType = (some .int)) {t0 : Int} {σ : Mm} {r : Int} (hl : lv_has ls 3 [(0, .ref (q 0))]) (h : fX7_point_136 t0 σ = some r) : VC p l e rmX7_point s m args below meth c D ac q (QIC D ac q xa xv below args s (r, σ)) σ (F0 m 136 ls [.int (i32 t0)]) := by
  have h : some t0 = some r := h
  exact v_iret C hr (so1 h) dX7_point_136
theorem wX7_point_110 (C : CxC p rmX7_point s m args meth c D ac q xa xv RX7 cX7_point 3) (hr : meth.sig.returnType = (some .int)) {t0 : Int} {σ : Mm} {r : Int} (hl : lv_has ls 3 [(0, .ref (q 0))]) (h : fX7_point_110 t0 σ = some r) : VC p l e rmX7_point s m args below meth c D ac q (QIC D ac q xa xv below args s (r, σ)) σ (F0 m 110 ls [.int (i32 t0)]) := by
  have h : some t0 = some r := h
  exact v_iret C hr (so1 h) dX7_point_110
theorem mX7_point (hq : QI 175 q) {v1 : Int} {v2 : Int} {σ : Mm} {r : Int} (h : fX7_point v1 v2 σ = some r) : MIC l D ac q xa xv yX7_point cX7_point 3 (some .int) rmX7_point [.ref (q 0), .int (i32 v1), .int (i32 v2)] σ (r, σ) := by
  refine MI.of hq XC_M (by decide) (Nat.le_of_ble_eq_true rfl) (fun p e s m below meth c ls C hr hl => ?_)
  have hl : lv_has ls 3 [(0, .ref (q 0)), (1, .int (i32 v1)), (2, .int (i32 v2))] := hl
  have h : bd (fX7_isBelow v1 (σ 95 9) σ) (fun x_1 => cr x_1 ((if x_1 = 0 then some (-1) else cr v2 ((if v2 = 0 then chk v1 24 (some (σ 96 (v1).toNat)) else (if v2 = 1 then chk v1 24 (some (σ 97 (v1).toNat)) else (if v2 = 2 then chk v1 24 (some (σ 104 (v1).toNat)) else (if v2 = 3 then bd (fX1_isNode 95 v1 σ) (fun x_8 => cr x_8 ((if x_8 = 0 then fX7_point_110 0 σ else fX7_point_110 1 σ))) else (if v2 = 4 then bd (fX1_isNode 95 v1 σ) (fun x_11 => cr x_11 ((if x_11 = 0 then chk v1 24 (fX7_point_136 (σ 7 (v1).toNat) σ) else fX7_point_136 (-4) σ))) else (if v2 = 5 then chk v1 24 (cr (σ 12 (v1).toNat) ((if 0 < σ 12 (v1).toNat then chk v1 24 (fX7_point_163 (σ 12 (v1).toNat) σ) else fX7_point_163 (-4) σ))) else (if v2 = 6 then chk v1 24 (cr (σ 12 (v1).toNat) ((if 0 < σ 12 (v1).toNat then chk v1 24 (chk (σ 12 (v1).toNat) 25 (fX7_point_198 (σ 11 (σ 12 (v1).toNat).toNat) σ)) else fX7_point_198 (-4) σ))) else (if v2 = 7 then chk v1 24 (cr (σ 98 (v1).toNat) ((if σ 98 (v1).toNat = 0 then fX7_point_216 0 σ else fX7_point_216 1 σ))) else some (-1))))))))))))) = some r := h
  refine v_iload_n C hl dX7_point_0 rfl 1 rfl ?_
  refine v_aload_n C hl dX7_point_1 rfl 0 rfl ?_
  refine g_X7_1 C kdC_0 fl_X7_19 dX7_point_2 ?_
  refine g_X1_9 C kdC_95 fl_X7_109 dX7_point_5 ?_
  obtain ⟨x_1, hv1, h⟩ := bd_e h
  refine v_callSI C [.int (i32 v1), .int (i32 (σ 95 9))] (mX7_isBelow C.2.2.2.2.1 hv1) cd_X7_isBelow ic_X7 sm_X7_isBelow ml_X7_69 yk_X7_isBelow ⟨rfl, rfl, by decide, by decide⟩ rfl hl.1 (rest := []) rfl (Nat.le_of_ble_eq_true rfl) dX7_point_8 ?_
  have hz2 := (cr_e h).1
  have h := (cr_e h).2
  refine v_if_ne C (tgt := 16) hz2 h dX7_point_11 rfl (fun h => ?_) (fun h => ?_)
  · refine v_iload_n C hl dX7_point_16 rfl 2 rfl ?_
    have hz3 := (cr_e h).1
    have h := (cr_e h).2
    rcases sw_e h with ⟨hc4, h⟩ | ⟨hc4, h⟩
    · refine v_tabIn C (tgt := 64) hz3 hc4 dX7_point_17 (by decide) (by decide) rfl rfl ?_
      refine v_aload_n C hl dX7_point_64 rfl 0 rfl ?_
      refine g_X7_1 C kdC_0 fl_X7_19 dX7_point_65 ?_
      refine g_X1_0 C kdC_95 fl_X7_134 dX7_point_68 ?_
      refine v_iload_n C hl dX7_point_71 rfl 1 rfl ?_
      refine alC8 C kdC_96 h dX7_point_72 (fun h => ?_)
      exact v_iret C hr (so1 h) dX7_point_73
    · skip
      rcases sw_e h with ⟨hc5, h⟩ | ⟨hc5, h⟩
      · refine v_tabIn C (tgt := 74) hz3 hc5 dX7_point_17 (by decide) (by decide) rfl rfl ?_
        refine v_aload_n C hl dX7_point_74 rfl 0 rfl ?_
        refine g_X7_1 C kdC_0 fl_X7_19 dX7_point_75 ?_
        refine g_X1_1 C kdC_95 fl_X7_138 dX7_point_78 ?_
        refine v_iload_n C hl dX7_point_81 rfl 1 rfl ?_
        refine alC8 C kdC_97 h dX7_point_82 (fun h => ?_)
        exact v_iret C hr (so1 h) dX7_point_83
      · skip
        rcases sw_e h with ⟨hc6, h⟩ | ⟨hc6, h⟩
        · refine v_tabIn C (tgt := 84) hz3 hc6 dX7_point_17 (by decide) (by decide) rfl rfl ?_
          refine v_aload_n C hl dX7_point_84 rfl 0 rfl ?_
          refine g_X7_1 C kdC_0 fl_X7_19 dX7_point_85 ?_
          refine g_X1_8 C kdC_95 fl_X7_141 dX7_point_88 ?_
          refine v_iload_n C hl dX7_point_91 rfl 1 rfl ?_
          refine alC8 C kdC_104 h dX7_point_92 (fun h => ?_)
          exact v_iret C hr (so1 h) dX7_point_93
        · skip
          rcases sw_e h with ⟨hc7, h⟩ | ⟨hc7, h⟩
          · refine v_tabIn C (tgt := 94) hz3 hc7 dX7_point_17 (by decide) (by decide) rfl rfl ?_
            refine v_aload_n C hl dX7_point_94 rfl 0 rfl ?_
            refine g_X7_1 C kdC_0 fl_X7_19 dX7_point_95 ?_
            refine v_iload_n C hl dX7_point_98 rfl 1 rfl ?_
            obtain ⟨x_8, hv8, h⟩ := bd_e h
            refine v_callVI C 95 (klC kdC_95) rfl (ckC23 kdC_95 _) rfl [.int (i32 v1)] (mX1_isNode C.2.2.2.2.1 kdC_95 hv8) cd_X1_isNode ic_X1 im_X1_isNode se_X1_isNode ml_X7_144 yk_X1_isNode ⟨rfl, rfl, by decide, by decide⟩ rfl hl.1 (rest := []) rfl (Nat.le_of_ble_eq_true rfl) dX7_point_99 ?_
            have hz9 := (cr_e h).1
            have h := (cr_e h).2
            refine v_if_eq C (tgt := 109) hz9 h dX7_point_102 rfl (fun h => ?_) (fun h => ?_)
            · refine v_iconst C dX7_point_109 ?_
              exact wX7_point_110 C hr (lv_sub hl [0] rfl) h
            · refine v_iconst C dX7_point_105 ?_
              refine v_goto C (tgt := 110) dX7_point_106 rfl ?_
              exact wX7_point_110 C hr (lv_sub hl [0] rfl) h
          · skip
            rcases sw_e h with ⟨hc10, h⟩ | ⟨hc10, h⟩
            · refine v_tabIn C (tgt := 111) hz3 hc10 dX7_point_17 (by decide) (by decide) rfl rfl ?_
              refine v_aload_n C hl dX7_point_111 rfl 0 rfl ?_
              refine g_X7_1 C kdC_0 fl_X7_19 dX7_point_112 ?_
              refine v_iload_n C hl dX7_point_115 rfl 1 rfl ?_
              obtain ⟨x_11, hv11, h⟩ := bd_e h
              refine v_callVI C 95 (klC kdC_95) rfl (ckC23 kdC_95 _) rfl [.int (i32 v1)] (mX1_isNode C.2.2.2.2.1 kdC_95 hv11) cd_X1_isNode ic_X1 im_X1_isNode se_X1_isNode ml_X7_144 yk_X1_isNode ⟨rfl, rfl, by decide, by decide⟩ rfl hl.1 (rest := []) rfl (Nat.le_of_ble_eq_true rfl) dX7_point_116 ?_
              have hz12 := (cr_e h).1
              have h := (cr_e h).2
              refine v_if_eq C (tgt := 127) hz12 h dX7_point_119 rfl (fun h => ?_) (fun h => ?_)
              · refine v_aload_n C hl dX7_point_127 rfl 0 rfl ?_
                refine g_X7_5 C kdC_0 fl_X7_43 dX7_point_128 ?_
                refine g_X0_3 C kdC_4 fl_X7_148 dX7_point_131 ?_
                refine v_iload_n C hl dX7_point_134 rfl 1 rfl ?_
                refine alC8 C kdC_7 h dX7_point_135 (fun h => ?_)
                exact wX7_point_136 C hr (lv_sub hl [0] rfl) h
              · refine v_bipush C dX7_point_122 rfl ?_
                refine v_goto C (tgt := 136) dX7_point_124 rfl ?_
                exact wX7_point_136 C hr (lv_sub hl [0] rfl) h
            · skip
              rcases sw_e h with ⟨hc13, h⟩ | ⟨hc13, h⟩
              · refine v_tabIn C (tgt := 137) hz3 hc13 dX7_point_17 (by decide) (by decide) rfl rfl ?_
                refine v_aload_n C hl dX7_point_137 rfl 0 rfl ?_
                refine g_X7_6 C kdC_0 fl_X7_50 dX7_point_138 ?_
                refine g_X5_3 C kdC_9 fl_X7_151 dX7_point_141 ?_
                refine v_iload_n C hl dX7_point_144 rfl 1 rfl ?_
                refine alC8 C kdC_12 h dX7_point_145 (fun h => ?_)
                have hz14 := (cr_e h).1
                have h := (cr_e h).2
                refine v_if_le C (tgt := 161) hz14 h dX7_point_146 rfl (fun h => ?_) (fun h => ?_)
                · refine v_bipush C dX7_point_161 rfl ?_
                  exact wX7_point_163 C hr (lv_sub hl [0] rfl) h
                · refine v_aload_n C hl dX7_point_149 rfl 0 rfl ?_
                  refine g_X7_6 C kdC_0 fl_X7_50 dX7_point_150 ?_
                  refine g_X5_3 C kdC_9 fl_X7_151 dX7_point_153 ?_
                  refine v_iload_n C hl dX7_point_156 rfl 1 rfl ?_
                  refine alC8 C kdC_12 h dX7_point_157 (fun h => ?_)
                  refine v_goto C (tgt := 163) dX7_point_158 rfl ?_
                  exact wX7_point_163 C hr (lv_sub hl [0] rfl) h
              · skip
                rcases sw_e h with ⟨hc15, h⟩ | ⟨hc15, h⟩
                · refine v_tabIn C (tgt := 164) hz3 hc15 dX7_point_17 (by decide) (by decide) rfl rfl ?_
                  refine v_aload_n C hl dX7_point_164 rfl 0 rfl ?_
                  refine g_X7_6 C kdC_0 fl_X7_50 dX7_point_165 ?_
                  refine g_X5_3 C kdC_9 fl_X7_151 dX7_point_168 ?_
                  refine v_iload_n C hl dX7_point_171 rfl 1 rfl ?_
                  refine alC8 C kdC_12 h dX7_point_172 (fun h => ?_)
                  have hz16 := (cr_e h).1
                  have h := (cr_e h).2
                  refine v_if_le C (tgt := 196) hz16 h dX7_point_173 rfl (fun h => ?_) (fun h => ?_)
                  · refine v_bipush C dX7_point_196 rfl ?_
                    exact wX7_point_198 C hr (lv_sub hl [0] rfl) h
                  · refine v_aload_n C hl dX7_point_176 rfl 0 rfl ?_
                    refine g_X7_6 C kdC_0 fl_X7_50 dX7_point_177 ?_
                    refine g_X5_2 C kdC_9 fl_X7_154 dX7_point_180 ?_
                    refine v_aload_n C hl dX7_point_183 rfl 0 rfl ?_
                    refine g_X7_6 C kdC_0 fl_X7_50 dX7_point_184 ?_
                    refine g_X5_3 C kdC_9 fl_X7_151 dX7_point_187 ?_
                    refine v_iload_n C hl dX7_point_190 rfl 1 rfl ?_
                    refine alC8 C kdC_12 h dX7_point_191 (fun h => ?_)
                    refine alC11 C kdC_11 h dX7_point_192 (fun h => ?_)
                    refine v_goto C (tgt := 198) dX7_point_193 rfl ?_
                    exact wX7_point_198 C hr (lv_sub hl [0] rfl) h
                · skip
                  rcases sw_e h with ⟨hc17, h⟩ | ⟨hc17, h⟩
                  · refine v_tabIn C (tgt := 199) hz3 hc17 dX7_point_17 (by decide) (by decide) rfl rfl ?_
                    refine v_aload_n C hl dX7_point_199 rfl 0 rfl ?_
                    refine g_X7_1 C kdC_0 fl_X7_19 dX7_point_200 ?_
                    refine g_X1_2 C kdC_95 fl_X7_157 dX7_point_203 ?_
                    refine v_iload_n C hl dX7_point_206 rfl 1 rfl ?_
                    refine alC15 C kdC_98 h dX7_point_207 (fun h => ?_)
                    have hz18 := (cr_e h).1
                    have h := (cr_e h).2
                    refine v_if_eq C (tgt := 215) hz18 h dX7_point_208 rfl (fun h => ?_) (fun h => ?_)
                    · refine v_iconst C dX7_point_215 ?_
                      exact wX7_point_216 C hr (lv_sub hl [0] rfl) h
                    · refine v_iconst C dX7_point_211 ?_
                      refine v_goto C (tgt := 216) dX7_point_212 rfl ?_
                      exact wX7_point_216 C hr (lv_sub hl [0] rfl) h
                  · skip
                    refine v_tabOut C (tgt := 217) hz3 dX7_point_17 (by omega) rfl ?_
                    refine v_iconst C dX7_point_217 ?_
                    exact v_iret C hr (so1 h) dX7_point_218
  · refine v_iconst C dX7_point_14 ?_
    exact v_iret C hr (so1 h) dX7_point_15
end
section
variable {l : Launch} {D : va_G} {ac : Nat → ClassId} {q xa xv : Nat → Nat} {p : Program} {e : Env} {s : State} {m : MethodId} {args : Array Value} {below : List Frame} {meth : Method} {c : Code} {ls : Array Slot}
theorem dX7_read_0 : decode cX7_read 0 = .ok (.iload_n 1, 1) := by decide +kernel
theorem dX7_read_1 : decode cX7_read 1 = .ok (.iconst 4, 1) := by decide +kernel
theorem dX7_read_2 : decode cX7_read 2 = .ok (.invokestatic 69, 3) := by decide +kernel
theorem dX7_read_5 : decode cX7_read 5 = .ok (.ifCond .eq 23, 3) := by decide +kernel
theorem dX7_read_8 : decode cX7_read 8 = .ok (.iload_n 2, 1) := by decide +kernel
theorem dX7_read_9 : decode cX7_read 9 = .ok (.iconst 3, 1) := by decide +kernel
theorem dX7_read_10 : decode cX7_read 10 = .ok (.invokestatic 69, 3) := by decide +kernel
theorem dX7_read_13 : decode cX7_read 13 = .ok (.ifCond .eq 15, 3) := by decide +kernel
theorem dX7_read_16 : decode cX7_read 16 = .ok (.iload 4, 2) := by decide +kernel
theorem dX7_read_18 : decode cX7_read 18 = .ok (.ifCond .lt 10, 3) := by decide +kernel
theorem dX7_read_21 : decode cX7_read 21 = .ok (.iload 4, 2) := by decide +kernel
theorem dX7_read_23 : decode cX7_read 23 = .ok (.bipush 13, 2) := by decide +kernel
theorem dX7_read_25 : decode cX7_read 25 = .ok (.if_icmp .le 5, 3) := by decide +kernel
theorem dX7_read_28 : decode cX7_read 28 = .ok (.iconst (-1), 1) := by decide +kernel
theorem dX7_read_29 : decode cX7_read 29 = .ok (.ireturn, 1) := by decide +kernel
theorem dX7_read_30 : decode cX7_read 30 = .ok (.aload_n 0, 1) := by decide +kernel
theorem dX7_read_31 : decode cX7_read 31 = .ok (.getfield 64, 3) := by decide +kernel
theorem dX7_read_34 : decode cX7_read 34 = .ok (.iload_n 1, 1) := by decide +kernel
theorem dX7_read_35 : decode cX7_read 35 = .ok (.aaload, 1) := by decide +kernel
theorem dX7_read_36 : decode cX7_read 36 = .ok (.astore 5, 2) := by decide +kernel
theorem dX7_read_38 : decode cX7_read 38 = .ok (.aload_n 0, 1) := by decide +kernel
theorem dX7_read_39 : decode cX7_read 39 = .ok (.getfield 26, 3) := by decide +kernel
theorem dX7_read_42 : decode cX7_read 42 = .ok (.aload_n 0, 1) := by decide +kernel
theorem dX7_read_43 : decode cX7_read 43 = .ok (.getfield 19, 3) := by decide +kernel
theorem dX7_read_46 : decode cX7_read 46 = .ok (.invokevirtual 97, 3) := by decide +kernel
theorem dX7_read_49 : decode cX7_read 49 = .ok (.iconst 0, 1) := by decide +kernel
theorem dX7_read_50 : decode cX7_read 50 = .ok (.istore 6, 2) := by decide +kernel
theorem dX7_read_52 : decode cX7_read 52 = .ok (.iconst 0, 1) := by decide +kernel
theorem dX7_read_53 : decode cX7_read 53 = .ok (.istore 7, 2) := by decide +kernel
theorem dX7_read_55 : decode cX7_read 55 = .ok (.iconst 0, 1) := by decide +kernel
theorem dX7_read_56 : decode cX7_read 56 = .ok (.istore 8, 2) := by decide +kernel
theorem dX7_read_58 : decode cX7_read 58 = .ok (.iload 8, 2) := by decide +kernel
theorem dX7_read_60 : decode cX7_read 60 = .ok (.iload 4, 2) := by decide +kernel
theorem dX7_read_62 : decode cX7_read 62 = .ok (.if_icmp .ge 100, 3) := by decide +kernel
theorem dX7_read_65 : decode cX7_read 65 = .ok (.iload_n 3, 1) := by decide +kernel
theorem dX7_read_66 : decode cX7_read 66 = .ok (.i2l, 1) := by decide +kernel
theorem dX7_read_67 : decode cX7_read 67 = .ok (.ldc2_w 246, 3) := by decide +kernel
theorem dX7_read_70 : decode cX7_read 70 = .ok (.iload 8, 2) := by decide +kernel
theorem dX7_read_72 : decode cX7_read 72 = .ok (.i2l, 1) := by decide +kernel
theorem dX7_read_73 : decode cX7_read 73 = .ok (.lmul, 1) := by decide +kernel
theorem dX7_read_74 : decode cX7_read 74 = .ok (.ladd, 1) := by decide +kernel
theorem dX7_read_75 : decode cX7_read 75 = .ok (.lstore 9, 2) := by decide +kernel
theorem dX7_read_77 : decode cX7_read 77 = .ok (.aload 5, 2) := by decide +kernel
theorem dX7_read_79 : decode cX7_read 79 = .ok (.iload_n 2, 1) := by decide +kernel
theorem dX7_read_80 : decode cX7_read 80 = .ok (.lload 9, 2) := by decide +kernel
theorem dX7_read_82 : decode cX7_read 82 = .ok (.invokevirtual 248, 3) := by decide +kernel
theorem dX7_read_85 : decode cX7_read 85 = .ok (.istore 6, 2) := by decide +kernel
theorem dX7_read_87 : decode cX7_read 87 = .ok (.iload 6, 2) := by decide +kernel
theorem dX7_read_89 : decode cX7_read 89 = .ok (.ifCond .eq 6, 3) := by decide +kernel
theorem dX7_read_92 : decode cX7_read 92 = .ok (.goto 70, 3) := by decide +kernel
theorem dX7_read_95 : decode cX7_read 95 = .ok (.lload 9, 2) := by decide +kernel
theorem dX7_read_97 : decode cX7_read 97 = .ok (.l2i, 1) := by decide +kernel
theorem dX7_read_98 : decode cX7_read 98 = .ok (.istore 11, 2) := by decide +kernel
theorem dX7_read_100 : decode cX7_read 100 = .ok (.aload_n 0, 1) := by decide +kernel
theorem dX7_read_101 : decode cX7_read 101 = .ok (.aload 5, 2) := by decide +kernel
theorem dX7_read_103 : decode cX7_read 103 = .ok (.getfield 252, 3) := by decide +kernel
theorem dX7_read_106 : decode cX7_read 106 = .ok (.iload 11, 2) := by decide +kernel
theorem dX7_read_108 : decode cX7_read 108 = .ok (.iaload, 1) := by decide +kernel
theorem dX7_read_109 : decode cX7_read 109 = .ok (.aload 5, 2) := by decide +kernel
theorem dX7_read_111 : decode cX7_read 111 = .ok (.getfield 252, 3) := by decide +kernel
theorem dX7_read_114 : decode cX7_read 114 = .ok (.iload 11, 2) := by decide +kernel
theorem dX7_read_116 : decode cX7_read 116 = .ok (.iconst 1, 1) := by decide +kernel
theorem dX7_read_117 : decode cX7_read 117 = .ok (.iadd, 1) := by decide +kernel
theorem dX7_read_118 : decode cX7_read 118 = .ok (.iaload, 1) := by decide +kernel
theorem dX7_read_119 : decode cX7_read 119 = .ok (.aload 5, 2) := by decide +kernel
theorem dX7_read_121 : decode cX7_read 121 = .ok (.getfield 252, 3) := by decide +kernel
theorem dX7_read_124 : decode cX7_read 124 = .ok (.iload 11, 2) := by decide +kernel
theorem dX7_read_126 : decode cX7_read 126 = .ok (.iconst 2, 1) := by decide +kernel
theorem dX7_read_127 : decode cX7_read 127 = .ok (.iadd, 1) := by decide +kernel
theorem dX7_read_128 : decode cX7_read 128 = .ok (.iaload, 1) := by decide +kernel
theorem dX7_read_129 : decode cX7_read 129 = .ok (.invokevirtual 230, 3) := by decide +kernel
theorem dX7_read_132 : decode cX7_read 132 = .ok (.iconst 1, 1) := by decide +kernel
theorem dX7_read_133 : decode cX7_read 133 = .ok (.if_icmp .eq 20, 3) := by decide +kernel
theorem dX7_read_136 : decode cX7_read 136 = .ok (.aload_n 0, 1) := by decide +kernel
theorem dX7_read_137 : decode cX7_read 137 = .ok (.getfield 19, 3) := by decide +kernel
theorem dX7_read_140 : decode cX7_read 140 = .ok (.aload_n 0, 1) := by decide +kernel
theorem dX7_read_141 : decode cX7_read 141 = .ok (.getfield 26, 3) := by decide +kernel
theorem dX7_read_144 : decode cX7_read 144 = .ok (.invokevirtual 97, 3) := by decide +kernel
theorem dX7_read_147 : decode cX7_read 147 = .ok (.bipush (-20), 2) := by decide +kernel
theorem dX7_read_149 : decode cX7_read 149 = .ok (.iload 8, 2) := by decide +kernel
theorem dX7_read_151 : decode cX7_read 151 = .ok (.isub, 1) := by decide +kernel
theorem dX7_read_152 : decode cX7_read 152 = .ok (.ireturn, 1) := by decide +kernel
theorem dX7_read_153 : decode cX7_read 153 = .ok (.iinc 7 1, 3) := by decide +kernel
theorem dX7_read_156 : decode cX7_read 156 = .ok (.iinc 8 1, 3) := by decide +kernel
theorem dX7_read_159 : decode cX7_read 159 = .ok (.goto (-101), 3) := by decide +kernel
theorem dX7_read_162 : decode cX7_read 162 = .ok (.aload_n 0, 1) := by decide +kernel
theorem dX7_read_163 : decode cX7_read 163 = .ok (.iload 6, 2) := by decide +kernel
theorem dX7_read_165 : decode cX7_read 165 = .ok (.putfield 255, 3) := by decide +kernel
theorem dX7_read_168 : decode cX7_read 168 = .ok (.aload_n 0, 1) := by decide +kernel
theorem dX7_read_169 : decode cX7_read 169 = .ok (.invokevirtual 103, 3) := by decide +kernel
theorem dX7_read_172 : decode cX7_read 172 = .ok (.iload 7, 2) := by decide +kernel
theorem dX7_read_174 : decode cX7_read 174 = .ok (.ireturn, 1) := by decide +kernel
theorem wX7_read_162 (C : CxC p rmX7_read s m args meth c D ac q xa xv RX7 cX7_read 12) (hr : meth.sig.returnType = (some .int)) {v6 : Int} {v7 : Int} {σ : Mm} {r : Int × Mm} (hl : lv_has ls 12 [(0, .ref (q 0)), (6, .int (i32 v6)), (7, .int (i32 v7))]) (h : fX7_read_162 v6 v7 σ = some r) : VC p l e rmX7_read s m args below meth c D ac q (QIC D ac q xa xv below args s r) σ (F0 m 162 ls []) := by
  have h : bindv (sto σ 0 11 v6) (fun σ_1 => bd (fX7_refresh σ_1) (fun σ_2 => some (v7, σ_2))) = some r := h
  refine v_aload_n C hl dX7_read_162 rfl 0 rfl ?_
  refine v_iload C hl dX7_read_163 1 rfl ?_
  refine s_X7_11 C kdC_0 fl_X7_255 h dX7_read_165 (fun σ_1 h => ?_)
  refine v_aload_n C hl dX7_read_168 rfl 0 rfl ?_
  obtain ⟨σ_2, hv2, h⟩ := bd_e h
  refine v_callVV C 0 (klC kdC_0) rfl (ckC1 kdC_0 _) rfl [] (mX7_refresh C.2.2.2.2.1 hv2) cd_X7_refresh ic_X7 im_X7_refresh se_X7_refresh ml_X7_103 yk_X7_refresh ⟨rfl, rfl, by decide, by decide⟩ rfl hl.1 (rest := []) rfl (Nat.le_of_ble_eq_true rfl) dX7_read_169 ?_
  refine v_iload C hl dX7_read_172 2 rfl ?_
  exact v_iret C hr h dX7_read_174
theorem wX7_read_58 (C : CxC p rmX7_read s m args meth c D ac q xa xv RX7 cX7_read 12) (hr : meth.sig.returnType = (some .int)) {v2 : Int} {v3 : Int} {v4 : Int} {w5 : Nat} {v6 : Int} {v7 : Int} {v8 : Int} {σ : Mm} (hw5 : kdC w5 = 20) {e58 : Int → Int → Mm → Option (Int × Mm)} {c58 : Int → Int → Int → Mm → Option (Int × Mm)} {r : Int × Mm} (he58 : ∀ (v6x : Int) (v7x : Int) (σ : Mm) (ls : Array Slot), lv_has ls 12 [(0, .ref (q 0)), (6, .int (i32 v6x)), (7, .int (i32 v7x))] → e58 v6x v7x σ = some r → VC p l e rmX7_read s m args below meth c D ac q (QIC D ac q xa xv below args s r) σ (F0 m 162 ls [])) (hc58 : ∀ (v6x : Int) (v7x : Int) (v8x : Int) (σ : Mm) (ls : Array Slot), lv_has ls 12 [(0, .ref (q 0)), (2, .int (i32 v2)), (3, .int (i32 v3)), (4, .int (i32 v4)), (5, .ref (q w5)), (6, .int (i32 v6x)), (7, .int (i32 v7x)), (8, .int (i32 v8x))] → c58 v6x v7x v8x σ = some r → VC p l e rmX7_read s m args below meth c D ac q (QIC D ac q xa xv below args s r) σ (F0 m 58 ls [])) (hl : lv_has ls 12 [(0, .ref (q 0)), (2, .int (i32 v2)), (3, .int (i32 v3)), (4, .int (i32 v4)), (5, .ref (q w5)), (6, .int (i32 v6)), (7, .int (i32 v7)), (8, .int (i32 v8))]) (h : fX7_read_58 v2 v3 v4 w5 e58 c58 v6 v7 v8 σ = some r) : VC p l e rmX7_read s m args below meth c D ac q (QIC D ac q xa xv below args s r) σ (F0 m 58 ls []) := by
  have h : cr v8 (cr v4 ((if v8 < v4 then cr v3 (cr v8 (bindv (v3 + (3 * v8)) (fun v9_3 => bd (fX4_faultOfThree w5 v2 v9_3 σ) (fun x_4 => bindv x_4 (fun v6_5 => cr v6_5 ((if v6_5 = 0 then bindv v9_3 (fun v11_7 => chk v11_7 40 (chk (v11_7 + 1) 40 (chk (v11_7 + 2) 40 (bd2 (fX7_shift (σ (w5 + 1) (v11_7).toNat) (σ (w5 + 1) (v11_7 + 1).toNat) (σ (w5 + 1) (v11_7 + 2).toNat) σ) (fun x_8 σ_8 => cr x_8 ((if x_8 = 1 then bindv (v7 + 1) (fun v7_10 => bindv (v8 + 1) (fun v8_11 => c58 v6_5 v7_10 v8_11 σ_8)) else bd (fX1_copyFrom 95 127 σ_8) (fun σ_12 => some ((-20) - v8, σ_12))))))))) else e58 v6_5 v7 σ))))))) else e58 v6 v7 σ))) = some r := h
  refine v_iload C hl dX7_read_58 7 rfl ?_
  refine v_iload C hl dX7_read_60 3 rfl ?_
  have hz1 := (cr_e h).1
  have h := (cr_e h).2
  have hz2 := (cr_e h).1
  have h := (cr_e h).2
  refine v_icmp_ge C (tgt := 162) hz1 hz2 h dX7_read_62 rfl (fun h => ?_) (fun h => ?_)
  · exact he58 _ _ _ _ (lv_sub hl [0, 5, 6] rfl) h
  · refine v_iload_n C hl dX7_read_65 rfl 2 rfl ?_
    refine v_i2l C h dX7_read_66 (fun h => ?_)
    refine v_ldc2 C (v := 3) kc_X7_246 rfl dX7_read_67 ?_
    refine v_iload C hl dX7_read_70 7 rfl ?_
    refine v_i2l C h dX7_read_72 (fun h => ?_)
    refine v_lmul C dX7_read_73 ?_
    refine v_ladd C dX7_read_74 ?_
    refine v_lstore C hl (fun x => [(9, .long (i64 x)), (0, .ref (q 0)), (2, .int (i32 v2)), (3, .int (i32 v3)), (4, .int (i32 v4)), (5, .ref (q w5)), (6, .int (i32 v6)), (7, .int (i32 v7)), (8, .int (i32 v8))]) dX7_read_75 (by decide) (fun _ => rfl) h (fun v9_3 ls hl h => ?_)
    refine v_aload C hl dX7_read_77 5 rfl ?_
    refine v_iload_n C hl dX7_read_79 rfl 2 rfl ?_
    refine v_lload C hl dX7_read_80 0 rfl ?_
    obtain ⟨x_4, hv4, h⟩ := bd_e h
    refine v_callVI C w5 (klC hw5) rfl (ckC20 hw5 _) rfl [.int (i32 v2), .long (i64 v9_3)] (mX4_faultOfThree C.2.2.2.2.1 hw5 hv4) cd_X4_faultOfThree ic_X4 im_X4_faultOfThree se_X4_faultOfThree ml_X7_248 yk_X4_faultOfThree ⟨rfl, rfl, by decide, by decide⟩ rfl hl.1 (rest := []) rfl (Nat.le_of_ble_eq_true rfl) dX7_read_82 ?_
    refine v_istore C hl (fun x => [(6, .int (i32 x)), (9, .long (i64 v9_3)), (0, .ref (q 0)), (2, .int (i32 v2)), (3, .int (i32 v3)), (4, .int (i32 v4)), (5, .ref (q w5)), (7, .int (i32 v7)), (8, .int (i32 v8))]) dX7_read_85 (by decide) (fun _ => rfl) h (fun v6_5 ls hl h => ?_)
    refine v_iload C hl dX7_read_87 0 rfl ?_
    have hz6 := (cr_e h).1
    have h := (cr_e h).2
    refine v_if_eq C (tgt := 95) hz6 h dX7_read_89 rfl (fun h => ?_) (fun h => ?_)
    · refine v_lload C hl dX7_read_95 1 rfl ?_
      refine v_l2i C dX7_read_97 ?_
      refine v_istore C hl (fun x => [(11, .int (i32 x)), (6, .int (i32 v6_5)), (9, .long (i64 v9_3)), (0, .ref (q 0)), (2, .int (i32 v2)), (3, .int (i32 v3)), (4, .int (i32 v4)), (5, .ref (q w5)), (7, .int (i32 v7)), (8, .int (i32 v8))]) dX7_read_98 (by decide) (fun _ => rfl) h (fun v11_7 ls hl h => ?_)
      refine v_aload_n C hl dX7_read_100 rfl 3 rfl ?_
      refine v_aload C hl dX7_read_101 7 rfl ?_
      refine g_X4_0 C hw5 fl_X7_252 dX7_read_103 ?_
      refine v_iload C hl dX7_read_106 0 rfl ?_
      refine alC21 C (kfC20_0 hw5) h dX7_read_108 (fun h => ?_)
      refine v_aload C hl dX7_read_109 7 rfl ?_
      refine g_X4_0 C hw5 fl_X7_252 dX7_read_111 ?_
      refine v_iload C hl dX7_read_114 0 rfl ?_
      refine v_iconst C dX7_read_116 ?_
      refine v_iadd C dX7_read_117 ?_
      refine alC21 C (kfC20_0 hw5) h dX7_read_118 (fun h => ?_)
      refine v_aload C hl dX7_read_119 7 rfl ?_
      refine g_X4_0 C hw5 fl_X7_252 dX7_read_121 ?_
      refine v_iload C hl dX7_read_124 0 rfl ?_
      refine v_iconst C dX7_read_126 ?_
      refine v_iadd C dX7_read_127 ?_
      refine alC21 C (kfC20_0 hw5) h dX7_read_128 (fun h => ?_)
      obtain ⟨x_8, σ_8, hv8, h⟩ := bd2_e h
      refine v_callVI C 0 (klC kdC_0) rfl (ckC1 kdC_0 _) rfl [.int (i32 (σ (w5 + 1) (v11_7).toNat)), .int (i32 (σ (w5 + 1) (v11_7 + 1).toNat)), .int (i32 (σ (w5 + 1) (v11_7 + 2).toNat))] (mX7_shift C.2.2.2.2.1 hv8) cd_X7_shift ic_X7 im_X7_shift se_X7_shift ml_X7_230 yk_X7_shift ⟨rfl, rfl, by decide, by decide⟩ rfl hl.1 (rest := []) rfl (Nat.le_of_ble_eq_true rfl) dX7_read_129 ?_
      refine v_iconst C dX7_read_132 ?_
      have hz9 := (cr_e h).1
      have h := (cr_e h).2
      refine v_icmp_eq C (tgt := 153) hz9 (by decide) h dX7_read_133 rfl (fun h => ?_) (fun h => ?_)
      · refine v_iinc C hl (fun x => [(7, .int (i32 x)), (11, .int (i32 v11_7)), (6, .int (i32 v6_5)), (9, .long (i64 v9_3)), (0, .ref (q 0)), (2, .int (i32 v2)), (3, .int (i32 v3)), (4, .int (i32 v4)), (5, .ref (q w5)), (8, .int (i32 v8))]) dX7_read_153 8 rfl (by decide) (fun _ => rfl) h (fun v7_10 ls hl h => ?_)
        refine v_iinc C hl (fun x => [(8, .int (i32 x)), (7, .int (i32 v7_10)), (11, .int (i32 v11_7)), (6, .int (i32 v6_5)), (9, .long (i64 v9_3)), (0, .ref (q 0)), (2, .int (i32 v2)), (3, .int (i32 v3)), (4, .int (i32 v4)), (5, .ref (q w5))]) dX7_read_156 9 rfl (by decide) (fun _ => rfl) h (fun v8_11 ls hl h => ?_)
        refine v_goto C (tgt := 58) dX7_read_159 rfl ?_
        exact hc58 _ _ _ _ _ (lv_sub hl [5, 6, 7, 8, 9, 3, 1, 0] rfl) h
      · refine v_aload_n C hl dX7_read_136 rfl 3 rfl ?_
        refine g_X7_1 C kdC_0 fl_X7_19 dX7_read_137 ?_
        refine v_aload_n C hl dX7_read_140 rfl 3 rfl ?_
        refine g_X7_3 C kdC_0 fl_X7_26 dX7_read_141 ?_
        obtain ⟨σ_12, hv12, h⟩ := bd_e h
        refine v_callVV C 95 (klC kdC_95) rfl (ckC23 kdC_95 _) rfl [.ref (q 127)] (mX1_copyFrom C.2.2.2.2.1 kdC_95 kdC_127 hv12) cd_X1_copyFrom ic_X1 im_X1_copyFrom se_X1_copyFrom ml_X7_97 yk_X1_copyFrom ⟨rfl, rfl, by decide, by decide⟩ rfl hl.1 (rest := []) rfl (Nat.le_of_ble_eq_true rfl) dX7_read_144 ?_
        refine v_bipush C dX7_read_147 rfl ?_
        refine v_iload C hl dX7_read_149 9 rfl ?_
        refine v_isub C dX7_read_151 ?_
        exact v_iret C hr h dX7_read_152
    · refine v_goto C (tgt := 162) dX7_read_92 rfl ?_
      exact he58 _ _ _ _ (lv_sub hl [2, 0, 7] rfl) h
theorem wlX7_read_58 (C : CxC p rmX7_read s m args meth c D ac q xa xv RX7 cX7_read 12) (hr : meth.sig.returnType = (some .int)) {v2 : Int} {v3 : Int} {v4 : Int} {w5 : Nat} (hw5 : kdC w5 = 20) {e58 : Int → Int → Mm → Option (Int × Mm)} {r : Int × Mm} (he58 : ∀ (v6x : Int) (v7x : Int) (σ : Mm) (ls : Array Slot), lv_has ls 12 [(0, .ref (q 0)), (6, .int (i32 v6x)), (7, .int (i32 v7x))] → e58 v6x v7x σ = some r → VC p l e rmX7_read s m args below meth c D ac q (QIC D ac q xa xv below args s r) σ (F0 m 162 ls [])) : ∀ (fu : Nat) (v6 : Int) (v7 : Int) (v8 : Int) (σ : Mm) (ls : Array Slot) (hl : lv_has ls 12 [(0, .ref (q 0)), (2, .int (i32 v2)), (3, .int (i32 v3)), (4, .int (i32 v4)), (5, .ref (q w5)), (6, .int (i32 v6)), (7, .int (i32 v7)), (8, .int (i32 v8))]) (h : lX7_read_58 v2 v3 v4 w5 e58 fu v6 v7 v8 σ = some r), VC p l e rmX7_read s m args below meth c D ac q (QIC D ac q xa xv below args s r) σ (F0 m 58 ls []) := by
  intro fu
  induction fu with
  | zero =>
    intro v6 v7 v8 σ ls hl h
    have h : none = some r := h
    cases h
  | succ fu ih =>
    intro v6 v7 v8 σ ls hl h
    exact wX7_read_58 C hr hw5 he58 (fun v6 v7 v8 σ ls hl h => ih v6 v7 v8 σ ls hl h) hl h
theorem wX7_read_28 (C : CxC p rmX7_read s m args meth c D ac q xa xv RX7 cX7_read 12) (hr : meth.sig.returnType = (some .int)) {σ : Mm} {r : Int × Mm} (hl : lv_has ls 12 [(0, .ref (q 0))]) (h : fX7_read_28 σ = some r) : VC p l e rmX7_read s m args below meth c D ac q (QIC D ac q xa xv below args s r) σ (F0 m 28 ls []) := by
  have h : some ((-1), σ) = some r := h
  refine v_iconst C dX7_read_28 ?_
  exact v_iret C hr h dX7_read_29
theorem mX7_read (hq : QI 175 q) {v1 : Int} {v2 : Int} {v3 : Int} {v4 : Int} {σ : Mm} {r : Int × Mm} (h : fX7_read v1 v2 v3 v4 σ = some r) : MIC l D ac q xa xv yX7_read cX7_read 12 (some .int) rmX7_read [.ref (q 0), .int (i32 v1), .int (i32 v2), .int (i32 v3), .int (i32 v4)] σ r := by
  refine MI.of hq XC_M (by decide) (Nat.le_of_ble_eq_true rfl) (fun p e s m below meth c ls C hr hl => ?_)
  have hl : lv_has ls 12 [(0, .ref (q 0)), (1, .int (i32 v1)), (2, .int (i32 v2)), (3, .int (i32 v3)), (4, .int (i32 v4))] := hl
  have h : bd (fX7_isBelow v1 4 σ) (fun x_1 => cr x_1 ((if x_1 = 0 then fX7_read_28 σ else bd (fX7_isBelow v2 3 σ) (fun x_3 => cr x_3 ((if x_3 = 0 then fX7_read_28 σ else cr v4 ((if v4 < 0 then fX7_read_28 σ else cr v4 ((if 13 < v4 then fX7_read_28 σ else chk v1 4 (bd (fX1_copyFrom 127 95 σ) (fun σ_8 => bindv 0 (fun v6_9 => bindv 0 (fun v7_10 => bindv 0 (fun v8_11 => lX7_read_58 v2 v3 v4 (21 + 2 * (v1).toNat) (fun v6_12 v7_13 σ_14 => fX7_read_162 v6_12 v7_13 σ_14) 400 v6_9 v7_10 v8_11 σ_8))))))))))))))) = some r := h
  refine v_iload_n C hl dX7_read_0 rfl 1 rfl ?_
  refine v_iconst C dX7_read_1 ?_
  obtain ⟨x_1, hv1, h⟩ := bd_e h
  refine v_callSI C [.int (i32 v1), .int (i32 4)] (mX7_isBelow C.2.2.2.2.1 hv1) cd_X7_isBelow ic_X7 sm_X7_isBelow ml_X7_69 yk_X7_isBelow ⟨rfl, rfl, by decide, by decide⟩ rfl hl.1 (rest := []) rfl (Nat.le_of_ble_eq_true rfl) dX7_read_2 ?_
  have hz2 := (cr_e h).1
  have h := (cr_e h).2
  refine v_if_eq C (tgt := 28) hz2 h dX7_read_5 rfl (fun h => ?_) (fun h => ?_)
  · exact wX7_read_28 C hr (lv_sub hl [0] rfl) h
  · refine v_iload_n C hl dX7_read_8 rfl 2 rfl ?_
    refine v_iconst C dX7_read_9 ?_
    obtain ⟨x_3, hv3, h⟩ := bd_e h
    refine v_callSI C [.int (i32 v2), .int (i32 3)] (mX7_isBelow C.2.2.2.2.1 hv3) cd_X7_isBelow ic_X7 sm_X7_isBelow ml_X7_69 yk_X7_isBelow ⟨rfl, rfl, by decide, by decide⟩ rfl hl.1 (rest := []) rfl (Nat.le_of_ble_eq_true rfl) dX7_read_10 ?_
    have hz4 := (cr_e h).1
    have h := (cr_e h).2
    refine v_if_eq C (tgt := 28) hz4 h dX7_read_13 rfl (fun h => ?_) (fun h => ?_)
    · exact wX7_read_28 C hr (lv_sub hl [0] rfl) h
    · refine v_iload C hl dX7_read_16 4 rfl ?_
      have hz5 := (cr_e h).1
      have h := (cr_e h).2
      refine v_if_lt C (tgt := 28) hz5 h dX7_read_18 rfl (fun h => ?_) (fun h => ?_)
      · exact wX7_read_28 C hr (lv_sub hl [0] rfl) h
      · refine v_iload C hl dX7_read_21 4 rfl ?_
        refine v_bipush C dX7_read_23 rfl ?_
        have hz6 := (cr_e h).1
        have h := (cr_e h).2
        refine v_icmp_le C (tgt := 30) hz6 (by decide) h dX7_read_25 rfl (fun h => ?_) (fun h => ?_)
        · refine v_aload_n C hl dX7_read_30 rfl 0 rfl ?_
          refine g_X7_9 C kdC_0 fl_X7_64 dX7_read_31 ?_
          refine v_iload_n C hl dX7_read_34 rfl 1 rfl ?_
          have hi7 := (chk_e h).1
          refine arC19 C kdC_20 h dX7_read_35 (fun h => ?_)
          refine v_astore C hl ([(5, .ref (q (21 + 2 * (v1).toNat))), (0, .ref (q 0)), (1, .int (i32 v1)), (2, .int (i32 v2)), (3, .int (i32 v3)), (4, .int (i32 v4))]) dX7_read_36 (by decide) rfl (fun ls hl => ?_)
          refine v_aload_n C hl dX7_read_38 rfl 1 rfl ?_
          refine g_X7_3 C kdC_0 fl_X7_26 dX7_read_39 ?_
          refine v_aload_n C hl dX7_read_42 rfl 1 rfl ?_
          refine g_X7_1 C kdC_0 fl_X7_19 dX7_read_43 ?_
          obtain ⟨σ_8, hv8, h⟩ := bd_e h
          refine v_callVV C 127 (klC kdC_127) rfl (ckC23 kdC_127 _) rfl [.ref (q 95)] (mX1_copyFrom C.2.2.2.2.1 kdC_127 kdC_95 hv8) cd_X1_copyFrom ic_X1 im_X1_copyFrom se_X1_copyFrom ml_X7_97 yk_X1_copyFrom ⟨rfl, rfl, by decide, by decide⟩ rfl hl.1 (rest := []) rfl (Nat.le_of_ble_eq_true rfl) dX7_read_46 ?_
          refine v_iconst C dX7_read_49 ?_
          refine v_istore C hl (fun x => [(6, .int (i32 x)), (5, .ref (q (21 + 2 * (v1).toNat))), (0, .ref (q 0)), (1, .int (i32 v1)), (2, .int (i32 v2)), (3, .int (i32 v3)), (4, .int (i32 v4))]) dX7_read_50 (by decide) (fun _ => rfl) h (fun v6_9 ls hl h => ?_)
          refine v_iconst C dX7_read_52 ?_
          refine v_istore C hl (fun x => [(7, .int (i32 x)), (6, .int (i32 v6_9)), (5, .ref (q (21 + 2 * (v1).toNat))), (0, .ref (q 0)), (1, .int (i32 v1)), (2, .int (i32 v2)), (3, .int (i32 v3)), (4, .int (i32 v4))]) dX7_read_53 (by decide) (fun _ => rfl) h (fun v7_10 ls hl h => ?_)
          refine v_iconst C dX7_read_55 ?_
          refine v_istore C hl (fun x => [(8, .int (i32 x)), (7, .int (i32 v7_10)), (6, .int (i32 v6_9)), (5, .ref (q (21 + 2 * (v1).toNat))), (0, .ref (q 0)), (1, .int (i32 v1)), (2, .int (i32 v2)), (3, .int (i32 v3)), (4, .int (i32 v4))]) dX7_read_56 (by decide) (fun _ => rfl) h (fun v8_11 ls hl h => ?_)
          exact wlX7_read_58 C hr (keC19 kdC_20 hi7) (fun v6_12 v7_13 σ_14 ls hl h => wX7_read_162 C hr (lv_sub hl [0, 1, 2] rfl) h) _ _ _ _ _ _ (lv_sub hl [4, 6, 7, 8, 3, 2, 1, 0] rfl) h
        · exact wX7_read_28 C hr (lv_sub hl [0] rfl) h
end
section
variable {l : Launch} {D : va_G} {ac : Nat → ClassId} {q xa xv : Nat → Nat} {p : Program} {e : Env} {s : State} {m : MethodId} {args : Array Value} {below : List Frame} {meth : Method} {c : Code} {ls : Array Slot}
theorem dX7_ring_0 : decode cX7_ring 0 = .ok (.iload_n 1, 1) := by decide +kernel
theorem dX7_ring_1 : decode cX7_ring 1 = .ok (.aload_n 0, 1) := by decide +kernel
theorem dX7_ring_2 : decode cX7_ring 2 = .ok (.getfield 19, 3) := by decide +kernel
theorem dX7_ring_5 : decode cX7_ring 5 = .ok (.getfield 112, 3) := by decide +kernel
theorem dX7_ring_8 : decode cX7_ring 8 = .ok (.invokestatic 69, 3) := by decide +kernel
theorem dX7_ring_11 : decode cX7_ring 11 = .ok (.ifCond .eq 11, 3) := by decide +kernel
theorem dX7_ring_14 : decode cX7_ring 14 = .ok (.aload_n 0, 1) := by decide +kernel
theorem dX7_ring_15 : decode cX7_ring 15 = .ok (.iload_n 2, 1) := by decide +kernel
theorem dX7_ring_16 : decode cX7_ring 16 = .ok (.invokevirtual 160, 3) := by decide +kernel
theorem dX7_ring_19 : decode cX7_ring 19 = .ok (.ifCond .ne 5, 3) := by decide +kernel
theorem dX7_ring_22 : decode cX7_ring 22 = .ok (.iconst (-1), 1) := by decide +kernel
theorem dX7_ring_23 : decode cX7_ring 23 = .ok (.ireturn, 1) := by decide +kernel
theorem dX7_ring_24 : decode cX7_ring 24 = .ok (.aload_n 0, 1) := by decide +kernel
theorem dX7_ring_25 : decode cX7_ring 25 = .ok (.getfield 50, 3) := by decide +kernel
theorem dX7_ring_28 : decode cX7_ring 28 = .ok (.iload_n 2, 1) := by decide +kernel
theorem dX7_ring_29 : decode cX7_ring 29 = .ok (.invokevirtual 163, 3) := by decide +kernel
theorem dX7_ring_32 : decode cX7_ring 32 = .ok (.astore 4, 2) := by decide +kernel
theorem dX7_ring_34 : decode cX7_ring 34 = .ok (.iload_n 3, 1) := by decide +kernel
theorem dX7_ring_35 : decode cX7_ring 35 = .ok (.tableswitch 47 0 2 #[25, 33, 40], 25) := by decide +kernel
theorem dX7_ring_60 : decode cX7_ring 60 = .ok (.aload 4, 2) := by decide +kernel
theorem dX7_ring_62 : decode cX7_ring 62 = .ok (.getfield 167, 3) := by decide +kernel
theorem dX7_ring_65 : decode cX7_ring 65 = .ok (.iload_n 1, 1) := by decide +kernel
theorem dX7_ring_66 : decode cX7_ring 66 = .ok (.iaload, 1) := by decide +kernel
theorem dX7_ring_67 : decode cX7_ring 67 = .ok (.ireturn, 1) := by decide +kernel
theorem dX7_ring_68 : decode cX7_ring 68 = .ok (.aload 4, 2) := by decide +kernel
theorem dX7_ring_70 : decode cX7_ring 70 = .ok (.iload_n 1, 1) := by decide +kernel
theorem dX7_ring_71 : decode cX7_ring 71 = .ok (.invokevirtual 172, 3) := by decide +kernel
theorem dX7_ring_74 : decode cX7_ring 74 = .ok (.ireturn, 1) := by decide +kernel
theorem dX7_ring_75 : decode cX7_ring 75 = .ok (.aload 4, 2) := by decide +kernel
theorem dX7_ring_77 : decode cX7_ring 77 = .ok (.iload_n 1, 1) := by decide +kernel
theorem dX7_ring_78 : decode cX7_ring 78 = .ok (.invokevirtual 176, 3) := by decide +kernel
theorem dX7_ring_81 : decode cX7_ring 81 = .ok (.ireturn, 1) := by decide +kernel
theorem dX7_ring_82 : decode cX7_ring 82 = .ok (.iconst (-1), 1) := by decide +kernel
theorem dX7_ring_83 : decode cX7_ring 83 = .ok (.ireturn, 1) := by decide +kernel
theorem wX7_ring_22 (C : CxC p rmX7_ring s m args meth c D ac q xa xv RX7 cX7_ring 5) (hr : meth.sig.returnType = (some .int)) {σ : Mm} {r : Int × Mm} (hl : lv_has ls 5 [(0, .ref (q 0))]) (h : fX7_ring_22 σ = some r) : VC p l e rmX7_ring s m args below meth c D ac q (QIC D ac q xa xv below args s r) σ (F0 m 22 ls []) := by
  have h : some ((-1), σ) = some r := h
  refine v_iconst C dX7_ring_22 ?_
  exact v_iret C hr h dX7_ring_23
theorem mX7_ring (hq : QI 175 q) {v1 : Int} {v2 : Int} {v3 : Int} {σ : Mm} {r : Int × Mm} (h : fX7_ring v1 v2 v3 σ = some r) : MIC l D ac q xa xv yX7_ring cX7_ring 5 (some .int) rmX7_ring [.ref (q 0), .int (i32 v1), .int (i32 v2), .int (i32 v3)] σ r := by
  refine MI.of hq XC_M (by decide) (Nat.le_of_ble_eq_true rfl) (fun p e s m below meth c ls C hr hl => ?_)
  have hl : lv_has ls 5 [(0, .ref (q 0)), (1, .int (i32 v1)), (2, .int (i32 v2)), (3, .int (i32 v3))] := hl
  have h : bd (fX7_isBelow v1 (σ 95 10) σ) (fun x_1 => cr x_1 ((if x_1 = 0 then fX7_ring_22 σ else bd (fX7_isStage v2 σ) (fun x_3 => cr x_3 ((if x_3 = 0 then fX7_ring_22 σ else bd (fX5_sceneAt v2 σ) (fun σ_5 => cr v3 ((if v3 = 0 then chk v1 6 (some (σ_5 15 (v1).toNat, σ_5)) else (if v3 = 1 then bd (fX3_areaOf v1 σ_5) (fun x_9 => some (x_9, σ_5)) else (if v3 = 2 then bd (fX3_neighboursOf v1 σ_5) (fun x_11 => some (x_11, σ_5)) else some ((-1), σ_5)))))))))))) = some r := h
  refine v_iload_n C hl dX7_ring_0 rfl 1 rfl ?_
  refine v_aload_n C hl dX7_ring_1 rfl 0 rfl ?_
  refine g_X7_1 C kdC_0 fl_X7_19 dX7_ring_2 ?_
  refine g_X1_10 C kdC_95 fl_X7_112 dX7_ring_5 ?_
  obtain ⟨x_1, hv1, h⟩ := bd_e h
  refine v_callSI C [.int (i32 v1), .int (i32 (σ 95 10))] (mX7_isBelow C.2.2.2.2.1 hv1) cd_X7_isBelow ic_X7 sm_X7_isBelow ml_X7_69 yk_X7_isBelow ⟨rfl, rfl, by decide, by decide⟩ rfl hl.1 (rest := []) rfl (Nat.le_of_ble_eq_true rfl) dX7_ring_8 ?_
  have hz2 := (cr_e h).1
  have h := (cr_e h).2
  refine v_if_eq C (tgt := 22) hz2 h dX7_ring_11 rfl (fun h => ?_) (fun h => ?_)
  · exact wX7_ring_22 C hr (lv_sub hl [0] rfl) h
  · refine v_aload_n C hl dX7_ring_14 rfl 0 rfl ?_
    refine v_iload_n C hl dX7_ring_15 rfl 2 rfl ?_
    obtain ⟨x_3, hv3, h⟩ := bd_e h
    refine v_callVI C 0 (klC kdC_0) rfl (ckC1 kdC_0 _) rfl [.int (i32 v2)] (mX7_isStage C.2.2.2.2.1 hv3) cd_X7_isStage ic_X7 im_X7_isStage se_X7_isStage ml_X7_160 yk_X7_isStage ⟨rfl, rfl, by decide, by decide⟩ rfl hl.1 (rest := []) rfl (Nat.le_of_ble_eq_true rfl) dX7_ring_16 ?_
    have hz4 := (cr_e h).1
    have h := (cr_e h).2
    refine v_if_ne C (tgt := 24) hz4 h dX7_ring_19 rfl (fun h => ?_) (fun h => ?_)
    · refine v_aload_n C hl dX7_ring_24 rfl 0 rfl ?_
      refine g_X7_6 C kdC_0 fl_X7_50 dX7_ring_25 ?_
      refine v_iload_n C hl dX7_ring_28 rfl 2 rfl ?_
      obtain ⟨σ_5, hv5, h⟩ := bd_e h
      refine v_callVR C 9 (klC kdC_9) rfl (ckC10 kdC_9 _) rfl [.int (i32 v2)] (mX5_sceneAt C.2.2.2.2.1 hv5) cd_X5_sceneAt ic_X5 im_X5_sceneAt se_X5_sceneAt ml_X7_163 yk_X5_sceneAt ⟨rfl, rfl, by decide, by decide⟩ rfl hl.1 (rest := []) rfl (Nat.le_of_ble_eq_true rfl) dX7_ring_29 ?_
      refine v_astore C hl ([(4, .ref (q 13)), (0, .ref (q 0)), (1, .int (i32 v1)), (2, .int (i32 v2)), (3, .int (i32 v3))]) dX7_ring_32 (by decide) rfl (fun ls hl => ?_)
      refine v_iload_n C hl dX7_ring_34 rfl 4 rfl ?_
      have hz6 := (cr_e h).1
      have h := (cr_e h).2
      rcases sw_e h with ⟨hc7, h⟩ | ⟨hc7, h⟩
      · refine v_tabIn C (tgt := 60) hz6 hc7 dX7_ring_35 (by decide) (by decide) rfl rfl ?_
        refine v_aload C hl dX7_ring_60 0 rfl ?_
        refine g_X3_2 C kdC_13 fl_X7_167 dX7_ring_62 ?_
        refine v_iload_n C hl dX7_ring_65 rfl 2 rfl ?_
        refine alC14 C kdC_15 h dX7_ring_66 (fun h => ?_)
        exact v_iret C hr h dX7_ring_67
      · skip
        rcases sw_e h with ⟨hc8, h⟩ | ⟨hc8, h⟩
        · refine v_tabIn C (tgt := 68) hz6 hc8 dX7_ring_35 (by decide) (by decide) rfl rfl ?_
          refine v_aload C hl dX7_ring_68 0 rfl ?_
          refine v_iload_n C hl dX7_ring_70 rfl 2 rfl ?_
          obtain ⟨x_9, hv9, h⟩ := bd_e h
          refine v_callVI C 13 (klC kdC_13) rfl (ckC12 kdC_13 _) rfl [.int (i32 v1)] (mX3_areaOf C.2.2.2.2.1 hv9) cd_X3_areaOf ic_X3 im_X3_areaOf se_X3_areaOf ml_X7_172 yk_X3_areaOf ⟨rfl, rfl, by decide, by decide⟩ rfl hl.1 (rest := []) rfl (Nat.le_of_ble_eq_true rfl) dX7_ring_71 ?_
          exact v_iret C hr h dX7_ring_74
        · skip
          rcases sw_e h with ⟨hc10, h⟩ | ⟨hc10, h⟩
          · refine v_tabIn C (tgt := 75) hz6 hc10 dX7_ring_35 (by decide) (by decide) rfl rfl ?_
            refine v_aload C hl dX7_ring_75 0 rfl ?_
            refine v_iload_n C hl dX7_ring_77 rfl 2 rfl ?_
            obtain ⟨x_11, hv11, h⟩ := bd_e h
            refine v_callVI C 13 (klC kdC_13) rfl (ckC12 kdC_13 _) rfl [.int (i32 v1)] (mX3_neighboursOf C.2.2.2.2.1 hv11) cd_X3_neighboursOf ic_X3 im_X3_neighboursOf se_X3_neighboursOf ml_X7_176 yk_X3_neighboursOf ⟨rfl, rfl, by decide, by decide⟩ rfl hl.1 (rest := []) rfl (Nat.le_of_ble_eq_true rfl) dX7_ring_78 ?_
            exact v_iret C hr h dX7_ring_81
          · skip
            refine v_tabOut C (tgt := 82) hz6 dX7_ring_35 (by omega) rfl ?_
            refine v_iconst C dX7_ring_82 ?_
            exact v_iret C hr h dX7_ring_83
    · exact wX7_ring_22 C hr (lv_sub hl [0] rfl) h
end
section
variable {l : Launch} {D : va_G} {ac : Nat → ClassId} {q xa xv : Nat → Nat} {p : Program} {e : Env} {s : State} {m : MethodId} {args : Array Value} {below : List Frame} {meth : Method} {c : Code} {ls : Array Slot}
theorem dX7_rule_0 : decode cX7_rule 0 = .ok (.iload_n 1, 1) := by decide +kernel
theorem dX7_rule_1 : decode cX7_rule 1 = .ok (.tableswitch 111 0 7 #[47, 55, 63, 71, 79, 87, 95, 103], 47) := by decide +kernel
theorem dX7_rule_48 : decode cX7_rule 48 = .ok (.aload_n 0, 1) := by decide +kernel
theorem dX7_rule_49 : decode cX7_rule 49 = .ok (.getfield 19, 3) := by decide +kernel
theorem dX7_rule_52 : decode cX7_rule 52 = .ok (.getfield 109, 3) := by decide +kernel
theorem dX7_rule_55 : decode cX7_rule 55 = .ok (.ireturn, 1) := by decide +kernel
theorem dX7_rule_56 : decode cX7_rule 56 = .ok (.aload_n 0, 1) := by decide +kernel
theorem dX7_rule_57 : decode cX7_rule 57 = .ok (.getfield 19, 3) := by decide +kernel
theorem dX7_rule_60 : decode cX7_rule 60 = .ok (.getfield 112, 3) := by decide +kernel
theorem dX7_rule_63 : decode cX7_rule 63 = .ok (.ireturn, 1) := by decide +kernel
theorem dX7_rule_64 : decode cX7_rule 64 = .ok (.aload_n 0, 1) := by decide +kernel
theorem dX7_rule_65 : decode cX7_rule 65 = .ok (.getfield 19, 3) := by decide +kernel
theorem dX7_rule_68 : decode cX7_rule 68 = .ok (.getfield 115, 3) := by decide +kernel
theorem dX7_rule_71 : decode cX7_rule 71 = .ok (.ireturn, 1) := by decide +kernel
theorem dX7_rule_72 : decode cX7_rule 72 = .ok (.aload_n 0, 1) := by decide +kernel
theorem dX7_rule_73 : decode cX7_rule 73 = .ok (.getfield 19, 3) := by decide +kernel
theorem dX7_rule_76 : decode cX7_rule 76 = .ok (.invokevirtual 118, 3) := by decide +kernel
theorem dX7_rule_79 : decode cX7_rule 79 = .ok (.ireturn, 1) := by decide +kernel
theorem dX7_rule_80 : decode cX7_rule 80 = .ok (.aload_n 0, 1) := by decide +kernel
theorem dX7_rule_81 : decode cX7_rule 81 = .ok (.getfield 43, 3) := by decide +kernel
theorem dX7_rule_84 : decode cX7_rule 84 = .ok (.getfield 122, 3) := by decide +kernel
theorem dX7_rule_87 : decode cX7_rule 87 = .ok (.ireturn, 1) := by decide +kernel
theorem dX7_rule_88 : decode cX7_rule 88 = .ok (.aload_n 0, 1) := by decide +kernel
theorem dX7_rule_89 : decode cX7_rule 89 = .ok (.getfield 50, 3) := by decide +kernel
theorem dX7_rule_92 : decode cX7_rule 92 = .ok (.getfield 125, 3) := by decide +kernel
theorem dX7_rule_95 : decode cX7_rule 95 = .ok (.ireturn, 1) := by decide +kernel
theorem dX7_rule_96 : decode cX7_rule 96 = .ok (.aload_n 0, 1) := by decide +kernel
theorem dX7_rule_97 : decode cX7_rule 97 = .ok (.getfield 19, 3) := by decide +kernel
theorem dX7_rule_100 : decode cX7_rule 100 = .ok (.invokevirtual 128, 3) := by decide +kernel
theorem dX7_rule_103 : decode cX7_rule 103 = .ok (.ireturn, 1) := by decide +kernel
theorem dX7_rule_104 : decode cX7_rule 104 = .ok (.aload_n 0, 1) := by decide +kernel
theorem dX7_rule_105 : decode cX7_rule 105 = .ok (.getfield 19, 3) := by decide +kernel
theorem dX7_rule_108 : decode cX7_rule 108 = .ok (.invokevirtual 131, 3) := by decide +kernel
theorem dX7_rule_111 : decode cX7_rule 111 = .ok (.ireturn, 1) := by decide +kernel
theorem dX7_rule_112 : decode cX7_rule 112 = .ok (.iconst (-1), 1) := by decide +kernel
theorem dX7_rule_113 : decode cX7_rule 113 = .ok (.ireturn, 1) := by decide +kernel
theorem mX7_rule (hq : QI 175 q) {v1 : Int} {σ : Mm} {r : Int} (h : fX7_rule v1 σ = some r) : MIC l D ac q xa xv yX7_rule cX7_rule 2 (some .int) rmX7_rule [.ref (q 0), .int (i32 v1)] σ (r, σ) := by
  refine MI.of hq XC_M (by decide) (Nat.le_of_ble_eq_true rfl) (fun p e s m below meth c ls C hr hl => ?_)
  have hl : lv_has ls 2 [(0, .ref (q 0)), (1, .int (i32 v1))] := hl
  have h : cr v1 ((if v1 = 0 then some (σ 95 9) else (if v1 = 1 then some (σ 95 10) else (if v1 = 2 then some (σ 95 11) else (if v1 = 3 then bd (fX1_nodesWithEdges 95 σ) (fun x_6 => some x_6) else (if v1 = 4 then some (σ 4 5) else (if v1 = 5 then some (σ 9 4) else (if v1 = 6 then bd (fX1_pointsWithEdges 95 σ) (fun x_10 => some x_10) else (if v1 = 7 then bd (fX1_pinned 95 σ) (fun x_12 => some x_12) else some (-1)))))))))) = some r := h
  refine v_iload_n C hl dX7_rule_0 rfl 1 rfl ?_
  have hz1 := (cr_e h).1
  have h := (cr_e h).2
  rcases sw_e h with ⟨hc2, h⟩ | ⟨hc2, h⟩
  · refine v_tabIn C (tgt := 48) hz1 hc2 dX7_rule_1 (by decide) (by decide) rfl rfl ?_
    refine v_aload_n C hl dX7_rule_48 rfl 0 rfl ?_
    refine g_X7_1 C kdC_0 fl_X7_19 dX7_rule_49 ?_
    refine g_X1_9 C kdC_95 fl_X7_109 dX7_rule_52 ?_
    exact v_iret C hr (so1 h) dX7_rule_55
  · skip
    rcases sw_e h with ⟨hc3, h⟩ | ⟨hc3, h⟩
    · refine v_tabIn C (tgt := 56) hz1 hc3 dX7_rule_1 (by decide) (by decide) rfl rfl ?_
      refine v_aload_n C hl dX7_rule_56 rfl 0 rfl ?_
      refine g_X7_1 C kdC_0 fl_X7_19 dX7_rule_57 ?_
      refine g_X1_10 C kdC_95 fl_X7_112 dX7_rule_60 ?_
      exact v_iret C hr (so1 h) dX7_rule_63
    · skip
      rcases sw_e h with ⟨hc4, h⟩ | ⟨hc4, h⟩
      · refine v_tabIn C (tgt := 64) hz1 hc4 dX7_rule_1 (by decide) (by decide) rfl rfl ?_
        refine v_aload_n C hl dX7_rule_64 rfl 0 rfl ?_
        refine g_X7_1 C kdC_0 fl_X7_19 dX7_rule_65 ?_
        refine g_X1_11 C kdC_95 fl_X7_115 dX7_rule_68 ?_
        exact v_iret C hr (so1 h) dX7_rule_71
      · skip
        rcases sw_e h with ⟨hc5, h⟩ | ⟨hc5, h⟩
        · refine v_tabIn C (tgt := 72) hz1 hc5 dX7_rule_1 (by decide) (by decide) rfl rfl ?_
          refine v_aload_n C hl dX7_rule_72 rfl 0 rfl ?_
          refine g_X7_1 C kdC_0 fl_X7_19 dX7_rule_73 ?_
          obtain ⟨x_6, hv6, h⟩ := bd_e h
          refine v_callVI C 95 (klC kdC_95) rfl (ckC23 kdC_95 _) rfl [] (mX1_nodesWithEdges C.2.2.2.2.1 kdC_95 hv6) cd_X1_nodesWithEdges ic_X1 im_X1_nodesWithEdges se_X1_nodesWithEdges ml_X7_118 yk_X1_nodesWithEdges ⟨rfl, rfl, by decide, by decide⟩ rfl hl.1 (rest := []) rfl (Nat.le_of_ble_eq_true rfl) dX7_rule_76 ?_
          exact v_iret C hr (so1 h) dX7_rule_79
        · skip
          rcases sw_e h with ⟨hc7, h⟩ | ⟨hc7, h⟩
          · refine v_tabIn C (tgt := 80) hz1 hc7 dX7_rule_1 (by decide) (by decide) rfl rfl ?_
            refine v_aload_n C hl dX7_rule_80 rfl 0 rfl ?_
            refine g_X7_5 C kdC_0 fl_X7_43 dX7_rule_81 ?_
            refine g_X0_5 C kdC_4 fl_X7_122 dX7_rule_84 ?_
            exact v_iret C hr (so1 h) dX7_rule_87
          · skip
            rcases sw_e h with ⟨hc8, h⟩ | ⟨hc8, h⟩
            · refine v_tabIn C (tgt := 88) hz1 hc8 dX7_rule_1 (by decide) (by decide) rfl rfl ?_
              refine v_aload_n C hl dX7_rule_88 rfl 0 rfl ?_
              refine g_X7_6 C kdC_0 fl_X7_50 dX7_rule_89 ?_
              refine g_X5_4 C kdC_9 fl_X7_125 dX7_rule_92 ?_
              exact v_iret C hr (so1 h) dX7_rule_95
            · skip
              rcases sw_e h with ⟨hc9, h⟩ | ⟨hc9, h⟩
              · refine v_tabIn C (tgt := 96) hz1 hc9 dX7_rule_1 (by decide) (by decide) rfl rfl ?_
                refine v_aload_n C hl dX7_rule_96 rfl 0 rfl ?_
                refine g_X7_1 C kdC_0 fl_X7_19 dX7_rule_97 ?_
                obtain ⟨x_10, hv10, h⟩ := bd_e h
                refine v_callVI C 95 (klC kdC_95) rfl (ckC23 kdC_95 _) rfl [] (mX1_pointsWithEdges C.2.2.2.2.1 kdC_95 hv10) cd_X1_pointsWithEdges ic_X1 im_X1_pointsWithEdges se_X1_pointsWithEdges ml_X7_128 yk_X1_pointsWithEdges ⟨rfl, rfl, by decide, by decide⟩ rfl hl.1 (rest := []) rfl (Nat.le_of_ble_eq_true rfl) dX7_rule_100 ?_
                exact v_iret C hr (so1 h) dX7_rule_103
              · skip
                rcases sw_e h with ⟨hc11, h⟩ | ⟨hc11, h⟩
                · refine v_tabIn C (tgt := 104) hz1 hc11 dX7_rule_1 (by decide) (by decide) rfl rfl ?_
                  refine v_aload_n C hl dX7_rule_104 rfl 0 rfl ?_
                  refine g_X7_1 C kdC_0 fl_X7_19 dX7_rule_105 ?_
                  obtain ⟨x_12, hv12, h⟩ := bd_e h
                  refine v_callVI C 95 (klC kdC_95) rfl (ckC23 kdC_95 _) rfl [] (mX1_pinned C.2.2.2.2.1 kdC_95 hv12) cd_X1_pinned ic_X1 im_X1_pinned se_X1_pinned ml_X7_131 yk_X1_pinned ⟨rfl, rfl, by decide, by decide⟩ rfl hl.1 (rest := []) rfl (Nat.le_of_ble_eq_true rfl) dX7_rule_108 ?_
                  exact v_iret C hr (so1 h) dX7_rule_111
                · skip
                  refine v_tabOut C (tgt := 112) hz1 dX7_rule_1 (by omega) rfl ?_
                  refine v_iconst C dX7_rule_112 ?_
                  exact v_iret C hr (so1 h) dX7_rule_113
end
