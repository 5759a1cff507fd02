/-! constructors -/
abbrev mainW (ac : Nat → ClassId) (a : Nat) (u : List Nat × List (List Nat) × (List Nat × List Nat)) : va_W := (a, .inr (7, [.ref (u.1.getD 0 0), .ref (u.1.getD 1 0), .ref (u.1.getD 2 0), .ref (u.1.getD 3 0), .ref (u.1.getD 4 0), .ref (u.1.getD 5 0), .ref (u.1.getD 6 0), .ref (u.1.getD 8 0), .ref (u.1.getD 7 0), .ref (u.1.getD 11 0), .int 0, .int 0])) :: ((u.1.getD 11 0), .inl (ac 5, 4, .inr (.inr (.inr (.inr (va_up (va_up (va_up (va_up (fun _ => none) 0 (some (u.1.getD 12 0))) 1 (some (u.1.getD 13 0))) 2 (some (u.1.getD 14 0))) 3 (some (u.1.getD 15 0)))))))) :: ((u.1.getD 8 0), .inl (ac 4, 2, .inr (.inr (.inr (.inr (va_up (va_up (fun _ => none) 0 (some (u.1.getD 9 0))) 1 (some (u.1.getD 10 0)))))))) :: (ap (ap (ap (ap (ap (ap (ap (ap (ap (ap (ap (ap (ap (ap [] (tapeW ac (u.1.getD 0 0) (u.2.1.getD 0 []))) (landW ac (u.1.getD 1 0) (u.2.1.getD 1 []))) (landW ac (u.1.getD 2 0) (u.2.1.getD 2 []))) (landW ac (u.1.getD 3 0) (u.2.1.getD 3 []))) (readW ac (u.1.getD 4 0) (u.1.getD 0 0) (u.1.getD 2 0) (u.2.1.getD 4 []))) (arcsW ac (u.1.getD 5 0) (u.1.getD 1 0) (u.2.1.getD 5 []))) (stagW ac (u.1.getD 6 0) (u.1.getD 1 0) u.2.2)) [((u.1.getD 7 0), .inl (ac 1, 2, .inl (fun _ => 0)))]) (landW ac (u.1.getD 9 0) (u.2.1.getD 6 []))) (landW ac (u.1.getD 10 0) (u.2.1.getD 7 []))) (shetW ac (u.1.getD 12 0) (u.2.1.getD 8 []))) (shetW ac (u.1.getD 13 0) (u.2.1.getD 9 []))) (shetW ac (u.1.getD 14 0) (u.2.1.getD 10 []))) (shetW ac (u.1.getD 15 0) (u.2.1.getD 11 [])))
abbrev rmKX7 : Room := { frames := 3, cells := 174, slots := 3372, locals := 54 }
set_option maxHeartbeats 20000000 in
set_option maxRecDepth 20000 in
theorem kcX7_init (l : Launch) (D : va_G) (ac : Nat → ClassId) (a : Nat) : KT l D ac yX7_init cX7_init 2 rmKX7 [.ref a] (a, .inr (7, [.null, .null, .null, .null, .null, .null, .null, .null, .null, .null, .int 0, .int 0])) (fun u : List Nat × List (List Nat) × (List Nat × List Nat) => mainW ac a u) := by
  refine KT.of (by decide) (Nat.le_of_ble_eq_true rfl) rfl (fun p e s m below meth c ls A Q C hl hP hD hS fin => ?_)
  generalize hH : s.heap = H at hP
  have hS0 : va_S A s.heap H [] := by rw [← hH]; exact hS
  clear hS
  have hS := hS0
  refine lv_aload_n C.x C.b dX7_init_0 rfl (lv_at hl 0 rfl) ?_
  refine k_obj C hl.1 ml_X7_3 (by decide) (by decide) dX7_init_1 ?_
  refine lv_aload_n C.x C.b dX7_init_4 rfl (lv_at hl 0 rfl) ?_
  refine va_new (ci := 6) (fs := [.null, .int 0]) (C := RX6) (T := TX6) (N := 2) C.x C.b C.t inX6 tyX6 tyX6_ok C.ow (C.w kl_X7_9) (C.w ki_X6) (C.w ic_X6) C.K hP hD hS C.hA rfl (fun j hj => by rcases (show j = 0 ∨ j = 1 by omega) with rfl | rfl <;> rfl) (by decide) (by decide) dX7_init_5 (fun q0 H hP hD hS => ?_)
  have hP : va_P D vwCl (ap ((a, .inr (7, [.null, .null, .null, .null, .null, .null, .null, .null, .null, .null, .int 0, .int 0])) :: []) [(q0, .inr (6, [.null, .int 0]))]) H := hP
  have hD : va_D A (ap ((a, .inr (7, [.null, .null, .null, .null, .null, .null, .null, .null, .null, .null, .int 0, .int 0])) :: []) [(q0, .inr (6, [.null, .int 0]))]) := hD
  refine lv_dup C.x C.b dX7_init_8 rfl ?_
  refine k_initN C (wr := (a, .inr (7, [.null, .null, .null, .null, .null, .null, .null, .null, .null, .null, .int 0, .int 0])) :: []) (rest := [.ref q0, .ref a]) hP hD hS [] (kcX6_init l D ac q0) cd_X6_init ic_X6 im_X6_init (List.mem_of_getElem? (i := 0) rfl) rfl yk_X6_init ⟨by decide, by decide⟩ rfl hl.1 rfl (Nat.le_of_ble_eq_true rfl) (by decide) (by decide) dX7_init_9 (fun u1 H locs hP hD hS => ?_)
  have hP : va_P D vwCl ((a, .inr (7, [.null, .null, .null, .null, .null, .null, .null, .null, .null, .null, .int 0, .int 0])) :: (ap [] (tapeW ac q0 u1))) H := hP
  have hD : va_D A ((a, .inr (7, [.null, .null, .null, .null, .null, .null, .null, .null, .null, .null, .int 0, .int 0])) :: (ap [] (tapeW ac q0 u1))) := hD
  refine va_putF (D := D) (ci := 7) (v := .ref q0) (ty := .object "SharedBorders$Tape") (C := RX7) (T := TX7) (N := 12) C.x C.b C.t inX7 tyX7 tyX7_ok nmX7 C.ow C.K hP hD hS 0 rfl rfl 0 (by decide) (C.w fl_X7_12) (fun _ h9 => h9) rfl C.2.2.2.2.1 rfl (by decide +kernel) rfl rfl (Nat.le_of_ble_eq_true rfl) dX7_init_12 (fun H locs hP hD hS => ?_)
  have hP : va_P D vwCl ((a, .inr (7, [.ref q0, .null, .null, .null, .null, .null, .null, .null, .null, .null, .int 0, .int 0])) :: (ap [] (tapeW ac q0 u1))) H := hP
  have hD : va_D A ((a, .inr (7, [.ref q0, .null, .null, .null, .null, .null, .null, .null, .null, .null, .int 0, .int 0])) :: (ap [] (tapeW ac q0 u1))) := hD
  obtain ⟨t0, ht0⟩ : ∃ z : va_W, z = (ap [] (tapeW ac q0 u1)) := ⟨_, rfl⟩
  rw [← ht0] at hP hD
  refine lv_aload_n C.x C.b dX7_init_15 rfl (lv_at hl 0 rfl) ?_
  refine va_new (ci := 1) (fs := [.null, .null, .null, .null, .null, .null, .null, .null, .null, .int 0, .int 0, .int 0]) (C := RX1) (T := TX1) (N := 12) C.x C.b C.t inX1 tyX1 tyX1_ok C.ow (C.w kl_X7_16) (C.w ki_X1) (C.w ic_X1) C.K hP hD hS C.hA rfl (fun j hj => by rcases (show j = 0 ∨ j = 1 ∨ j = 2 ∨ j = 3 ∨ j = 4 ∨ j = 5 ∨ j = 6 ∨ j = 7 ∨ j = 8 ∨ j = 9 ∨ j = 10 ∨ j = 11 by omega) with rfl | rfl | rfl | rfl | rfl | rfl | rfl | rfl | rfl | rfl | rfl | rfl <;> rfl) (by decide) (by decide) dX7_init_16 (fun q2 H hP hD hS => ?_)
  have hP : va_P D vwCl (ap ((a, .inr (7, [.ref q0, .null, .null, .null, .null, .null, .null, .null, .null, .null, .int 0, .int 0])) :: t0) [(q2, .inr (1, [.null, .null, .null, .null, .null, .null, .null, .null, .null, .int 0, .int 0, .int 0]))]) H := hP
  have hD : va_D A (ap ((a, .inr (7, [.ref q0, .null, .null, .null, .null, .null, .null, .null, .null, .null, .int 0, .int 0])) :: t0) [(q2, .inr (1, [.null, .null, .null, .null, .null, .null, .null, .null, .null, .int 0, .int 0, .int 0]))]) := hD
  refine lv_dup C.x C.b dX7_init_19 rfl ?_
  refine k_initN C (wr := (a, .inr (7, [.ref q0, .null, .null, .null, .null, .null, .null, .null, .null, .null, .int 0, .int 0])) :: t0) (rest := [.ref q2, .ref a]) hP hD hS [] (kcX1_init l D ac q2) cd_X1_init ic_X1 im_X1_init (List.mem_of_getElem? (i := 1) rfl) rfl yk_X1_init ⟨by decide, by decide⟩ rfl hl.1 rfl (Nat.le_of_ble_eq_true rfl) (by decide) (by decide) dX7_init_20 (fun u3 H locs hP hD hS => ?_)
  have hP : va_P D vwCl ((a, .inr (7, [.ref q0, .null, .null, .null, .null, .null, .null, .null, .null, .null, .int 0, .int 0])) :: (ap t0 (landW ac q2 u3))) H := hP
  have hD : va_D A ((a, .inr (7, [.ref q0, .null, .null, .null, .null, .null, .null, .null, .null, .null, .int 0, .int 0])) :: (ap t0 (landW ac q2 u3))) := hD
  refine va_putF (D := D) (ci := 7) (v := .ref q2) (ty := .object "SharedBorders$Land") (C := RX7) (T := TX7) (N := 12) C.x C.b C.t inX7 tyX7 tyX7_ok nmX7 C.ow C.K hP hD hS 0 rfl rfl 1 (by decide) (C.w fl_X7_19) (fun _ h9 => h9) rfl C.2.2.2.2.1 rfl (by decide +kernel) rfl rfl (Nat.le_of_ble_eq_true rfl) dX7_init_23 (fun H locs hP hD hS => ?_)
  have hP : va_P D vwCl ((a, .inr (7, [.ref q0, .ref q2, .null, .null, .null, .null, .null, .null, .null, .null, .int 0, .int 0])) :: (ap t0 (landW ac q2 u3))) H := hP
  have hD : va_D A ((a, .inr (7, [.ref q0, .ref q2, .null, .null, .null, .null, .null, .null, .null, .null, .int 0, .int 0])) :: (ap t0 (landW ac q2 u3))) := hD
  obtain ⟨t1, ht1⟩ : ∃ z : va_W, z = (ap t0 (landW ac q2 u3)) := ⟨_, rfl⟩
  rw [← ht1] at hP hD
  refine lv_aload_n C.x C.b dX7_init_26 rfl (lv_at hl 0 rfl) ?_
  refine va_new (ci := 1) (fs := [.null, .null, .null, .null, .null, .null, .null, .null, .null, .int 0, .int 0, .int 0]) (C := RX1) (T := TX1) (N := 12) C.x C.b C.t inX1 tyX1 tyX1_ok C.ow (C.w kl_X7_16) (C.w ki_X1) (C.w ic_X1) C.K hP hD hS C.hA rfl (fun j hj => by rcases (show j = 0 ∨ j = 1 ∨ j = 2 ∨ j = 3 ∨ j = 4 ∨ j = 5 ∨ j = 6 ∨ j = 7 ∨ j = 8 ∨ j = 9 ∨ j = 10 ∨ j = 11 by omega) with rfl | rfl | rfl | rfl | rfl | rfl | rfl | rfl | rfl | rfl | rfl | rfl <;> rfl) (by decide) (by decide) dX7_init_27 (fun q4 H hP hD hS => ?_)
  have hP : va_P D vwCl (ap ((a, .inr (7, [.ref q0, .ref q2, .null, .null, .null, .null, .null, .null, .null, .null, .int 0, .int 0])) :: t1) [(q4, .inr (1, [.null, .null, .null, .null, .null, .null, .null, .null, .null, .int 0, .int 0, .int 0]))]) H := hP
  have hD : va_D A (ap ((a, .inr (7, [.ref q0, .ref q2, .null, .null, .null, .null, .null, .null, .null, .null, .int 0, .int 0])) :: t1) [(q4, .inr (1, [.null, .null, .null, .null, .null, .null, .null, .null, .null, .int 0, .int 0, .int 0]))]) := hD
  refine lv_dup C.x C.b dX7_init_30 rfl ?_
  refine k_initN C (wr := (a, .inr (7, [.ref q0, .ref q2, .null, .null, .null, .null, .null, .null, .null, .null, .int 0, .int 0])) :: t1) (rest := [.ref q4, .ref a]) hP hD hS [] (kcX1_init l D ac q4) cd_X1_init ic_X1 im_X1_init (List.mem_of_getElem? (i := 1) rfl) rfl yk_X1_init ⟨by decide, by decide⟩ rfl hl.1 rfl (Nat.le_of_ble_eq_true rfl) (by decide) (by decide) dX7_init_31 (fun u5 H locs hP hD hS => ?_)
  have hP : va_P D vwCl ((a, .inr (7, [.ref q0, .ref q2, .null, .null, .null, .null, .null, .null, .null, .null, .int 0, .int 0])) :: (ap t1 (landW ac q4 u5))) H := hP
  have hD : va_D A ((a, .inr (7, [.ref q0, .ref q2, .null, .null, .null, .null, .null, .null, .null, .null, .int 0, .int 0])) :: (ap t1 (landW ac q4 u5))) := hD
  refine va_putF (D := D) (ci := 7) (v := .ref q4) (ty := .object "SharedBorders$Land") (C := RX7) (T := TX7) (N := 12) C.x C.b C.t inX7 tyX7 tyX7_ok nmX7 C.ow C.K hP hD hS 0 rfl rfl 2 (by decide) (C.w fl_X7_23) (fun _ h9 => h9) rfl C.2.2.2.2.1 rfl (by decide +kernel) rfl rfl (Nat.le_of_ble_eq_true rfl) dX7_init_34 (fun H locs hP hD hS => ?_)
  have hP : va_P D vwCl ((a, .inr (7, [.ref q0, .ref q2, .ref q4, .null, .null, .null, .null, .null, .null, .null, .int 0, .int 0])) :: (ap t1 (landW ac q4 u5))) H := hP
  have hD : va_D A ((a, .inr (7, [.ref q0, .ref q2, .ref q4, .null, .null, .null, .null, .null, .null, .null, .int 0, .int 0])) :: (ap t1 (landW ac q4 u5))) := hD
  obtain ⟨t2, ht2⟩ : ∃ z : va_W, z = (ap t1 (landW ac q4 u5)) := ⟨_, rfl⟩
  rw [← ht2] at hP hD
  refine lv_aload_n C.x C.b dX7_init_37 rfl (lv_at hl 0 rfl) ?_
  refine va_new (ci := 1) (fs := [.null, .null, .null, .null, .null, .null, .null, .null, .null, .int 0, .int 0, .int 0]) (C := RX1) (T := TX1) (N := 12) C.x C.b C.t inX1 tyX1 tyX1_ok C.ow (C.w kl_X7_16) (C.w ki_X1) (C.w ic_X1) C.K hP hD hS C.hA rfl (fun j hj => by rcases (show j = 0 ∨ j = 1 ∨ j = 2 ∨ j = 3 ∨ j = 4 ∨ j = 5 ∨ j = 6 ∨ j = 7 ∨ j = 8 ∨ j = 9 ∨ j = 10 ∨ j = 11 by omega) with rfl | rfl | rfl | rfl | rfl | rfl | rfl | rfl | rfl | rfl | rfl | rfl <;> rfl) (by decide) (by decide) dX7_init_38 (fun q6 H hP hD hS => ?_)
  have hP : va_P D vwCl (ap ((a, .inr (7, [.ref q0, .ref q2, .ref q4, .null, .null, .null, .null, .null, .null, .null, .int 0, .int 0])) :: t2) [(q6, .inr (1, [.null, .null, .null, .null, .null, .null, .null, .null, .null, .int 0, .int 0, .int 0]))]) H := hP
  have hD : va_D A (ap ((a, .inr (7, [.ref q0, .ref q2, .ref q4, .null, .null, .null, .null, .null, .null, .null, .int 0, .int 0])) :: t2) [(q6, .inr (1, [.null, .null, .null, .null, .null, .null, .null, .null, .null, .int 0, .int 0, .int 0]))]) := hD
  refine lv_dup C.x C.b dX7_init_41 rfl ?_
  refine k_initN C (wr := (a, .inr (7, [.ref q0, .ref q2, .ref q4, .null, .null, .null, .null, .null, .null, .null, .int 0, .int 0])) :: t2) (rest := [.ref q6, .ref a]) hP hD hS [] (kcX1_init l D ac q6) cd_X1_init ic_X1 im_X1_init (List.mem_of_getElem? (i := 1) rfl) rfl yk_X1_init ⟨by decide, by decide⟩ rfl hl.1 rfl (Nat.le_of_ble_eq_true rfl) (by decide) (by decide) dX7_init_42 (fun u7 H locs hP hD hS => ?_)
  have hP : va_P D vwCl ((a, .inr (7, [.ref q0, .ref q2, .ref q4, .null, .null, .null, .null, .null, .null, .null, .int 0, .int 0])) :: (ap t2 (landW ac q6 u7))) H := hP
  have hD : va_D A ((a, .inr (7, [.ref q0, .ref q2, .ref q4, .null, .null, .null, .null, .null, .null, .null, .int 0, .int 0])) :: (ap t2 (landW ac q6 u7))) := hD
  refine va_putF (D := D) (ci := 7) (v := .ref q6) (ty := .object "SharedBorders$Land") (C := RX7) (T := TX7) (N := 12) C.x C.b C.t inX7 tyX7 tyX7_ok nmX7 C.ow C.K hP hD hS 0 rfl rfl 3 (by decide) (C.w fl_X7_26) (fun _ h9 => h9) rfl C.2.2.2.2.1 rfl (by decide +kernel) rfl rfl (Nat.le_of_ble_eq_true rfl) dX7_init_45 (fun H locs hP hD hS => ?_)
  have hP : va_P D vwCl ((a, .inr (7, [.ref q0, .ref q2, .ref q4, .ref q6, .null, .null, .null, .null, .null, .null, .int 0, .int 0])) :: (ap t2 (landW ac q6 u7))) H := hP
  have hD : va_D A ((a, .inr (7, [.ref q0, .ref q2, .ref q4, .ref q6, .null, .null, .null, .null, .null, .null, .int 0, .int 0])) :: (ap t2 (landW ac q6 u7))) := hD
  obtain ⟨t3, ht3⟩ : ∃ z : va_W, z = (ap t2 (landW ac q6 u7)) := ⟨_, rfl⟩
  rw [← ht3] at hP hD
  refine lv_aload_n C.x C.b dX7_init_48 rfl (lv_at hl 0 rfl) ?_
  refine va_new (ci := 2) (fs := [.null, .null, .int 0, .int 0, .int 0, .int 0, .int 0, .int 0, .int 0]) (C := RX2) (T := TX2) (N := 9) C.x C.b C.t inX2 tyX2 tyX2_ok C.ow (C.w kl_X7_29) (C.w ki_X2) (C.w ic_X2) C.K hP hD hS C.hA rfl (fun j hj => by rcases (show j = 0 ∨ j = 1 ∨ j = 2 ∨ j = 3 ∨ j = 4 ∨ j = 5 ∨ j = 6 ∨ j = 7 ∨ j = 8 by omega) with rfl | rfl | rfl | rfl | rfl | rfl | rfl | rfl | rfl <;> rfl) (by decide) (by decide) dX7_init_49 (fun q8 H hP hD hS => ?_)
  have hP : va_P D vwCl (ap ((a, .inr (7, [.ref q0, .ref q2, .ref q4, .ref q6, .null, .null, .null, .null, .null, .null, .int 0, .int 0])) :: t3) [(q8, .inr (2, [.null, .null, .int 0, .int 0, .int 0, .int 0, .int 0, .int 0, .int 0]))]) H := hP
  have hD : va_D A (ap ((a, .inr (7, [.ref q0, .ref q2, .ref q4, .ref q6, .null, .null, .null, .null, .null, .null, .int 0, .int 0])) :: t3) [(q8, .inr (2, [.null, .null, .int 0, .int 0, .int 0, .int 0, .int 0, .int 0, .int 0]))]) := hD
  refine lv_dup C.x C.b dX7_init_52 rfl ?_
  refine lv_aload_n C.x C.b dX7_init_53 rfl (lv_at hl 0 rfl) ?_
  refine va_get (D := D) (ci := 7) (v := .ref q0) (C := RX7) (T := TX7) (N := 12) C.x C.b C.t inX7 C.ow C.K hP 0 rfl rfl 0 (by decide) (C.w fl_X7_12) (fun _ h9 => h9) rfl dX7_init_54 ?_
  refine lv_aload_n C.x C.b dX7_init_57 rfl (lv_at hl 0 rfl) ?_
  refine va_get (D := D) (ci := 7) (v := .ref q4) (C := RX7) (T := TX7) (N := 12) C.x C.b C.t inX7 C.ow C.K hP 0 rfl rfl 2 (by decide) (C.w fl_X7_23) (fun _ h9 => h9) rfl dX7_init_58 ?_
  refine k_init C (wr := (a, .inr (7, [.ref q0, .ref q2, .ref q4, .ref q6, .null, .null, .null, .null, .null, .null, .int 0, .int 0])) :: t3) (rest := [.ref q8, .ref a]) hP hD hS [.ref q0, .ref q4] (kcX2_init l D ac q8 q0 q4) cd_X2_init ic_X2 im_X2_init ml_X7_31 rfl yk_X2_init ⟨by decide, by decide⟩ rfl hl.1 rfl (Nat.le_of_ble_eq_true rfl) (by decide) (by decide) dX7_init_61 (fun u9 H locs hP hD hS => ?_)
  have hP : va_P D vwCl ((a, .inr (7, [.ref q0, .ref q2, .ref q4, .ref q6, .null, .null, .null, .null, .null, .null, .int 0, .int 0])) :: (ap t3 (readW ac q8 q0 q4 u9))) H := hP
  have hD : va_D A ((a, .inr (7, [.ref q0, .ref q2, .ref q4, .ref q6, .null, .null, .null, .null, .null, .null, .int 0, .int 0])) :: (ap t3 (readW ac q8 q0 q4 u9))) := hD
  refine va_putF (D := D) (ci := 7) (v := .ref q8) (ty := .object "SharedBorders$Reader") (C := RX7) (T := TX7) (N := 12) C.x C.b C.t inX7 tyX7 tyX7_ok nmX7 C.ow C.K hP hD hS 0 rfl rfl 4 (by decide) (C.w fl_X7_34) (fun _ h9 => h9) rfl C.2.2.2.2.1 rfl (by decide +kernel) rfl rfl (Nat.le_of_ble_eq_true rfl) dX7_init_64 (fun H locs hP hD hS => ?_)
  have hP : va_P D vwCl ((a, .inr (7, [.ref q0, .ref q2, .ref q4, .ref q6, .ref q8, .null, .null, .null, .null, .null, .int 0, .int 0])) :: (ap t3 (readW ac q8 q0 q4 u9))) H := hP
  have hD : va_D A ((a, .inr (7, [.ref q0, .ref q2, .ref q4, .ref q6, .ref q8, .null, .null, .null, .null, .null, .int 0, .int 0])) :: (ap t3 (readW ac q8 q0 q4 u9))) := hD
  obtain ⟨t4, ht4⟩ : ∃ z : va_W, z = (ap t3 (readW ac q8 q0 q4 u9)) := ⟨_, rfl⟩
  rw [← ht4] at hP hD
  refine lv_aload_n C.x C.b dX7_init_67 rfl (lv_at hl 0 rfl) ?_
  refine va_new (ci := 0) (fs := [.null, .null, .null, .null, .null, .int 0]) (C := RX0) (T := TX0) (N := 6) C.x C.b C.t inX0 tyX0 tyX0_ok C.ow (C.w kl_X7_38) (C.w ki_X0) (C.w ic_X0) C.K hP hD hS C.hA rfl (fun j hj => by rcases (show j = 0 ∨ j = 1 ∨ j = 2 ∨ j = 3 ∨ j = 4 ∨ j = 5 by omega) with rfl | rfl | rfl | rfl | rfl | rfl <;> rfl) (by decide) (by decide) dX7_init_68 (fun q10 H hP hD hS => ?_)
  have hP : va_P D vwCl (ap ((a, .inr (7, [.ref q0, .ref q2, .ref q4, .ref q6, .ref q8, .null, .null, .null, .null, .null, .int 0, .int 0])) :: t4) [(q10, .inr (0, [.null, .null, .null, .null, .null, .int 0]))]) H := hP
  have hD : va_D A (ap ((a, .inr (7, [.ref q0, .ref q2, .ref q4, .ref q6, .ref q8, .null, .null, .null, .null, .null, .int 0, .int 0])) :: t4) [(q10, .inr (0, [.null, .null, .null, .null, .null, .int 0]))]) := hD
  refine lv_dup C.x C.b dX7_init_71 rfl ?_
  refine lv_aload_n C.x C.b dX7_init_72 rfl (lv_at hl 0 rfl) ?_
  refine va_get (D := D) (ci := 7) (v := .ref q2) (C := RX7) (T := TX7) (N := 12) C.x C.b C.t inX7 C.ow C.K hP 0 rfl rfl 1 (by decide) (C.w fl_X7_19) (fun _ h9 => h9) rfl dX7_init_73 ?_
  refine k_init C (wr := (a, .inr (7, [.ref q0, .ref q2, .ref q4, .ref q6, .ref q8, .null, .null, .null, .null, .null, .int 0, .int 0])) :: t4) (rest := [.ref q10, .ref a]) hP hD hS [.ref q2] (kcX0_init l D ac q10 q2) cd_X0_init ic_X0 im_X0_init ml_X7_40 rfl yk_X0_init ⟨by decide, by decide⟩ rfl hl.1 rfl (Nat.le_of_ble_eq_true rfl) (by decide) (by decide) dX7_init_76 (fun u11 H locs hP hD hS => ?_)
  have hP : va_P D vwCl ((a, .inr (7, [.ref q0, .ref q2, .ref q4, .ref q6, .ref q8, .null, .null, .null, .null, .null, .int 0, .int 0])) :: (ap t4 (arcsW ac q10 q2 u11))) H := hP
  have hD : va_D A ((a, .inr (7, [.ref q0, .ref q2, .ref q4, .ref q6, .ref q8, .null, .null, .null, .null, .null, .int 0, .int 0])) :: (ap t4 (arcsW ac q10 q2 u11))) := hD
  refine va_putF (D := D) (ci := 7) (v := .ref q10) (ty := .object "SharedBorders$Arcs") (C := RX7) (T := TX7) (N := 12) C.x C.b C.t inX7 tyX7 tyX7_ok nmX7 C.ow C.K hP hD hS 0 rfl rfl 5 (by decide) (C.w fl_X7_43) (fun _ h9 => h9) rfl C.2.2.2.2.1 rfl (by decide +kernel) rfl rfl (Nat.le_of_ble_eq_true rfl) dX7_init_79 (fun H locs hP hD hS => ?_)
  have hP : va_P D vwCl ((a, .inr (7, [.ref q0, .ref q2, .ref q4, .ref q6, .ref q8, .ref q10, .null, .null, .null, .null, .int 0, .int 0])) :: (ap t4 (arcsW ac q10 q2 u11))) H := hP
  have hD : va_D A ((a, .inr (7, [.ref q0, .ref q2, .ref q4, .ref q6, .ref q8, .ref q10, .null, .null, .null, .null, .int 0, .int 0])) :: (ap t4 (arcsW ac q10 q2 u11))) := hD
  obtain ⟨t5, ht5⟩ : ∃ z : va_W, z = (ap t4 (arcsW ac q10 q2 u11)) := ⟨_, rfl⟩
  rw [← ht5] at hP hD
  refine lv_aload_n C.x C.b dX7_init_82 rfl (lv_at hl 0 rfl) ?_
  refine va_new (ci := 5) (fs := [.null, .null, .null, .null, .int 0, .null]) (C := RX5) (T := TX5) (N := 6) C.x C.b C.t inX5 tyX5 tyX5_ok C.ow (C.w kl_X7_47) (C.w ki_X5) (C.w ic_X5) C.K hP hD hS C.hA rfl (fun j hj => by rcases (show j = 0 ∨ j = 1 ∨ j = 2 ∨ j = 3 ∨ j = 4 ∨ j = 5 by omega) with rfl | rfl | rfl | rfl | rfl | rfl <;> rfl) (by decide) (by decide) dX7_init_83 (fun q12 H hP hD hS => ?_)
  have hP : va_P D vwCl (ap ((a, .inr (7, [.ref q0, .ref q2, .ref q4, .ref q6, .ref q8, .ref q10, .null, .null, .null, .null, .int 0, .int 0])) :: t5) [(q12, .inr (5, [.null, .null, .null, .null, .int 0, .null]))]) H := hP
  have hD : va_D A (ap ((a, .inr (7, [.ref q0, .ref q2, .ref q4, .ref q6, .ref q8, .ref q10, .null, .null, .null, .null, .int 0, .int 0])) :: t5) [(q12, .inr (5, [.null, .null, .null, .null, .int 0, .null]))]) := hD
  refine lv_dup C.x C.b dX7_init_86 rfl ?_
  refine lv_aload_n C.x C.b dX7_init_87 rfl (lv_at hl 0 rfl) ?_
  refine va_get (D := D) (ci := 7) (v := .ref q2) (C := RX7) (T := TX7) (N := 12) C.x C.b C.t inX7 C.ow C.K hP 0 rfl rfl 1 (by decide) (C.w fl_X7_19) (fun _ h9 => h9) rfl dX7_init_88 ?_
  refine k_init C (wr := (a, .inr (7, [.ref q0, .ref q2, .ref q4, .ref q6, .ref q8, .ref q10, .null, .null, .null, .null, .int 0, .int 0])) :: t5) (rest := [.ref q12, .ref a]) hP hD hS [.ref q2] (kcX5_init l D ac q12 q2) cd_X5_init ic_X5 im_X5_init ml_X7_49 rfl yk_X5_init ⟨by decide, by decide⟩ rfl hl.1 rfl (Nat.le_of_ble_eq_true rfl) (by decide) (by decide) dX7_init_91 (fun u13 H locs hP hD hS => ?_)
  have hP : va_P D vwCl ((a, .inr (7, [.ref q0, .ref q2, .ref q4, .ref q6, .ref q8, .ref q10, .null, .null, .null, .null, .int 0, .int 0])) :: (ap t5 (stagW ac q12 q2 u13))) H := hP
  have hD : va_D A ((a, .inr (7, [.ref q0, .ref q2, .ref q4, .ref q6, .ref q8, .ref q10, .null, .null, .null, .null, .int 0, .int 0])) :: (ap t5 (stagW ac q12 q2 u13))) := hD
  refine va_putF (D := D) (ci := 7) (v := .ref q12) (ty := .object "SharedBorders$Stages") (C := RX7) (T := TX7) (N := 12) C.x C.b C.t inX7 tyX7 tyX7_ok nmX7 C.ow C.K hP hD hS 0 rfl rfl 6 (by decide) (C.w fl_X7_50) (fun _ h9 => h9) rfl C.2.2.2.2.1 rfl (by decide +kernel) rfl rfl (Nat.le_of_ble_eq_true rfl) dX7_init_94 (fun H locs hP hD hS => ?_)
  have hP : va_P D vwCl ((a, .inr (7, [.ref q0, .ref q2, .ref q4, .ref q6, .ref q8, .ref q10, .ref q12, .null, .null, .null, .int 0, .int 0])) :: (ap t5 (stagW ac q12 q2 u13))) H := hP
  have hD : va_D A ((a, .inr (7, [.ref q0, .ref q2, .ref q4, .ref q6, .ref q8, .ref q10, .ref q12, .null, .null, .null, .int 0, .int 0])) :: (ap t5 (stagW ac q12 q2 u13))) := hD
  obtain ⟨t6, ht6⟩ : ∃ z : va_W, z = (ap t5 (stagW ac q12 q2 u13)) := ⟨_, rfl⟩
  rw [← ht6] at hP hD
  refine lv_aload_n C.x C.b dX7_init_97 rfl (lv_at hl 0 rfl) ?_
  refine lv_iconst C.x C.b dX7_init_98 (v := 2) (by decide) ?_
  refine k_newz C hP hD hS 2 (by decide) (by decide) (by decide) (by decide) (by decide) dX7_init_99 (fun q14 H hP hD hS => ?_)
  have hP : va_P D vwCl ((a, .inr (7, [.ref q0, .ref q2, .ref q4, .ref q6, .ref q8, .ref q10, .ref q12, .null, .null, .null, .int 0, .int 0])) :: (ap t6 [(q14, .inl (ac 1, 2, .inl (fun _ => 0)))])) H := hP
  have hD : va_D A ((a, .inr (7, [.ref q0, .ref q2, .ref q4, .ref q6, .ref q8, .ref q10, .ref q12, .null, .null, .null, .int 0, .int 0])) :: (ap t6 [(q14, .inl (ac 1, 2, .inl (fun _ => 0)))])) := hD
  refine va_putF (D := D) (ci := 7) (v := .ref q14) (ty := .array .boolean) (C := RX7) (T := TX7) (N := 12) C.x C.b C.t inX7 tyX7 tyX7_ok nmX7 C.ow C.K hP hD hS 0 rfl rfl 8 (by decide) (C.w fl_X7_54) (fun _ h9 => h9) rfl C.2.2.2.2.1 rfl (by decide +kernel) rfl rfl (Nat.le_of_ble_eq_true rfl) dX7_init_101 (fun H locs hP hD hS => ?_)
  have hP : va_P D vwCl ((a, .inr (7, [.ref q0, .ref q2, .ref q4, .ref q6, .ref q8, .ref q10, .ref q12, .null, .ref q14, .null, .int 0, .int 0])) :: (ap t6 [(q14, .inl (ac 1, 2, .inl (fun _ => 0)))])) H := hP
  have hD : va_D A ((a, .inr (7, [.ref q0, .ref q2, .ref q4, .ref q6, .ref q8, .ref q10, .ref q12, .null, .ref q14, .null, .int 0, .int 0])) :: (ap t6 [(q14, .inl (ac 1, 2, .inl (fun _ => 0)))])) := hD
  obtain ⟨t7, ht7⟩ : ∃ z : va_W, z = (ap t6 [(q14, .inl (ac 1, 2, .inl (fun _ => 0)))]) := ⟨_, rfl⟩
  rw [← ht7] at hP hD
  refine lv_aload_n C.x C.b dX7_init_104 rfl (lv_at hl 0 rfl) ?_
  refine lv_iconst C.x C.b dX7_init_105 (v := 2) (by decide) ?_
  refine k_newq C (E := RX1) (t := 4) hP hD hS kl_X7_16 C.2.2.1.2.1 rfl 2 (by decide) (by decide) (by decide) (by decide) (by decide) dX7_init_106 (fun q15 H hP hD hS => ?_)
  have hP : va_P D vwCl ((a, .inr (7, [.ref q0, .ref q2, .ref q4, .ref q6, .ref q8, .ref q10, .ref q12, .null, .ref q14, .null, .int 0, .int 0])) :: (q15, .inl (ac 4, 2, .inr (.inr (.inr (.inr (fun _ => none)))))) :: t7) H := hP
  have hD : va_D A ((a, .inr (7, [.ref q0, .ref q2, .ref q4, .ref q6, .ref q8, .ref q10, .ref q12, .null, .ref q14, .null, .int 0, .int 0])) :: (q15, .inl (ac 4, 2, .inr (.inr (.inr (.inr (fun _ => none)))))) :: t7) := hD
  refine va_putF (D := D) (ci := 7) (v := .ref q15) (ty := .array (.object "SharedBorders$Land")) (C := RX7) (T := TX7) (N := 12) C.x C.b C.t inX7 tyX7 tyX7_ok nmX7 C.ow C.K hP hD hS 0 rfl rfl 7 (by decide) (C.w fl_X7_58) (fun _ h9 => h9) rfl C.2.2.2.2.1 rfl (by decide +kernel) rfl rfl (Nat.le_of_ble_eq_true rfl) dX7_init_109 (fun H locs hP hD hS => ?_)
  have hP : va_P D vwCl ((a, .inr (7, [.ref q0, .ref q2, .ref q4, .ref q6, .ref q8, .ref q10, .ref q12, .ref q15, .ref q14, .null, .int 0, .int 0])) :: (q15, .inl (ac 4, 2, .inr (.inr (.inr (.inr (fun _ => none)))))) :: t7) H := hP
  have hD : va_D A ((a, .inr (7, [.ref q0, .ref q2, .ref q4, .ref q6, .ref q8, .ref q10, .ref q12, .ref q15, .ref q14, .null, .int 0, .int 0])) :: (q15, .inl (ac 4, 2, .inr (.inr (.inr (.inr (fun _ => none)))))) :: t7) := hD
  refine lv_iconst C.x C.b dX7_init_112 (v := 0) (by decide) ?_
  refine lv_istore_n C.x C.b dX7_init_113 rfl hl (by decide) rfl (fun ls hl => ?_)
  have hl : lv_has ls 2 [(1, .int 0), (0, .ref a)] := hl
  refine lv_iload_n C.x C.b dX7_init_114 rfl (lv_at hl 0 rfl) ?_
  refine lv_iconst C.x C.b dX7_init_115 (v := 2) (by decide) ?_
  refine lv_icmp_ge C.x C.b dX7_init_116 (tgt := 138) rfl (fun z => absurd z (by decide)) (fun _ => ?_)
  refine lv_aload_n C.x C.b dX7_init_119 rfl (lv_at hl 1 rfl) ?_
  refine va_get (D := D) (ci := 7) (v := .ref q15) (C := RX7) (T := TX7) (N := 12) C.x C.b C.t inX7 C.ow C.K hP 0 rfl rfl 7 (by decide) (C.w fl_X7_58) (fun _ h9 => h9) rfl dX7_init_120 ?_
  refine lv_iload_n C.x C.b dX7_init_123 rfl (lv_at hl 0 rfl) ?_
  refine va_new (ci := 1) (fs := [.null, .null, .null, .null, .null, .null, .null, .null, .null, .int 0, .int 0, .int 0]) (C := RX1) (T := TX1) (N := 12) C.x C.b C.t inX1 tyX1 tyX1_ok C.ow (C.w kl_X7_16) (C.w ki_X1) (C.w ic_X1) C.K hP hD hS C.hA rfl (fun j hj => by rcases (show j = 0 ∨ j = 1 ∨ j = 2 ∨ j = 3 ∨ j = 4 ∨ j = 5 ∨ j = 6 ∨ j = 7 ∨ j = 8 ∨ j = 9 ∨ j = 10 ∨ j = 11 by omega) with rfl | rfl | rfl | rfl | rfl | rfl | rfl | rfl | rfl | rfl | rfl | rfl <;> rfl) (by decide) (by decide) dX7_init_124 (fun q16 H hP hD hS => ?_)
  have hP : va_P D vwCl (ap ((a, .inr (7, [.ref q0, .ref q2, .ref q4, .ref q6, .ref q8, .ref q10, .ref q12, .ref q15, .ref q14, .null, .int 0, .int 0])) :: (q15, .inl (ac 4, 2, .inr (.inr (.inr (.inr (fun _ => none)))))) :: t7) [(q16, .inr (1, [.null, .null, .null, .null, .null, .null, .null, .null, .null, .int 0, .int 0, .int 0]))]) H := hP
  have hD : va_D A (ap ((a, .inr (7, [.ref q0, .ref q2, .ref q4, .ref q6, .ref q8, .ref q10, .ref q12, .ref q15, .ref q14, .null, .int 0, .int 0])) :: (q15, .inl (ac 4, 2, .inr (.inr (.inr (.inr (fun _ => none)))))) :: t7) [(q16, .inr (1, [.null, .null, .null, .null, .null, .null, .null, .null, .null, .int 0, .int 0, .int 0]))]) := hD
  refine lv_dup C.x C.b dX7_init_127 rfl ?_
  refine k_initN C (wr := (a, .inr (7, [.ref q0, .ref q2, .ref q4, .ref q6, .ref q8, .ref q10, .ref q12, .ref q15, .ref q14, .null, .int 0, .int 0])) :: (q15, .inl (ac 4, 2, .inr (.inr (.inr (.inr (fun _ => none)))))) :: t7) (rest := [.ref q16, .int (0), .ref q15]) hP hD hS [] (kcX1_init l D ac q16) cd_X1_init ic_X1 im_X1_init (List.mem_of_getElem? (i := 1) rfl) rfl yk_X1_init ⟨by decide, by decide⟩ rfl hl.1 rfl (Nat.le_of_ble_eq_true rfl) (by decide) (by decide) dX7_init_128 (fun u17 H locs hP hD hS => ?_)
  have hP : va_P D vwCl ((a, .inr (7, [.ref q0, .ref q2, .ref q4, .ref q6, .ref q8, .ref q10, .ref q12, .ref q15, .ref q14, .null, .int 0, .int 0])) :: (q15, .inl (ac 4, 2, .inr (.inr (.inr (.inr (fun _ => none)))))) :: (ap t7 (landW ac q16 u17))) H := hP
  have hD : va_D A ((a, .inr (7, [.ref q0, .ref q2, .ref q4, .ref q6, .ref q8, .ref q10, .ref q12, .ref q15, .ref q14, .null, .int 0, .int 0])) :: (q15, .inl (ac 4, 2, .inr (.inr (.inr (.inr (fun _ => none)))))) :: (ap t7 (landW ac q16 u17))) := hD
  refine va_astq C.x C.b C.K hP hD hS 1 4 ((t7).length + 2) 1 rfl rfl at_app rfl (by unfold vp_in; decide) dX7_init_131 (fun H locs hP hD hS => ?_)
  have hP : va_P D vwCl ((a, .inr (7, [.ref q0, .ref q2, .ref q4, .ref q6, .ref q8, .ref q10, .ref q12, .ref q15, .ref q14, .null, .int 0, .int 0])) :: (q15, .inl (ac 4, 2, .inr (.inr (.inr (.inr (va_up (fun _ => none) 0 (some q16))))))) :: (ap t7 (landW ac q16 u17))) H := hP
  have hD : va_D A ((a, .inr (7, [.ref q0, .ref q2, .ref q4, .ref q6, .ref q8, .ref q10, .ref q12, .ref q15, .ref q14, .null, .int 0, .int 0])) :: (q15, .inl (ac 4, 2, .inr (.inr (.inr (.inr (va_up (fun _ => none) 0 (some q16))))))) :: (ap t7 (landW ac q16 u17))) := hD
  obtain ⟨t8, ht8⟩ : ∃ z : va_W, z = (ap t7 (landW ac q16 u17)) := ⟨_, rfl⟩
  rw [← ht8] at hP hD
  refine lv_iinc C.x C.b dX7_init_132 hl (k := 0) (x := 0) rfl (v := 1) (by decide) (by decide) rfl (fun ls hl => ?_)
  have hl : lv_has ls 2 [(1, .int 1), (0, .ref a)] := hl
  refine lv_goto C.x C.b dX7_init_135 (tgt := 114) rfl ?_
  refine lv_iload_n C.x C.b dX7_init_114 rfl (lv_at hl 0 rfl) ?_
  refine lv_iconst C.x C.b dX7_init_115 (v := 2) (by decide) ?_
  refine lv_icmp_ge C.x C.b dX7_init_116 (tgt := 138) rfl (fun z => absurd z (by decide)) (fun _ => ?_)
  refine lv_aload_n C.x C.b dX7_init_119 rfl (lv_at hl 1 rfl) ?_
  refine va_get (D := D) (ci := 7) (v := .ref q15) (C := RX7) (T := TX7) (N := 12) C.x C.b C.t inX7 C.ow C.K hP 0 rfl rfl 7 (by decide) (C.w fl_X7_58) (fun _ h9 => h9) rfl dX7_init_120 ?_
  refine lv_iload_n C.x C.b dX7_init_123 rfl (lv_at hl 0 rfl) ?_
  refine va_new (ci := 1) (fs := [.null, .null, .null, .null, .null, .null, .null, .null, .null, .int 0, .int 0, .int 0]) (C := RX1) (T := TX1) (N := 12) C.x C.b C.t inX1 tyX1 tyX1_ok C.ow (C.w kl_X7_16) (C.w ki_X1) (C.w ic_X1) C.K hP hD hS C.hA rfl (fun j hj => by rcases (show j = 0 ∨ j = 1 ∨ j = 2 ∨ j = 3 ∨ j = 4 ∨ j = 5 ∨ j = 6 ∨ j = 7 ∨ j = 8 ∨ j = 9 ∨ j = 10 ∨ j = 11 by omega) with rfl | rfl | rfl | rfl | rfl | rfl | rfl | rfl | rfl | rfl | rfl | rfl <;> rfl) (by decide) (by decide) dX7_init_124 (fun q18 H hP hD hS => ?_)
  have hP : va_P D vwCl (ap ((a, .inr (7, [.ref q0, .ref q2, .ref q4, .ref q6, .ref q8, .ref q10, .ref q12, .ref q15, .ref q14, .null, .int 0, .int 0])) :: (q15, .inl (ac 4, 2, .inr (.inr (.inr (.inr (va_up (fun _ => none) 0 (some q16))))))) :: t8) [(q18, .inr (1, [.null, .null, .null, .null, .null, .null, .null, .null, .null, .int 0, .int 0, .int 0]))]) H := hP
  have hD : va_D A (ap ((a, .inr (7, [.ref q0, .ref q2, .ref q4, .ref q6, .ref q8, .ref q10, .ref q12, .ref q15, .ref q14, .null, .int 0, .int 0])) :: (q15, .inl (ac 4, 2, .inr (.inr (.inr (.inr (va_up (fun _ => none) 0 (some q16))))))) :: t8) [(q18, .inr (1, [.null, .null, .null, .null, .null, .null, .null, .null, .null, .int 0, .int 0, .int 0]))]) := hD
  refine lv_dup C.x C.b dX7_init_127 rfl ?_
  refine k_initN C (wr := (a, .inr (7, [.ref q0, .ref q2, .ref q4, .ref q6, .ref q8, .ref q10, .ref q12, .ref q15, .ref q14, .null, .int 0, .int 0])) :: (q15, .inl (ac 4, 2, .inr (.inr (.inr (.inr (va_up (fun _ => none) 0 (some q16))))))) :: t8) (rest := [.ref q18, .int (1), .ref q15]) hP hD hS [] (kcX1_init l D ac q18) cd_X1_init ic_X1 im_X1_init (List.mem_of_getElem? (i := 1) rfl) rfl yk_X1_init ⟨by decide, by decide⟩ rfl hl.1 rfl (Nat.le_of_ble_eq_true rfl) (by decide) (by decide) dX7_init_128 (fun u19 H locs hP hD hS => ?_)
  have hP : va_P D vwCl ((a, .inr (7, [.ref q0, .ref q2, .ref q4, .ref q6, .ref q8, .ref q10, .ref q12, .ref q15, .ref q14, .null, .int 0, .int 0])) :: (q15, .inl (ac 4, 2, .inr (.inr (.inr (.inr (va_up (fun _ => none) 0 (some q16))))))) :: (ap t8 (landW ac q18 u19))) H := hP
  have hD : va_D A ((a, .inr (7, [.ref q0, .ref q2, .ref q4, .ref q6, .ref q8, .ref q10, .ref q12, .ref q15, .ref q14, .null, .int 0, .int 0])) :: (q15, .inl (ac 4, 2, .inr (.inr (.inr (.inr (va_up (fun _ => none) 0 (some q16))))))) :: (ap t8 (landW ac q18 u19))) := hD
  refine va_astq C.x C.b C.K hP hD hS 1 4 ((t8).length + 2) 1 rfl rfl at_app rfl (by unfold vp_in; decide) dX7_init_131 (fun H locs hP hD hS => ?_)
  have hP : va_P D vwCl ((a, .inr (7, [.ref q0, .ref q2, .ref q4, .ref q6, .ref q8, .ref q10, .ref q12, .ref q15, .ref q14, .null, .int 0, .int 0])) :: (q15, .inl (ac 4, 2, .inr (.inr (.inr (.inr (va_up (va_up (fun _ => none) 0 (some q16)) 1 (some q18))))))) :: (ap t8 (landW ac q18 u19))) H := hP
  have hD : va_D A ((a, .inr (7, [.ref q0, .ref q2, .ref q4, .ref q6, .ref q8, .ref q10, .ref q12, .ref q15, .ref q14, .null, .int 0, .int 0])) :: (q15, .inl (ac 4, 2, .inr (.inr (.inr (.inr (va_up (va_up (fun _ => none) 0 (some q16)) 1 (some q18))))))) :: (ap t8 (landW ac q18 u19))) := hD
  obtain ⟨t9, ht9⟩ : ∃ z : va_W, z = (ap t8 (landW ac q18 u19)) := ⟨_, rfl⟩
  rw [← ht9] at hP hD
  refine lv_iinc C.x C.b dX7_init_132 hl (k := 0) (x := 1) rfl (v := 2) (by decide) (by decide) rfl (fun ls hl => ?_)
  have hl : lv_has ls 2 [(1, .int 2), (0, .ref a)] := hl
  refine lv_goto C.x C.b dX7_init_135 (tgt := 114) rfl ?_
  refine lv_iload_n C.x C.b dX7_init_114 rfl (lv_at hl 0 rfl) ?_
  refine lv_iconst C.x C.b dX7_init_115 (v := 2) (by decide) ?_
  refine lv_icmp_ge C.x C.b dX7_init_116 (tgt := 138) rfl (fun _ => ?_) (fun z => absurd (by decide) z)
  refine lv_aload_n C.x C.b dX7_init_138 rfl (lv_at hl 1 rfl) ?_
  refine lv_iconst C.x C.b dX7_init_139 (v := 4) (by decide) ?_
  refine k_newq C (E := RX4) (t := 5) hP hD hS kl_X7_62 C.2.2.1.2.2.1 rfl 4 (by decide) (by decide) (by decide) (by decide) (by decide) dX7_init_140 (fun q20 H hP hD hS => ?_)
  have hP : va_P D vwCl ((a, .inr (7, [.ref q0, .ref q2, .ref q4, .ref q6, .ref q8, .ref q10, .ref q12, .ref q15, .ref q14, .null, .int 0, .int 0])) :: (q20, .inl (ac 5, 4, .inr (.inr (.inr (.inr (fun _ => none)))))) :: (q15, .inl (ac 4, 2, .inr (.inr (.inr (.inr (va_up (va_up (fun _ => none) 0 (some q16)) 1 (some q18))))))) :: t9) H := hP
  have hD : va_D A ((a, .inr (7, [.ref q0, .ref q2, .ref q4, .ref q6, .ref q8, .ref q10, .ref q12, .ref q15, .ref q14, .null, .int 0, .int 0])) :: (q20, .inl (ac 5, 4, .inr (.inr (.inr (.inr (fun _ => none)))))) :: (q15, .inl (ac 4, 2, .inr (.inr (.inr (.inr (va_up (va_up (fun _ => none) 0 (some q16)) 1 (some q18))))))) :: t9) := hD
  refine va_putF (D := D) (ci := 7) (v := .ref q20) (ty := .array (.object "SharedBorders$Sheet")) (C := RX7) (T := TX7) (N := 12) C.x C.b C.t inX7 tyX7 tyX7_ok nmX7 C.ow C.K hP hD hS 0 rfl rfl 9 (by decide) (C.w fl_X7_64) (fun _ h9 => h9) rfl C.2.2.2.2.1 rfl (by decide +kernel) rfl rfl (Nat.le_of_ble_eq_true rfl) dX7_init_143 (fun H locs hP hD hS => ?_)
  have hP : va_P D vwCl ((a, .inr (7, [.ref q0, .ref q2, .ref q4, .ref q6, .ref q8, .ref q10, .ref q12, .ref q15, .ref q14, .ref q20, .int 0, .int 0])) :: (q20, .inl (ac 5, 4, .inr (.inr (.inr (.inr (fun _ => none)))))) :: (q15, .inl (ac 4, 2, .inr (.inr (.inr (.inr (va_up (va_up (fun _ => none) 0 (some q16)) 1 (some q18))))))) :: t9) H := hP
  have hD : va_D A ((a, .inr (7, [.ref q0, .ref q2, .ref q4, .ref q6, .ref q8, .ref q10, .ref q12, .ref q15, .ref q14, .ref q20, .int 0, .int 0])) :: (q20, .inl (ac 5, 4, .inr (.inr (.inr (.inr (fun _ => none)))))) :: (q15, .inl (ac 4, 2, .inr (.inr (.inr (.inr (va_up (va_up (fun _ => none) 0 (some q16)) 1 (some q18))))))) :: t9) := hD
  refine lv_iconst C.x C.b dX7_init_146 (v := 0) (by decide) ?_
  refine lv_istore_n C.x C.b dX7_init_147 rfl hl (by decide) rfl (fun ls hl => ?_)
  have hl : lv_has ls 2 [(1, .int 0), (0, .ref a)] := hl
  refine lv_iload_n C.x C.b dX7_init_148 rfl (lv_at hl 0 rfl) ?_
  refine lv_iconst C.x C.b dX7_init_149 (v := 4) (by decide) ?_
  refine lv_icmp_ge C.x C.b dX7_init_150 (tgt := 172) rfl (fun z => absurd z (by decide)) (fun _ => ?_)
  refine lv_aload_n C.x C.b dX7_init_153 rfl (lv_at hl 1 rfl) ?_
  refine va_get (D := D) (ci := 7) (v := .ref q20) (C := RX7) (T := TX7) (N := 12) C.x C.b C.t inX7 C.ow C.K hP 0 rfl rfl 9 (by decide) (C.w fl_X7_64) (fun _ h9 => h9) rfl dX7_init_154 ?_
  refine lv_iload_n C.x C.b dX7_init_157 rfl (lv_at hl 0 rfl) ?_
  refine va_new (ci := 4) (fs := [.null, .int 0, .int 0]) (C := RX4) (T := TX4) (N := 3) C.x C.b C.t inX4 tyX4 tyX4_ok C.ow (C.w kl_X7_62) (C.w ki_X4) (C.w ic_X4) C.K hP hD hS C.hA rfl (fun j hj => by rcases (show j = 0 ∨ j = 1 ∨ j = 2 by omega) with rfl | rfl | rfl <;> rfl) (by decide) (by decide) dX7_init_158 (fun q21 H hP hD hS => ?_)
  have hP : va_P D vwCl (ap ((a, .inr (7, [.ref q0, .ref q2, .ref q4, .ref q6, .ref q8, .ref q10, .ref q12, .ref q15, .ref q14, .ref q20, .int 0, .int 0])) :: (q20, .inl (ac 5, 4, .inr (.inr (.inr (.inr (fun _ => none)))))) :: (q15, .inl (ac 4, 2, .inr (.inr (.inr (.inr (va_up (va_up (fun _ => none) 0 (some q16)) 1 (some q18))))))) :: t9) [(q21, .inr (4, [.null, .int 0, .int 0]))]) H := hP
  have hD : va_D A (ap ((a, .inr (7, [.ref q0, .ref q2, .ref q4, .ref q6, .ref q8, .ref q10, .ref q12, .ref q15, .ref q14, .ref q20, .int 0, .int 0])) :: (q20, .inl (ac 5, 4, .inr (.inr (.inr (.inr (fun _ => none)))))) :: (q15, .inl (ac 4, 2, .inr (.inr (.inr (.inr (va_up (va_up (fun _ => none) 0 (some q16)) 1 (some q18))))))) :: t9) [(q21, .inr (4, [.null, .int 0, .int 0]))]) := hD
  refine lv_dup C.x C.b dX7_init_161 rfl ?_
  refine k_initN C (wr := (a, .inr (7, [.ref q0, .ref q2, .ref q4, .ref q6, .ref q8, .ref q10, .ref q12, .ref q15, .ref q14, .ref q20, .int 0, .int 0])) :: (q20, .inl (ac 5, 4, .inr (.inr (.inr (.inr (fun _ => none)))))) :: (q15, .inl (ac 4, 2, .inr (.inr (.inr (.inr (va_up (va_up (fun _ => none) 0 (some q16)) 1 (some q18))))))) :: t9) (rest := [.ref q21, .int (0), .ref q20]) hP hD hS [] (kcX4_init l D ac q21) cd_X4_init ic_X4 im_X4_init (List.mem_of_getElem? (i := 2) rfl) rfl yk_X4_init ⟨by decide, by decide⟩ rfl hl.1 rfl (Nat.le_of_ble_eq_true rfl) (by decide) (by decide) dX7_init_162 (fun u22 H locs hP hD hS => ?_)
  have hP : va_P D vwCl ((a, .inr (7, [.ref q0, .ref q2, .ref q4, .ref q6, .ref q8, .ref q10, .ref q12, .ref q15, .ref q14, .ref q20, .int 0, .int 0])) :: (q20, .inl (ac 5, 4, .inr (.inr (.inr (.inr (fun _ => none)))))) :: (q15, .inl (ac 4, 2, .inr (.inr (.inr (.inr (va_up (va_up (fun _ => none) 0 (some q16)) 1 (some q18))))))) :: (ap t9 (shetW ac q21 u22))) H := hP
  have hD : va_D A ((a, .inr (7, [.ref q0, .ref q2, .ref q4, .ref q6, .ref q8, .ref q10, .ref q12, .ref q15, .ref q14, .ref q20, .int 0, .int 0])) :: (q20, .inl (ac 5, 4, .inr (.inr (.inr (.inr (fun _ => none)))))) :: (q15, .inl (ac 4, 2, .inr (.inr (.inr (.inr (va_up (va_up (fun _ => none) 0 (some q16)) 1 (some q18))))))) :: (ap t9 (shetW ac q21 u22))) := hD
  refine va_astq C.x C.b C.K hP hD hS 1 5 ((t9).length + 3) 4 rfl rfl at_app rfl (by unfold vp_in; decide) dX7_init_165 (fun H locs hP hD hS => ?_)
  have hP : va_P D vwCl ((a, .inr (7, [.ref q0, .ref q2, .ref q4, .ref q6, .ref q8, .ref q10, .ref q12, .ref q15, .ref q14, .ref q20, .int 0, .int 0])) :: (q20, .inl (ac 5, 4, .inr (.inr (.inr (.inr (va_up (fun _ => none) 0 (some q21))))))) :: (q15, .inl (ac 4, 2, .inr (.inr (.inr (.inr (va_up (va_up (fun _ => none) 0 (some q16)) 1 (some q18))))))) :: (ap t9 (shetW ac q21 u22))) H := hP
  have hD : va_D A ((a, .inr (7, [.ref q0, .ref q2, .ref q4, .ref q6, .ref q8, .ref q10, .ref q12, .ref q15, .ref q14, .ref q20, .int 0, .int 0])) :: (q20, .inl (ac 5, 4, .inr (.inr (.inr (.inr (va_up (fun _ => none) 0 (some q21))))))) :: (q15, .inl (ac 4, 2, .inr (.inr (.inr (.inr (va_up (va_up (fun _ => none) 0 (some q16)) 1 (some q18))))))) :: (ap t9 (shetW ac q21 u22))) := hD
  obtain ⟨t10, ht10⟩ : ∃ z : va_W, z = (ap t9 (shetW ac q21 u22)) := ⟨_, rfl⟩
  rw [← ht10] at hP hD
  refine lv_iinc C.x C.b dX7_init_166 hl (k := 0) (x := 0) rfl (v := 1) (by decide) (by decide) rfl (fun ls hl => ?_)
  have hl : lv_has ls 2 [(1, .int 1), (0, .ref a)] := hl
  refine lv_goto C.x C.b dX7_init_169 (tgt := 148) rfl ?_
  refine lv_iload_n C.x C.b dX7_init_148 rfl (lv_at hl 0 rfl) ?_
  refine lv_iconst C.x C.b dX7_init_149 (v := 4) (by decide) ?_
  refine lv_icmp_ge C.x C.b dX7_init_150 (tgt := 172) rfl (fun z => absurd z (by decide)) (fun _ => ?_)
  refine lv_aload_n C.x C.b dX7_init_153 rfl (lv_at hl 1 rfl) ?_
  refine va_get (D := D) (ci := 7) (v := .ref q20) (C := RX7) (T := TX7) (N := 12) C.x C.b C.t inX7 C.ow C.K hP 0 rfl rfl 9 (by decide) (C.w fl_X7_64) (fun _ h9 => h9) rfl dX7_init_154 ?_
  refine lv_iload_n C.x C.b dX7_init_157 rfl (lv_at hl 0 rfl) ?_
  refine va_new (ci := 4) (fs := [.null, .int 0, .int 0]) (C := RX4) (T := TX4) (N := 3) C.x C.b C.t inX4 tyX4 tyX4_ok C.ow (C.w kl_X7_62) (C.w ki_X4) (C.w ic_X4) C.K hP hD hS C.hA rfl (fun j hj => by rcases (show j = 0 ∨ j = 1 ∨ j = 2 by omega) with rfl | rfl | rfl <;> rfl) (by decide) (by decide) dX7_init_158 (fun q23 H hP hD hS => ?_)
  have hP : va_P D vwCl (ap ((a, .inr (7, [.ref q0, .ref q2, .ref q4, .ref q6, .ref q8, .ref q10, .ref q12, .ref q15, .ref q14, .ref q20, .int 0, .int 0])) :: (q20, .inl (ac 5, 4, .inr (.inr (.inr (.inr (va_up (fun _ => none) 0 (some q21))))))) :: (q15, .inl (ac 4, 2, .inr (.inr (.inr (.inr (va_up (va_up (fun _ => none) 0 (some q16)) 1 (some q18))))))) :: t10) [(q23, .inr (4, [.null, .int 0, .int 0]))]) H := hP
  have hD : va_D A (ap ((a, .inr (7, [.ref q0, .ref q2, .ref q4, .ref q6, .ref q8, .ref q10, .ref q12, .ref q15, .ref q14, .ref q20, .int 0, .int 0])) :: (q20, .inl (ac 5, 4, .inr (.inr (.inr (.inr (va_up (fun _ => none) 0 (some q21))))))) :: (q15, .inl (ac 4, 2, .inr (.inr (.inr (.inr (va_up (va_up (fun _ => none) 0 (some q16)) 1 (some q18))))))) :: t10) [(q23, .inr (4, [.null, .int 0, .int 0]))]) := hD
  refine lv_dup C.x C.b dX7_init_161 rfl ?_
  refine k_initN C (wr := (a, .inr (7, [.ref q0, .ref q2, .ref q4, .ref q6, .ref q8, .ref q10, .ref q12, .ref q15, .ref q14, .ref q20, .int 0, .int 0])) :: (q20, .inl (ac 5, 4, .inr (.inr (.inr (.inr (va_up (fun _ => none) 0 (some q21))))))) :: (q15, .inl (ac 4, 2, .inr (.inr (.inr (.inr (va_up (va_up (fun _ => none) 0 (some q16)) 1 (some q18))))))) :: t10) (rest := [.ref q23, .int (1), .ref q20]) hP hD hS [] (kcX4_init l D ac q23) cd_X4_init ic_X4 im_X4_init (List.mem_of_getElem? (i := 2) rfl) rfl yk_X4_init ⟨by decide, by decide⟩ rfl hl.1 rfl (Nat.le_of_ble_eq_true rfl) (by decide) (by decide) dX7_init_162 (fun u24 H locs hP hD hS => ?_)
  have hP : va_P D vwCl ((a, .inr (7, [.ref q0, .ref q2, .ref q4, .ref q6, .ref q8, .ref q10, .ref q12, .ref q15, .ref q14, .ref q20, .int 0, .int 0])) :: (q20, .inl (ac 5, 4, .inr (.inr (.inr (.inr (va_up (fun _ => none) 0 (some q21))))))) :: (q15, .inl (ac 4, 2, .inr (.inr (.inr (.inr (va_up (va_up (fun _ => none) 0 (some q16)) 1 (some q18))))))) :: (ap t10 (shetW ac q23 u24))) H := hP
  have hD : va_D A ((a, .inr (7, [.ref q0, .ref q2, .ref q4, .ref q6, .ref q8, .ref q10, .ref q12, .ref q15, .ref q14, .ref q20, .int 0, .int 0])) :: (q20, .inl (ac 5, 4, .inr (.inr (.inr (.inr (va_up (fun _ => none) 0 (some q21))))))) :: (q15, .inl (ac 4, 2, .inr (.inr (.inr (.inr (va_up (va_up (fun _ => none) 0 (some q16)) 1 (some q18))))))) :: (ap t10 (shetW ac q23 u24))) := hD
  refine va_astq C.x C.b C.K hP hD hS 1 5 ((t10).length + 3) 4 rfl rfl at_app rfl (by unfold vp_in; decide) dX7_init_165 (fun H locs hP hD hS => ?_)
  have hP : va_P D vwCl ((a, .inr (7, [.ref q0, .ref q2, .ref q4, .ref q6, .ref q8, .ref q10, .ref q12, .ref q15, .ref q14, .ref q20, .int 0, .int 0])) :: (q20, .inl (ac 5, 4, .inr (.inr (.inr (.inr (va_up (va_up (fun _ => none) 0 (some q21)) 1 (some q23))))))) :: (q15, .inl (ac 4, 2, .inr (.inr (.inr (.inr (va_up (va_up (fun _ => none) 0 (some q16)) 1 (some q18))))))) :: (ap t10 (shetW ac q23 u24))) H := hP
  have hD : va_D A ((a, .inr (7, [.ref q0, .ref q2, .ref q4, .ref q6, .ref q8, .ref q10, .ref q12, .ref q15, .ref q14, .ref q20, .int 0, .int 0])) :: (q20, .inl (ac 5, 4, .inr (.inr (.inr (.inr (va_up (va_up (fun _ => none) 0 (some q21)) 1 (some q23))))))) :: (q15, .inl (ac 4, 2, .inr (.inr (.inr (.inr (va_up (va_up (fun _ => none) 0 (some q16)) 1 (some q18))))))) :: (ap t10 (shetW ac q23 u24))) := hD
  obtain ⟨t11, ht11⟩ : ∃ z : va_W, z = (ap t10 (shetW ac q23 u24)) := ⟨_, rfl⟩
  rw [← ht11] at hP hD
  refine lv_iinc C.x C.b dX7_init_166 hl (k := 0) (x := 1) rfl (v := 2) (by decide) (by decide) rfl (fun ls hl => ?_)
  have hl : lv_has ls 2 [(1, .int 2), (0, .ref a)] := hl
  refine lv_goto C.x C.b dX7_init_169 (tgt := 148) rfl ?_
  refine lv_iload_n C.x C.b dX7_init_148 rfl (lv_at hl 0 rfl) ?_
  refine lv_iconst C.x C.b dX7_init_149 (v := 4) (by decide) ?_
  refine lv_icmp_ge C.x C.b dX7_init_150 (tgt := 172) rfl (fun z => absurd z (by decide)) (fun _ => ?_)
  refine lv_aload_n C.x C.b dX7_init_153 rfl (lv_at hl 1 rfl) ?_
  refine va_get (D := D) (ci := 7) (v := .ref q20) (C := RX7) (T := TX7) (N := 12) C.x C.b C.t inX7 C.ow C.K hP 0 rfl rfl 9 (by decide) (C.w fl_X7_64) (fun _ h9 => h9) rfl dX7_init_154 ?_
  refine lv_iload_n C.x C.b dX7_init_157 rfl (lv_at hl 0 rfl) ?_
  refine va_new (ci := 4) (fs := [.null, .int 0, .int 0]) (C := RX4) (T := TX4) (N := 3) C.x C.b C.t inX4 tyX4 tyX4_ok C.ow (C.w kl_X7_62) (C.w ki_X4) (C.w ic_X4) C.K hP hD hS C.hA rfl (fun j hj => by rcases (show j = 0 ∨ j = 1 ∨ j = 2 by omega) with rfl | rfl | rfl <;> rfl) (by decide) (by decide) dX7_init_158 (fun q25 H hP hD hS => ?_)
  have hP : va_P D vwCl (ap ((a, .inr (7, [.ref q0, .ref q2, .ref q4, .ref q6, .ref q8, .ref q10, .ref q12, .ref q15, .ref q14, .ref q20, .int 0, .int 0])) :: (q20, .inl (ac 5, 4, .inr (.inr (.inr (.inr (va_up (va_up (fun _ => none) 0 (some q21)) 1 (some q23))))))) :: (q15, .inl (ac 4, 2, .inr (.inr (.inr (.inr (va_up (va_up (fun _ => none) 0 (some q16)) 1 (some q18))))))) :: t11) [(q25, .inr (4, [.null, .int 0, .int 0]))]) H := hP
  have hD : va_D A (ap ((a, .inr (7, [.ref q0, .ref q2, .ref q4, .ref q6, .ref q8, .ref q10, .ref q12, .ref q15, .ref q14, .ref q20, .int 0, .int 0])) :: (q20, .inl (ac 5, 4, .inr (.inr (.inr (.inr (va_up (va_up (fun _ => none) 0 (some q21)) 1 (some q23))))))) :: (q15, .inl (ac 4, 2, .inr (.inr (.inr (.inr (va_up (va_up (fun _ => none) 0 (some q16)) 1 (some q18))))))) :: t11) [(q25, .inr (4, [.null, .int 0, .int 0]))]) := hD
  refine lv_dup C.x C.b dX7_init_161 rfl ?_
  refine k_initN C (wr := (a, .inr (7, [.ref q0, .ref q2, .ref q4, .ref q6, .ref q8, .ref q10, .ref q12, .ref q15, .ref q14, .ref q20, .int 0, .int 0])) :: (q20, .inl (ac 5, 4, .inr (.inr (.inr (.inr (va_up (va_up (fun _ => none) 0 (some q21)) 1 (some q23))))))) :: (q15, .inl (ac 4, 2, .inr (.inr (.inr (.inr (va_up (va_up (fun _ => none) 0 (some q16)) 1 (some q18))))))) :: t11) (rest := [.ref q25, .int (2), .ref q20]) hP hD hS [] (kcX4_init l D ac q25) cd_X4_init ic_X4 im_X4_init (List.mem_of_getElem? (i := 2) rfl) rfl yk_X4_init ⟨by decide, by decide⟩ rfl hl.1 rfl (Nat.le_of_ble_eq_true rfl) (by decide) (by decide) dX7_init_162 (fun u26 H locs hP hD hS => ?_)
  have hP : va_P D vwCl ((a, .inr (7, [.ref q0, .ref q2, .ref q4, .ref q6, .ref q8, .ref q10, .ref q12, .ref q15, .ref q14, .ref q20, .int 0, .int 0])) :: (q20, .inl (ac 5, 4, .inr (.inr (.inr (.inr (va_up (va_up (fun _ => none) 0 (some q21)) 1 (some q23))))))) :: (q15, .inl (ac 4, 2, .inr (.inr (.inr (.inr (va_up (va_up (fun _ => none) 0 (some q16)) 1 (some q18))))))) :: (ap t11 (shetW ac q25 u26))) H := hP
  have hD : va_D A ((a, .inr (7, [.ref q0, .ref q2, .ref q4, .ref q6, .ref q8, .ref q10, .ref q12, .ref q15, .ref q14, .ref q20, .int 0, .int 0])) :: (q20, .inl (ac 5, 4, .inr (.inr (.inr (.inr (va_up (va_up (fun _ => none) 0 (some q21)) 1 (some q23))))))) :: (q15, .inl (ac 4, 2, .inr (.inr (.inr (.inr (va_up (va_up (fun _ => none) 0 (some q16)) 1 (some q18))))))) :: (ap t11 (shetW ac q25 u26))) := hD
  refine va_astq C.x C.b C.K hP hD hS 1 5 ((t11).length + 3) 4 rfl rfl at_app rfl (by unfold vp_in; decide) dX7_init_165 (fun H locs hP hD hS => ?_)
  have hP : va_P D vwCl ((a, .inr (7, [.ref q0, .ref q2, .ref q4, .ref q6, .ref q8, .ref q10, .ref q12, .ref q15, .ref q14, .ref q20, .int 0, .int 0])) :: (q20, .inl (ac 5, 4, .inr (.inr (.inr (.inr (va_up (va_up (va_up (fun _ => none) 0 (some q21)) 1 (some q23)) 2 (some q25))))))) :: (q15, .inl (ac 4, 2, .inr (.inr (.inr (.inr (va_up (va_up (fun _ => none) 0 (some q16)) 1 (some q18))))))) :: (ap t11 (shetW ac q25 u26))) H := hP
  have hD : va_D A ((a, .inr (7, [.ref q0, .ref q2, .ref q4, .ref q6, .ref q8, .ref q10, .ref q12, .ref q15, .ref q14, .ref q20, .int 0, .int 0])) :: (q20, .inl (ac 5, 4, .inr (.inr (.inr (.inr (va_up (va_up (va_up (fun _ => none) 0 (some q21)) 1 (some q23)) 2 (some q25))))))) :: (q15, .inl (ac 4, 2, .inr (.inr (.inr (.inr (va_up (va_up (fun _ => none) 0 (some q16)) 1 (some q18))))))) :: (ap t11 (shetW ac q25 u26))) := hD
  obtain ⟨t12, ht12⟩ : ∃ z : va_W, z = (ap t11 (shetW ac q25 u26)) := ⟨_, rfl⟩
  rw [← ht12] at hP hD
  refine lv_iinc C.x C.b dX7_init_166 hl (k := 0) (x := 2) rfl (v := 3) (by decide) (by decide) rfl (fun ls hl => ?_)
  have hl : lv_has ls 2 [(1, .int 3), (0, .ref a)] := hl
  refine lv_goto C.x C.b dX7_init_169 (tgt := 148) rfl ?_
  refine lv_iload_n C.x C.b dX7_init_148 rfl (lv_at hl 0 rfl) ?_
  refine lv_iconst C.x C.b dX7_init_149 (v := 4) (by decide) ?_
  refine lv_icmp_ge C.x C.b dX7_init_150 (tgt := 172) rfl (fun z => absurd z (by decide)) (fun _ => ?_)
  refine lv_aload_n C.x C.b dX7_init_153 rfl (lv_at hl 1 rfl) ?_
  refine va_get (D := D) (ci := 7) (v := .ref q20) (C := RX7) (T := TX7) (N := 12) C.x C.b C.t inX7 C.ow C.K hP 0 rfl rfl 9 (by decide) (C.w fl_X7_64) (fun _ h9 => h9) rfl dX7_init_154 ?_
  refine lv_iload_n C.x C.b dX7_init_157 rfl (lv_at hl 0 rfl) ?_
  refine va_new (ci := 4) (fs := [.null, .int 0, .int 0]) (C := RX4) (T := TX4) (N := 3) C.x C.b C.t inX4 tyX4 tyX4_ok C.ow (C.w kl_X7_62) (C.w ki_X4) (C.w ic_X4) C.K hP hD hS C.hA rfl (fun j hj => by rcases (show j = 0 ∨ j = 1 ∨ j = 2 by omega) with rfl | rfl | rfl <;> rfl) (by decide) (by decide) dX7_init_158 (fun q27 H hP hD hS => ?_)
  have hP : va_P D vwCl (ap ((a, .inr (7, [.ref q0, .ref q2, .ref q4, .ref q6, .ref q8, .ref q10, .ref q12, .ref q15, .ref q14, .ref q20, .int 0, .int 0])) :: (q20, .inl (ac 5, 4, .inr (.inr (.inr (.inr (va_up (va_up (va_up (fun _ => none) 0 (some q21)) 1 (some q23)) 2 (some q25))))))) :: (q15, .inl (ac 4, 2, .inr (.inr (.inr (.inr (va_up (va_up (fun _ => none) 0 (some q16)) 1 (some q18))))))) :: t12) [(q27, .inr (4, [.null, .int 0, .int 0]))]) H := hP
  have hD : va_D A (ap ((a, .inr (7, [.ref q0, .ref q2, .ref q4, .ref q6, .ref q8, .ref q10, .ref q12, .ref q15, .ref q14, .ref q20, .int 0, .int 0])) :: (q20, .inl (ac 5, 4, .inr (.inr (.inr (.inr (va_up (va_up (va_up (fun _ => none) 0 (some q21)) 1 (some q23)) 2 (some q25))))))) :: (q15, .inl (ac 4, 2, .inr (.inr (.inr (.inr (va_up (va_up (fun _ => none) 0 (some q16)) 1 (some q18))))))) :: t12) [(q27, .inr (4, [.null, .int 0, .int 0]))]) := hD
  refine lv_dup C.x C.b dX7_init_161 rfl ?_
  refine k_initN C (wr := (a, .inr (7, [.ref q0, .ref q2, .ref q4, .ref q6, .ref q8, .ref q10, .ref q12, .ref q15, .ref q14, .ref q20, .int 0, .int 0])) :: (q20, .inl (ac 5, 4, .inr (.inr (.inr (.inr (va_up (va_up (va_up (fun _ => none) 0 (some q21)) 1 (some q23)) 2 (some q25))))))) :: (q15, .inl (ac 4, 2, .inr (.inr (.inr (.inr (va_up (va_up (fun _ => none) 0 (some q16)) 1 (some q18))))))) :: t12) (rest := [.ref q27, .int (3), .ref q20]) hP hD hS [] (kcX4_init l D ac q27) cd_X4_init ic_X4 im_X4_init (List.mem_of_getElem? (i := 2) rfl) rfl yk_X4_init ⟨by decide, by decide⟩ rfl hl.1 rfl (Nat.le_of_ble_eq_true rfl) (by decide) (by decide) dX7_init_162 (fun u28 H locs hP hD hS => ?_)
  have hP : va_P D vwCl ((a, .inr (7, [.ref q0, .ref q2, .ref q4, .ref q6, .ref q8, .ref q10, .ref q12, .ref q15, .ref q14, .ref q20, .int 0, .int 0])) :: (q20, .inl (ac 5, 4, .inr (.inr (.inr (.inr (va_up (va_up (va_up (fun _ => none) 0 (some q21)) 1 (some q23)) 2 (some q25))))))) :: (q15, .inl (ac 4, 2, .inr (.inr (.inr (.inr (va_up (va_up (fun _ => none) 0 (some q16)) 1 (some q18))))))) :: (ap t12 (shetW ac q27 u28))) H := hP
  have hD : va_D A ((a, .inr (7, [.ref q0, .ref q2, .ref q4, .ref q6, .ref q8, .ref q10, .ref q12, .ref q15, .ref q14, .ref q20, .int 0, .int 0])) :: (q20, .inl (ac 5, 4, .inr (.inr (.inr (.inr (va_up (va_up (va_up (fun _ => none) 0 (some q21)) 1 (some q23)) 2 (some q25))))))) :: (q15, .inl (ac 4, 2, .inr (.inr (.inr (.inr (va_up (va_up (fun _ => none) 0 (some q16)) 1 (some q18))))))) :: (ap t12 (shetW ac q27 u28))) := hD
  refine va_astq C.x C.b C.K hP hD hS 1 5 ((t12).length + 3) 4 rfl rfl at_app rfl (by unfold vp_in; decide) dX7_init_165 (fun H locs hP hD hS => ?_)
  have hP : va_P D vwCl ((a, .inr (7, [.ref q0, .ref q2, .ref q4, .ref q6, .ref q8, .ref q10, .ref q12, .ref q15, .ref q14, .ref q20, .int 0, .int 0])) :: (q20, .inl (ac 5, 4, .inr (.inr (.inr (.inr (va_up (va_up (va_up (va_up (fun _ => none) 0 (some q21)) 1 (some q23)) 2 (some q25)) 3 (some q27))))))) :: (q15, .inl (ac 4, 2, .inr (.inr (.inr (.inr (va_up (va_up (fun _ => none) 0 (some q16)) 1 (some q18))))))) :: (ap t12 (shetW ac q27 u28))) H := hP
  have hD : va_D A ((a, .inr (7, [.ref q0, .ref q2, .ref q4, .ref q6, .ref q8, .ref q10, .ref q12, .ref q15, .ref q14, .ref q20, .int 0, .int 0])) :: (q20, .inl (ac 5, 4, .inr (.inr (.inr (.inr (va_up (va_up (va_up (va_up (fun _ => none) 0 (some q21)) 1 (some q23)) 2 (some q25)) 3 (some q27))))))) :: (q15, .inl (ac 4, 2, .inr (.inr (.inr (.inr (va_up (va_up (fun _ => none) 0 (some q16)) 1 (some q18))))))) :: (ap t12 (shetW ac q27 u28))) := hD
  obtain ⟨t13, ht13⟩ : ∃ z : va_W, z = (ap t12 (shetW ac q27 u28)) := ⟨_, rfl⟩
  rw [← ht13] at hP hD
  refine lv_iinc C.x C.b dX7_init_166 hl (k := 0) (x := 3) rfl (v := 4) (by decide) (by decide) rfl (fun ls hl => ?_)
  have hl : lv_has ls 2 [(1, .int 4), (0, .ref a)] := hl
  refine lv_goto C.x C.b dX7_init_169 (tgt := 148) rfl ?_
  refine lv_iload_n C.x C.b dX7_init_148 rfl (lv_at hl 0 rfl) ?_
  refine lv_iconst C.x C.b dX7_init_149 (v := 4) (by decide) ?_
  refine lv_icmp_ge C.x C.b dX7_init_150 (tgt := 172) rfl (fun _ => ?_) (fun z => absurd (by decide) z)
  subst ht13
  subst ht12
  subst ht11
  subst ht10
  subst ht9
  subst ht8
  subst ht7
  subst ht6
  subst ht5
  subst ht4
  subst ht3
  subst ht2
  subst ht1
  subst ht0
  exact fin ([q0, q2, q4, q6, q8, q10, q12, q14, q15, q16, q18, q20, q21, q23, q25, q27], [u1, u3, u5, u7, u9, u11, u17, u19, u22, u24, u26, u28], u13) H locs ls _ _ 172 hP hD hS (by decide) (by decide) dX7_init_172
