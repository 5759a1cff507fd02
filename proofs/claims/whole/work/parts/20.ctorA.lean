/-! constructors -/
theorem dX6_init_0 : decode cX6_init 0 = .ok (.aload_n 0, 1) := by decide +kernel
theorem dX6_init_1 : decode cX6_init 1 = .ok (.invokespecial 3, 3) := by decide +kernel
theorem dX6_init_4 : decode cX6_init 4 = .ok (.aload_n 0, 1) := by decide +kernel
theorem dX6_init_5 : decode cX6_init 5 = .ok (.sipush 320, 3) := by decide +kernel
theorem dX6_init_8 : decode cX6_init 8 = .ok (.newarray .byte, 2) := by decide +kernel
theorem dX6_init_10 : decode cX6_init 10 = .ok (.putfield 9, 3) := by decide +kernel
theorem dX6_init_13 : decode cX6_init 13 = .ok (.return_, 1) := by decide +kernel
abbrev tapeW (ac : Nat → ClassId) (a : Nat) (u : List Nat) : va_W := (a, .inr (6, [.ref (u.getD 0 0), .int 0])) :: (ap [] [((u.getD 0 0), .inl (ac 2, 320, .inl (fun _ => 0)))])
abbrev rmKX6 : Room := { frames := 1, cells := 1, slots := 320, locals := 12 }
set_option maxHeartbeats 20000000 in
set_option maxRecDepth 20000 in
theorem kcX6_init (l : Launch) (D : va_G) (ac : Nat → ClassId) (a : Nat) : KT l D ac yX6_init cX6_init 1 rmKX6 [.ref a] (a, .inr (6, [.null, .int 0])) (fun u : List Nat => tapeW ac a u) := by
  refine KT.of (by decide) (Nat.le_of_ble_eq_true rfl) rfl (fun p e s m below meth c ls A Q C hl hP hD hS fin => ?_)
  generalize hH : s.heap = H at hP
  have hS0 : va_S A s.heap H [] := by rw [← hH]; exact hS
  clear hS
  have hS := hS0
  refine lv_aload_n C.x C.b dX6_init_0 rfl (lv_at hl 0 rfl) ?_
  refine k_obj C hl.1 ml_X6_3 (by decide) (by decide) dX6_init_1 ?_
  refine lv_aload_n C.x C.b dX6_init_4 rfl (lv_at hl 0 rfl) ?_
  refine lv_sipush C.x C.b dX6_init_5 (v := 320) (by decide) ?_
  refine k_newb C hP hD hS 320 (by decide) (by decide) (by decide) (by decide) (by decide) dX6_init_8 (fun q0 H hP hD hS => ?_)
  have hP : va_P D vwCl ((a, .inr (6, [.null, .int 0])) :: (ap [] [(q0, .inl (ac 2, 320, .inl (fun _ => 0)))])) H := hP
  have hD : va_D A ((a, .inr (6, [.null, .int 0])) :: (ap [] [(q0, .inl (ac 2, 320, .inl (fun _ => 0)))])) := hD
  refine va_putF (D := D) (ci := 6) (v := .ref q0) (ty := .array .byte) (C := RX6) (T := TX6) (N := 2) C.x C.b C.t inX6 tyX6 tyX6_ok nmX6 C.ow C.K hP hD hS 0 rfl rfl 0 (by decide) (C.w fl_X6_9) (fun _ h9 => h9) rfl C.2.2.2.2.1 rfl (by decide +kernel) rfl rfl (Nat.le_of_ble_eq_true rfl) dX6_init_10 (fun H locs hP hD hS => ?_)
  have hP : va_P D vwCl ((a, .inr (6, [.ref q0, .int 0])) :: (ap [] [(q0, .inl (ac 2, 320, .inl (fun _ => 0)))])) H := hP
  have hD : va_D A ((a, .inr (6, [.ref q0, .int 0])) :: (ap [] [(q0, .inl (ac 2, 320, .inl (fun _ => 0)))])) := hD
  exact fin [q0] H locs ls _ _ 13 hP hD hS (by decide) (by decide) dX6_init_13
theorem dX4_init_0 : decode cX4_init 0 = .ok (.aload_n 0, 1) := by decide +kernel
theorem dX4_init_1 : decode cX4_init 1 = .ok (.invokespecial 3, 3) := by decide +kernel
theorem dX4_init_4 : decode cX4_init 4 = .ok (.aload_n 0, 1) := by decide +kernel
theorem dX4_init_5 : decode cX4_init 5 = .ok (.bipush 40, 2) := by decide +kernel
theorem dX4_init_7 : decode cX4_init 7 = .ok (.newarray .int, 2) := by decide +kernel
theorem dX4_init_9 : decode cX4_init 9 = .ok (.putfield 9, 3) := by decide +kernel
theorem dX4_init_12 : decode cX4_init 12 = .ok (.aload_n 0, 1) := by decide +kernel
theorem dX4_init_13 : decode cX4_init 13 = .ok (.iconst (-1), 1) := by decide +kernel
theorem dX4_init_14 : decode cX4_init 14 = .ok (.putfield 15, 3) := by decide +kernel
theorem dX4_init_17 : decode cX4_init 17 = .ok (.return_, 1) := by decide +kernel
abbrev shetW (ac : Nat → ClassId) (a : Nat) (u : List Nat) : va_W := (a, .inr (4, [.ref (u.getD 0 0), .int ((-1)), .int 0])) :: (ap [] [((u.getD 0 0), .inl (ac 0, 40, .inl (fun _ => 0)))])
abbrev rmKX4 : Room := { frames := 1, cells := 1, slots := 40, locals := 12 }
set_option maxHeartbeats 20000000 in
set_option maxRecDepth 20000 in
theorem kcX4_init (l : Launch) (D : va_G) (ac : Nat → ClassId) (a : Nat) : KT l D ac yX4_init cX4_init 1 rmKX4 [.ref a] (a, .inr (4, [.null, .int 0, .int 0])) (fun u : List Nat => shetW ac a u) := by
  refine KT.of (by decide) (Nat.le_of_ble_eq_true rfl) rfl (fun p e s m below meth c ls A Q C hl hP hD hS fin => ?_)
  generalize hH : s.heap = H at hP
  have hS0 : va_S A s.heap H [] := by rw [← hH]; exact hS
  clear hS
  have hS := hS0
  refine lv_aload_n C.x C.b dX4_init_0 rfl (lv_at hl 0 rfl) ?_
  refine k_obj C hl.1 ml_X4_3 (by decide) (by decide) dX4_init_1 ?_
  refine lv_aload_n C.x C.b dX4_init_4 rfl (lv_at hl 0 rfl) ?_
  refine lv_bipush C.x C.b dX4_init_5 (v := 40) (by decide) ?_
  refine k_newi C hP hD hS 40 (by decide) (by decide) (by decide) (by decide) (by decide) dX4_init_7 (fun q0 H hP hD hS => ?_)
  have hP : va_P D vwCl ((a, .inr (4, [.null, .int 0, .int 0])) :: (ap [] [(q0, .inl (ac 0, 40, .inl (fun _ => 0)))])) H := hP
  have hD : va_D A ((a, .inr (4, [.null, .int 0, .int 0])) :: (ap [] [(q0, .inl (ac 0, 40, .inl (fun _ => 0)))])) := hD
  refine va_putF (D := D) (ci := 4) (v := .ref q0) (ty := .array .int) (C := RX4) (T := TX4) (N := 3) C.x C.b C.t inX4 tyX4 tyX4_ok nmX4 C.ow C.K hP hD hS 0 rfl rfl 0 (by decide) (C.w fl_X4_9) (fun _ h9 => h9) rfl C.2.2.2.2.1 rfl (by decide +kernel) rfl rfl (Nat.le_of_ble_eq_true rfl) dX4_init_9 (fun H locs hP hD hS => ?_)
  have hP : va_P D vwCl ((a, .inr (4, [.ref q0, .int 0, .int 0])) :: (ap [] [(q0, .inl (ac 0, 40, .inl (fun _ => 0)))])) H := hP
  have hD : va_D A ((a, .inr (4, [.ref q0, .int 0, .int 0])) :: (ap [] [(q0, .inl (ac 0, 40, .inl (fun _ => 0)))])) := hD
  refine lv_aload_n C.x C.b dX4_init_12 rfl (lv_at hl 0 rfl) ?_
  refine lv_iconst C.x C.b dX4_init_13 (v := (-1)) (by decide) ?_
  refine va_put (D := D) (ci := 4) (v := .int ((-1))) (ty := .int) (C := RX4) (T := TX4) (N := 3) C.x C.b C.t inX4 tyX4 tyX4_ok nmX4 C.ow C.K hP hD hS 0 rfl rfl 1 (by decide) (C.w fl_X4_15) (fun _ h9 => h9) rfl (by decide +kernel) rfl rfl (Nat.le_of_ble_eq_true rfl) dX4_init_14 (fun H locs hP hD hS => ?_)
  have hP : va_P D vwCl ((a, .inr (4, [.ref q0, .int ((-1)), .int 0])) :: (ap [] [(q0, .inl (ac 0, 40, .inl (fun _ => 0)))])) H := hP
  have hD : va_D A ((a, .inr (4, [.ref q0, .int ((-1)), .int 0])) :: (ap [] [(q0, .inl (ac 0, 40, .inl (fun _ => 0)))])) := hD
  exact fin [q0] H locs ls _ _ 17 hP hD hS (by decide) (by decide) dX4_init_17
theorem dX1_init_0 : decode cX1_init 0 = .ok (.aload_n 0, 1) := by decide +kernel
theorem dX1_init_1 : decode cX1_init 1 = .ok (.invokespecial 3, 3) := by decide +kernel
theorem dX1_init_4 : decode cX1_init 4 = .ok (.aload_n 0, 1) := by decide +kernel
theorem dX1_init_5 : decode cX1_init 5 = .ok (.bipush 24, 2) := by decide +kernel
theorem dX1_init_7 : decode cX1_init 7 = .ok (.newarray .int, 2) := by decide +kernel
theorem dX1_init_9 : decode cX1_init 9 = .ok (.putfield 9, 3) := by decide +kernel
theorem dX1_init_12 : decode cX1_init 12 = .ok (.aload_n 0, 1) := by decide +kernel
theorem dX1_init_13 : decode cX1_init 13 = .ok (.bipush 24, 2) := by decide +kernel
theorem dX1_init_15 : decode cX1_init 15 = .ok (.newarray .int, 2) := by decide +kernel
theorem dX1_init_17 : decode cX1_init 17 = .ok (.putfield 15, 3) := by decide +kernel
theorem dX1_init_20 : decode cX1_init 20 = .ok (.aload_n 0, 1) := by decide +kernel
theorem dX1_init_21 : decode cX1_init 21 = .ok (.bipush 24, 2) := by decide +kernel
theorem dX1_init_23 : decode cX1_init 23 = .ok (.newarray .boolean, 2) := by decide +kernel
theorem dX1_init_25 : decode cX1_init 25 = .ok (.putfield 18, 3) := by decide +kernel
theorem dX1_init_28 : decode cX1_init 28 = .ok (.aload_n 0, 1) := by decide +kernel
theorem dX1_init_29 : decode cX1_init 29 = .ok (.bipush 6, 2) := by decide +kernel
theorem dX1_init_31 : decode cX1_init 31 = .ok (.bipush 10, 2) := by decide +kernel
theorem dX1_init_33 : decode cX1_init 33 = .ok (.multianewarray 22 2, 4) := by decide +kernel
theorem dX1_init_37 : decode cX1_init 37 = .ok (.putfield 24, 3) := by decide +kernel
theorem dX1_init_40 : decode cX1_init 40 = .ok (.aload_n 0, 1) := by decide +kernel
theorem dX1_init_41 : decode cX1_init 41 = .ok (.bipush 6, 2) := by decide +kernel
theorem dX1_init_43 : decode cX1_init 43 = .ok (.newarray .int, 2) := by decide +kernel
theorem dX1_init_45 : decode cX1_init 45 = .ok (.putfield 27, 3) := by decide +kernel
theorem dX1_init_48 : decode cX1_init 48 = .ok (.aload_n 0, 1) := by decide +kernel
theorem dX1_init_49 : decode cX1_init 49 = .ok (.bipush 60, 2) := by decide +kernel
theorem dX1_init_51 : decode cX1_init 51 = .ok (.newarray .int, 2) := by decide +kernel
theorem dX1_init_53 : decode cX1_init 53 = .ok (.putfield 30, 3) := by decide +kernel
theorem dX1_init_56 : decode cX1_init 56 = .ok (.aload_n 0, 1) := by decide +kernel
theorem dX1_init_57 : decode cX1_init 57 = .ok (.bipush 60, 2) := by decide +kernel
theorem dX1_init_59 : decode cX1_init 59 = .ok (.newarray .int, 2) := by decide +kernel
theorem dX1_init_61 : decode cX1_init 61 = .ok (.putfield 33, 3) := by decide +kernel
theorem dX1_init_64 : decode cX1_init 64 = .ok (.aload_n 0, 1) := by decide +kernel
theorem dX1_init_65 : decode cX1_init 65 = .ok (.bipush 60, 2) := by decide +kernel
theorem dX1_init_67 : decode cX1_init 67 = .ok (.newarray .int, 2) := by decide +kernel
theorem dX1_init_69 : decode cX1_init 69 = .ok (.putfield 36, 3) := by decide +kernel
theorem dX1_init_72 : decode cX1_init 72 = .ok (.aload_n 0, 1) := by decide +kernel
theorem dX1_init_73 : decode cX1_init 73 = .ok (.bipush 24, 2) := by decide +kernel
theorem dX1_init_75 : decode cX1_init 75 = .ok (.newarray .int, 2) := by decide +kernel
theorem dX1_init_77 : decode cX1_init 77 = .ok (.putfield 39, 3) := by decide +kernel
theorem dX1_init_80 : decode cX1_init 80 = .ok (.return_, 1) := by decide +kernel
abbrev landW (ac : Nat → ClassId) (a : Nat) (u : List Nat) : va_W := (a, .inr (1, [.ref (u.getD 0 0), .ref (u.getD 1 0), .ref (u.getD 2 0), .ref (u.getD 3 0), .ref (u.getD 4 0), .ref (u.getD 5 0), .ref (u.getD 6 0), .ref (u.getD 7 0), .ref (u.getD 8 0), .int 0, .int 0, .int 0])) :: (ap (ap (ap (ap (ap (ap (ap (ap (ap [] [((u.getD 0 0), .inl (ac 0, 24, .inl (fun _ => 0)))]) [((u.getD 1 0), .inl (ac 0, 24, .inl (fun _ => 0)))]) [((u.getD 2 0), .inl (ac 1, 24, .inl (fun _ => 0)))]) (rowsW ac (u.getD 3 0) 6 10)) [((u.getD 4 0), .inl (ac 0, 6, .inl (fun _ => 0)))]) [((u.getD 5 0), .inl (ac 0, 60, .inl (fun _ => 0)))]) [((u.getD 6 0), .inl (ac 0, 60, .inl (fun _ => 0)))]) [((u.getD 7 0), .inl (ac 0, 60, .inl (fun _ => 0)))]) [((u.getD 8 0), .inl (ac 0, 24, .inl (fun _ => 0)))])
abbrev rmKX1 : Room := { frames := 1, cells := 15, slots := 348, locals := 12 }
set_option maxHeartbeats 20000000 in
set_option maxRecDepth 20000 in
theorem kcX1_init (l : Launch) (D : va_G) (ac : Nat → ClassId) (a : Nat) : KT l D ac yX1_init cX1_init 1 rmKX1 [.ref a] (a, .inr (1, [.null, .null, .null, .null, .null, .null, .null, .null, .null, .int 0, .int 0, .int 0])) (fun u : List Nat => landW ac a u) := by
  refine KT.of (by decide) (Nat.le_of_ble_eq_true rfl) rfl (fun p e s m below meth c ls A Q C hl hP hD hS fin => ?_)
  generalize hH : s.heap = H at hP
  have hS0 : va_S A s.heap H [] := by rw [← hH]; exact hS
  clear hS
  have hS := hS0
  refine lv_aload_n C.x C.b dX1_init_0 rfl (lv_at hl 0 rfl) ?_
  refine k_obj C hl.1 ml_X1_3 (by decide) (by decide) dX1_init_1 ?_
  refine lv_aload_n C.x C.b dX1_init_4 rfl (lv_at hl 0 rfl) ?_
  refine lv_bipush C.x C.b dX1_init_5 (v := 24) (by decide) ?_
  refine k_newi C hP hD hS 24 (by decide) (by decide) (by decide) (by decide) (by decide) dX1_init_7 (fun q0 H hP hD hS => ?_)
  have hP : va_P D vwCl ((a, .inr (1, [.null, .null, .null, .null, .null, .null, .null, .null, .null, .int 0, .int 0, .int 0])) :: (ap [] [(q0, .inl (ac 0, 24, .inl (fun _ => 0)))])) H := hP
  have hD : va_D A ((a, .inr (1, [.null, .null, .null, .null, .null, .null, .null, .null, .null, .int 0, .int 0, .int 0])) :: (ap [] [(q0, .inl (ac 0, 24, .inl (fun _ => 0)))])) := hD
  refine va_putF (D := D) (ci := 1) (v := .ref q0) (ty := .array .int) (C := RX1) (T := TX1) (N := 12) C.x C.b C.t inX1 tyX1 tyX1_ok nmX1 C.ow C.K hP hD hS 0 rfl rfl 0 (by decide) (C.w fl_X1_9) (fun _ h9 => h9) rfl C.2.2.2.2.1 rfl (by decide +kernel) rfl rfl (Nat.le_of_ble_eq_true rfl) dX1_init_9 (fun H locs hP hD hS => ?_)
  have hP : va_P D vwCl ((a, .inr (1, [.ref q0, .null, .null, .null, .null, .null, .null, .null, .null, .int 0, .int 0, .int 0])) :: (ap [] [(q0, .inl (ac 0, 24, .inl (fun _ => 0)))])) H := hP
  have hD : va_D A ((a, .inr (1, [.ref q0, .null, .null, .null, .null, .null, .null, .null, .null, .int 0, .int 0, .int 0])) :: (ap [] [(q0, .inl (ac 0, 24, .inl (fun _ => 0)))])) := hD
  refine lv_aload_n C.x C.b dX1_init_12 rfl (lv_at hl 0 rfl) ?_
  refine lv_bipush C.x C.b dX1_init_13 (v := 24) (by decide) ?_
  refine k_newi C hP hD hS 24 (by decide) (by decide) (by decide) (by decide) (by decide) dX1_init_15 (fun q1 H hP hD hS => ?_)
  have hP : va_P D vwCl ((a, .inr (1, [.ref q0, .null, .null, .null, .null, .null, .null, .null, .null, .int 0, .int 0, .int 0])) :: (ap (ap [] [(q0, .inl (ac 0, 24, .inl (fun _ => 0)))]) [(q1, .inl (ac 0, 24, .inl (fun _ => 0)))])) H := hP
  have hD : va_D A ((a, .inr (1, [.ref q0, .null, .null, .null, .null, .null, .null, .null, .null, .int 0, .int 0, .int 0])) :: (ap (ap [] [(q0, .inl (ac 0, 24, .inl (fun _ => 0)))]) [(q1, .inl (ac 0, 24, .inl (fun _ => 0)))])) := hD
  refine va_putF (D := D) (ci := 1) (v := .ref q1) (ty := .array .int) (C := RX1) (T := TX1) (N := 12) C.x C.b C.t inX1 tyX1 tyX1_ok nmX1 C.ow C.K hP hD hS 0 rfl rfl 1 (by decide) (C.w fl_X1_15) (fun _ h9 => h9) rfl C.2.2.2.2.1 rfl (by decide +kernel) rfl rfl (Nat.le_of_ble_eq_true rfl) dX1_init_17 (fun H locs hP hD hS => ?_)
  have hP : va_P D vwCl ((a, .inr (1, [.ref q0, .ref q1, .null, .null, .null, .null, .null, .null, .null, .int 0, .int 0, .int 0])) :: (ap (ap [] [(q0, .inl (ac 0, 24, .inl (fun _ => 0)))]) [(q1, .inl (ac 0, 24, .inl (fun _ => 0)))])) H := hP
  have hD : va_D A ((a, .inr (1, [.ref q0, .ref q1, .null, .null, .null, .null, .null, .null, .null, .int 0, .int 0, .int 0])) :: (ap (ap [] [(q0, .inl (ac 0, 24, .inl (fun _ => 0)))]) [(q1, .inl (ac 0, 24, .inl (fun _ => 0)))])) := hD
  refine lv_aload_n C.x C.b dX1_init_20 rfl (lv_at hl 0 rfl) ?_
  refine lv_bipush C.x C.b dX1_init_21 (v := 24) (by decide) ?_
  refine k_newz C hP hD hS 24 (by decide) (by decide) (by decide) (by decide) (by decide) dX1_init_23 (fun q2 H hP hD hS => ?_)
  have hP : va_P D vwCl ((a, .inr (1, [.ref q0, .ref q1, .null, .null, .null, .null, .null, .null, .null, .int 0, .int 0, .int 0])) :: (ap (ap (ap [] [(q0, .inl (ac 0, 24, .inl (fun _ => 0)))]) [(q1, .inl (ac 0, 24, .inl (fun _ => 0)))]) [(q2, .inl (ac 1, 24, .inl (fun _ => 0)))])) H := hP
  have hD : va_D A ((a, .inr (1, [.ref q0, .ref q1, .null, .null, .null, .null, .null, .null, .null, .int 0, .int 0, .int 0])) :: (ap (ap (ap [] [(q0, .inl (ac 0, 24, .inl (fun _ => 0)))]) [(q1, .inl (ac 0, 24, .inl (fun _ => 0)))]) [(q2, .inl (ac 1, 24, .inl (fun _ => 0)))])) := hD
  refine va_putF (D := D) (ci := 1) (v := .ref q2) (ty := .array .boolean) (C := RX1) (T := TX1) (N := 12) C.x C.b C.t inX1 tyX1 tyX1_ok nmX1 C.ow C.K hP hD hS 0 rfl rfl 2 (by decide) (C.w fl_X1_18) (fun _ h9 => h9) rfl C.2.2.2.2.1 rfl (by decide +kernel) rfl rfl (Nat.le_of_ble_eq_true rfl) dX1_init_25 (fun H locs hP hD hS => ?_)
  have hP : va_P D vwCl ((a, .inr (1, [.ref q0, .ref q1, .ref q2, .null, .null, .null, .null, .null, .null, .int 0, .int 0, .int 0])) :: (ap (ap (ap [] [(q0, .inl (ac 0, 24, .inl (fun _ => 0)))]) [(q1, .inl (ac 0, 24, .inl (fun _ => 0)))]) [(q2, .inl (ac 1, 24, .inl (fun _ => 0)))])) H := hP
  have hD : va_D A ((a, .inr (1, [.ref q0, .ref q1, .ref q2, .null, .null, .null, .null, .null, .null, .int 0, .int 0, .int 0])) :: (ap (ap (ap [] [(q0, .inl (ac 0, 24, .inl (fun _ => 0)))]) [(q1, .inl (ac 0, 24, .inl (fun _ => 0)))]) [(q2, .inl (ac 1, 24, .inl (fun _ => 0)))])) := hD
  refine lv_aload_n C.x C.b dX1_init_28 rfl (lv_at hl 0 rfl) ?_
  refine lv_bipush C.x C.b dX1_init_29 (v := 6) (by decide) ?_
  refine lv_bipush C.x C.b dX1_init_31 (v := 10) (by decide) ?_
  refine k_multi C hP hD hS kl_X1_22 6 10 (by decide) (by decide) (by decide) (by decide) (by decide) (by decide) (by decide) (by decide) dX1_init_33 (fun q3 H locs hP hD hS => ?_)
  have hP : va_P D vwCl ((a, .inr (1, [.ref q0, .ref q1, .ref q2, .null, .null, .null, .null, .null, .null, .int 0, .int 0, .int 0])) :: (ap (ap (ap (ap [] [(q0, .inl (ac 0, 24, .inl (fun _ => 0)))]) [(q1, .inl (ac 0, 24, .inl (fun _ => 0)))]) [(q2, .inl (ac 1, 24, .inl (fun _ => 0)))]) (rowsW ac q3 6 10))) H := hP
  have hD : va_D A ((a, .inr (1, [.ref q0, .ref q1, .ref q2, .null, .null, .null, .null, .null, .null, .int 0, .int 0, .int 0])) :: (ap (ap (ap (ap [] [(q0, .inl (ac 0, 24, .inl (fun _ => 0)))]) [(q1, .inl (ac 0, 24, .inl (fun _ => 0)))]) [(q2, .inl (ac 1, 24, .inl (fun _ => 0)))]) (rowsW ac q3 6 10))) := hD
  refine va_putF (D := D) (ci := 1) (v := .ref q3) (ty := .array (.array .int)) (C := RX1) (T := TX1) (N := 12) C.x C.b C.t inX1 tyX1 tyX1_ok nmX1 C.ow C.K hP hD hS 0 rfl rfl 3 (by decide) (C.w fl_X1_24) (fun _ h9 => h9) rfl C.2.2.2.2.1 rfl (by decide +kernel) rfl rfl (Nat.le_of_ble_eq_true rfl) dX1_init_37 (fun H locs hP hD hS => ?_)
  have hP : va_P D vwCl ((a, .inr (1, [.ref q0, .ref q1, .ref q2, .ref q3, .null, .null, .null, .null, .null, .int 0, .int 0, .int 0])) :: (ap (ap (ap (ap [] [(q0, .inl (ac 0, 24, .inl (fun _ => 0)))]) [(q1, .inl (ac 0, 24, .inl (fun _ => 0)))]) [(q2, .inl (ac 1, 24, .inl (fun _ => 0)))]) (rowsW ac q3 6 10))) H := hP
  have hD : va_D A ((a, .inr (1, [.ref q0, .ref q1, .ref q2, .ref q3, .null, .null, .null, .null, .null, .int 0, .int 0, .int 0])) :: (ap (ap (ap (ap [] [(q0, .inl (ac 0, 24, .inl (fun _ => 0)))]) [(q1, .inl (ac 0, 24, .inl (fun _ => 0)))]) [(q2, .inl (ac 1, 24, .inl (fun _ => 0)))]) (rowsW ac q3 6 10))) := hD
  refine lv_aload_n C.x C.b dX1_init_40 rfl (lv_at hl 0 rfl) ?_
  refine lv_bipush C.x C.b dX1_init_41 (v := 6) (by decide) ?_
  refine k_newi C hP hD hS 6 (by decide) (by decide) (by decide) (by decide) (by decide) dX1_init_43 (fun q4 H hP hD hS => ?_)
  have hP : va_P D vwCl ((a, .inr (1, [.ref q0, .ref q1, .ref q2, .ref q3, .null, .null, .null, .null, .null, .int 0, .int 0, .int 0])) :: (ap (ap (ap (ap (ap [] [(q0, .inl (ac 0, 24, .inl (fun _ => 0)))]) [(q1, .inl (ac 0, 24, .inl (fun _ => 0)))]) [(q2, .inl (ac 1, 24, .inl (fun _ => 0)))]) (rowsW ac q3 6 10)) [(q4, .inl (ac 0, 6, .inl (fun _ => 0)))])) H := hP
  have hD : va_D A ((a, .inr (1, [.ref q0, .ref q1, .ref q2, .ref q3, .null, .null, .null, .null, .null, .int 0, .int 0, .int 0])) :: (ap (ap (ap (ap (ap [] [(q0, .inl (ac 0, 24, .inl (fun _ => 0)))]) [(q1, .inl (ac 0, 24, .inl (fun _ => 0)))]) [(q2, .inl (ac 1, 24, .inl (fun _ => 0)))]) (rowsW ac q3 6 10)) [(q4, .inl (ac 0, 6, .inl (fun _ => 0)))])) := hD
  refine va_putF (D := D) (ci := 1) (v := .ref q4) (ty := .array .int) (C := RX1) (T := TX1) (N := 12) C.x C.b C.t inX1 tyX1 tyX1_ok nmX1 C.ow C.K hP hD hS 0 rfl rfl 4 (by decide) (C.w fl_X1_27) (fun _ h9 => h9) rfl C.2.2.2.2.1 rfl (by decide +kernel) rfl rfl (Nat.le_of_ble_eq_true rfl) dX1_init_45 (fun H locs hP hD hS => ?_)
  have hP : va_P D vwCl ((a, .inr (1, [.ref q0, .ref q1, .ref q2, .ref q3, .ref q4, .null, .null, .null, .null, .int 0, .int 0, .int 0])) :: (ap (ap (ap (ap (ap [] [(q0, .inl (ac 0, 24, .inl (fun _ => 0)))]) [(q1, .inl (ac 0, 24, .inl (fun _ => 0)))]) [(q2, .inl (ac 1, 24, .inl (fun _ => 0)))]) (rowsW ac q3 6 10)) [(q4, .inl (ac 0, 6, .inl (fun _ => 0)))])) H := hP
  have hD : va_D A ((a, .inr (1, [.ref q0, .ref q1, .ref q2, .ref q3, .ref q4, .null, .null, .null, .null, .int 0, .int 0, .int 0])) :: (ap (ap (ap (ap (ap [] [(q0, .inl (ac 0, 24, .inl (fun _ => 0)))]) [(q1, .inl (ac 0, 24, .inl (fun _ => 0)))]) [(q2, .inl (ac 1, 24, .inl (fun _ => 0)))]) (rowsW ac q3 6 10)) [(q4, .inl (ac 0, 6, .inl (fun _ => 0)))])) := hD
  refine lv_aload_n C.x C.b dX1_init_48 rfl (lv_at hl 0 rfl) ?_
  refine lv_bipush C.x C.b dX1_init_49 (v := 60) (by decide) ?_
  refine k_newi C hP hD hS 60 (by decide) (by decide) (by decide) (by decide) (by decide) dX1_init_51 (fun q5 H hP hD hS => ?_)
  have hP : va_P D vwCl ((a, .inr (1, [.ref q0, .ref q1, .ref q2, .ref q3, .ref q4, .null, .null, .null, .null, .int 0, .int 0, .int 0])) :: (ap (ap (ap (ap (ap (ap [] [(q0, .inl (ac 0, 24, .inl (fun _ => 0)))]) [(q1, .inl (ac 0, 24, .inl (fun _ => 0)))]) [(q2, .inl (ac 1, 24, .inl (fun _ => 0)))]) (rowsW ac q3 6 10)) [(q4, .inl (ac 0, 6, .inl (fun _ => 0)))]) [(q5, .inl (ac 0, 60, .inl (fun _ => 0)))])) H := hP
  have hD : va_D A ((a, .inr (1, [.ref q0, .ref q1, .ref q2, .ref q3, .ref q4, .null, .null, .null, .null, .int 0, .int 0, .int 0])) :: (ap (ap (ap (ap (ap (ap [] [(q0, .inl (ac 0, 24, .inl (fun _ => 0)))]) [(q1, .inl (ac 0, 24, .inl (fun _ => 0)))]) [(q2, .inl (ac 1, 24, .inl (fun _ => 0)))]) (rowsW ac q3 6 10)) [(q4, .inl (ac 0, 6, .inl (fun _ => 0)))]) [(q5, .inl (ac 0, 60, .inl (fun _ => 0)))])) := hD
  refine va_putF (D := D) (ci := 1) (v := .ref q5) (ty := .array .int) (C := RX1) (T := TX1) (N := 12) C.x C.b C.t inX1 tyX1 tyX1_ok nmX1 C.ow C.K hP hD hS 0 rfl rfl 5 (by decide) (C.w fl_X1_30) (fun _ h9 => h9) rfl C.2.2.2.2.1 rfl (by decide +kernel) rfl rfl (Nat.le_of_ble_eq_true rfl) dX1_init_53 (fun H locs hP hD hS => ?_)
  have hP : va_P D vwCl ((a, .inr (1, [.ref q0, .ref q1, .ref q2, .ref q3, .ref q4, .ref q5, .null, .null, .null, .int 0, .int 0, .int 0])) :: (ap (ap (ap (ap (ap (ap [] [(q0, .inl (ac 0, 24, .inl (fun _ => 0)))]) [(q1, .inl (ac 0, 24, .inl (fun _ => 0)))]) [(q2, .inl (ac 1, 24, .inl (fun _ => 0)))]) (rowsW ac q3 6 10)) [(q4, .inl (ac 0, 6, .inl (fun _ => 0)))]) [(q5, .inl (ac 0, 60, .inl (fun _ => 0)))])) H := hP
  have hD : va_D A ((a, .inr (1, [.ref q0, .ref q1, .ref q2, .ref q3, .ref q4, .ref q5, .null, .null, .null, .int 0, .int 0, .int 0])) :: (ap (ap (ap (ap (ap (ap [] [(q0, .inl (ac 0, 24, .inl (fun _ => 0)))]) [(q1, .inl (ac 0, 24, .inl (fun _ => 0)))]) [(q2, .inl (ac 1, 24, .inl (fun _ => 0)))]) (rowsW ac q3 6 10)) [(q4, .inl (ac 0, 6, .inl (fun _ => 0)))]) [(q5, .inl (ac 0, 60, .inl (fun _ => 0)))])) := hD
  refine lv_aload_n C.x C.b dX1_init_56 rfl (lv_at hl 0 rfl) ?_
  refine lv_bipush C.x C.b dX1_init_57 (v := 60) (by decide) ?_
  refine k_newi C hP hD hS 60 (by decide) (by decide) (by decide) (by decide) (by decide) dX1_init_59 (fun q6 H hP hD hS => ?_)
  have hP : va_P D vwCl ((a, .inr (1, [.ref q0, .ref q1, .ref q2, .ref q3, .ref q4, .ref q5, .null, .null, .null, .int 0, .int 0, .int 0])) :: (ap (ap (ap (ap (ap (ap (ap [] [(q0, .inl (ac 0, 24, .inl (fun _ => 0)))]) [(q1, .inl (ac 0, 24, .inl (fun _ => 0)))]) [(q2, .inl (ac 1, 24, .inl (fun _ => 0)))]) (rowsW ac q3 6 10)) [(q4, .inl (ac 0, 6, .inl (fun _ => 0)))]) [(q5, .inl (ac 0, 60, .inl (fun _ => 0)))]) [(q6, .inl (ac 0, 60, .inl (fun _ => 0)))])) H := hP
  have hD : va_D A ((a, .inr (1, [.ref q0, .ref q1, .ref q2, .ref q3, .ref q4, .ref q5, .null, .null, .null, .int 0, .int 0, .int 0])) :: (ap (ap (ap (ap (ap (ap (ap [] [(q0, .inl (ac 0, 24, .inl (fun _ => 0)))]) [(q1, .inl (ac 0, 24, .inl (fun _ => 0)))]) [(q2, .inl (ac 1, 24, .inl (fun _ => 0)))]) (rowsW ac q3 6 10)) [(q4, .inl (ac 0, 6, .inl (fun _ => 0)))]) [(q5, .inl (ac 0, 60, .inl (fun _ => 0)))]) [(q6, .inl (ac 0, 60, .inl (fun _ => 0)))])) := hD
  refine va_putF (D := D) (ci := 1) (v := .ref q6) (ty := .array .int) (C := RX1) (T := TX1) (N := 12) C.x C.b C.t inX1 tyX1 tyX1_ok nmX1 C.ow C.K hP hD hS 0 rfl rfl 6 (by decide) (C.w fl_X1_33) (fun _ h9 => h9) rfl C.2.2.2.2.1 rfl (by decide +kernel) rfl rfl (Nat.le_of_ble_eq_true rfl) dX1_init_61 (fun H locs hP hD hS => ?_)
  have hP : va_P D vwCl ((a, .inr (1, [.ref q0, .ref q1, .ref q2, .ref q3, .ref q4, .ref q5, .ref q6, .null, .null, .int 0, .int 0, .int 0])) :: (ap (ap (ap (ap (ap (ap (ap [] [(q0, .inl (ac 0, 24, .inl (fun _ => 0)))]) [(q1, .inl (ac 0, 24, .inl (fun _ => 0)))]) [(q2, .inl (ac 1, 24, .inl (fun _ => 0)))]) (rowsW ac q3 6 10)) [(q4, .inl (ac 0, 6, .inl (fun _ => 0)))]) [(q5, .inl (ac 0, 60, .inl (fun _ => 0)))]) [(q6, .inl (ac 0, 60, .inl (fun _ => 0)))])) H := hP
  have hD : va_D A ((a, .inr (1, [.ref q0, .ref q1, .ref q2, .ref q3, .ref q4, .ref q5, .ref q6, .null, .null, .int 0, .int 0, .int 0])) :: (ap (ap (ap (ap (ap (ap (ap [] [(q0, .inl (ac 0, 24, .inl (fun _ => 0)))]) [(q1, .inl (ac 0, 24, .inl (fun _ => 0)))]) [(q2, .inl (ac 1, 24, .inl (fun _ => 0)))]) (rowsW ac q3 6 10)) [(q4, .inl (ac 0, 6, .inl (fun _ => 0)))]) [(q5, .inl (ac 0, 60, .inl (fun _ => 0)))]) [(q6, .inl (ac 0, 60, .inl (fun _ => 0)))])) := hD
  refine lv_aload_n C.x C.b dX1_init_64 rfl (lv_at hl 0 rfl) ?_
  refine lv_bipush C.x C.b dX1_init_65 (v := 60) (by decide) ?_
  refine k_newi C hP hD hS 60 (by decide) (by decide) (by decide) (by decide) (by decide) dX1_init_67 (fun q7 H hP hD hS => ?_)
  have hP : va_P D vwCl ((a, .inr (1, [.ref q0, .ref q1, .ref q2, .ref q3, .ref q4, .ref q5, .ref q6, .null, .null, .int 0, .int 0, .int 0])) :: (ap (ap (ap (ap (ap (ap (ap (ap [] [(q0, .inl (ac 0, 24, .inl (fun _ => 0)))]) [(q1, .inl (ac 0, 24, .inl (fun _ => 0)))]) [(q2, .inl (ac 1, 24, .inl (fun _ => 0)))]) (rowsW ac q3 6 10)) [(q4, .inl (ac 0, 6, .inl (fun _ => 0)))]) [(q5, .inl (ac 0, 60, .inl (fun _ => 0)))]) [(q6, .inl (ac 0, 60, .inl (fun _ => 0)))]) [(q7, .inl (ac 0, 60, .inl (fun _ => 0)))])) H := hP
  have hD : va_D A ((a, .inr (1, [.ref q0, .ref q1, .ref q2, .ref q3, .ref q4, .ref q5, .ref q6, .null, .null, .int 0, .int 0, .int 0])) :: (ap (ap (ap (ap (ap (ap (ap (ap [] [(q0, .inl (ac 0, 24, .inl (fun _ => 0)))]) [(q1, .inl (ac 0, 24, .inl (fun _ => 0)))]) [(q2, .inl (ac 1, 24, .inl (fun _ => 0)))]) (rowsW ac q3 6 10)) [(q4, .inl (ac 0, 6, .inl (fun _ => 0)))]) [(q5, .inl (ac 0, 60, .inl (fun _ => 0)))]) [(q6, .inl (ac 0, 60, .inl (fun _ => 0)))]) [(q7, .inl (ac 0, 60, .inl (fun _ => 0)))])) := hD
  refine va_putF (D := D) (ci := 1) (v := .ref q7) (ty := .array .int) (C := RX1) (T := TX1) (N := 12) C.x C.b C.t inX1 tyX1 tyX1_ok nmX1 C.ow C.K hP hD hS 0 rfl rfl 7 (by decide) (C.w fl_X1_36) (fun _ h9 => h9) rfl C.2.2.2.2.1 rfl (by decide +kernel) rfl rfl (Nat.le_of_ble_eq_true rfl) dX1_init_69 (fun H locs hP hD hS => ?_)
  have hP : va_P D vwCl ((a, .inr (1, [.ref q0, .ref q1, .ref q2, .ref q3, .ref q4, .ref q5, .ref q6, .ref q7, .null, .int 0, .int 0, .int 0])) :: (ap (ap (ap (ap (ap (ap (ap (ap [] [(q0, .inl (ac 0, 24, .inl (fun _ => 0)))]) [(q1, .inl (ac 0, 24, .inl (fun _ => 0)))]) [(q2, .inl (ac 1, 24, .inl (fun _ => 0)))]) (rowsW ac q3 6 10)) [(q4, .inl (ac 0, 6, .inl (fun _ => 0)))]) [(q5, .inl (ac 0, 60, .inl (fun _ => 0)))]) [(q6, .inl (ac 0, 60, .inl (fun _ => 0)))]) [(q7, .inl (ac 0, 60, .inl (fun _ => 0)))])) H := hP
  have hD : va_D A ((a, .inr (1, [.ref q0, .ref q1, .ref q2, .ref q3, .ref q4, .ref q5, .ref q6, .ref q7, .null, .int 0, .int 0, .int 0])) :: (ap (ap (ap (ap (ap (ap (ap (ap [] [(q0, .inl (ac 0, 24, .inl (fun _ => 0)))]) [(q1, .inl (ac 0, 24, .inl (fun _ => 0)))]) [(q2, .inl (ac 1, 24, .inl (fun _ => 0)))]) (rowsW ac q3 6 10)) [(q4, .inl (ac 0, 6, .inl (fun _ => 0)))]) [(q5, .inl (ac 0, 60, .inl (fun _ => 0)))]) [(q6, .inl (ac 0, 60, .inl (fun _ => 0)))]) [(q7, .inl (ac 0, 60, .inl (fun _ => 0)))])) := hD
  refine lv_aload_n C.x C.b dX1_init_72 rfl (lv_at hl 0 rfl) ?_
  refine lv_bipush C.x C.b dX1_init_73 (v := 24) (by decide) ?_
  refine k_newi C hP hD hS 24 (by decide) (by decide) (by decide) (by decide) (by decide) dX1_init_75 (fun q8 H hP hD hS => ?_)
  have hP : va_P D vwCl ((a, .inr (1, [.ref q0, .ref q1, .ref q2, .ref q3, .ref q4, .ref q5, .ref q6, .ref q7, .null, .int 0, .int 0, .int 0])) :: (ap (ap (ap (ap (ap (ap (ap (ap (ap [] [(q0, .inl (ac 0, 24, .inl (fun _ => 0)))]) [(q1, .inl (ac 0, 24, .inl (fun _ => 0)))]) [(q2, .inl (ac 1, 24, .inl (fun _ => 0)))]) (rowsW ac q3 6 10)) [(q4, .inl (ac 0, 6, .inl (fun _ => 0)))]) [(q5, .inl (ac 0, 60, .inl (fun _ => 0)))]) [(q6, .inl (ac 0, 60, .inl (fun _ => 0)))]) [(q7, .inl (ac 0, 60, .inl (fun _ => 0)))]) [(q8, .inl (ac 0, 24, .inl (fun _ => 0)))])) H := hP
  have hD : va_D A ((a, .inr (1, [.ref q0, .ref q1, .ref q2, .ref q3, .ref q4, .ref q5, .ref q6, .ref q7, .null, .int 0, .int 0, .int 0])) :: (ap (ap (ap (ap (ap (ap (ap (ap (ap [] [(q0, .inl (ac 0, 24, .inl (fun _ => 0)))]) [(q1, .inl (ac 0, 24, .inl (fun _ => 0)))]) [(q2, .inl (ac 1, 24, .inl (fun _ => 0)))]) (rowsW ac q3 6 10)) [(q4, .inl (ac 0, 6, .inl (fun _ => 0)))]) [(q5, .inl (ac 0, 60, .inl (fun _ => 0)))]) [(q6, .inl (ac 0, 60, .inl (fun _ => 0)))]) [(q7, .inl (ac 0, 60, .inl (fun _ => 0)))]) [(q8, .inl (ac 0, 24, .inl (fun _ => 0)))])) := hD
  refine va_putF (D := D) (ci := 1) (v := .ref q8) (ty := .array .int) (C := RX1) (T := TX1) (N := 12) C.x C.b C.t inX1 tyX1 tyX1_ok nmX1 C.ow C.K hP hD hS 0 rfl rfl 8 (by decide) (C.w fl_X1_39) (fun _ h9 => h9) rfl C.2.2.2.2.1 rfl (by decide +kernel) rfl rfl (Nat.le_of_ble_eq_true rfl) dX1_init_77 (fun H locs hP hD hS => ?_)
  have hP : va_P D vwCl ((a, .inr (1, [.ref q0, .ref q1, .ref q2, .ref q3, .ref q4, .ref q5, .ref q6, .ref q7, .ref q8, .int 0, .int 0, .int 0])) :: (ap (ap (ap (ap (ap (ap (ap (ap (ap [] [(q0, .inl (ac 0, 24, .inl (fun _ => 0)))]) [(q1, .inl (ac 0, 24, .inl (fun _ => 0)))]) [(q2, .inl (ac 1, 24, .inl (fun _ => 0)))]) (rowsW ac q3 6 10)) [(q4, .inl (ac 0, 6, .inl (fun _ => 0)))]) [(q5, .inl (ac 0, 60, .inl (fun _ => 0)))]) [(q6, .inl (ac 0, 60, .inl (fun _ => 0)))]) [(q7, .inl (ac 0, 60, .inl (fun _ => 0)))]) [(q8, .inl (ac 0, 24, .inl (fun _ => 0)))])) H := hP
  have hD : va_D A ((a, .inr (1, [.ref q0, .ref q1, .ref q2, .ref q3, .ref q4, .ref q5, .ref q6, .ref q7, .ref q8, .int 0, .int 0, .int 0])) :: (ap (ap (ap (ap (ap (ap (ap (ap (ap [] [(q0, .inl (ac 0, 24, .inl (fun _ => 0)))]) [(q1, .inl (ac 0, 24, .inl (fun _ => 0)))]) [(q2, .inl (ac 1, 24, .inl (fun _ => 0)))]) (rowsW ac q3 6 10)) [(q4, .inl (ac 0, 6, .inl (fun _ => 0)))]) [(q5, .inl (ac 0, 60, .inl (fun _ => 0)))]) [(q6, .inl (ac 0, 60, .inl (fun _ => 0)))]) [(q7, .inl (ac 0, 60, .inl (fun _ => 0)))]) [(q8, .inl (ac 0, 24, .inl (fun _ => 0)))])) := hD
  exact fin [q0, q1, q2, q3, q4, q5, q6, q7, q8] H locs ls _ _ 80 hP hD hS (by decide) (by decide) dX1_init_80
theorem dX2_init_0 : decode cX2_init 0 = .ok (.aload_n 0, 1) := by decide +kernel
theorem dX2_init_1 : decode cX2_init 1 = .ok (.invokespecial 3, 3) := by decide +kernel
theorem dX2_init_4 : decode cX2_init 4 = .ok (.aload_n 0, 1) := by decide +kernel
theorem dX2_init_5 : decode cX2_init 5 = .ok (.aload_n 1, 1) := by decide +kernel
theorem dX2_init_6 : decode cX2_init 6 = .ok (.putfield 9, 3) := by decide +kernel
theorem dX2_init_9 : decode cX2_init 9 = .ok (.aload_n 0, 1) := by decide +kernel
theorem dX2_init_10 : decode cX2_init 10 = .ok (.aload_n 2, 1) := by decide +kernel
theorem dX2_init_11 : decode cX2_init 11 = .ok (.putfield 15, 3) := by decide +kernel
theorem dX2_init_14 : decode cX2_init 14 = .ok (.return_, 1) := by decide +kernel
abbrev readW (ac : Nat → ClassId) (a w1 w2 : Nat) (u : List Nat) : va_W := (a, .inr (2, [.ref w1, .ref w2, .int 0, .int 0, .int 0, .int 0, .int 0, .int 0, .int 0])) :: []
abbrev rmKX2 : Room := { frames := 1, cells := 0, slots := 0, locals := 12 }
set_option maxHeartbeats 20000000 in
set_option maxRecDepth 20000 in
theorem kcX2_init (l : Launch) (D : va_G) (ac : Nat → ClassId) (a w1 w2 : Nat) : KT l D ac yX2_init cX2_init 3 rmKX2 [.ref a, .ref w1, .ref w2] (a, .inr (2, [.null, .null, .int 0, .int 0, .int 0, .int 0, .int 0, .int 0, .int 0])) (fun u : List Nat => readW ac a w1 w2 u) := by
  refine KT.of (by decide) (Nat.le_of_ble_eq_true rfl) rfl (fun p e s m below meth c ls A Q C hl hP hD hS fin => ?_)
  generalize hH : s.heap = H at hP
  have hS0 : va_S A s.heap H [] := by rw [← hH]; exact hS
  clear hS
  have hS := hS0
  refine lv_aload_n C.x C.b dX2_init_0 rfl (lv_at hl 0 rfl) ?_
  refine k_obj C hl.1 ml_X2_3 (by decide) (by decide) dX2_init_1 ?_
  refine lv_aload_n C.x C.b dX2_init_4 rfl (lv_at hl 0 rfl) ?_
  refine lv_aload_n C.x C.b dX2_init_5 rfl (lv_at hl 1 rfl) ?_
  refine va_putF (D := D) (ci := 2) (v := .ref w1) (ty := .object "SharedBorders$Tape") (C := RX2) (T := TX2) (N := 9) C.x C.b C.t inX2 tyX2 tyX2_ok nmX2 C.ow C.K hP hD hS 0 rfl rfl 0 (by decide) (C.w fl_X2_9) (fun _ h9 => h9) rfl C.2.2.2.2.1 rfl (by decide +kernel) rfl rfl (Nat.le_of_ble_eq_true rfl) dX2_init_6 (fun H locs hP hD hS => ?_)
  have hP : va_P D vwCl ((a, .inr (2, [.ref w1, .null, .int 0, .int 0, .int 0, .int 0, .int 0, .int 0, .int 0])) :: []) H := hP
  have hD : va_D A ((a, .inr (2, [.ref w1, .null, .int 0, .int 0, .int 0, .int 0, .int 0, .int 0, .int 0])) :: []) := hD
  refine lv_aload_n C.x C.b dX2_init_9 rfl (lv_at hl 0 rfl) ?_
  refine lv_aload_n C.x C.b dX2_init_10 rfl (lv_at hl 2 rfl) ?_
  refine va_putF (D := D) (ci := 2) (v := .ref w2) (ty := .object "SharedBorders$Land") (C := RX2) (T := TX2) (N := 9) C.x C.b C.t inX2 tyX2 tyX2_ok nmX2 C.ow C.K hP hD hS 0 rfl rfl 1 (by decide) (C.w fl_X2_15) (fun _ h9 => h9) rfl C.2.2.2.2.1 rfl (by decide +kernel) rfl rfl (Nat.le_of_ble_eq_true rfl) dX2_init_11 (fun H locs hP hD hS => ?_)
  have hP : va_P D vwCl ((a, .inr (2, [.ref w1, .ref w2, .int 0, .int 0, .int 0, .int 0, .int 0, .int 0, .int 0])) :: []) H := hP
  have hD : va_D A ((a, .inr (2, [.ref w1, .ref w2, .int 0, .int 0, .int 0, .int 0, .int 0, .int 0, .int 0])) :: []) := hD
  exact fin [] H locs ls _ _ 14 hP hD hS (by decide) (by decide) dX2_init_14
