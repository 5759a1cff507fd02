/-! constructors -/
theorem dX3_init_0 : decode cX3_init 0 = .ok (.aload_n 0, 1) := by decide +kernel
theorem dX3_init_1 : decode cX3_init 1 = .ok (.invokespecial 3, 3) := by decide +kernel
theorem dX3_init_4 : decode cX3_init 4 = .ok (.aload_n 0, 1) := by decide +kernel
theorem dX3_init_5 : decode cX3_init 5 = .ok (.bipush 6, 2) := by decide +kernel
theorem dX3_init_7 : decode cX3_init 7 = .ok (.bipush 10, 2) := by decide +kernel
theorem dX3_init_9 : decode cX3_init 9 = .ok (.multianewarray 9 2, 4) := by decide +kernel
theorem dX3_init_13 : decode cX3_init 13 = .ok (.putfield 11, 3) := by decide +kernel
theorem dX3_init_16 : decode cX3_init 16 = .ok (.aload_n 0, 1) := by decide +kernel
theorem dX3_init_17 : decode cX3_init 17 = .ok (.bipush 6, 2) := by decide +kernel
theorem dX3_init_19 : decode cX3_init 19 = .ok (.newarray .int, 2) := by decide +kernel
theorem dX3_init_21 : decode cX3_init 21 = .ok (.putfield 16, 3) := by decide +kernel
theorem dX3_init_24 : decode cX3_init 24 = .ok (.aload_n 0, 1) := by decide +kernel
theorem dX3_init_25 : decode cX3_init 25 = .ok (.bipush 24, 2) := by decide +kernel
theorem dX3_init_27 : decode cX3_init 27 = .ok (.newarray .boolean, 2) := by decide +kernel
theorem dX3_init_29 : decode cX3_init 29 = .ok (.putfield 20, 3) := by decide +kernel
theorem dX3_init_32 : decode cX3_init 32 = .ok (.aload_n 0, 1) := by decide +kernel
theorem dX3_init_33 : decode cX3_init 33 = .ok (.bipush 10, 2) := by decide +kernel
theorem dX3_init_35 : decode cX3_init 35 = .ok (.newarray .int, 2) := by decide +kernel
theorem dX3_init_37 : decode cX3_init 37 = .ok (.putfield 24, 3) := by decide +kernel
theorem dX3_init_40 : decode cX3_init 40 = .ok (.aload_n 0, 1) := by decide +kernel
theorem dX3_init_41 : decode cX3_init 41 = .ok (.aload_n 1, 1) := by decide +kernel
theorem dX3_init_42 : decode cX3_init 42 = .ok (.putfield 27, 3) := by decide +kernel
theorem dX3_init_45 : decode cX3_init 45 = .ok (.return_, 1) := by decide +kernel
abbrev scenW (ac : Nat → ClassId) (a w1 : Nat) (u : List Nat) : va_W := (a, .inr (3, [.ref w1, .ref (u.getD 0 0), .ref (u.getD 1 0), .ref (u.getD 2 0), .ref (u.getD 3 0)])) :: (ap (ap (ap (ap [] (rowsW ac (u.getD 0 0) 6 10)) [((u.getD 1 0), .inl (ac 0, 6, .inl (fun _ => 0)))]) [((u.getD 2 0), .inl (ac 1, 24, .inl (fun _ => 0)))]) [((u.getD 3 0), .inl (ac 0, 10, .inl (fun _ => 0)))])
abbrev rmKX3 : Room := { frames := 1, cells := 10, slots := 106, locals := 12 }
set_option maxHeartbeats 20000000 in
set_option maxRecDepth 20000 in
theorem kcX3_init (l : Launch) (D : va_G) (ac : Nat → ClassId) (a w1 : Nat) : KT l D ac yX3_init cX3_init 2 rmKX3 [.ref a, .ref w1] (a, .inr (3, [.null, .null, .null, .null, .null])) (fun u : List Nat => scenW ac a w1 u) := by
  refine KT.of (by decide) (Nat.le_of_ble_eq_true rfl) rfl (fun p e s m below meth c ls A Q C hl hP hD hS fin => ?_)
  generalize hH : s.heap = H at hP
  have hS0 : va_S A s.heap H [] := by rw [← hH]; exact hS
  clear hS
  have hS := hS0
  refine lv_aload_n C.x C.b dX3_init_0 rfl (lv_at hl 0 rfl) ?_
  refine k_obj C hl.1 ml_X3_3 (by decide) (by decide) dX3_init_1 ?_
  refine lv_aload_n C.x C.b dX3_init_4 rfl (lv_at hl 0 rfl) ?_
  refine lv_bipush C.x C.b dX3_init_5 (v := 6) (by decide) ?_
  refine lv_bipush C.x C.b dX3_init_7 (v := 10) (by decide) ?_
  refine k_multi C hP hD hS kl_X3_9 6 10 (by decide) (by decide) (by decide) (by decide) (by decide) (by decide) (by decide) (by decide) dX3_init_9 (fun q0 H locs hP hD hS => ?_)
  have hP : va_P D vwCl ((a, .inr (3, [.null, .null, .null, .null, .null])) :: (ap [] (rowsW ac q0 6 10))) H := hP
  have hD : va_D A ((a, .inr (3, [.null, .null, .null, .null, .null])) :: (ap [] (rowsW ac q0 6 10))) := hD
  refine va_putF (D := D) (ci := 3) (v := .ref q0) (ty := .array (.array .int)) (C := RX3) (T := TX3) (N := 5) C.x C.b C.t inX3 tyX3 tyX3_ok nmX3 C.ow C.K hP hD hS 0 rfl rfl 1 (by decide) (C.w fl_X3_11) (fun _ h9 => h9) rfl C.2.2.2.2.1 rfl (by decide +kernel) rfl rfl (Nat.le_of_ble_eq_true rfl) dX3_init_13 (fun H locs hP hD hS => ?_)
  have hP : va_P D vwCl ((a, .inr (3, [.null, .ref q0, .null, .null, .null])) :: (ap [] (rowsW ac q0 6 10))) H := hP
  have hD : va_D A ((a, .inr (3, [.null, .ref q0, .null, .null, .null])) :: (ap [] (rowsW ac q0 6 10))) := hD
  refine lv_aload_n C.x C.b dX3_init_16 rfl (lv_at hl 0 rfl) ?_
  refine lv_bipush C.x C.b dX3_init_17 (v := 6) (by decide) ?_
  refine k_newi C hP hD hS 6 (by decide) (by decide) (by decide) (by decide) (by decide) dX3_init_19 (fun q1 H hP hD hS => ?_)
  have hP : va_P D vwCl ((a, .inr (3, [.null, .ref q0, .null, .null, .null])) :: (ap (ap [] (rowsW ac q0 6 10)) [(q1, .inl (ac 0, 6, .inl (fun _ => 0)))])) H := hP
  have hD : va_D A ((a, .inr (3, [.null, .ref q0, .null, .null, .null])) :: (ap (ap [] (rowsW ac q0 6 10)) [(q1, .inl (ac 0, 6, .inl (fun _ => 0)))])) := hD
  refine va_putF (D := D) (ci := 3) (v := .ref q1) (ty := .array .int) (C := RX3) (T := TX3) (N := 5) C.x C.b C.t inX3 tyX3 tyX3_ok nmX3 C.ow C.K hP hD hS 0 rfl rfl 2 (by decide) (C.w fl_X3_16) (fun _ h9 => h9) rfl C.2.2.2.2.1 rfl (by decide +kernel) rfl rfl (Nat.le_of_ble_eq_true rfl) dX3_init_21 (fun H locs hP hD hS => ?_)
  have hP : va_P D vwCl ((a, .inr (3, [.null, .ref q0, .ref q1, .null, .null])) :: (ap (ap [] (rowsW ac q0 6 10)) [(q1, .inl (ac 0, 6, .inl (fun _ => 0)))])) H := hP
  have hD : va_D A ((a, .inr (3, [.null, .ref q0, .ref q1, .null, .null])) :: (ap (ap [] (rowsW ac q0 6 10)) [(q1, .inl (ac 0, 6, .inl (fun _ => 0)))])) := hD
  refine lv_aload_n C.x C.b dX3_init_24 rfl (lv_at hl 0 rfl) ?_
  refine lv_bipush C.x C.b dX3_init_25 (v := 24) (by decide) ?_
  refine k_newz C hP hD hS 24 (by decide) (by decide) (by decide) (by decide) (by decide) dX3_init_27 (fun q2 H hP hD hS => ?_)
  have hP : va_P D vwCl ((a, .inr (3, [.null, .ref q0, .ref q1, .null, .null])) :: (ap (ap (ap [] (rowsW ac q0 6 10)) [(q1, .inl (ac 0, 6, .inl (fun _ => 0)))]) [(q2, .inl (ac 1, 24, .inl (fun _ => 0)))])) H := hP
  have hD : va_D A ((a, .inr (3, [.null, .ref q0, .ref q1, .null, .null])) :: (ap (ap (ap [] (rowsW ac q0 6 10)) [(q1, .inl (ac 0, 6, .inl (fun _ => 0)))]) [(q2, .inl (ac 1, 24, .inl (fun _ => 0)))])) := hD
  refine va_putF (D := D) (ci := 3) (v := .ref q2) (ty := .array .boolean) (C := RX3) (T := TX3) (N := 5) C.x C.b C.t inX3 tyX3 tyX3_ok nmX3 C.ow C.K hP hD hS 0 rfl rfl 3 (by decide) (C.w fl_X3_20) (fun _ h9 => h9) rfl C.2.2.2.2.1 rfl (by decide +kernel) rfl rfl (Nat.le_of_ble_eq_true rfl) dX3_init_29 (fun H locs hP hD hS => ?_)
  have hP : va_P D vwCl ((a, .inr (3, [.null, .ref q0, .ref q1, .ref q2, .null])) :: (ap (ap (ap [] (rowsW ac q0 6 10)) [(q1, .inl (ac 0, 6, .inl (fun _ => 0)))]) [(q2, .inl (ac 1, 24, .inl (fun _ => 0)))])) H := hP
  have hD : va_D A ((a, .inr (3, [.null, .ref q0, .ref q1, .ref q2, .null])) :: (ap (ap (ap [] (rowsW ac q0 6 10)) [(q1, .inl (ac 0, 6, .inl (fun _ => 0)))]) [(q2, .inl (ac 1, 24, .inl (fun _ => 0)))])) := hD
  refine lv_aload_n C.x C.b dX3_init_32 rfl (lv_at hl 0 rfl) ?_
  refine lv_bipush C.x C.b dX3_init_33 (v := 10) (by decide) ?_
  refine k_newi C hP hD hS 10 (by decide) (by decide) (by decide) (by decide) (by decide) dX3_init_35 (fun q3 H hP hD hS => ?_)
  have hP : va_P D vwCl ((a, .inr (3, [.null, .ref q0, .ref q1, .ref q2, .null])) :: (ap (ap (ap (ap [] (rowsW ac q0 6 10)) [(q1, .inl (ac 0, 6, .inl (fun _ => 0)))]) [(q2, .inl (ac 1, 24, .inl (fun _ => 0)))]) [(q3, .inl (ac 0, 10, .inl (fun _ => 0)))])) H := hP
  have hD : va_D A ((a, .inr (3, [.null, .ref q0, .ref q1, .ref q2, .null])) :: (ap (ap (ap (ap [] (rowsW ac q0 6 10)) [(q1, .inl (ac 0, 6, .inl (fun _ => 0)))]) [(q2, .inl (ac 1, 24, .inl (fun _ => 0)))]) [(q3, .inl (ac 0, 10, .inl (fun _ => 0)))])) := hD
  refine va_putF (D := D) (ci := 3) (v := .ref q3) (ty := .array .int) (C := RX3) (T := TX3) (N := 5) C.x C.b C.t inX3 tyX3 tyX3_ok nmX3 C.ow C.K hP hD hS 0 rfl rfl 4 (by decide) (C.w fl_X3_24) (fun _ h9 => h9) rfl C.2.2.2.2.1 rfl (by decide +kernel) rfl rfl (Nat.le_of_ble_eq_true rfl) dX3_init_37 (fun H locs hP hD hS => ?_)
  have hP : va_P D vwCl ((a, .inr (3, [.null, .ref q0, .ref q1, .ref q2, .ref q3])) :: (ap (ap (ap (ap [] (rowsW ac q0 6 10)) [(q1, .inl (ac 0, 6, .inl (fun _ => 0)))]) [(q2, .inl (ac 1, 24, .inl (fun _ => 0)))]) [(q3, .inl (ac 0, 10, .inl (fun _ => 0)))])) H := hP
  have hD : va_D A ((a, .inr (3, [.null, .ref q0, .ref q1, .ref q2, .ref q3])) :: (ap (ap (ap (ap [] (rowsW ac q0 6 10)) [(q1, .inl (ac 0, 6, .inl (fun _ => 0)))]) [(q2, .inl (ac 1, 24, .inl (fun _ => 0)))]) [(q3, .inl (ac 0, 10, .inl (fun _ => 0)))])) := hD
  refine lv_aload_n C.x C.b dX3_init_40 rfl (lv_at hl 0 rfl) ?_
  refine lv_aload_n C.x C.b dX3_init_41 rfl (lv_at hl 1 rfl) ?_
  refine va_putF (D := D) (ci := 3) (v := .ref w1) (ty := .object "SharedBorders$Land") (C := RX3) (T := TX3) (N := 5) C.x C.b C.t inX3 tyX3 tyX3_ok nmX3 C.ow C.K hP hD hS 0 rfl rfl 0 (by decide) (C.w fl_X3_27) (fun _ h9 => h9) rfl C.2.2.2.2.1 rfl (by decide +kernel) rfl rfl (Nat.le_of_ble_eq_true rfl) dX3_init_42 (fun H locs hP hD hS => ?_)
  have hP : va_P D vwCl ((a, .inr (3, [.ref w1, .ref q0, .ref q1, .ref q2, .ref q3])) :: (ap (ap (ap (ap [] (rowsW ac q0 6 10)) [(q1, .inl (ac 0, 6, .inl (fun _ => 0)))]) [(q2, .inl (ac 1, 24, .inl (fun _ => 0)))]) [(q3, .inl (ac 0, 10, .inl (fun _ => 0)))])) H := hP
  have hD : va_D A ((a, .inr (3, [.ref w1, .ref q0, .ref q1, .ref q2, .ref q3])) :: (ap (ap (ap (ap [] (rowsW ac q0 6 10)) [(q1, .inl (ac 0, 6, .inl (fun _ => 0)))]) [(q2, .inl (ac 1, 24, .inl (fun _ => 0)))]) [(q3, .inl (ac 0, 10, .inl (fun _ => 0)))])) := hD
  exact fin [q0, q1, q2, q3] H locs ls _ _ 45 hP hD hS (by decide) (by decide) dX3_init_45
theorem dX5_init_0 : decode cX5_init 0 = .ok (.aload_n 0, 1) := by decide +kernel
theorem dX5_init_1 : decode cX5_init 1 = .ok (.invokespecial 3, 3) := by decide +kernel
theorem dX5_init_4 : decode cX5_init 4 = .ok (.aload_n 0, 1) := by decide +kernel
theorem dX5_init_5 : decode cX5_init 5 = .ok (.bipush 25, 2) := by decide +kernel
theorem dX5_init_7 : decode cX5_init 7 = .ok (.newarray .int, 2) := by decide +kernel
theorem dX5_init_9 : decode cX5_init 9 = .ok (.putfield 9, 3) := by decide +kernel
theorem dX5_init_12 : decode cX5_init 12 = .ok (.aload_n 0, 1) := by decide +kernel
theorem dX5_init_13 : decode cX5_init 13 = .ok (.bipush 25, 2) := by decide +kernel
theorem dX5_init_15 : decode cX5_init 15 = .ok (.newarray .int, 2) := by decide +kernel
theorem dX5_init_17 : decode cX5_init 17 = .ok (.putfield 15, 3) := by decide +kernel
theorem dX5_init_20 : decode cX5_init 20 = .ok (.aload_n 0, 1) := by decide +kernel
theorem dX5_init_21 : decode cX5_init 21 = .ok (.bipush 24, 2) := by decide +kernel
theorem dX5_init_23 : decode cX5_init 23 = .ok (.newarray .int, 2) := by decide +kernel
theorem dX5_init_25 : decode cX5_init 25 = .ok (.putfield 18, 3) := by decide +kernel
theorem dX5_init_28 : decode cX5_init 28 = .ok (.aload_n 0, 1) := by decide +kernel
theorem dX5_init_29 : decode cX5_init 29 = .ok (.aload_n 1, 1) := by decide +kernel
theorem dX5_init_30 : decode cX5_init 30 = .ok (.putfield 21, 3) := by decide +kernel
theorem dX5_init_33 : decode cX5_init 33 = .ok (.aload_n 0, 1) := by decide +kernel
theorem dX5_init_34 : decode cX5_init 34 = .ok (.new 25, 3) := by decide +kernel
theorem dX5_init_37 : decode cX5_init 37 = .ok (.dup, 1) := by decide +kernel
theorem dX5_init_38 : decode cX5_init 38 = .ok (.aload_n 1, 1) := by decide +kernel
theorem dX5_init_39 : decode cX5_init 39 = .ok (.invokespecial 27, 3) := by decide +kernel
theorem dX5_init_42 : decode cX5_init 42 = .ok (.putfield 30, 3) := by decide +kernel
theorem dX5_init_45 : decode cX5_init 45 = .ok (.return_, 1) := by decide +kernel
abbrev stagW (ac : Nat → ClassId) (a w1 : Nat) (u : List Nat × List Nat) : va_W := (a, .inr (5, [.ref w1, .ref (u.1.getD 0 0), .ref (u.1.getD 1 0), .ref (u.1.getD 2 0), .int 0, .ref (u.1.getD 3 0)])) :: (ap (ap (ap (ap [] [((u.1.getD 0 0), .inl (ac 0, 25, .inl (fun _ => 0)))]) [((u.1.getD 1 0), .inl (ac 0, 25, .inl (fun _ => 0)))]) [((u.1.getD 2 0), .inl (ac 0, 24, .inl (fun _ => 0)))]) (scenW ac (u.1.getD 3 0) w1 u.2))
abbrev rmKX5 : Room := { frames := 2, cells := 14, slots := 185, locals := 33 }
set_option maxHeartbeats 20000000 in
set_option maxRecDepth 20000 in
theorem kcX5_init (l : Launch) (D : va_G) (ac : Nat → ClassId) (a w1 : Nat) : KT l D ac yX5_init cX5_init 2 rmKX5 [.ref a, .ref w1] (a, .inr (5, [.null, .null, .null, .null, .int 0, .null])) (fun u : List Nat × List Nat => stagW ac a w1 u) := by
  refine KT.of (by decide) (Nat.le_of_ble_eq_true rfl) rfl (fun p e s m below meth c ls A Q C hl hP hD hS fin => ?_)
  generalize hH : s.heap = H at hP
  have hS0 : va_S A s.heap H [] := by rw [← hH]; exact hS
  clear hS
  have hS := hS0
  refine lv_aload_n C.x C.b dX5_init_0 rfl (lv_at hl 0 rfl) ?_
  refine k_obj C hl.1 ml_X5_3 (by decide) (by decide) dX5_init_1 ?_
  refine lv_aload_n C.x C.b dX5_init_4 rfl (lv_at hl 0 rfl) ?_
  refine lv_bipush C.x C.b dX5_init_5 (v := 25) (by decide) ?_
  refine k_newi C hP hD hS 25 (by decide) (by decide) (by decide) (by decide) (by decide) dX5_init_7 (fun q0 H hP hD hS => ?_)
  have hP : va_P D vwCl ((a, .inr (5, [.null, .null, .null, .null, .int 0, .null])) :: (ap [] [(q0, .inl (ac 0, 25, .inl (fun _ => 0)))])) H := hP
  have hD : va_D A ((a, .inr (5, [.null, .null, .null, .null, .int 0, .null])) :: (ap [] [(q0, .inl (ac 0, 25, .inl (fun _ => 0)))])) := hD
  refine va_putF (D := D) (ci := 5) (v := .ref q0) (ty := .array .int) (C := RX5) (T := TX5) (N := 6) C.x C.b C.t inX5 tyX5 tyX5_ok nmX5 C.ow C.K hP hD hS 0 rfl rfl 1 (by decide) (C.w fl_X5_9) (fun _ h9 => h9) rfl C.2.2.2.2.1 rfl (by decide +kernel) rfl rfl (Nat.le_of_ble_eq_true rfl) dX5_init_9 (fun H locs hP hD hS => ?_)
  have hP : va_P D vwCl ((a, .inr (5, [.null, .ref q0, .null, .null, .int 0, .null])) :: (ap [] [(q0, .inl (ac 0, 25, .inl (fun _ => 0)))])) H := hP
  have hD : va_D A ((a, .inr (5, [.null, .ref q0, .null, .null, .int 0, .null])) :: (ap [] [(q0, .inl (ac 0, 25, .inl (fun _ => 0)))])) := hD
  refine lv_aload_n C.x C.b dX5_init_12 rfl (lv_at hl 0 rfl) ?_
  refine lv_bipush C.x C.b dX5_init_13 (v := 25) (by decide) ?_
  refine k_newi C hP hD hS 25 (by decide) (by decide) (by decide) (by decide) (by decide) dX5_init_15 (fun q1 H hP hD hS => ?_)
  have hP : va_P D vwCl ((a, .inr (5, [.null, .ref q0, .null, .null, .int 0, .null])) :: (ap (ap [] [(q0, .inl (ac 0, 25, .inl (fun _ => 0)))]) [(q1, .inl (ac 0, 25, .inl (fun _ => 0)))])) H := hP
  have hD : va_D A ((a, .inr (5, [.null, .ref q0, .null, .null, .int 0, .null])) :: (ap (ap [] [(q0, .inl (ac 0, 25, .inl (fun _ => 0)))]) [(q1, .inl (ac 0, 25, .inl (fun _ => 0)))])) := hD
  refine va_putF (D := D) (ci := 5) (v := .ref q1) (ty := .array .int) (C := RX5) (T := TX5) (N := 6) C.x C.b C.t inX5 tyX5 tyX5_ok nmX5 C.ow C.K hP hD hS 0 rfl rfl 2 (by decide) (C.w fl_X5_15) (fun _ h9 => h9) rfl C.2.2.2.2.1 rfl (by decide +kernel) rfl rfl (Nat.le_of_ble_eq_true rfl) dX5_init_17 (fun H locs hP hD hS => ?_)
  have hP : va_P D vwCl ((a, .inr (5, [.null, .ref q0, .ref q1, .null, .int 0, .null])) :: (ap (ap [] [(q0, .inl (ac 0, 25, .inl (fun _ => 0)))]) [(q1, .inl (ac 0, 25, .inl (fun _ => 0)))])) H := hP
  have hD : va_D A ((a, .inr (5, [.null, .ref q0, .ref q1, .null, .int 0, .null])) :: (ap (ap [] [(q0, .inl (ac 0, 25, .inl (fun _ => 0)))]) [(q1, .inl (ac 0, 25, .inl (fun _ => 0)))])) := hD
  refine lv_aload_n C.x C.b dX5_init_20 rfl (lv_at hl 0 rfl) ?_
  refine lv_bipush C.x C.b dX5_init_21 (v := 24) (by decide) ?_
  refine k_newi C hP hD hS 24 (by decide) (by decide) (by decide) (by decide) (by decide) dX5_init_23 (fun q2 H hP hD hS => ?_)
  have hP : va_P D vwCl ((a, .inr (5, [.null, .ref q0, .ref q1, .null, .int 0, .null])) :: (ap (ap (ap [] [(q0, .inl (ac 0, 25, .inl (fun _ => 0)))]) [(q1, .inl (ac 0, 25, .inl (fun _ => 0)))]) [(q2, .inl (ac 0, 24, .inl (fun _ => 0)))])) H := hP
  have hD : va_D A ((a, .inr (5, [.null, .ref q0, .ref q1, .null, .int 0, .null])) :: (ap (ap (ap [] [(q0, .inl (ac 0, 25, .inl (fun _ => 0)))]) [(q1, .inl (ac 0, 25, .inl (fun _ => 0)))]) [(q2, .inl (ac 0, 24, .inl (fun _ => 0)))])) := hD
  refine va_putF (D := D) (ci := 5) (v := .ref q2) (ty := .array .int) (C := RX5) (T := TX5) (N := 6) C.x C.b C.t inX5 tyX5 tyX5_ok nmX5 C.ow C.K hP hD hS 0 rfl rfl 3 (by decide) (C.w fl_X5_18) (fun _ h9 => h9) rfl C.2.2.2.2.1 rfl (by decide +kernel) rfl rfl (Nat.le_of_ble_eq_true rfl) dX5_init_25 (fun H locs hP hD hS => ?_)
  have hP : va_P D vwCl ((a, .inr (5, [.null, .ref q0, .ref q1, .ref q2, .int 0, .null])) :: (ap (ap (ap [] [(q0, .inl (ac 0, 25, .inl (fun _ => 0)))]) [(q1, .inl (ac 0, 25, .inl (fun _ => 0)))]) [(q2, .inl (ac 0, 24, .inl (fun _ => 0)))])) H := hP
  have hD : va_D A ((a, .inr (5, [.null, .ref q0, .ref q1, .ref q2, .int 0, .null])) :: (ap (ap (ap [] [(q0, .inl (ac 0, 25, .inl (fun _ => 0)))]) [(q1, .inl (ac 0, 25, .inl (fun _ => 0)))]) [(q2, .inl (ac 0, 24, .inl (fun _ => 0)))])) := hD
  refine lv_aload_n C.x C.b dX5_init_28 rfl (lv_at hl 0 rfl) ?_
  refine lv_aload_n C.x C.b dX5_init_29 rfl (lv_at hl 1 rfl) ?_
  refine va_putF (D := D) (ci := 5) (v := .ref w1) (ty := .object "SharedBorders$Land") (C := RX5) (T := TX5) (N := 6) C.x C.b C.t inX5 tyX5 tyX5_ok nmX5 C.ow C.K hP hD hS 0 rfl rfl 0 (by decide) (C.w fl_X5_21) (fun _ h9 => h9) rfl C.2.2.2.2.1 rfl (by decide +kernel) rfl rfl (Nat.le_of_ble_eq_true rfl) dX5_init_30 (fun H locs hP hD hS => ?_)
  have hP : va_P D vwCl ((a, .inr (5, [.ref w1, .ref q0, .ref q1, .ref q2, .int 0, .null])) :: (ap (ap (ap [] [(q0, .inl (ac 0, 25, .inl (fun _ => 0)))]) [(q1, .inl (ac 0, 25, .inl (fun _ => 0)))]) [(q2, .inl (ac 0, 24, .inl (fun _ => 0)))])) H := hP
  have hD : va_D A ((a, .inr (5, [.ref w1, .ref q0, .ref q1, .ref q2, .int 0, .null])) :: (ap (ap (ap [] [(q0, .inl (ac 0, 25, .inl (fun _ => 0)))]) [(q1, .inl (ac 0, 25, .inl (fun _ => 0)))]) [(q2, .inl (ac 0, 24, .inl (fun _ => 0)))])) := hD
  refine lv_aload_n C.x C.b dX5_init_33 rfl (lv_at hl 0 rfl) ?_
  refine va_new (ci := 3) (fs := [.null, .null, .null, .null, .null]) (C := RX3) (T := TX3) (N := 5) C.x C.b C.t inX3 tyX3 tyX3_ok C.ow (C.w kl_X5_25) (C.w ki_X3) (C.w ic_X3) C.K hP hD hS C.hA rfl (fun j hj => by rcases (show j = 0 ∨ j = 1 ∨ j = 2 ∨ j = 3 ∨ j = 4 by omega) with rfl | rfl | rfl | rfl | rfl <;> rfl) (by decide) (by decide) dX5_init_34 (fun q3 H hP hD hS => ?_)
  have hP : va_P D vwCl (ap ((a, .inr (5, [.ref w1, .ref q0, .ref q1, .ref q2, .int 0, .null])) :: (ap (ap (ap [] [(q0, .inl (ac 0, 25, .inl (fun _ => 0)))]) [(q1, .inl (ac 0, 25, .inl (fun _ => 0)))]) [(q2, .inl (ac 0, 24, .inl (fun _ => 0)))])) [(q3, .inr (3, [.null, .null, .null, .null, .null]))]) H := hP
  have hD : va_D A (ap ((a, .inr (5, [.ref w1, .ref q0, .ref q1, .ref q2, .int 0, .null])) :: (ap (ap (ap [] [(q0, .inl (ac 0, 25, .inl (fun _ => 0)))]) [(q1, .inl (ac 0, 25, .inl (fun _ => 0)))]) [(q2, .inl (ac 0, 24, .inl (fun _ => 0)))])) [(q3, .inr (3, [.null, .null, .null, .null, .null]))]) := hD
  refine lv_dup C.x C.b dX5_init_37 rfl ?_
  refine lv_aload_n C.x C.b dX5_init_38 rfl (lv_at hl 1 rfl) ?_
  refine k_init C (wr := (a, .inr (5, [.ref w1, .ref q0, .ref q1, .ref q2, .int 0, .null])) :: (ap (ap (ap [] [(q0, .inl (ac 0, 25, .inl (fun _ => 0)))]) [(q1, .inl (ac 0, 25, .inl (fun _ => 0)))]) [(q2, .inl (ac 0, 24, .inl (fun _ => 0)))])) (rest := [.ref q3, .ref a]) hP hD hS [.ref w1] (kcX3_init l D ac q3 w1) cd_X3_init ic_X3 im_X3_init ml_X5_27 rfl yk_X3_init ⟨by decide, by decide⟩ rfl hl.1 rfl (Nat.le_of_ble_eq_true rfl) (by decide) (by decide) dX5_init_39 (fun u4 H locs hP hD hS => ?_)
  have hP : va_P D vwCl ((a, .inr (5, [.ref w1, .ref q0, .ref q1, .ref q2, .int 0, .null])) :: (ap (ap (ap (ap [] [(q0, .inl (ac 0, 25, .inl (fun _ => 0)))]) [(q1, .inl (ac 0, 25, .inl (fun _ => 0)))]) [(q2, .inl (ac 0, 24, .inl (fun _ => 0)))]) (scenW ac q3 w1 u4))) H := hP
  have hD : va_D A ((a, .inr (5, [.ref w1, .ref q0, .ref q1, .ref q2, .int 0, .null])) :: (ap (ap (ap (ap [] [(q0, .inl (ac 0, 25, .inl (fun _ => 0)))]) [(q1, .inl (ac 0, 25, .inl (fun _ => 0)))]) [(q2, .inl (ac 0, 24, .inl (fun _ => 0)))]) (scenW ac q3 w1 u4))) := hD
  refine va_putF (D := D) (ci := 5) (v := .ref q3) (ty := .object "SharedBorders$Scene") (C := RX5) (T := TX5) (N := 6) C.x C.b C.t inX5 tyX5 tyX5_ok nmX5 C.ow C.K hP hD hS 0 rfl rfl 5 (by decide) (C.w fl_X5_30) (fun _ h9 => h9) rfl C.2.2.2.2.1 rfl (by decide +kernel) rfl rfl (Nat.le_of_ble_eq_true rfl) dX5_init_42 (fun H locs hP hD hS => ?_)
  have hP : va_P D vwCl ((a, .inr (5, [.ref w1, .ref q0, .ref q1, .ref q2, .int 0, .ref q3])) :: (ap (ap (ap (ap [] [(q0, .inl (ac 0, 25, .inl (fun _ => 0)))]) [(q1, .inl (ac 0, 25, .inl (fun _ => 0)))]) [(q2, .inl (ac 0, 24, .inl (fun _ => 0)))]) (scenW ac q3 w1 u4))) H := hP
  have hD : va_D A ((a, .inr (5, [.ref w1, .ref q0, .ref q1, .ref q2, .int 0, .ref q3])) :: (ap (ap (ap (ap [] [(q0, .inl (ac 0, 25, .inl (fun _ => 0)))]) [(q1, .inl (ac 0, 25, .inl (fun _ => 0)))]) [(q2, .inl (ac 0, 24, .inl (fun _ => 0)))]) (scenW ac q3 w1 u4))) := hD
  exact fin ([q0, q1, q2, q3], u4) H locs ls _ _ 45 hP hD hS (by decide) (by decide) dX5_init_45
