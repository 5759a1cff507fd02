/-! constructors -/
theorem dX0_init_0 : decode cX0_init 0 = .ok (.aload_n 0, 1) := by decide +kernel
theorem dX0_init_1 : decode cX0_init 1 = .ok (.invokespecial 3, 3) := by decide +kernel
theorem dX0_init_4 : decode cX0_init 4 = .ok (.aload_n 0, 1) := by decide +kernel
theorem dX0_init_5 : decode cX0_init 5 = .ok (.bipush 60, 2) := by decide +kernel
theorem dX0_init_7 : decode cX0_init 7 = .ok (.bipush 11, 2) := by decide +kernel
theorem dX0_init_9 : decode cX0_init 9 = .ok (.multianewarray 9 2, 4) := by decide +kernel
theorem dX0_init_13 : decode cX0_init 13 = .ok (.putfield 11, 3) := by decide +kernel
theorem dX0_init_16 : decode cX0_init 16 = .ok (.aload_n 0, 1) := by decide +kernel
theorem dX0_init_17 : decode cX0_init 17 = .ok (.bipush 60, 2) := by decide +kernel
theorem dX0_init_19 : decode cX0_init 19 = .ok (.newarray .int, 2) := by decide +kernel
theorem dX0_init_21 : decode cX0_init 21 = .ok (.putfield 16, 3) := by decide +kernel
theorem dX0_init_24 : decode cX0_init 24 = .ok (.aload_n 0, 1) := by decide +kernel
theorem dX0_init_25 : decode cX0_init 25 = .ok (.bipush 24, 2) := by decide +kernel
theorem dX0_init_27 : decode cX0_init 27 = .ok (.newarray .int, 2) := by decide +kernel
theorem dX0_init_29 : decode cX0_init 29 = .ok (.putfield 20, 3) := by decide +kernel
theorem dX0_init_32 : decode cX0_init 32 = .ok (.aload_n 0, 1) := by decide +kernel
theorem dX0_init_33 : decode cX0_init 33 = .ok (.bipush 60, 2) := by decide +kernel
theorem dX0_init_35 : decode cX0_init 35 = .ok (.newarray .boolean, 2) := by decide +kernel
theorem dX0_init_37 : decode cX0_init 37 = .ok (.putfield 23, 3) := by decide +kernel
theorem dX0_init_40 : decode cX0_init 40 = .ok (.aload_n 0, 1) := by decide +kernel
theorem dX0_init_41 : decode cX0_init 41 = .ok (.aload_n 1, 1) := by decide +kernel
theorem dX0_init_42 : decode cX0_init 42 = .ok (.putfield 27, 3) := by decide +kernel
theorem dX0_init_45 : decode cX0_init 45 = .ok (.return_, 1) := by decide +kernel
abbrev arcsW (ac : Nat → ClassId) (a w1 : Nat) (u : List Nat) : va_W := (a, .inr (0, [.ref w1, .ref (u.getD 0 0), .ref (u.getD 1 0), .ref (u.getD 2 0), .ref (u.getD 3 0), .int 0])) :: (ap (ap (ap (ap [] (rowsW ac (u.getD 0 0) 60 11)) [((u.getD 1 0), .inl (ac 0, 60, .inl (fun _ => 0)))]) [((u.getD 2 0), .inl (ac 0, 24, .inl (fun _ => 0)))]) [((u.getD 3 0), .inl (ac 1, 60, .inl (fun _ => 0)))])
abbrev rmKX0 : Room := { frames := 1, cells := 64, slots := 864, locals := 12 }
set_option maxHeartbeats 20000000 in
set_option maxRecDepth 20000 in
theorem kcX0_init (l : Launch) (D : va_G) (ac : Nat → ClassId) (a w1 : Nat) : KT l D ac yX0_init cX0_init 2 rmKX0 [.ref a, .ref w1] (a, .inr (0, [.null, .null, .null, .null, .null, .int 0])) (fun u : List Nat => arcsW ac a w1 u) := by
  refine KT.of (by decide) (Nat.le_of_ble_eq_true rfl) rfl (fun p e s m below meth c ls A Q C hl hP hD hS fin => ?_)
  generalize hH : s.heap = H at hP
  have hS0 : va_S A s.heap H [] := by rw [← hH]; exact hS
  clear hS
  have hS := hS0
  refine lv_aload_n C.x C.b dX0_init_0 rfl (lv_at hl 0 rfl) ?_
  refine k_obj C hl.1 ml_X0_3 (by decide) (by decide) dX0_init_1 ?_
  refine lv_aload_n C.x C.b dX0_init_4 rfl (lv_at hl 0 rfl) ?_
  refine lv_bipush C.x C.b dX0_init_5 (v := 60) (by decide) ?_
  refine lv_bipush C.x C.b dX0_init_7 (v := 11) (by decide) ?_
  refine k_multi C hP hD hS kl_X0_9 60 11 (by decide) (by decide) (by decide) (by decide) (by decide) (by decide) (by decide) (by decide) dX0_init_9 (fun q0 H locs hP hD hS => ?_)
  have hP : va_P D vwCl ((a, .inr (0, [.null, .null, .null, .null, .null, .int 0])) :: (ap [] (rowsW ac q0 60 11))) H := hP
  have hD : va_D A ((a, .inr (0, [.null, .null, .null, .null, .null, .int 0])) :: (ap [] (rowsW ac q0 60 11))) := hD
  refine va_putF (D := D) (ci := 0) (v := .ref q0) (ty := .array (.array .int)) (C := RX0) (T := TX0) (N := 6) C.x C.b C.t inX0 tyX0 tyX0_ok nmX0 C.ow C.K hP hD hS 0 rfl rfl 1 (by decide) (C.w fl_X0_11) (fun _ h9 => h9) rfl C.2.2.2.2.1 rfl (by decide +kernel) rfl rfl (Nat.le_of_ble_eq_true rfl) dX0_init_13 (fun H locs hP hD hS => ?_)
  have hP : va_P D vwCl ((a, .inr (0, [.null, .ref q0, .null, .null, .null, .int 0])) :: (ap [] (rowsW ac q0 60 11))) H := hP
  have hD : va_D A ((a, .inr (0, [.null, .ref q0, .null, .null, .null, .int 0])) :: (ap [] (rowsW ac q0 60 11))) := hD
  refine lv_aload_n C.x C.b dX0_init_16 rfl (lv_at hl 0 rfl) ?_
  refine lv_bipush C.x C.b dX0_init_17 (v := 60) (by decide) ?_
  refine k_newi C hP hD hS 60 (by decide) (by decide) (by decide) (by decide) (by decide) dX0_init_19 (fun q1 H hP hD hS => ?_)
  have hP : va_P D vwCl ((a, .inr (0, [.null, .ref q0, .null, .null, .null, .int 0])) :: (ap (ap [] (rowsW ac q0 60 11)) [(q1, .inl (ac 0, 60, .inl (fun _ => 0)))])) H := hP
  have hD : va_D A ((a, .inr (0, [.null, .ref q0, .null, .null, .null, .int 0])) :: (ap (ap [] (rowsW ac q0 60 11)) [(q1, .inl (ac 0, 60, .inl (fun _ => 0)))])) := hD
  refine va_putF (D := D) (ci := 0) (v := .ref q1) (ty := .array .int) (C := RX0) (T := TX0) (N := 6) C.x C.b C.t inX0 tyX0 tyX0_ok nmX0 C.ow C.K hP hD hS 0 rfl rfl 2 (by decide) (C.w fl_X0_16) (fun _ h9 => h9) rfl C.2.2.2.2.1 rfl (by decide +kernel) rfl rfl (Nat.le_of_ble_eq_true rfl) dX0_init_21 (fun H locs hP hD hS => ?_)
  have hP : va_P D vwCl ((a, .inr (0, [.null, .ref q0, .ref q1, .null, .null, .int 0])) :: (ap (ap [] (rowsW ac q0 60 11)) [(q1, .inl (ac 0, 60, .inl (fun _ => 0)))])) H := hP
  have hD : va_D A ((a, .inr (0, [.null, .ref q0, .ref q1, .null, .null, .int 0])) :: (ap (ap [] (rowsW ac q0 60 11)) [(q1, .inl (ac 0, 60, .inl (fun _ => 0)))])) := hD
  refine lv_aload_n C.x C.b dX0_init_24 rfl (lv_at hl 0 rfl) ?_
  refine lv_bipush C.x C.b dX0_init_25 (v := 24) (by decide) ?_
  refine k_newi C hP hD hS 24 (by decide) (by decide) (by decide) (by decide) (by decide) dX0_init_27 (fun q2 H hP hD hS => ?_)
  have hP : va_P D vwCl ((a, .inr (0, [.null, .ref q0, .ref q1, .null, .null, .int 0])) :: (ap (ap (ap [] (rowsW ac q0 60 11)) [(q1, .inl (ac 0, 60, .inl (fun _ => 0)))]) [(q2, .inl (ac 0, 24, .inl (fun _ => 0)))])) H := hP
  have hD : va_D A ((a, .inr (0, [.null, .ref q0, .ref q1, .null, .null, .int 0])) :: (ap (ap (ap [] (rowsW ac q0 60 11)) [(q1, .inl (ac 0, 60, .inl (fun _ => 0)))]) [(q2, .inl (ac 0, 24, .inl (fun _ => 0)))])) := hD
  refine va_putF (D := D) (ci := 0) (v := .ref q2) (ty := .array .int) (C := RX0) (T := TX0) (N := 6) C.x C.b C.t inX0 tyX0 tyX0_ok nmX0 C.ow C.K hP hD hS 0 rfl rfl 3 (by decide) (C.w fl_X0_20) (fun _ h9 => h9) rfl C.2.2.2.2.1 rfl (by decide +kernel) rfl rfl (Nat.le_of_ble_eq_true rfl) dX0_init_29 (fun H locs hP hD hS => ?_)
  have hP : va_P D vwCl ((a, .inr (0, [.null, .ref q0, .ref q1, .ref q2, .null, .int 0])) :: (ap (ap (ap [] (rowsW ac q0 60 11)) [(q1, .inl (ac 0, 60, .inl (fun _ => 0)))]) [(q2, .inl (ac 0, 24, .inl (fun _ => 0)))])) H := hP
  have hD : va_D A ((a, .inr (0, [.null, .ref q0, .ref q1, .ref q2, .null, .int 0])) :: (ap (ap (ap [] (rowsW ac q0 60 11)) [(q1, .inl (ac 0, 60, .inl (fun _ => 0)))]) [(q2, .inl (ac 0, 24, .inl (fun _ => 0)))])) := hD
  refine lv_aload_n C.x C.b dX0_init_32 rfl (lv_at hl 0 rfl) ?_
  refine lv_bipush C.x C.b dX0_init_33 (v := 60) (by decide) ?_
  refine k_newz C hP hD hS 60 (by decide) (by decide) (by decide) (by decide) (by decide) dX0_init_35 (fun q3 H hP hD hS => ?_)
  have hP : va_P D vwCl ((a, .inr (0, [.null, .ref q0, .ref q1, .ref q2, .null, .int 0])) :: (ap (ap (ap (ap [] (rowsW ac q0 60 11)) [(q1, .inl (ac 0, 60, .inl (fun _ => 0)))]) [(q2, .inl (ac 0, 24, .inl (fun _ => 0)))]) [(q3, .inl (ac 1, 60, .inl (fun _ => 0)))])) H := hP
  have hD : va_D A ((a, .inr (0, [.null, .ref q0, .ref q1, .ref q2, .null, .int 0])) :: (ap (ap (ap (ap [] (rowsW ac q0 60 11)) [(q1, .inl (ac 0, 60, .inl (fun _ => 0)))]) [(q2, .inl (ac 0, 24, .inl (fun _ => 0)))]) [(q3, .inl (ac 1, 60, .inl (fun _ => 0)))])) := hD
  refine va_putF (D := D) (ci := 0) (v := .ref q3) (ty := .array .boolean) (C := RX0) (T := TX0) (N := 6) C.x C.b C.t inX0 tyX0 tyX0_ok nmX0 C.ow C.K hP hD hS 0 rfl rfl 4 (by decide) (C.w fl_X0_23) (fun _ h9 => h9) rfl C.2.2.2.2.1 rfl (by decide +kernel) rfl rfl (Nat.le_of_ble_eq_true rfl) dX0_init_37 (fun H locs hP hD hS => ?_)
  have hP : va_P D vwCl ((a, .inr (0, [.null, .ref q0, .ref q1, .ref q2, .ref q3, .int 0])) :: (ap (ap (ap (ap [] (rowsW ac q0 60 11)) [(q1, .inl (ac 0, 60, .inl (fun _ => 0)))]) [(q2, .inl (ac 0, 24, .inl (fun _ => 0)))]) [(q3, .inl (ac 1, 60, .inl (fun _ => 0)))])) H := hP
  have hD : va_D A ((a, .inr (0, [.null, .ref q0, .ref q1, .ref q2, .ref q3, .int 0])) :: (ap (ap (ap (ap [] (rowsW ac q0 60 11)) [(q1, .inl (ac 0, 60, .inl (fun _ => 0)))]) [(q2, .inl (ac 0, 24, .inl (fun _ => 0)))]) [(q3, .inl (ac 1, 60, .inl (fun _ => 0)))])) := hD
  refine lv_aload_n C.x C.b dX0_init_40 rfl (lv_at hl 0 rfl) ?_
  refine lv_aload_n C.x C.b dX0_init_41 rfl (lv_at hl 1 rfl) ?_
  refine va_putF (D := D) (ci := 0) (v := .ref w1) (ty := .object "SharedBorders$Land") (C := RX0) (T := TX0) (N := 6) C.x C.b C.t inX0 tyX0 tyX0_ok nmX0 C.ow C.K hP hD hS 0 rfl rfl 0 (by decide) (C.w fl_X0_27) (fun _ h9 => h9) rfl C.2.2.2.2.1 rfl (by decide +kernel) rfl rfl (Nat.le_of_ble_eq_true rfl) dX0_init_42 (fun H locs hP hD hS => ?_)
  have hP : va_P D vwCl ((a, .inr (0, [.ref w1, .ref q0, .ref q1, .ref q2, .ref q3, .int 0])) :: (ap (ap (ap (ap [] (rowsW ac q0 60 11)) [(q1, .inl (ac 0, 60, .inl (fun _ => 0)))]) [(q2, .inl (ac 0, 24, .inl (fun _ => 0)))]) [(q3, .inl (ac 1, 60, .inl (fun _ => 0)))])) H := hP
  have hD : va_D A ((a, .inr (0, [.ref w1, .ref q0, .ref q1, .ref q2, .ref q3, .int 0])) :: (ap (ap (ap (ap [] (rowsW ac q0 60 11)) [(q1, .inl (ac 0, 60, .inl (fun _ => 0)))]) [(q2, .inl (ac 0, 24, .inl (fun _ => 0)))]) [(q3, .inl (ac 1, 60, .inl (fun _ => 0)))])) := hD
  exact fin [q0, q1, q2, q3] H locs ls _ _ 45 hP hD hS (by decide) (by decide) dX0_init_45
