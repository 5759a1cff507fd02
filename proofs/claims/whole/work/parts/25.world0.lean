/-! the class world, just made -/
def sg0 : Mm := fun k i => if kdC k = 20 then (if i = 1 then -1 else 0) else 0
def qfB (a : Nat) (u : List Nat × List (List Nat) × (List Nat × List Nat)) (j o : Nat) : Nat := if o = 0 then ([u.1.getD 1 0, u.1.getD 2 0, u.1.getD 3 0, u.1.getD 9 0, u.1.getD 10 0] : List Nat).getD j 0 else if o < 10 then (([u.2.1.getD 1 [], u.2.1.getD 2 [], u.2.1.getD 3 [], u.2.1.getD 6 [], u.2.1.getD 7 []] : List (List Nat)).getD j []).getD (o - 1) 0 else (([u.2.1.getD 1 [], u.2.1.getD 2 [], u.2.1.getD 3 [], u.2.1.getD 6 [], u.2.1.getD 7 []] : List (List Nat)).getD j []).getD 3 0 + 1 + (o - 10)
def qf (a : Nat) (u : List Nat × List (List Nat) × (List Nat × List Nat)) (k : Nat) : Nat := if k < 35 then ([a, u.1.getD 0 0, (u.2.1.getD 0 []).getD 0 0, u.1.getD 4 0, u.1.getD 5 0, (u.2.1.getD 5 []).getD 0 0, (u.2.1.getD 5 []).getD 1 0, (u.2.1.getD 5 []).getD 2 0, (u.2.1.getD 5 []).getD 3 0, u.1.getD 6 0, u.2.2.1.getD 0 0, u.2.2.1.getD 1 0, u.2.2.1.getD 2 0, u.2.2.1.getD 3 0, u.2.2.2.getD 0 0, u.2.2.2.getD 1 0, u.2.2.2.getD 2 0, u.2.2.2.getD 3 0, u.1.getD 8 0, u.1.getD 7 0, u.1.getD 11 0, u.1.getD 12 0, (u.2.1.getD 8 []).getD 0 0, u.1.getD 13 0, (u.2.1.getD 9 []).getD 0 0, u.1.getD 14 0, (u.2.1.getD 10 []).getD 0 0, u.1.getD 15 0, (u.2.1.getD 11 []).getD 0 0, u.2.2.2.getD 0 0 + 1 + 0, u.2.2.2.getD 0 0 + 1 + 1, u.2.2.2.getD 0 0 + 1 + 2, u.2.2.2.getD 0 0 + 1 + 3, u.2.2.2.getD 0 0 + 1 + 4, u.2.2.2.getD 0 0 + 1 + 5] : List Nat).getD k 0 else if k < 95 then (u.2.1.getD 5 []).getD 0 0 + 1 + (k - 35) else qfB a u ((k - 95) / 16) ((k - 95) % 16)
def posT : List Nat := [0, 3, 4, 53, 54, 55, 116, 117, 118, 119, 120, 121, 122, 123, 124, 131, 132, 133, 2, 134, 1, 167, 168, 169, 170, 171, 172, 173, 174, 125, 126, 127, 128, 129, 130, 56, 57, 58, 59, 60, 61, 62, 63, 64, 65, 66, 67, 68, 69, 70, 71, 72, 73, 74, 75, 76, 77, 78, 79, 80, 81, 82, 83, 84, 85, 86, 87, 88, 89, 90, 91, 92, 93, 94, 95, 96, 97, 98, 99, 100, 101, 102, 103, 104, 105, 106, 107, 108, 109, 110, 111, 112, 113, 114, 115, 5, 6, 7, 8, 9, 16, 17, 18, 19, 20, 10, 11, 12, 13, 14, 15, 21, 22, 23, 24, 25, 32, 33, 34, 35, 36, 26, 27, 28, 29, 30, 31, 37, 38, 39, 40, 41, 48, 49, 50, 51, 52, 42, 43, 44, 45, 46, 47, 135, 136, 137, 138, 139, 146, 147, 148, 149, 150, 140, 141, 142, 143, 144, 145, 151, 152, 153, 154, 155, 162, 163, 164, 165, 166, 156, 157, 158, 159, 160, 161]
theorem app_l {L c : va_W} {i : Nat} {x : Nat × va_E} (h : L[i]? = some x) : (ap L c)[i]? = some x := by
  unfold ap
  rw [List.getElem?_append_left (List.getElem?_eq_some_iff.mp h).1]
  exact h
theorem app_r {L c : va_W} {n j : Nat} {x : Nat × va_E} (hn : L.length = n) (h : c[j]? = some x) : (ap L c)[n + j]? = some x := by
  unfold ap
  subst hn
  rw [List.getElem?_append_right (by omega), Nat.add_sub_cancel_left]
  exact h
theorem app_n {L c : va_W} {n k : Nat} (hn : L.length = n) (hc : c.length = k) : (ap L c).length = n + k := by
  unfold ap
  rw [List.length_append, hn, hc]
theorem cons3 {x0 x1 x2 x : Nat × va_E} {l : va_W} {m N : Nat} (hN : N = m + 3) (g : l[m]? = some x) : (x0 :: x1 :: x2 :: l)[N]? = some x := by
  subst hN
  exact g
theorem gn_0 {c0 : va_W} (h0 : c0.length = 2) : ((ap [] c0)).length = 2 := app_n (n := 0) rfl h0
theorem gn_1 {c0 c1 : va_W} (h0 : c0.length = 2) (h1 : c1.length = 16) : ((ap (ap [] c0) c1)).length = 18 := app_n (gn_0 h0) h1
theorem gn_2 {c0 c1 c2 : va_W} (h0 : c0.length = 2) (h1 : c1.length = 16) (h2 : c2.length = 16) : ((ap (ap (ap [] c0) c1) c2)).length = 34 := app_n (gn_1 h0 h1) h2
theorem gn_3 {c0 c1 c2 c3 : va_W} (h0 : c0.length = 2) (h1 : c1.length = 16) (h2 : c2.length = 16) (h3 : c3.length = 16) : ((ap (ap (ap (ap [] c0) c1) c2) c3)).length = 50 := app_n (gn_2 h0 h1 h2) h3
theorem gn_4 {c0 c1 c2 c3 c4 : va_W} (h0 : c0.length = 2) (h1 : c1.length = 16) (h2 : c2.length = 16) (h3 : c3.length = 16) (h4 : c4.length = 1) : ((ap (ap (ap (ap (ap [] c0) c1) c2) c3) c4)).length = 51 := app_n (gn_3 h0 h1 h2 h3) h4
theorem gn_5 {c0 c1 c2 c3 c4 c5 : va_W} (h0 : c0.length = 2) (h1 : c1.length = 16) (h2 : c2.length = 16) (h3 : c3.length = 16) (h4 : c4.length = 1) (h5 : c5.length = 65) : ((ap (ap (ap (ap (ap (ap [] c0) c1) c2) c3) c4) c5)).length = 116 := app_n (gn_4 h0 h1 h2 h3 h4) h5
theorem gn_6 {c0 c1 c2 c3 c4 c5 c6 : va_W} (h0 : c0.length = 2) (h1 : c1.length = 16) (h2 : c2.length = 16) (h3 : c3.length = 16) (h4 : c4.length = 1) (h5 : c5.length = 65) (h6 : c6.length = 15) : ((ap (ap (ap (ap (ap (ap (ap [] c0) c1) c2) c3) c4) c5) c6)).length = 131 := app_n (gn_5 h0 h1 h2 h3 h4 h5) h6
theorem gn_7 {c0 c1 c2 c3 c4 c5 c6 c7 : va_W} (h0 : c0.length = 2) (h1 : c1.length = 16) (h2 : c2.length = 16) (h3 : c3.length = 16) (h4 : c4.length = 1) (h5 : c5.length = 65) (h6 : c6.length = 15) (h7 : c7.length = 1) : ((ap (ap (ap (ap (ap (ap (ap (ap [] c0) c1) c2) c3) c4) c5) c6) c7)).length = 132 := app_n (gn_6 h0 h1 h2 h3 h4 h5 h6) h7
theorem gn_8 {c0 c1 c2 c3 c4 c5 c6 c7 c8 : va_W} (h0 : c0.length = 2) (h1 : c1.length = 16) (h2 : c2.length = 16) (h3 : c3.length = 16) (h4 : c4.length = 1) (h5 : c5.length = 65) (h6 : c6.length = 15) (h7 : c7.length = 1) (h8 : c8.length = 16) : ((ap (ap (ap (ap (ap (ap (ap (ap (ap [] c0) c1) c2) c3) c4) c5) c6) c7) c8)).length = 148 := app_n (gn_7 h0 h1 h2 h3 h4 h5 h6 h7) h8
theorem gn_9 {c0 c1 c2 c3 c4 c5 c6 c7 c8 c9 : va_W} (h0 : c0.length = 2) (h1 : c1.length = 16) (h2 : c2.length = 16) (h3 : c3.length = 16) (h4 : c4.length = 1) (h5 : c5.length = 65) (h6 : c6.length = 15) (h7 : c7.length = 1) (h8 : c8.length = 16) (h9 : c9.length = 16) : ((ap (ap (ap (ap (ap (ap (ap (ap (ap (ap [] c0) c1) c2) c3) c4) c5) c6) c7) c8) c9)).length = 164 := app_n (gn_8 h0 h1 h2 h3 h4 h5 h6 h7 h8) h9
theorem gn_10 {c0 c1 c2 c3 c4 c5 c6 c7 c8 c9 c10 : va_W} (h0 : c0.length = 2) (h1 : c1.length = 16) (h2 : c2.length = 16) (h3 : c3.length = 16) (h4 : c4.length = 1) (h5 : c5.length = 65) (h6 : c6.length = 15) (h7 : c7.length = 1) (h8 : c8.length = 16) (h9 : c9.length = 16) (h10 : c10.length = 2) : ((ap (ap (ap (ap (ap (ap (ap (ap (ap (ap (ap [] c0) c1) c2) c3) c4) c5) c6) c7) c8) c9) c10)).length = 166 := app_n (gn_9 h0 h1 h2 h3 h4 h5 h6 h7 h8 h9) h10
theorem gn_11 {c0 c1 c2 c3 c4 c5 c6 c7 c8 c9 c10 c11 : va_W} (h0 : c0.length = 2) (h1 : c1.length = 16) (h2 : c2.length = 16) (h3 : c3.length = 16) (h4 : c4.length = 1) (h5 : c5.length = 65) (h6 : c6.length = 15) (h7 : c7.length = 1) (h8 : c8.length = 16) (h9 : c9.length = 16) (h10 : c10.length = 2) (h11 : c11.length = 2) : ((ap (ap (ap (ap (ap (ap (ap (ap (ap (ap (ap (ap [] c0) c1) c2) c3) c4) c5) c6) c7) c8) c9) c10) c11)).length = 168 := app_n (gn_10 h0 h1 h2 h3 h4 h5 h6 h7 h8 h9 h10) h11
theorem gn_12 {c0 c1 c2 c3 c4 c5 c6 c7 c8 c9 c10 c11 c12 : va_W} (h0 : c0.length = 2) (h1 : c1.length = 16) (h2 : c2.length = 16) (h3 : c3.length = 16) (h4 : c4.length = 1) (h5 : c5.length = 65) (h6 : c6.length = 15) (h7 : c7.length = 1) (h8 : c8.length = 16) (h9 : c9.length = 16) (h10 : c10.length = 2) (h11 : c11.length = 2) (h12 : c12.length = 2) : ((ap (ap (ap (ap (ap (ap (ap (ap (ap (ap (ap (ap (ap [] c0) c1) c2) c3) c4) c5) c6) c7) c8) c9) c10) c11) c12)).length = 170 := app_n (gn_11 h0 h1 h2 h3 h4 h5 h6 h7 h8 h9 h10 h11) h12
theorem gn_13 {c0 c1 c2 c3 c4 c5 c6 c7 c8 c9 c10 c11 c12 c13 : va_W} (h0 : c0.length = 2) (h1 : c1.length = 16) (h2 : c2.length = 16) (h3 : c3.length = 16) (h4 : c4.length = 1) (h5 : c5.length = 65) (h6 : c6.length = 15) (h7 : c7.length = 1) (h8 : c8.length = 16) (h9 : c9.length = 16) (h10 : c10.length = 2) (h11 : c11.length = 2) (h12 : c12.length = 2) (h13 : c13.length = 2) : ((ap (ap (ap (ap (ap (ap (ap (ap (ap (ap (ap (ap (ap (ap [] c0) c1) c2) c3) c4) c5) c6) c7) c8) c9) c10) c11) c12) c13)).length = 172 := app_n (gn_12 h0 h1 h2 h3 h4 h5 h6 h7 h8 h9 h10 h11 h12) h13
theorem gk_0 {x0 x1 x2 : Nat × va_E} {c0 c1 c2 c3 c4 c5 c6 c7 c8 c9 c10 c11 c12 c13 : va_W}  {j N : Nat} {x : Nat × va_E} (hN : N = 0 + j + 3) (h : c0[j]? = some x) : (x0 :: x1 :: x2 :: (ap (ap (ap (ap (ap (ap (ap (ap (ap (ap (ap (ap (ap (ap [] c0) c1) c2) c3) c4) c5) c6) c7) c8) c9) c10) c11) c12) c13))[N]? = some x :=
  cons3 hN (app_l (app_l (app_l (app_l (app_l (app_l (app_l (app_l (app_l (app_l (app_l (app_l (app_l (app_r (n := 0) rfl h))))))))))))))
theorem gk_1 {x0 x1 x2 : Nat × va_E} {c0 c1 c2 c3 c4 c5 c6 c7 c8 c9 c10 c11 c12 c13 : va_W} (h0 : c0.length = 2) {j N : Nat} {x : Nat × va_E} (hN : N = 2 + j + 3) (h : c1[j]? = some x) : (x0 :: x1 :: x2 :: (ap (ap (ap (ap (ap (ap (ap (ap (ap (ap (ap (ap (ap (ap [] c0) c1) c2) c3) c4) c5) c6) c7) c8) c9) c10) c11) c12) c13))[N]? = some x :=
  cons3 hN (app_l (app_l (app_l (app_l (app_l (app_l (app_l (app_l (app_l (app_l (app_l (app_l (app_r (gn_0 h0) h)))))))))))))
theorem gk_2 {x0 x1 x2 : Nat × va_E} {c0 c1 c2 c3 c4 c5 c6 c7 c8 c9 c10 c11 c12 c13 : va_W} (h0 : c0.length = 2) (h1 : c1.length = 16) {j N : Nat} {x : Nat × va_E} (hN : N = 18 + j + 3) (h : c2[j]? = some x) : (x0 :: x1 :: x2 :: (ap (ap (ap (ap (ap (ap (ap (ap (ap (ap (ap (ap (ap (ap [] c0) c1) c2) c3) c4) c5) c6) c7) c8) c9) c10) c11) c12) c13))[N]? = some x :=
  cons3 hN (app_l (app_l (app_l (app_l (app_l (app_l (app_l (app_l (app_l (app_l (app_l (app_r (gn_1 h0 h1) h))))))))))))
theorem gk_3 {x0 x1 x2 : Nat × va_E} {c0 c1 c2 c3 c4 c5 c6 c7 c8 c9 c10 c11 c12 c13 : va_W} (h0 : c0.length = 2) (h1 : c1.length = 16) (h2 : c2.length = 16) {j N : Nat} {x : Nat × va_E} (hN : N = 34 + j + 3) (h : c3[j]? = some x) : (x0 :: x1 :: x2 :: (ap (ap (ap (ap (ap (ap (ap (ap (ap (ap (ap (ap (ap (ap [] c0) c1) c2) c3) c4) c5) c6) c7) c8) c9) c10) c11) c12) c13))[N]? = some x :=
  cons3 hN (app_l (app_l (app_l (app_l (app_l (app_l (app_l (app_l (app_l (app_l (app_r (gn_2 h0 h1 h2) h)))))))))))
theorem gk_4 {x0 x1 x2 : Nat × va_E} {c0 c1 c2 c3 c4 c5 c6 c7 c8 c9 c10 c11 c12 c13 : va_W} (h0 : c0.length = 2) (h1 : c1.length = 16) (h2 : c2.length = 16) (h3 : c3.length = 16) {j N : Nat} {x : Nat × va_E} (hN : N = 50 + j + 3) (h : c4[j]? = some x) : (x0 :: x1 :: x2 :: (ap (ap (ap (ap (ap (ap (ap (ap (ap (ap (ap (ap (ap (ap [] c0) c1) c2) c3) c4) c5) c6) c7) c8) c9) c10) c11) c12) c13))[N]? = some x :=
  cons3 hN (app_l (app_l (app_l (app_l (app_l (app_l (app_l (app_l (app_l (app_r (gn_3 h0 h1 h2 h3) h))))))))))
theorem gk_5 {x0 x1 x2 : Nat × va_E} {c0 c1 c2 c3 c4 c5 c6 c7 c8 c9 c10 c11 c12 c13 : va_W} (h0 : c0.length = 2) (h1 : c1.length = 16) (h2 : c2.length = 16) (h3 : c3.length = 16) (h4 : c4.length = 1) {j N : Nat} {x : Nat × va_E} (hN : N = 51 + j + 3) (h : c5[j]? = some x) : (x0 :: x1 :: x2 :: (ap (ap (ap (ap (ap (ap (ap (ap (ap (ap (ap (ap (ap (ap [] c0) c1) c2) c3) c4) c5) c6) c7) c8) c9) c10) c11) c12) c13))[N]? = some x :=
  cons3 hN (app_l (app_l (app_l (app_l (app_l (app_l (app_l (app_l (app_r (gn_4 h0 h1 h2 h3 h4) h)))))))))
theorem gk_6 {x0 x1 x2 : Nat × va_E} {c0 c1 c2 c3 c4 c5 c6 c7 c8 c9 c10 c11 c12 c13 : va_W} (h0 : c0.length = 2) (h1 : c1.length = 16) (h2 : c2.length = 16) (h3 : c3.length = 16) (h4 : c4.length = 1) (h5 : c5.length = 65) {j N : Nat} {x : Nat × va_E} (hN : N = 116 + j + 3) (h : c6[j]? = some x) : (x0 :: x1 :: x2 :: (ap (ap (ap (ap (ap (ap (ap (ap (ap (ap (ap (ap (ap (ap [] c0) c1) c2) c3) c4) c5) c6) c7) c8) c9) c10) c11) c12) c13))[N]? = some x :=
  cons3 hN (app_l (app_l (app_l (app_l (app_l (app_l (app_l (app_r (gn_5 h0 h1 h2 h3 h4 h5) h))))))))
theorem gk_7 {x0 x1 x2 : Nat × va_E} {c0 c1 c2 c3 c4 c5 c6 c7 c8 c9 c10 c11 c12 c13 : va_W} (h0 : c0.length = 2) (h1 : c1.length = 16) (h2 : c2.length = 16) (h3 : c3.length = 16) (h4 : c4.length = 1) (h5 : c5.length = 65) (h6 : c6.length = 15) {j N : Nat} {x : Nat × va_E} (hN : N = 131 + j + 3) (h : c7[j]? = some x) : (x0 :: x1 :: x2 :: (ap (ap (ap (ap (ap (ap (ap (ap (ap (ap (ap (ap (ap (ap [] c0) c1) c2) c3) c4) c5) c6) c7) c8) c9) c10) c11) c12) c13))[N]? = some x :=
  cons3 hN (app_l (app_l (app_l (app_l (app_l (app_l (app_r (gn_6 h0 h1 h2 h3 h4 h5 h6) h)))))))
theorem gk_8 {x0 x1 x2 : Nat × va_E} {c0 c1 c2 c3 c4 c5 c6 c7 c8 c9 c10 c11 c12 c13 : va_W} (h0 : c0.length = 2) (h1 : c1.length = 16) (h2 : c2.length = 16) (h3 : c3.length = 16) (h4 : c4.length = 1) (h5 : c5.length = 65) (h6 : c6.length = 15) (h7 : c7.length = 1) {j N : Nat} {x : Nat × va_E} (hN : N = 132 + j + 3) (h : c8[j]? = some x) : (x0 :: x1 :: x2 :: (ap (ap (ap (ap (ap (ap (ap (ap (ap (ap (ap (ap (ap (ap [] c0) c1) c2) c3) c4) c5) c6) c7) c8) c9) c10) c11) c12) c13))[N]? = some x :=
  cons3 hN (app_l (app_l (app_l (app_l (app_l (app_r (gn_7 h0 h1 h2 h3 h4 h5 h6 h7) h))))))
theorem gk_9 {x0 x1 x2 : Nat × va_E} {c0 c1 c2 c3 c4 c5 c6 c7 c8 c9 c10 c11 c12 c13 : va_W} (h0 : c0.length = 2) (h1 : c1.length = 16) (h2 : c2.length = 16) (h3 : c3.length = 16) (h4 : c4.length = 1) (h5 : c5.length = 65) (h6 : c6.length = 15) (h7 : c7.length = 1) (h8 : c8.length = 16) {j N : Nat} {x : Nat × va_E} (hN : N = 148 + j + 3) (h : c9[j]? = some x) : (x0 :: x1 :: x2 :: (ap (ap (ap (ap (ap (ap (ap (ap (ap (ap (ap (ap (ap (ap [] c0) c1) c2) c3) c4) c5) c6) c7) c8) c9) c10) c11) c12) c13))[N]? = some x :=
  cons3 hN (app_l (app_l (app_l (app_l (app_r (gn_8 h0 h1 h2 h3 h4 h5 h6 h7 h8) h)))))
theorem gk_10 {x0 x1 x2 : Nat × va_E} {c0 c1 c2 c3 c4 c5 c6 c7 c8 c9 c10 c11 c12 c13 : va_W} (h0 : c0.length = 2) (h1 : c1.length = 16) (h2 : c2.length = 16) (h3 : c3.length = 16) (h4 : c4.length = 1) (h5 : c5.length = 65) (h6 : c6.length = 15) (h7 : c7.length = 1) (h8 : c8.length = 16) (h9 : c9.length = 16) {j N : Nat} {x : Nat × va_E} (hN : N = 164 + j + 3) (h : c10[j]? = some x) : (x0 :: x1 :: x2 :: (ap (ap (ap (ap (ap (ap (ap (ap (ap (ap (ap (ap (ap (ap [] c0) c1) c2) c3) c4) c5) c6) c7) c8) c9) c10) c11) c12) c13))[N]? = some x :=
  cons3 hN (app_l (app_l (app_l (app_r (gn_9 h0 h1 h2 h3 h4 h5 h6 h7 h8 h9) h))))
theorem gk_11 {x0 x1 x2 : Nat × va_E} {c0 c1 c2 c3 c4 c5 c6 c7 c8 c9 c10 c11 c12 c13 : va_W} (h0 : c0.length = 2) (h1 : c1.length = 16) (h2 : c2.length = 16) (h3 : c3.length = 16) (h4 : c4.length = 1) (h5 : c5.length = 65) (h6 : c6.length = 15) (h7 : c7.length = 1) (h8 : c8.length = 16) (h9 : c9.length = 16) (h10 : c10.length = 2) {j N : Nat} {x : Nat × va_E} (hN : N = 166 + j + 3) (h : c11[j]? = some x) : (x0 :: x1 :: x2 :: (ap (ap (ap (ap (ap (ap (ap (ap (ap (ap (ap (ap (ap (ap [] c0) c1) c2) c3) c4) c5) c6) c7) c8) c9) c10) c11) c12) c13))[N]? = some x :=
  cons3 hN (app_l (app_l (app_r (gn_10 h0 h1 h2 h3 h4 h5 h6 h7 h8 h9 h10) h)))
theorem gk_12 {x0 x1 x2 : Nat × va_E} {c0 c1 c2 c3 c4 c5 c6 c7 c8 c9 c10 c11 c12 c13 : va_W} (h0 : c0.length = 2) (h1 : c1.length = 16) (h2 : c2.length = 16) (h3 : c3.length = 16) (h4 : c4.length = 1) (h5 : c5.length = 65) (h6 : c6.length = 15) (h7 : c7.length = 1) (h8 : c8.length = 16) (h9 : c9.length = 16) (h10 : c10.length = 2) (h11 : c11.length = 2) {j N : Nat} {x : Nat × va_E} (hN : N = 168 + j + 3) (h : c12[j]? = some x) : (x0 :: x1 :: x2 :: (ap (ap (ap (ap (ap (ap (ap (ap (ap (ap (ap (ap (ap (ap [] c0) c1) c2) c3) c4) c5) c6) c7) c8) c9) c10) c11) c12) c13))[N]? = some x :=
  cons3 hN (app_l (app_r (gn_11 h0 h1 h2 h3 h4 h5 h6 h7 h8 h9 h10 h11) h))
theorem gk_13 {x0 x1 x2 : Nat × va_E} {c0 c1 c2 c3 c4 c5 c6 c7 c8 c9 c10 c11 c12 c13 : va_W} (h0 : c0.length = 2) (h1 : c1.length = 16) (h2 : c2.length = 16) (h3 : c3.length = 16) (h4 : c4.length = 1) (h5 : c5.length = 65) (h6 : c6.length = 15) (h7 : c7.length = 1) (h8 : c8.length = 16) (h9 : c9.length = 16) (h10 : c10.length = 2) (h11 : c11.length = 2) (h12 : c12.length = 2) {j N : Nat} {x : Nat × va_E} (hN : N = 170 + j + 3) (h : c13[j]? = some x) : (x0 :: x1 :: x2 :: (ap (ap (ap (ap (ap (ap (ap (ap (ap (ap (ap (ap (ap (ap [] c0) c1) c2) c3) c4) c5) c6) c7) c8) c9) c10) c11) c12) c13))[N]? = some x :=
  cons3 hN (app_r (gn_12 h0 h1 h2 h3 h4 h5 h6 h7 h8 h9 h10 h11 h12) h)
theorem ck_0 {ac : Nat → ClassId} {a : Nat} {u : List Nat × List (List Nat) × (List Nat × List Nat)} {j N : Nat} {x : Nat × va_E} (hN : N = 0 + j + 3) (h : (tapeW ac (u.1.getD 0 0) (u.2.1.getD 0 []) : va_W)[j]? = some x) : (mainW ac a u)[N]? = some x := gk_0  hN h
theorem ck_1 {ac : Nat → ClassId} {a : Nat} {u : List Nat × List (List Nat) × (List Nat × List Nat)} {j N : Nat} {x : Nat × va_E} (hN : N = 2 + j + 3) (h : (landW ac (u.1.getD 1 0) (u.2.1.getD 1 []) : va_W)[j]? = some x) : (mainW ac a u)[N]? = some x := gk_1 rfl hN h
theorem ck_2 {ac : Nat → ClassId} {a : Nat} {u : List Nat × List (List Nat) × (List Nat × List Nat)} {j N : Nat} {x : Nat × va_E} (hN : N = 18 + j + 3) (h : (landW ac (u.1.getD 2 0) (u.2.1.getD 2 []) : va_W)[j]? = some x) : (mainW ac a u)[N]? = some x := gk_2 rfl rfl hN h
theorem ck_3 {ac : Nat → ClassId} {a : Nat} {u : List Nat × List (List Nat) × (List Nat × List Nat)} {j N : Nat} {x : Nat × va_E} (hN : N = 34 + j + 3) (h : (landW ac (u.1.getD 3 0) (u.2.1.getD 3 []) : va_W)[j]? = some x) : (mainW ac a u)[N]? = some x := gk_3 rfl rfl rfl hN h
theorem ck_4 {ac : Nat → ClassId} {a : Nat} {u : List Nat × List (List Nat) × (List Nat × List Nat)} {j N : Nat} {x : Nat × va_E} (hN : N = 50 + j + 3) (h : (readW ac (u.1.getD 4 0) (u.1.getD 0 0) (u.1.getD 2 0) (u.2.1.getD 4 []) : va_W)[j]? = some x) : (mainW ac a u)[N]? = some x := gk_4 rfl rfl rfl rfl hN h
theorem ck_5 {ac : Nat → ClassId} {a : Nat} {u : List Nat × List (List Nat) × (List Nat × List Nat)} {j N : Nat} {x : Nat × va_E} (hN : N = 51 + j + 3) (h : (arcsW ac (u.1.getD 5 0) (u.1.getD 1 0) (u.2.1.getD 5 []) : va_W)[j]? = some x) : (mainW ac a u)[N]? = some x := gk_5 rfl rfl rfl rfl rfl hN h
theorem ck_6 {ac : Nat → ClassId} {a : Nat} {u : List Nat × List (List Nat) × (List Nat × List Nat)} {j N : Nat} {x : Nat × va_E} (hN : N = 116 + j + 3) (h : (stagW ac (u.1.getD 6 0) (u.1.getD 1 0) u.2.2 : va_W)[j]? = some x) : (mainW ac a u)[N]? = some x := gk_6 rfl rfl rfl rfl rfl rfl hN h
theorem ck_7 {ac : Nat → ClassId} {a : Nat} {u : List Nat × List (List Nat) × (List Nat × List Nat)} {j N : Nat} {x : Nat × va_E} (hN : N = 131 + j + 3) (h : ([((u.1.getD 7 0), .inl (ac 1, 2, .inl (fun _ => 0)))] : va_W)[j]? = some x) : (mainW ac a u)[N]? = some x := gk_7 rfl rfl rfl rfl rfl rfl rfl hN h
theorem ck_8 {ac : Nat → ClassId} {a : Nat} {u : List Nat × List (List Nat) × (List Nat × List Nat)} {j N : Nat} {x : Nat × va_E} (hN : N = 132 + j + 3) (h : (landW ac (u.1.getD 9 0) (u.2.1.getD 6 []) : va_W)[j]? = some x) : (mainW ac a u)[N]? = some x := gk_8 rfl rfl rfl rfl rfl rfl rfl rfl hN h
theorem ck_9 {ac : Nat → ClassId} {a : Nat} {u : List Nat × List (List Nat) × (List Nat × List Nat)} {j N : Nat} {x : Nat × va_E} (hN : N = 148 + j + 3) (h : (landW ac (u.1.getD 10 0) (u.2.1.getD 7 []) : va_W)[j]? = some x) : (mainW ac a u)[N]? = some x := gk_9 rfl rfl rfl rfl rfl rfl rfl rfl rfl hN h
theorem ck_10 {ac : Nat → ClassId} {a : Nat} {u : List Nat × List (List Nat) × (List Nat × List Nat)} {j N : Nat} {x : Nat × va_E} (hN : N = 164 + j + 3) (h : (shetW ac (u.1.getD 12 0) (u.2.1.getD 8 []) : va_W)[j]? = some x) : (mainW ac a u)[N]? = some x := gk_10 rfl rfl rfl rfl rfl rfl rfl rfl rfl rfl hN h
theorem ck_11 {ac : Nat → ClassId} {a : Nat} {u : List Nat × List (List Nat) × (List Nat × List Nat)} {j N : Nat} {x : Nat × va_E} (hN : N = 166 + j + 3) (h : (shetW ac (u.1.getD 13 0) (u.2.1.getD 9 []) : va_W)[j]? = some x) : (mainW ac a u)[N]? = some x := gk_11 rfl rfl rfl rfl rfl rfl rfl rfl rfl rfl rfl hN h
theorem ck_12 {ac : Nat → ClassId} {a : Nat} {u : List Nat × List (List Nat) × (List Nat × List Nat)} {j N : Nat} {x : Nat × va_E} (hN : N = 168 + j + 3) (h : (shetW ac (u.1.getD 14 0) (u.2.1.getD 10 []) : va_W)[j]? = some x) : (mainW ac a u)[N]? = some x := gk_12 rfl rfl rfl rfl rfl rfl rfl rfl rfl rfl rfl rfl hN h
theorem ck_13 {ac : Nat → ClassId} {a : Nat} {u : List Nat × List (List Nat) × (List Nat × List Nat)} {j N : Nat} {x : Nat × va_E} (hN : N = 170 + j + 3) (h : (shetW ac (u.1.getD 15 0) (u.2.1.getD 11 []) : va_W)[j]? = some x) : (mainW ac a u)[N]? = some x := gk_13 rfl rfl rfl rfl rfl rfl rfl rfl rfl rfl rfl rfl rfl hN h
abbrev MPp (ac : Nat → ClassId) (a : Nat) (u : List Nat × List (List Nat) × (List Nat × List Nat)) (k : Nat) : Prop := (mainW ac a u)[posT.getD k 0]? = some (qf a u k, cwC ac (qf a u) k (fz (sg0 k)))
theorem outer_c {n : Nat} {f g : Nat → Nat} (h : ∀ i, i < n → f i = g i) : (fun i => if i < n then some (f i) else none) = (fun i => if i < n then some (g i) else none) := by
  funext i
  by_cases z : i < n
  · rw [if_pos z, if_pos z, h i z]
  · rw [if_neg z, if_neg z]
set_option maxRecDepth 20000 in
theorem mp_0 {ac : Nat → ClassId} {a : Nat} {u : List Nat × List (List Nat) × (List Nat × List Nat)} : MPp ac a u 0 := rfl
set_option maxRecDepth 20000 in
theorem mp_1 {ac : Nat → ClassId} {a : Nat} {u : List Nat × List (List Nat) × (List Nat × List Nat)} : MPp ac a u 1 := ck_0 (j := 0) rfl rfl
set_option maxRecDepth 20000 in
theorem mp_2 {ac : Nat → ClassId} {a : Nat} {u : List Nat × List (List Nat) × (List Nat × List Nat)} : MPp ac a u 2 := ck_0 (j := 1) rfl rfl
set_option maxRecDepth 20000 in
theorem mp_3 {ac : Nat → ClassId} {a : Nat} {u : List Nat × List (List Nat) × (List Nat × List Nat)} : MPp ac a u 3 := ck_4 (j := 0) rfl rfl
set_option maxRecDepth 20000 in
theorem mp_4 {ac : Nat → ClassId} {a : Nat} {u : List Nat × List (List Nat) × (List Nat × List Nat)} : MPp ac a u 4 := ck_5 (j := 0) rfl rfl
set_option maxRecDepth 20000 in
theorem mp_5 {ac : Nat → ClassId} {a : Nat} {u : List Nat × List (List Nat) × (List Nat × List Nat)} : MPp ac a u 5 := by
  have e : (fun i => if i < 60 then some (qf a u (35 + i)) else none) = (fun i => if i < 60 then some ((u.2.1.getD 5 []).getD 0 0 + 1 + i) else none) := outer_c (fun i hi => by
    unfold qf
    rw [if_neg (by omega), if_pos (by omega), Nat.add_sub_cancel_left])
  show (mainW ac a u)[55]? = some (qf a u 5, .inl (ac 3, 60, .inr (.inr (.inr (.inr (fun i => if i < 60 then some (qf a u (35 + i)) else none))))))
  rw [e]
  exact ck_5 (j := 1) rfl rfl
set_option maxRecDepth 20000 in
theorem mp_6 {ac : Nat → ClassId} {a : Nat} {u : List Nat × List (List Nat) × (List Nat × List Nat)} : MPp ac a u 6 := ck_5 (j := 62) rfl rfl
set_option maxRecDepth 20000 in
theorem mp_7 {ac : Nat → ClassId} {a : Nat} {u : List Nat × List (List Nat) × (List Nat × List Nat)} : MPp ac a u 7 := ck_5 (j := 63) rfl rfl
set_option maxRecDepth 20000 in
theorem mp_8 {ac : Nat → ClassId} {a : Nat} {u : List Nat × List (List Nat) × (List Nat × List Nat)} : MPp ac a u 8 := ck_5 (j := 64) rfl rfl
set_option maxRecDepth 20000 in
theorem mp_9 {ac : Nat → ClassId} {a : Nat} {u : List Nat × List (List Nat) × (List Nat × List Nat)} : MPp ac a u 9 := ck_6 (j := 0) rfl rfl
set_option maxRecDepth 20000 in
theorem mp_10 {ac : Nat → ClassId} {a : Nat} {u : List Nat × List (List Nat) × (List Nat × List Nat)} : MPp ac a u 10 := ck_6 (j := 1) rfl rfl
set_option maxRecDepth 20000 in
theorem mp_11 {ac : Nat → ClassId} {a : Nat} {u : List Nat × List (List Nat) × (List Nat × List Nat)} : MPp ac a u 11 := ck_6 (j := 2) rfl rfl
set_option maxRecDepth 20000 in
theorem mp_12 {ac : Nat → ClassId} {a : Nat} {u : List Nat × List (List Nat) × (List Nat × List Nat)} : MPp ac a u 12 := ck_6 (j := 3) rfl rfl
set_option maxRecDepth 20000 in
theorem mp_13 {ac : Nat → ClassId} {a : Nat} {u : List Nat × List (List Nat) × (List Nat × List Nat)} : MPp ac a u 13 := ck_6 (j := 4) rfl rfl
set_option maxRecDepth 20000 in
theorem mp_14 {ac : Nat → ClassId} {a : Nat} {u : List Nat × List (List Nat) × (List Nat × List Nat)} : MPp ac a u 14 := by
  have e : (fun i => if i < 6 then some (qf a u (29 + i)) else none) = (fun i => if i < 6 then some (u.2.2.2.getD 0 0 + 1 + i) else none) := outer_c (fun i hi => by
    rcases (show i = 0 ∨ i = 1 ∨ i = 2 ∨ i = 3 ∨ i = 4 ∨ i = 5 by omega) with rfl | rfl | rfl | rfl | rfl | rfl <;> rfl)
  show (mainW ac a u)[124]? = some (qf a u 14, .inl (ac 3, 6, .inr (.inr (.inr (.inr (fun i => if i < 6 then some (qf a u (29 + i)) else none))))))
  rw [e]
  exact ck_6 (j := 5) rfl rfl
set_option maxRecDepth 20000 in
theorem mp_15 {ac : Nat → ClassId} {a : Nat} {u : List Nat × List (List Nat) × (List Nat × List Nat)} : MPp ac a u 15 := ck_6 (j := 12) rfl rfl
set_option maxRecDepth 20000 in
theorem mp_16 {ac : Nat → ClassId} {a : Nat} {u : List Nat × List (List Nat) × (List Nat × List Nat)} : MPp ac a u 16 := ck_6 (j := 13) rfl rfl
set_option maxRecDepth 20000 in
theorem mp_17 {ac : Nat → ClassId} {a : Nat} {u : List Nat × List (List Nat) × (List Nat × List Nat)} : MPp ac a u 17 := ck_6 (j := 14) rfl rfl
set_option maxRecDepth 20000 in
theorem mp_18 {ac : Nat → ClassId} {a : Nat} {u : List Nat × List (List Nat) × (List Nat × List Nat)} : MPp ac a u 18 := by
  have e : (fun i => if i < 2 then some (qf a u (143 + 16 * i)) else none) = va_up (va_up (fun _ => none) 0 (some (u.1.getD 9 0))) 1 (some (u.1.getD 10 0)) := by
    funext i
    unfold va_up
    by_cases h1 : i = 1
    · subst h1; rfl
    · by_cases h0 : i = 0
      · subst h0; rfl
      · rw [if_neg h1, if_neg h0, if_neg (by omega)]
  show (mainW ac a u)[2]? = some (qf a u 18, .inl (ac 4, 2, .inr (.inr (.inr (.inr (fun i => if i < 2 then some (qf a u (143 + 16 * i)) else none))))))
  rw [e]
  rfl
set_option maxRecDepth 20000 in
theorem mp_19 {ac : Nat → ClassId} {a : Nat} {u : List Nat × List (List Nat) × (List Nat × List Nat)} : MPp ac a u 19 := ck_7 (j := 0) rfl rfl
set_option maxRecDepth 20000 in
theorem mp_20 {ac : Nat → ClassId} {a : Nat} {u : List Nat × List (List Nat) × (List Nat × List Nat)} : MPp ac a u 20 := by
  have e : (fun i => if i < 4 then some (qf a u (21 + 2 * i)) else none) = va_up (va_up (va_up (va_up (fun _ => none) 0 (some (u.1.getD 12 0))) 1 (some (u.1.getD 13 0))) 2 (some (u.1.getD 14 0))) 3 (some (u.1.getD 15 0)) := by
    funext i
    unfold va_up
    by_cases h3 : i = 3
    · subst h3; rfl
    · by_cases h2 : i = 2
      · subst h2; rfl
      · by_cases h1 : i = 1
        · subst h1; rfl
        · by_cases h0 : i = 0
          · subst h0; rfl
          · rw [if_neg h3, if_neg h2, if_neg h1, if_neg h0, if_neg (by omega)]
  show (mainW ac a u)[1]? = some (qf a u 20, .inl (ac 5, 4, .inr (.inr (.inr (.inr (fun i => if i < 4 then some (qf a u (21 + 2 * i)) else none))))))
  rw [e]
  rfl
set_option maxRecDepth 20000 in
theorem mp_21 {ac : Nat → ClassId} {a : Nat} {u : List Nat × List (List Nat) × (List Nat × List Nat)} : MPp ac a u 21 := ck_10 (j := 0) rfl rfl
set_option maxRecDepth 20000 in
theorem mp_22 {ac : Nat → ClassId} {a : Nat} {u : List Nat × List (List Nat) × (List Nat × List Nat)} : MPp ac a u 22 := ck_10 (j := 1) rfl rfl
set_option maxRecDepth 20000 in
theorem mp_23 {ac : Nat → ClassId} {a : Nat} {u : List Nat × List (List Nat) × (List Nat × List Nat)} : MPp ac a u 23 := ck_11 (j := 0) rfl rfl
set_option maxRecDepth 20000 in
theorem mp_24 {ac : Nat → ClassId} {a : Nat} {u : List Nat × List (List Nat) × (List Nat × List Nat)} : MPp ac a u 24 := ck_11 (j := 1) rfl rfl
set_option maxRecDepth 20000 in
theorem mp_25 {ac : Nat → ClassId} {a : Nat} {u : List Nat × List (List Nat) × (List Nat × List Nat)} : MPp ac a u 25 := ck_12 (j := 0) rfl rfl
set_option maxRecDepth 20000 in
theorem mp_26 {ac : Nat → ClassId} {a : Nat} {u : List Nat × List (List Nat) × (List Nat × List Nat)} : MPp ac a u 26 := ck_12 (j := 1) rfl rfl
set_option maxRecDepth 20000 in
theorem mp_27 {ac : Nat → ClassId} {a : Nat} {u : List Nat × List (List Nat) × (List Nat × List Nat)} : MPp ac a u 27 := ck_13 (j := 0) rfl rfl
set_option maxRecDepth 20000 in
theorem mp_28 {ac : Nat → ClassId} {a : Nat} {u : List Nat × List (List Nat) × (List Nat × List Nat)} : MPp ac a u 28 := ck_13 (j := 1) rfl rfl
set_option maxRecDepth 20000 in
theorem mp_29 {ac : Nat → ClassId} {a : Nat} {u : List Nat × List (List Nat) × (List Nat × List Nat)} : MPp ac a u 29 := ck_6 (j := 6) rfl rfl
set_option maxRecDepth 20000 in
theorem mp_30 {ac : Nat → ClassId} {a : Nat} {u : List Nat × List (List Nat) × (List Nat × List Nat)} : MPp ac a u 30 := ck_6 (j := 7) rfl rfl
set_option maxRecDepth 20000 in
theorem mp_31 {ac : Nat → ClassId} {a : Nat} {u : List Nat × List (List Nat) × (List Nat × List Nat)} : MPp ac a u 31 := ck_6 (j := 8) rfl rfl
set_option maxRecDepth 20000 in
theorem mp_32 {ac : Nat → ClassId} {a : Nat} {u : List Nat × List (List Nat) × (List Nat × List Nat)} : MPp ac a u 32 := ck_6 (j := 9) rfl rfl
set_option maxRecDepth 20000 in
theorem mp_33 {ac : Nat → ClassId} {a : Nat} {u : List Nat × List (List Nat) × (List Nat × List Nat)} : MPp ac a u 33 := ck_6 (j := 10) rfl rfl
set_option maxRecDepth 20000 in
theorem mp_34 {ac : Nat → ClassId} {a : Nat} {u : List Nat × List (List Nat) × (List Nat × List Nat)} : MPp ac a u 34 := ck_6 (j := 11) rfl rfl
set_option maxRecDepth 20000 in
theorem mp_35 {ac : Nat → ClassId} {a : Nat} {u : List Nat × List (List Nat) × (List Nat × List Nat)} : MPp ac a u 35 := ck_5 (j := 2) rfl rfl
set_option maxRecDepth 20000 in
theorem mp_36 {ac : Nat → ClassId} {a : Nat} {u : List Nat × List (List Nat) × (List Nat × List Nat)} : MPp ac a u 36 := ck_5 (j := 3) rfl rfl
set_option maxRecDepth 20000 in
theorem mp_37 {ac : Nat → ClassId} {a : Nat} {u : List Nat × List (List Nat) × (List Nat × List Nat)} : MPp ac a u 37 := ck_5 (j := 4) rfl rfl
set_option maxRecDepth 20000 in
theorem mp_38 {ac : Nat → ClassId} {a : Nat} {u : List Nat × List (List Nat) × (List Nat × List Nat)} : MPp ac a u 38 := ck_5 (j := 5) rfl rfl
set_option maxRecDepth 20000 in
theorem mp_39 {ac : Nat → ClassId} {a : Nat} {u : List Nat × List (List Nat) × (List Nat × List Nat)} : MPp ac a u 39 := ck_5 (j := 6) rfl rfl
set_option maxRecDepth 20000 in
theorem mp_40 {ac : Nat → ClassId} {a : Nat} {u : List Nat × List (List Nat) × (List Nat × List Nat)} : MPp ac a u 40 := ck_5 (j := 7) rfl rfl
set_option maxRecDepth 20000 in
theorem mp_41 {ac : Nat → ClassId} {a : Nat} {u : List Nat × List (List Nat) × (List Nat × List Nat)} : MPp ac a u 41 := ck_5 (j := 8) rfl rfl
set_option maxRecDepth 20000 in
theorem mp_42 {ac : Nat → ClassId} {a : Nat} {u : List Nat × List (List Nat) × (List Nat × List Nat)} : MPp ac a u 42 := ck_5 (j := 9) rfl rfl
set_option maxRecDepth 20000 in
theorem mp_43 {ac : Nat → ClassId} {a : Nat} {u : List Nat × List (List Nat) × (List Nat × List Nat)} : MPp ac a u 43 := ck_5 (j := 10) rfl rfl
set_option maxRecDepth 20000 in
theorem mp_44 {ac : Nat → ClassId} {a : Nat} {u : List Nat × List (List Nat) × (List Nat × List Nat)} : MPp ac a u 44 := ck_5 (j := 11) rfl rfl
set_option maxRecDepth 20000 in
theorem mp_45 {ac : Nat → ClassId} {a : Nat} {u : List Nat × List (List Nat) × (List Nat × List Nat)} : MPp ac a u 45 := ck_5 (j := 12) rfl rfl
set_option maxRecDepth 20000 in
theorem mp_46 {ac : Nat → ClassId} {a : Nat} {u : List Nat × List (List Nat) × (List Nat × List Nat)} : MPp ac a u 46 := ck_5 (j := 13) rfl rfl
set_option maxRecDepth 20000 in
theorem mp_47 {ac : Nat → ClassId} {a : Nat} {u : List Nat × List (List Nat) × (List Nat × List Nat)} : MPp ac a u 47 := ck_5 (j := 14) rfl rfl
set_option maxRecDepth 20000 in
theorem mp_48 {ac : Nat → ClassId} {a : Nat} {u : List Nat × List (List Nat) × (List Nat × List Nat)} : MPp ac a u 48 := ck_5 (j := 15) rfl rfl
set_option maxRecDepth 20000 in
theorem mp_49 {ac : Nat → ClassId} {a : Nat} {u : List Nat × List (List Nat) × (List Nat × List Nat)} : MPp ac a u 49 := ck_5 (j := 16) rfl rfl
set_option maxRecDepth 20000 in
theorem mp_50 {ac : Nat → ClassId} {a : Nat} {u : List Nat × List (List Nat) × (List Nat × List Nat)} : MPp ac a u 50 := ck_5 (j := 17) rfl rfl
set_option maxRecDepth 20000 in
theorem mp_51 {ac : Nat → ClassId} {a : Nat} {u : List Nat × List (List Nat) × (List Nat × List Nat)} : MPp ac a u 51 := ck_5 (j := 18) rfl rfl
set_option maxRecDepth 20000 in
theorem mp_52 {ac : Nat → ClassId} {a : Nat} {u : List Nat × List (List Nat) × (List Nat × List Nat)} : MPp ac a u 52 := ck_5 (j := 19) rfl rfl
set_option maxRecDepth 20000 in
theorem mp_53 {ac : Nat → ClassId} {a : Nat} {u : List Nat × List (List Nat) × (List Nat × List Nat)} : MPp ac a u 53 := ck_5 (j := 20) rfl rfl
set_option maxRecDepth 20000 in
theorem mp_54 {ac : Nat → ClassId} {a : Nat} {u : List Nat × List (List Nat) × (List Nat × List Nat)} : MPp ac a u 54 := ck_5 (j := 21) rfl rfl
set_option maxRecDepth 20000 in
theorem mp_55 {ac : Nat → ClassId} {a : Nat} {u : List Nat × List (List Nat) × (List Nat × List Nat)} : MPp ac a u 55 := ck_5 (j := 22) rfl rfl
set_option maxRecDepth 20000 in
theorem mp_56 {ac : Nat → ClassId} {a : Nat} {u : List Nat × List (List Nat) × (List Nat × List Nat)} : MPp ac a u 56 := ck_5 (j := 23) rfl rfl
set_option maxRecDepth 20000 in
theorem mp_57 {ac : Nat → ClassId} {a : Nat} {u : List Nat × List (List Nat) × (List Nat × List Nat)} : MPp ac a u 57 := ck_5 (j := 24) rfl rfl
set_option maxRecDepth 20000 in
theorem mp_58 {ac : Nat → ClassId} {a : Nat} {u : List Nat × List (List Nat) × (List Nat × List Nat)} : MPp ac a u 58 := ck_5 (j := 25) rfl rfl
set_option maxRecDepth 20000 in
theorem mp_59 {ac : Nat → ClassId} {a : Nat} {u : List Nat × List (List Nat) × (List Nat × List Nat)} : MPp ac a u 59 := ck_5 (j := 26) rfl rfl
set_option maxRecDepth 20000 in
theorem mp_60 {ac : Nat → ClassId} {a : Nat} {u : List Nat × List (List Nat) × (List Nat × List Nat)} : MPp ac a u 60 := ck_5 (j := 27) rfl rfl
set_option maxRecDepth 20000 in
theorem mp_61 {ac : Nat → ClassId} {a : Nat} {u : List Nat × List (List Nat) × (List Nat × List Nat)} : MPp ac a u 61 := ck_5 (j := 28) rfl rfl
set_option maxRecDepth 20000 in
theorem mp_62 {ac : Nat → ClassId} {a : Nat} {u : List Nat × List (List Nat) × (List Nat × List Nat)} : MPp ac a u 62 := ck_5 (j := 29) rfl rfl
set_option maxRecDepth 20000 in
theorem mp_63 {ac : Nat → ClassId} {a : Nat} {u : List Nat × List (List Nat) × (List Nat × List Nat)} : MPp ac a u 63 := ck_5 (j := 30) rfl rfl
set_option maxRecDepth 20000 in
theorem mp_64 {ac : Nat → ClassId} {a : Nat} {u : List Nat × List (List Nat) × (List Nat × List Nat)} : MPp ac a u 64 := ck_5 (j := 31) rfl rfl
set_option maxRecDepth 20000 in
theorem mp_65 {ac : Nat → ClassId} {a : Nat} {u : List Nat × List (List Nat) × (List Nat × List Nat)} : MPp ac a u 65 := ck_5 (j := 32) rfl rfl
set_option maxRecDepth 20000 in
theorem mp_66 {ac : Nat → ClassId} {a : Nat} {u : List Nat × List (List Nat) × (List Nat × List Nat)} : MPp ac a u 66 := ck_5 (j := 33) rfl rfl
set_option maxRecDepth 20000 in
theorem mp_67 {ac : Nat → ClassId} {a : Nat} {u : List Nat × List (List Nat) × (List Nat × List Nat)} : MPp ac a u 67 := ck_5 (j := 34) rfl rfl
set_option maxRecDepth 20000 in
theorem mp_68 {ac : Nat → ClassId} {a : Nat} {u : List Nat × List (List Nat) × (List Nat × List Nat)} : MPp ac a u 68 := ck_5 (j := 35) rfl rfl
set_option maxRecDepth 20000 in
theorem mp_69 {ac : Nat → ClassId} {a : Nat} {u : List Nat × List (List Nat) × (List Nat × List Nat)} : MPp ac a u 69 := ck_5 (j := 36) rfl rfl
set_option maxRecDepth 20000 in
theorem mp_70 {ac : Nat → ClassId} {a : Nat} {u : List Nat × List (List Nat) × (List Nat × List Nat)} : MPp ac a u 70 := ck_5 (j := 37) rfl rfl
set_option maxRecDepth 20000 in
theorem mp_71 {ac : Nat → ClassId} {a : Nat} {u : List Nat × List (List Nat) × (List Nat × List Nat)} : MPp ac a u 71 := ck_5 (j := 38) rfl rfl
set_option maxRecDepth 20000 in
theorem mp_72 {ac : Nat → ClassId} {a : Nat} {u : List Nat × List (List Nat) × (List Nat × List Nat)} : MPp ac a u 72 := ck_5 (j := 39) rfl rfl
set_option maxRecDepth 20000 in
theorem mp_73 {ac : Nat → ClassId} {a : Nat} {u : List Nat × List (List Nat) × (List Nat × List Nat)} : MPp ac a u 73 := ck_5 (j := 40) rfl rfl
set_option maxRecDepth 20000 in
theorem mp_74 {ac : Nat → ClassId} {a : Nat} {u : List Nat × List (List Nat) × (List Nat × List Nat)} : MPp ac a u 74 := ck_5 (j := 41) rfl rfl
set_option maxRecDepth 20000 in
theorem mp_75 {ac : Nat → ClassId} {a : Nat} {u : List Nat × List (List Nat) × (List Nat × List Nat)} : MPp ac a u 75 := ck_5 (j := 42) rfl rfl
set_option maxRecDepth 20000 in
theorem mp_76 {ac : Nat → ClassId} {a : Nat} {u : List Nat × List (List Nat) × (List Nat × List Nat)} : MPp ac a u 76 := ck_5 (j := 43) rfl rfl
set_option maxRecDepth 20000 in
theorem mp_77 {ac : Nat → ClassId} {a : Nat} {u : List Nat × List (List Nat) × (List Nat × List Nat)} : MPp ac a u 77 := ck_5 (j := 44) rfl rfl
set_option maxRecDepth 20000 in
theorem mp_78 {ac : Nat → ClassId} {a : Nat} {u : List Nat × List (List Nat) × (List Nat × List Nat)} : MPp ac a u 78 := ck_5 (j := 45) rfl rfl
set_option maxRecDepth 20000 in
theorem mp_79 {ac : Nat → ClassId} {a : Nat} {u : List Nat × List (List Nat) × (List Nat × List Nat)} : MPp ac a u 79 := ck_5 (j := 46) rfl rfl
set_option maxRecDepth 20000 in
theorem mp_80 {ac : Nat → ClassId} {a : Nat} {u : List Nat × List (List Nat) × (List Nat × List Nat)} : MPp ac a u 80 := ck_5 (j := 47) rfl rfl
set_option maxRecDepth 20000 in
theorem mp_81 {ac : Nat → ClassId} {a : Nat} {u : List Nat × List (List Nat) × (List Nat × List Nat)} : MPp ac a u 81 := ck_5 (j := 48) rfl rfl
set_option maxRecDepth 20000 in
theorem mp_82 {ac : Nat → ClassId} {a : Nat} {u : List Nat × List (List Nat) × (List Nat × List Nat)} : MPp ac a u 82 := ck_5 (j := 49) rfl rfl
set_option maxRecDepth 20000 in
theorem mp_83 {ac : Nat → ClassId} {a : Nat} {u : List Nat × List (List Nat) × (List Nat × List Nat)} : MPp ac a u 83 := ck_5 (j := 50) rfl rfl
set_option maxRecDepth 20000 in
theorem mp_84 {ac : Nat → ClassId} {a : Nat} {u : List Nat × List (List Nat) × (List Nat × List Nat)} : MPp ac a u 84 := ck_5 (j := 51) rfl rfl
set_option maxRecDepth 20000 in
theorem mp_85 {ac : Nat → ClassId} {a : Nat} {u : List Nat × List (List Nat) × (List Nat × List Nat)} : MPp ac a u 85 := ck_5 (j := 52) rfl rfl
set_option maxRecDepth 20000 in
theorem mp_86 {ac : Nat → ClassId} {a : Nat} {u : List Nat × List (List Nat) × (List Nat × List Nat)} : MPp ac a u 86 := ck_5 (j := 53) rfl rfl
set_option maxRecDepth 20000 in
theorem mp_87 {ac : Nat → ClassId} {a : Nat} {u : List Nat × List (List Nat) × (List Nat × List Nat)} : MPp ac a u 87 := ck_5 (j := 54) rfl rfl
set_option maxRecDepth 20000 in
theorem mp_88 {ac : Nat → ClassId} {a : Nat} {u : List Nat × List (List Nat) × (List Nat × List Nat)} : MPp ac a u 88 := ck_5 (j := 55) rfl rfl
set_option maxRecDepth 20000 in
theorem mp_89 {ac : Nat → ClassId} {a : Nat} {u : List Nat × List (List Nat) × (List Nat × List Nat)} : MPp ac a u 89 := ck_5 (j := 56) rfl rfl
set_option maxRecDepth 20000 in
theorem mp_90 {ac : Nat → ClassId} {a : Nat} {u : List Nat × List (List Nat) × (List Nat × List Nat)} : MPp ac a u 90 := ck_5 (j := 57) rfl rfl
set_option maxRecDepth 20000 in
theorem mp_91 {ac : Nat → ClassId} {a : Nat} {u : List Nat × List (List Nat) × (List Nat × List Nat)} : MPp ac a u 91 := ck_5 (j := 58) rfl rfl
set_option maxRecDepth 20000 in
theorem mp_92 {ac : Nat → ClassId} {a : Nat} {u : List Nat × List (List Nat) × (List Nat × List Nat)} : MPp ac a u 92 := ck_5 (j := 59) rfl rfl
set_option maxRecDepth 20000 in
theorem mp_93 {ac : Nat → ClassId} {a : Nat} {u : List Nat × List (List Nat) × (List Nat × List Nat)} : MPp ac a u 93 := ck_5 (j := 60) rfl rfl
set_option maxRecDepth 20000 in
theorem mp_94 {ac : Nat → ClassId} {a : Nat} {u : List Nat × List (List Nat) × (List Nat × List Nat)} : MPp ac a u 94 := ck_5 (j := 61) rfl rfl
set_option maxRecDepth 20000 in
theorem mp_95 {ac : Nat → ClassId} {a : Nat} {u : List Nat × List (List Nat) × (List Nat × List Nat)} : MPp ac a u 95 := ck_1 (j := 0) rfl rfl
set_option maxRecDepth 20000 in
theorem mp_96 {ac : Nat → ClassId} {a : Nat} {u : List Nat × List (List Nat) × (List Nat × List Nat)} : MPp ac a u 96 := ck_1 (j := 1) rfl rfl
set_option maxRecDepth 20000 in
theorem mp_97 {ac : Nat → ClassId} {a : Nat} {u : List Nat × List (List Nat) × (List Nat × List Nat)} : MPp ac a u 97 := ck_1 (j := 2) rfl rfl
set_option maxRecDepth 20000 in
theorem mp_98 {ac : Nat → ClassId} {a : Nat} {u : List Nat × List (List Nat) × (List Nat × List Nat)} : MPp ac a u 98 := ck_1 (j := 3) rfl rfl
set_option maxRecDepth 20000 in
theorem mp_99 {ac : Nat → ClassId} {a : Nat} {u : List Nat × List (List Nat) × (List Nat × List Nat)} : MPp ac a u 99 := by
  have e : (fun i => if i < 6 then some (qf a u (99 + 6 + i)) else none) = (fun i => if i < 6 then some ((u.2.1.getD 1 []).getD 3 0 + 1 + i) else none) := outer_c (fun i hi => by
    rcases (show i = 0 ∨ i = 1 ∨ i = 2 ∨ i = 3 ∨ i = 4 ∨ i = 5 by omega) with rfl | rfl | rfl | rfl | rfl | rfl <;> rfl)
  show (mainW ac a u)[9]? = some (qf a u 99, .inl (ac 3, 6, .inr (.inr (.inr (.inr (fun i => if i < 6 then some (qf a u (99 + 6 + i)) else none))))))
  rw [e]
  exact ck_1 (j := 4) rfl rfl
set_option maxRecDepth 20000 in
theorem mp_100 {ac : Nat → ClassId} {a : Nat} {u : List Nat × List (List Nat) × (List Nat × List Nat)} : MPp ac a u 100 := ck_1 (j := 11) rfl rfl
set_option maxRecDepth 20000 in
theorem mp_101 {ac : Nat → ClassId} {a : Nat} {u : List Nat × List (List Nat) × (List Nat × List Nat)} : MPp ac a u 101 := ck_1 (j := 12) rfl rfl
set_option maxRecDepth 20000 in
theorem mp_102 {ac : Nat → ClassId} {a : Nat} {u : List Nat × List (List Nat) × (List Nat × List Nat)} : MPp ac a u 102 := ck_1 (j := 13) rfl rfl
set_option maxRecDepth 20000 in
theorem mp_103 {ac : Nat → ClassId} {a : Nat} {u : List Nat × List (List Nat) × (List Nat × List Nat)} : MPp ac a u 103 := ck_1 (j := 14) rfl rfl
set_option maxRecDepth 20000 in
theorem mp_104 {ac : Nat → ClassId} {a : Nat} {u : List Nat × List (List Nat) × (List Nat × List Nat)} : MPp ac a u 104 := ck_1 (j := 15) rfl rfl
set_option maxRecDepth 20000 in
theorem mp_105 {ac : Nat → ClassId} {a : Nat} {u : List Nat × List (List Nat) × (List Nat × List Nat)} : MPp ac a u 105 := ck_1 (j := 5) rfl rfl
set_option maxRecDepth 20000 in
theorem mp_106 {ac : Nat → ClassId} {a : Nat} {u : List Nat × List (List Nat) × (List Nat × List Nat)} : MPp ac a u 106 := ck_1 (j := 6) rfl rfl
set_option maxRecDepth 20000 in
theorem mp_107 {ac : Nat → ClassId} {a : Nat} {u : List Nat × List (List Nat) × (List Nat × List Nat)} : MPp ac a u 107 := ck_1 (j := 7) rfl rfl
set_option maxRecDepth 20000 in
theorem mp_108 {ac : Nat → ClassId} {a : Nat} {u : List Nat × List (List Nat) × (List Nat × List Nat)} : MPp ac a u 108 := ck_1 (j := 8) rfl rfl
set_option maxRecDepth 20000 in
theorem mp_109 {ac : Nat → ClassId} {a : Nat} {u : List Nat × List (List Nat) × (List Nat × List Nat)} : MPp ac a u 109 := ck_1 (j := 9) rfl rfl
set_option maxRecDepth 20000 in
theorem mp_110 {ac : Nat → ClassId} {a : Nat} {u : List Nat × List (List Nat) × (List Nat × List Nat)} : MPp ac a u 110 := ck_1 (j := 10) rfl rfl
set_option maxRecDepth 20000 in
theorem mp_111 {ac : Nat → ClassId} {a : Nat} {u : List Nat × List (List Nat) × (List Nat × List Nat)} : MPp ac a u 111 := ck_2 (j := 0) rfl rfl
set_option maxRecDepth 20000 in
theorem mp_112 {ac : Nat → ClassId} {a : Nat} {u : List Nat × List (List Nat) × (List Nat × List Nat)} : MPp ac a u 112 := ck_2 (j := 1) rfl rfl
set_option maxRecDepth 20000 in
theorem mp_113 {ac : Nat → ClassId} {a : Nat} {u : List Nat × List (List Nat) × (List Nat × List Nat)} : MPp ac a u 113 := ck_2 (j := 2) rfl rfl
set_option maxRecDepth 20000 in
theorem mp_114 {ac : Nat → ClassId} {a : Nat} {u : List Nat × List (List Nat) × (List Nat × List Nat)} : MPp ac a u 114 := ck_2 (j := 3) rfl rfl
set_option maxRecDepth 20000 in
theorem mp_115 {ac : Nat → ClassId} {a : Nat} {u : List Nat × List (List Nat) × (List Nat × List Nat)} : MPp ac a u 115 := by
  have e : (fun i => if i < 6 then some (qf a u (115 + 6 + i)) else none) = (fun i => if i < 6 then some ((u.2.1.getD 2 []).getD 3 0 + 1 + i) else none) := outer_c (fun i hi => by
    rcases (show i = 0 ∨ i = 1 ∨ i = 2 ∨ i = 3 ∨ i = 4 ∨ i = 5 by omega) with rfl | rfl | rfl | rfl | rfl | rfl <;> rfl)
  show (mainW ac a u)[25]? = some (qf a u 115, .inl (ac 3, 6, .inr (.inr (.inr (.inr (fun i => if i < 6 then some (qf a u (115 + 6 + i)) else none))))))
  rw [e]
  exact ck_2 (j := 4) rfl rfl
set_option maxRecDepth 20000 in
theorem mp_116 {ac : Nat → ClassId} {a : Nat} {u : List Nat × List (List Nat) × (List Nat × List Nat)} : MPp ac a u 116 := ck_2 (j := 11) rfl rfl
set_option maxRecDepth 20000 in
theorem mp_117 {ac : Nat → ClassId} {a : Nat} {u : List Nat × List (List Nat) × (List Nat × List Nat)} : MPp ac a u 117 := ck_2 (j := 12) rfl rfl
set_option maxRecDepth 20000 in
theorem mp_118 {ac : Nat → ClassId} {a : Nat} {u : List Nat × List (List Nat) × (List Nat × List Nat)} : MPp ac a u 118 := ck_2 (j := 13) rfl rfl
set_option maxRecDepth 20000 in
theorem mp_119 {ac : Nat → ClassId} {a : Nat} {u : List Nat × List (List Nat) × (List Nat × List Nat)} : MPp ac a u 119 := ck_2 (j := 14) rfl rfl
set_option maxRecDepth 20000 in
theorem mp_120 {ac : Nat → ClassId} {a : Nat} {u : List Nat × List (List Nat) × (List Nat × List Nat)} : MPp ac a u 120 := ck_2 (j := 15) rfl rfl
set_option maxRecDepth 20000 in
theorem mp_121 {ac : Nat → ClassId} {a : Nat} {u : List Nat × List (List Nat) × (List Nat × List Nat)} : MPp ac a u 121 := ck_2 (j := 5) rfl rfl
set_option maxRecDepth 20000 in
theorem mp_122 {ac : Nat → ClassId} {a : Nat} {u : List Nat × List (List Nat) × (List Nat × List Nat)} : MPp ac a u 122 := ck_2 (j := 6) rfl rfl
set_option maxRecDepth 20000 in
theorem mp_123 {ac : Nat → ClassId} {a : Nat} {u : List Nat × List (List Nat) × (List Nat × List Nat)} : MPp ac a u 123 := ck_2 (j := 7) rfl rfl
set_option maxRecDepth 20000 in
theorem mp_124 {ac : Nat → ClassId} {a : Nat} {u : List Nat × List (List Nat) × (List Nat × List Nat)} : MPp ac a u 124 := ck_2 (j := 8) rfl rfl
set_option maxRecDepth 20000 in
theorem mp_125 {ac : Nat → ClassId} {a : Nat} {u : List Nat × List (List Nat) × (List Nat × List Nat)} : MPp ac a u 125 := ck_2 (j := 9) rfl rfl
set_option maxRecDepth 20000 in
theorem mp_126 {ac : Nat → ClassId} {a : Nat} {u : List Nat × List (List Nat) × (List Nat × List Nat)} : MPp ac a u 126 := ck_2 (j := 10) rfl rfl
set_option maxRecDepth 20000 in
theorem mp_127 {ac : Nat → ClassId} {a : Nat} {u : List Nat × List (List Nat) × (List Nat × List Nat)} : MPp ac a u 127 := ck_3 (j := 0) rfl rfl
set_option maxRecDepth 20000 in
theorem mp_128 {ac : Nat → ClassId} {a : Nat} {u : List Nat × List (List Nat) × (List Nat × List Nat)} : MPp ac a u 128 := ck_3 (j := 1) rfl rfl
set_option maxRecDepth 20000 in
theorem mp_129 {ac : Nat → ClassId} {a : Nat} {u : List Nat × List (List Nat) × (List Nat × List Nat)} : MPp ac a u 129 := ck_3 (j := 2) rfl rfl
set_option maxRecDepth 20000 in
theorem mp_130 {ac : Nat → ClassId} {a : Nat} {u : List Nat × List (List Nat) × (List Nat × List Nat)} : MPp ac a u 130 := ck_3 (j := 3) rfl rfl
set_option maxRecDepth 20000 in
theorem mp_131 {ac : Nat → ClassId} {a : Nat} {u : List Nat × List (List Nat) × (List Nat × List Nat)} : MPp ac a u 131 := by
  have e : (fun i => if i < 6 then some (qf a u (131 + 6 + i)) else none) = (fun i => if i < 6 then some ((u.2.1.getD 3 []).getD 3 0 + 1 + i) else none) := outer_c (fun i hi => by
    rcases (show i = 0 ∨ i = 1 ∨ i = 2 ∨ i = 3 ∨ i = 4 ∨ i = 5 by omega) with rfl | rfl | rfl | rfl | rfl | rfl <;> rfl)
  show (mainW ac a u)[41]? = some (qf a u 131, .inl (ac 3, 6, .inr (.inr (.inr (.inr (fun i => if i < 6 then some (qf a u (131 + 6 + i)) else none))))))
  rw [e]
  exact ck_3 (j := 4) rfl rfl
set_option maxRecDepth 20000 in
theorem mp_132 {ac : Nat → ClassId} {a : Nat} {u : List Nat × List (List Nat) × (List Nat × List Nat)} : MPp ac a u 132 := ck_3 (j := 11) rfl rfl
set_option maxRecDepth 20000 in
theorem mp_133 {ac : Nat → ClassId} {a : Nat} {u : List Nat × List (List Nat) × (List Nat × List Nat)} : MPp ac a u 133 := ck_3 (j := 12) rfl rfl
set_option maxRecDepth 20000 in
theorem mp_134 {ac : Nat → ClassId} {a : Nat} {u : List Nat × List (List Nat) × (List Nat × List Nat)} : MPp ac a u 134 := ck_3 (j := 13) rfl rfl
set_option maxRecDepth 20000 in
theorem mp_135 {ac : Nat → ClassId} {a : Nat} {u : List Nat × List (List Nat) × (List Nat × List Nat)} : MPp ac a u 135 := ck_3 (j := 14) rfl rfl
set_option maxRecDepth 20000 in
theorem mp_136 {ac : Nat → ClassId} {a : Nat} {u : List Nat × List (List Nat) × (List Nat × List Nat)} : MPp ac a u 136 := ck_3 (j := 15) rfl rfl
set_option maxRecDepth 20000 in
theorem mp_137 {ac : Nat → ClassId} {a : Nat} {u : List Nat × List (List Nat) × (List Nat × List Nat)} : MPp ac a u 137 := ck_3 (j := 5) rfl rfl
set_option maxRecDepth 20000 in
theorem mp_138 {ac : Nat → ClassId} {a : Nat} {u : List Nat × List (List Nat) × (List Nat × List Nat)} : MPp ac a u 138 := ck_3 (j := 6) rfl rfl
set_option maxRecDepth 20000 in
theorem mp_139 {ac : Nat → ClassId} {a : Nat} {u : List Nat × List (List Nat) × (List Nat × List Nat)} : MPp ac a u 139 := ck_3 (j := 7) rfl rfl
set_option maxRecDepth 20000 in
theorem mp_140 {ac : Nat → ClassId} {a : Nat} {u : List Nat × List (List Nat) × (List Nat × List Nat)} : MPp ac a u 140 := ck_3 (j := 8) rfl rfl
set_option maxRecDepth 20000 in
theorem mp_141 {ac : Nat → ClassId} {a : Nat} {u : List Nat × List (List Nat) × (List Nat × List Nat)} : MPp ac a u 141 := ck_3 (j := 9) rfl rfl
set_option maxRecDepth 20000 in
theorem mp_142 {ac : Nat → ClassId} {a : Nat} {u : List Nat × List (List Nat) × (List Nat × List Nat)} : MPp ac a u 142 := ck_3 (j := 10) rfl rfl
set_option maxRecDepth 20000 in
theorem mp_143 {ac : Nat → ClassId} {a : Nat} {u : List Nat × List (List Nat) × (List Nat × List Nat)} : MPp ac a u 143 := ck_8 (j := 0) rfl rfl
set_option maxRecDepth 20000 in
theorem mp_144 {ac : Nat → ClassId} {a : Nat} {u : List Nat × List (List Nat) × (List Nat × List Nat)} : MPp ac a u 144 := ck_8 (j := 1) rfl rfl
set_option maxRecDepth 20000 in
theorem mp_145 {ac : Nat → ClassId} {a : Nat} {u : List Nat × List (List Nat) × (List Nat × List Nat)} : MPp ac a u 145 := ck_8 (j := 2) rfl rfl
set_option maxRecDepth 20000 in
theorem mp_146 {ac : Nat → ClassId} {a : Nat} {u : List Nat × List (List Nat) × (List Nat × List Nat)} : MPp ac a u 146 := ck_8 (j := 3) rfl rfl
set_option maxRecDepth 20000 in
theorem mp_147 {ac : Nat → ClassId} {a : Nat} {u : List Nat × List (List Nat) × (List Nat × List Nat)} : MPp ac a u 147 := by
  have e : (fun i => if i < 6 then some (qf a u (147 + 6 + i)) else none) = (fun i => if i < 6 then some ((u.2.1.getD 6 []).getD 3 0 + 1 + i) else none) := outer_c (fun i hi => by
    rcases (show i = 0 ∨ i = 1 ∨ i = 2 ∨ i = 3 ∨ i = 4 ∨ i = 5 by omega) with rfl | rfl | rfl | rfl | rfl | rfl <;> rfl)
  show (mainW ac a u)[139]? = some (qf a u 147, .inl (ac 3, 6, .inr (.inr (.inr (.inr (fun i => if i < 6 then some (qf a u (147 + 6 + i)) else none))))))
  rw [e]
  exact ck_8 (j := 4) rfl rfl
set_option maxRecDepth 20000 in
theorem mp_148 {ac : Nat → ClassId} {a : Nat} {u : List Nat × List (List Nat) × (List Nat × List Nat)} : MPp ac a u 148 := ck_8 (j := 11) rfl rfl
set_option maxRecDepth 20000 in
theorem mp_149 {ac : Nat → ClassId} {a : Nat} {u : List Nat × List (List Nat) × (List Nat × List Nat)} : MPp ac a u 149 := ck_8 (j := 12) rfl rfl
set_option maxRecDepth 20000 in
theorem mp_150 {ac : Nat → ClassId} {a : Nat} {u : List Nat × List (List Nat) × (List Nat × List Nat)} : MPp ac a u 150 := ck_8 (j := 13) rfl rfl
set_option maxRecDepth 20000 in
theorem mp_151 {ac : Nat → ClassId} {a : Nat} {u : List Nat × List (List Nat) × (List Nat × List Nat)} : MPp ac a u 151 := ck_8 (j := 14) rfl rfl
set_option maxRecDepth 20000 in
theorem mp_152 {ac : Nat → ClassId} {a : Nat} {u : List Nat × List (List Nat) × (List Nat × List Nat)} : MPp ac a u 152 := ck_8 (j := 15) rfl rfl
set_option maxRecDepth 20000 in
theorem mp_153 {ac : Nat → ClassId} {a : Nat} {u : List Nat × List (List Nat) × (List Nat × List Nat)} : MPp ac a u 153 := ck_8 (j := 5) rfl rfl
set_option maxRecDepth 20000 in
theorem mp_154 {ac : Nat → ClassId} {a : Nat} {u : List Nat × List (List Nat) × (List Nat × List Nat)} : MPp ac a u 154 := ck_8 (j := 6) rfl rfl
set_option maxRecDepth 20000 in
theorem mp_155 {ac : Nat → ClassId} {a : Nat} {u : List Nat × List (List Nat) × (List Nat × List Nat)} : MPp ac a u 155 := ck_8 (j := 7) rfl rfl
set_option maxRecDepth 20000 in
theorem mp_156 {ac : Nat → ClassId} {a : Nat} {u : List Nat × List (List Nat) × (List Nat × List Nat)} : MPp ac a u 156 := ck_8 (j := 8) rfl rfl
set_option maxRecDepth 20000 in
theorem mp_157 {ac : Nat → ClassId} {a : Nat} {u : List Nat × List (List Nat) × (List Nat × List Nat)} : MPp ac a u 157 := ck_8 (j := 9) rfl rfl
set_option maxRecDepth 20000 in
theorem mp_158 {ac : Nat → ClassId} {a : Nat} {u : List Nat × List (List Nat) × (List Nat × List Nat)} : MPp ac a u 158 := ck_8 (j := 10) rfl rfl
set_option maxRecDepth 20000 in
theorem mp_159 {ac : Nat → ClassId} {a : Nat} {u : List Nat × List (List Nat) × (List Nat × List Nat)} : MPp ac a u 159 := ck_9 (j := 0) rfl rfl
set_option maxRecDepth 20000 in
theorem mp_160 {ac : Nat → ClassId} {a : Nat} {u : List Nat × List (List Nat) × (List Nat × List Nat)} : MPp ac a u 160 := ck_9 (j := 1) rfl rfl
set_option maxRecDepth 20000 in
theorem mp_161 {ac : Nat → ClassId} {a : Nat} {u : List Nat × List (List Nat) × (List Nat × List Nat)} : MPp ac a u 161 := ck_9 (j := 2) rfl rfl
set_option maxRecDepth 20000 in
theorem mp_162 {ac : Nat → ClassId} {a : Nat} {u : List Nat × List (List Nat) × (List Nat × List Nat)} : MPp ac a u 162 := ck_9 (j := 3) rfl rfl
set_option maxRecDepth 20000 in
theorem mp_163 {ac : Nat → ClassId} {a : Nat} {u : List Nat × List (List Nat) × (List Nat × List Nat)} : MPp ac a u 163 := by
  have e : (fun i => if i < 6 then some (qf a u (163 + 6 + i)) else none) = (fun i => if i < 6 then some ((u.2.1.getD 7 []).getD 3 0 + 1 + i) else none) := outer_c (fun i hi => by
    rcases (show i = 0 ∨ i = 1 ∨ i = 2 ∨ i = 3 ∨ i = 4 ∨ i = 5 by omega) with rfl | rfl | rfl | rfl | rfl | rfl <;> rfl)
  show (mainW ac a u)[155]? = some (qf a u 163, .inl (ac 3, 6, .inr (.inr (.inr (.inr (fun i => if i < 6 then some (qf a u (163 + 6 + i)) else none))))))
  rw [e]
  exact ck_9 (j := 4) rfl rfl
set_option maxRecDepth 20000 in
theorem mp_164 {ac : Nat → ClassId} {a : Nat} {u : List Nat × List (List Nat) × (List Nat × List Nat)} : MPp ac a u 164 := ck_9 (j := 11) rfl rfl
set_option maxRecDepth 20000 in
theorem mp_165 {ac : Nat → ClassId} {a : Nat} {u : List Nat × List (List Nat) × (List Nat × List Nat)} : MPp ac a u 165 := ck_9 (j := 12) rfl rfl
set_option maxRecDepth 20000 in
theorem mp_166 {ac : Nat → ClassId} {a : Nat} {u : List Nat × List (List Nat) × (List Nat × List Nat)} : MPp ac a u 166 := ck_9 (j := 13) rfl rfl
set_option maxRecDepth 20000 in
theorem mp_167 {ac : Nat → ClassId} {a : Nat} {u : List Nat × List (List Nat) × (List Nat × List Nat)} : MPp ac a u 167 := ck_9 (j := 14) rfl rfl
set_option maxRecDepth 20000 in
theorem mp_168 {ac : Nat → ClassId} {a : Nat} {u : List Nat × List (List Nat) × (List Nat × List Nat)} : MPp ac a u 168 := ck_9 (j := 15) rfl rfl
set_option maxRecDepth 20000 in
theorem mp_169 {ac : Nat → ClassId} {a : Nat} {u : List Nat × List (List Nat) × (List Nat × List Nat)} : MPp ac a u 169 := ck_9 (j := 5) rfl rfl
set_option maxRecDepth 20000 in
theorem mp_170 {ac : Nat → ClassId} {a : Nat} {u : List Nat × List (List Nat) × (List Nat × List Nat)} : MPp ac a u 170 := ck_9 (j := 6) rfl rfl
set_option maxRecDepth 20000 in
theorem mp_171 {ac : Nat → ClassId} {a : Nat} {u : List Nat × List (List Nat) × (List Nat × List Nat)} : MPp ac a u 171 := ck_9 (j := 7) rfl rfl
set_option maxRecDepth 20000 in
theorem mp_172 {ac : Nat → ClassId} {a : Nat} {u : List Nat × List (List Nat) × (List Nat × List Nat)} : MPp ac a u 172 := ck_9 (j := 8) rfl rfl
set_option maxRecDepth 20000 in
theorem mp_173 {ac : Nat → ClassId} {a : Nat} {u : List Nat × List (List Nat) × (List Nat × List Nat)} : MPp ac a u 173 := ck_9 (j := 9) rfl rfl
set_option maxRecDepth 20000 in
theorem mp_174 {ac : Nat → ClassId} {a : Nat} {u : List Nat × List (List Nat) × (List Nat × List Nat)} : MPp ac a u 174 := ck_9 (j := 10) rfl rfl
theorem mpc_0 {ac : Nat → ClassId} {a : Nat} {u : List Nat × List (List Nat) × (List Nat × List Nat)} : ∀ j, j < 25 → MPp ac a u (0 + j)
  | 0, _ => mp_0
  | 1, _ => mp_1
  | 2, _ => mp_2
  | 3, _ => mp_3
  | 4, _ => mp_4
  | 5, _ => mp_5
  | 6, _ => mp_6
  | 7, _ => mp_7
  | 8, _ => mp_8
  | 9, _ => mp_9
  | 10, _ => mp_10
  | 11, _ => mp_11
  | 12, _ => mp_12
  | 13, _ => mp_13
  | 14, _ => mp_14
  | 15, _ => mp_15
  | 16, _ => mp_16
  | 17, _ => mp_17
  | 18, _ => mp_18
  | 19, _ => mp_19
  | 20, _ => mp_20
  | 21, _ => mp_21
  | 22, _ => mp_22
  | 23, _ => mp_23
  | 24, _ => mp_24
  | j + 25, h => absurd h (by omega)
theorem mpc_1 {ac : Nat → ClassId} {a : Nat} {u : List Nat × List (List Nat) × (List Nat × List Nat)} : ∀ j, j < 25 → MPp ac a u (25 + j)
  | 0, _ => mp_25
  | 1, _ => mp_26
  | 2, _ => mp_27
  | 3, _ => mp_28
  | 4, _ => mp_29
  | 5, _ => mp_30
  | 6, _ => mp_31
  | 7, _ => mp_32
  | 8, _ => mp_33
  | 9, _ => mp_34
  | 10, _ => mp_35
  | 11, _ => mp_36
  | 12, _ => mp_37
  | 13, _ => mp_38
  | 14, _ => mp_39
  | 15, _ => mp_40
  | 16, _ => mp_41
  | 17, _ => mp_42
  | 18, _ => mp_43
  | 19, _ => mp_44
  | 20, _ => mp_45
  | 21, _ => mp_46
  | 22, _ => mp_47
  | 23, _ => mp_48
  | 24, _ => mp_49
  | j + 25, h => absurd h (by omega)
theorem mpc_2 {ac : Nat → ClassId} {a : Nat} {u : List Nat × List (List Nat) × (List Nat × List Nat)} : ∀ j, j < 25 → MPp ac a u (50 + j)
  | 0, _ => mp_50
  | 1, _ => mp_51
  | 2, _ => mp_52
  | 3, _ => mp_53
  | 4, _ => mp_54
  | 5, _ => mp_55
  | 6, _ => mp_56
  | 7, _ => mp_57
  | 8, _ => mp_58
  | 9, _ => mp_59
  | 10, _ => mp_60
  | 11, _ => mp_61
  | 12, _ => mp_62
  | 13, _ => mp_63
  | 14, _ => mp_64
  | 15, _ => mp_65
  | 16, _ => mp_66
  | 17, _ => mp_67
  | 18, _ => mp_68
  | 19, _ => mp_69
  | 20, _ => mp_70
  | 21, _ => mp_71
  | 22, _ => mp_72
  | 23, _ => mp_73
  | 24, _ => mp_74
  | j + 25, h => absurd h (by omega)
theorem mpc_3 {ac : Nat → ClassId} {a : Nat} {u : List Nat × List (List Nat) × (List Nat × List Nat)} : ∀ j, j < 25 → MPp ac a u (75 + j)
  | 0, _ => mp_75
  | 1, _ => mp_76
  | 2, _ => mp_77
  | 3, _ => mp_78
  | 4, _ => mp_79
  | 5, _ => mp_80
  | 6, _ => mp_81
  | 7, _ => mp_82
  | 8, _ => mp_83
  | 9, _ => mp_84
  | 10, _ => mp_85
  | 11, _ => mp_86
  | 12, _ => mp_87
  | 13, _ => mp_88
  | 14, _ => mp_89
  | 15, _ => mp_90
  | 16, _ => mp_91
  | 17, _ => mp_92
  | 18, _ => mp_93
  | 19, _ => mp_94
  | 20, _ => mp_95
  | 21, _ => mp_96
  | 22, _ => mp_97
  | 23, _ => mp_98
  | 24, _ => mp_99
  | j + 25, h => absurd h (by omega)
theorem mpc_4 {ac : Nat → ClassId} {a : Nat} {u : List Nat × List (List Nat) × (List Nat × List Nat)} : ∀ j, j < 25 → MPp ac a u (100 + j)
  | 0, _ => mp_100
  | 1, _ => mp_101
  | 2, _ => mp_102
  | 3, _ => mp_103
  | 4, _ => mp_104
  | 5, _ => mp_105
  | 6, _ => mp_106
  | 7, _ => mp_107
  | 8, _ => mp_108
  | 9, _ => mp_109
  | 10, _ => mp_110
  | 11, _ => mp_111
  | 12, _ => mp_112
  | 13, _ => mp_113
  | 14, _ => mp_114
  | 15, _ => mp_115
  | 16, _ => mp_116
  | 17, _ => mp_117
  | 18, _ => mp_118
  | 19, _ => mp_119
  | 20, _ => mp_120
  | 21, _ => mp_121
  | 22, _ => mp_122
  | 23, _ => mp_123
  | 24, _ => mp_124
  | j + 25, h => absurd h (by omega)
theorem mpc_5 {ac : Nat → ClassId} {a : Nat} {u : List Nat × List (List Nat) × (List Nat × List Nat)} : ∀ j, j < 25 → MPp ac a u (125 + j)
  | 0, _ => mp_125
  | 1, _ => mp_126
  | 2, _ => mp_127
  | 3, _ => mp_128
  | 4, _ => mp_129
  | 5, _ => mp_130
  | 6, _ => mp_131
  | 7, _ => mp_132
  | 8, _ => mp_133
  | 9, _ => mp_134
  | 10, _ => mp_135
  | 11, _ => mp_136
  | 12, _ => mp_137
  | 13, _ => mp_138
  | 14, _ => mp_139
  | 15, _ => mp_140
  | 16, _ => mp_141
  | 17, _ => mp_142
  | 18, _ => mp_143
  | 19, _ => mp_144
  | 20, _ => mp_145
  | 21, _ => mp_146
  | 22, _ => mp_147
  | 23, _ => mp_148
  | 24, _ => mp_149
  | j + 25, h => absurd h (by omega)
theorem mpc_6 {ac : Nat → ClassId} {a : Nat} {u : List Nat × List (List Nat) × (List Nat × List Nat)} : ∀ j, j < 25 → MPp ac a u (150 + j)
  | 0, _ => mp_150
  | 1, _ => mp_151
  | 2, _ => mp_152
  | 3, _ => mp_153
  | 4, _ => mp_154
  | 5, _ => mp_155
  | 6, _ => mp_156
  | 7, _ => mp_157
  | 8, _ => mp_158
  | 9, _ => mp_159
  | 10, _ => mp_160
  | 11, _ => mp_161
  | 12, _ => mp_162
  | 13, _ => mp_163
  | 14, _ => mp_164
  | 15, _ => mp_165
  | 16, _ => mp_166
  | 17, _ => mp_167
  | 18, _ => mp_168
  | 19, _ => mp_169
  | 20, _ => mp_170
  | 21, _ => mp_171
  | 22, _ => mp_172
  | 23, _ => mp_173
  | 24, _ => mp_174
  | j + 25, h => absurd h (by omega)
theorem mp_all {ac : Nat → ClassId} {a : Nat} {u : List Nat × List (List Nat) × (List Nat × List Nat)} (k : Nat) (hk : k < 175) : MPp ac a u k := by
  rcases (show k < 25 ∨ (25 ≤ k ∧ k < 50) ∨ (50 ≤ k ∧ k < 75) ∨ (75 ≤ k ∧ k < 100) ∨ (100 ≤ k ∧ k < 125) ∨ (125 ≤ k ∧ k < 150) ∨ (150 ≤ k ∧ k < 175) by omega) with h | h | h | h | h | h | h
  · have := mpc_0 (ac := ac) (a := a) (u := u) (k - 0) (by omega)
    rw [show 0 + (k - 0) = k by omega] at this
    exact this
  · have := mpc_1 (ac := ac) (a := a) (u := u) (k - 25) (by omega)
    rw [show 25 + (k - 25) = k by omega] at this
    exact this
  · have := mpc_2 (ac := ac) (a := a) (u := u) (k - 50) (by omega)
    rw [show 50 + (k - 50) = k by omega] at this
    exact this
  · have := mpc_3 (ac := ac) (a := a) (u := u) (k - 75) (by omega)
    rw [show 75 + (k - 75) = k by omega] at this
    exact this
  · have := mpc_4 (ac := ac) (a := a) (u := u) (k - 100) (by omega)
    rw [show 100 + (k - 100) = k by omega] at this
    exact this
  · have := mpc_5 (ac := ac) (a := a) (u := u) (k - 125) (by omega)
    rw [show 125 + (k - 125) = k by omega] at this
    exact this
  · have := mpc_6 (ac := ac) (a := a) (u := u) (k - 150) (by omega)
    rw [show 150 + (k - 150) = k by omega] at this
    exact this
def posI : List Nat := [0, 20, 18, 1, 2, 95, 96, 97, 98, 99, 105, 106, 107, 108, 109, 110, 100, 101, 102, 103, 104, 111, 112, 113, 114, 115, 121, 122, 123, 124, 125, 126, 116, 117, 118, 119, 120, 127, 128, 129, 130, 131, 137, 138, 139, 140, 141, 142, 132, 133, 134, 135, 136, 3, 4, 5, 35, 36, 37, 38, 39, 40, 41, 42, 43, 44, 45, 46, 47, 48, 49, 50, 51, 52, 53, 54, 55, 56, 57, 58, 59, 60, 61, 62, 63, 64, 65, 66, 67, 68, 69, 70, 71, 72, 73, 74, 75, 76, 77, 78, 79, 80, 81, 82, 83, 84, 85, 86, 87, 88, 89, 90, 91, 92, 93, 94, 6, 7, 8, 9, 10, 11, 12, 13, 14, 29, 30, 31, 32, 33, 34, 15, 16, 17, 19, 143, 144, 145, 146, 147, 153, 154, 155, 156, 157, 158, 148, 149, 150, 151, 152, 159, 160, 161, 162, 163, 169, 170, 171, 172, 173, 174, 164, 165, 166, 167, 168, 21, 22, 23, 24, 25, 26, 27, 28]
theorem posT_li : ∀ i : Fin 175, posI.getD (posT.getD i.val 0) 0 = i.val := by decide +kernel
theorem posT_inj {i j : Nat} (hi : i < 175) (hj : j < 175) (h : posT.getD i 0 = posT.getD j 0) : i = j := by
  have e := posT_li ⟨i, hi⟩
  have f := posT_li ⟨j, hj⟩
  exact e.symm.trans ((congrArg (fun z => posI.getD z 0) h).trans f)
theorem main_world {D : va_G} {ac : Nat → ClassId} {A : Nat → Prop} {a : Nat} {u : List Nat × List (List Nat) × (List Nat × List Nat)} {H : Heap} (hP : va_P D vwCl (mainW ac a u) H) (hD : va_D A (mainW ac a u)) : va_P D vwCl (WS 175 (qf a u) (cwC ac (qf a u)) sg0) H ∧ QI 175 (qf a u) ∧ ∀ k, k < 175 → A (qf a u k) := by
  refine ⟨fun k x hx => ?_, fun i j hi hj e => ?_, fun k hk => hD.2 _ _ (mp_all k hk)⟩
  · by_cases h : k < 175
    · rw [WS_at h] at hx
      cases hx
      exact hP _ _ (mp_all k h)
    · rw [WS_no h] at hx
      cases hx
  · exact posT_inj hi hj (hD.1 _ _ _ _ (mp_all i hi) (mp_all j hj) e)
def tau0 : Mm := fun k i => if k = 3 then ([0, 5, 9, 12] : List Int).getD i 0 else if k = 4 then ([112, 111, 105, 110, 116, 114, 105, 110, 103, 112, 105, 110] : List Int).getD i 0 else if k = 16 then (if i < 4 then -4 else 0) else 0
def qm (a : Nat) (u : List Nat) (k : Nat) : Nat := ([a, u.getD 0 0, u.getD 1 0, u.getD 2 0, u.getD 3 0, u.getD 4 0, u.getD 5 0, u.getD 6 0, u.getD 7 0, u.getD 8 0, u.getD 9 0, u.getD 10 0, u.getD 11 0, u.getD 12 0, u.getD 13 0, u.getD 14 0, u.getD 15 0, u.getD 16 0, u.getD 17 0] : List Nat).getD k 0
abbrev MQp (ac : Nat → ClassId) (a : Nat) (u : List Nat) (k : Nat) : Prop := (modlW ac a u)[k]? = some (qm a u k, cwM ac (qm a u) k (fz (tau0 k)))
theorem z_fz {k : Nat} (h : ∀ i, tau0 k i = 0) : (fun _ : Nat => (0 : Int32)) = fz (tau0 k) := by
  funext i
  show (0 : Int32) = Int32.ofInt (tau0 k i)
  rw [h i]
  rfl
theorem mq_0 {ac : Nat → ClassId} {a : Nat} {u : List Nat} : MQp ac a u 0 := rfl
theorem mq_1 {ac : Nat → ClassId} {a : Nat} {u : List Nat} : MQp ac a u 1 := rfl
theorem mq_2 {ac : Nat → ClassId} {a : Nat} {u : List Nat} : MQp ac a u 2 := rfl
theorem mq_3 {ac : Nat → ClassId} {a : Nat} {u : List Nat} : MQp ac a u 3 := by
  have e : (upd (upd (upd (upd (fun _ => 0) 0 (0)) 1 (5)) 2 (9)) 3 (12)) = fz (tau0 3) := by
    funext i
    unfold upd
    by_cases h3 : i = 3
    · subst h3; rfl
    rw [if_neg h3]
    by_cases h2 : i = 2
    · subst h2; rfl
    rw [if_neg h2]
    by_cases h1 : i = 1
    · subst h1; rfl
    rw [if_neg h1]
    by_cases h0 : i = 0
    · subst h0; rfl
    rw [if_neg h0]
    obtain ⟨m, rfl⟩ : ∃ m, i = m + 4 := ⟨i - 4, by omega⟩
    rfl
  show (modlW ac a u)[3]? = some (qm a u 3, .inl (ac 0, 4, .inl (fz (tau0 3))))
  rw [← e]
  rfl
theorem mq_4 {ac : Nat → ClassId} {a : Nat} {u : List Nat} : MQp ac a u 4 := by
  have e : (upd (upd (upd (upd (upd (upd (upd (upd (upd (upd (upd (upd (fun _ => 0) 0 (112)) 1 (111)) 2 (105)) 3 (110)) 4 (116)) 5 (114)) 6 (105)) 7 (110)) 8 (103)) 9 (112)) 10 (105)) 11 (110)) = fz (tau0 4) := by
    funext i
    unfold upd
    by_cases h11 : i = 11
    · subst h11; rfl
    rw [if_neg h11]
    by_cases h10 : i = 10
    · subst h10; rfl
    rw [if_neg h10]
    by_cases h9 : i = 9
    · subst h9; rfl
    rw [if_neg h9]
    by_cases h8 : i = 8
    · subst h8; rfl
    rw [if_neg h8]
    by_cases h7 : i = 7
    · subst h7; rfl
    rw [if_neg h7]
    by_cases h6 : i = 6
    · subst h6; rfl
    rw [if_neg h6]
    by_cases h5 : i = 5
    · subst h5; rfl
    rw [if_neg h5]
    by_cases h4 : i = 4
    · subst h4; rfl
    rw [if_neg h4]
    by_cases h3 : i = 3
    · subst h3; rfl
    rw [if_neg h3]
    by_cases h2 : i = 2
    · subst h2; rfl
    rw [if_neg h2]
    by_cases h1 : i = 1
    · subst h1; rfl
    rw [if_neg h1]
    by_cases h0 : i = 0
    · subst h0; rfl
    rw [if_neg h0]
    obtain ⟨m, rfl⟩ : ∃ m, i = m + 12 := ⟨i - 12, by omega⟩
    rfl
  show (modlW ac a u)[4]? = some (qm a u 4, .inl (ac 0, 12, .inl (fz (tau0 4))))
  rw [← e]
  rfl
theorem mq_5 {ac : Nat → ClassId} {a : Nat} {u : List Nat} : MQp ac a u 5 := rfl
theorem mq_6 {ac : Nat → ClassId} {a : Nat} {u : List Nat} : MQp ac a u 6 := rfl
theorem mq_7 {ac : Nat → ClassId} {a : Nat} {u : List Nat} : MQp ac a u 7 := rfl
theorem mq_8 {ac : Nat → ClassId} {a : Nat} {u : List Nat} : MQp ac a u 8 := rfl
theorem mq_9 {ac : Nat → ClassId} {a : Nat} {u : List Nat} : MQp ac a u 9 := rfl
theorem mq_10 {ac : Nat → ClassId} {a : Nat} {u : List Nat} : MQp ac a u 10 := rfl
theorem mq_11 {ac : Nat → ClassId} {a : Nat} {u : List Nat} : MQp ac a u 11 := rfl
theorem mq_12 {ac : Nat → ClassId} {a : Nat} {u : List Nat} : MQp ac a u 12 := rfl
theorem mq_13 {ac : Nat → ClassId} {a : Nat} {u : List Nat} : MQp ac a u 13 := rfl
theorem mq_14 {ac : Nat → ClassId} {a : Nat} {u : List Nat} : MQp ac a u 14 := rfl
theorem mq_15 {ac : Nat → ClassId} {a : Nat} {u : List Nat} : MQp ac a u 15 := by
  have e : (upd (upd (fun _ => 0) 0 (0)) 1 (0)) = fz (tau0 15) := by
    funext i
    unfold upd
    by_cases h1 : i = 1
    · subst h1; rfl
    rw [if_neg h1]
    by_cases h0 : i = 0
    · subst h0; rfl
    rw [if_neg h0]
    obtain ⟨m, rfl⟩ : ∃ m, i = m + 2 := ⟨i - 2, by omega⟩
    rfl
  show (modlW ac a u)[15]? = some (qm a u 15, .inl (ac 1, 2, .inl (fz (tau0 15))))
  rw [← e]
  rfl
theorem mq_16 {ac : Nat → ClassId} {a : Nat} {u : List Nat} : MQp ac a u 16 := by
  have e : (upd (upd (upd (upd (fun _ => 0) 0 ((-4))) 1 ((-4))) 2 ((-4))) 3 ((-4))) = fz (tau0 16) := by
    funext i
    unfold upd
    by_cases h3 : i = 3
    · subst h3; rfl
    rw [if_neg h3]
    by_cases h2 : i = 2
    · subst h2; rfl
    rw [if_neg h2]
    by_cases h1 : i = 1
    · subst h1; rfl
    rw [if_neg h1]
    by_cases h0 : i = 0
    · subst h0; rfl
    rw [if_neg h0]
    obtain ⟨m, rfl⟩ : ∃ m, i = m + 4 := ⟨i - 4, by omega⟩
    show (0 : Int32) = Int32.ofInt (if m + 4 < 4 then -4 else 0)
    rw [if_neg (by omega)]
    rfl
  show (modlW ac a u)[16]? = some (qm a u 16, .inl (ac 0, 4, .inl (fz (tau0 16))))
  rw [← e]
  rfl
theorem mq_17 {ac : Nat → ClassId} {a : Nat} {u : List Nat} : MQp ac a u 17 := by
  have e : (upd (upd (upd (upd (fun _ => 0) 0 (0)) 1 (0)) 2 (0)) 3 (0)) = fz (tau0 17) := by
    funext i
    unfold upd
    by_cases h3 : i = 3
    · subst h3; rfl
    rw [if_neg h3]
    by_cases h2 : i = 2
    · subst h2; rfl
    rw [if_neg h2]
    by_cases h1 : i = 1
    · subst h1; rfl
    rw [if_neg h1]
    by_cases h0 : i = 0
    · subst h0; rfl
    rw [if_neg h0]
    obtain ⟨m, rfl⟩ : ∃ m, i = m + 4 := ⟨i - 4, by omega⟩
    rfl
  show (modlW ac a u)[17]? = some (qm a u 17, .inl (ac 0, 4, .inl (fz (tau0 17))))
  rw [← e]
  rfl
theorem mq_18 {ac : Nat → ClassId} {a : Nat} {u : List Nat} : MQp ac a u 18 := rfl
theorem mq_all {ac : Nat → ClassId} {a : Nat} {u : List Nat} : ∀ k, k < 19 → MQp ac a u k
  | 0, _ => mq_0
  | 1, _ => mq_1
  | 2, _ => mq_2
  | 3, _ => mq_3
  | 4, _ => mq_4
  | 5, _ => mq_5
  | 6, _ => mq_6
  | 7, _ => mq_7
  | 8, _ => mq_8
  | 9, _ => mq_9
  | 10, _ => mq_10
  | 11, _ => mq_11
  | 12, _ => mq_12
  | 13, _ => mq_13
  | 14, _ => mq_14
  | 15, _ => mq_15
  | 16, _ => mq_16
  | 17, _ => mq_17
  | 18, _ => mq_18
  | k + 19, h => absurd h (by omega)
theorem modl_world {D : va_G} {ac : Nat → ClassId} {A : Nat → Prop} {a : Nat} {u : List Nat} {H : Heap} (hP : va_P D vwCl (modlW ac a u) H) (hD : va_D A (modlW ac a u)) : va_P D vwCl (WS 19 (qm a u) (cwM ac (qm a u)) tau0) H ∧ QI 19 (qm a u) ∧ ∀ k, k < 19 → A (qm a u k) := by
  refine ⟨fun k x hx => ?_, fun i j hi hj e => ?_, fun k hk => hD.2 _ _ (mq_all k hk)⟩
  · by_cases h : k < 19
    · rw [WS_at h] at hx
      cases hx
      exact hP _ _ (mq_all k h)
    · rw [WS_no h] at hx
      cases hx
  · exact hD.1 _ _ _ _ (mq_all i hi) (mq_all j hj) e
