/-! the law: from its entry -/
theorem dj {A : Nat → Prop} {w1 w2 : va_W} (hD : va_D A (w1 ++ w2)) {z : Nat} (h1 : ∃ (n : Nat) (e : va_E), w1[n]? = some (z, e)) (h2 : ∃ (n : Nat) (e : va_E), w2[n]? = some (z, e)) : False := by
  obtain ⟨n, e, hn⟩ := h1
  obtain ⟨n', e', hn'⟩ := h2
  have l1 := (List.getElem?_eq_some_iff.mp hn).1
  have := hD.1 n (w1.length + n') (z, e) (z, e') (by rw [List.getElem?_append_left l1]; exact hn) (by rw [List.getElem?_append_right (by omega), Nat.add_sub_cancel_left]; exact hn') rfl
  omega
theorem P_l {D : va_G} {w1 w2 : va_W} {H : Heap} (h : va_P D vwCl (w1 ++ w2) H) : va_P D vwCl w1 H := fun k x hx => h k x (by rw [List.getElem?_append_left (List.getElem?_eq_some_iff.mp hx).1]; exact hx)
theorem P_r {D : va_G} {w1 w2 : va_W} {H : Heap} (h : va_P D vwCl (w1 ++ w2) H) : va_P D vwCl w2 H := fun k x hx => h (w1.length + k) x (by rw [List.getElem?_append_right (by omega), Nat.add_sub_cancel_left]; exact hx)
theorem D_l {A : Nat → Prop} {w1 w2 : va_W} (h : va_D A (w1 ++ w2)) : va_D A w1 := ⟨fun i j x y hi hj e => h.1 i j x y (by rw [List.getElem?_append_left (List.getElem?_eq_some_iff.mp hi).1]; exact hi) (by rw [List.getElem?_append_left (List.getElem?_eq_some_iff.mp hj).1]; exact hj) e, fun k x hx => h.2 k x (by rw [List.getElem?_append_left (List.getElem?_eq_some_iff.mp hx).1]; exact hx)⟩
theorem D_r {A : Nat → Prop} {w1 w2 : va_W} (h : va_D A (w1 ++ w2)) : va_D A w2 := by
  have sh : ∀ (k : Nat) (x : Nat × va_E), w2[k]? = some x → (w1 ++ w2)[w1.length + k]? = some x := fun k x hx => by
    rw [List.getElem?_append_right (by omega), Nat.add_sub_cancel_left]; exact hx
  refine ⟨fun i j x y hi hj e => ?_, fun k x hx => h.2 _ x (sh k x hx)⟩
  have := h.1 _ _ x y (sh i x hi) (sh j y hj) e
  omega
theorem D_in {A : Nat → Prop} {w : va_W} (h : va_D A w) : va_D (fun z : Nat => ∃ (n : Nat) (e : va_E), w[n]? = some (z, e)) w := ⟨h.1, fun k x hx => ⟨k, x.2, hx⟩⟩
section LST
variable {p : Program} {l : Launch} {e : Env} {s : State} {m : MethodId} {below : List Frame} {meth : Method} {c : Code} {b : Nat} {D : va_G} {ac : Nat → ClassId} {Q : State → Prop} {pc : Nat} {ls : Array Slot} {rest : List Value} {H : Heap} {locs : List Loc} {cells slots : Nat}
theorem l_init {S : Type} (hF : CallFix p m c code 4 s #[Value.ref b] WT R_law) (hK : va_K D vwCl (tysC ac) s) (hN : XN s) {wr : va_W} {a : Nat} {e0 : va_E} (hP : va_P D vwCl (wr ++ [(a, e0)]) H) (hD : va_D (A0f s) (wr ++ [(a, e0)])) (hS : va_S (A0f s) s.heap H locs) {y : MethodName} {yc : ByteArray} {mL index : Nat} {rm : Room} {post : S → va_W} (hM : KT l D ac y yc mL rm [.ref a] (a, e0) post) (hcode : Cond.code y yc mL none ∈ WT) (hini : Cond.initialized y.cls ∈ WT) (hinst : Cond.instanceMethod y ∈ WT) (hlink : Cond.methodLink R_law index y ∈ WT) (hyn : y.name = "<init>") (hy : yOk y 0) (hR : rm.frames + 1 ≤ room_1.frames ∧ 8 + (mL + 11) + rm.locals ≤ room_1.locals) (hsz : ls.size = 4) (hrm : (rest.map fun v => v.category).sum ≤ 8) (hc : cells + rm.cells ≤ room_1.cells) (hs : slots + rm.slots ≤ room_1.slots) (hd : decode code pc = .ok (.invokespecial index, 3)) (kk : ∀ (u : S) (H : Heap) (locs : List Loc), va_P D vwCl (wr ++ post u) H → va_D (A0f s) (wr ++ post u) → va_S (A0f s) s.heap H locs → W p l e room_1 s m #[Value.ref b] below meth c H locs (cells + rm.cells) (slots + rm.slots) Q (F0 m (pc + 3) ls rest)) : W p l e room_1 s m #[Value.ref b] below meth c H locs cells slots Q (F0 m pc ls (.ref a :: rest)) := by
  have hF2 : ∀ z, va_A [(a, e0)] H.size z → A0f s z := va_free (wc := [(a, e0)]) hD hS (fun _ h => h) [wr.length] (by simp)
  have hPb : va_P D vwCl [(a, e0)] H := hP.sub (ws' := [(a, e0)]) [wr.length] (by simp)
  have hw := hF.2.2.2.2
  refine va_callv (va_runI (As := []) (rest := rest) hF (hM H.size) ⟨⟨rfl, rfl, hR.1, hR.2, fun w hw' => by
    rcases List.mem_cons.mp hw' with rfl | hw'
    · exact fun a' U hW => word_at hW (good_of_word (WT_good hcode)) (hw _ hcode)
    · exact fun a' U hW => word_at hW (good_of_word (WT_good hw')) (hw _ hw'), List.mem_cons_self, hw _ hcode, hw _ hini, ⟨hy.1, hy.2.1⟩, v_par hy, hw _ hlink⟩, hyn, hw _ hinst⟩ ⟨PI_blind, fun U hU hW => ⟨rfl, by rw [hU], by rw [hU]; exact hPb, va_K.moved hW.alike hK, XN_mv hW hN⟩⟩ rfl rfl hsz rfl (lv_room hrm) hd ⟨hc, hs⟩) hS (fun z _ h => hF2 z h) hF2 (fun u t H1 locs1 ht hvm hw1 hB hz1 hk1 hS1 => ?_)
  obtain ⟨hP1, hD1⟩ := hB
  rw [ht] at hP1
  obtain ⟨hP2, hD2⟩ := va_jl hP hD hk1 hF2 hP1 hD1
  exact kk u H1 locs1 hP2 hD2 hS1
end LST
set_option maxHeartbeats 4000000 in
set_option maxRecDepth 20000 in
theorem whole_start {p : Program} {e : Env} {s : State} {m : MethodId} {below : List Frame} {meth : Method} {c : Code} (l : Launch) {b L : Nat} {xs : Nat → Int32} (hL : L ≤ 2560) (C0 : lw_At p s m meth c b L xs) : W p l e room_1 s m #[Value.ref b] below meth c s.heap [] 0 0 (lw_Z below #[Value.ref b] s) (entryFrame m ([Value.ref b] : List Value).toArray 4) := by
  obtain ⟨hx, hb, hr, hml, hown, hts, hX, hbl, hlocks, hgv⟩ := C0
  have htw : ∀ w ∈ WT, w.before #[Value.ref b] s = true := fun w h => hts w (WT_tbl h)
  have hN := e_XN hts
  obtain ⟨D, ac, hK⟩ := e_K htw hN
  obtain ⟨xa, xv, hXC⟩ := e_XC hts hgv
  have hF : CallFix p m c code 4 s #[Value.ref b] WT R_law := ⟨hx, hb, hml, hown, htw⟩
  have hA : ∀ z : Nat, s.heap.size ≤ z → A0f s z := fun _ h => h
  have hS : va_S (A0f s) s.heap s.heap [] := va_S.rf
  have hP : va_P D vwCl ([] : va_W) s.heap := fun k x h => by simp at h
  have hD : va_D (A0f s) ([] : va_W) := ⟨fun i j x y h => by simp at h, fun k x h => by simp at h⟩
  have hl := lv_entry ([.ref b]) (n := 4) (Nat.le_of_ble_eq_true rfl)
  rw [lg_entry_eq]
  generalize (lg_sl ([.ref b]) ++ List.replicate (4 - (lg_sl ([.ref b])).length) Slot.unset).toArray = ls at hl ⊢
  have hl : lv_has ls 4 [(0, .ref b)] := hl
  refine va_new (ci := 7) (fs := [.null, .null, .null, .null, .null, .null, .null, .null, .null, .null, .int 0, .int 0]) (C := RX7) (T := TX7) (N := 12) hx hb htw inX7 tyX7 tyX7_ok hown (htw _ kl_L_7) (htw _ ki_X7) (htw _ ic_X7) hK hP hD hS hA rfl (fun j hj => by rcases (show j = 0 ∨ j = 1 ∨ j = 2 ∨ j = 3 ∨ j = 4 ∨ j = 5 ∨ j = 6 ∨ j = 7 ∨ j = 8 ∨ j = 9 ∨ j = 10 ∨ j = 11 by omega) with rfl | rfl | rfl | rfl | rfl | rfl | rfl | rfl | rfl | rfl | rfl | rfl <;> rfl) (by decide) (by decide) dL_law_0 (fun a H hP hD hS => ?_)
  refine lv_dup hx hb dL_law_3 rfl ?_
  refine l_init hF hK hN hP hD hS (kcX7_init l D ac a) cd_X7_init ic_X7 im_X7_init ml_L_9 rfl yk_X7_init ⟨by decide, by decide⟩ hl.1 (Nat.le_of_ble_eq_true rfl) (by decide) (by decide) dL_law_4 (fun u H locs hP hD hS => ?_)
  have hP : va_P D vwCl (([] : va_W) ++ mainW ac a u) H := hP
  have hD : va_D (A0f s) (([] : va_W) ++ mainW ac a u) := hD
  rw [List.nil_append] at hP hD
  obtain ⟨w1, hw1⟩ : ∃ z : va_W, z = mainW ac a u := ⟨_, rfl⟩
  rw [← hw1] at hP hD
  refine lv_astore_n (i := 1) (lv' := [(1, .ref a), (0, .ref b)]) hx hb dL_law_7 rfl hl (by decide) rfl (fun ls hl => ?_)
  refine va_new (ci := 8) (fs := [.null, .null, .int 0, .int 0, .int 0, .int 0, .int 0, .int 0, .int 0, .int 0, .null, .null, .int 0, .null, .null, .null, .int 0, .int 0, .null, .null, .null, .null, .null, .null, .int 0, .null, .null, .null, .null, .null, .int 0]) (C := RX8) (T := TX8) (N := 31) hx hb htw inX8 tyX8 tyX8_ok hown (htw _ kl_L_10) (htw _ ki_X8) (htw _ ic_X8) hK hP hD hS hA rfl (fun j hj => by rcases (show j = 0 ∨ j = 1 ∨ j = 2 ∨ j = 3 ∨ j = 4 ∨ j = 5 ∨ j = 6 ∨ j = 7 ∨ j = 8 ∨ j = 9 ∨ j = 10 ∨ j = 11 ∨ j = 12 ∨ j = 13 ∨ j = 14 ∨ j = 15 ∨ j = 16 ∨ j = 17 ∨ j = 18 ∨ j = 19 ∨ j = 20 ∨ j = 21 ∨ j = 22 ∨ j = 23 ∨ j = 24 ∨ j = 25 ∨ j = 26 ∨ j = 27 ∨ j = 28 ∨ j = 29 ∨ j = 30 by omega) with rfl | rfl | rfl | rfl | rfl | rfl | rfl | rfl | rfl | rfl | rfl | rfl | rfl | rfl | rfl | rfl | rfl | rfl | rfl | rfl | rfl | rfl | rfl | rfl | rfl | rfl | rfl | rfl | rfl | rfl | rfl <;> rfl) (by decide) (by decide) dL_law_8 (fun a' H hP hD hS => ?_)
  refine lv_dup hx hb dL_law_11 rfl ?_
  refine l_init hF hK hN hP hD hS (kcX8_init l D ac a') cd_X8_init ic_X8 im_X8_init ml_L_12 rfl yk_X8_init ⟨by decide, by decide⟩ hl.1 (Nat.le_of_ble_eq_true rfl) (by decide) (by decide) dL_law_12 (fun u' H locs hP hD hS => ?_)
  have hP : va_P D vwCl (w1 ++ modlW ac a' u') H := hP
  have hD : va_D (A0f s) (w1 ++ modlW ac a' u') := hD
  refine lv_astore_n (i := 2) (lv' := [(2, .ref a'), (1, .ref a), (0, .ref b)]) hx hb dL_law_15 rfl hl (by decide) rfl (fun ls hl => ?_)
  refine lv_iconst (v := i32 ((0 : Nat) : Int)) hx hb dL_law_16 rfl ?_
  refine lv_istore_n (i := 3) (lv' := [(3, .int (i32 ((0 : Nat) : Int))), (2, .ref a'), (1, .ref a), (0, .ref b)]) hx hb dL_law_17 rfl hl (by decide) rfl (fun ls hl => ?_)
  have hP1 := P_l hP
  have hD1 := D_l hD
  have hP2 := P_r hP
  have hD2 := D_r hD
  rw [hw1] at hP1 hD1
  obtain ⟨g1, g2, g3⟩ := main_world hP1 hD1
  obtain ⟨m1, m2, m3⟩ := modl_world hP2 hD2
  have g4 := (main_world hP1 (D_in hD1)).2.2
  have m4 := (modl_world hP2 (D_in hD2)).2.2
  have C : Cl p s m meth c b L xs D ac (qf a u) (qm a' u') xa xv := ⟨hF, hK, hXC, g2, m2, g3, m3, fun i j hi hj eq => dj hD (z := qf a u i) (by rw [hw1]; exact g4 i hi) (by rw [eq]; exact m4 j hj), hX, hbl, hlocks, hr⟩
  refine W.widen (k := 194) (n := 4978) (by decide) (by decide) ?_
  exact l_loop C hL (L + 6) 0 sg0 tau0 ls (by omega) (by omega) Inv00 (lv_sub hl [3, 2, 1, 0] rfl) H locs g1 m1 hS
