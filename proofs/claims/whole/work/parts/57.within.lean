/-! which ring holds a place -/
def ONB (L S : Ld) (r : Nat) (x y : Int) : Prop := ∃ i, i < S.cn r ∧ onS (L.X (S.co r i)) (L.Y (S.co r i)) (L.X (cx S r i)) (L.Y (cx S r i)) x y
def TGL (L S : Ld) (r : Nat) (x y : Int) (i : Nat) : Prop := (L.Y (S.co r i) ≤ y ∧ y < L.Y (cx S r i) ∧ 0 < crs (L.X (S.co r i)) (L.Y (S.co r i)) (L.X (cx S r i)) (L.Y (cx S r i)) x y) ∨ (L.Y (cx S r i) ≤ y ∧ y < L.Y (S.co r i) ∧ crs (L.X (S.co r i)) (L.Y (S.co r i)) (L.X (cx S r i)) (L.Y (cx S r i)) x y < 0)
def prI (Q : Nat → Prop) : Nat → Prop
  | 0 => False
  | i + 1 => (prI Q i ∧ ¬ Q i) ∨ (¬ prI Q i ∧ Q i)
theorem prI_t {Q : Nat → Prop} {i : Nat} (h : prI Q i) : (prI Q (i + 1) ↔ ¬ Q i) := ⟨fun z => z.elim (fun y => y.2) (fun y => absurd h y.1), fun z => Or.inl ⟨h, z⟩⟩
theorem prI_f {Q : Nat → Prop} {i : Nat} (h : ¬ prI Q i) : (prI Q (i + 1) ↔ Q i) := ⟨fun z => z.elim (fun y => absurd y.1 h) (fun y => y.2), fun z => Or.inr ⟨h, z⟩⟩
theorem TGL_iff {L S : Ld} {r i : Nat} {x y : Int} : TGL L S r x y i ↔ (L.Y (S.co r i) ≤ y ∧ y < L.Y (S.co r ((i + 1) % S.cn r)) ∧ 0 < crs (L.X (S.co r i)) (L.Y (S.co r i)) (L.X (S.co r ((i + 1) % S.cn r))) (L.Y (S.co r ((i + 1) % S.cn r))) x y) ∨ (L.Y (S.co r ((i + 1) % S.cn r)) ≤ y ∧ y < L.Y (S.co r i) ∧ crs (L.X (S.co r i)) (L.Y (S.co r i)) (L.X (S.co r ((i + 1) % S.cn r))) (L.Y (S.co r ((i + 1) % S.cn r))) x y < 0) := Iff.rfl
theorem hd_116 {c6 : Int → Int → Option Int} {r x y v4 i a b v8 v9 C : Int} {σ : Mm} (e2 : fX1_sideOf 95 a b x y σ = some C) (hC : inR C) (h4 : v4 = 0 ∨ v4 = 1) (h8 : v8 = 0 ∨ v8 = 1) (h9 : v9 = 0 ∨ v9 = 1) : fX3_holds_116 c6 r x y v4 i a b v8 v9 σ = c6 (if (v8 = 1 ∧ 0 < C) ∨ (v9 = 1 ∧ C < 0) then 1 - v4 else v4) (i + 1) := by
  rcases h4 with rfl | rfl <;> rcases h8 with rfl | rfl <;> rcases h9 with rfl | rfl <;>
  · simp (disch := omega) only [fX3_holds_116, fX3_holds_143, fX3_holds_153, fX3_holds_163, fX3_holds_165, e2, if_pos (show (0 : Int) = 0 from rfl), if_neg (show ¬ (1 : Int) = 0 by omega), true_and, Int.reduceAdd, Int.reduceSub, Int.reduceMul, Int.zero_add, Int.add_zero, Nat.zero_add, na_0, ca_la, ca_al, ca_lm, ca_add, ca_mod, ca_lit, tn_c, Int.natCast_zero, bd_some, bd2_some, bindv_e, chk_ok, cr_ok, crl_ok, chd_ok, chb_0, chb_1, cr_bI, chb_bI, ite_bI0, if_true, if_false]
    repeat' split
    all_goals first | rfl | (exfalso; omega)
theorem tg_y {L S : Ld} {r i : Nat} {x y : Int} (h : (L.Y (S.co r i) ≤ y ∧ y < L.Y (S.co r ((i + 1) % S.cn r)) ∧ 0 < crs (L.X (S.co r i)) (L.Y (S.co r i)) (L.X (S.co r ((i + 1) % S.cn r))) (L.Y (S.co r ((i + 1) % S.cn r))) x y) ∨ (L.Y (S.co r ((i + 1) % S.cn r)) ≤ y ∧ y < L.Y (S.co r i) ∧ crs (L.X (S.co r i)) (L.Y (S.co r i)) (L.X (S.co r ((i + 1) % S.cn r))) (L.Y (S.co r ((i + 1) % S.cn r))) x y < 0)) : bI (prI (TGL L S r x y) (i + 1)) = 1 - bI (prI (TGL L S r x y) i) := by
  have hT := TGL_iff.mpr h
  by_cases z : prI (TGL L S r x y) i
  · rw [bI_t z, bI_c (prI_t z), bI_f (fun q => q hT)]; rfl
  · rw [bI_f z, bI_c (prI_f z), bI_t hT]; rfl
theorem tg_n {L S : Ld} {r i : Nat} {x y : Int} (h : ¬ ((L.Y (S.co r i) ≤ y ∧ y < L.Y (S.co r ((i + 1) % S.cn r)) ∧ 0 < crs (L.X (S.co r i)) (L.Y (S.co r i)) (L.X (S.co r ((i + 1) % S.cn r))) (L.Y (S.co r ((i + 1) % S.cn r))) x y) ∨ (L.Y (S.co r ((i + 1) % S.cn r)) ≤ y ∧ y < L.Y (S.co r i) ∧ crs (L.X (S.co r i)) (L.Y (S.co r i)) (L.X (S.co r ((i + 1) % S.cn r))) (L.Y (S.co r ((i + 1) % S.cn r))) x y < 0))) : bI (prI (TGL L S r x y) (i + 1)) = bI (prI (TGL L S r x y) i) := by
  have hT : ¬ TGL L S r x y i := fun q => h (TGL_iff.mp q)
  by_cases z : prI (TGL L S r x y) i
  · rw [bI_t z, bI_c (prI_t z), bI_t hT]
  · rw [bI_f z, bI_c (prI_f z), bI_f hT]
theorem ls_89 {c6 : Int → Int → Option Int} {x y n v4 i v8 v9 C xa ya xb yb : Int} {a b : Nat} {τ : Mm} (ha : a < 24) (hb : b < 24) (x1 : τ 1 a = xa) (y1 : τ 1 (24 + a) = ya) (x2 : τ 1 b = xb) (y2 : τ 1 (24 + b) = yb) (hya : inR ya) (hyb : inR yb) (e2 : crs xa ya xb yb x y = C) (hC : inR C) (h4 : v4 = 0 ∨ v4 = 1) (h8 : v8 = 0 ∨ v8 = 1) (h9 : v9 = 0 ∨ v9 = 1) : fX8_lies_89 c6 x y n v4 i a b v8 v9 τ = c6 (if v8 ≠ v9 ∧ ((ya < yb ∧ 0 < C) ∨ (¬ ya < yb ∧ C < 0)) then 1 - v4 else v4) (i + 1) := by
  have e3 := m_cross xa ya xb yb x y τ
  rw [e2] at e3
  rcases h4 with rfl | rfl <;> rcases h8 with rfl | rfl <;> rcases h9 with rfl | rfl <;>
  · simp (disch := omega) only [fX8_lies_89, fX8_lies_185, fX8_lies_195, fX8_lies_197, x1, x2, y1, y2, e3, if_pos (show (0 : Int) = 0 from rfl), if_pos (show (1 : Int) = 1 from rfl), if_neg (show ¬ (0 : Int) = 1 by omega), if_neg (show ¬ (1 : Int) = 0 by omega), true_and, Int.reduceAdd, Int.reduceSub, Int.reduceMul, Int.zero_add, Int.add_zero, Nat.zero_add, na_0, ca_la, ca_al, ca_lm, ca_add, ca_mod, ca_lit, tn_c, Int.natCast_zero, bd_some, bd2_some, bindv_e, chk_ok, cr_ok, crl_ok, chd_ok, chb_0, chb_1, cr_bI, chb_bI, ite_bI0, if_true, if_false]
    repeat' split
    all_goals first | rfl | (exfalso; omega)
theorem c_isOnBorder {σ : Mm} {L S : Ld} {r : Nat} {x y : Int} (hw : WF L) (h : CL σ 95 L) (hS : SW L S) (hC : SC σ L S) (hr : r < L.nr) (hx : inP x) (hy : inP y) : fX3_isOnBorder r x y σ = some (bI (ONB L S r x y)) := by
  have hnp := hw.1
  have hnr := hw.2.1
  have n1 := hS.2.2.2.2.1 r hr
  have b1 := hC.1 r hr
  have b3 := fun i hi => hC.2 r i hr hi
  have key := it_ex0 (f := fun c => fX3_isOnBorder_3 r x y σ (fX3_isOnBorder_61 σ) c) (S.cn r) (fun i => onS (L.X (S.co r i)) (L.Y (S.co r i)) (L.X (cx S r i)) (L.Y (cx S r i)) x y) (some 1) (some 0) (by omega) (fun c i hi => by
    have hm : (i + 1) % S.cn r < S.cn r := Nat.mod_lt _ (by omega)
    have hlt : (i : Int) < (S.cn r : Int) := by omega
    have c1 := hS.2.2.2.2.2.1 r i hr hi
    have c2 := hS.2.2.2.2.2.1 r _ hr hm
    have e1 := c_following σ hi (by omega)
    have e2 := c_isOn hw h c1 c2 hx hy
    simp (disch := omega) only [fX3_isOnBorder_3, b1, b3, e1, e2, if_pos, Int.reduceAdd, Int.reduceSub, Int.reduceMul, Int.zero_add, Int.add_zero, Nat.zero_add, na_0, ca_la, ca_al, ca_lm, ca_add, ca_mod, ca_lit, tn_c, Int.natCast_zero, bd_some, bd2_some, bindv_e, chk_ok, cr_ok, crl_ok, chd_ok, chb_0, chb_1, cr_bI, chb_bI, ite_bI0, if_true, if_false]) (fun c => by
    simp (disch := omega) only [fX3_isOnBorder_3, fX3_isOnBorder_61, b1, if_neg, Int.reduceAdd, Int.reduceSub, Int.reduceMul, Int.zero_add, Int.add_zero, Nat.zero_add, na_0, ca_la, ca_al, ca_lm, ca_add, ca_mod, ca_lit, tn_c, Int.natCast_zero, bd_some, bd2_some, bindv_e, chk_ok, cr_ok, crl_ok, chd_ok, chb_0, chb_1, cr_bI, chb_bI, ite_bI0, if_true, if_false])
  unfold fX3_isOnBorder
  rw [bindv_e]
  unfold lX3_isOnBorder_3
  rw [key, pI_some]
  rfl
theorem c_holds {σ : Mm} {L S : Ld} {r : Nat} {x y : Int} (hw : WF L) (h : CL σ 95 L) (hS : SW L S) (hC : SC σ L S) (hr : r < L.nr) (hx : inP x) (hy : inP y) : fX3_holds r x y σ = some (bI (prI (TGL L S r x y) (S.cn r))) := by
  have hnp := hw.1
  have hnr := hw.2.1
  have n1 := hS.2.2.2.2.1 r hr
  have b1 := hC.1 r hr
  have b3 := fun i hi => hC.2 r i hr hi
  obtain ⟨-, -, -, hY, -⟩ := CL95 h
  obtain ⟨v, i1, e1⟩ := it_inv2 (f := fun c => fX3_holds_6 r x y σ (fun v => fX3_holds_171 v σ) c) (S.cn r) (fun i v => v = bI (prI (TGL L S r x y) i)) (fun v => fX3_holds_171 v σ) (fun c i v hi hI => by
    refine ⟨_, rfl, ?_⟩
    have hm : (i + 1) % S.cn r < S.cn r := Nat.mod_lt _ (by omega)
    have hlt : (i : Int) < (S.cn r : Int) := by omega
    have c1 := hS.2.2.2.2.2.1 r i hr hi
    have c2 := hS.2.2.2.2.2.1 r _ hr hm
    have e1 := c_following σ hi (by omega)
    have e2 := c_sideOf x y hw h c1 c2
    have y1 := hY _ c1
    have y2 := hY _ c2
    have r1 := hw.2.2.2.2.2.2.1 _ c1
    have r2 := hw.2.2.2.2.2.2.1 _ c2
    have r3 := crs_b (hw.2.2.2.2.2.1 _ c1) r1 (hw.2.2.2.2.2.1 _ c2) r2 hx hy
    subst hI
    have h4 := bI_01 (prI (TGL L S r x y) i)
    have k1 := fun v8 v9 (h8 : v8 = 0 ∨ v8 = 1) (h9 : v9 = 0 ∨ v9 = 1) => hd_116 (c6 := c) (r := r) (i := i) (v8 := v8) (v9 := v9) e2 (by omega) h4 h8 h9
    by_cases q1 : y < L.Y (S.co r i) <;> by_cases q2 : y < L.Y (S.co r ((i + 1) % S.cn r)) <;>
    · simp (disch := omega) only [fX3_holds_6, fX3_holds_80, fX3_holds_81, fX3_holds_115, k1, b1, b3, e1, y1, y2, if_pos, if_neg, true_and, ne_eq, not_true_eq_false, false_and, Int.reduceAdd, Int.reduceSub, Int.reduceMul, Int.zero_add, Int.add_zero, Nat.zero_add, na_0, ca_la, ca_al, ca_lm, ca_add, ca_mod, ca_lit, tn_c, Int.natCast_zero, bd_some, bd2_some, bindv_e, chk_ok, cr_ok, crl_ok, chd_ok, chb_0, chb_1, cr_bI, chb_bI, ite_bI0, if_true, if_false]
      repeat' split
      all_goals first | (rw [tg_n (by omega)]; done) | rw [tg_y (by omega)]) (fun c v hI => by
    simp (disch := omega) only [fX3_holds_6, b1, if_neg, Int.reduceAdd, Int.reduceSub, Int.reduceMul, Int.zero_add, Int.add_zero, Nat.zero_add, na_0, ca_la, ca_al, ca_lm, ca_add, ca_mod, ca_lit, tn_c, Int.natCast_zero, bd_some, bd2_some, bindv_e, chk_ok, cr_ok, crl_ok, chd_ok, chb_0, chb_1, cr_bI, chb_bI, ite_bI0, if_true, if_false]) 400 0 0 (by omega) (by omega) (by rw [bI_f (show ¬ prI (TGL L S r x y) 0 from fun z => z)])
  unfold fX3_holds
  rw [bindv_e, bindv_e]
  unfold lX3_holds_6
  rw [Int.natCast_zero] at e1
  rw [e1, i1]
  unfold fX3_holds_171
  rw [chb_bI]
theorem m_isOnPlace {τ : Mm} {L : Ld} {a b : Nat} {x y : Int} (hw : WF L) (h : ML τ 0 L) (ha : a < L.np) (hb : b < L.np) (hx : inP x) (hy : inP y) : fX8_isOnPlace x y a b τ = some (bI (onS (L.X a) (L.Y a) (L.X b) (L.Y b) x y)) := by
  have hnp := hw.1
  obtain ⟨-, -, hX, hY, -⟩ := ML0 h
  have x1 := hX a ha
  have x2 := hX b hb
  have y1 := hY a ha
  have y2 := hY b hb
  have r1 := hw.2.2.2.2.2.1 a ha
  have r2 := hw.2.2.2.2.2.1 b hb
  have r3 := hw.2.2.2.2.2.2.1 a ha
  have r4 := hw.2.2.2.2.2.2.1 b hb
  have r5 := crs_b r1 r3 r2 r4 hx hy
  have e1 := m_cross (L.X a) (L.Y a) (L.X b) (L.Y b) x y τ
  have e2 := m_isBetween (v := x) (a := L.X a) (b := L.X b) τ (by omega) (by omega) (by omega)
  have e3 := m_isBetween (v := y) (a := L.Y a) (b := L.Y b) τ (by omega) (by omega) (by omega)
  unfold onS
  simp (disch := omega) only [fX8_isOnPlace, fX8_isOnPlace_90, fX8_isOnPlace_91, x1, x2, y1, y2, e1, e2, e3, pI_ite, pI_some, pI_some', b_and, b_or, b_nand, b_imp, Int.reduceAdd, Int.reduceSub, Int.reduceMul, Int.zero_add, Int.add_zero, Nat.zero_add, na_0, ca_la, ca_al, ca_lm, ca_add, ca_mod, ca_lit, tn_c, Int.natCast_zero, bd_some, bd2_some, bindv_e, chk_ok, cr_ok, crl_ok, chd_ok, chb_0, chb_1, cr_bI, chb_bI, ite_bI0, if_true, if_false]
  exact ob_c (by rw [bI_0, bI_0, Classical.not_not, Classical.not_not])
theorem m_lies {τ : Mm} {L S : Ld} {r : Nat} {x y : Int} (hw : WF L) (h : ML τ 0 L) (hS : SW L S) (hr : r < L.nr) (hR : ∀ i, i < S.cn r → τ 9 i = (S.co r i : Int)) (hx : inP x) (hy : inP y) : fX8_lies x y (S.cn r : Int) τ = some (pI (ONB L S r x y) 2 (bI (prI (TGL L S r x y) (S.cn r)))) := by
  have hnp := hw.1
  have n1 := hS.2.2.2.2.1 r hr
  obtain ⟨-, -, hX, hY, -⟩ := ML0 h
  have key := it_stop2 (f := fun c => fX8_lies_6 x y (S.cn r : Int) τ (fun v => fX8_lies_203 v τ) c) (S.cn r) (fun i v => v = bI (prI (TGL L S r x y) i) ∧ ∀ j, j < i → ¬ onS (L.X (S.co r j)) (L.Y (S.co r j)) (L.X (cx S r j)) (L.Y (cx S r j)) x y) (fun o => o = some (pI (ONB L S r x y) 2 (bI (prI (TGL L S r x y) (S.cn r))))) (fun c i v hi hI => by
    obtain ⟨hv, hN⟩ := hI
    by_cases e : i = S.cn r
    · left
      subst e
      rw [pI_f (fun ⟨j, a, b⟩ => hN j a b)]
      simp (disch := omega) only [fX8_lies_6, if_neg, Int.reduceAdd, Int.reduceSub, Int.reduceMul, Int.zero_add, Int.add_zero, Nat.zero_add, na_0, ca_la, ca_al, ca_lm, ca_add, ca_mod, ca_lit, tn_c, Int.natCast_zero, bd_some, bd2_some, bindv_e, chk_ok, cr_ok, crl_ok, chd_ok, chb_0, chb_1, cr_bI, chb_bI, ite_bI0, if_true, if_false]
      unfold fX8_lies_203 fX8_lies_213
      rw [hv, cr_bI, ite_bI0]
      by_cases z : prI (TGL L S r x y) (S.cn r)
      · rw [pI_t z, bI_t z]
      · rw [pI_f z, bI_f z]
    · have hi' : i < S.cn r := by omega
      have hm : (i + 1) % S.cn r < S.cn r := Nat.mod_lt _ (by omega)
      have hlt : (i : Int) < (S.cn r : Int) := by omega
      have c1 := hS.2.2.2.2.2.1 r i hr hi'
      have c2 := hS.2.2.2.2.2.1 r _ hr hm
      have g1 := hR i hi'
      have g2 := hR _ hm
      have x1 := hX _ c1
      have x2 := hX _ c2
      have y1 := hY _ c1
      have y2 := hY _ c2
      have r1 := hw.2.2.2.2.2.2.1 _ c1
      have r2 := hw.2.2.2.2.2.2.1 _ c2
      have r3 := crs_b (hw.2.2.2.2.2.1 _ c1) r1 (hw.2.2.2.2.2.1 _ c2) r2 hx hy
      have e2 := m_isOnPlace hw h c1 c2 hx hy
      have e3 := m_cross (L.X (S.co r i)) (L.Y (S.co r i)) (L.X (S.co r ((i + 1) % S.cn r))) (L.Y (S.co r ((i + 1) % S.cn r))) x y τ
      by_cases w : onS (L.X (S.co r i)) (L.Y (S.co r i)) (L.X (S.co r ((i + 1) % S.cn r))) (L.Y (S.co r ((i + 1) % S.cn r))) x y
      · left
        rw [bI_t w] at e2
        rw [pI_t ⟨i, hi', w⟩]
        simp (disch := omega) only [fX8_lies_6, g1, g2, e2, if_pos, if_neg, Int.reduceAdd, Int.reduceSub, Int.reduceMul, Int.zero_add, Int.add_zero, Nat.zero_add, na_0, ca_la, ca_al, ca_lm, ca_add, ca_mod, ca_lit, tn_c, Int.natCast_zero, bd_some, bd2_some, bindv_e, chk_ok, cr_ok, crl_ok, chd_ok, chb_0, chb_1, cr_bI, chb_bI, ite_bI0, if_true, if_false]
      · right
        rw [bI_f w] at e2
        refine ⟨hi', _, ⟨rfl, fun j hj => ?_⟩, ?_⟩
        · by_cases z : j = i
          · rw [z]; exact w
          · exact hN j (by omega)
        · subst hv
          have h4 := bI_01 (prI (TGL L S r x y) i)
          have k1 := fun v8 v9 (h8 : v8 = 0 ∨ v8 = 1) (h9 : v9 = 0 ∨ v9 = 1) => ls_89 (c6 := c) (x := x) (y := y) (n := S.cn r) (i := i) (v8 := v8) (v9 := v9) (show S.co r i < 24 by omega) (show S.co r ((i + 1) % S.cn r) < 24 by omega) x1 y1 x2 y2 (by omega) (by omega) rfl (by omega) h4 h8 h9
          by_cases q1 : y < L.Y (S.co r i) <;> by_cases q2 : y < L.Y (S.co r ((i + 1) % S.cn r)) <;>
          · simp (disch := omega) only [fX8_lies_6, fX8_lies_68, k1, g1, g2, e2, y1, y2, if_pos, if_neg, true_and, ne_eq, not_true_eq_false, false_and, Int.reduceAdd, Int.reduceSub, Int.reduceMul, Int.zero_add, Int.add_zero, Nat.zero_add, na_0, ca_la, ca_al, ca_lm, ca_add, ca_mod, ca_lit, tn_c, Int.natCast_zero, bd_some, bd2_some, bindv_e, chk_ok, cr_ok, crl_ok, chd_ok, chb_0, chb_1, cr_bI, chb_bI, ite_bI0, if_true, if_false]
            repeat' split
            all_goals first | (rw [tg_n (by omega)]; done) | rw [tg_y (by omega)]) 400 0 0 (by omega) (by omega) ⟨by rw [bI_f (show ¬ prI (TGL L S r x y) 0 from fun z => z)], fun j hj => by omega⟩
  unfold fX8_lies
  rw [bindv_e, bindv_e]
  unfold lX8_lies_6
  exact key
def IN1 (L S : Ld) (x y : Int) (r : Nat) : Prop := ¬ ONB L S r x y ∧ prI (TGL L S r x y) (S.cn r)
def FST (Q : Nat → Prop) (i : Nat) (u : Int) : Prop := (u = -4 ∧ ∀ j, j < i → ¬ Q j) ∨ (∃ j : Nat, j < i ∧ u = (j : Int) ∧ Q j ∧ ∀ z, z < j → ¬ Q z)
theorem FST_u {Q : Nat → Prop} {i : Nat} {u v : Int} (h : FST Q i u) (g : FST Q i v) : u = v := by
  rcases h with ⟨h1, h2⟩ | ⟨j, h1, h2, h3, h4⟩
  · rcases g with ⟨g1, g2⟩ | ⟨k, g1, g2, g3, g4⟩
    · omega
    · exact absurd g3 (h2 k g1)
  · rcases g with ⟨g1, g2⟩ | ⟨k, g1, g2, g3, g4⟩
    · exact absurd h3 (g2 j h1)
    · rcases Nat.lt_trichotomy j k with w | w | w
      · exact absurd h3 (g4 j w)
      · omega
      · exact absurd g3 (h4 k w)
theorem FST_n {Q : Nat → Prop} {i : Nat} {u : Int} (h : FST Q i u) (hQ : ¬ Q i) : FST Q (i + 1) u := by
  rcases h with ⟨h1, h2⟩ | ⟨j, h1, h2, h3, h4⟩
  · exact Or.inl ⟨h1, lt_s1 h2 hQ⟩
  · exact Or.inr ⟨j, by omega, h2, h3, h4⟩
theorem FST_y {Q : Nat → Prop} {i : Nat} {u : Int} (h : FST Q i u) (hQ : Q i) : FST Q (i + 1) (if u = -4 then (i : Int) else u) := by
  rcases h with ⟨h1, h2⟩ | ⟨j, h1, h2, h3, h4⟩
  · rw [if_pos h1]; exact Or.inr ⟨i, by omega, rfl, hQ, h2⟩
  · rw [if_neg (by omega)]; exact Or.inr ⟨j, by omega, h2, h3, h4⟩
theorem c_within {σ : Mm} {L S : Ld} {x y : Int} (hw : WF L) (h : CL σ 95 L) (hS : SW L S) (hC : SC σ L S) (hx : inP x) (hy : inP y) : ∃ u, FST (fun r => prI (TGL L S r x y) (S.cn r)) L.nr u ∧ lX7_within_31 x y σ (fX7_within_64 x y σ) 400 0 = some (pI (∃ r, r < L.nr ∧ ONB L S r x y) (-2) u, σ) := by
  have hnr := hw.2.1
  obtain ⟨-, cR, -⟩ := CL95 h
  have k1 := it_first (f := fun c => fX7_within_67 x y σ (fX7_within_100 σ) c) L.nr (fun r => prI (TGL L S r x y) (S.cn r)) (fun r => some ((r : Int), σ)) (some (-4, σ)) (fun c r hr => by
    have e1 := c_holds hw h hS hC hr hx hy
    simp (disch := omega) only [fX7_within_67, cR, e1, if_pos, Int.reduceAdd, Int.reduceSub, Int.reduceMul, Int.zero_add, Int.add_zero, Nat.zero_add, na_0, ca_la, ca_al, ca_lm, ca_add, ca_mod, ca_lit, tn_c, Int.natCast_zero, bd_some, bd2_some, bindv_e, chk_ok, cr_ok, crl_ok, chd_ok, chb_0, chb_1, cr_bI, chb_bI, ite_bI0, if_true, if_false]) (fun c => by
    simp (disch := omega) only [fX7_within_67, fX7_within_100, cR, if_neg, Int.reduceAdd, Int.reduceSub, Int.reduceMul, Int.zero_add, Int.add_zero, Nat.zero_add, na_0, ca_la, ca_al, ca_lm, ca_add, ca_mod, ca_lit, tn_c, Int.natCast_zero, bd_some, bd2_some, bindv_e, chk_ok, cr_ok, crl_ok, chd_ok, chb_0, chb_1, cr_bI, chb_bI, ite_bI0, if_true, if_false]) 400 0 (by omega) (by omega)
  have k2 : ∃ u, FST (fun r => prI (TGL L S r x y) (S.cn r)) L.nr u ∧ fX7_within_64 x y σ = some (u, σ) := by
    unfold fX7_within_64
    rw [bindv_e]
    unfold lX7_within_67
    rw [Int.natCast_zero] at k1
    rcases k1 with ⟨j, -, a2, a3, a4, a5⟩ | ⟨a1, a2⟩
    · exact ⟨_, Or.inr ⟨j, a2, rfl, a3, fun z hz => a4 z (by omega) hz⟩, a5⟩
    · exact ⟨_, Or.inl ⟨rfl, fun j hj => a1 j (by omega) hj⟩, a2⟩
  obtain ⟨u, u1, u2⟩ := k2
  refine ⟨u, u1, ?_⟩
  have key := it_ex0 (f := fun c => fX7_within_31 x y σ (fX7_within_64 x y σ) c) L.nr (fun r => ONB L S r x y) (some (-2, σ)) (some (u, σ)) (by omega) (fun c r hr => by
    have e1 := c_isOnBorder hw h hS hC hr hx hy
    simp (disch := omega) only [fX7_within_31, cR, e1, if_pos, Int.reduceAdd, Int.reduceSub, Int.reduceMul, Int.zero_add, Int.add_zero, Nat.zero_add, na_0, ca_la, ca_al, ca_lm, ca_add, ca_mod, ca_lit, tn_c, Int.natCast_zero, bd_some, bd2_some, bindv_e, chk_ok, cr_ok, crl_ok, chd_ok, chb_0, chb_1, cr_bI, chb_bI, ite_bI0, if_true, if_false]) (fun c => by
    simp (disch := omega) only [fX7_within_31, cR, u2, if_neg, Int.reduceAdd, Int.reduceSub, Int.reduceMul, Int.zero_add, Int.add_zero, Nat.zero_add, na_0, ca_la, ca_al, ca_lm, ca_add, ca_mod, ca_lit, tn_c, Int.natCast_zero, bd_some, bd2_some, bindv_e, chk_ok, cr_ok, crl_ok, chd_ok, chb_0, chb_1, cr_bI, chb_bI, ite_bI0, if_true, if_false])
  unfold lX7_within_31
  rw [key]
  by_cases z : ∃ r, r < L.nr ∧ ONB L S r x y
  · rw [pI_t z, pI_t z]
  · rw [pI_f z, pI_f z]
theorem m_within {τ : Mm} {L : Ld} {ga : Nat → Nat} {s : Nat} {x y : Int} (hw : WF L) (h : ML τ 0 L) (hg : GA τ ga) (hs : s < 1000) (hx : inP x) (hy : inP y) : ∃ u τ', FST (IN1 L (dr L (als ga s)) x y) L.nr u ∧ frX τ τ' ∧ lX8_within_44 x y s (fun v4 v5 t => fX8_within_114 v4 v5 t) 400 (-4) 0 0 τ = some (pI (∃ r, r < L.nr ∧ ONB L (dr L (als ga s)) r x y) (-2) u, τ') := by
  have hnr := hw.2.1
  have hS := dr_SWL hw (als ga s)
  obtain ⟨u, v, t, ⟨i1, i2, i3⟩, e1⟩ := it_inv4 (f := fun c => fX8_within_44 x y s (fun v4 v5 t => fX8_within_114 v4 v5 t) c) L.nr (fun i u v t => v = bI (∃ r, r < i ∧ ONB L (dr L (als ga s)) r x y) ∧ FST (IN1 L (dr L (als ga s)) x y) i u ∧ frX τ t) (fun u v t => fX8_within_114 u v t) (fun c r u v t hr hI => by
    obtain ⟨q1, q2, q3⟩ := hI
    have m1 := m_rings (frX_ML q3 h)
    obtain ⟨t2, d1, d2, d3⟩ := m_ringAt hw (frX_ML q3 h) (frX_GA q3 hg) hr hs
    have q4 := frX_t q3 (fun k a _ => d3 k a)
    have d4 := m_lies hw (frX_ML q4 h) hS hr d2 hx hy
    have hu : -4 ≤ u ∧ u ≤ 6 := by
      rcases q2 with ⟨a, -⟩ | ⟨j, a, b, -⟩ <;> omega
    subst q1
    by_cases B : ONB L (dr L (als ga s)) r x y
    · rw [pI_t B] at d4
      refine ⟨u, 1, t2, ⟨by rw [bI_t ⟨r, by omega, B⟩], FST_n q2 (fun z => z.1 B), q4⟩, ?_⟩
      by_cases E : ∃ z, z < r ∧ ONB L (dr L (als ga s)) z x y
      · rw [bI_t E]
        simp (disch := omega) only [fX8_within_44, fX8_within_79, fX8_within_84, fX8_within_104, fX8_within_106, m1, d1, d4, if_pos, if_neg, Int.reduceAdd, Int.reduceSub, Int.reduceMul, Int.zero_add, Int.add_zero, Nat.zero_add, na_0, ca_la, ca_al, ca_lm, ca_add, ca_mod, ca_lit, tn_c, Int.natCast_zero, bd_some, bd2_some, bindv_e, chk_ok, cr_ok, crl_ok, chd_ok, chb_0, chb_1, cr_bI, chb_bI, ite_bI0, if_true, if_false]
      · rw [bI_f E]
        simp (disch := omega) only [fX8_within_44, fX8_within_79, fX8_within_84, fX8_within_104, fX8_within_106, m1, d1, d4, if_pos, if_neg, Int.reduceAdd, Int.reduceSub, Int.reduceMul, Int.zero_add, Int.add_zero, Nat.zero_add, na_0, ca_la, ca_al, ca_lm, ca_add, ca_mod, ca_lit, tn_c, Int.natCast_zero, bd_some, bd2_some, bindv_e, chk_ok, cr_ok, crl_ok, chd_ok, chb_0, chb_1, cr_bI, chb_bI, ite_bI0, if_true, if_false]
    · rw [pI_f B] at d4
      have eE : bI (∃ z, z < r + 1 ∧ ONB L (dr L (als ga s)) z x y) = bI (∃ z, z < r ∧ ONB L (dr L (als ga s)) z x y) := bI_c ⟨fun ⟨z, a, b⟩ => ⟨z, by
          rcases Nat.lt_or_ge z r with w | w
          · exact w
          · exact absurd ((show z = r by omega) ▸ b) B, b⟩, fun ⟨z, a, b⟩ => ⟨z, by omega, b⟩⟩
      by_cases P : prI (TGL L (dr L (als ga s)) r x y) ((dr L (als ga s)).cn r)
      · rw [bI_t P] at d4
        refine ⟨if u = -4 then (r : Int) else u, _, t2, ⟨rfl, FST_y q2 ⟨B, P⟩, q4⟩, ?_⟩
        rw [eE]
        by_cases E : ∃ z, z < r ∧ ONB L (dr L (als ga s)) z x y
        · rw [bI_t E]
          simp (disch := omega) only [fX8_within_44, fX8_within_79, fX8_within_84, fX8_within_104, fX8_within_106, m1, d1, d4, if_pos, if_neg, Int.reduceAdd, Int.reduceSub, Int.reduceMul, Int.zero_add, Int.add_zero, Nat.zero_add, na_0, ca_la, ca_al, ca_lm, ca_add, ca_mod, ca_lit, tn_c, Int.natCast_zero, bd_some, bd2_some, bindv_e, chk_ok, cr_ok, crl_ok, chd_ok, chb_0, chb_1, cr_bI, chb_bI, ite_bI0, if_true, if_false]
          split <;> rfl
        · rw [bI_f E]
          simp (disch := omega) only [fX8_within_44, fX8_within_79, fX8_within_84, fX8_within_104, fX8_within_106, m1, d1, d4, if_pos, if_neg, Int.reduceAdd, Int.reduceSub, Int.reduceMul, Int.zero_add, Int.add_zero, Nat.zero_add, na_0, ca_la, ca_al, ca_lm, ca_add, ca_mod, ca_lit, tn_c, Int.natCast_zero, bd_some, bd2_some, bindv_e, chk_ok, cr_ok, crl_ok, chd_ok, chb_0, chb_1, cr_bI, chb_bI, ite_bI0, if_true, if_false]
          split <;> rfl
      · rw [bI_f P] at d4
        refine ⟨u, _, t2, ⟨rfl, FST_n q2 (fun z => P z.2), q4⟩, ?_⟩
        rw [eE]
        by_cases E : ∃ z, z < r ∧ ONB L (dr L (als ga s)) z x y
        · rw [bI_t E]
          simp (disch := omega) only [fX8_within_44, fX8_within_79, fX8_within_84, fX8_within_104, fX8_within_106, m1, d1, d4, if_pos, if_neg, Int.reduceAdd, Int.reduceSub, Int.reduceMul, Int.zero_add, Int.add_zero, Nat.zero_add, na_0, ca_la, ca_al, ca_lm, ca_add, ca_mod, ca_lit, tn_c, Int.natCast_zero, bd_some, bd2_some, bindv_e, chk_ok, cr_ok, crl_ok, chd_ok, chb_0, chb_1, cr_bI, chb_bI, ite_bI0, if_true, if_false]
        · rw [bI_f E]
          simp (disch := omega) only [fX8_within_44, fX8_within_79, fX8_within_84, fX8_within_104, fX8_within_106, m1, d1, d4, if_pos, if_neg, Int.reduceAdd, Int.reduceSub, Int.reduceMul, Int.zero_add, Int.add_zero, Nat.zero_add, na_0, ca_la, ca_al, ca_lm, ca_add, ca_mod, ca_lit, tn_c, Int.natCast_zero, bd_some, bd2_some, bindv_e, chk_ok, cr_ok, crl_ok, chd_ok, chb_0, chb_1, cr_bI, chb_bI, ite_bI0, if_true, if_false]) (fun c u v t hI => by
    obtain ⟨q1, q2, q3⟩ := hI
    have m1 := m_rings (frX_ML q3 h)
    simp (disch := omega) only [fX8_within_44, m1, if_neg, Int.reduceAdd, Int.reduceSub, Int.reduceMul, Int.zero_add, Int.add_zero, Nat.zero_add, na_0, ca_la, ca_al, ca_lm, ca_add, ca_mod, ca_lit, tn_c, Int.natCast_zero, bd_some, bd2_some, bindv_e, chk_ok, cr_ok, crl_ok, chd_ok, chb_0, chb_1, cr_bI, chb_bI, ite_bI0, if_true, if_false]) 400 0 (-4) 0 τ (by omega) (by omega) ⟨by rw [bI_f (fun ⟨j, a, _⟩ => by omega)], Or.inl ⟨rfl, fun j hj => by omega⟩, frX_r τ⟩
  refine ⟨u, t, i2, i3, ?_⟩
  unfold lX8_within_44
  rw [Int.natCast_zero] at e1
  rw [e1]
  unfold fX8_within_114 fX8_within_126
  rw [i1, cr_bI, ite_bI0]
  by_cases z : ∃ r, r < L.nr ∧ ONB L (dr L (als ga s)) r x y
  · rw [pI_t z, pI_t z]
  · rw [pI_f z, pI_f z]
theorem k_within {σ τ : Mm} {v u w : Int} (h : Inv σ τ) (hv : inR v) (hu : inR u) (hw : inR w) : CC (fX7_within v u w σ) (fX8_within v u w τ) := by
  obtain ⟨L, hI⟩ := h
  have hW := hI.1.1
  have e1 := c_isPlace σ hv hu
  have e2 := m_in τ (v := v) (a := 0) (b := 199) hv (by omega) (by omega)
  have e3 := m_in τ (v := u) (a := 0) (b := 199) hu (by omega) (by omega)
  by_cases w1 : inP v
  · by_cases w2 : inP u
    · rw [bI_t ⟨w1, w2⟩] at e1
      rw [bI_t w1] at e2
      rw [bI_t w2] at e3
      obtain ⟨τ', gb, sz, n, m1, m2, hI', m3, l1, l2⟩ := st_view hI hw
      by_cases w3 : 0 ≤ w ∧ w ≤ (n : Int)
      · obtain ⟨s, rfl, hs⟩ := cut1 w3
        rw [bI_t w3] at m1 m2
        obtain ⟨σ', c1, c2, c3, c4⟩ := c_sceneAt hW hI.1.2.2.1 m3.1.1 m3.2.1 hs
        have hI2 := InvL_S c4 hI'
        obtain ⟨x, x1, x2⟩ := c_within hW hI2.1.2.2.1 (SCN_SW hW gb s) c2 w1 w2
        obtain ⟨y, τ2, y1, y2, y3⟩ := m_within (s := s) hW hI'.2.2.1 m3.2.2.1.2.2.1 (by omega) w1 w2
        rw [drS m3.1.1 hs] at y1 y3
        have hC : fX7_within v u s σ = some (pI (∃ r, r < L.nr ∧ ONB L (SCN L gb s) r v u) (-2) x, σ') := by
          unfold fX7_within
          rw [e1, bd_some, cr_ok (by omega), if_neg (by omega), m2, bd_some, cr_ok (by omega), if_neg (by omega), c1, bd_some, bindv_e, x2]
        have hM : fX8_within v u s τ = some (pI (∃ r, r < L.nr ∧ ONB L (SCN L gb s) r v u) (-2) y, τ2) := by
          unfold fX8_within
          rw [cr_ok hv, e2, bd_some, cr_ok (by omega), if_neg (by omega), cr_ok hu, e3, bd_some, cr_ok (by omega), if_neg (by omega), m1, bd2_some, cr_ok (by omega), if_neg (by omega), bindv_e, bindv_e, bindv_e, y3]
        by_cases B : ∃ r, r < L.nr ∧ ONB L (SCN L gb s) r v u
        · rw [pI_t B] at hC hM
          exact ⟨-2, σ', τ2, hC, hM, L, InvL_X y2 hI2⟩
        · rw [pI_f B] at hC hM
          have e : y = x := FST_u (Q := fun r => prI (TGL L (SCN L gb s) r v u) ((SCN L gb s).cn r)) (i := L.nr) (by
            rcases y1 with ⟨a1, a2⟩ | ⟨j, a1, a2, a3, a4⟩
            · exact Or.inl ⟨a1, fun j hj z => a2 j hj ⟨fun b => B ⟨j, hj, b⟩, z⟩⟩
            · exact Or.inr ⟨j, a1, a2, a3.2, fun z hz q => a4 z hz ⟨fun b => B ⟨z, by omega, b⟩, q⟩⟩) x1
          subst e
          exact ⟨y, σ', τ2, hC, hM, L, InvL_X y2 hI2⟩
      · rw [bI_f w3] at m1 m2
        refine ⟨-1, σ, τ', ?_, ?_, L, hI'⟩
        · simp (disch := omega) only [fX7_within, fX7_within_16, e1, m2, if_pos, if_neg, Int.reduceAdd, Int.reduceSub, Int.reduceMul, Int.zero_add, Int.add_zero, Nat.zero_add, na_0, ca_la, ca_al, ca_lm, ca_add, ca_mod, ca_lit, tn_c, Int.natCast_zero, bd_some, bd2_some, bindv_e, chk_ok, cr_ok, crl_ok, chd_ok, chb_0, chb_1, cr_bI, chb_bI, ite_bI0, if_true, if_false]
        · simp (disch := omega) only [fX8_within, fX8_within_32, e2, e3, m1, if_pos, if_neg, Int.reduceAdd, Int.reduceSub, Int.reduceMul, Int.zero_add, Int.add_zero, Nat.zero_add, na_0, ca_la, ca_al, ca_lm, ca_add, ca_mod, ca_lit, tn_c, Int.natCast_zero, bd_some, bd2_some, bindv_e, chk_ok, cr_ok, crl_ok, chd_ok, chb_0, chb_1, cr_bI, chb_bI, ite_bI0, if_true, if_false]
    · rw [bI_f (fun z => w2 z.2)] at e1
      rw [bI_t w1] at e2
      rw [bI_f w2] at e3
      refine ⟨-1, σ, τ, ?_, ?_, L, hI⟩
      · simp (disch := omega) only [fX7_within, fX7_within_16, e1, if_pos, if_neg, Int.reduceAdd, Int.reduceSub, Int.reduceMul, Int.zero_add, Int.add_zero, Nat.zero_add, na_0, ca_la, ca_al, ca_lm, ca_add, ca_mod, ca_lit, tn_c, Int.natCast_zero, bd_some, bd2_some, bindv_e, chk_ok, cr_ok, crl_ok, chd_ok, chb_0, chb_1, cr_bI, chb_bI, ite_bI0, if_true, if_false]
      · simp (disch := omega) only [fX8_within, fX8_within_32, e2, e3, if_pos, if_neg, Int.reduceAdd, Int.reduceSub, Int.reduceMul, Int.zero_add, Int.add_zero, Nat.zero_add, na_0, ca_la, ca_al, ca_lm, ca_add, ca_mod, ca_lit, tn_c, Int.natCast_zero, bd_some, bd2_some, bindv_e, chk_ok, cr_ok, crl_ok, chd_ok, chb_0, chb_1, cr_bI, chb_bI, ite_bI0, if_true, if_false]
  · rw [bI_f (fun z => w1 z.1)] at e1
    rw [bI_f w1] at e2
    refine ⟨-1, σ, τ, ?_, ?_, L, hI⟩
    · simp (disch := omega) only [fX7_within, fX7_within_16, e1, if_pos, if_neg, Int.reduceAdd, Int.reduceSub, Int.reduceMul, Int.zero_add, Int.add_zero, Nat.zero_add, na_0, ca_la, ca_al, ca_lm, ca_add, ca_mod, ca_lit, tn_c, Int.natCast_zero, bd_some, bd2_some, bindv_e, chk_ok, cr_ok, crl_ok, chd_ok, chb_0, chb_1, cr_bI, chb_bI, ite_bI0, if_true, if_false]
    · simp (disch := omega) only [fX8_within, fX8_within_32, e2, if_pos, if_neg, Int.reduceAdd, Int.reduceSub, Int.reduceMul, Int.zero_add, Int.add_zero, Nat.zero_add, na_0, ca_la, ca_al, ca_lm, ca_add, ca_mod, ca_lit, tn_c, Int.natCast_zero, bd_some, bd2_some, bindv_e, chk_ok, cr_ok, crl_ok, chd_ok, chb_0, chb_1, cr_bI, chb_bI, ite_bI0, if_true, if_false]
