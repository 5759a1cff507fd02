/-! points that move -/
theorem ML0 {σ : Mm} {L : Ld} (h : ML σ 0 L) : σ 1 138 = (L.np : Int) ∧ σ 1 139 = (L.nr : Int) ∧ (∀ p, p < L.np → σ 1 p = L.X p) ∧ (∀ p, p < L.np → σ 1 (24 + p) = L.Y p) ∧ (∀ p, p < L.np → σ 1 (48 + p) = L.P p) ∧ (∀ r, r < L.nr → σ 1 (132 + r) = (L.cn r : Int)) ∧ (∀ r i, r < L.nr → i < L.cn r → σ 1 (72 + 10 * r + i) = (L.co r i : Int)) := by
  have h1 := id h
  unfold ML at h1
  simp only [Nat.zero_add] at h1
  exact h1
theorem CL95 {σ : Mm} {L : Ld} (h : CL σ 95 L) : σ 95 9 = (L.np : Int) ∧ σ 95 10 = (L.nr : Int) ∧ (∀ p, p < L.np → σ 96 p = L.X p) ∧ (∀ p, p < L.np → σ 97 p = L.Y p) ∧ (∀ p, p < L.np → σ 98 p = L.P p) ∧ (∀ r, r < L.nr → σ 100 r = (L.cn r : Int)) ∧ (∀ r i, r < L.nr → i < L.cn r → σ (105 + r) i = (L.co r i : Int)) := h
theorem sto_bk2 (σ : Mm) (a b i j : Nat) (x y : Int) (h : ¬ (a = b ∧ i = j)) : sto (sto (sto (sto σ a i x) b j y) a i (σ a i)) b j (σ b j) = σ := by
  funext k' z
  rw [sto_at, sto_at, sto_at, sto_at]
  repeat' split
  all_goals first | rfl | (rename_i q; rw [q.1, q.2]; done) | (rename_i q1 q2; rw [q2.1, q2.2]; done) | (rename_i q1 q2 q3; exact absurd q3 (by assumption))
theorem c_isBelow (σ : Mm) {v n : Int} (hv : inR v) (hn : inR n) : fX7_isBelow v n σ = some (bI (0 ≤ v ∧ v < n)) := by
  simp (disch := omega) only [fX7_isBelow, fX7_isBelow_13, fX7_isBelow_14, Int.reduceAdd, Int.reduceSub, Int.reduceMul, Int.zero_add, Int.add_zero, Nat.zero_add, na_0, ca_la, ca_al, ca_lm, ca_add, ca_mod, ca_lit, tn_c, Int.natCast_zero, bd_some, bd2_some, bindv_e, chk_ok, cr_ok, crl_ok, chd_ok, chb_0, chb_1, cr_bI, chb_bI, ite_bI0, if_true, if_false]
  repeat' split
  all_goals first | (rw [bI_t (by omega)]; done) | rw [bI_f (by omega)]
theorem c_isPlace (σ : Mm) {x y : Int} (hx : inR x) (hy : inR y) : fX7_isPlace x y σ = some (bI (inP x ∧ inP y)) := by
  have e1 := c_isBelow σ (v := x) (n := 200) hx (by omega)
  have e2 := c_isBelow σ (v := y) (n := 200) hy (by omega)
  simp (disch := omega) only [fX7_isPlace, fX7_isPlace_24, fX7_isPlace_25, e1, e2, pI_some, pI_some', b_and, b_or, b_nand, b_imp, Int.reduceAdd, Int.reduceSub, Int.reduceMul, Int.zero_add, Int.add_zero, Nat.zero_add, na_0, ca_la, ca_al, ca_lm, ca_add, ca_mod, ca_lit, tn_c, Int.natCast_zero, bd_some, bd2_some, bindv_e, chk_ok, cr_ok, crl_ok, chd_ok, chb_0, chb_1, cr_bI, chb_bI, ite_bI0, if_true, if_false]
  apply ob_c
  omega
theorem m_in (σ : Mm) {v a b : Int} (hv : inR v) (ha : inR a) (hb : inR b) : fX8_in v a b σ = some (bI (a ≤ v ∧ v ≤ b)) := by
  simp (disch := omega) only [fX8_in, fX8_in_17, fX8_in_18, Int.reduceAdd, Int.reduceSub, Int.reduceMul, Int.zero_add, Int.add_zero, Nat.zero_add, na_0, ca_la, ca_al, ca_lm, ca_add, ca_mod, ca_lit, tn_c, Int.natCast_zero, bd_some, bd2_some, bindv_e, chk_ok, cr_ok, crl_ok, chd_ok, chb_0, chb_1, cr_bI, chb_bI, ite_bI0, if_true, if_false]
  repeat' split
  all_goals first | (rw [bI_t (by omega)]; done) | rw [bI_f (by omega)]
theorem m_points {σ : Mm} {L : Ld} (h : ML σ 0 L) : fX8_points σ = some (L.np : Int) := by
  obtain ⟨hP, -⟩ := ML0 h
  simp (disch := omega) only [fX8_points, hP, Int.reduceAdd, Int.reduceSub, Int.reduceMul, Int.zero_add, Int.add_zero, Nat.zero_add, na_0, ca_la, ca_al, ca_lm, ca_add, ca_mod, ca_lit, tn_c, Int.natCast_zero, bd_some, bd2_some, bindv_e, chk_ok, cr_ok, crl_ok, chd_ok, chb_0, chb_1, cr_bI, chb_bI, ite_bI0, if_true, if_false]
theorem m_rings {σ : Mm} {L : Ld} (h : ML σ 0 L) : fX8_rings σ = some (L.nr : Int) := by
  obtain ⟨-, hP, -⟩ := ML0 h
  simp (disch := omega) only [fX8_rings, hP, Int.reduceAdd, Int.reduceSub, Int.reduceMul, Int.zero_add, Int.add_zero, Nat.zero_add, na_0, ca_la, ca_al, ca_lm, ca_add, ca_mod, ca_lit, tn_c, Int.natCast_zero, bd_some, bd2_some, bindv_e, chk_ok, cr_ok, crl_ok, chd_ok, chb_0, chb_1, cr_bI, chb_bI, ite_bI0, if_true, if_false]
theorem m_isPoint {σ : Mm} {L : Ld} (hw : WF L) (h : ML σ 0 L) {p : Int} (hp : inR p) : fX8_isPoint p σ = some (bI (0 ≤ p ∧ p < (L.np : Int))) := by
  have hn := hw.1
  have e1 := m_points h
  have e2 := m_in σ (v := p) (a := 0) (b := (L.np : Int) - 1) hp (by omega) (by omega)
  simp (disch := omega) only [fX8_isPoint, e1, e2, Int.reduceAdd, Int.reduceSub, Int.reduceMul, Int.zero_add, Int.add_zero, Nat.zero_add, na_0, ca_la, ca_al, ca_lm, ca_add, ca_mod, ca_lit, tn_c, Int.natCast_zero, bd_some, bd2_some, bindv_e, chk_ok, cr_ok, crl_ok, chd_ok, chb_0, chb_1, cr_bI, chb_bI, ite_bI0, if_true, if_false]
  apply ob_c
  omega
/-- the memory behind a move -/
def cmv (σ : Mm) (k p : Nat) (x y : Int) : Mm := sto (sto σ (k + 1) p x) (k + 2) p y
def mmv (σ : Mm) (p : Nat) (x y : Int) : Mm := sto (sto σ 1 p x) 1 (24 + p) y
theorem cmv_CL {σ : Mm} {L : Ld} {k p : Nat} {x y : Int} (h : CL σ k L) : CL (cmv σ k p x y) k (mv L p x y) := by
  obtain ⟨h1, h2, h3, h4, h5, h6, h7⟩ := h
  unfold cmv
  refine ⟨?_, ?_, fun q hq => ?_, fun q hq => ?_, fun q hq => ?_, fun r hr => ?_, fun r i hr hi => ?_⟩
  · rw [sto_k (by omega), sto_k (by omega)]; exact h1
  · rw [sto_k (by omega), sto_k (by omega)]; exact h2
  · rw [sto_k (by omega), sto_at]
    show _ = upZ L.X p x q
    unfold upZ
    have := h3 q hq
    by_cases e : q = p <;> simp [e, this]
  · rw [sto_at, sto_k (by omega)]
    show _ = upZ L.Y p y q
    unfold upZ
    have := h4 q hq
    by_cases e : q = p <;> simp [e, this]
  · rw [sto_k (by omega), sto_k (by omega)]; exact h5 q hq
  · rw [sto_k (by omega), sto_k (by omega)]; exact h6 r hr
  · rw [sto_k (by omega), sto_k (by omega)]; exact h7 r i hr hi
theorem cmv_EL {σ : Mm} {k p np ne : Nat} {A B : Nat → Nat} {x y : Int} (h : EL σ k np ne A B) : EL (cmv σ k p x y) k np ne A B := by
  obtain ⟨h1, h2, h3, h4, h5, h6⟩ := h
  unfold cmv
  refine ⟨?_, h2, fun e he => ?_, fun e he => ?_, h5, h6⟩
  · rw [sto_k (by omega), sto_k (by omega)]; exact h1
  · rw [sto_k (by omega), sto_k (by omega)]; exact h3 e he
  · rw [sto_k (by omega), sto_k (by omega)]; exact h4 e he
theorem mmv_ML {σ : Mm} {L : Ld} {p : Nat} {x y : Int} (hw : WF L) (hp : p < L.np) (h : ML σ 0 L) : ML (mmv σ p x y) 0 (mv L p x y) := by
  obtain ⟨h1, h2, h3, h4, h5, h6, h7⟩ := ML0 h
  have hn := hw.1
  have hr6 := hw.2.1
  unfold mmv ML
  simp only [Nat.zero_add]
  refine ⟨?_, ?_, fun q hq => ?_, fun q hq => ?_, fun q hq => ?_, fun r hr => ?_, fun r i hr hi => ?_⟩
  · rw [sto_i (by omega), sto_i (by omega)]; exact h1
  · rw [sto_i (by omega), sto_i (by omega)]; exact h2
  · have hq' : q < L.np := hq
    rw [sto_i (by omega), sto_at]
    show _ = upZ L.X p x q
    unfold upZ
    have := h3 q hq
    by_cases e : q = p <;> simp [e, this]
  · have hq' : q < L.np := hq
    rw [sto_at, sto_i (by omega)]
    show _ = upZ L.Y p y q
    unfold upZ
    have := h4 q hq
    by_cases e : q = p
    · simp [e]
    · rw [if_neg (by omega), if_neg e]; exact this
  · have hq' : q < L.np := hq
    rw [sto_i (by omega), sto_i (by omega)]; exact h5 q hq
  · have hr' : r < L.nr := hr
    rw [sto_i (by omega), sto_i (by omega)]; exact h6 r hr
  · have hr' : r < L.nr := hr
    rw [sto_i (by omega), sto_i (by omega)]; exact h7 r i hr hi
theorem c_shiftIfFair {σ : Mm} {L : Ld} {k ne p : Nat} {A B : Nat → Nat} {x y : Int} (hw : WF L) (h : CL σ k L) (hE : EL σ k L.np ne A B) (hG : GE L ne A B) (hF : FAIR L) (hp : p < L.np) (hx : inP x) (hy : inP y) : fX1_shiftIfFair k p x y σ = some (pI (FAIR (mv L p x y)) (1, cmv σ k p x y) (0, σ)) := by
  have hn := hw.1
  have hw' := mv_wf (p := p) hw hx hy
  have h' := cmv_CL (p := p) (x := x) (y := y) h
  have hE' := cmv_EL (p := p) (x := x) (y := y) hE
  have e1 := c_isFairAround (p := p) hw' h' hE' hp
  have e2 := c_areasStand hw' h'
  have e3 := mv_fair (p := p) hw hx hy hG hE.2.2.2.2.1 hE.2.2.2.2.2 hp hF
  have e4 := sto_bk2 σ (k + 1) (k + 2) p p x y (by omega)
  unfold cmv at e1 e2
  simp (disch := omega) only [fX1_shiftIfFair, fX1_shiftIfFair_47, e1, e2, e4, Int.reduceAdd, Int.reduceSub, Int.reduceMul, Int.zero_add, Int.add_zero, Nat.zero_add, na_0, ca_la, ca_al, ca_lm, ca_add, ca_mod, ca_lit, tn_c, Int.natCast_zero, bd_some, bd2_some, bindv_e, chk_ok, cr_ok, crl_ok, chd_ok, chb_0, chb_1, cr_bI, chb_bI, ite_bI0, if_true, if_false]
  by_cases q1 : FA (mv L p x y) ne A B p
  · rw [pI_t q1]
    by_cases q2 : ∀ r, r < (mv L p x y).nr → AR (mv L p x y) r ≠ 0
    · rw [pI_t q2, pI_t (e3.mp ⟨q1, q2⟩)]
      rfl
    · rw [pI_f q2, pI_f (fun z => q2 (e3.mpr z).2)]
  · rw [pI_f q1, pI_f (fun z => q1 (e3.mpr z).1)]
theorem c_shift {σ : Mm} {L : Ld} {ne : Nat} {A B : Nat → Nat} {p x y : Int} (hw : WF L) (h : CL σ 95 L) (hE : EL σ 95 L.np ne A B) (hG : GE L ne A B) (hF : FAIR L) (hp : inR p) (hx : inR x) (hy : inR y) : fX7_shift p x y σ = some (pI ((0 ≤ p ∧ p < (L.np : Int)) ∧ inP x ∧ inP y) (pI (FAIR (mv L p.toNat x y)) (1, cmv σ 95 p.toNat x y) (-2, σ)) (-1, σ)) := by
  have hn := hw.1
  obtain ⟨hP, -⟩ := CL95 h
  have e1 := c_isBelow σ (v := p) (n := (L.np : Int)) hp (by omega)
  have e2 := c_isPlace σ hx hy
  simp (disch := omega) only [fX7_shift, fX7_shift_22, fX7_shift_43, hP, e1, e2, Int.reduceAdd, Int.reduceSub, Int.reduceMul, Int.zero_add, Int.add_zero, Nat.zero_add, na_0, ca_la, ca_al, ca_lm, ca_add, ca_mod, ca_lit, tn_c, Int.natCast_zero, bd_some, bd2_some, bindv_e, chk_ok, cr_ok, crl_ok, chd_ok, chb_0, chb_1, cr_bI, chb_bI, ite_bI0, if_true, if_false]
  by_cases q1 : 0 ≤ p ∧ p < (L.np : Int)
  · rw [pI_t q1]
    by_cases q2 : inP x ∧ inP y
    · rw [pI_t q2, pI_t ⟨q1, q2⟩]
      have e3 := c_shiftIfFair (p := p.toNat) (x := x) (y := y) hw h hE hG hF (by omega) q2.1 q2.2
      rw [show ((p.toNat : Nat) : Int) = p by omega] at e3
      rw [e3]
      by_cases q3 : FAIR (mv L p.toNat x y)
      · rw [pI_t q3, pI_t q3]
        simp (disch := omega) only [if_neg, Int.reduceAdd, Int.reduceSub, Int.reduceMul, Int.zero_add, Int.add_zero, Nat.zero_add, na_0, ca_la, ca_al, ca_lm, ca_add, ca_mod, ca_lit, tn_c, Int.natCast_zero, bd_some, bd2_some, bindv_e, chk_ok, cr_ok, crl_ok, chd_ok, chb_0, chb_1, cr_bI, chb_bI, ite_bI0, if_true, if_false]
      · rw [pI_f q3, pI_f q3]
        simp (disch := omega) only [if_pos, Int.reduceAdd, Int.reduceSub, Int.reduceMul, Int.zero_add, Int.add_zero, Nat.zero_add, na_0, ca_la, ca_al, ca_lm, ca_add, ca_mod, ca_lit, tn_c, Int.natCast_zero, bd_some, bd2_some, bindv_e, chk_ok, cr_ok, crl_ok, chd_ok, chb_0, chb_1, cr_bI, chb_bI, ite_bI0, if_true, if_false]
    · rw [pI_f q2, pI_f (fun z => q2 z.2)]
  · rw [pI_f q1, pI_f (fun z => q1 z.1)]
theorem m_moves {σ : Mm} {L : Ld} {p x y : Int} (hw : WF L) (h : ML σ 0 L) (hp : inR p) (hx : inR x) (hy : inR y) : fX8_moves p x y σ = some (pI ((0 ≤ p ∧ p < (L.np : Int)) ∧ inP x ∧ inP y) (pI (FAIR (mv L p.toNat x y)) (1, sto (mmv σ p.toNat x y) 0 17 0) (-2, σ)) (-1, σ)) := by
  have hn := hw.1
  have e1 := m_isPoint hw h hp
  have e2 := m_in σ (v := x) (a := 0) (b := 199) hx (by omega) (by omega)
  have e3 := m_in σ (v := y) (a := 0) (b := 199) hy (by omega) (by omega)
  simp (disch := omega) only [fX8_moves, fX8_moves_32, e1, e2, e3, Int.reduceAdd, Int.reduceSub, Int.reduceMul, Int.zero_add, Int.add_zero, Nat.zero_add, na_0, ca_la, ca_al, ca_lm, ca_add, ca_mod, ca_lit, tn_c, Int.natCast_zero, bd_some, bd2_some, bindv_e, chk_ok, cr_ok, crl_ok, chd_ok, chb_0, chb_1, cr_bI, chb_bI, ite_bI0, if_true, if_false]
  by_cases q1 : 0 ≤ p ∧ p < (L.np : Int)
  · rw [pI_t q1]
    by_cases q2 : inP x
    · rw [pI_t q2]
      by_cases q3 : inP y
      · rw [pI_t q3, pI_t ⟨q1, q2, q3⟩]
        obtain ⟨j, hj⟩ : ∃ j : Nat, p = (j : Int) := ⟨p.toNat, by omega⟩
        subst hj
        have e5 := m_isFair (o := 0) (by omega) (mv_wf (p := j) hw q2 q3) (mmv_ML (x := x) (y := y) hw (p := j) (by omega) h)
        rw [show ((0 : Nat) : Int) = 0 from rfl] at e5
        unfold mmv at e5
        have e6 := sto_bk2 σ 1 1 j (24 + j) x y (by omega)
        simp (disch := omega) only [e5, e6, Int.reduceAdd, Int.reduceSub, Int.reduceMul, Int.zero_add, Int.add_zero, Nat.zero_add, na_0, ca_la, ca_al, ca_lm, ca_add, ca_mod, ca_lit, tn_c, Int.natCast_zero, bd_some, bd2_some, bindv_e, chk_ok, cr_ok, crl_ok, chd_ok, chb_0, chb_1, cr_bI, chb_bI, ite_bI0, if_true, if_false]
        by_cases q4 : FAIR (mv L j x y)
        · rw [pI_t q4, pI_t q4]
          rfl
        · rw [pI_f q4, pI_f q4]
      · rw [pI_f q3, pI_f (fun z => q3 z.2.2)]
    · rw [pI_f q2, pI_f (fun z => q2 z.2.1)]
  · rw [pI_f q1, pI_f (fun z => q1 z.1)]
