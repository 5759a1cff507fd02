/-! the reference: all that is made behind a change -/
def frR (σ σ' : Mm) : Prop := (∀ k, k ≠ 0 → (k < 10 ∨ 13 < k) → σ' k = σ k) ∧ (∀ j, j ≠ 24 → σ' 0 j = σ 0 j)
theorem frR_t {a b c : Mm} (h : frR a b) (g : frR b c) : frR a c := ⟨fun k h1 h2 => (g.1 k h1 h2).trans (h.1 k h1 h2), fun j h1 => (g.2 j h1).trans (h.2 j h1)⟩
theorem frR_ML {σ σ' : Mm} {L : Ld} {o : Nat} (hf : frR σ σ') (h : ML σ o L) : ML σ' o L := by
  unfold ML at h ⊢
  rw [hf.1 1 (by omega) (by omega)]
  exact h
theorem frR_DG {σ σ' : Mm} {L : Ld} (hf : frR σ σ') (h : DG σ L) : DG σ' L := fun p hp => by rw [hf.1 8 (by omega) (by omega)]; exact h p hp
theorem frR_MP {σ σ' : Mm} {L : Ld} {gb : Nat → Nat} {sz : Nat → Int} {n : Nat} (hf : frR σ σ') (h : MP σ L gb sz n) : MP σ' L gb sz n := by
  obtain ⟨h1, h2, h3, h4, h5⟩ := h
  exact ⟨by rw [hf.2 16 (by omega)]; exact h1, fun s a b => by rw [hf.1 7 (by omega) (by omega)]; exact h2 s a b, fun p hp => by rw [hf.1 5 (by omega) (by omega)]; exact h3 p hp, fun p hp => by rw [hf.1 6 (by omega) (by omega)]; exact h4 p hp, frR_DG hf h5⟩
theorem frR_M {a b : Mm} (h : frR a b) : frM a b := ⟨fun k h1 h2 => h.1 k h1 (by omega), fun j _ h3 => h.2 j h3⟩
theorem m_arcs {σ : Mm} {L : Ld} (hw : WF L) (h : ML σ 0 L) (hD : DG σ L) : ∃ σ', fX8_arcs σ = some σ' ∧ MA σ' (allA L L.nr) ∧ ALL L (allA L L.nr) L.nr 0 ∧ frR σ σ' := by
  have hnp := hw.1
  have hnr := hw.2.1
  have inner : ∀ (e : Mm → Option Mm) (r : Nat) (s : Mm), r < L.nr → frR σ s → MA s (allA L r) → ALL L (allA L r) r 0 → ∃ s', (frR σ s' ∧ MA s' (rowA L (allA L r) r (L.cn r)) ∧ ALL L (rowA L (allA L r) r (L.cn r)) r (L.cn r)) ∧ lX8_arcs_17 r e 400 0 s = e s' := by
    intro e r s hr hf hC hA
    have h3 := hw.2.2.1 r hr
    unfold lX8_arcs_17
    refine it_inv0 (f := fun c => fX8_arcs_17 r e c) (L.cn r) (fun i s => frR σ s ∧ MA s (rowA L (allA L r) r i) ∧ ALL L (rowA L (allA L r) r i) r i) e s (by omega) ⟨hf, hC, hA⟩ (fun c i s hi hI => ?_) (fun c s hI => ?_)
    · obtain ⟨q1, q2, q4⟩ := hI
      have hML := frR_ML q1 h
      have hDG := frR_DG q1 hD
      obtain ⟨-, -, -, -, -, hCn, -⟩ := ML0 hML
      have c1 := hCn r hr
      have hlen := q4.2.2.2
      have m1 : fX8_cornerOf 0 r i s = some (L.co r i : Int) := m_corner1 (o := 0) (by omega) hw hML hr hi
      have m2 : fX8_cornerOf 0 r ((i + 1 : Nat) : Int) s = some (cx L r i : Int) := m_corner2 (o := 0) (by omega) hw hML hr hi
      have l1 := hw.2.2.2.1 r i hr hi
      have l2 := cx_lt hw (i := i) hr
      have m3 := m_isInArc (p := L.co r i) (q := cx L r i) hw hML q2 q4.1 (by omega) (by omega) (by omega)
      have eR : rowA L (allA L r) r (i + 1) = stepA L (rowA L (allA L r) r i) r i := rfl
      rw [eR]
      unfold stepA
      by_cases w : TK L (rowA L (allA L r) r i) (L.co r i) (cx L r i)
      · rw [pI_t w]
        refine ⟨s, ⟨q1, q2, ALL_old q4 w⟩, ?_⟩
        simp (disch := omega) only [fX8_arcs_17, fX8_arcs_60, c1, m1, m2, m3, if_pos, Int.reduceAdd, Int.reduceSub, Int.reduceMul, Int.zero_add, Int.add_zero, Nat.zero_add, na_0, ca_la, ca_al, ca_lm, ca_add, ca_mod, ca_lit, tn_c, Int.natCast_zero, bd_some, bd2_some, bindv_e, chk_ok, cr_ok, crl_ok, chd_ok, chb_0, chb_1, cr_bI, chb_bI, ite_bI0, if_true, if_false]
        rw [pI_t w]
      · rw [pI_f w]
        obtain ⟨a, f, m, cc, n1, n2, n3⟩ := m_arcOf hw hML hDG q2 (by omega) hr hi
        rw [mkArc_e n3]
        refine ⟨_, ⟨frR_t q1 (putA_fr _ _ _ _ _ _), by rw [n2]; exact putA_MA q2, ALL_new hw hr hi q4 n3 w⟩, ?_⟩
        simp (disch := omega) only [fX8_arcs_17, fX8_arcs_60, c1, m1, m2, m3, n1, if_pos, Int.reduceAdd, Int.reduceSub, Int.reduceMul, Int.zero_add, Int.add_zero, Nat.zero_add, na_0, ca_la, ca_al, ca_lm, ca_add, ca_mod, ca_lit, tn_c, Int.natCast_zero, bd_some, bd2_some, bindv_e, chk_ok, cr_ok, crl_ok, chd_ok, chb_0, chb_1, cr_bI, chb_bI, ite_bI0, if_true, if_false]
        rw [pI_f w]
    · obtain ⟨-, -, -, -, -, hCn, -⟩ := ML0 (frR_ML hI.1 h)
      have c1 := hCn r hr
      simp (disch := omega) only [fX8_arcs_17, c1, if_neg, Int.reduceAdd, Int.reduceSub, Int.reduceMul, Int.zero_add, Int.add_zero, Nat.zero_add, na_0, ca_la, ca_al, ca_lm, ca_add, ca_mod, ca_lit, tn_c, Int.natCast_zero, bd_some, bd2_some, bindv_e, chk_ok, cr_ok, crl_ok, chd_ok, chb_0, chb_1, cr_bI, chb_bI, ite_bI0, if_true, if_false]
  have f0 : frR σ (sto σ 0 24 0) := ⟨fun k h1 _ => sto_c h1, fun j hj => sto_i hj⟩
  have hC0 : MA (sto σ 0 24 0) (allA L 0) := ⟨by rw [sto_eq]; rfl, fun x hx => absurd hx (by simp [allA]), fun x hx => absurd hx (by simp [allA]), fun x hx => absurd hx (by simp [allA]), fun x hx => absurd hx (by simp [allA])⟩
  obtain ⟨σ2, ⟨j1, j2, j4⟩, e2⟩ := it_inv0 (f := fun c => fX8_arcs_7 (fun s => fX8_arcs_72 s) c) L.nr (fun r s => frR σ s ∧ MA s (allA L r) ∧ ALL L (allA L r) r 0) (fun s => some s) (sto σ 0 24 0) (by omega) ⟨f0, hC0, ALL_0 L⟩ (fun c r s hr hI => by
    obtain ⟨q1, q2, q4⟩ := hI
    have hN := m_rings (frR_ML q1 h)
    obtain ⟨s', ⟨k1, k2, k4⟩, k5⟩ := inner (fun s => fX8_arcs_66 c r s) r s hr q1 q2 q4
    refine ⟨s', ⟨k1, k2, ALL_row hw hr k4⟩, ?_⟩
    have e1 : fX8_arcs_7 (fun s => fX8_arcs_72 s) c (r : Int) s = fX8_arcs_66 c r s' := by
      rw [← k5]
      simp (disch := omega) only [fX8_arcs_7, hN, if_pos, Int.reduceAdd, Int.reduceSub, Int.reduceMul, Int.zero_add, Int.add_zero, Nat.zero_add, na_0, ca_la, ca_al, ca_lm, ca_add, ca_mod, ca_lit, tn_c, Int.natCast_zero, bd_some, bd2_some, bindv_e, chk_ok, cr_ok, crl_ok, chd_ok, chb_0, chb_1, cr_bI, chb_bI, ite_bI0, if_true, if_false]
    show fX8_arcs_7 (fun s => fX8_arcs_72 s) c (r : Int) s = _
    rw [e1]
    simp (disch := omega) only [fX8_arcs_66, Int.reduceAdd, Int.reduceSub, Int.reduceMul, Int.zero_add, Int.add_zero, Nat.zero_add, na_0, ca_la, ca_al, ca_lm, ca_add, ca_mod, ca_lit, tn_c, Int.natCast_zero, bd_some, bd2_some, bindv_e, chk_ok, cr_ok, crl_ok, chd_ok, chb_0, chb_1, cr_bI, chb_bI, ite_bI0, if_true, if_false]) (fun c s hI => by
    have hN := m_rings (frR_ML hI.1 h)
    simp (disch := omega) only [fX8_arcs_7, fX8_arcs_72, hN, if_neg, Int.reduceAdd, Int.reduceSub, Int.reduceMul, Int.zero_add, Int.add_zero, Nat.zero_add, na_0, ca_la, ca_al, ca_lm, ca_add, ca_mod, ca_lit, tn_c, Int.natCast_zero, bd_some, bd2_some, bindv_e, chk_ok, cr_ok, crl_ok, chd_ok, chb_0, chb_1, cr_bI, chb_bI, ite_bI0, if_true, if_false])
  refine ⟨σ2, ?_, j2, j4, j1⟩
  unfold fX8_arcs
  rw [bindv_e, bindv_e]
  unfold lX8_arcs_7
  exact e2
def frQ (σ σ' : Mm) : Prop := (∀ k, k ≠ 0 → (k < 5 ∨ 13 < k) → σ' k = σ k) ∧ (∀ j, j ≠ 16 → j ≠ 17 → j ≠ 24 → σ' 0 j = σ 0 j)
theorem frQ_t {a b c : Mm} (h : frQ a b) (g : frQ b c) : frQ a c := ⟨fun k h1 h2 => (g.1 k h1 h2).trans (h.1 k h1 h2), fun j h1 h2 h3 => (g.2 j h1 h2 h3).trans (h.2 j h1 h2 h3)⟩
theorem frQ_r (a : Mm) : frQ a a := ⟨fun _ _ _ => rfl, fun _ _ _ _ => rfl⟩
theorem frM_Q {a b : Mm} (h : frM a b) : frQ a b := ⟨h.1, fun j h1 _ h3 => h.2 j h1 h3⟩
theorem frQ_ML {σ σ' : Mm} {L : Ld} {o : Nat} (hf : frQ σ σ') (h : ML σ o L) : ML σ' o L := by
  unfold ML at h ⊢
  rw [hf.1 1 (by omega) (by omega)]
  exact h
/-- what the reference has made -/
def MADE (σ : Mm) (L : Ld) : Prop := (∃ gb sz n, RUN L gb sz n ∧ MP σ L gb sz n) ∧ MA σ (allA L L.nr)
theorem m_makes {σ : Mm} {L : Ld} (hw : WF L) (hF : FAIR L) (h : ML σ 0 L) (hm : σ 0 17 = 0 ∨ (σ 0 17 = 1 ∧ MADE σ L)) : ∃ σ', fX8_makes σ = some σ' ∧ σ' 0 17 = 1 ∧ MADE σ' L ∧ frQ σ σ' := by
  have hnp := hw.1
  rcases hm with h0 | ⟨h1, h2⟩
  · obtain ⟨σ1, ⟨i1, i2, i3, i4, i5⟩, e1⟩ := it_inv0 (f := fun c => fX8_makes_20 (fun s => fX8_makes_70 s) c) 24 (fun n s => frQ σ s ∧ s 0 16 = 0 ∧ s 0 17 = 1 ∧ (∀ p, p < n → s 5 p = 0 ∧ s 6 p = -4) ∧ (∀ p, p < n → p < L.np → s 8 p = dg L p)) (fun s => fX8_makes_70 s) (sto (sto σ 0 17 1) 0 16 0) (by omega) ⟨⟨fun k a _ => by rw [sto_c a, sto_c a], fun j a b _ => by rw [sto_i a, sto_i b]⟩, sto_eq _ _ _ _, by rw [sto_i (by omega), sto_eq], fun p hp => by omega, fun p hp => by omega⟩ (fun c p s hp hI => by
      obtain ⟨q1, q2, q3, q4, q5⟩ := hI
      have hML : ML (sto (sto s 5 p 0) 6 p (-4)) 0 L := by
        have := frQ_ML q1 h
        unfold ML at this ⊢
        rw [sto_c (by omega), sto_c (by omega)]
        exact this
      have hP := m_points hML
      have fin : ∀ v : Int, frQ σ (sto (sto (sto s 5 p 0) 6 p (-4)) 8 p v) ∧ (sto (sto (sto s 5 p 0) 6 p (-4)) 8 p v) 0 16 = 0 ∧ (sto (sto (sto s 5 p 0) 6 p (-4)) 8 p v) 0 17 = 1 ∧ (∀ q, q < p + 1 → (sto (sto (sto s 5 p 0) 6 p (-4)) 8 p v) 5 q = 0 ∧ (sto (sto (sto s 5 p 0) 6 p (-4)) 8 p v) 6 q = -4) := by
        intro v
        refine ⟨frQ_t q1 ⟨fun k a b => by rw [sto_c (by omega), sto_c (by omega), sto_c (by omega)], fun j a b c => by rw [sto_k (by omega), sto_k (by omega), sto_k (by omega)]⟩, by rw [sto_k (by omega), sto_k (by omega), sto_k (by omega)]; exact q2, by rw [sto_k (by omega), sto_k (by omega), sto_k (by omega)]; exact q3, fun q hq => ⟨?_, ?_⟩⟩
        · rw [sto_k (by omega), sto_k (by omega), sto_at]
          split
          · rfl
          · exact (q4 q (by omega)).1
        · rw [sto_k (by omega), sto_at]
          split
          · rfl
          · rw [sto_k (by omega)]; exact (q4 q (by omega)).2
      by_cases w : p < L.np
      · have hdg := m_degreeOf hw hML w
        refine ⟨_, ⟨(fin (dg L p)).1, (fin (dg L p)).2.1, (fin (dg L p)).2.2.1, (fin (dg L p)).2.2.2, fun q hq hq2 => ?_⟩, ?_⟩
        · rw [sto_at]
          by_cases z : q = p
          · rw [if_pos ⟨rfl, z⟩, z]
          · rw [if_neg (by omega), sto_k (by omega), sto_k (by omega)]; exact q5 q (by omega) hq2
        · simp (disch := omega) only [fX8_makes_20, fX8_makes_63, hP, hdg, if_pos, Int.reduceAdd, Int.reduceSub, Int.reduceMul, Int.zero_add, Int.add_zero, Nat.zero_add, na_0, ca_la, ca_al, ca_lm, ca_add, ca_mod, ca_lit, tn_c, Int.natCast_zero, bd_some, bd2_some, bindv_e, chk_ok, cr_ok, crl_ok, chd_ok, chb_0, chb_1, cr_bI, chb_bI, ite_bI0, if_true, if_false]
      · refine ⟨_, ⟨(fin 0).1, (fin 0).2.1, (fin 0).2.2.1, (fin 0).2.2.2, fun q hq hq2 => ?_⟩, ?_⟩
        · rw [sto_i (by omega), sto_k (by omega), sto_k (by omega)]; exact q5 q (by omega) hq2
        · simp (disch := omega) only [fX8_makes_20, fX8_makes_63, hP, if_pos, if_neg, Int.reduceAdd, Int.reduceSub, Int.reduceMul, Int.zero_add, Int.add_zero, Nat.zero_add, na_0, ca_la, ca_al, ca_lm, ca_add, ca_mod, ca_lit, tn_c, Int.natCast_zero, bd_some, bd2_some, bindv_e, chk_ok, cr_ok, crl_ok, chd_ok, chb_0, chb_1, cr_bI, chb_bI, ite_bI0, if_true, if_false]) (fun c s hI => by
      simp (disch := omega) only [fX8_makes_20, if_neg, Int.reduceAdd, Int.reduceSub, Int.reduceMul, Int.zero_add, Int.add_zero, Nat.zero_add, na_0, ca_la, ca_al, ca_lm, ca_add, ca_mod, ca_lit, tn_c, Int.natCast_zero, bd_some, bd2_some, bindv_e, chk_ok, cr_ok, crl_ok, chd_ok, chb_0, chb_1, cr_bI, chb_bI, ite_bI0, if_true, if_false])
    obtain ⟨σ2, gb, sz, n, k1, k2, k3, k4⟩ := m_stages (e := fun s => fX8_makes_139 s) hw hF (frQ_ML i1 h) (fun p hp => i5 p (by omega) hp) i2 (fun p hp => (i4 p hp).1) (fun p hp => (i4 p hp).2)
    have f2 := frQ_t i1 (frM_Q k3)
    obtain ⟨σ3, a1, a2, a3, a4⟩ := m_arcs hw (frQ_ML f2 h) k2.2.2.2.2
    refine ⟨σ3, ?_, ?_, ⟨⟨gb, sz, n, k1, frR_MP a4 k2⟩, a2⟩, frQ_t f2 (frM_Q (frR_M a4))⟩
    · unfold fX8_makes
      rw [h0, cr_ok (by omega), if_pos rfl, bindv_e, bindv_e, bindv_e]
      unfold lX8_makes_20
      rw [e1]
      unfold fX8_makes_70
      rw [k4]
      unfold fX8_makes_139
      rw [a1, bd_some]
    · rw [a4.2 17 (by omega), k3.2 17 (by omega) (by omega)]; exact i3
  · refine ⟨σ, ?_, h1, h2, frQ_r σ⟩
    simp (disch := omega) only [fX8_makes, h1, if_neg, Int.reduceAdd, Int.reduceSub, Int.reduceMul, Int.zero_add, Int.add_zero, Nat.zero_add, na_0, ca_la, ca_al, ca_lm, ca_add, ca_mod, ca_lit, tn_c, Int.natCast_zero, bd_some, bd2_some, bindv_e, chk_ok, cr_ok, crl_ok, chd_ok, chb_0, chb_1, cr_bI, chb_bI, ite_bI0, if_true, if_false]
