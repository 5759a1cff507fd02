/-! the reference: what is fair -/
abbrev cx (L : Ld) (r i : Nat) : Nat := L.co r ((i + 1) % L.cn r)
def isE (L : Ld) (r i p q : Nat) : Prop := (L.co r i = p ∧ cx L r i = q) ∨ (L.co r i = q ∧ cx L r i = p)
noncomputable def us (L : Ld) (p q : Nat) : Int := sm (fun r => sm (fun i => bI (isE L r i p q)) (L.cn r)) L.nr
def AR (L : Ld) (r : Nat) : Int := sm (fun i => L.X (L.co r i) * L.Y (cx L r i) - L.X (cx L r i) * L.Y (L.co r i)) (L.cn r)
def EF (L : Ld) (a b : Nat) : Prop := us L a b ≤ 2 ∧ (∀ p, p < L.np → p ≠ a → p ≠ b → ¬ ON L a b p) ∧ (∀ r i, r < L.nr → i < L.cn r → ¬ (a ≠ L.co r i ∧ a ≠ cx L r i ∧ b ≠ L.co r i ∧ b ≠ cx L r i ∧ XS L a b (L.co r i) (cx L r i)))
def FAIR (L : Ld) : Prop := (∀ p q, p < L.np → q < p → ¬ (L.X p = L.X q ∧ L.Y p = L.Y q)) ∧ (∀ r, r < L.nr → AR L r ≠ 0 ∧ ∀ i, i < L.cn r → EF L (L.co r i) (cx L r i))
theorem cx_lt {L : Ld} (hw : WF L) {r i : Nat} (hr : r < L.nr) : cx L r i < L.np := hw.2.2.2.1 r _ hr (Nat.mod_lt _ (by have := hw.2.2.1 r hr; omega))
theorem m_corner1 {σ : Mm} {L : Ld} {o r i : Nat} (ho : o ≤ 420) (hw : WF L) (h : ML σ o L) (hr : r < L.nr) (hi : i < L.cn r) : fX8_cornerOf (o : Int) r i σ = some (L.co r i : Int) := by
  have h3 := hw.2.2.1 r hr
  have h4 := m_cornerOf ho hw h hr (i := i) (by omega)
  rw [Nat.mod_eq_of_lt hi] at h4
  exact h4
theorem m_corner2 {σ : Mm} {L : Ld} {o r i : Nat} (ho : o ≤ 420) (hw : WF L) (h : ML σ o L) (hr : r < L.nr) (hi : i < L.cn r) : fX8_cornerOf (o : Int) r ((i + 1 : Nat) : Int) σ = some (cx L r i : Int) := by
  have h3 := hw.2.2.1 r hr
  exact m_cornerOf ho hw h hr (i := i + 1) (by omega)
theorem bI_b (P : Prop) : 0 ≤ bI P ∧ bI P ≤ 1 := by rcases bI_01 P with h | h <;> omega
theorem us_b {L : Ld} (hw : WF L) (p q : Nat) : 0 ≤ us L p q ∧ us L p q ≤ 60 := by
  have h1 : ∀ r, r < L.nr → 0 ≤ sm (fun i => bI (isE L r i p q)) (L.cn r) ∧ sm (fun i => bI (isE L r i p q)) (L.cn r) ≤ 10 := by
    intro r hr
    have h3 := hw.2.2.1 r hr
    have h4 := sm_b (t := fun i => bI (isE L r i p q)) (a := 0) (b := 1) (n := L.cn r) (fun j _ => bI_b _)
    omega
  have h2 := sm_b (a := 0) (b := 10) (n := L.nr) h1
  have h5 := hw.2.1
  unfold us
  omega
theorem m_edgesOf_in {σ : Mm} {L : Ld} {o p q : Nat} (ho : o ≤ 420) (hw : WF L) (hM : ML σ o L) (hp : p < 1000) (hq : q < 1000) (e : Int → Option Int) (a : Int) (r : Nat) (hr : r < L.nr) : lX8_edgesOf_24 o p q r σ e 400 a 0 = e (a + sm (fun i => bI (isE L r i p q)) (L.cn r)) := by
  obtain ⟨-, hN, -, -, -, hC, -⟩ := id hM
  have hnp := hw.1
  have hnr := hw.2.1
  have h3 := hw.2.2.1 r hr
  unfold lX8_edgesOf_24
  refine it_sum0 (L.cn r) _ e a (by omega) (fun c a i hi => ?_) (fun c a => ?_)
  · have m1 := m_corner1 ho hw hM hr hi
    have m2 := m_corner2 ho hw hM hr hi
    have c1 := hw.2.2.2.1 r i hr hi
    have c2 := cx_lt hw (i := i) hr
    simp (disch := omega) only [fX8_edgesOf_24, fX8_edgesOf_80, fX8_edgesOf_92, fX8_edgesOf_96, fX8_edgesOf_97, hC, m1, m2, if_pos, Int.reduceAdd, Int.reduceSub, Int.reduceMul, Int.zero_add, Int.add_zero, Nat.zero_add, na_0, ca_la, ca_al, ca_lm, ca_add, ca_mod, ca_lit, tn_c, Int.natCast_zero, bd_some, bd2_some, bindv_e, chk_ok, cr_ok, crl_ok, chd_ok, chb_0, chb_1, cr_bI, chb_bI, ite_bI0]
    unfold isE
    repeat' split
    all_goals first | (rw [bI_t (by omega)]; done) | (rw [bI_f (by omega), Int.add_zero])
  · simp (disch := omega) only [fX8_edgesOf_24, hC, if_neg, Int.reduceAdd, Int.reduceSub, Int.reduceMul, Int.zero_add, Int.add_zero, Nat.zero_add, na_0, ca_la, ca_al, ca_lm, ca_add, ca_mod, ca_lit, tn_c, Int.natCast_zero, bd_some, bd2_some, bindv_e, chk_ok, cr_ok, crl_ok, chd_ok, chb_0, chb_1, cr_bI, chb_bI, ite_bI0]
theorem m_edgesOf {σ : Mm} {L : Ld} {o p q : Nat} (ho : o ≤ 420) (hw : WF L) (h : ML σ o L) (hp : p < 1000) (hq : q < 1000) : fX8_edgesOf (o : Int) p q σ = some (us L p q) := by
  have inner := m_edgesOf_in ho hw h hp hq
  obtain ⟨-, hN, -, -, -, hC, -⟩ := h
  have hnp := hw.1
  have hnr := hw.2.1
  have key := it_sum0 (f := fun c6 => fX8_edgesOf_6 o p q σ (fun v => fX8_edgesOf_112 v σ) c6) L.nr (fun r => sm (fun i => bI (isE L r i p q)) (L.cn r)) (fun v => some v) 0 (by omega) (fun c a r hr => by
    simp (disch := omega) only [fX8_edgesOf_6, fX8_edgesOf_106, hN, inner, if_pos, Int.reduceAdd, Int.reduceSub, Int.reduceMul, Int.zero_add, Int.add_zero, Nat.zero_add, na_0, ca_la, ca_al, ca_lm, ca_add, ca_mod, ca_lit, tn_c, Int.natCast_zero, bd_some, bd2_some, bindv_e, chk_ok, cr_ok, crl_ok, chd_ok, chb_0, chb_1, cr_bI, chb_bI, ite_bI0]) (fun c a => by
    simp (disch := omega) only [fX8_edgesOf_6, fX8_edgesOf_112, hN, if_neg, Int.reduceAdd, Int.reduceSub, Int.reduceMul, Int.zero_add, Int.add_zero, Nat.zero_add, na_0, ca_la, ca_al, ca_lm, ca_add, ca_mod, ca_lit, tn_c, Int.natCast_zero, bd_some, bd2_some, bindv_e, chk_ok, cr_ok, crl_ok, chd_ok, chb_0, chb_1, cr_bI, chb_bI, ite_bI0])
  rw [Int.zero_add] at key
  simp only [fX8_edgesOf, lX8_edgesOf_6, bindv_e]
  exact key
