/-! the reference: what is fair -/
abbrev cx (L : Ld) (r i : Nat) : Nat := L.co r ((i + 1) % L.cn r)
def isE (L : Ld) (r i p q : Nat) : Prop := (L.co r i = p ∧ cx L r i = q) ∨ (L.co r i = q ∧ cx L r i = p)
noncomputable def us (L : Ld) (p q : Nat) : Int := sm (fun r => sm (fun i => bI (isE L r i p q)) (L.cn r)) L.nr
def AR (L : Ld) (r : Nat) : Int := sm (fun i => L.X (L.co r i) * L.Y (cx L r i) - L.X (cx L r i) * L.Y (L.co r i)) (L.cn r)
def EF (L : Ld) (a b : Nat) : Prop := us L a b ≤ 2 ∧ (∀ p, p < L.np → p ≠ a → p ≠ b → ¬ ON L a b p) ∧ (∀ r i, r < L.nr → i < L.cn r → ¬ (a ≠ L.co r i ∧ a ≠ cx L r i ∧ b ≠ L.co r i ∧ b ≠ cx L r i ∧ XS L a b (L.co r i) (cx L r i)))
def FAIR (L : Ld) : Prop := (∀ p q, p < L.np → q < p → ¬ (L.X p = L.X q ∧ L.Y p = L.Y q)) ∧ (∀ r, r < L.nr → AR L r ≠ 0 ∧ ∀ i, i < L.cn r → EF L (L.co r i) (cx L r i))
theorem cx_lt {L : Ld} (hw : WF L) {r i : Nat} (hr : r < L.nr) : cx L r i < L.np := hw.2.2.2.1 r _ hr (Nat.mod_lt _ (by have := hw.2.2.1 r hr; omega))
theorem m_corner1 {σ : Mm} {L : Ld} {o r i : Nat} (ho : o ≤ 420) (hw : WF L) (h : ML σ o L) (hr : r < L.nr) (hi : i < L.cn r) : fX8_cornerOf (o : Int) r i σ = some (L.co r i : Int) := by
  have h3 := hw.2.2.1 r hr
  have h4 := m_cornerOf ho hw h hr (i := i) (by omega)
  rw [Nat.mod_eq_of_lt hi] at h4
  exact h4
theorem m_corner2 {σ : Mm} {L : Ld} {o r i : Nat} (ho : o ≤ 420) (hw : WF L) (h : ML σ o L) (hr : r < L.nr) (hi : i < L.cn r) : fX8_cornerOf (o : Int) r ((i + 1 : Nat) : Int) σ = some (cx L r i : Int) := by
  have h3 := hw.2.2.1 r hr
  exact m_cornerOf ho hw h hr (i := i + 1) (by omega)
theorem bI_b (P : Prop) : 0 ≤ bI P ∧ bI P ≤ 1 := by rcases bI_01 P with h | h <;> omega
theorem us_b {L : Ld} (hw : WF L) (p q : Nat) : 0 ≤ us L p q ∧ us L p q ≤ 60 := by
  have h1 : ∀ r, r < L.nr → 0 ≤ sm (fun i => bI (isE L r i p q)) (L.cn r) ∧ sm (fun i => bI (isE L r i p q)) (L.cn r) ≤ 10 := by
    intro r hr
    have h3 := hw.2.2.1 r hr
    have h4 := sm_b (t := fun i => bI (isE L r i p q)) (a := 0) (b := 1) (n := L.cn r) (fun j _ => bI_b _)
    omega
  have h2 := sm_b (a := 0) (b := 10) (n := L.nr) h1
  have h5 := hw.2.1
  unfold us
  omega
theorem m_edgesOf_in {σ : Mm} {L : Ld} {o p q : Nat} (ho : o ≤ 420) (hw : WF L) (hM : ML σ o L) (hp : p < 1000) (hq : q < 1000) (e : Int → Option Int) (a : Int) (r : Nat) (hr : r < L.nr) : lX8_edgesOf_24 o p q r σ e 400 a 0 = e (a + sm (fun i => bI (isE L r i p q)) (L.cn r)) := by
  obtain ⟨-, hN, -, -, -, hC, -⟩ := id hM
  have hnp := hw.1
  have hnr := hw.2.1
  have h3 := hw.2.2.1 r hr
  unfold lX8_edgesOf_24
  refine it_sum0 (L.cn r) _ e a (by omega) (fun c a i hi => ?_) (fun c a => ?_)
  · have m1 := m_corner1 ho hw hM hr hi
    have m2 := m_corner2 ho hw hM hr hi
    have c1 := hw.2.2.2.1 r i hr hi
    have c2 := cx_lt hw (i := i) hr
    simp (disch := omega) only [fX8_edgesOf_24, fX8_edgesOf_80, fX8_edgesOf_92, fX8_edgesOf_96, fX8_edgesOf_97, hC, m1, m2, if_pos, Int.reduceAdd, Int.reduceSub, Int.reduceMul, Int.zero_add, Int.add_zero, Nat.zero_add, na_0, ca_la, ca_al, ca_lm, ca_add, ca_mod, ca_lit, tn_c, Int.natCast_zero, bd_some, bd2_some, bindv_e, chk_ok, cr_ok, crl_ok, chd_ok, chb_0, chb_1, cr_bI, chb_bI, ite_bI0, if_true, if_false]
    unfold isE
    repeat' split
    all_goals first | (rw [bI_t (by omega)]; done) | (rw [bI_f (by omega), Int.add_zero])
  · simp (disch := omega) only [fX8_edgesOf_24, hC, if_neg, Int.reduceAdd, Int.reduceSub, Int.reduceMul, Int.zero_add, Int.add_zero, Nat.zero_add, na_0, ca_la, ca_al, ca_lm, ca_add, ca_mod, ca_lit, tn_c, Int.natCast_zero, bd_some, bd2_some, bindv_e, chk_ok, cr_ok, crl_ok, chd_ok, chb_0, chb_1, cr_bI, chb_bI, ite_bI0, if_true, if_false]
theorem m_edgesOf {σ : Mm} {L : Ld} {o p q : Nat} (ho : o ≤ 420) (hw : WF L) (h : ML σ o L) (hp : p < 1000) (hq : q < 1000) : fX8_edgesOf (o : Int) p q σ = some (us L p q) := by
  have inner := m_edgesOf_in ho hw h hp hq
  obtain ⟨-, hN, -, -, -, hC, -⟩ := h
  have hnp := hw.1
  have hnr := hw.2.1
  have key := it_sum0 (f := fun c6 => fX8_edgesOf_6 o p q σ (fun v => fX8_edgesOf_112 v σ) c6) L.nr (fun r => sm (fun i => bI (isE L r i p q)) (L.cn r)) (fun v => some v) 0 (by omega) (fun c a r hr => by
    simp (disch := omega) only [fX8_edgesOf_6, fX8_edgesOf_106, hN, inner, if_pos, Int.reduceAdd, Int.reduceSub, Int.reduceMul, Int.zero_add, Int.add_zero, Nat.zero_add, na_0, ca_la, ca_al, ca_lm, ca_add, ca_mod, ca_lit, tn_c, Int.natCast_zero, bd_some, bd2_some, bindv_e, chk_ok, cr_ok, crl_ok, chd_ok, chb_0, chb_1, cr_bI, chb_bI, ite_bI0, if_true, if_false]) (fun c a => by
    simp (disch := omega) only [fX8_edgesOf_6, fX8_edgesOf_112, hN, if_neg, Int.reduceAdd, Int.reduceSub, Int.reduceMul, Int.zero_add, Int.add_zero, Nat.zero_add, na_0, ca_la, ca_al, ca_lm, ca_add, ca_mod, ca_lit, tn_c, Int.natCast_zero, bd_some, bd2_some, bindv_e, chk_ok, cr_ok, crl_ok, chd_ok, chb_0, chb_1, cr_bI, chb_bI, ite_bI0, if_true, if_false])
  rw [Int.zero_add] at key
  simp only [fX8_edgesOf, lX8_edgesOf_6, bindv_e]
  exact key
theorem AR_b {L : Ld} (hw : WF L) {r : Nat} (hr : r < L.nr) : -800000 ≤ AR L r ∧ AR L r ≤ 800000 := by
  have h3 := hw.2.2.1 r hr
  have h4 := sm_b (t := fun i => L.X (L.co r i) * L.Y (cx L r i) - L.X (cx L r i) * L.Y (L.co r i)) (a := -79202) (b := 79202) (n := L.cn r) (fun i hi => by
    have c1 := hw.2.2.2.1 r i hr hi
    have c2 := cx_lt hw (i := i) hr
    have x1 := hw.2.2.2.2.2.1 _ c1
    have x2 := hw.2.2.2.2.2.1 _ c2
    have y1 := hw.2.2.2.2.2.2.1 _ c1
    have y2 := hw.2.2.2.2.2.2.1 _ c2
    have e1 := mul_b (a := L.X (L.co r i)) (b := L.Y (cx L r i)) (by omega) (by omega)
    have e2 := mul_b (a := L.X (cx L r i)) (b := L.Y (L.co r i)) (by omega) (by omega)
    omega)
  unfold AR
  omega
theorem m_areaOf {σ : Mm} {L : Ld} {o r : Nat} (ho : o ≤ 420) (hw : WF L) (hM : ML σ o L) (hr : r < L.nr) : fX8_areaOf (o : Int) r σ = some (AR L r) := by
  obtain ⟨-, hN, hX, hY, -, hC, -⟩ := id hM
  have hnp := hw.1
  have hnr := hw.2.1
  have h3 := hw.2.2.1 r hr
  have key := it_sum0 (f := fun c5 => fX8_areaOf_5 o r σ (fun v => fX8_areaOf_98 v σ) c5) (L.cn r) (fun i => L.X (L.co r i) * L.Y (cx L r i) - L.X (cx L r i) * L.Y (L.co r i)) (fun v => some v) 0 (by omega) (fun c a i hi => by
    have m1 := m_corner1 ho hw hM hr hi
    have m2 := m_corner2 ho hw hM hr hi
    have c1 := hw.2.2.2.1 r i hr hi
    have c2 := cx_lt hw (i := i) hr
    simp (disch := omega) only [fX8_areaOf_5, hC, hX, hY, m1, m2, if_pos, Int.reduceAdd, Int.reduceSub, Int.reduceMul, Int.zero_add, Int.add_zero, Nat.zero_add, na_0, ca_la, ca_al, ca_lm, ca_add, ca_mod, ca_lit, tn_c, Int.natCast_zero, bd_some, bd2_some, bindv_e, chk_ok, cr_ok, crl_ok, chd_ok, chb_0, chb_1, cr_bI, chb_bI, ite_bI0, if_true, if_false]) (fun c a => by
    simp (disch := omega) only [fX8_areaOf_5, fX8_areaOf_98, hC, if_neg, Int.reduceAdd, Int.reduceSub, Int.reduceMul, Int.zero_add, Int.add_zero, Nat.zero_add, na_0, ca_la, ca_al, ca_lm, ca_add, ca_mod, ca_lit, tn_c, Int.natCast_zero, bd_some, bd2_some, bindv_e, chk_ok, cr_ok, crl_ok, chd_ok, chb_0, chb_1, cr_bI, chb_bI, ite_bI0, if_true, if_false])
  rw [Int.zero_add] at key
  simp only [fX8_areaOf, lX8_areaOf_5, bindv_e]
  exact key
def CRS (L : Ld) (a b r i : Nat) : Prop := a ≠ L.co r i ∧ a ≠ cx L r i ∧ b ≠ L.co r i ∧ b ≠ cx L r i ∧ XS L a b (L.co r i) (cx L r i)
theorem m_isEdgeFair {σ : Mm} {L : Ld} {o a b : Nat} (ho : o ≤ 420) (hw : WF L) (hM : ML σ o L) (ha : a < L.np) (hb : b < L.np) : fX8_isEdgeFair (o : Int) a b σ = some (bI (EF L a b)) := by
  obtain ⟨hP, hN, -, -, -, hC, -⟩ := id hM
  have hnp := hw.1
  have hnr := hw.2.1
  have hu := us_b hw a b
  have me := m_edgesOf (p := a) (q := b) ho hw hM (by omega) (by omega)
  have k84 : ∀ (e : Option Int) (r : Nat), r < L.nr → lX8_isEdgeFair_84 o a b r σ e 400 0 = pI (∃ i, i < L.cn r ∧ CRS L a b r i) (some 0) e := by
    intro e r hr
    have h3 := hw.2.2.1 r hr
    simp only [lX8_isEdgeFair_84]
    refine it_ex0 (L.cn r) (fun i => CRS L a b r i) (some 0) e (by omega) (fun c i hi => ?_) (fun c => ?_)
    · have m1 := m_corner1 ho hw hM hr hi
      have m2 := m_corner2 ho hw hM hr hi
      have c1 := hw.2.2.2.1 r i hr hi
      have c2 := cx_lt hw (i := i) hr
      have m3 := m_isCrossing ho hw hM ha hb c1 c2
      simp (disch := omega) only [fX8_isEdgeFair_84, hC, m1, m2, m3, if_pos, Int.reduceAdd, Int.reduceSub, Int.reduceMul, Int.zero_add, Int.add_zero, Nat.zero_add, na_0, ca_la, ca_al, ca_lm, ca_add, ca_mod, ca_lit, tn_c, Int.natCast_zero, bd_some, bd2_some, bindv_e, chk_ok, cr_ok, crl_ok, chd_ok, chb_0, chb_1, cr_bI, chb_bI, ite_bI0, if_true, if_false]
      rfl
    · simp (disch := omega) only [fX8_isEdgeFair_84, hC, if_neg, Int.reduceAdd, Int.reduceSub, Int.reduceMul, Int.zero_add, Int.add_zero, Nat.zero_add, na_0, ca_la, ca_al, ca_lm, ca_add, ca_mod, ca_lit, tn_c, Int.natCast_zero, bd_some, bd2_some, bindv_e, chk_ok, cr_ok, crl_ok, chd_ok, chb_0, chb_1, cr_bI, chb_bI, ite_bI0, if_true, if_false]
  have k66 := it_ex0 (f := fun c => fX8_isEdgeFair_66 o a b σ (fX8_isEdgeFair_146 σ) c) L.nr (fun r => ∃ i, i < L.cn r ∧ CRS L a b r i) (some 0) (some 1) (by omega) (fun c r hr => by
    simp (disch := omega) only [fX8_isEdgeFair_66, fX8_isEdgeFair_140, hN, k84, if_pos, Int.reduceAdd, Int.reduceSub, Int.reduceMul, Int.zero_add, Int.add_zero, Nat.zero_add, na_0, ca_la, ca_al, ca_lm, ca_add, ca_mod, ca_lit, tn_c, Int.natCast_zero, bd_some, bd2_some, bindv_e, chk_ok, cr_ok, crl_ok, chd_ok, chb_0, chb_1, cr_bI, chb_bI, ite_bI0, if_true, if_false]) (fun c => by
    simp (disch := omega) only [fX8_isEdgeFair_66, fX8_isEdgeFair_146, hN, if_neg, Int.reduceAdd, Int.reduceSub, Int.reduceMul, Int.zero_add, Int.add_zero, Nat.zero_add, na_0, ca_la, ca_al, ca_lm, ca_add, ca_mod, ca_lit, tn_c, Int.natCast_zero, bd_some, bd2_some, bindv_e, chk_ok, cr_ok, crl_ok, chd_ok, chb_0, chb_1, cr_bI, chb_bI, ite_bI0, if_true, if_false])
  have k16 := it_ex0 (f := fun c => fX8_isEdgeFair_16 o a b σ (fX8_isEdgeFair_63 o a b σ) c) L.np (fun p => p ≠ a ∧ p ≠ b ∧ ON L a b p) (some 0) (fX8_isEdgeFair_63 o a b σ) (by omega) (fun c p hp => by
    have m3 := m_isOn ho hw hM ha hb hp
    simp (disch := omega) only [fX8_isEdgeFair_16, fX8_isEdgeFair_57, hP, m3, if_pos, Int.reduceAdd, Int.reduceSub, Int.reduceMul, Int.zero_add, Int.add_zero, Nat.zero_add, na_0, ca_la, ca_al, ca_lm, ca_add, ca_mod, ca_lit, tn_c, Int.natCast_zero, bd_some, bd2_some, bindv_e, chk_ok, cr_ok, crl_ok, chd_ok, chb_0, chb_1, cr_bI, chb_bI, ite_bI0, if_true, if_false]
    by_cases h1 : p = a
    · rw [if_pos (by omega), pI_f (fun z => z.1 h1)]
    rw [if_neg (by omega)]
    by_cases h2 : p = b
    · rw [if_pos (by omega), pI_f (fun z => z.2.1 h2)]
    rw [if_neg (by omega)]
    exact pI_c ⟨fun z => ⟨h1, h2, z⟩, fun z => z.2.2⟩) (fun c => by
    simp (disch := omega) only [fX8_isEdgeFair_16, hP, if_neg, Int.reduceAdd, Int.reduceSub, Int.reduceMul, Int.zero_add, Int.add_zero, Nat.zero_add, na_0, ca_la, ca_al, ca_lm, ca_add, ca_mod, ca_lit, tn_c, Int.natCast_zero, bd_some, bd2_some, bindv_e, chk_ok, cr_ok, crl_ok, chd_ok, chb_0, chb_1, cr_bI, chb_bI, ite_bI0, if_true, if_false])
  simp only [fX8_isEdgeFair, lX8_isEdgeFair_16, me, bindv_e, bd_some]
  rw [cr_ok (by omega), k16]
  simp only [fX8_isEdgeFair_63, lX8_isEdgeFair_66, bindv_e]
  rw [k66]
  unfold EF
  by_cases h1 : 2 < us L a b
  · rw [if_pos h1, bI_f (fun z => by have := z.1; omega)]
  rw [if_neg h1]
  by_cases h2 : ∃ j, j < L.np ∧ j ≠ a ∧ j ≠ b ∧ ON L a b j
  · rw [pI_t h2, bI_f]
    rintro ⟨-, z, -⟩
    obtain ⟨j, q1, q2, q3, q4⟩ := h2
    exact z j q1 q2 q3 q4
  rw [pI_f h2]
  by_cases h3 : ∃ j, j < L.nr ∧ ∃ i, i < L.cn j ∧ CRS L a b j i
  · rw [pI_t h3, bI_f]
    rintro ⟨-, -, z⟩
    obtain ⟨j, q1, i, q2, q3⟩ := h3
    exact z j i q1 q2 q3
  rw [pI_f h3, bI_t]
  exact ⟨by omega, fun p q1 q2 q3 q4 => h2 ⟨p, q1, q2, q3, q4⟩, fun r i q1 q2 q3 => h3 ⟨r, q1, i, q2, q3⟩⟩
theorem m_isFair {σ : Mm} {L : Ld} {o : Nat} (ho : o ≤ 420) (hw : WF L) (hM : ML σ o L) : fX8_isFair (o : Int) σ = some (bI (FAIR L)) := by
  obtain ⟨hP, hN, hX, hY, -, hC, -⟩ := id hM
  have hnp := hw.1
  have hnr := hw.2.1
  have k18 : ∀ (e : Option Int) (p : Nat), p < L.np → lX8_isFair_18 o p σ e 400 0 = pI (∃ q, q < p ∧ L.X p = L.X q ∧ L.Y p = L.Y q) (some 0) e := by
    intro e p hp
    simp only [lX8_isFair_18]
    refine it_ex0 p (fun q => L.X p = L.X q ∧ L.Y p = L.Y q) (some 0) e (by omega) (fun c q hq => ?_) (fun c => ?_)
    · have x1 := hw.2.2.2.2.2.1 p hp
      have x2 := hw.2.2.2.2.2.1 q (by omega)
      have y1 := hw.2.2.2.2.2.2.1 p hp
      have y2 := hw.2.2.2.2.2.2.1 q (by omega)
      simp (disch := omega) only [fX8_isFair_18, fX8_isFair_69, hX, hY, if_pos, pI_ite, pI_t, pI_and, Int.reduceAdd, Int.reduceSub, Int.reduceMul, Int.zero_add, Int.add_zero, Nat.zero_add, na_0, ca_la, ca_al, ca_lm, ca_add, ca_mod, ca_lit, tn_c, Int.natCast_zero, bd_some, bd2_some, bindv_e, chk_ok, cr_ok, crl_ok, chd_ok, chb_0, chb_1, cr_bI, chb_bI, ite_bI0, if_true, if_false]
    · simp (disch := omega) only [fX8_isFair_18, if_neg, Int.reduceAdd, Int.reduceSub, Int.reduceMul, Int.zero_add, Int.add_zero, Nat.zero_add, na_0, ca_la, ca_al, ca_lm, ca_add, ca_mod, ca_lit, tn_c, Int.natCast_zero, bd_some, bd2_some, bindv_e, chk_ok, cr_ok, crl_ok, chd_ok, chb_0, chb_1, cr_bI, chb_bI, ite_bI0, if_true, if_false]
  have k2 := it_ex0 (f := fun c => fX8_isFair_2 o σ (fX8_isFair_81 o σ) c) L.np (fun p => ∃ q, q < p ∧ L.X p = L.X q ∧ L.Y p = L.Y q) (some 0) (fX8_isFair_81 o σ) (by omega) (fun c p hp => by
    simp (disch := omega) only [fX8_isFair_2, fX8_isFair_75, hP, k18, if_pos, Int.reduceAdd, Int.reduceSub, Int.reduceMul, Int.zero_add, Int.add_zero, Nat.zero_add, na_0, ca_la, ca_al, ca_lm, ca_add, ca_mod, ca_lit, tn_c, Int.natCast_zero, bd_some, bd2_some, bindv_e, chk_ok, cr_ok, crl_ok, chd_ok, chb_0, chb_1, cr_bI, chb_bI, ite_bI0, if_true, if_false]) (fun c => by
    simp (disch := omega) only [fX8_isFair_2, hP, if_neg, Int.reduceAdd, Int.reduceSub, Int.reduceMul, Int.zero_add, Int.add_zero, Nat.zero_add, na_0, ca_la, ca_al, ca_lm, ca_add, ca_mod, ca_lit, tn_c, Int.natCast_zero, bd_some, bd2_some, bindv_e, chk_ok, cr_ok, crl_ok, chd_ok, chb_0, chb_1, cr_bI, chb_bI, ite_bI0, if_true, if_false])
  have k115 : ∀ (e : Int → Option Int) (r : Nat) (R : Prop), r < L.nr → lX8_isFair_115 o r σ e 400 (bI R) 0 = e (bI (R ∧ ∀ i, i < L.cn r → EF L (L.co r i) (cx L r i))) := by
    intro e r R hr
    have h3 := hw.2.2.1 r hr
    simp only [lX8_isFair_115]
    have z := it_flag (f := fun c => fX8_isFair_115 o r σ e c) (L.cn r) (fun i => EF L (L.co r i) (cx L r i)) e (fun c i hi => by
      simp (disch := omega) only [fX8_isFair_115, hC, if_pos, Int.reduceAdd, Int.reduceSub, Int.reduceMul, Int.zero_add, Int.add_zero, Nat.zero_add, na_0, ca_la, ca_al, ca_lm, ca_add, ca_mod, ca_lit, tn_c, Int.natCast_zero, bd_some, bd2_some, bindv_e, chk_ok, cr_ok, crl_ok, chd_ok, chb_0, chb_1, cr_bI, chb_bI, ite_bI0, if_true, if_false]) (fun c i hi => by
      have m1 := m_corner1 ho hw hM hr hi
      have m2 := m_corner2 ho hw hM hr hi
      have c1 := hw.2.2.2.1 r i hr hi
      have c2 := cx_lt hw (i := i) hr
      have m3 := m_isEdgeFair ho hw hM c1 c2
      simp (disch := omega) only [fX8_isFair_115, hC, m1, m2, m3, if_pos, if_neg, Int.reduceAdd, Int.reduceSub, Int.reduceMul, Int.zero_add, Int.add_zero, Nat.zero_add, na_0, ca_la, ca_al, ca_lm, ca_add, ca_mod, ca_lit, tn_c, Int.natCast_zero, bd_some, bd2_some, bindv_e, chk_ok, cr_ok, crl_ok, chd_ok, chb_0, chb_1, cr_bI, chb_bI, ite_bI0, if_true, if_false]) (fun c v hv => by
      simp (disch := omega) only [fX8_isFair_115, hC, if_neg, Int.reduceAdd, Int.reduceSub, Int.reduceMul, Int.zero_add, Int.add_zero, Nat.zero_add, na_0, ca_la, ca_al, ca_lm, ca_add, ca_mod, ca_lit, tn_c, Int.natCast_zero, bd_some, bd2_some, bindv_e, chk_ok, cr_ok, crl_ok, chd_ok, chb_0, chb_1, cr_bI, chb_bI, ite_bI0, if_true, if_false]) 400 0 R (Nat.zero_le _) (by omega)
    rw [show ((0 : Nat) : Int) = 0 from rfl] at z
    rw [z, bI_c]
    constructor
    · rintro ⟨a, b⟩; exact ⟨a, fun i hi => b i (Nat.zero_le i) hi⟩
    · rintro ⟨a, b⟩; exact ⟨a, fun i _ hi => b i hi⟩
  have k83 := it_ex0 (f := fun c => fX8_isFair_83 o σ (fX8_isFair_178 σ) c) L.nr (fun r => ¬ (AR L r ≠ 0 ∧ ∀ i, i < L.cn r → EF L (L.co r i) (cx L r i))) (some 0) (some 1) (by omega) (fun c r hr => by
    have m4 := m_areaOf ho hw hM hr
    have a4 := AR_b hw hr
    have t1 := k115 (fun v => fX8_isFair_166 c o r v σ) r (AR L r ≠ 0) hr
    have e : fX8_isFair_83 (o : Int) σ (fX8_isFair_178 σ) c r = fX8_isFair_111 c o r (bI (AR L r ≠ 0)) σ := by
      simp (disch := omega) only [fX8_isFair_83, hN, m4, if_pos, Int.reduceAdd, Int.reduceSub, Int.reduceMul, Int.zero_add, Int.add_zero, Nat.zero_add, na_0, ca_la, ca_al, ca_lm, ca_add, ca_mod, ca_lit, tn_c, Int.natCast_zero, bd_some, bd2_some, bindv_e, chk_ok, cr_ok, crl_ok, chd_ok, chb_0, chb_1, cr_bI, chb_bI, ite_bI0, if_true, if_false]
      by_cases h0 : AR L r = 0
      · rw [if_pos h0, bI_f (fun z => z h0)]
      · rw [if_neg h0, bI_t h0]
    show fX8_isFair_83 (o : Int) σ (fX8_isFair_178 σ) c r = _
    rw [e]
    simp only [fX8_isFair_111, bindv_e]
    rw [t1]
    simp (disch := omega) only [fX8_isFair_166, Int.reduceAdd, Int.reduceSub, Int.reduceMul, Int.zero_add, Int.add_zero, Nat.zero_add, na_0, ca_la, ca_al, ca_lm, ca_add, ca_mod, ca_lit, tn_c, Int.natCast_zero, bd_some, bd2_some, bindv_e, chk_ok, cr_ok, crl_ok, chd_ok, chb_0, chb_1, cr_bI, chb_bI, ite_bI0, if_true, if_false]
    rw [pI_n]) (fun c => by
    simp (disch := omega) only [fX8_isFair_83, fX8_isFair_178, hN, if_neg, Int.reduceAdd, Int.reduceSub, Int.reduceMul, Int.zero_add, Int.add_zero, Nat.zero_add, na_0, ca_la, ca_al, ca_lm, ca_add, ca_mod, ca_lit, tn_c, Int.natCast_zero, bd_some, bd2_some, bindv_e, chk_ok, cr_ok, crl_ok, chd_ok, chb_0, chb_1, cr_bI, chb_bI, ite_bI0, if_true, if_false])
  simp only [fX8_isFair, lX8_isFair_2, bindv_e]
  rw [k2]
  simp only [fX8_isFair_81, lX8_isFair_83, bindv_e]
  rw [k83]
  unfold FAIR
  by_cases h2 : ∃ p, p < L.np ∧ ∃ q, q < p ∧ L.X p = L.X q ∧ L.Y p = L.Y q
  · rw [pI_t h2, bI_f]
    rintro ⟨z, -⟩
    obtain ⟨p, q1, q, q2, q3⟩ := h2
    exact z p q q1 q2 q3
  rw [pI_f h2]
  by_cases h3 : ∃ r, r < L.nr ∧ ¬ (AR L r ≠ 0 ∧ ∀ i, i < L.cn r → EF L (L.co r i) (cx L r i))
  · rw [pI_t h3, bI_f]
    rintro ⟨-, z⟩
    obtain ⟨r, q1, q2⟩ := h3
    exact q2 (z r q1)
  rw [pI_f h3, bI_t]
  exact ⟨fun p q q1 q2 q3 => h2 ⟨p, q1, q, q2, q3⟩, fun r q1 => Classical.byContradiction fun q2 => h3 ⟨r, q1, q2⟩⟩
