/-! point, shake, read -/
theorem nd_in {L : Ld} {as : List Ac} {p : Nat} (hw : WF L) (hA : ALL L as L.nr 0) (hn : ¬ ND L p) : ∃ x, x < as.length ∧ inA L (ag as x) p := by
  have hd : dg L p = 2 := by
    by_cases z : dg L p = 2
    · exact z
    · exact absurd (Or.inr z) hn
  have hp : 0 < dg L p := by omega
  unfold dg dgU at hp
  obtain ⟨q, hq, hq2⟩ := (sm_pos (fun j _ => (bI_b _).1)).mp hp
  have hq3 : q ≠ p ∧ 0 < us L p q := by
    by_cases z : q ≠ p ∧ 0 < us L p q
    · exact z
    · rw [bI_f z] at hq2; omega
  obtain ⟨r, i, hr, hi, he⟩ := us_pos.mp hq3.2
  obtain ⟨a, ha, ht⟩ := hA.2.2.1 r i hr hi (Or.inl hr)
  obtain ⟨r', i', hr', hi', hARC⟩ := hA.1 a ha
  obtain ⟨t1, t2⟩ := tka_pt hw hr' hi' hARC ht
  obtain ⟨x, hx, hxa⟩ := mem_ag ha
  refine ⟨x, hx, ?_⟩
  rw [hxa]
  rcases he with ⟨h1, -⟩ | ⟨-, h1⟩
  · rw [← h1]; exact t1
  · rw [← h1]; exact t2
theorem m_arcOfPoint {τ : Mm} {L : Ld} {as : List Ac} {p : Nat} (hw : WF L) (h : ML τ 0 L) (hD : DG τ L) (hM : MA τ as) (hA : AOK L as) (hl : as.length ≤ 60) (hp : p < L.np) : (ND L p → fX8_arcOfPoint p τ = some (-4)) ∧ (¬ ND L p → (∃ x, x < as.length ∧ inA L (ag as x) p) → ∃ x, x < as.length ∧ inA L (ag as x) p ∧ fX8_arcOfPoint p τ = some (x : Int)) := by
  have hnp := hw.1
  have a1 := hM.1
  have d1 := m_isNode hw h hD hp
  constructor
  · intro z
    rw [bI_t z] at d1
    unfold fX8_arcOfPoint
    rw [bindv_e]
    unfold lX8_arcOfPoint_2
    rw [show (400 : Nat) = 399 + 1 from rfl, itN_s]
    by_cases q : 0 < as.length
    · simp (disch := omega) only [fX8_arcOfPoint_2, fX8_arcOfPoint_54, a1, d1, if_pos, if_neg, Int.reduceAdd, Int.reduceSub, Int.reduceMul, Int.zero_add, Int.add_zero, Nat.zero_add, na_0, ca_la, ca_al, ca_lm, ca_add, ca_mod, ca_lit, tn_c, Int.natCast_zero, bd_some, bd2_some, bindv_e, chk_ok, cr_ok, crl_ok, chd_ok, chb_0, chb_1, cr_bI, chb_bI, ite_bI0, if_true, if_false]
    · simp (disch := omega) only [fX8_arcOfPoint_2, fX8_arcOfPoint_54, a1, d1, if_pos, if_neg, Int.reduceAdd, Int.reduceSub, Int.reduceMul, Int.zero_add, Int.add_zero, Nat.zero_add, na_0, ca_la, ca_al, ca_lm, ca_add, ca_mod, ca_lit, tn_c, Int.natCast_zero, bd_some, bd2_some, bindv_e, chk_ok, cr_ok, crl_ok, chd_ok, chb_0, chb_1, cr_bI, chb_bI, ite_bI0, if_true, if_false]
  · intro z hx
    rw [bI_f z] at d1
    have inner : ∀ (x : Nat) (e : Option Int), x < as.length → lX8_arcOfPoint_20 p x τ e 400 0 = pI (inA L (ag as x) p) (some (x : Int)) e := fun x e hx => by
      have t12 := hM.2.2.2.1 x hx
      obtain ⟨f1, f2, f3, -⟩ := arc_f hw hA hx
      unfold lX8_arcOfPoint_20
      exact it_ex0 (f := fun c => fX8_arcOfPoint_20 p x τ e c) (ag as x).2.2.1 (fun j => pt L (ag as x) j = p) (some (x : Int)) e (by omega) (fun c j hj => by
        have d2 := m_arcPoint (j := j) hw h hM hA hl hx (by omega)
        have d3 := f3 j
        simp (disch := omega) only [fX8_arcOfPoint_20, t12, d2, if_pos, Int.reduceAdd, Int.reduceSub, Int.reduceMul, Int.zero_add, Int.add_zero, Nat.zero_add, na_0, ca_la, ca_al, ca_lm, ca_add, ca_mod, ca_lit, tn_c, Int.natCast_zero, bd_some, bd2_some, bindv_e, chk_ok, cr_ok, crl_ok, chd_ok, chb_0, chb_1, cr_bI, chb_bI, ite_bI0, if_true, if_false]
        by_cases q : pt L (ag as x) j = p
        · rw [if_pos (by omega), pI_t q]
        · rw [if_neg (by omega), pI_f q]) (fun c => by
        simp (disch := omega) only [fX8_arcOfPoint_20, t12, if_neg, Int.reduceAdd, Int.reduceSub, Int.reduceMul, Int.zero_add, Int.add_zero, Nat.zero_add, na_0, ca_la, ca_al, ca_lm, ca_add, ca_mod, ca_lit, tn_c, Int.natCast_zero, bd_some, bd2_some, bindv_e, chk_ok, cr_ok, crl_ok, chd_ok, chb_0, chb_1, cr_bI, chb_bI, ite_bI0, if_true, if_false])
    have key := it_first (f := fun c => fX8_arcOfPoint_2 p τ (fX8_arcOfPoint_54 τ) c) as.length (fun x => inA L (ag as x) p) (fun x => some (x : Int)) (some (-4)) (fun c x hx => by
      have k2 := inner x (c ((x + 1 : Nat) : Int)) hx
      simp (disch := omega) only [fX8_arcOfPoint_2, a1, d1, k2, fX8_arcOfPoint_48, if_pos, if_neg, Int.reduceAdd, Int.reduceSub, Int.reduceMul, Int.zero_add, Int.add_zero, Nat.zero_add, na_0, ca_la, ca_al, ca_lm, ca_add, ca_mod, ca_lit, tn_c, Int.natCast_zero, bd_some, bd2_some, bindv_e, chk_ok, cr_ok, crl_ok, chd_ok, chb_0, chb_1, cr_bI, chb_bI, ite_bI0, if_true, if_false]) (fun c => by
      simp (disch := omega) only [fX8_arcOfPoint_2, fX8_arcOfPoint_54, a1, if_neg, Int.reduceAdd, Int.reduceSub, Int.reduceMul, Int.zero_add, Int.add_zero, Nat.zero_add, na_0, ca_la, ca_al, ca_lm, ca_add, ca_mod, ca_lit, tn_c, Int.natCast_zero, bd_some, bd2_some, bindv_e, chk_ok, cr_ok, crl_ok, chd_ok, chb_0, chb_1, cr_bI, chb_bI, ite_bI0, if_true, if_false]) 400 0 (by omega) (by omega)
    rcases key with ⟨x, -, h2, h3, -, h5⟩ | ⟨h1, -⟩
    · refine ⟨x, h2, h3, ?_⟩
      unfold fX8_arcOfPoint
      rw [bindv_e]
      unfold lX8_arcOfPoint_2
      exact h5
    · obtain ⟨x, h2, h3⟩ := hx
      exact absurd h3 (h1 x (by omega) h2)
theorem k_point {σ τ : Mm} {v u : Int} (h : Inv σ τ) (hv : inR v) (hu : inR u) : CR σ (fX7_point v u σ) (fX8_point v u τ) := by
  obtain ⟨L, hI⟩ := h
  have hW := hI.1.1
  have hn := hW.1
  obtain ⟨cN, -, cX, cY, cP, -⟩ := CL95 hI.1.2.2.1
  have e1 := c_isBelow σ (v := v) (n := (L.np : Int)) hv (by omega)
  have e2 := m_isPoint hW hI.2.2.1 hv
  by_cases w1 : 0 ≤ v ∧ v < (L.np : Int)
  · obtain ⟨p, rfl, hp⟩ := cut0 w1
    rw [bI_t w1] at e1 e2
    obtain ⟨τ', gb, sz, n, m1, hI', m3⟩ := inv_makes hI
    obtain ⟨l1, l2⟩ := VW_le hW m3
    obtain ⟨-, -, mX, mY, mP, -⟩ := ML0 hI'.2.2.1
    have x1 := cX p hp
    have x2 := mX p hp
    have y1 := cY p hp
    have y2 := mY p hp
    have p1 := cP p hp
    have p2 := mP p hp
    have p3 := hW.2.2.2.2.2.2.2 p hp
    have n1 := c_isNode hW hI.1.2.2.1 hI.1.2.2.2.1 hp
    have n2 := m_isNode hW hI'.2.2.1 m3.2.2.1.2.2.2.2 hp
    by_cases u0 : u = 0
    · subst u0
      refine ⟨L.X p, τ', ?_, ?_, L, hI'⟩
      · simp (disch := omega) only [fX7_point, cN, e1, x1, if_pos, if_neg, Int.reduceAdd, Int.reduceSub, Int.reduceMul, Int.zero_add, Int.add_zero, Nat.zero_add, na_0, ca_la, ca_al, ca_lm, ca_add, ca_mod, ca_lit, tn_c, Int.natCast_zero, bd_some, bd2_some, bindv_e, chk_ok, cr_ok, crl_ok, chd_ok, chb_0, chb_1, cr_bI, chb_bI, ite_bI0, if_true, if_false]
      · simp (disch := omega) only [fX8_point, e2, m1, x2, if_pos, if_neg, Int.reduceAdd, Int.reduceSub, Int.reduceMul, Int.zero_add, Int.add_zero, Nat.zero_add, na_0, ca_la, ca_al, ca_lm, ca_add, ca_mod, ca_lit, tn_c, Int.natCast_zero, bd_some, bd2_some, bindv_e, chk_ok, cr_ok, crl_ok, chd_ok, chb_0, chb_1, cr_bI, chb_bI, ite_bI0, if_true, if_false]
    by_cases u1 : u = 1
    · subst u1
      refine ⟨L.Y p, τ', ?_, ?_, L, hI'⟩
      · simp (disch := omega) only [fX7_point, cN, e1, y1, if_pos, if_neg, Int.reduceAdd, Int.reduceSub, Int.reduceMul, Int.zero_add, Int.add_zero, Nat.zero_add, na_0, ca_la, ca_al, ca_lm, ca_add, ca_mod, ca_lit, tn_c, Int.natCast_zero, bd_some, bd2_some, bindv_e, chk_ok, cr_ok, crl_ok, chd_ok, chb_0, chb_1, cr_bI, chb_bI, ite_bI0, if_true, if_false]
      · simp (disch := omega) only [fX8_point, e2, m1, y2, if_pos, if_neg, Int.reduceAdd, Int.reduceSub, Int.reduceMul, Int.zero_add, Int.add_zero, Nat.zero_add, na_0, ca_la, ca_al, ca_lm, ca_add, ca_mod, ca_lit, tn_c, Int.natCast_zero, bd_some, bd2_some, bindv_e, chk_ok, cr_ok, crl_ok, chd_ok, chb_0, chb_1, cr_bI, chb_bI, ite_bI0, if_true, if_false]
    by_cases u2 : u = 2
    · subst u2
      obtain ⟨ne, A, B, hG⟩ := hI.1.2.2.2.1
      have g1 : σ 104 p = dg L p := hG.2.2.2.2.2.2.1 p hp
      have g2 : τ' 8 p = dg L p := m3.2.2.1.2.2.2.2 p hp
      refine ⟨dg L p, τ', ?_, ?_, L, hI'⟩
      · simp (disch := omega) only [fX7_point, cN, e1, g1, if_pos, if_neg, Int.reduceAdd, Int.reduceSub, Int.reduceMul, Int.zero_add, Int.add_zero, Nat.zero_add, na_0, ca_la, ca_al, ca_lm, ca_add, ca_mod, ca_lit, tn_c, Int.natCast_zero, bd_some, bd2_some, bindv_e, chk_ok, cr_ok, crl_ok, chd_ok, chb_0, chb_1, cr_bI, chb_bI, ite_bI0, if_true, if_false]
      · simp (disch := omega) only [fX8_point, e2, m1, g2, if_pos, if_neg, Int.reduceAdd, Int.reduceSub, Int.reduceMul, Int.zero_add, Int.add_zero, Nat.zero_add, na_0, ca_la, ca_al, ca_lm, ca_add, ca_mod, ca_lit, tn_c, Int.natCast_zero, bd_some, bd2_some, bindv_e, chk_ok, cr_ok, crl_ok, chd_ok, chb_0, chb_1, cr_bI, chb_bI, ite_bI0, if_true, if_false]
    by_cases u3 : u = 3
    · subst u3
      by_cases z : ND L p
      · rw [bI_t z] at n1 n2
        refine ⟨1, τ', ?_, ?_, L, hI'⟩
        · simp (disch := omega) only [fX7_point, fX7_point_110, cN, e1, n1, if_pos, if_neg, Int.reduceAdd, Int.reduceSub, Int.reduceMul, Int.zero_add, Int.add_zero, Nat.zero_add, na_0, ca_la, ca_al, ca_lm, ca_add, ca_mod, ca_lit, tn_c, Int.natCast_zero, bd_some, bd2_some, bindv_e, chk_ok, cr_ok, crl_ok, chd_ok, chb_0, chb_1, cr_bI, chb_bI, ite_bI0, if_true, if_false]
        · simp (disch := omega) only [fX8_point, fX8_point_97, e2, m1, n2, if_pos, if_neg, Int.reduceAdd, Int.reduceSub, Int.reduceMul, Int.zero_add, Int.add_zero, Nat.zero_add, na_0, ca_la, ca_al, ca_lm, ca_add, ca_mod, ca_lit, tn_c, Int.natCast_zero, bd_some, bd2_some, bindv_e, chk_ok, cr_ok, crl_ok, chd_ok, chb_0, chb_1, cr_bI, chb_bI, ite_bI0, if_true, if_false]
      · rw [bI_f z] at n1 n2
        refine ⟨0, τ', ?_, ?_, L, hI'⟩
        · simp (disch := omega) only [fX7_point, fX7_point_110, cN, e1, n1, if_pos, if_neg, Int.reduceAdd, Int.reduceSub, Int.reduceMul, Int.zero_add, Int.add_zero, Nat.zero_add, na_0, ca_la, ca_al, ca_lm, ca_add, ca_mod, ca_lit, tn_c, Int.natCast_zero, bd_some, bd2_some, bindv_e, chk_ok, cr_ok, crl_ok, chd_ok, chb_0, chb_1, cr_bI, chb_bI, ite_bI0, if_true, if_false]
        · simp (disch := omega) only [fX8_point, fX8_point_97, e2, m1, n2, if_pos, if_neg, Int.reduceAdd, Int.reduceSub, Int.reduceMul, Int.zero_add, Int.add_zero, Nat.zero_add, na_0, ca_la, ca_al, ca_lm, ca_add, ca_mod, ca_lit, tn_c, Int.natCast_zero, bd_some, bd2_some, bindv_e, chk_ok, cr_ok, crl_ok, chd_ok, chb_0, chb_1, cr_bI, chb_bI, ite_bI0, if_true, if_false]
    by_cases u4 : u = 4
    · subst u4
      have hA := hI.2.1.2.2
      have hl := hA.2.2.2
      have hnr := hW.2.1
      obtain ⟨k1, k2⟩ := m_arcOfPoint (p := p) hW hI'.2.2.1 m3.2.2.1.2.2.2.2 m3.2.2.2 hA.1 (by omega) hp
      by_cases z : ND L p
      · rw [bI_t z] at n1
        have k1 := k1 z
        refine ⟨-4, τ', ?_, ?_, L, hI'⟩
        · simp (disch := omega) only [fX7_point, fX7_point_136, cN, e1, n1, if_pos, if_neg, Int.reduceAdd, Int.reduceSub, Int.reduceMul, Int.zero_add, Int.add_zero, Nat.zero_add, na_0, ca_la, ca_al, ca_lm, ca_add, ca_mod, ca_lit, tn_c, Int.natCast_zero, bd_some, bd2_some, bindv_e, chk_ok, cr_ok, crl_ok, chd_ok, chb_0, chb_1, cr_bI, chb_bI, ite_bI0, if_true, if_false]
        · simp (disch := omega) only [fX8_point, e2, m1, k1, if_pos, if_neg, Int.reduceAdd, Int.reduceSub, Int.reduceMul, Int.zero_add, Int.add_zero, Nat.zero_add, na_0, ca_la, ca_al, ca_lm, ca_add, ca_mod, ca_lit, tn_c, Int.natCast_zero, bd_some, bd2_some, bindv_e, chk_ok, cr_ok, crl_ok, chd_ok, chb_0, chb_1, cr_bI, chb_bI, ite_bI0, if_true, if_false]
      · rw [bI_f z] at n1
        obtain ⟨x, hx, hxi, k3⟩ := k2 z (nd_in hW hA z)
        have c7 : σ 7 p = (x : Int) := hI.2.1.2.1.2.2.2 x p hx hxi (fun y hy1 hy2 hy3 => by
          have := hA.2.1 x y p hx hy2 z hxi hy3
          omega)
        refine ⟨x, τ', ?_, ?_, L, hI'⟩
        · simp (disch := omega) only [fX7_point, fX7_point_136, cN, e1, n1, c7, if_pos, if_neg, Int.reduceAdd, Int.reduceSub, Int.reduceMul, Int.zero_add, Int.add_zero, Nat.zero_add, na_0, ca_la, ca_al, ca_lm, ca_add, ca_mod, ca_lit, tn_c, Int.natCast_zero, bd_some, bd2_some, bindv_e, chk_ok, cr_ok, crl_ok, chd_ok, chb_0, chb_1, cr_bI, chb_bI, ite_bI0, if_true, if_false]
        · simp (disch := omega) only [fX8_point, e2, m1, k3, if_pos, if_neg, Int.reduceAdd, Int.reduceSub, Int.reduceMul, Int.zero_add, Int.add_zero, Nat.zero_add, na_0, ca_la, ca_al, ca_lm, ca_add, ca_mod, ca_lit, tn_c, Int.natCast_zero, bd_some, bd2_some, bindv_e, chk_ok, cr_ok, crl_ok, chd_ok, chb_0, chb_1, cr_bI, chb_bI, ite_bI0, if_true, if_false]
    have g1 := m3.2.1.2.2.2 p hp
    have g2 := (m3.2.2.1.2.2.1 p (by omega)).1
    have g3 := gaF_le gb p n
    have g4 := m3.2.2.1.2.2.2.1 p hp
    by_cases u5 : u = 5
    · subst u5
      by_cases z : gaF gb n p = 0
      · rw [z] at g1 g2
        refine ⟨-4, τ', ?_, ?_, L, hI'⟩
        · simp (disch := omega) only [fX7_point, fX7_point_163, cN, e1, g1, if_pos, if_neg, Int.reduceAdd, Int.reduceSub, Int.reduceMul, Int.zero_add, Int.add_zero, Nat.zero_add, na_0, ca_la, ca_al, ca_lm, ca_add, ca_mod, ca_lit, tn_c, Int.natCast_zero, bd_some, bd2_some, bindv_e, chk_ok, cr_ok, crl_ok, chd_ok, chb_0, chb_1, cr_bI, chb_bI, ite_bI0, if_true, if_false]
        · simp (disch := omega) only [fX8_point, fX8_point_124, e2, m1, g2, if_pos, if_neg, Int.reduceAdd, Int.reduceSub, Int.reduceMul, Int.zero_add, Int.add_zero, Nat.zero_add, na_0, ca_la, ca_al, ca_lm, ca_add, ca_mod, ca_lit, tn_c, Int.natCast_zero, bd_some, bd2_some, bindv_e, chk_ok, cr_ok, crl_ok, chd_ok, chb_0, chb_1, cr_bI, chb_bI, ite_bI0, if_true, if_false]
      · refine ⟨gaF gb n p, τ', ?_, ?_, L, hI'⟩
        · simp (disch := omega) only [fX7_point, fX7_point_163, cN, e1, g1, if_pos, if_neg, Int.reduceAdd, Int.reduceSub, Int.reduceMul, Int.zero_add, Int.add_zero, Nat.zero_add, na_0, ca_la, ca_al, ca_lm, ca_add, ca_mod, ca_lit, tn_c, Int.natCast_zero, bd_some, bd2_some, bindv_e, chk_ok, cr_ok, crl_ok, chd_ok, chb_0, chb_1, cr_bI, chb_bI, ite_bI0, if_true, if_false]
        · simp (disch := omega) only [fX8_point, fX8_point_124, e2, m1, g2, if_pos, if_neg, Int.reduceAdd, Int.reduceSub, Int.reduceMul, Int.zero_add, Int.add_zero, Nat.zero_add, na_0, ca_la, ca_al, ca_lm, ca_add, ca_mod, ca_lit, tn_c, Int.natCast_zero, bd_some, bd2_some, bindv_e, chk_ok, cr_ok, crl_ok, chd_ok, chb_0, chb_1, cr_bI, chb_bI, ite_bI0, if_true, if_false]
    by_cases u6 : u = 6
    · subst u6
      by_cases z : gaF gb n p = 0
      · rw [z] at g1
        rw [if_pos z] at g4
        refine ⟨-4, τ', ?_, ?_, L, hI'⟩
        · simp (disch := omega) only [fX7_point, fX7_point_198, cN, e1, g1, if_pos, if_neg, Int.reduceAdd, Int.reduceSub, Int.reduceMul, Int.zero_add, Int.add_zero, Nat.zero_add, na_0, ca_la, ca_al, ca_lm, ca_add, ca_mod, ca_lit, tn_c, Int.natCast_zero, bd_some, bd2_some, bindv_e, chk_ok, cr_ok, crl_ok, chd_ok, chb_0, chb_1, cr_bI, chb_bI, ite_bI0, if_true, if_false]
        · simp (disch := omega) only [fX8_point, e2, m1, g4, if_pos, if_neg, Int.reduceAdd, Int.reduceSub, Int.reduceMul, Int.zero_add, Int.add_zero, Nat.zero_add, na_0, ca_la, ca_al, ca_lm, ca_add, ca_mod, ca_lit, tn_c, Int.natCast_zero, bd_some, bd2_some, bindv_e, chk_ok, cr_ok, crl_ok, chd_ok, chb_0, chb_1, cr_bI, chb_bI, ite_bI0, if_true, if_false]
      · rw [if_neg z] at g4
        have g5 := m3.2.1.2.2.1 (gaF gb n p) (by omega) g3
        refine ⟨sz (gaF gb n p), τ', ?_, ?_, L, hI'⟩
        · simp (disch := omega) only [fX7_point, fX7_point_198, cN, e1, g1, g5, if_pos, if_neg, Int.reduceAdd, Int.reduceSub, Int.reduceMul, Int.zero_add, Int.add_zero, Nat.zero_add, na_0, ca_la, ca_al, ca_lm, ca_add, ca_mod, ca_lit, tn_c, Int.natCast_zero, bd_some, bd2_some, bindv_e, chk_ok, cr_ok, crl_ok, chd_ok, chb_0, chb_1, cr_bI, chb_bI, ite_bI0, if_true, if_false]
        · simp (disch := omega) only [fX8_point, e2, m1, g4, if_pos, if_neg, Int.reduceAdd, Int.reduceSub, Int.reduceMul, Int.zero_add, Int.add_zero, Nat.zero_add, na_0, ca_la, ca_al, ca_lm, ca_add, ca_mod, ca_lit, tn_c, Int.natCast_zero, bd_some, bd2_some, bindv_e, chk_ok, cr_ok, crl_ok, chd_ok, chb_0, chb_1, cr_bI, chb_bI, ite_bI0, if_true, if_false]
    by_cases u7 : u = 7
    · subst u7
      refine ⟨L.P p, τ', ?_, ?_, L, hI'⟩
      · rcases p3 with p3 | p3 <;> rw [p3] at p1 ⊢ <;> simp (disch := omega) only [fX7_point, fX7_point_216, cN, e1, p1, if_pos, if_neg, Int.reduceAdd, Int.reduceSub, Int.reduceMul, Int.zero_add, Int.add_zero, Nat.zero_add, na_0, ca_la, ca_al, ca_lm, ca_add, ca_mod, ca_lit, tn_c, Int.natCast_zero, bd_some, bd2_some, bindv_e, chk_ok, cr_ok, crl_ok, chd_ok, chb_0, chb_1, cr_bI, chb_bI, ite_bI0, if_true, if_false]
      · simp (disch := omega) only [fX8_point, e2, m1, p2, if_pos, if_neg, Int.reduceAdd, Int.reduceSub, Int.reduceMul, Int.zero_add, Int.add_zero, Nat.zero_add, na_0, ca_la, ca_al, ca_lm, ca_add, ca_mod, ca_lit, tn_c, Int.natCast_zero, bd_some, bd2_some, bindv_e, chk_ok, cr_ok, crl_ok, chd_ok, chb_0, chb_1, cr_bI, chb_bI, ite_bI0, if_true, if_false]
    refine ⟨-1, τ', ?_, ?_, L, hI'⟩
    · simp (disch := omega) only [fX7_point, cN, e1, if_pos, if_neg, Int.reduceAdd, Int.reduceSub, Int.reduceMul, Int.zero_add, Int.add_zero, Nat.zero_add, na_0, ca_la, ca_al, ca_lm, ca_add, ca_mod, ca_lit, tn_c, Int.natCast_zero, bd_some, bd2_some, bindv_e, chk_ok, cr_ok, crl_ok, chd_ok, chb_0, chb_1, cr_bI, chb_bI, ite_bI0, if_true, if_false]
    · simp (disch := omega) only [fX8_point, e2, m1, if_pos, if_neg, Int.reduceAdd, Int.reduceSub, Int.reduceMul, Int.zero_add, Int.add_zero, Nat.zero_add, na_0, ca_la, ca_al, ca_lm, ca_add, ca_mod, ca_lit, tn_c, Int.natCast_zero, bd_some, bd2_some, bindv_e, chk_ok, cr_ok, crl_ok, chd_ok, chb_0, chb_1, cr_bI, chb_bI, ite_bI0, if_true, if_false]
  · rw [bI_f w1] at e1 e2
    refine ⟨-1, τ, ?_, ?_, L, hI⟩
    · unfold fX7_point
      rw [cN, e1, bd_some, cr_ok (by omega), if_pos rfl]
    · unfold fX8_point
      rw [e2, bd_some, cr_ok (by omega), if_pos rfl]
theorem shake_l {n : Nat} {e1 e2 : Int → Mm → Option (Int × Mm)} (hn : n ≤ 40) : ∀ (fu i : Nat) (v came : Int) (σ τ : Mm) (L : Ld), i ≤ n → n - i < fu → HALF L σ τ → 0 < L.np → (0 ≤ came ∧ came ≤ i) → ∃ r σ' τ' L', HALF L' σ' τ' ∧ itN (fun _ _ _ _ => none) (fun c => fX7_shake_34 n e1 c) fu v came i σ = e1 r σ' ∧ itN (fun _ _ _ _ => none) (fun c => fX8_shake_32 n e2 c) fu v came i τ = e2 r τ'
  | 0, i, _, _, _, _, _, _, h, _, _, _ => by omega
  | fu + 1, i, v, came, σ, τ, L, hi, hf, hH, hp, hc => by
    rw [itN_s, itN_s]
    by_cases z : i = n
    · subst z
      refine ⟨came, σ, τ, L, hH, ?_, ?_⟩
      · simp (disch := omega) only [fX7_shake_34, if_neg, Int.reduceAdd, Int.reduceSub, Int.reduceMul, Int.zero_add, Int.add_zero, Nat.zero_add, na_0, ca_la, ca_al, ca_lm, ca_add, ca_mod, ca_lit, tn_c, Int.natCast_zero, bd_some, bd2_some, bindv_e, chk_ok, cr_ok, crl_ok, chd_ok, chb_0, chb_1, cr_bI, chb_bI, ite_bI0, if_true, if_false]
      · simp (disch := omega) only [fX8_shake_32, if_neg, Int.reduceAdd, Int.reduceSub, Int.reduceMul, Int.zero_add, Int.add_zero, Nat.zero_add, na_0, ca_la, ca_al, ca_lm, ca_add, ca_mod, ca_lit, tn_c, Int.natCast_zero, bd_some, bd2_some, bindv_e, chk_ok, cr_ok, crl_ok, chd_ok, chb_0, chb_1, cr_bI, chb_bI, ite_bI0, if_true, if_false]
    · have hnp := hH.1.1.1
      obtain ⟨g, g1, g2, g3⟩ := drawn_e (v * 1103515245 + 12345)
      obtain ⟨cN, -, cX, cY, -⟩ := CL95 hH.1.2.2.1
      obtain ⟨-, -, mX, mY, -⟩ := ML0 hH.2.1
      have mN := m_points hH.2.1
      have hq : g % L.np < L.np := Nat.mod_lt _ hp
      have x1 := cX _ hq
      have x2 := mX _ hq
      have y1 := cY _ hq
      have y2 := mY _ hq
      have bX := hH.1.1.2.2.2.2.2.1 _ hq
      have bY := hH.1.1.2.2.2.2.2.2.1 _ hq
      rcases sh_step (p := ((g % L.np : Nat) : Int)) (x := L.X (g % L.np) + (g : Int) / 32 % 5 - 2) (y := L.Y (g % L.np) + (g : Int) / 256 % 5 - 2) hH (by omega) (by omega) (by omega) with ⟨σ', τ', L', a1, a2, a3, a4, -⟩ | ⟨r, hr, a1, a2⟩
      · obtain ⟨r, σ2, τ2, L2, b1, b2, b3⟩ := shake_l (e1 := e1) (e2 := e2) hn fu (i + 1) (v * 1103515245 + 12345) (came + 1) σ' τ' L' (by omega) (by omega) a3 (by omega) (by omega)
        refine ⟨r, σ2, τ2, L2, b1, ?_, ?_⟩
        · rw [← b2]
          simp (disch := omega) only [fX7_shake_34, fX7_shake_133, g2, cN, x1, y1, a1, if_pos, Int.reduceAdd, Int.reduceSub, Int.reduceMul, Int.zero_add, Int.add_zero, Nat.zero_add, na_0, ca_la, ca_al, ca_lm, ca_add, ca_mod, ca_lit, tn_c, Int.natCast_zero, bd_some, bd2_some, bindv_e, chk_ok, cr_ok, crl_ok, chd_ok, chb_0, chb_1, cr_bI, chb_bI, ite_bI0, if_true, if_false]
        · rw [← b3]
          simp (disch := omega) only [fX8_shake_32, fX8_shake_122, g3, mN, x2, y2, a2, if_pos, Int.reduceAdd, Int.reduceSub, Int.reduceMul, Int.zero_add, Int.add_zero, Nat.zero_add, na_0, ca_la, ca_al, ca_lm, ca_add, ca_mod, ca_lit, tn_c, Int.natCast_zero, bd_some, bd2_some, bindv_e, chk_ok, cr_ok, crl_ok, chd_ok, chb_0, chb_1, cr_bI, chb_bI, ite_bI0, if_true, if_false]
      · obtain ⟨r', σ2, τ2, L2, b1, b2, b3⟩ := shake_l (e1 := e1) (e2 := e2) hn fu (i + 1) (v * 1103515245 + 12345) came σ τ L (by omega) (by omega) hH hp (by omega)
        refine ⟨r', σ2, τ2, L2, b1, ?_, ?_⟩
        · rw [← b2]
          simp (disch := omega) only [fX7_shake_34, fX7_shake_133, g2, cN, x1, y1, a1, if_pos, if_neg, Int.reduceAdd, Int.reduceSub, Int.reduceMul, Int.zero_add, Int.add_zero, Nat.zero_add, na_0, ca_la, ca_al, ca_lm, ca_add, ca_mod, ca_lit, tn_c, Int.natCast_zero, bd_some, bd2_some, bindv_e, chk_ok, cr_ok, crl_ok, chd_ok, chb_0, chb_1, cr_bI, chb_bI, ite_bI0, if_true, if_false]
        · rw [← b3]
          simp (disch := omega) only [fX8_shake_32, fX8_shake_122, g3, mN, x2, y2, a2, if_pos, if_neg, Int.reduceAdd, Int.reduceSub, Int.reduceMul, Int.zero_add, Int.add_zero, Nat.zero_add, na_0, ca_la, ca_al, ca_lm, ca_add, ca_mod, ca_lit, tn_c, Int.natCast_zero, bd_some, bd2_some, bindv_e, chk_ok, cr_ok, crl_ok, chd_ok, chb_0, chb_1, cr_bI, chb_bI, ite_bI0, if_true, if_false]
theorem k_shake {σ τ : Mm} {v u : Int} (h : Inv σ τ) (hu : inR u) : CC (fX7_shake v u σ) (fX8_shake v u τ) := by
  obtain ⟨L, hI⟩ := h
  have hW := hI.1.1
  have hn := hW.1
  obtain ⟨cN, -⟩ := CL95 hI.1.2.2.1
  have mN := m_points hI.2.2.1
  have e2 := m_in τ (v := u) (a := 1) (b := 40) hu (by omega) (by omega)
  by_cases w1 : 1 ≤ u ∧ u ≤ 40
  · rw [bI_t w1] at e2
    obtain ⟨n, rfl⟩ : ∃ n : Nat, u = (n : Int) := ⟨u.toNat, by omega⟩
    by_cases w2 : L.np = 0
    · rw [w2, Int.natCast_zero] at cN mN
      refine ⟨-2, σ, τ, ?_, ?_, L, hI⟩
      · simp (disch := omega) only [fX7_shake, cN, if_pos, if_neg, Int.reduceAdd, Int.reduceSub, Int.reduceMul, Int.zero_add, Int.add_zero, Nat.zero_add, na_0, ca_la, ca_al, ca_lm, ca_add, ca_mod, ca_lit, tn_c, Int.natCast_zero, bd_some, bd2_some, bindv_e, chk_ok, cr_ok, crl_ok, chd_ok, chb_0, chb_1, cr_bI, chb_bI, ite_bI0, if_true, if_false]
      · simp (disch := omega) only [fX8_shake, e2, mN, if_pos, if_neg, Int.reduceAdd, Int.reduceSub, Int.reduceMul, Int.zero_add, Int.add_zero, Nat.zero_add, na_0, ca_la, ca_al, ca_lm, ca_add, ca_mod, ca_lit, tn_c, Int.natCast_zero, bd_some, bd2_some, bindv_e, chk_ok, cr_ok, crl_ok, chd_ok, chb_0, chb_1, cr_bI, chb_bI, ite_bI0, if_true, if_false]
    · obtain ⟨r, σ2, τ2, L2, b1, b2, b3⟩ := shake_l (n := n) (e1 := fun v s => fX7_shake_139 v s) (e2 := fun v s => fX8_shake_131 v s) (by omega) 400 0 v 0 σ τ L (by omega) (by omega) (InvL_H hI) (by omega) (by omega)
      obtain ⟨σ3, c1, c2, -⟩ := H_refresh b1
      have b2' : lX7_shake_34 n (fun v s => fX7_shake_139 v s) 400 v 0 0 σ = fX7_shake_139 r σ2 := b2
      have b3' : lX8_shake_32 n (fun v s => fX8_shake_131 v s) 400 v 0 0 τ = fX8_shake_131 r τ2 := b3
      refine ⟨r, σ3, τ2, ?_, ?_, L2, c2⟩
      · simp (disch := omega) only [fX7_shake, cN, b2', if_pos, if_neg, Int.reduceAdd, Int.reduceSub, Int.reduceMul, Int.zero_add, Int.add_zero, Nat.zero_add, na_0, ca_la, ca_al, ca_lm, ca_add, ca_mod, ca_lit, tn_c, Int.natCast_zero, bd_some, bd2_some, bindv_e, chk_ok, cr_ok, crl_ok, chd_ok, chb_0, chb_1, cr_bI, chb_bI, ite_bI0, if_true, if_false]
        unfold fX7_shake_139
        rw [c1, bd_some]
      · simp (disch := omega) only [fX8_shake, e2, mN, b3', if_pos, if_neg, Int.reduceAdd, Int.reduceSub, Int.reduceMul, Int.zero_add, Int.add_zero, Nat.zero_add, na_0, ca_la, ca_al, ca_lm, ca_add, ca_mod, ca_lit, tn_c, Int.natCast_zero, bd_some, bd2_some, bindv_e, chk_ok, cr_ok, crl_ok, chd_ok, chb_0, chb_1, cr_bI, chb_bI, ite_bI0, if_true, if_false]
        rfl
  · rw [bI_f w1] at e2
    refine ⟨-1, σ, τ, ?_, ?_, L, hI⟩
    · by_cases w2 : u < 1
      · simp (disch := omega) only [fX7_shake, fX7_shake_11, if_pos, Int.reduceAdd, Int.reduceSub, Int.reduceMul, Int.zero_add, Int.add_zero, Nat.zero_add, na_0, ca_la, ca_al, ca_lm, ca_add, ca_mod, ca_lit, tn_c, Int.natCast_zero, bd_some, bd2_some, bindv_e, chk_ok, cr_ok, crl_ok, chd_ok, chb_0, chb_1, cr_bI, chb_bI, ite_bI0, if_true, if_false]
      · simp (disch := omega) only [fX7_shake, fX7_shake_11, if_pos, if_neg, Int.reduceAdd, Int.reduceSub, Int.reduceMul, Int.zero_add, Int.add_zero, Nat.zero_add, na_0, ca_la, ca_al, ca_lm, ca_add, ca_mod, ca_lit, tn_c, Int.natCast_zero, bd_some, bd2_some, bindv_e, chk_ok, cr_ok, crl_ok, chd_ok, chb_0, chb_1, cr_bI, chb_bI, ite_bI0, if_true, if_false]
    · simp (disch := omega) only [fX8_shake, e2, if_pos, Int.reduceAdd, Int.reduceSub, Int.reduceMul, Int.zero_add, Int.add_zero, Nat.zero_add, na_0, ca_la, ca_al, ca_lm, ca_add, ca_mod, ca_lit, tn_c, Int.natCast_zero, bd_some, bd2_some, bindv_e, chk_ok, cr_ok, crl_ok, chd_ok, chb_0, chb_1, cr_bI, chb_bI, ite_bI0, if_true, if_false]
