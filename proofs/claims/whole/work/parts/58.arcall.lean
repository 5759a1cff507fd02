/-! the calls about arcs, and a point's answers -/
theorem arc_f {L : Ld} {as : List Ac} {x : Nat} (hw : WF L) (hA : AOK L as) (hx : x < as.length) : 2 ≤ (ag as x).2.2.1 ∧ (ag as x).2.2.1 ≤ 11 ∧ (∀ j, pt L (ag as x) j < L.np) ∧ (((ag as x).2.2.2 = true ∧ ∀ j, ¬ ND L (pt L (ag as x) j)) ∨ ((ag as x).2.2.2 = false ∧ ND L (pt L (ag as x) ((ag as x).2.2.1 - 1)))) ∧ 0 < us L (pt L (ag as x) 0) (pt L (ag as x) 1) := by
  obtain ⟨r, i, hr, hi, hR⟩ := hA _ (ag_mem hx)
  obtain ⟨h0, h1, h2, h3, -⟩ := ARC_sh hw hr hi hR
  have h4 := hw.2.2.1 r hr
  refine ⟨h2, by omega, fun j => by unfold pt; rw [h0]; exact hw.2.2.2.1 r _ hr (Nat.mod_lt _ (by omega)), ?_, us_pt hw hr hi hR 0⟩
  rcases hR with ⟨-, ⟨c1, c2, c3, c4⟩ | ⟨c1, b, m, -, -, -, -, c2, -, -, c3, -⟩⟩
  · exact Or.inl ⟨c1, fun j => by unfold pt; rw [h0]; exact c4 _ (Nat.mod_lt _ (by omega))⟩
  · refine Or.inr ⟨c1, ?_⟩
    rw [c2]
    unfold pt
    rw [h0, show m + 1 - 1 = m by omega]
    exact c3
def RHp (L : Ld) (p q r : Nat) : Prop := ∃ i, i < L.cn r ∧ isE L r i p q
noncomputable def cnR (L : Ld) (p q r : Nat) : Int := sm (fun z => bI (RHp L p q z)) r
theorem cnR_b (L : Ld) (p q r : Nat) : 0 ≤ cnR L p q r ∧ cnR L p q r ≤ r := sm_bI_b (fun z => RHp L p q z) r
theorem cnR_s (L : Ld) (p q r : Nat) : cnR L p q (r + 1) = cnR L p q r + bI (RHp L p q r) := by
  unfold cnR
  exact sm_s (fun z => bI (RHp L p q z)) r
def kth (L : Ld) (p q : Nat) (v : Int) (r : Nat) : Prop := RHp L p q r ∧ cnR L p q r = v
theorem c_ringHas {σ : Mm} {L : Ld} {p q r : Nat} (hw : WF L) (h : CL σ 95 L) (hr : r < L.nr) (hp : p < 1000) (hq : q < 1000) : fX0_ringHas r p q σ = some (bI (RHp L p q r)) := by
  have hnr := hw.2.1
  have hnp := hw.1
  have h3 := hw.2.2.1 r hr
  obtain ⟨-, -, -, -, -, cN, cC⟩ := CL95 h
  have c1 := cN r hr
  have e1 := c_areNext (σ := σ) (w := 105 + r) (n := L.cn r) (f := L.co r) (by omega) (fun i hi => by have := hw.2.2.2.1 r i hr hi; omega) (fun i hi => cC r i hr hi) hp hq
  simp (disch := omega) only [fX0_ringHas, c1, e1, Int.reduceAdd, Int.reduceSub, Int.reduceMul, Int.zero_add, Int.add_zero, Nat.zero_add, na_0, ca_la, ca_al, ca_lm, ca_add, ca_mod, ca_lit, tn_c, Int.natCast_zero, bd_some, bd2_some, bindv_e, chk_ok, cr_ok, crl_ok, chd_ok, chb_0, chb_1, cr_bI, chb_bI, ite_bI0, if_true, if_false]
  rfl
theorem c_ringOf {σ : Mm} {L : Ld} {x p q : Nat} {v : Int} (hw : WF L) (h : CL σ 95 L) (hx : x < 60) (h0 : σ (35 + x) 0 = (p : Int)) (h1 : σ (35 + x) 1 = (q : Int)) (hp : p < 1000) (hq : q < 1000) (hv : inR v) : ∃ u, FST (kth L p q v) L.nr u ∧ fX0_ringOf x v σ = some u := by
  have hnr := hw.2.1
  obtain ⟨-, cR, -⟩ := CL95 h
  have key := it_stop2 (f := fun c => fX0_ringOf_5 x v σ (fX0_ringOf_59 σ) c) L.nr (fun i w => w = cnR L p q i ∧ ∀ j, j < i → ¬ kth L p q v j) (fun o => ∃ u, FST (kth L p q v) L.nr u ∧ o = some u) (fun c r w hr hI => by
    obtain ⟨q1, q2⟩ := hI
    have q3 := cnR_b L p q r
    by_cases e : r = L.nr
    · left
      subst e
      refine ⟨-4, Or.inl ⟨rfl, q2⟩, ?_⟩
      simp (disch := omega) only [fX0_ringOf_5, fX0_ringOf_59, cR, if_neg, Int.reduceAdd, Int.reduceSub, Int.reduceMul, Int.zero_add, Int.add_zero, Nat.zero_add, na_0, ca_la, ca_al, ca_lm, ca_add, ca_mod, ca_lit, tn_c, Int.natCast_zero, bd_some, bd2_some, bindv_e, chk_ok, cr_ok, crl_ok, chd_ok, chb_0, chb_1, cr_bI, chb_bI, ite_bI0, if_true, if_false]
    · have e1 := c_ringHas (p := p) (q := q) (r := r) hw h (by omega) hp hq
      by_cases z : RHp L p q r
      · rw [bI_t z] at e1
        by_cases y : cnR L p q r = v
        · left
          refine ⟨r, Or.inr ⟨r, by omega, rfl, ⟨z, y⟩, q2⟩, ?_⟩
          simp (disch := omega) only [fX0_ringOf_5, cR, h0, h1, e1, if_pos, if_neg, Int.reduceAdd, Int.reduceSub, Int.reduceMul, Int.zero_add, Int.add_zero, Nat.zero_add, na_0, ca_la, ca_al, ca_lm, ca_add, ca_mod, ca_lit, tn_c, Int.natCast_zero, bd_some, bd2_some, bindv_e, chk_ok, cr_ok, crl_ok, chd_ok, chb_0, chb_1, cr_bI, chb_bI, ite_bI0, if_true, if_false]
        · right
          refine ⟨by omega, cnR L p q (r + 1), ⟨rfl, lt_s1 q2 (fun y' => y y'.2)⟩, ?_⟩
          rw [cnR_s, bI_t z]
          simp (disch := omega) only [fX0_ringOf_5, fX0_ringOf_53, cR, h0, h1, e1, q1, if_pos, if_neg, Int.reduceAdd, Int.reduceSub, Int.reduceMul, Int.zero_add, Int.add_zero, Nat.zero_add, na_0, ca_la, ca_al, ca_lm, ca_add, ca_mod, ca_lit, tn_c, Int.natCast_zero, bd_some, bd2_some, bindv_e, chk_ok, cr_ok, crl_ok, chd_ok, chb_0, chb_1, cr_bI, chb_bI, ite_bI0, if_true, if_false]
      · rw [bI_f z] at e1
        right
        refine ⟨by omega, cnR L p q (r + 1), ⟨rfl, lt_s1 q2 (fun y' => z y'.1)⟩, ?_⟩
        rw [cnR_s, bI_f z, Int.add_zero]
        simp (disch := omega) only [fX0_ringOf_5, fX0_ringOf_53, cR, h0, h1, e1, q1, if_pos, Int.reduceAdd, Int.reduceSub, Int.reduceMul, Int.zero_add, Int.add_zero, Nat.zero_add, na_0, ca_la, ca_al, ca_lm, ca_add, ca_mod, ca_lit, tn_c, Int.natCast_zero, bd_some, bd2_some, bindv_e, chk_ok, cr_ok, crl_ok, chd_ok, chb_0, chb_1, cr_bI, chb_bI, ite_bI0, if_true, if_false]) 400 0 0 (by omega) (by omega) ⟨rfl, fun j hj => by omega⟩
  unfold fX0_ringOf
  rw [bindv_e, bindv_e]
  unfold lX0_ringOf_5
  exact key
theorem m_roa20 {τ : Mm} {L : Ld} {as : List Ac} {x r : Nat} {v2 v3 : Int} {e : Int → Option Int} (hw : WF L) (h : ML τ 0 L) (hM : MA τ as) (hA : AOK L as) (hl : as.length ≤ 60) (hx : x < as.length) (hr : r < L.nr) : lX8_ringsOfArc_20 x v2 v3 r τ e 400 0 0 = e (bI (RHp L (pt L (ag as x) 0) (pt L (ag as x) 1) r)) := by
  have hnr := hw.2.1
  have hnp := hw.1
  have h3 := hw.2.2.1 r hr
  obtain ⟨-, -, f3, -, -⟩ := arc_f hw hA hx
  have l0 := f3 0
  have l1 := f3 1
  have p0 : fX8_arcPoint x 0 τ = some (pt L (ag as x) 0 : Int) := m_arcPoint (j := 0) hw h hM hA hl hx (by omega)
  have p1 : fX8_arcPoint x 1 τ = some (pt L (ag as x) 1 : Int) := m_arcPoint (j := 1) hw h hM hA hl hx (by omega)
  obtain ⟨-, -, -, -, -, hC, -⟩ := ML0 h
  have c1 := hC r hr
  generalize pt L (ag as x) 0 = P at *
  generalize pt L (ag as x) 1 = Q at *
  have key := it_or0 (f := fun c => fX8_ringsOfArc_20 x v2 v3 r τ e c) (L.cn r) (fun i => isE L r i P Q) e False (by omega) (fun c i R hi => by
    have m1 : fX8_cornerOf 0 r i τ = some (L.co r i : Int) := m_corner1 (o := 0) (by omega) hw h hr hi
    have m2 : fX8_cornerOf 0 r ((i + 1 : Nat) : Int) τ = some (cx L r i : Int) := m_corner2 (o := 0) (by omega) hw h hr hi
    have b1 := hw.2.2.2.1 r i hr hi
    have b2 := cx_lt hw (i := i) hr
    by_cases z : R
    · rw [bI_t z, bI_t (Or.inl z)]
      simp (disch := omega) only [fX8_ringsOfArc_20, fX8_ringsOfArc_109, fX8_ringsOfArc_114, c1, m1, m2, if_pos, if_neg, Int.reduceAdd, Int.reduceSub, Int.reduceMul, Int.zero_add, Int.add_zero, Nat.zero_add, na_0, ca_la, ca_al, ca_lm, ca_add, ca_mod, ca_lit, tn_c, Int.natCast_zero, bd_some, bd2_some, bindv_e, chk_ok, cr_ok, crl_ok, chd_ok, chb_0, chb_1, cr_bI, chb_bI, ite_bI0, if_true, if_false]
    · rw [bI_f z]
      rw [bI_c (show (R ∨ isE L r i P Q) ↔ isE L r i P Q from ⟨fun y => y.elim (fun w => absurd w z) id, Or.inr⟩)]
      unfold isE
      generalize cx L r i = Z at *
      simp (disch := omega) only [fX8_ringsOfArc_20, fX8_ringsOfArc_87, fX8_ringsOfArc_109, fX8_ringsOfArc_113, fX8_ringsOfArc_114, c1, m1, m2, p0, p1, if_pos, Int.reduceAdd, Int.reduceSub, Int.reduceMul, Int.zero_add, Int.add_zero, Nat.zero_add, na_0, ca_la, ca_al, ca_lm, ca_add, ca_mod, ca_lit, tn_c, Int.natCast_zero, bd_some, bd2_some, bindv_e, chk_ok, cr_ok, crl_ok, chd_ok, chb_0, chb_1, cr_bI, chb_bI, ite_bI0, if_true, if_false]
      repeat' split
      all_goals first | (rw [bI_t (by omega)]; done) | rw [bI_f (by omega)]) (fun c R => by
    simp (disch := omega) only [fX8_ringsOfArc_20, c1, if_neg, Int.reduceAdd, Int.reduceSub, Int.reduceMul, Int.zero_add, Int.add_zero, Nat.zero_add, na_0, ca_la, ca_al, ca_lm, ca_add, ca_mod, ca_lit, tn_c, Int.natCast_zero, bd_some, bd2_some, bindv_e, chk_ok, cr_ok, crl_ok, chd_ok, chb_0, chb_1, cr_bI, chb_bI, ite_bI0, if_true, if_false])
  rw [bI_f (fun z => z), false_or] at key
  unfold lX8_ringsOfArc_20
  rw [key]
  rfl
theorem m_ringsOfArc {τ : Mm} {L : Ld} {as : List Ac} {x : Nat} {v : Int} (hw : WF L) (h : ML τ 0 L) (hM : MA τ as) (hA : AOK L as) (hl : as.length ≤ 60) (hx : x < as.length) (hv : inR v) : ∃ u, ((v < 0 ∧ u = cnR L (pt L (ag as x) 0) (pt L (ag as x) 1) L.nr) ∨ (0 ≤ v ∧ FST (kth L (pt L (ag as x) 0) (pt L (ag as x) 1) v) L.nr u)) ∧ fX8_ringsOfArc x v τ = some u := by
  have hnr := hw.2.1
  have hN := m_rings h
  have k20 := fun (v3 : Int) (e : Int → Option Int) (r : Nat) (hr : r < L.nr) => m_roa20 (v2 := v) (v3 := v3) (e := e) hw h hM hA hl hx hr
  generalize pt L (ag as x) 0 = p at *
  generalize pt L (ag as x) 1 = q at *
  have key := it_stop2 (f := fun c => fX8_ringsOfArc_5 x v τ (fun v3 => fX8_ringsOfArc_154 v v3 τ) c) L.nr (fun i w => w = cnR L p q i ∧ ∀ j, j < i → ¬ kth L p q v j) (fun o => ∃ u, ((v < 0 ∧ u = cnR L p q L.nr) ∨ (0 ≤ v ∧ FST (kth L p q v) L.nr u)) ∧ o = some u) (fun c r w hr hI => by
    obtain ⟨q1, q2⟩ := hI
    have q3 := cnR_b L p q r
    by_cases e : r = L.nr
    · left
      subst e
      by_cases y : v < 0
      · refine ⟨_, Or.inl ⟨y, q1⟩, ?_⟩
        simp (disch := omega) only [fX8_ringsOfArc_5, fX8_ringsOfArc_154, fX8_ringsOfArc_164, hN, if_pos, if_neg, Int.reduceAdd, Int.reduceSub, Int.reduceMul, Int.zero_add, Int.add_zero, Nat.zero_add, na_0, ca_la, ca_al, ca_lm, ca_add, ca_mod, ca_lit, tn_c, Int.natCast_zero, bd_some, bd2_some, bindv_e, chk_ok, cr_ok, crl_ok, chd_ok, chb_0, chb_1, cr_bI, chb_bI, ite_bI0, if_true, if_false]
      · refine ⟨-4, Or.inr ⟨by omega, Or.inl ⟨rfl, q2⟩⟩, ?_⟩
        simp (disch := omega) only [fX8_ringsOfArc_5, fX8_ringsOfArc_154, fX8_ringsOfArc_164, hN, if_pos, if_neg, Int.reduceAdd, Int.reduceSub, Int.reduceMul, Int.zero_add, Int.add_zero, Nat.zero_add, na_0, ca_la, ca_al, ca_lm, ca_add, ca_mod, ca_lit, tn_c, Int.natCast_zero, bd_some, bd2_some, bindv_e, chk_ok, cr_ok, crl_ok, chd_ok, chb_0, chb_1, cr_bI, chb_bI, ite_bI0, if_true, if_false]
    · have hr' : r < L.nr := by omega
      have base : fX8_ringsOfArc_5 x v τ (fun v3 => fX8_ringsOfArc_154 v v3 τ) c w r = fX8_ringsOfArc_122 c x v w r (bI (RHp L p q r)) τ := by
        have kk := k20 w (fun v5 => fX8_ringsOfArc_122 c x v w r v5 τ) r hr'
        unfold fX8_ringsOfArc_5
        rw [hN, bd_some, cr_ok (by omega), cr_ok (by omega), if_pos (by omega), bindv_e, bindv_e]
        exact kk
      by_cases z : RHp L p q r
      · rw [bI_t z] at base
        by_cases y : cnR L p q r = v
        · left
          refine ⟨r, Or.inr ⟨by omega, Or.inr ⟨r, by omega, rfl, ⟨z, y⟩, q2⟩⟩, ?_⟩
          show fX8_ringsOfArc_5 x v τ (fun v3 => fX8_ringsOfArc_154 v v3 τ) c w r = _
          rw [base]
          simp (disch := omega) only [fX8_ringsOfArc_122, if_pos, if_neg, Int.reduceAdd, Int.reduceSub, Int.reduceMul, Int.zero_add, Int.add_zero, Nat.zero_add, na_0, ca_la, ca_al, ca_lm, ca_add, ca_mod, ca_lit, tn_c, Int.natCast_zero, bd_some, bd2_some, bindv_e, chk_ok, cr_ok, crl_ok, chd_ok, chb_0, chb_1, cr_bI, chb_bI, ite_bI0, if_true, if_false]
        · right
          refine ⟨by omega, cnR L p q (r + 1), ⟨rfl, lt_s1 q2 (fun y' => y y'.2)⟩, ?_⟩
          show fX8_ringsOfArc_5 x v τ (fun v3 => fX8_ringsOfArc_154 v v3 τ) c w r = _
          rw [base, cnR_s, bI_t z]
          simp (disch := omega) only [fX8_ringsOfArc_122, fX8_ringsOfArc_135, fX8_ringsOfArc_146, q1, if_pos, if_neg, Int.reduceAdd, Int.reduceSub, Int.reduceMul, Int.zero_add, Int.add_zero, Nat.zero_add, na_0, ca_la, ca_al, ca_lm, ca_add, ca_mod, ca_lit, tn_c, Int.natCast_zero, bd_some, bd2_some, bindv_e, chk_ok, cr_ok, crl_ok, chd_ok, chb_0, chb_1, cr_bI, chb_bI, ite_bI0, if_true, if_false]
      · rw [bI_f z] at base
        right
        refine ⟨by omega, cnR L p q (r + 1), ⟨rfl, lt_s1 q2 (fun y' => z y'.1)⟩, ?_⟩
        show fX8_ringsOfArc_5 x v τ (fun v3 => fX8_ringsOfArc_154 v v3 τ) c w r = _
        rw [base, cnR_s, bI_f z]
        simp (disch := omega) only [fX8_ringsOfArc_122, fX8_ringsOfArc_135, fX8_ringsOfArc_146, q1, if_pos, if_neg, Int.reduceAdd, Int.reduceSub, Int.reduceMul, Int.zero_add, Int.add_zero, Nat.zero_add, na_0, ca_la, ca_al, ca_lm, ca_add, ca_mod, ca_lit, tn_c, Int.natCast_zero, bd_some, bd2_some, bindv_e, chk_ok, cr_ok, crl_ok, chd_ok, chb_0, chb_1, cr_bI, chb_bI, ite_bI0, if_true, if_false]) 400 0 0 (by omega) (by omega) ⟨rfl, fun j hj => by omega⟩
  unfold fX8_ringsOfArc
  rw [bindv_e, bindv_e]
  unfold lX8_ringsOfArc_5
  exact key
theorem ar_view {L : Ld} {σ τ : Mm} {v : Int} (h : InvL L σ τ) (hv : inR v) : ∃ (τ' : Mm) (gb : Nat → Nat) (sz : Nat → Int) (n : Nat), fX8_isArc v τ = some (bI (0 ≤ v ∧ v < ((allA L L.nr).length : Int)), τ') ∧ fX7_isBelow v (σ 4 5) σ = some (bI (0 ≤ v ∧ v < ((allA L L.nr).length : Int))) ∧ InvL L σ τ' ∧ VW L σ τ' gb sz n ∧ (allA L L.nr).length ≤ 60 ∧ AOK L (allA L L.nr) := by
  obtain ⟨τ', gb, sz, n, m1, m2, m3⟩ := inv_makes h
  have hA := h.2.1.2.2
  have hl := hA.2.2.2
  have hn := h.1.1.2.1
  have c1 := h.2.1.2.1.1
  have a1 := m3.2.2.2.1
  refine ⟨τ', gb, sz, n, ?_, by rw [c1]; exact c_isBelow σ hv (by omega), m2, m3, by omega, hA.1⟩
  have e2 := m_in τ' (v := v) (a := 0) (b := ((allA L L.nr).length : Int) - 1) hv (by omega) (by omega)
  simp (disch := omega) only [fX8_isArc, m1, a1, e2, Int.reduceAdd, Int.reduceSub, Int.reduceMul, Int.zero_add, Int.add_zero, Nat.zero_add, na_0, ca_la, ca_al, ca_lm, ca_add, ca_mod, ca_lit, tn_c, Int.natCast_zero, bd_some, bd2_some, bindv_e, chk_ok, cr_ok, crl_ok, chd_ok, chb_0, chb_1, cr_bI, chb_bI, ite_bI0, if_true, if_false]
  rw [bI_c (show (0 ≤ v ∧ v ≤ ((allA L L.nr).length : Int) - 1) ↔ (0 ≤ v ∧ v < ((allA L L.nr).length : Int)) by omega)]
theorem k_arc {σ τ : Mm} {v u : Int} (h : Inv σ τ) (hv : inR v) (hu : inR u) : CR σ (fX7_arc v u σ) (fX8_arc v u τ) := by
  obtain ⟨L, hI⟩ := h
  have hW := hI.1.1
  have hnp := hW.1
  obtain ⟨τ', gb, sz, n, m1, m2, hI', m3, hl, hA⟩ := ar_view hI hv
  by_cases w : 0 ≤ v ∧ v < ((allA L L.nr).length : Int)
  · obtain ⟨x, rfl, hx⟩ := cut0 w
    rw [bI_t w] at m1 m2
    have hM := m3.2.2.2
    obtain ⟨-, g2, g3, -⟩ := hI.2.1.2.1
    have c6 := g2 x hx
    have cp := fun j hj => g3 x j hx hj
    obtain ⟨f1, f2, f3, f4, f5⟩ := arc_f hW hA hx
    have t12 := hM.2.2.2.1 x hx
    have t13 := hM.2.2.2.2 x hx
    have mp := fun j (hj : j < 100) => m_arcPoint (j := j) hW hI'.2.2.1 hM hA hl hx hj
    have p0 : fX8_arcPoint x 0 τ' = some (pt L (ag (allA L L.nr) x) 0 : Int) := mp 0 (by omega)
    have hN := fun p hp => c_isNode (p := p) hW hI.1.2.2.1 hI.1.2.2.2.1 hp
    have z0 := cp 0 (by omega)
    have z1 := cp 1 (by omega)
    by_cases u0 : u = 0
    · subst u0
      refine ⟨(ag (allA L L.nr) x).2.2.1, τ', ?_, ?_, L, hI'⟩
      · simp (disch := omega) only [fX7_arc, m2, c6, if_pos, if_neg, Int.reduceAdd, Int.reduceSub, Int.reduceMul, Int.zero_add, Int.add_zero, Nat.zero_add, na_0, ca_la, ca_al, ca_lm, ca_add, ca_mod, ca_lit, tn_c, Int.natCast_zero, bd_some, bd2_some, bindv_e, chk_ok, cr_ok, crl_ok, chd_ok, chb_0, chb_1, cr_bI, chb_bI, ite_bI0, if_true, if_false]
      · simp (disch := omega) only [fX8_arc, m1, t12, if_pos, if_neg, Int.reduceAdd, Int.reduceSub, Int.reduceMul, Int.zero_add, Int.add_zero, Nat.zero_add, na_0, ca_la, ca_al, ca_lm, ca_add, ca_mod, ca_lit, tn_c, Int.natCast_zero, bd_some, bd2_some, bindv_e, chk_ok, cr_ok, crl_ok, chd_ok, chb_0, chb_1, cr_bI, chb_bI, ite_bI0, if_true, if_false]
    by_cases u1 : u = 1
    · subst u1
      refine ⟨pt L (ag (allA L L.nr) x) 0, τ', ?_, ?_, L, hI'⟩
      · simp (disch := omega) only [fX7_arc, fX0_firstOf, m2, z0, if_pos, if_neg, Int.reduceAdd, Int.reduceSub, Int.reduceMul, Int.zero_add, Int.add_zero, Nat.zero_add, na_0, ca_la, ca_al, ca_lm, ca_add, ca_mod, ca_lit, tn_c, Int.natCast_zero, bd_some, bd2_some, bindv_e, chk_ok, cr_ok, crl_ok, chd_ok, chb_0, chb_1, cr_bI, chb_bI, ite_bI0, if_true, if_false]
      · simp (disch := omega) only [fX8_arc, m1, p0, if_pos, if_neg, Int.reduceAdd, Int.reduceSub, Int.reduceMul, Int.zero_add, Int.add_zero, Nat.zero_add, na_0, ca_la, ca_al, ca_lm, ca_add, ca_mod, ca_lit, tn_c, Int.natCast_zero, bd_some, bd2_some, bindv_e, chk_ok, cr_ok, crl_ok, chd_ok, chb_0, chb_1, cr_bI, chb_bI, ite_bI0, if_true, if_false]
    by_cases u2 : u = 2
    · subst u2
      have ez : ((ag (allA L L.nr) x).2.2.1 : Int) - 1 = (((ag (allA L L.nr) x).2.2.1 - 1 : Nat) : Int) := by omega
      have zl := cp ((ag (allA L L.nr) x).2.2.1 - 1) (by omega)
      have pl := mp ((ag (allA L L.nr) x).2.2.1 - 1) (by omega)
      have nl := hN _ (f3 ((ag (allA L L.nr) x).2.2.1 - 1))
      rcases f4 with ⟨y1, y2⟩ | ⟨y1, y2⟩
      · rw [bI_f (y2 _)] at nl
        rw [bI_t y1] at t13
        refine ⟨pt L (ag (allA L L.nr) x) 0, τ', ?_, ?_, L, hI'⟩
        · simp (disch := omega) only [fX7_arc, fX0_lastOf, fX0_lastOf_42, fX0_lastOf_50, m2, c6, ez, zl, nl, z0, if_pos, if_neg, Int.reduceAdd, Int.reduceSub, Int.reduceMul, Int.zero_add, Int.add_zero, Nat.zero_add, na_0, ca_la, ca_al, ca_lm, ca_add, ca_mod, ca_lit, tn_c, Int.natCast_zero, bd_some, bd2_some, bindv_e, chk_ok, cr_ok, crl_ok, chd_ok, chb_0, chb_1, cr_bI, chb_bI, ite_bI0, if_true, if_false]
        · simp (disch := omega) only [fX8_arc, fX8_arc_85, m1, t13, p0, if_pos, if_neg, Int.reduceAdd, Int.reduceSub, Int.reduceMul, Int.zero_add, Int.add_zero, Nat.zero_add, na_0, ca_la, ca_al, ca_lm, ca_add, ca_mod, ca_lit, tn_c, Int.natCast_zero, bd_some, bd2_some, bindv_e, chk_ok, cr_ok, crl_ok, chd_ok, chb_0, chb_1, cr_bI, chb_bI, ite_bI0, if_true, if_false]
      · rw [bI_t y2] at nl
        rw [bI_f (by rw [y1]; exact Bool.false_ne_true)] at t13
        refine ⟨pt L (ag (allA L L.nr) x) ((ag (allA L L.nr) x).2.2.1 - 1), τ', ?_, ?_, L, hI'⟩
        · simp (disch := omega) only [fX7_arc, fX0_lastOf, fX0_lastOf_42, fX0_lastOf_50, m2, c6, ez, zl, nl, z0, if_pos, if_neg, Int.reduceAdd, Int.reduceSub, Int.reduceMul, Int.zero_add, Int.add_zero, Nat.zero_add, na_0, ca_la, ca_al, ca_lm, ca_add, ca_mod, ca_lit, tn_c, Int.natCast_zero, bd_some, bd2_some, bindv_e, chk_ok, cr_ok, crl_ok, chd_ok, chb_0, chb_1, cr_bI, chb_bI, ite_bI0, if_true, if_false]
        · simp (disch := omega) only [fX8_arc, fX8_arc_85, m1, t12, t13, ez, pl, if_pos, if_neg, Int.reduceAdd, Int.reduceSub, Int.reduceMul, Int.zero_add, Int.add_zero, Nat.zero_add, na_0, ca_la, ca_al, ca_lm, ca_add, ca_mod, ca_lit, tn_c, Int.natCast_zero, bd_some, bd2_some, bindv_e, chk_ok, cr_ok, crl_ok, chd_ok, chb_0, chb_1, cr_bI, chb_bI, ite_bI0, if_true, if_false]
    by_cases u3 : u = 3
    · subst u3
      obtain ⟨y, y1, y2⟩ := m_ringsOfArc (v := -1) hW hI'.2.2.1 hM hA hl hx (by omega)
      have l0 := f3 0
      have l1 := f3 1
      have eY : y = us L (pt L (ag (allA L L.nr) x) 0) (pt L (ag (allA L L.nr) x) 1) := by
        rcases y1 with ⟨-, y1⟩ | ⟨y1, -⟩
        · rw [y1]; exact uq_us hW _ _
        · omega
      subst eY
      obtain ⟨ne, A, B, hG⟩ := hI.1.2.2.2.1
      have hE := c_edgeBetween (p := pt L (ag (allA L L.nr) x) 0) (q := pt L (ag (allA L L.nr) x) 1) hG.1 hnp (by omega) (by omega)
      refine ⟨us L (pt L (ag (allA L L.nr) x) 0) (pt L (ag (allA L L.nr) x) 1), τ', ?_, ?_, L, hI'⟩
      · rcases hE with ⟨e, e1, e2, e3⟩ | ⟨e1, -⟩
        · have h60 := hG.1.2.1
          have e4 : σ 103 e = us L (A e) (B e) := hG.2.2.1 e e1
          have e5 : us L (A e) (B e) = us L (pt L (ag (allA L L.nr) x) 0) (pt L (ag (allA L L.nr) x) 1) := by
            rcases e2 with ⟨q1, q2⟩ | ⟨q1, q2⟩
            · rw [q1, q2]
            · rw [q1, q2, us_sw]
          rw [e5] at e4
          simp (disch := omega) only [fX7_arc, fX0_ringsOf, fX0_ringsOf_41, m2, z0, z1, e3, e4, if_pos, if_neg, Int.reduceAdd, Int.reduceSub, Int.reduceMul, Int.zero_add, Int.add_zero, Nat.zero_add, na_0, ca_la, ca_al, ca_lm, ca_add, ca_mod, ca_lit, tn_c, Int.natCast_zero, bd_some, bd2_some, bindv_e, chk_ok, cr_ok, crl_ok, chd_ok, chb_0, chb_1, cr_bI, chb_bI, ite_bI0, if_true, if_false]
        · obtain ⟨e, q1, q2⟩ := hG.2.2.2.2.1 _ _ l0 l1 f5
          exact absurd q2 (e1 e q1)
      · simp (disch := omega) only [fX8_arc, m1, y2, if_pos, if_neg, Int.reduceAdd, Int.reduceSub, Int.reduceMul, Int.zero_add, Int.add_zero, Nat.zero_add, na_0, ca_la, ca_al, ca_lm, ca_add, ca_mod, ca_lit, tn_c, Int.natCast_zero, bd_some, bd2_some, bindv_e, chk_ok, cr_ok, crl_ok, chd_ok, chb_0, chb_1, cr_bI, chb_bI, ite_bI0, if_true, if_false]
    refine ⟨-1, τ', ?_, ?_, L, hI'⟩
    · simp (disch := omega) only [fX7_arc, m2, if_pos, if_neg, Int.reduceAdd, Int.reduceSub, Int.reduceMul, Int.zero_add, Int.add_zero, Nat.zero_add, na_0, ca_la, ca_al, ca_lm, ca_add, ca_mod, ca_lit, tn_c, Int.natCast_zero, bd_some, bd2_some, bindv_e, chk_ok, cr_ok, crl_ok, chd_ok, chb_0, chb_1, cr_bI, chb_bI, ite_bI0, if_true, if_false]
    · simp (disch := omega) only [fX8_arc, m1, if_pos, if_neg, Int.reduceAdd, Int.reduceSub, Int.reduceMul, Int.zero_add, Int.add_zero, Nat.zero_add, na_0, ca_la, ca_al, ca_lm, ca_add, ca_mod, ca_lit, tn_c, Int.natCast_zero, bd_some, bd2_some, bindv_e, chk_ok, cr_ok, crl_ok, chd_ok, chb_0, chb_1, cr_bI, chb_bI, ite_bI0, if_true, if_false]
  · rw [bI_f w] at m1 m2
    refine ⟨-1, τ', ?_, ?_, L, hI'⟩
    · simp (disch := omega) only [fX7_arc, m2, if_pos, Int.reduceAdd, Int.reduceSub, Int.reduceMul, Int.zero_add, Int.add_zero, Nat.zero_add, na_0, ca_la, ca_al, ca_lm, ca_add, ca_mod, ca_lit, tn_c, Int.natCast_zero, bd_some, bd2_some, bindv_e, chk_ok, cr_ok, crl_ok, chd_ok, chb_0, chb_1, cr_bI, chb_bI, ite_bI0, if_true, if_false]
    · simp (disch := omega) only [fX8_arc, m1, if_pos, Int.reduceAdd, Int.reduceSub, Int.reduceMul, Int.zero_add, Int.add_zero, Nat.zero_add, na_0, ca_la, ca_al, ca_lm, ca_add, ca_mod, ca_lit, tn_c, Int.natCast_zero, bd_some, bd2_some, bindv_e, chk_ok, cr_ok, crl_ok, chd_ok, chb_0, chb_1, cr_bI, chb_bI, ite_bI0, if_true, if_false]
