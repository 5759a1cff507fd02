/-! counts, both -/
noncomputable def PWE (L : Ld) : Int := sm (fun p => bI (0 < dg L p)) L.np
theorem sm_bI_b (P : Nat → Prop) (n : Nat) : 0 ≤ sm (fun p => bI (P p)) n ∧ sm (fun p => bI (P p)) n ≤ n := by
  have := sm_b (t := fun p => bI (P p)) (a := 0) (b := 1) (n := n) (fun j _ => bI_b _)
  omega
theorem c_pwe {σ : Mm} {L : Ld} (h : LDC σ 95 L) : fX1_pointsWithEdges 95 σ = some (PWE L) := by
  obtain ⟨hw, -, hC, hE, -⟩ := h
  have hn := hw.1
  obtain ⟨hN, -⟩ := CL95 hC
  obtain ⟨ne, A, B, -, -, -, -, -, -, hD, -⟩ := hE
  have key := it_sum0 (f := fun c => fX1_pointsWithEdges_4 95 σ (fun v => fX1_pointsWithEdges_30 95 v σ) c) L.np (fun p => bI (0 < dg L p)) (fun v => some v) 0 (by omega) (fun c a p hp => by
    have d1 : σ (95 + 9) p = dg L p := hD p hp
    have d2 := dg_b hw p
    simp (disch := omega) only [fX1_pointsWithEdges_4, fX1_pointsWithEdges_24, hN, d1, if_pos, Int.reduceAdd, Int.reduceSub, Int.reduceMul, Int.zero_add, Int.add_zero, Nat.zero_add, na_0, ca_la, ca_al, ca_lm, ca_add, ca_mod, ca_lit, tn_c, Int.natCast_zero, bd_some, bd2_some, bindv_e, chk_ok, cr_ok, crl_ok, chd_ok, chb_0, chb_1, cr_bI, chb_bI, ite_bI0, if_true, if_false]
    by_cases w : 0 < dg L p
    · rw [if_pos w, bI_t w]
    · rw [if_neg w, bI_f w, Int.add_zero]) (fun c a => by
    simp (disch := omega) only [fX1_pointsWithEdges_4, fX1_pointsWithEdges_30, hN, if_neg, Int.reduceAdd, Int.reduceSub, Int.reduceMul, Int.zero_add, Int.add_zero, Nat.zero_add, na_0, ca_la, ca_al, ca_lm, ca_add, ca_mod, ca_lit, tn_c, Int.natCast_zero, bd_some, bd2_some, bindv_e, chk_ok, cr_ok, crl_ok, chd_ok, chb_0, chb_1, cr_bI, chb_bI, ite_bI0, if_true, if_false])
  rw [Int.zero_add] at key
  unfold fX1_pointsWithEdges
  rw [bindv_e, bindv_e]
  unfold lX1_pointsWithEdges_4
  exact key
noncomputable def NWE (L : Ld) : Int := sm (fun p => bI (0 < dg L p ∧ ND L p)) L.np
theorem c_nwe {σ : Mm} {L : Ld} (h : LDC σ 95 L) : fX1_nodesWithEdges 95 σ = some (NWE L) := by
  obtain ⟨hw, -, hC, hE, -⟩ := h
  have hn := hw.1
  obtain ⟨hN, -⟩ := CL95 hC
  have hE2 := hE
  obtain ⟨ne, A, B, -, -, -, -, -, -, hD, -⟩ := hE
  have key := it_sum0 (f := fun c => fX1_nodesWithEdges_4 95 σ (fun v => fX1_nodesWithEdges_38 95 v σ) c) L.np (fun p => bI (0 < dg L p ∧ ND L p)) (fun v => some v) 0 (by omega) (fun c a p hp => by
    have d1 : σ (95 + 9) p = dg L p := hD p hp
    have d2 := dg_b hw p
    have d3 := c_isNode hw hC hE2 hp
    by_cases w : 0 < dg L p
    · simp (disch := omega) only [fX1_nodesWithEdges_4, fX1_nodesWithEdges_32, hN, d1, d3, if_pos, Int.reduceAdd, Int.reduceSub, Int.reduceMul, Int.zero_add, Int.add_zero, Nat.zero_add, na_0, ca_la, ca_al, ca_lm, ca_add, ca_mod, ca_lit, tn_c, Int.natCast_zero, bd_some, bd2_some, bindv_e, chk_ok, cr_ok, crl_ok, chd_ok, chb_0, chb_1, cr_bI, chb_bI, ite_bI0, if_true, if_false]
      by_cases z : ND L p
      · rw [pI_t z, bI_t ⟨w, z⟩]
      · rw [pI_f z, bI_f (fun y => z y.2), Int.add_zero]
    · simp (disch := omega) only [fX1_nodesWithEdges_4, fX1_nodesWithEdges_32, hN, d1, d3, if_pos, if_neg, Int.reduceAdd, Int.reduceSub, Int.reduceMul, Int.zero_add, Int.add_zero, Nat.zero_add, na_0, ca_la, ca_al, ca_lm, ca_add, ca_mod, ca_lit, tn_c, Int.natCast_zero, bd_some, bd2_some, bindv_e, chk_ok, cr_ok, crl_ok, chd_ok, chb_0, chb_1, cr_bI, chb_bI, ite_bI0, if_true, if_false]
      rw [bI_f (fun y => w y.1), Int.add_zero]) (fun c a => by
    simp (disch := omega) only [fX1_nodesWithEdges_4, fX1_nodesWithEdges_38, hN, if_neg, Int.reduceAdd, Int.reduceSub, Int.reduceMul, Int.zero_add, Int.add_zero, Nat.zero_add, na_0, ca_la, ca_al, ca_lm, ca_add, ca_mod, ca_lit, tn_c, Int.natCast_zero, bd_some, bd2_some, bindv_e, chk_ok, cr_ok, crl_ok, chd_ok, chb_0, chb_1, cr_bI, chb_bI, ite_bI0, if_true, if_false])
  rw [Int.zero_add] at key
  unfold fX1_nodesWithEdges
  rw [bindv_e, bindv_e]
  unfold lX1_nodesWithEdges_4
  exact key
noncomputable def PND (L : Ld) : Int := sm (fun p => bI (L.P p = 1)) L.np
theorem c_pinned {σ : Mm} {L : Ld} (h : LDC σ 95 L) : fX1_pinned 95 σ = some (PND L) := by
  obtain ⟨hw, -, hC, -, -⟩ := h
  have hn := hw.1
  obtain ⟨hN, -, -, -, hP, -⟩ := CL95 hC
  have key := it_sum0 (f := fun c => fX1_pinned_4 95 σ (fun v => fX1_pinned_30 95 v σ) c) L.np (fun p => bI (L.P p = 1)) (fun v => some v) 0 (by omega) (fun c a p hp => by
    have d1 : σ (95 + 3) p = L.P p := hP p hp
    have d2 := hw.2.2.2.2.2.2.2 p hp
    simp (disch := omega) only [fX1_pinned_4, fX1_pinned_24, hN, d1, if_pos, Int.reduceAdd, Int.reduceSub, Int.reduceMul, Int.zero_add, Int.add_zero, Nat.zero_add, na_0, ca_la, ca_al, ca_lm, ca_add, ca_mod, ca_lit, tn_c, Int.natCast_zero, bd_some, bd2_some, bindv_e, chk_ok, cr_ok, crl_ok, chd_ok, chb_0, chb_1, cr_bI, chb_bI, ite_bI0, if_true, if_false]
    by_cases w : L.P p = 1
    · rw [if_neg (by omega), bI_t w]
    · rw [if_pos (by omega), bI_f w, Int.add_zero]) (fun c a => by
    simp (disch := omega) only [fX1_pinned_4, fX1_pinned_30, hN, if_neg, Int.reduceAdd, Int.reduceSub, Int.reduceMul, Int.zero_add, Int.add_zero, Nat.zero_add, na_0, ca_la, ca_al, ca_lm, ca_add, ca_mod, ca_lit, tn_c, Int.natCast_zero, bd_some, bd2_some, bindv_e, chk_ok, cr_ok, crl_ok, chd_ok, chb_0, chb_1, cr_bI, chb_bI, ite_bI0, if_true, if_false])
  rw [Int.zero_add] at key
  unfold fX1_pinned
  rw [bindv_e, bindv_e]
  unfold lX1_pinned_4
  exact key
noncomputable def OFP (L : Ld) (v : Int) (p : Nat) : Prop := (v = 3 ∧ 0 < dg L p ∧ ND L p) ∨ (v = 6 ∧ 0 < dg L p) ∨ (v = 7 ∧ L.P p = 1)
theorem m_ofPoints {τ : Mm} {L : Ld} {v : Int} (hw : WF L) (h : ML τ 0 L) (hD : DG τ L) (hv : v = 3 ∨ v = 6 ∨ v = 7) : fX8_ofPoints v τ = some (sm (fun p => bI (OFP L v p)) L.np) := by
  have hn := hw.1
  have hN := m_points h
  obtain ⟨-, -, -, -, hP, -⟩ := ML0 h
  have key := it_sum0 (f := fun c => fX8_ofPoints_4 v τ (fun v => fX8_ofPoints_104 v τ) c) L.np (fun p => bI (OFP L v p)) (fun v => some v) 0 (by omega) (fun c a p hp => by
    have d1 := hD p hp
    have d2 := dg_b hw p
    have d3 := m_isNode hw h hD hp
    have d4 := hw.2.2.2.2.2.2.2 p hp
    have d5 := hP p hp
    rcases hv with q | q | q
    · subst q
      by_cases w : 0 < dg L p
      · simp (disch := omega) only [fX8_ofPoints_4, fX8_ofPoints_38, fX8_ofPoints_83, fX8_ofPoints_96, hN, d1, d3, if_pos, Int.reduceAdd, Int.reduceSub, Int.reduceMul, Int.zero_add, Int.add_zero, Nat.zero_add, na_0, ca_la, ca_al, ca_lm, ca_add, ca_mod, ca_lit, tn_c, Int.natCast_zero, bd_some, bd2_some, bindv_e, chk_ok, cr_ok, crl_ok, chd_ok, chb_0, chb_1, cr_bI, chb_bI, ite_bI0, if_true, if_false]
        by_cases z : ND L p
        · rw [pI_t z, if_neg (by omega), bI_t (show OFP L 3 p from Or.inl ⟨rfl, w, z⟩)]
        · rw [pI_f z, bI_f (show ¬ OFP L 3 p by unfold OFP; simp [z]), Int.add_zero]
      · simp (disch := omega) only [fX8_ofPoints_4, fX8_ofPoints_38, fX8_ofPoints_83, fX8_ofPoints_96, hN, d1, d3, if_pos, if_neg, Int.reduceAdd, Int.reduceSub, Int.reduceMul, Int.zero_add, Int.add_zero, Nat.zero_add, na_0, ca_la, ca_al, ca_lm, ca_add, ca_mod, ca_lit, tn_c, Int.natCast_zero, bd_some, bd2_some, bindv_e, chk_ok, cr_ok, crl_ok, chd_ok, chb_0, chb_1, cr_bI, chb_bI, ite_bI0, if_true, if_false]
        rw [bI_f (show ¬ OFP L 3 p by unfold OFP; simp [w]), Int.add_zero]
    · subst q
      by_cases w : 0 < dg L p
      · simp (disch := omega) only [fX8_ofPoints_4, fX8_ofPoints_38, fX8_ofPoints_83, fX8_ofPoints_96, hN, d1, if_pos, if_neg, Int.reduceAdd, Int.reduceSub, Int.reduceMul, Int.zero_add, Int.add_zero, Nat.zero_add, na_0, ca_la, ca_al, ca_lm, ca_add, ca_mod, ca_lit, tn_c, Int.natCast_zero, bd_some, bd2_some, bindv_e, chk_ok, cr_ok, crl_ok, chd_ok, chb_0, chb_1, cr_bI, chb_bI, ite_bI0, if_true, if_false]
        rw [bI_t (show OFP L 6 p by unfold OFP; simp [w])]
      · simp (disch := omega) only [fX8_ofPoints_4, fX8_ofPoints_38, fX8_ofPoints_83, fX8_ofPoints_96, hN, d1, if_pos, if_neg, Int.reduceAdd, Int.reduceSub, Int.reduceMul, Int.zero_add, Int.add_zero, Nat.zero_add, na_0, ca_la, ca_al, ca_lm, ca_add, ca_mod, ca_lit, tn_c, Int.natCast_zero, bd_some, bd2_some, bindv_e, chk_ok, cr_ok, crl_ok, chd_ok, chb_0, chb_1, cr_bI, chb_bI, ite_bI0, if_true, if_false]
        rw [bI_f (show ¬ OFP L 6 p by unfold OFP; simp [w]), Int.add_zero]
    · subst q
      by_cases w : L.P p = 1
      · simp (disch := omega) only [fX8_ofPoints_4, fX8_ofPoints_38, fX8_ofPoints_83, fX8_ofPoints_96, hN, d5, if_pos, if_neg, Int.reduceAdd, Int.reduceSub, Int.reduceMul, Int.zero_add, Int.add_zero, Nat.zero_add, na_0, ca_la, ca_al, ca_lm, ca_add, ca_mod, ca_lit, tn_c, Int.natCast_zero, bd_some, bd2_some, bindv_e, chk_ok, cr_ok, crl_ok, chd_ok, chb_0, chb_1, cr_bI, chb_bI, ite_bI0, if_true, if_false]
        rw [bI_t (show OFP L 7 p by unfold OFP; simp [w])]
      · simp (disch := omega) only [fX8_ofPoints_4, fX8_ofPoints_38, fX8_ofPoints_83, fX8_ofPoints_96, hN, d5, if_pos, if_neg, Int.reduceAdd, Int.reduceSub, Int.reduceMul, Int.zero_add, Int.add_zero, Nat.zero_add, na_0, ca_la, ca_al, ca_lm, ca_add, ca_mod, ca_lit, tn_c, Int.natCast_zero, bd_some, bd2_some, bindv_e, chk_ok, cr_ok, crl_ok, chd_ok, chb_0, chb_1, cr_bI, chb_bI, ite_bI0, if_true, if_false]
        rw [bI_f (show ¬ OFP L 7 p by unfold OFP; simp [w]), Int.add_zero]) (fun c a => by
    simp (disch := omega) only [fX8_ofPoints_4, fX8_ofPoints_104, hN, if_neg, Int.reduceAdd, Int.reduceSub, Int.reduceMul, Int.zero_add, Int.add_zero, Nat.zero_add, na_0, ca_la, ca_al, ca_lm, ca_add, ca_mod, ca_lit, tn_c, Int.natCast_zero, bd_some, bd2_some, bindv_e, chk_ok, cr_ok, crl_ok, chd_ok, chb_0, chb_1, cr_bI, chb_bI, ite_bI0, if_true, if_false])
  rw [Int.zero_add] at key
  unfold fX8_ofPoints
  rw [bindv_e, bindv_e]
  unfold lX8_ofPoints_4
  exact key
theorem m_edges {σ τ : Mm} {L : Ld} (hC : LDC σ 95 L) (h : ML τ 0 L) (hD : DG τ L) : fX8_edges τ = some (σ 95 11) := by
  obtain ⟨hw, -, -, hE, -⟩ := hC
  have hn := hw.1
  have hN := m_points h
  obtain ⟨ne, A, B, ⟨e1, e2, -⟩, -, -, -, -, -, -, hs⟩ := hE
  have key := it_sum0 (f := fun c => fX8_edges_4 τ (fun v => fX8_edges_27 v τ) c) L.np (dg L) (fun v => fX8_edges_27 v τ) 0 (by omega) (fun c a p hp => by
    have d1 := hD p hp
    simp (disch := omega) only [fX8_edges_4, hN, d1, if_pos, Int.reduceAdd, Int.reduceSub, Int.reduceMul, Int.zero_add, Int.add_zero, Nat.zero_add, na_0, ca_la, ca_al, ca_lm, ca_add, ca_mod, ca_lit, tn_c, Int.natCast_zero, bd_some, bd2_some, bindv_e, chk_ok, cr_ok, crl_ok, chd_ok, chb_0, chb_1, cr_bI, chb_bI, ite_bI0, if_true, if_false]) (fun c a => by
    simp (disch := omega) only [fX8_edges_4, hN, if_neg, Int.reduceAdd, Int.reduceSub, Int.reduceMul, Int.zero_add, Int.add_zero, Nat.zero_add, na_0, ca_la, ca_al, ca_lm, ca_add, ca_mod, ca_lit, tn_c, Int.natCast_zero, bd_some, bd2_some, bindv_e, chk_ok, cr_ok, crl_ok, chd_ok, chb_0, chb_1, cr_bI, chb_bI, ite_bI0, if_true, if_false])
  rw [Int.zero_add, show sm (dg L) L.np = 2 * (ne : Int) from hs] at key
  unfold fX8_edges
  rw [bindv_e, bindv_e]
  unfold lX8_edges_4
  rw [key, e1]
  unfold fX8_edges_27
  rw [chd_ok (by omega), show 2 * (ne : Int) / 2 = ne by omega]
theorem left_cnt {L : Ld} {gb : Nat → Nat} {sz : Nat → Int} : ∀ {s n : Nat}, PRE L gb sz n → s ≤ n → sm (fun p => bI (0 < dg L p ∧ alG gb s p = true)) L.np = PWE L - s
  | 0, _, _, _ => by
    have e : sm (fun p => bI (0 < dg L p ∧ alG gb 0 p = true)) L.np = PWE L := sm_c (fun p _ => bI_c ⟨fun z => z.1, fun z => ⟨z, rfl⟩⟩)
    rw [e]
    simp
  | s + 1, n, h, hs => by
    have ih := left_cnt (s := s) h (by omega)
    obtain ⟨hb, -⟩ := h s (by omega)
    have ha := (WHY_0 hb.1.2).2.1
    have hd : 0 < dg L (gb (s + 1)) := by
      have := (WHY_0 hb.1.2).1
      unfold ND at this
      omega
    have e : ∀ p, bI (0 < dg L p ∧ alG gb s p = true) = bI (0 < dg L p ∧ alG gb (s + 1) p = true) + bI (p = gb (s + 1)) := by
      intro p
      have e1 : alG gb (s + 1) p = true ↔ alG gb s p = true ∧ p ≠ gb (s + 1) := by
        show (alG gb s p && p != gb (s + 1)) = true ↔ _
        rw [Bool.and_eq_true, bne_iff_ne]
      by_cases w : p = gb (s + 1)
      · rw [bI_t w, bI_t (show 0 < dg L p ∧ alG gb s p = true by rw [w]; exact ⟨hd, ha⟩), bI_f (fun z => (e1.mp z.2).2 w)]; rfl
      · rw [bI_f w, Int.add_zero]
        exact bI_c ⟨fun z => ⟨z.1, e1.mpr ⟨z.2, w⟩⟩, fun z => ⟨z.1, (e1.mp z.2).1⟩⟩
    rw [sm_c (fun p _ => e p), sm_add, sm_one hb.1.1] at ih
    omega
theorem m_leftAt {τ : Mm} {L : Ld} {gb : Nat → Nat} {sz : Nat → Int} {n s : Nat} (hw : WF L) (h : ML τ 0 L) (hR : PRE L gb sz n) (hM : MP τ L gb sz n) (hs : s ≤ n) : fX8_leftAt s τ = some (PWE L - s) := by
  have hn := hw.1
  have hnn := PRE_le hR
  have hN := m_points h
  obtain ⟨-, -, hG, -, hD⟩ := hM
  have key := it_sum0 (f := fun c => fX8_leftAt_4 s τ (fun v => fX8_leftAt_44 v τ) c) L.np (fun p => bI (0 < dg L p ∧ alG gb s p = true)) (fun v => some v) 0 (by omega) (fun c a p hp => by
    have d1 := hD p hp
    have d2 := dg_b hw p
    have d3 := m_isThere (p := p) (s := s) hG (by omega) (by omega)
    rw [als_al hR hs] at d3
    by_cases w : 0 < dg L p
    · simp (disch := omega) only [fX8_leftAt_4, fX8_leftAt_35, fX8_leftAt_36, hN, d1, d3, if_pos, Int.reduceAdd, Int.reduceSub, Int.reduceMul, Int.zero_add, Int.add_zero, Nat.zero_add, na_0, ca_la, ca_al, ca_lm, ca_add, ca_mod, ca_lit, tn_c, Int.natCast_zero, bd_some, bd2_some, bindv_e, chk_ok, cr_ok, crl_ok, chd_ok, chb_0, chb_1, cr_bI, chb_bI, ite_bI0, if_true, if_false]
      by_cases z : alG gb s p = true
      · rw [pI_t z, bI_t ⟨w, z⟩]
      · rw [pI_f z, bI_f (fun y => z y.2), Int.add_zero]
    · simp (disch := omega) only [fX8_leftAt_4, fX8_leftAt_35, fX8_leftAt_36, hN, d1, d3, if_pos, if_neg, Int.reduceAdd, Int.reduceSub, Int.reduceMul, Int.zero_add, Int.add_zero, Nat.zero_add, na_0, ca_la, ca_al, ca_lm, ca_add, ca_mod, ca_lit, tn_c, Int.natCast_zero, bd_some, bd2_some, bindv_e, chk_ok, cr_ok, crl_ok, chd_ok, chb_0, chb_1, cr_bI, chb_bI, ite_bI0, if_true, if_false]
      rw [bI_f (fun y => w y.1), Int.add_zero]) (fun c a => by
    simp (disch := omega) only [fX8_leftAt_4, fX8_leftAt_44, hN, if_neg, Int.reduceAdd, Int.reduceSub, Int.reduceMul, Int.zero_add, Int.add_zero, Nat.zero_add, na_0, ca_la, ca_al, ca_lm, ca_add, ca_mod, ca_lit, tn_c, Int.natCast_zero, bd_some, bd2_some, bindv_e, chk_ok, cr_ok, crl_ok, chd_ok, chb_0, chb_1, cr_bI, chb_bI, ite_bI0, if_true, if_false])
  rw [Int.zero_add, left_cnt hR hs] at key
  unfold fX8_leftAt
  rw [bindv_e, bindv_e]
  unfold lX8_leftAt_4
  exact key
theorem gaF_gb {L : Ld} {gb : Nat → Nat} {sz : Nat → Int} {n j : Nat} (h : PRE L gb sz n) (h1 : 1 ≤ j) (h2 : j ≤ n) : gaF gb n (gb j) = j := by
  rcases gaF_sp (gb := gb) (p := gb j) (s := n) with ⟨-, q⟩ | ⟨q1, q2⟩
  · exact absurd rfl (alG_iff.mp q j h1 h2)
  · have q3 := gaF_le gb (gb j) n
    rcases Nat.lt_trichotomy (gaF gb n (gb j)) j with w | w | w
    · exact absurd q2 (gb_inj h q1 w h2)
    · exact w
    · exact absurd q2.symm (gb_inj h h1 w q3)
theorem sz_b {L : Ld} {gb : Nat → Nat} {sz : Nat → Int} {n j : Nat} (hw : WF L) (h : PRE L gb sz n) (h1 : 1 ≤ j) (h2 : j ≤ n) : gb j < L.np ∧ 0 ≤ sz j ∧ sz j ≤ 79202 := by
  obtain ⟨b1, b2⟩ := h (j - 1) (by omega)
  rw [show j - 1 + 1 = j by omega] at b1 b2
  refine ⟨b1.1.1, ?_⟩
  rw [b2]
  exact SZ_b hw b1.1
def CC (a b : Option (Int × Mm)) : Prop := ∃ r σ' τ', a = some (r, σ') ∧ b = some (r, τ') ∧ Inv σ' τ'
def CR (σ : Mm) (a : Option Int) (b : Option (Int × Mm)) : Prop := ∃ r τ', a = some r ∧ b = some (r, τ') ∧ Inv σ τ'
def CV (a b : Option Int) : Prop := ∃ r, a = some r ∧ b = some r
theorem k_fault {σ τ : Mm} (h : Inv σ τ) : CV (fX7_fault σ) (fX8_fault τ) := by
  obtain ⟨L, -, -, -, -, -, h2, -⟩ := h
  exact ⟨σ 0 10, rfl, by unfold fX8_fault; rw [h2.1]⟩
theorem k_torn {σ τ : Mm} (h : Inv σ τ) : CV (fX7_torn σ) (fX8_torn τ) := by
  obtain ⟨L, -, -, -, -, -, h2, -⟩ := h
  exact ⟨σ 0 11, rfl, by unfold fX8_torn; rw [h2.2]⟩
theorem k_rule {σ τ : Mm} {v : Int} (h : Inv σ τ) (hv : inR v) : CR σ (fX7_rule v σ) (fX8_rule v τ) := by
  obtain ⟨L, hI⟩ := h
  obtain ⟨τ', gb, sz, n, m1, hI', m3⟩ := inv_makes hI
  obtain ⟨hC, -, hM, -, -⟩ := id hI'
  have hn := hC.1.1
  obtain ⟨cN, cR, -⟩ := CL95 hC.2.2.1
  have mN := m_points hM
  have mR := m_rings hM
  obtain ⟨hR, ⟨s1, -⟩, hMP, ⟨a1, -⟩⟩ := m3
  have hD := hMP.2.2.2.2
  have hA := hI'.2.1.2.1.1
  have mE := m_edges hC hM hD
  have c3 := c_nwe hC
  have c6 := c_pwe hC
  have c7 := c_pinned hC
  have m3 := m_ofPoints (v := 3) hC.1 hM hD (by omega)
  have m6 := m_ofPoints (v := 6) hC.1 hM hD (by omega)
  have m7 := m_ofPoints (v := 7) hC.1 hM hD (by omega)
  have e3 : sm (fun p => bI (OFP L 3 p)) L.np = NWE L := sm_c (fun p _ => bI_c (by unfold OFP; simp))
  have e6 : sm (fun p => bI (OFP L 6 p)) L.np = PWE L := sm_c (fun p _ => bI_c (by unfold OFP; simp))
  have e7 : sm (fun p => bI (OFP L 7 p)) L.np = PND L := sm_c (fun p _ => bI_c (by unfold OFP; simp))
  rw [e3] at m3
  rw [e6] at m6
  rw [e7] at m7
  by_cases w0 : v = 0
  · subst w0
    refine ⟨L.np, τ', ?_, ?_, L, hI'⟩
    · simp (disch := omega) only [fX7_rule, cN, if_pos, Int.reduceAdd, Int.reduceSub, Int.reduceMul, Int.zero_add, Int.add_zero, Nat.zero_add, na_0, ca_la, ca_al, ca_lm, ca_add, ca_mod, ca_lit, tn_c, Int.natCast_zero, bd_some, bd2_some, bindv_e, chk_ok, cr_ok, crl_ok, chd_ok, chb_0, chb_1, cr_bI, chb_bI, ite_bI0, if_true, if_false]
    · simp (disch := omega) only [fX8_rule, m1, mN, if_pos, Int.reduceAdd, Int.reduceSub, Int.reduceMul, Int.zero_add, Int.add_zero, Nat.zero_add, na_0, ca_la, ca_al, ca_lm, ca_add, ca_mod, ca_lit, tn_c, Int.natCast_zero, bd_some, bd2_some, bindv_e, chk_ok, cr_ok, crl_ok, chd_ok, chb_0, chb_1, cr_bI, chb_bI, ite_bI0, if_true, if_false]
  by_cases w1 : v = 1
  · subst w1
    refine ⟨L.nr, τ', ?_, ?_, L, hI'⟩
    · simp (disch := omega) only [fX7_rule, cR, if_pos, if_neg, Int.reduceAdd, Int.reduceSub, Int.reduceMul, Int.zero_add, Int.add_zero, Nat.zero_add, na_0, ca_la, ca_al, ca_lm, ca_add, ca_mod, ca_lit, tn_c, Int.natCast_zero, bd_some, bd2_some, bindv_e, chk_ok, cr_ok, crl_ok, chd_ok, chb_0, chb_1, cr_bI, chb_bI, ite_bI0, if_true, if_false]
    · simp (disch := omega) only [fX8_rule, m1, mR, if_pos, if_neg, Int.reduceAdd, Int.reduceSub, Int.reduceMul, Int.zero_add, Int.add_zero, Nat.zero_add, na_0, ca_la, ca_al, ca_lm, ca_add, ca_mod, ca_lit, tn_c, Int.natCast_zero, bd_some, bd2_some, bindv_e, chk_ok, cr_ok, crl_ok, chd_ok, chb_0, chb_1, cr_bI, chb_bI, ite_bI0, if_true, if_false]
  by_cases w2 : v = 2
  · subst w2
    refine ⟨σ 95 11, τ', ?_, ?_, L, hI'⟩
    · simp (disch := omega) only [fX7_rule, if_pos, if_neg, Int.reduceAdd, Int.reduceSub, Int.reduceMul, Int.zero_add, Int.add_zero, Nat.zero_add, na_0, ca_la, ca_al, ca_lm, ca_add, ca_mod, ca_lit, tn_c, Int.natCast_zero, bd_some, bd2_some, bindv_e, chk_ok, cr_ok, crl_ok, chd_ok, chb_0, chb_1, cr_bI, chb_bI, ite_bI0, if_true, if_false]
    · simp (disch := omega) only [fX8_rule, m1, mE, if_pos, if_neg, Int.reduceAdd, Int.reduceSub, Int.reduceMul, Int.zero_add, Int.add_zero, Nat.zero_add, na_0, ca_la, ca_al, ca_lm, ca_add, ca_mod, ca_lit, tn_c, Int.natCast_zero, bd_some, bd2_some, bindv_e, chk_ok, cr_ok, crl_ok, chd_ok, chb_0, chb_1, cr_bI, chb_bI, ite_bI0, if_true, if_false]
  by_cases w3 : v = 3
  · subst w3
    refine ⟨NWE L, τ', ?_, ?_, L, hI'⟩
    · simp (disch := omega) only [fX7_rule, c3, if_pos, if_neg, Int.reduceAdd, Int.reduceSub, Int.reduceMul, Int.zero_add, Int.add_zero, Nat.zero_add, na_0, ca_la, ca_al, ca_lm, ca_add, ca_mod, ca_lit, tn_c, Int.natCast_zero, bd_some, bd2_some, bindv_e, chk_ok, cr_ok, crl_ok, chd_ok, chb_0, chb_1, cr_bI, chb_bI, ite_bI0, if_true, if_false]
    · simp (disch := omega) only [fX8_rule, fX8_rule_67, m1, m3, if_pos, if_neg, Int.reduceAdd, Int.reduceSub, Int.reduceMul, Int.zero_add, Int.add_zero, Nat.zero_add, na_0, ca_la, ca_al, ca_lm, ca_add, ca_mod, ca_lit, tn_c, Int.natCast_zero, bd_some, bd2_some, bindv_e, chk_ok, cr_ok, crl_ok, chd_ok, chb_0, chb_1, cr_bI, chb_bI, ite_bI0, if_true, if_false]
  by_cases w4 : v = 4
  · subst w4
    refine ⟨(allA L L.nr).length, τ', ?_, ?_, L, hI'⟩
    · simp (disch := omega) only [fX7_rule, hA, if_pos, if_neg, Int.reduceAdd, Int.reduceSub, Int.reduceMul, Int.zero_add, Int.add_zero, Nat.zero_add, na_0, ca_la, ca_al, ca_lm, ca_add, ca_mod, ca_lit, tn_c, Int.natCast_zero, bd_some, bd2_some, bindv_e, chk_ok, cr_ok, crl_ok, chd_ok, chb_0, chb_1, cr_bI, chb_bI, ite_bI0, if_true, if_false]
    · simp (disch := omega) only [fX8_rule, fX8_rule_67, m1, a1, if_pos, if_neg, Int.reduceAdd, Int.reduceSub, Int.reduceMul, Int.zero_add, Int.add_zero, Nat.zero_add, na_0, ca_la, ca_al, ca_lm, ca_add, ca_mod, ca_lit, tn_c, Int.natCast_zero, bd_some, bd2_some, bindv_e, chk_ok, cr_ok, crl_ok, chd_ok, chb_0, chb_1, cr_bI, chb_bI, ite_bI0, if_true, if_false]
  by_cases w5 : v = 5
  · subst w5
    refine ⟨n, τ', ?_, ?_, L, hI'⟩
    · simp (disch := omega) only [fX7_rule, s1, if_pos, if_neg, Int.reduceAdd, Int.reduceSub, Int.reduceMul, Int.zero_add, Int.add_zero, Nat.zero_add, na_0, ca_la, ca_al, ca_lm, ca_add, ca_mod, ca_lit, tn_c, Int.natCast_zero, bd_some, bd2_some, bindv_e, chk_ok, cr_ok, crl_ok, chd_ok, chb_0, chb_1, cr_bI, chb_bI, ite_bI0, if_true, if_false]
    · simp (disch := omega) only [fX8_rule, fX8_rule_67, m1, hMP.1, if_pos, if_neg, Int.reduceAdd, Int.reduceSub, Int.reduceMul, Int.zero_add, Int.add_zero, Nat.zero_add, na_0, ca_la, ca_al, ca_lm, ca_add, ca_mod, ca_lit, tn_c, Int.natCast_zero, bd_some, bd2_some, bindv_e, chk_ok, cr_ok, crl_ok, chd_ok, chb_0, chb_1, cr_bI, chb_bI, ite_bI0, if_true, if_false]
  by_cases w6 : v = 6
  · subst w6
    refine ⟨PWE L, τ', ?_, ?_, L, hI'⟩
    · simp (disch := omega) only [fX7_rule, c6, if_pos, if_neg, Int.reduceAdd, Int.reduceSub, Int.reduceMul, Int.zero_add, Int.add_zero, Nat.zero_add, na_0, ca_la, ca_al, ca_lm, ca_add, ca_mod, ca_lit, tn_c, Int.natCast_zero, bd_some, bd2_some, bindv_e, chk_ok, cr_ok, crl_ok, chd_ok, chb_0, chb_1, cr_bI, chb_bI, ite_bI0, if_true, if_false]
    · simp (disch := omega) only [fX8_rule, fX8_rule_67, m1, m6, if_pos, if_neg, Int.reduceAdd, Int.reduceSub, Int.reduceMul, Int.zero_add, Int.add_zero, Nat.zero_add, na_0, ca_la, ca_al, ca_lm, ca_add, ca_mod, ca_lit, tn_c, Int.natCast_zero, bd_some, bd2_some, bindv_e, chk_ok, cr_ok, crl_ok, chd_ok, chb_0, chb_1, cr_bI, chb_bI, ite_bI0, if_true, if_false]
  by_cases w7 : v = 7
  · subst w7
    refine ⟨PND L, τ', ?_, ?_, L, hI'⟩
    · simp (disch := omega) only [fX7_rule, c7, if_pos, if_neg, Int.reduceAdd, Int.reduceSub, Int.reduceMul, Int.zero_add, Int.add_zero, Nat.zero_add, na_0, ca_la, ca_al, ca_lm, ca_add, ca_mod, ca_lit, tn_c, Int.natCast_zero, bd_some, bd2_some, bindv_e, chk_ok, cr_ok, crl_ok, chd_ok, chb_0, chb_1, cr_bI, chb_bI, ite_bI0, if_true, if_false]
    · simp (disch := omega) only [fX8_rule, fX8_rule_67, m1, m7, if_pos, if_neg, Int.reduceAdd, Int.reduceSub, Int.reduceMul, Int.zero_add, Int.add_zero, Nat.zero_add, na_0, ca_la, ca_al, ca_lm, ca_add, ca_mod, ca_lit, tn_c, Int.natCast_zero, bd_some, bd2_some, bindv_e, chk_ok, cr_ok, crl_ok, chd_ok, chb_0, chb_1, cr_bI, chb_bI, ite_bI0, if_true, if_false]
  refine ⟨-1, τ', ?_, ?_, L, hI'⟩
  · simp (disch := omega) only [fX7_rule, if_pos, if_neg, Int.reduceAdd, Int.reduceSub, Int.reduceMul, Int.zero_add, Int.add_zero, Nat.zero_add, na_0, ca_la, ca_al, ca_lm, ca_add, ca_mod, ca_lit, tn_c, Int.natCast_zero, bd_some, bd2_some, bindv_e, chk_ok, cr_ok, crl_ok, chd_ok, chb_0, chb_1, cr_bI, chb_bI, ite_bI0, if_true, if_false]
  · simp (disch := omega) only [fX8_rule, m1, if_pos, if_neg, Int.reduceAdd, Int.reduceSub, Int.reduceMul, Int.zero_add, Int.add_zero, Nat.zero_add, na_0, ca_la, ca_al, ca_lm, ca_add, ca_mod, ca_lit, tn_c, Int.natCast_zero, bd_some, bd2_some, bindv_e, chk_ok, cr_ok, crl_ok, chd_ok, chb_0, chb_1, cr_bI, chb_bI, ite_bI0, if_true, if_false]
