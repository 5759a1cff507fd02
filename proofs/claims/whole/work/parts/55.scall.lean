/-! the calls that look at a scene -/
theorem k_corner {σ τ : Mm} {v u w : Int} (h : Inv σ τ) (hv : inR v) (hu : inR u) (hw : inR w) : CC (fX7_corner v u w σ) (fX8_corner v u w τ) := by
  obtain ⟨L, hI⟩ := h
  have hW := hI.1.1
  have hn := hW.2.1
  obtain ⟨-, cR, -⟩ := CL95 hI.1.2.2.1
  have e1 := c_isBelow σ (v := v) (n := (L.nr : Int)) hv (by omega)
  have e2 := m_isRing hW hI.2.2.1 hv
  by_cases w1 : 0 ≤ v ∧ v < (L.nr : Int)
  · obtain ⟨r, rfl, hr⟩ := cut0 w1
    rw [bI_t w1] at e1 e2
    obtain ⟨τ', gb, sz, n, m1, m2, hI', m3, l1, l2⟩ := st_view hI hu
    by_cases w2 : 0 ≤ u ∧ u ≤ (n : Int)
    · obtain ⟨s, rfl, hs⟩ := cut1 w2
      rw [bI_t w2] at m1 m2
      obtain ⟨σ', c1, c2, c3, c4⟩ := c_sceneAt hW hI.1.2.2.1 m3.1.1 m3.2.1 hs
      obtain ⟨τ2, d1, d2, d3⟩ := m_ringAt hW hI'.2.2.1 m3.2.2.1.2.2.1 hr (s := s) (by omega)
      rw [drS m3.1.1 hs] at d1 d2
      have hcn := (SCN_SW hW gb s).2.2.2.2.1 r hr
      have e3 := c_isBelow σ' (v := w) (n := ((SCN L gb s).cn r : Int)) hw (by omega)
      have e4 := m_in τ2 (v := w) (a := 0) (b := ((SCN L gb s).cn r : Int) - 1) hw (by omega) (by omega)
      have hc := c2.1 r hr
      have fin : Inv σ' τ2 := ⟨L, InvL_X (E9_X d3) (InvL_S c4 hI')⟩
      by_cases w3 : 0 ≤ w ∧ w < ((SCN L gb s).cn r : Int)
      · obtain ⟨i, rfl, hi⟩ := cut0 w3
        rw [bI_t w3] at e3
        rw [bI_t (by omega)] at e4
        have hc2 := c2.2 r i hr hi
        have d4 := d2 i hi
        refine ⟨(SCN L gb s).co r i, σ', τ2, ?_, ?_, fin⟩
        · simp (disch := omega) only [fX7_corner, fX7_corner_61, cR, e1, m2, c1, hc, e3, hc2, if_neg, Int.reduceAdd, Int.reduceSub, Int.reduceMul, Int.zero_add, Int.add_zero, Nat.zero_add, na_0, ca_la, ca_al, ca_lm, ca_add, ca_mod, ca_lit, tn_c, Int.natCast_zero, bd_some, bd2_some, bindv_e, chk_ok, cr_ok, crl_ok, chd_ok, chb_0, chb_1, cr_bI, chb_bI, ite_bI0, if_true, if_false]
        · simp (disch := omega) only [fX8_corner, fX8_corner_50, e2, m1, d1, e4, d4, if_neg, Int.reduceAdd, Int.reduceSub, Int.reduceMul, Int.zero_add, Int.add_zero, Nat.zero_add, na_0, ca_la, ca_al, ca_lm, ca_add, ca_mod, ca_lit, tn_c, Int.natCast_zero, bd_some, bd2_some, bindv_e, chk_ok, cr_ok, crl_ok, chd_ok, chb_0, chb_1, cr_bI, chb_bI, ite_bI0, if_true, if_false]
      · rw [bI_f w3] at e3
        rw [bI_f (by omega)] at e4
        refine ⟨-1, σ', τ2, ?_, ?_, fin⟩
        · simp (disch := omega) only [fX7_corner, fX7_corner_61, cR, e1, m2, c1, hc, e3, if_pos, if_neg, Int.reduceAdd, Int.reduceSub, Int.reduceMul, Int.zero_add, Int.add_zero, Nat.zero_add, na_0, ca_la, ca_al, ca_lm, ca_add, ca_mod, ca_lit, tn_c, Int.natCast_zero, bd_some, bd2_some, bindv_e, chk_ok, cr_ok, crl_ok, chd_ok, chb_0, chb_1, cr_bI, chb_bI, ite_bI0, if_true, if_false]
        · simp (disch := omega) only [fX8_corner, fX8_corner_50, e2, m1, d1, e4, if_pos, if_neg, Int.reduceAdd, Int.reduceSub, Int.reduceMul, Int.zero_add, Int.add_zero, Nat.zero_add, na_0, ca_la, ca_al, ca_lm, ca_add, ca_mod, ca_lit, tn_c, Int.natCast_zero, bd_some, bd2_some, bindv_e, chk_ok, cr_ok, crl_ok, chd_ok, chb_0, chb_1, cr_bI, chb_bI, ite_bI0, if_true, if_false]
    · rw [bI_f w2] at m1 m2
      refine ⟨-1, σ, τ', ?_, ?_, L, hI'⟩
      · simp (disch := omega) only [fX7_corner, fX7_corner_22, cR, e1, m2, if_pos, if_neg, Int.reduceAdd, Int.reduceSub, Int.reduceMul, Int.zero_add, Int.add_zero, Nat.zero_add, na_0, ca_la, ca_al, ca_lm, ca_add, ca_mod, ca_lit, tn_c, Int.natCast_zero, bd_some, bd2_some, bindv_e, chk_ok, cr_ok, crl_ok, chd_ok, chb_0, chb_1, cr_bI, chb_bI, ite_bI0, if_true, if_false]
      · simp (disch := omega) only [fX8_corner, fX8_corner_16, e2, m1, if_pos, if_neg, Int.reduceAdd, Int.reduceSub, Int.reduceMul, Int.zero_add, Int.add_zero, Nat.zero_add, na_0, ca_la, ca_al, ca_lm, ca_add, ca_mod, ca_lit, tn_c, Int.natCast_zero, bd_some, bd2_some, bindv_e, chk_ok, cr_ok, crl_ok, chd_ok, chb_0, chb_1, cr_bI, chb_bI, ite_bI0, if_true, if_false]
  · rw [bI_f w1] at e1 e2
    refine ⟨-1, σ, τ, ?_, ?_, L, hI⟩
    · simp (disch := omega) only [fX7_corner, fX7_corner_22, cR, e1, if_pos, Int.reduceAdd, Int.reduceSub, Int.reduceMul, Int.zero_add, Int.add_zero, Nat.zero_add, na_0, ca_la, ca_al, ca_lm, ca_add, ca_mod, ca_lit, tn_c, Int.natCast_zero, bd_some, bd2_some, bindv_e, chk_ok, cr_ok, crl_ok, chd_ok, chb_0, chb_1, cr_bI, chb_bI, ite_bI0, if_true, if_false]
    · simp (disch := omega) only [fX8_corner, fX8_corner_16, e2, if_pos, Int.reduceAdd, Int.reduceSub, Int.reduceMul, Int.zero_add, Int.add_zero, Nat.zero_add, na_0, ca_la, ca_al, ca_lm, ca_add, ca_mod, ca_lit, tn_c, Int.natCast_zero, bd_some, bd2_some, bindv_e, chk_ok, cr_ok, crl_ok, chd_ok, chb_0, chb_1, cr_bI, chb_bI, ite_bI0, if_true, if_false]
theorem k_edge {σ τ : Mm} {v u w : Int} (h : Inv σ τ) (hv : inR v) (hu : inR u) (hw : inR w) : CC (fX7_edge v u w σ) (fX8_edge v u w τ) := by
  obtain ⟨L, hI⟩ := h
  have hW := hI.1.1
  have hn := hW.1
  obtain ⟨cN, -⟩ := CL95 hI.1.2.2.1
  have e1 := c_isBelow σ (v := v) (n := (L.np : Int)) hv (by omega)
  have e2 := m_isPoint hW hI.2.2.1 hv
  have f1 := c_isBelow σ (v := u) (n := (L.np : Int)) hu (by omega)
  have f2 := m_isPoint hW hI.2.2.1 hu
  by_cases w1 : 0 ≤ v ∧ v < (L.np : Int)
  · obtain ⟨p, rfl, hp⟩ := cut0 w1
    rw [bI_t w1] at e1 e2
    by_cases w3 : 0 ≤ u ∧ u < (L.np : Int)
    · obtain ⟨q, rfl, hq⟩ := cut0 w3
      rw [bI_t w3] at f1 f2
      obtain ⟨τ', gb, sz, n, m1, m2, hI', m3, l1, l2⟩ := st_view hI hw
      by_cases w2 : 0 ≤ w ∧ w ≤ (n : Int)
      · obtain ⟨s, rfl, hs⟩ := cut1 w2
        rw [bI_t w2] at m1 m2
        obtain ⟨σ', c1, c2, c3, c4⟩ := c_sceneAt hW hI.1.2.2.1 m3.1.1 m3.2.1 hs
        obtain ⟨τ2, d1, d3⟩ := m_edgesAt hW hI'.2.2.1 m3.2.2.1.2.2.1 (s := s) (p := p) (q := q) (by omega) (by omega) (by omega)
        rw [drS m3.1.1 hs] at d1
        have g1 := c_usesOf hW (frS_CL c4 hI.1.2.2.1) (SCN_SW hW gb s) c2 (p := p) (q := q) (by omega) (by omega)
        have hS := SCN_WF hW hI.1.2.1 m3.1.1 hs
        have g2 := uq_us hS p q
        rw [show (SCN L gb s).nr = L.nr from rfl] at g2
        rw [g2] at g1
        refine ⟨us (SCN L gb s) p q, σ', τ2, ?_, ?_, L, InvL_X (E9_X d3) (InvL_S c4 hI')⟩
        · simp (disch := omega) only [fX7_edge, cN, e1, f1, m2, c1, g1, if_neg, Int.reduceAdd, Int.reduceSub, Int.reduceMul, Int.zero_add, Int.add_zero, Nat.zero_add, na_0, ca_la, ca_al, ca_lm, ca_add, ca_mod, ca_lit, tn_c, Int.natCast_zero, bd_some, bd2_some, bindv_e, chk_ok, cr_ok, crl_ok, chd_ok, chb_0, chb_1, cr_bI, chb_bI, ite_bI0, if_true, if_false]
        · simp (disch := omega) only [fX8_edge, fX8_edge_35, e2, f2, m1, d1, if_neg, Int.reduceAdd, Int.reduceSub, Int.reduceMul, Int.zero_add, Int.add_zero, Nat.zero_add, na_0, ca_la, ca_al, ca_lm, ca_add, ca_mod, ca_lit, tn_c, Int.natCast_zero, bd_some, bd2_some, bindv_e, chk_ok, cr_ok, crl_ok, chd_ok, chb_0, chb_1, cr_bI, chb_bI, ite_bI0, if_true, if_false]
      · rw [bI_f w2] at m1 m2
        refine ⟨-1, σ, τ', ?_, ?_, L, hI'⟩
        · simp (disch := omega) only [fX7_edge, fX7_edge_36, cN, e1, f1, m2, if_pos, if_neg, Int.reduceAdd, Int.reduceSub, Int.reduceMul, Int.zero_add, Int.add_zero, Nat.zero_add, na_0, ca_la, ca_al, ca_lm, ca_add, ca_mod, ca_lit, tn_c, Int.natCast_zero, bd_some, bd2_some, bindv_e, chk_ok, cr_ok, crl_ok, chd_ok, chb_0, chb_1, cr_bI, chb_bI, ite_bI0, if_true, if_false]
        · simp (disch := omega) only [fX8_edge, fX8_edge_34, fX8_edge_35, e2, f2, m1, if_pos, if_neg, Int.reduceAdd, Int.reduceSub, Int.reduceMul, Int.zero_add, Int.add_zero, Nat.zero_add, na_0, ca_la, ca_al, ca_lm, ca_add, ca_mod, ca_lit, tn_c, Int.natCast_zero, bd_some, bd2_some, bindv_e, chk_ok, cr_ok, crl_ok, chd_ok, chb_0, chb_1, cr_bI, chb_bI, ite_bI0, if_true, if_false]
    · rw [bI_f w3] at f1 f2
      refine ⟨-1, σ, τ, ?_, ?_, L, hI⟩
      · simp (disch := omega) only [fX7_edge, fX7_edge_36, cN, e1, f1, if_pos, if_neg, Int.reduceAdd, Int.reduceSub, Int.reduceMul, Int.zero_add, Int.add_zero, Nat.zero_add, na_0, ca_la, ca_al, ca_lm, ca_add, ca_mod, ca_lit, tn_c, Int.natCast_zero, bd_some, bd2_some, bindv_e, chk_ok, cr_ok, crl_ok, chd_ok, chb_0, chb_1, cr_bI, chb_bI, ite_bI0, if_true, if_false]
      · simp (disch := omega) only [fX8_edge, fX8_edge_34, fX8_edge_35, e2, f2, if_pos, if_neg, Int.reduceAdd, Int.reduceSub, Int.reduceMul, Int.zero_add, Int.add_zero, Nat.zero_add, na_0, ca_la, ca_al, ca_lm, ca_add, ca_mod, ca_lit, tn_c, Int.natCast_zero, bd_some, bd2_some, bindv_e, chk_ok, cr_ok, crl_ok, chd_ok, chb_0, chb_1, cr_bI, chb_bI, ite_bI0, if_true, if_false]
  · rw [bI_f w1] at e1 e2
    refine ⟨-1, σ, τ, ?_, ?_, L, hI⟩
    · simp (disch := omega) only [fX7_edge, fX7_edge_36, cN, e1, if_pos, Int.reduceAdd, Int.reduceSub, Int.reduceMul, Int.zero_add, Int.add_zero, Nat.zero_add, na_0, ca_la, ca_al, ca_lm, ca_add, ca_mod, ca_lit, tn_c, Int.natCast_zero, bd_some, bd2_some, bindv_e, chk_ok, cr_ok, crl_ok, chd_ok, chb_0, chb_1, cr_bI, chb_bI, ite_bI0, if_true, if_false]
    · simp (disch := omega) only [fX8_edge, fX8_edge_34, fX8_edge_35, e2, if_pos, Int.reduceAdd, Int.reduceSub, Int.reduceMul, Int.zero_add, Int.add_zero, Nat.zero_add, na_0, ca_la, ca_al, ca_lm, ca_add, ca_mod, ca_lit, tn_c, Int.natCast_zero, bd_some, bd2_some, bindv_e, chk_ok, cr_ok, crl_ok, chd_ok, chb_0, chb_1, cr_bI, chb_bI, ite_bI0, if_true, if_false]
theorem sc_hH {L : Ld} {gb : Nat → Nat} {s p : Nat} : ¬ ND L p → alG gb s p = true → ∃ r, r < L.nr ∧ has (SCN L gb s) r p := hH
theorem k_why {σ τ : Mm} {v w : Int} (h : Inv σ τ) (hv : inR v) (hw : inR w) : CC (fX7_why v w σ) (fX8_why v w τ) := by
  obtain ⟨L, hI⟩ := h
  have hW := hI.1.1
  have hn := hW.1
  obtain ⟨cN, -⟩ := CL95 hI.1.2.2.1
  have e1 := c_isBelow σ (v := v) (n := (L.np : Int)) hv (by omega)
  have e2 := m_isPoint hW hI.2.2.1 hv
  by_cases w1 : 0 ≤ v ∧ v < (L.np : Int)
  · obtain ⟨p, rfl, hp⟩ := cut0 w1
    rw [bI_t w1] at e1 e2
    obtain ⟨τ', gb, sz, n, m1, m2, hI', m3, l1, l2⟩ := st_view hI hw
    by_cases w2 : 0 ≤ w ∧ w ≤ (n : Int)
    · obtain ⟨s, rfl, hs⟩ := cut1 w2
      rw [bI_t w2] at m1 m2
      obtain ⟨σ', c1, c2, c3, c4⟩ := c_sceneAt hW hI.1.2.2.1 m3.1.1 m3.2.1 hs
      have hI2 := InvL_S c4 hI'
      have hS := SCN_WF hW hI.1.2.1 m3.1.1 hs
      have hG := GD_s (s := s) hW hI.1.2.1 m3.1.1 hs
      obtain ⟨τ2, d1, d3⟩ := m_whyNot (s := s) (p := p) hW hI'.2.2.1 m3.2.2.1.2.2.1 m3.2.2.1.2.2.2.2 (by omega) hp (by rw [drS m3.1.1 hs]; exact hS) (by rw [drS m3.1.1 hs]; exact hG.2) (by rw [drS m3.1.1 hs, als_fun m3.1.1 hs]; exact sc_hH)
      rw [drS m3.1.1 hs, als_fun m3.1.1 hs] at d1
      obtain ⟨σ2, g1, g2⟩ := c_reasonOf hW hI2.1.2.2.1 hI2.1.2.2.2.1 (SCN_SW hW gb s) c2 c3 sc_hH hp
      refine ⟨WHY L (SCN L gb s) (alG gb s) p, σ2, τ2, ?_, ?_, L, InvL_X (E9_X d3) (InvL_S (f17_frS g2) hI2)⟩
      · simp (disch := omega) only [fX7_why, cN, e1, m2, c1, g1, if_neg, Int.reduceAdd, Int.reduceSub, Int.reduceMul, Int.zero_add, Int.add_zero, Nat.zero_add, na_0, ca_la, ca_al, ca_lm, ca_add, ca_mod, ca_lit, tn_c, Int.natCast_zero, bd_some, bd2_some, bindv_e, chk_ok, cr_ok, crl_ok, chd_ok, chb_0, chb_1, cr_bI, chb_bI, ite_bI0, if_true, if_false]
      · simp (disch := omega) only [fX8_why, fX8_why_26, e2, m1, d1, if_neg, Int.reduceAdd, Int.reduceSub, Int.reduceMul, Int.zero_add, Int.add_zero, Nat.zero_add, na_0, ca_la, ca_al, ca_lm, ca_add, ca_mod, ca_lit, tn_c, Int.natCast_zero, bd_some, bd2_some, bindv_e, chk_ok, cr_ok, crl_ok, chd_ok, chb_0, chb_1, cr_bI, chb_bI, ite_bI0, if_true, if_false]
    · rw [bI_f w2] at m1 m2
      refine ⟨-1, σ, τ', ?_, ?_, L, hI'⟩
      · simp (disch := omega) only [fX7_why, fX7_why_22, cN, e1, m2, if_pos, if_neg, Int.reduceAdd, Int.reduceSub, Int.reduceMul, Int.zero_add, Int.add_zero, Nat.zero_add, na_0, ca_la, ca_al, ca_lm, ca_add, ca_mod, ca_lit, tn_c, Int.natCast_zero, bd_some, bd2_some, bindv_e, chk_ok, cr_ok, crl_ok, chd_ok, chb_0, chb_1, cr_bI, chb_bI, ite_bI0, if_true, if_false]
      · simp (disch := omega) only [fX8_why, fX8_why_25, fX8_why_26, e2, m1, if_pos, if_neg, Int.reduceAdd, Int.reduceSub, Int.reduceMul, Int.zero_add, Int.add_zero, Nat.zero_add, na_0, ca_la, ca_al, ca_lm, ca_add, ca_mod, ca_lit, tn_c, Int.natCast_zero, bd_some, bd2_some, bindv_e, chk_ok, cr_ok, crl_ok, chd_ok, chb_0, chb_1, cr_bI, chb_bI, ite_bI0, if_true, if_false]
  · rw [bI_f w1] at e1 e2
    refine ⟨-1, σ, τ, ?_, ?_, L, hI⟩
    · simp (disch := omega) only [fX7_why, fX7_why_22, cN, e1, if_pos, Int.reduceAdd, Int.reduceSub, Int.reduceMul, Int.zero_add, Int.add_zero, Nat.zero_add, na_0, ca_la, ca_al, ca_lm, ca_add, ca_mod, ca_lit, tn_c, Int.natCast_zero, bd_some, bd2_some, bindv_e, chk_ok, cr_ok, crl_ok, chd_ok, chb_0, chb_1, cr_bI, chb_bI, ite_bI0, if_true, if_false]
    · simp (disch := omega) only [fX8_why, fX8_why_25, fX8_why_26, e2, if_pos, Int.reduceAdd, Int.reduceSub, Int.reduceMul, Int.zero_add, Int.add_zero, Nat.zero_add, na_0, ca_la, ca_al, ca_lm, ca_add, ca_mod, ca_lit, tn_c, Int.natCast_zero, bd_some, bd2_some, bindv_e, chk_ok, cr_ok, crl_ok, chd_ok, chb_0, chb_1, cr_bI, chb_bI, ite_bI0, if_true, if_false]
theorem k_size {σ τ : Mm} {v w : Int} (h : Inv σ τ) (hv : inR v) (hw : inR w) : CC (fX7_size v w σ) (fX8_size v w τ) := by
  obtain ⟨L, hI⟩ := h
  have hW := hI.1.1
  have hn := hW.1
  obtain ⟨cN, -⟩ := CL95 hI.1.2.2.1
  have e1 := c_isBelow σ (v := v) (n := (L.np : Int)) hv (by omega)
  have e2 := m_isPoint hW hI.2.2.1 hv
  by_cases w1 : 0 ≤ v ∧ v < (L.np : Int)
  · obtain ⟨p, rfl, hp⟩ := cut0 w1
    rw [bI_t w1] at e1 e2
    obtain ⟨τ', gb, sz, n, m1, m2, hI', m3, l1, l2⟩ := st_view hI hw
    by_cases w2 : 0 ≤ w ∧ w ≤ (n : Int)
    · obtain ⟨s, rfl, hs⟩ := cut1 w2
      rw [bI_t w2] at m1 m2
      obtain ⟨σ', c1, c2, c3, c4⟩ := c_sceneAt hW hI.1.2.2.1 m3.1.1 m3.2.1 hs
      have hI2 := InvL_S c4 hI'
      have g1 := c_isNode hW hI2.1.2.2.1 hI2.1.2.2.2.1 hp
      have d1 := m_isNode hW hI'.2.2.1 m3.2.2.1.2.2.2.2 hp
      have d2 := m_isThere (p := p) (s := s) m3.2.2.1.2.2.1 (by omega) (by omega)
      rw [als_al m3.1.1 hs] at d2
      have g2 := c3 p hp
      by_cases w3 : ND L p
      · rw [bI_t w3] at g1 d1
        refine ⟨-4, σ', τ', ?_, ?_, L, hI2⟩
        · simp (disch := omega) only [fX7_size, fX7_size_53, fX7_size_63, cN, e1, m2, c1, g1, if_neg, Int.reduceAdd, Int.reduceSub, Int.reduceMul, Int.zero_add, Int.add_zero, Nat.zero_add, na_0, ca_la, ca_al, ca_lm, ca_add, ca_mod, ca_lit, tn_c, Int.natCast_zero, bd_some, bd2_some, bindv_e, chk_ok, cr_ok, crl_ok, chd_ok, chb_0, chb_1, cr_bI, chb_bI, ite_bI0, if_true, if_false]
        · simp (disch := omega) only [fX8_size, fX8_size_35, fX8_size_46, e2, m1, d1, if_neg, Int.reduceAdd, Int.reduceSub, Int.reduceMul, Int.zero_add, Int.add_zero, Nat.zero_add, na_0, ca_la, ca_al, ca_lm, ca_add, ca_mod, ca_lit, tn_c, Int.natCast_zero, bd_some, bd2_some, bindv_e, chk_ok, cr_ok, crl_ok, chd_ok, chb_0, chb_1, cr_bI, chb_bI, ite_bI0, if_true, if_false]
      · rw [bI_f w3] at g1 d1
        by_cases w4 : alG gb s p = true
        · rw [bI_t w4] at g2 d2
          obtain ⟨x, y1, y2, y3⟩ := c_triangleOf hW hI2.1.2.2.1 (SCN_SW hW gb s) c2 hp
          have y4 := y3 (sc_hH w3 w4)
          subst y4
          obtain ⟨τ2, z1, z2⟩ := m_sizeOf (s := s) hW hI'.2.2.1 m3.2.2.1.2.2.1 (by omega) hp (by rw [drS m3.1.1 hs]; exact sc_hH w3 w4)
          rw [drS m3.1.1 hs] at z1
          refine ⟨SZ L (SCN L gb s) p, σ', τ2, ?_, ?_, L, InvL_X (E9_X z2) hI2⟩
          · simp (disch := omega) only [fX7_size, fX7_size_53, fX7_size_63, cN, e1, m2, c1, g1, g2, y1, if_pos, if_neg, Int.reduceAdd, Int.reduceSub, Int.reduceMul, Int.zero_add, Int.add_zero, Nat.zero_add, na_0, ca_la, ca_al, ca_lm, ca_add, ca_mod, ca_lit, tn_c, Int.natCast_zero, bd_some, bd2_some, bindv_e, chk_ok, cr_ok, crl_ok, chd_ok, chb_0, chb_1, cr_bI, chb_bI, ite_bI0, if_true, if_false]
          · simp (disch := omega) only [fX8_size, fX8_size_35, fX8_size_46, e2, m1, d1, d2, z1, if_pos, if_neg, Int.reduceAdd, Int.reduceSub, Int.reduceMul, Int.zero_add, Int.add_zero, Nat.zero_add, na_0, ca_la, ca_al, ca_lm, ca_add, ca_mod, ca_lit, tn_c, Int.natCast_zero, bd_some, bd2_some, bindv_e, chk_ok, cr_ok, crl_ok, chd_ok, chb_0, chb_1, cr_bI, chb_bI, ite_bI0, if_true, if_false]
        · rw [bI_f w4] at g2 d2
          refine ⟨-4, σ', τ', ?_, ?_, L, hI2⟩
          · simp (disch := omega) only [fX7_size, fX7_size_53, fX7_size_63, cN, e1, m2, c1, g1, g2, if_pos, if_neg, Int.reduceAdd, Int.reduceSub, Int.reduceMul, Int.zero_add, Int.add_zero, Nat.zero_add, na_0, ca_la, ca_al, ca_lm, ca_add, ca_mod, ca_lit, tn_c, Int.natCast_zero, bd_some, bd2_some, bindv_e, chk_ok, cr_ok, crl_ok, chd_ok, chb_0, chb_1, cr_bI, chb_bI, ite_bI0, if_true, if_false]
          · simp (disch := omega) only [fX8_size, fX8_size_35, fX8_size_46, e2, m1, d1, d2, if_pos, if_neg, Int.reduceAdd, Int.reduceSub, Int.reduceMul, Int.zero_add, Int.add_zero, Nat.zero_add, na_0, ca_la, ca_al, ca_lm, ca_add, ca_mod, ca_lit, tn_c, Int.natCast_zero, bd_some, bd2_some, bindv_e, chk_ok, cr_ok, crl_ok, chd_ok, chb_0, chb_1, cr_bI, chb_bI, ite_bI0, if_true, if_false]
    · rw [bI_f w2] at m1 m2
      refine ⟨-1, σ, τ', ?_, ?_, L, hI'⟩
      · simp (disch := omega) only [fX7_size, fX7_size_22, cN, e1, m2, if_pos, if_neg, Int.reduceAdd, Int.reduceSub, Int.reduceMul, Int.zero_add, Int.add_zero, Nat.zero_add, na_0, ca_la, ca_al, ca_lm, ca_add, ca_mod, ca_lit, tn_c, Int.natCast_zero, bd_some, bd2_some, bindv_e, chk_ok, cr_ok, crl_ok, chd_ok, chb_0, chb_1, cr_bI, chb_bI, ite_bI0, if_true, if_false]
      · simp (disch := omega) only [fX8_size, fX8_size_16, e2, m1, if_pos, if_neg, Int.reduceAdd, Int.reduceSub, Int.reduceMul, Int.zero_add, Int.add_zero, Nat.zero_add, na_0, ca_la, ca_al, ca_lm, ca_add, ca_mod, ca_lit, tn_c, Int.natCast_zero, bd_some, bd2_some, bindv_e, chk_ok, cr_ok, crl_ok, chd_ok, chb_0, chb_1, cr_bI, chb_bI, ite_bI0, if_true, if_false]
  · rw [bI_f w1] at e1 e2
    refine ⟨-1, σ, τ, ?_, ?_, L, hI⟩
    · simp (disch := omega) only [fX7_size, fX7_size_22, cN, e1, if_pos, Int.reduceAdd, Int.reduceSub, Int.reduceMul, Int.zero_add, Int.add_zero, Nat.zero_add, na_0, ca_la, ca_al, ca_lm, ca_add, ca_mod, ca_lit, tn_c, Int.natCast_zero, bd_some, bd2_some, bindv_e, chk_ok, cr_ok, crl_ok, chd_ok, chb_0, chb_1, cr_bI, chb_bI, ite_bI0, if_true, if_false]
    · simp (disch := omega) only [fX8_size, fX8_size_16, e2, if_pos, Int.reduceAdd, Int.reduceSub, Int.reduceMul, Int.zero_add, Int.add_zero, Nat.zero_add, na_0, ca_la, ca_al, ca_lm, ca_add, ca_mod, ca_lit, tn_c, Int.natCast_zero, bd_some, bd2_some, bindv_e, chk_ok, cr_ok, crl_ok, chd_ok, chb_0, chb_1, cr_bI, chb_bI, ite_bI0, if_true, if_false]
