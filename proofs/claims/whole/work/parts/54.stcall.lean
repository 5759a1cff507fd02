/-! the calls at a stage -/
theorem c_isStage {σ : Mm} {n : Nat} {v : Int} (h : σ 9 4 = (n : Int)) (hn : n ≤ 24) (hv : inR v) : fX7_isStage v σ = some (bI (0 ≤ v ∧ v ≤ (n : Int))) := by
  simp (disch := omega) only [fX7_isStage, fX7_isStage_19, fX7_isStage_20, h, Int.reduceAdd, Int.reduceSub, Int.reduceMul, Int.zero_add, Int.add_zero, Nat.zero_add, na_0, ca_la, ca_al, ca_lm, ca_add, ca_mod, ca_lit, tn_c, Int.natCast_zero, bd_some, bd2_some, bindv_e, chk_ok, cr_ok, crl_ok, chd_ok, chb_0, chb_1, cr_bI, chb_bI, ite_bI0, if_true, if_false]
  repeat' split
  all_goals first | (rw [bI_t (by omega)]; done) | rw [bI_f (by omega)]
theorem m_isRing {τ : Mm} {L : Ld} (hw : WF L) (h : ML τ 0 L) {v : Int} (hv : inR v) : fX8_isRing v τ = some (bI (0 ≤ v ∧ v < (L.nr : Int))) := by
  have hn := hw.2.1
  have e1 := m_rings h
  have e2 := m_in τ (v := v) (a := 0) (b := (L.nr : Int) - 1) hv (by omega) (by omega)
  simp (disch := omega) only [fX8_isRing, e1, e2, Int.reduceAdd, Int.reduceSub, Int.reduceMul, Int.zero_add, Int.add_zero, Nat.zero_add, na_0, ca_la, ca_al, ca_lm, ca_add, ca_mod, ca_lit, tn_c, Int.natCast_zero, bd_some, bd2_some, bindv_e, chk_ok, cr_ok, crl_ok, chd_ok, chb_0, chb_1, cr_bI, chb_bI, ite_bI0, if_true, if_false]
  exact ob_c (by omega)
theorem st_view {L : Ld} {σ τ : Mm} {v : Int} (h : InvL L σ τ) (hv : inR v) : ∃ (τ' : Mm) (gb : Nat → Nat) (sz : Nat → Int) (n : Nat), fX8_isStage v τ = some (bI (0 ≤ v ∧ v ≤ (n : Int)), τ') ∧ fX7_isStage v σ = some (bI (0 ≤ v ∧ v ≤ (n : Int))) ∧ InvL L σ τ' ∧ VW L σ τ' gb sz n ∧ n ≤ L.np ∧ L.np ≤ 24 := by
  obtain ⟨τ', gb, sz, n, m1, m2, m3⟩ := inv_makes h
  obtain ⟨l1, l2⟩ := VW_le h.1.1 m3
  refine ⟨τ', gb, sz, n, ?_, c_isStage m3.2.1.1 (by omega) hv, m2, m3, l1, l2⟩
  have e1 := m3.2.2.1.1
  have e2 := m_in τ' (v := v) (a := 0) (b := (n : Int)) hv (by omega) (by omega)
  simp (disch := omega) only [fX8_isStage, m1, e1, e2, Int.reduceAdd, Int.reduceSub, Int.reduceMul, Int.zero_add, Int.add_zero, Nat.zero_add, na_0, ca_la, ca_al, ca_lm, ca_add, ca_mod, ca_lit, tn_c, Int.natCast_zero, bd_some, bd2_some, bindv_e, chk_ok, cr_ok, crl_ok, chd_ok, chb_0, chb_1, cr_bI, chb_bI, ite_bI0, if_true, if_false]
theorem drS {L : Ld} {gb : Nat → Nat} {sz : Nat → Int} {n s : Nat} (h : PRE L gb sz n) (hs : s ≤ n) : dr L (als (gaF gb n) s) = SCN L gb s := by
  rw [als_fun h hs]; rfl
theorem cut0 {v : Int} {n : Nat} (h : 0 ≤ v ∧ v < (n : Int)) : ∃ p : Nat, v = (p : Int) ∧ p < n := ⟨v.toNat, by omega, by omega⟩
theorem cut1 {v : Int} {n : Nat} (h : 0 ≤ v ∧ v ≤ (n : Int)) : ∃ p : Nat, v = (p : Int) ∧ p ≤ n := ⟨v.toNat, by omega, by omega⟩
theorem k_gone {σ τ : Mm} {v : Int} (h : Inv σ τ) (hv : inR v) : CR σ (fX7_gone v σ) (fX8_gone v τ) := by
  obtain ⟨L, hI⟩ := h
  obtain ⟨τ', gb, sz, n, m1, m2, hI', m3, l1, l2⟩ := st_view hI hv
  by_cases w : 0 ≤ v ∧ v ≤ (n : Int)
  · obtain ⟨s, rfl, hs⟩ := cut1 w
    rw [bI_t w] at m1 m2
    by_cases z : s = 0
    · subst z
      refine ⟨-1, τ', ?_, ?_, L, hI'⟩
      · simp (disch := omega) only [fX7_gone, fX7_gone_12, fX7_gone_25, if_pos, Int.reduceAdd, Int.reduceSub, Int.reduceMul, Int.zero_add, Int.add_zero, Nat.zero_add, na_0, ca_la, ca_al, ca_lm, ca_add, ca_mod, ca_lit, tn_c, Int.natCast_zero, bd_some, bd2_some, bindv_e, chk_ok, cr_ok, crl_ok, chd_ok, chb_0, chb_1, cr_bI, chb_bI, ite_bI0, if_true, if_false]
      · rw [Int.natCast_zero] at m1
        simp (disch := omega) only [fX8_gone, fX8_gone_21, fX8_gone_22, m1, if_neg, Int.reduceAdd, Int.reduceSub, Int.reduceMul, Int.zero_add, Int.add_zero, Nat.zero_add, na_0, ca_la, ca_al, ca_lm, ca_add, ca_mod, ca_lit, tn_c, Int.natCast_zero, bd_some, bd2_some, bindv_e, chk_ok, cr_ok, crl_ok, chd_ok, chb_0, chb_1, cr_bI, chb_bI, ite_bI0, if_true, if_false]
    · have e1 := m3.2.1.2.1 s (by omega) hs
      have e2 := m3.2.2.1.2.1 s (by omega) hs
      refine ⟨gb s, τ', ?_, ?_, L, hI'⟩
      · simp (disch := omega) only [fX7_gone, fX7_gone_12, fX7_gone_25, m2, e1, if_neg, Int.reduceAdd, Int.reduceSub, Int.reduceMul, Int.zero_add, Int.add_zero, Nat.zero_add, na_0, ca_la, ca_al, ca_lm, ca_add, ca_mod, ca_lit, tn_c, Int.natCast_zero, bd_some, bd2_some, bindv_e, chk_ok, cr_ok, crl_ok, chd_ok, chb_0, chb_1, cr_bI, chb_bI, ite_bI0, if_true, if_false]
      · simp (disch := omega) only [fX8_gone, fX8_gone_21, fX8_gone_22, m1, e2, if_pos, if_neg, Int.reduceAdd, Int.reduceSub, Int.reduceMul, Int.zero_add, Int.add_zero, Nat.zero_add, na_0, ca_la, ca_al, ca_lm, ca_add, ca_mod, ca_lit, tn_c, Int.natCast_zero, bd_some, bd2_some, bindv_e, chk_ok, cr_ok, crl_ok, chd_ok, chb_0, chb_1, cr_bI, chb_bI, ite_bI0, if_true, if_false]
  · rw [bI_f w] at m1 m2
    refine ⟨-1, τ', ?_, ?_, L, hI'⟩
    · simp (disch := omega) only [fX7_gone, fX7_gone_12, fX7_gone_25, m2, if_pos, if_neg, Int.reduceAdd, Int.reduceSub, Int.reduceMul, Int.zero_add, Int.add_zero, Nat.zero_add, na_0, ca_la, ca_al, ca_lm, ca_add, ca_mod, ca_lit, tn_c, Int.natCast_zero, bd_some, bd2_some, bindv_e, chk_ok, cr_ok, crl_ok, chd_ok, chb_0, chb_1, cr_bI, chb_bI, ite_bI0, if_true, if_false]
    · simp (disch := omega) only [fX8_gone, fX8_gone_21, fX8_gone_22, m1, if_pos, Int.reduceAdd, Int.reduceSub, Int.reduceMul, Int.zero_add, Int.add_zero, Nat.zero_add, na_0, ca_la, ca_al, ca_lm, ca_add, ca_mod, ca_lit, tn_c, Int.natCast_zero, bd_some, bd2_some, bindv_e, chk_ok, cr_ok, crl_ok, chd_ok, chb_0, chb_1, cr_bI, chb_bI, ite_bI0, if_true, if_false]
theorem k_left {σ τ : Mm} {v : Int} (h : Inv σ τ) (hv : inR v) : CR σ (fX7_left v σ) (fX8_left v τ) := by
  obtain ⟨L, hI⟩ := h
  obtain ⟨τ', gb, sz, n, m1, m2, hI', m3, l1, l2⟩ := st_view hI hv
  by_cases w : 0 ≤ v ∧ v ≤ (n : Int)
  · obtain ⟨s, rfl, hs⟩ := cut1 w
    rw [bI_t w] at m1 m2
    have e1 := c_pwe hI.1
    have e2 := m_leftAt hI.1.1 hI'.2.2.1 m3.1.1 m3.2.2.1 hs
    refine ⟨PWE L - s, τ', ?_, ?_, L, hI'⟩
    · simp (disch := omega) only [fX7_left, fX7_left_21, m2, e1, if_neg, Int.reduceAdd, Int.reduceSub, Int.reduceMul, Int.zero_add, Int.add_zero, Nat.zero_add, na_0, ca_la, ca_al, ca_lm, ca_add, ca_mod, ca_lit, tn_c, Int.natCast_zero, bd_some, bd2_some, bindv_e, chk_ok, cr_ok, crl_ok, chd_ok, chb_0, chb_1, cr_bI, chb_bI, ite_bI0, if_true, if_false]
    · simp (disch := omega) only [fX8_left, fX8_left_17, m1, e2, if_neg, Int.reduceAdd, Int.reduceSub, Int.reduceMul, Int.zero_add, Int.add_zero, Nat.zero_add, na_0, ca_la, ca_al, ca_lm, ca_add, ca_mod, ca_lit, tn_c, Int.natCast_zero, bd_some, bd2_some, bindv_e, chk_ok, cr_ok, crl_ok, chd_ok, chb_0, chb_1, cr_bI, chb_bI, ite_bI0, if_true, if_false]
  · rw [bI_f w] at m1 m2
    refine ⟨-1, τ', ?_, ?_, L, hI'⟩
    · simp (disch := omega) only [fX7_left, fX7_left_21, m2, if_pos, Int.reduceAdd, Int.reduceSub, Int.reduceMul, Int.zero_add, Int.add_zero, Nat.zero_add, na_0, ca_la, ca_al, ca_lm, ca_add, ca_mod, ca_lit, tn_c, Int.natCast_zero, bd_some, bd2_some, bindv_e, chk_ok, cr_ok, crl_ok, chd_ok, chb_0, chb_1, cr_bI, chb_bI, ite_bI0, if_true, if_false]
    · simp (disch := omega) only [fX8_left, fX8_left_17, m1, if_pos, Int.reduceAdd, Int.reduceSub, Int.reduceMul, Int.zero_add, Int.add_zero, Nat.zero_add, na_0, ca_la, ca_al, ca_lm, ca_add, ca_mod, ca_lit, tn_c, Int.natCast_zero, bd_some, bd2_some, bindv_e, chk_ok, cr_ok, crl_ok, chd_ok, chb_0, chb_1, cr_bI, chb_bI, ite_bI0, if_true, if_false]
theorem mxI_0 {x : Int} (h : inR x) : mxI 0 x = if x < 0 then 0 else x := by
  unfold mxI
  split <;> split <;> omega
theorem k_keep {σ τ : Mm} {v : Int} (h : Inv σ τ) (hv : inR v) : CR σ (fX7_keep v σ) (fX8_keep v τ) := by
  obtain ⟨L, hI⟩ := h
  by_cases w : v < 0
  · refine ⟨-1, τ, ?_, ?_, L, hI⟩
    · simp (disch := omega) only [fX7_keep, if_pos, Int.reduceAdd, Int.reduceSub, Int.reduceMul, Int.zero_add, Int.add_zero, Nat.zero_add, na_0, ca_la, ca_al, ca_lm, ca_add, ca_mod, ca_lit, tn_c, Int.natCast_zero, bd_some, bd2_some, bindv_e, chk_ok, cr_ok, crl_ok, chd_ok, chb_0, chb_1, cr_bI, chb_bI, ite_bI0, if_true, if_false]
    · simp (disch := omega) only [fX8_keep, if_pos, Int.reduceAdd, Int.reduceSub, Int.reduceMul, Int.zero_add, Int.add_zero, Nat.zero_add, na_0, ca_la, ca_al, ca_lm, ca_add, ca_mod, ca_lit, tn_c, Int.natCast_zero, bd_some, bd2_some, bindv_e, chk_ok, cr_ok, crl_ok, chd_ok, chb_0, chb_1, cr_bI, chb_bI, ite_bI0, if_true, if_false]
  · obtain ⟨τ', gb, sz, n, m1, hI', m3⟩ := inv_makes hI
    obtain ⟨l1, l2⟩ := VW_le hI.1.1 m3
    have e1 := c_pwe hI.1
    have s1 := m3.2.1.1
    have s2 := m3.2.2.1.1
    have pb := sm_bI_b (fun p => 0 < dg L p) L.np
    have pb1 : 0 ≤ PWE L ∧ PWE L ≤ L.np := pb
    have key := it_first (f := fun c => fX8_keep_12 v τ' (fX8_keep_37 τ') c) (n + 1) (fun i => PWE L - (i : Int) ≤ v) (fun i => some ((i : Int), τ')) (some (-4, τ')) (fun c i hi => by
      have e2 := m_leftAt hI.1.1 hI'.2.2.1 m3.1.1 m3.2.2.1 (s := i) (by omega)
      simp (disch := omega) only [fX8_keep_12, e2, s2, if_neg, Int.reduceAdd, Int.reduceSub, Int.reduceMul, Int.zero_add, Int.add_zero, Nat.zero_add, na_0, ca_la, ca_al, ca_lm, ca_add, ca_mod, ca_lit, tn_c, Int.natCast_zero, bd_some, bd2_some, bindv_e, chk_ok, cr_ok, crl_ok, chd_ok, chb_0, chb_1, cr_bI, chb_bI, ite_bI0, if_true, if_false]
      by_cases z : PWE L - (i : Int) ≤ v
      · rw [pI_t z, if_neg (by omega)]
      · rw [pI_f z, if_pos (by omega)]) (fun c => by
      simp (disch := omega) only [fX8_keep_12, fX8_keep_37, s2, if_pos, Int.reduceAdd, Int.reduceSub, Int.reduceMul, Int.zero_add, Int.add_zero, Nat.zero_add, na_0, ca_la, ca_al, ca_lm, ca_add, ca_mod, ca_lit, tn_c, Int.natCast_zero, bd_some, bd2_some, bindv_e, chk_ok, cr_ok, crl_ok, chd_ok, chb_0, chb_1, cr_bI, chb_bI, ite_bI0, if_true, if_false]) 400 0 (by omega) (by omega)
    have kM : fX8_keep v τ = itN (fun _ => none) (fun c => fX8_keep_12 v τ' (fX8_keep_37 τ') c) 400 ((0 : Nat) : Int) := by
      unfold fX8_keep
      rw [cr_ok hv, if_neg w, m1, bd_some, bindv_e]
      unfold lX8_keep_12
      rw [Int.natCast_zero]
    rw [← kM] at key
    have kC : fX7_keep v σ = some (if (n : Int) < (if PWE L - v < 0 then 0 else PWE L - v) then -4 else (if PWE L - v < 0 then 0 else PWE L - v)) := by
      have mx := mxI_0 (x := PWE L - v) (by omega)
      simp (disch := omega) only [fX7_keep, fX7_keep_37, e1, mx, s1, if_neg, Int.reduceAdd, Int.reduceSub, Int.reduceMul, Int.zero_add, Int.add_zero, Nat.zero_add, na_0, ca_la, ca_al, ca_lm, ca_add, ca_mod, ca_lit, tn_c, Int.natCast_zero, bd_some, bd2_some, bindv_e, chk_ok, cr_ok, crl_ok, chd_ok, chb_0, chb_1, cr_bI, chb_bI, ite_bI0, if_true, if_false]
      repeat' split
      all_goals rfl
    rcases key with ⟨j, -, a2, a3, a4, a5⟩ | ⟨a1, a2⟩
    · refine ⟨(j : Int), τ', ?_, a5, L, hI'⟩
      rw [kC]
      have hj : (if PWE L - v < 0 then 0 else PWE L - v) = (j : Int) := by
        split
        · rcases Nat.eq_zero_or_pos j with y | y
          · rw [y]; rfl
          · exact absurd (by omega) (a4 0 (by omega) y)
        · rcases Nat.eq_zero_or_pos j with y | y
          · subst y; omega
          · have := a4 (j - 1) (by omega) (by omega)
            omega
      rw [hj, if_neg (by omega)]
    · refine ⟨-4, τ', ?_, a2, L, hI'⟩
      rw [kC]
      have := a1 n (by omega) (by omega)
      rw [if_pos (by split <;> omega)]
theorem k_limit {σ τ : Mm} {v : Int} (h : Inv σ τ) (hv : inR v) : CR σ (fX7_limit v σ) (fX8_limit v τ) := by
  obtain ⟨L, hI⟩ := h
  by_cases w : v < 0
  · refine ⟨-1, τ, ?_, ?_, L, hI⟩
    · simp (disch := omega) only [fX7_limit, if_pos, Int.reduceAdd, Int.reduceSub, Int.reduceMul, Int.zero_add, Int.add_zero, Nat.zero_add, na_0, ca_la, ca_al, ca_lm, ca_add, ca_mod, ca_lit, tn_c, Int.natCast_zero, bd_some, bd2_some, bindv_e, chk_ok, cr_ok, crl_ok, chd_ok, chb_0, chb_1, cr_bI, chb_bI, ite_bI0, if_true, if_false]
    · simp (disch := omega) only [fX8_limit, if_pos, Int.reduceAdd, Int.reduceSub, Int.reduceMul, Int.zero_add, Int.add_zero, Nat.zero_add, na_0, ca_la, ca_al, ca_lm, ca_add, ca_mod, ca_lit, tn_c, Int.natCast_zero, bd_some, bd2_some, bindv_e, chk_ok, cr_ok, crl_ok, chd_ok, chb_0, chb_1, cr_bI, chb_bI, ite_bI0, if_true, if_false]
  · obtain ⟨τ', gb, sz, n, m1, hI', m3⟩ := inv_makes hI
    obtain ⟨l1, l2⟩ := VW_le hI.1.1 m3
    have hw := hI.1.1
    have hR := m3.1.1
    obtain ⟨s1, s2, s3, -⟩ := m3.2.1
    obtain ⟨t1, t2, -, t4, -⟩ := m3.2.2.1
    have key := it_first (f := fun c => fX8_limit_12 v τ' (fun v => fX8_limit_43 v τ') c) n (fun i => v < sz (i + 1)) (fun i => some ((i : Int), τ')) (some ((n : Int), τ')) (fun c i hi => by
      have q1 := t2 (i + 1) (by omega) (by omega)
      obtain ⟨q3, q4, q5⟩ := sz_b hw hR (j := i + 1) (by omega) (by omega)
      have q2 := t4 (gb (i + 1)) q3
      rw [gaF_gb hR (by omega) (by omega), if_neg (by omega)] at q2
      simp (disch := omega) only [fX8_limit_12, fX8_limit_43, t1, q1, q2, if_pos, Int.reduceAdd, Int.reduceSub, Int.reduceMul, Int.zero_add, Int.add_zero, Nat.zero_add, na_0, ca_la, ca_al, ca_lm, ca_add, ca_mod, ca_lit, tn_c, Int.natCast_zero, bd_some, bd2_some, bindv_e, chk_ok, cr_ok, crl_ok, chd_ok, chb_0, chb_1, cr_bI, chb_bI, ite_bI0, if_true, if_false]
      by_cases z : v < sz (i + 1)
      · rw [pI_t z, if_pos z]
      · rw [pI_f z, if_neg z]) (fun c => by
      simp (disch := omega) only [fX8_limit_12, fX8_limit_43, t1, if_neg, Int.reduceAdd, Int.reduceSub, Int.reduceMul, Int.zero_add, Int.add_zero, Nat.zero_add, na_0, ca_la, ca_al, ca_lm, ca_add, ca_mod, ca_lit, tn_c, Int.natCast_zero, bd_some, bd2_some, bindv_e, chk_ok, cr_ok, crl_ok, chd_ok, chb_0, chb_1, cr_bI, chb_bI, ite_bI0, if_true, if_false]) 400 0 (by omega) (by omega)
    have kM : fX8_limit v τ = itN (fun _ => none) (fun c => fX8_limit_12 v τ' (fun v => fX8_limit_43 v τ') c) 400 ((0 : Nat) : Int) := by
      unfold fX8_limit
      rw [cr_ok hv, if_neg w, m1, bd_some, bindv_e]
      unfold lX8_limit_12
      rw [Int.natCast_zero]
    rw [← kM] at key
    have kc := it_stop1 (f := fun c => fX7_limit_8 v σ (fX7_limit_42 σ) c) (n + 1) (fun i => 1 ≤ i ∧ ∀ j, 1 ≤ j → j < i → ¬ v < sz j) (fun o => (o = some (n : Int) ∧ ∀ j, 1 ≤ j → j ≤ n → ¬ v < sz j) ∨ ∃ j, 1 ≤ j ∧ j ≤ n ∧ v < sz j ∧ (∀ z, 1 ≤ z → z < j → ¬ v < sz z) ∧ o = some (((j - 1 : Nat)) : Int)) (fun c i hi hQ => by
      by_cases y : i = n + 1
      · subst y
        refine Or.inl (Or.inl ⟨?_, fun j a b => hQ.2 j a (by omega)⟩)
        simp (disch := omega) only [fX7_limit_8, fX7_limit_42, s1, if_pos, Int.reduceAdd, Int.reduceSub, Int.reduceMul, Int.zero_add, Int.add_zero, Nat.zero_add, na_0, ca_la, ca_al, ca_lm, ca_add, ca_mod, ca_lit, tn_c, Int.natCast_zero, bd_some, bd2_some, bindv_e, chk_ok, cr_ok, crl_ok, chd_ok, chb_0, chb_1, cr_bI, chb_bI, ite_bI0, if_true, if_false]
      · have q1 := s3 i hQ.1 (by omega)
        obtain ⟨q3, q4, q5⟩ := sz_b hw hR (j := i) hQ.1 (by omega)
        by_cases z : v < sz i
        · refine Or.inl (Or.inr ⟨i, hQ.1, by omega, z, hQ.2, ?_⟩)
          simp (disch := omega) only [fX7_limit_8, fX7_limit_42, s1, q1, if_pos, if_neg, Int.reduceAdd, Int.reduceSub, Int.reduceMul, Int.zero_add, Int.add_zero, Nat.zero_add, na_0, ca_la, ca_al, ca_lm, ca_add, ca_mod, ca_lit, tn_c, Int.natCast_zero, bd_some, bd2_some, bindv_e, chk_ok, cr_ok, crl_ok, chd_ok, chb_0, chb_1, cr_bI, chb_bI, ite_bI0, if_true, if_false]
          rw [show (i : Int) - 1 = ((i - 1 : Nat) : Int) by have := hQ.1; omega]
        · refine Or.inr ⟨by omega, ⟨by omega, fun j a b => ?_⟩, ?_⟩
          · by_cases x : j = i
            · rw [x]; exact z
            · exact hQ.2 j a (by omega)
          · simp (disch := omega) only [fX7_limit_8, fX7_limit_42, s1, q1, if_pos, if_neg, Int.reduceAdd, Int.reduceSub, Int.reduceMul, Int.zero_add, Int.add_zero, Nat.zero_add, na_0, ca_la, ca_al, ca_lm, ca_add, ca_mod, ca_lit, tn_c, Int.natCast_zero, bd_some, bd2_some, bindv_e, chk_ok, cr_ok, crl_ok, chd_ok, chb_0, chb_1, cr_bI, chb_bI, ite_bI0, if_true, if_false]) 400 1 (by omega) (by omega) ⟨by omega, fun j a b => by omega⟩
    have kC : fX7_limit v σ = itN (fun _ => none) (fun c => fX7_limit_8 v σ (fX7_limit_42 σ) c) 400 ((1 : Nat) : Int) := by
      unfold fX7_limit
      rw [cr_ok hv, if_neg w, bindv_e]
      unfold lX7_limit_8
      rw [show ((1 : Nat) : Int) = 1 from rfl]
    rw [← kC] at kc
    rcases key with ⟨j, -, a2, a3, a4, a5⟩ | ⟨a1, a2⟩
    · rcases kc with ⟨b1, b2⟩ | ⟨i, b1, b2, b3, b4, b5⟩
      · exact absurd a3 (b2 (j + 1) (by omega) (by omega))
      · have e : i - 1 = j := by
          rcases Nat.lt_trichotomy (i - 1) j with y | y | y
          · exact absurd (by rw [show i - 1 + 1 = i by omega]; exact b3) (a4 (i - 1) (by omega) y)
          · exact y
          · exact absurd a3 (b4 (j + 1) (by omega) (by omega))
        rw [e] at b5
        exact ⟨_, τ', b5, a5, L, hI'⟩
    · rcases kc with ⟨b1, b2⟩ | ⟨i, b1, b2, b3, b4, b5⟩
      · exact ⟨_, τ', b1, a2, L, hI'⟩
      · exact absurd (by rw [show i - 1 + 1 = i by omega]; exact b3) (a1 (i - 1) (by omega) (by omega))
