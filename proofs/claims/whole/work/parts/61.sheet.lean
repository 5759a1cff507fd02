/-! sheets, count, point -/
theorem k_sheet {σ τ : Mm} {v u w : Int} (h : Inv σ τ) (hv : inR v) (hu : inR u) (hw : inR w) : CC (fX7_sheet v u w σ) (fX8_sheet v u w τ) := by
  obtain ⟨L, hI⟩ := h
  have e1 := c_isBelow σ (v := v) (n := 4) hv (by omega)
  have e2 := m_in τ (v := v) (a := 0) (b := 3) hv (by omega) (by omega)
  rw [bI_c (show (0 ≤ v ∧ v ≤ 3) ↔ (0 ≤ v ∧ v < ((4 : Nat) : Int)) by omega)] at e2
  have f1 := c_isBelow σ (v := u) (n := 3) hu (by omega)
  have f2 := m_in τ (v := u) (a := 0) (b := 2) hu (by omega) (by omega)
  rw [bI_c (show (0 ≤ u ∧ u ≤ 2) ↔ (0 ≤ u ∧ u < 3) by omega)] at f2
  by_cases z1 : 0 ≤ v ∧ v < ((4 : Nat) : Int)
  · rw [bI_t z1] at e2
    rw [bI_t (by omega)] at e1
    obtain ⟨k, rfl, hk⟩ := cut0 z1
    by_cases z2 : 0 ≤ u ∧ u < 3
    · rw [bI_t z2] at f1 f2
      by_cases z3 : 40 < w
      · refine ⟨-1, σ, τ, ?_, ?_, L, hI⟩
        · simp (disch := omega) only [fX7_sheet, fX7_sheet_22, e1, f1, if_pos, if_neg, Int.reduceAdd, Int.reduceSub, Int.reduceMul, Int.zero_add, Int.add_zero, Nat.zero_add, na_0, ca_la, ca_al, ca_lm, ca_add, ca_mod, ca_lit, tn_c, Int.natCast_zero, bd_some, bd2_some, bindv_e, chk_ok, cr_ok, crl_ok, chd_ok, chb_0, chb_1, cr_bI, chb_bI, ite_bI0, if_true, if_false]
        · simp (disch := omega) only [fX8_sheet, fX8_sheet_30, e2, f2, if_pos, if_neg, Int.reduceAdd, Int.reduceSub, Int.reduceMul, Int.zero_add, Int.add_zero, Nat.zero_add, na_0, ca_la, ca_al, ca_lm, ca_add, ca_mod, ca_lit, tn_c, Int.natCast_zero, bd_some, bd2_some, bindv_e, chk_ok, cr_ok, crl_ok, chd_ok, chb_0, chb_1, cr_bI, chb_bI, ite_bI0, if_true, if_false]
      by_cases z4 : w < 0
      · refine ⟨-14, σ, τ, ?_, ?_, L, hI⟩
        · simp (disch := omega) only [fX7_sheet, e1, f1, if_pos, if_neg, Int.reduceAdd, Int.reduceSub, Int.reduceMul, Int.zero_add, Int.add_zero, Nat.zero_add, na_0, ca_la, ca_al, ca_lm, ca_add, ca_mod, ca_lit, tn_c, Int.natCast_zero, bd_some, bd2_some, bindv_e, chk_ok, cr_ok, crl_ok, chd_ok, chb_0, chb_1, cr_bI, chb_bI, ite_bI0, if_true, if_false]
        · simp (disch := omega) only [fX8_sheet, e2, f2, if_pos, if_neg, Int.reduceAdd, Int.reduceSub, Int.reduceMul, Int.zero_add, Int.add_zero, Nat.zero_add, na_0, ca_la, ca_al, ca_lm, ca_add, ca_mod, ca_lit, tn_c, Int.natCast_zero, bd_some, bd2_some, bindv_e, chk_ok, cr_ok, crl_ok, chd_ok, chb_0, chb_1, cr_bI, chb_bI, ite_bI0, if_true, if_false]
      have key : ∃ σ', ((∀ c, c ≠ 21 + 2 * k + 1 → σ' c = sto (sto σ (21 + 2 * k) 1 u) (21 + 2 * k) 2 w c) ∧ ∀ j, j < 40 → σ' (21 + 2 * k + 1) j = 0) ∧ fX4_renew (21 + 2 * k) u w σ = some σ' := by
        unfold fX4_renew
        rw [bindv_e, bindv_e, bindv_e]
        unfold lX4_renew_12
        refine it_inv0 (f := fun c => fX4_renew_12 (21 + 2 * k) (fun s => fX4_renew_31 (21 + 2 * k) s) c) 40 (fun i s => (∀ c, c ≠ 21 + 2 * k + 1 → s c = sto (sto σ (21 + 2 * k) 1 u) (21 + 2 * k) 2 w c) ∧ ∀ j, j < i → s (21 + 2 * k + 1) j = 0) (fun s => some s) _ (by omega) ⟨fun _ _ => rfl, fun j hj => by omega⟩ (fun c i s hi hI => ?_) (fun c s hI => ?_)
        · obtain ⟨h1, h2⟩ := hI
          refine ⟨sto s (21 + 2 * k + 1) i 0, ⟨fun c hc => by rw [sto_c hc]; exact h1 c hc, fun j hj => ?_⟩, ?_⟩
          · by_cases q : j = i
            · rw [q, sto_eq]
            · rw [sto_i q]; exact h2 j (by omega)
          · simp (disch := omega) only [fX4_renew_12, if_pos, Int.reduceAdd, Int.reduceSub, Int.reduceMul, Int.zero_add, Int.add_zero, Nat.zero_add, na_0, ca_la, ca_al, ca_lm, ca_add, ca_mod, ca_lit, tn_c, Int.natCast_zero, bd_some, bd2_some, bindv_e, chk_ok, cr_ok, crl_ok, chd_ok, chb_0, chb_1, cr_bI, chb_bI, ite_bI0, if_true, if_false]
        · simp (disch := omega) only [fX4_renew_12, fX4_renew_31, if_neg, Int.reduceAdd, Int.reduceSub, Int.reduceMul, Int.zero_add, Int.add_zero, Nat.zero_add, na_0, ca_la, ca_al, ca_lm, ca_add, ca_mod, ca_lit, tn_c, Int.natCast_zero, bd_some, bd2_some, bindv_e, chk_ok, cr_ok, crl_ok, chd_ok, chb_0, chb_1, cr_bI, chb_bI, ite_bI0, if_true, if_false]
      obtain ⟨σ', ⟨a1, a2⟩, a3⟩ := key
      have key2 : ∃ τ', ((∀ c, c ≠ 18 → τ' c = sto (sto τ 16 k u) 17 k w c) ∧ (∀ j, j < 40 → τ' 18 (40 * k + j) = 0) ∧ (∀ j, (j < 40 * k ∨ 40 * k + 40 ≤ j) → τ' 18 j = τ 18 j)) ∧ lX8_sheet_56 k (fun s => fX8_sheet_82 s) 400 0 (sto (sto τ 16 k u) 17 k w) = some (1, τ') := by
        unfold lX8_sheet_56
        refine it_inv0 (f := fun c => fX8_sheet_56 k (fun s => fX8_sheet_82 s) c) 40 (fun i s => (∀ c, c ≠ 18 → s c = sto (sto τ 16 k u) 17 k w c) ∧ (∀ j, j < i → s 18 (40 * k + j) = 0) ∧ (∀ j, (j < 40 * k ∨ 40 * k + 40 ≤ j) → s 18 j = τ 18 j)) (fun s => some (1, s)) _ (by omega) ⟨fun _ _ => rfl, fun j hj => by omega, fun j _ => by rw [sto_k (by omega), sto_k (by omega)]⟩ (fun c i s hi hI => ?_) (fun c s hI => ?_)
        · obtain ⟨h1, h2, h3⟩ := hI
          refine ⟨sto s 18 (40 * k + i) 0, ⟨fun c hc => by rw [sto_c hc]; exact h1 c hc, fun j hj => ?_, fun j hj => by rw [sto_i (by omega)]; exact h3 j hj⟩, ?_⟩
          · by_cases q : j = i
            · rw [q, sto_eq]
            · rw [sto_i (by omega)]; exact h2 j (by omega)
          · simp (disch := omega) only [fX8_sheet_56, if_pos, Int.reduceAdd, Int.reduceSub, Int.reduceMul, Int.zero_add, Int.add_zero, Nat.zero_add, na_0, ca_la, ca_al, ca_lm, ca_add, ca_mod, ca_lit, tn_c, Int.natCast_zero, bd_some, bd2_some, bindv_e, chk_ok, cr_ok, crl_ok, chd_ok, chb_0, chb_1, cr_bI, chb_bI, ite_bI0, if_true, if_false]
        · simp (disch := omega) only [fX8_sheet_56, fX8_sheet_82, if_neg, Int.reduceAdd, Int.reduceSub, Int.reduceMul, Int.zero_add, Int.add_zero, Nat.zero_add, na_0, ca_la, ca_al, ca_lm, ca_add, ca_mod, ca_lit, tn_c, Int.natCast_zero, bd_some, bd2_some, bindv_e, chk_ok, cr_ok, crl_ok, chd_ok, chb_0, chb_1, cr_bI, chb_bI, ite_bI0, if_true, if_false]
      obtain ⟨τ', ⟨b1, b2, b3⟩, b4⟩ := key2
      refine ⟨1, σ', τ', ?_, ?_, L, ?_⟩
      · simp (disch := omega) only [fX7_sheet, e1, f1, a3, if_pos, if_neg, Int.reduceAdd, Int.reduceSub, Int.reduceMul, Int.zero_add, Int.add_zero, Nat.zero_add, na_0, ca_la, ca_al, ca_lm, ca_add, ca_mod, ca_lit, tn_c, Int.natCast_zero, bd_some, bd2_some, bindv_e, chk_ok, cr_ok, crl_ok, chd_ok, chb_0, chb_1, cr_bI, chb_bI, ite_bI0, if_true, if_false]
      · simp (disch := omega) only [fX8_sheet, e2, f2, b4, if_pos, if_neg, Int.reduceAdd, Int.reduceSub, Int.reduceMul, Int.zero_add, Int.add_zero, Nat.zero_add, na_0, ca_la, ca_al, ca_lm, ca_add, ca_mod, ca_lit, tn_c, Int.natCast_zero, bd_some, bd2_some, bindv_e, chk_ok, cr_ok, crl_ok, chd_ok, chb_0, chb_1, cr_bI, chb_bI, ite_bI0, if_true, if_false]
      · obtain ⟨⟨n, t1, t2, t3, t4⟩, r2, r3, -⟩ := hI.2.2.2.2
        have fσ : ∀ c, c ≠ 21 + 2 * k + 1 → c ≠ 21 + 2 * k → σ' c = σ c := fun c h1 h2 => by rw [a1 c h1, sto_c h2, sto_c h2]
        have fτ : ∀ c, c ≠ 18 → c ≠ 16 → c ≠ 17 → τ' c = τ c := fun c h1 h2 h3 => by rw [b1 c h1, sto_c h3, sto_c h2]
        refine InvL_g (σ := σ) (τ := τ) (fun c hc => fσ c (by omega) (by omega)) (fun j _ => by rw [fτ 1 (by omega) (by omega) (by omega)]) ⟨by rw [fτ 0 (by omega) (by omega) (by omega)], by rw [fτ 0 (by omega) (by omega) (by omega)], by rw [fτ 0 (by omega) (by omega) (by omega)]⟩ (fun c _ _ => fτ c (by omega) (by omega) (by omega)) ?_ hI
        refine RST_g ⟨n, t1, by rw [fσ 1 (by omega) (by omega)]; exact t2, by rw [fτ 0 (by omega) (by omega) (by omega)]; exact t3, fun i hi => by rw [fσ 2 (by omega) (by omega), fτ 2 (by omega) (by omega) (by omega)]; exact t4 i hi⟩ (by rw [fσ 0 (by omega) (by omega), fτ 0 (by omega) (by omega) (by omega)]; exact r2) (fun c hc => ?_) (fσ 19 (by omega) (by omega)) (fun c hc => fσ c (by omega) (by omega)) (fun j _ _ => by rw [fτ 1 (by omega) (by omega) (by omega)]) ⟨fτ 3 (by omega) (by omega) (by omega), fτ 4 (by omega) (by omega) (by omega), fτ 15 (by omega) (by omega) (by omega)⟩ hI.2.2.2.2
        have q := r3 c hc
        unfold SHk at q ⊢
        by_cases y : c = k
        · subst y
          have s1 : σ' (21 + 2 * c) 1 = u := by rw [a1 _ (by omega), sto_i (by omega), sto_eq]
          have s2 : σ' (21 + 2 * c) 2 = w := by rw [a1 _ (by omega), sto_eq]
          have s3 : τ' 16 c = u := by rw [b1 _ (by omega), sto_k (by omega), sto_eq]
          have s4 : τ' 17 c = w := by rw [b1 _ (by omega), sto_eq]
          rw [s1, s2, s3, s4]
          refine ⟨Or.inr ⟨rfl, z2⟩, rfl, by omega, by omega, fun i hi => ?_⟩
          rw [a2 i hi, b2 i hi]
          exact ⟨rfl, by omega⟩
        · have s3 : τ' 16 c = τ 16 c := by rw [b1 _ (by omega), sto_k (by omega), sto_i y]
          have s4 : τ' 17 c = τ 17 c := by rw [b1 _ (by omega), sto_i y, sto_k (by omega)]
          rw [fσ (21 + 2 * c) (by omega) (by omega), fσ (21 + 2 * c + 1) (by omega) (by omega), s3, s4]
          refine ⟨q.1, q.2.1, q.2.2.1, q.2.2.2.1, fun i hi => ?_⟩
          rw [b3 _ (by omega)]
          exact q.2.2.2.2 i hi
    · rw [bI_f z2] at f1 f2
      refine ⟨-1, σ, τ, ?_, ?_, L, hI⟩
      · simp (disch := omega) only [fX7_sheet, fX7_sheet_22, e1, f1, if_pos, if_neg, Int.reduceAdd, Int.reduceSub, Int.reduceMul, Int.zero_add, Int.add_zero, Nat.zero_add, na_0, ca_la, ca_al, ca_lm, ca_add, ca_mod, ca_lit, tn_c, Int.natCast_zero, bd_some, bd2_some, bindv_e, chk_ok, cr_ok, crl_ok, chd_ok, chb_0, chb_1, cr_bI, chb_bI, ite_bI0, if_true, if_false]
      · simp (disch := omega) only [fX8_sheet, fX8_sheet_30, e2, f2, if_pos, if_neg, Int.reduceAdd, Int.reduceSub, Int.reduceMul, Int.zero_add, Int.add_zero, Nat.zero_add, na_0, ca_la, ca_al, ca_lm, ca_add, ca_mod, ca_lit, tn_c, Int.natCast_zero, bd_some, bd2_some, bindv_e, chk_ok, cr_ok, crl_ok, chd_ok, chb_0, chb_1, cr_bI, chb_bI, ite_bI0, if_true, if_false]
  · rw [bI_f z1] at e2
    rw [bI_f (by omega)] at e1
    refine ⟨-1, σ, τ, ?_, ?_, L, hI⟩
    · simp (disch := omega) only [fX7_sheet, fX7_sheet_22, e1, if_pos, Int.reduceAdd, Int.reduceSub, Int.reduceMul, Int.zero_add, Int.add_zero, Nat.zero_add, na_0, ca_la, ca_al, ca_lm, ca_add, ca_mod, ca_lit, tn_c, Int.natCast_zero, bd_some, bd2_some, bindv_e, chk_ok, cr_ok, crl_ok, chd_ok, chb_0, chb_1, cr_bI, chb_bI, ite_bI0, if_true, if_false]
    · simp (disch := omega) only [fX8_sheet, fX8_sheet_30, e2, if_pos, Int.reduceAdd, Int.reduceSub, Int.reduceMul, Int.zero_add, Int.add_zero, Nat.zero_add, na_0, ca_la, ca_al, ca_lm, ca_add, ca_mod, ca_lit, tn_c, Int.natCast_zero, bd_some, bd2_some, bindv_e, chk_ok, cr_ok, crl_ok, chd_ok, chb_0, chb_1, cr_bI, chb_bI, ite_bI0, if_true, if_false]
theorem c_isNothing {σ : Mm} {k : Nat} (h : inR (σ k 1)) : fX4_isNothing k σ = some (bI (σ k 1 = -1)) := by
  by_cases z : σ k 1 = -1
  · rw [bI_t z]
    simp (disch := omega) only [fX4_isNothing, fX4_isNothing_13, if_pos, Int.reduceAdd, Int.reduceSub, Int.reduceMul, Int.zero_add, Int.add_zero, Nat.zero_add, na_0, ca_la, ca_al, ca_lm, ca_add, ca_mod, ca_lit, tn_c, Int.natCast_zero, bd_some, bd2_some, bindv_e, chk_ok, cr_ok, crl_ok, chd_ok, chb_0, chb_1, cr_bI, chb_bI, ite_bI0, if_true, if_false]
  · rw [bI_f z]
    simp (disch := omega) only [fX4_isNothing, fX4_isNothing_13, if_neg, Int.reduceAdd, Int.reduceSub, Int.reduceMul, Int.zero_add, Int.add_zero, Nat.zero_add, na_0, ca_la, ca_al, ca_lm, ca_add, ca_mod, ca_lit, tn_c, Int.natCast_zero, bd_some, bd2_some, bindv_e, chk_ok, cr_ok, crl_ok, chd_ok, chb_0, chb_1, cr_bI, chb_bI, ite_bI0, if_true, if_false]
theorem lay_I {L : Ld} {σ τ : Mm} {k i : Nat} {x : Int} (hI : InvL L σ τ) (hk : k < 4) (hi : i < 40) (hx : inR x) : InvL L (sto σ (21 + 2 * k + 1) i x) (sto τ 18 (40 * k + i) x) := by
  obtain ⟨⟨n, t1, t2, t3, t4⟩, r2, r3, -⟩ := hI.2.2.2.2
  refine InvL_g (σ := σ) (τ := τ) (fun c hc => sto_c (by omega)) (fun j _ => sto_k (by omega)) ⟨sto_k (by omega), sto_k (by omega), sto_k (by omega)⟩ (fun c _ _ => sto_c (by omega)) ?_ hI
  refine RST_g ⟨n, t1, by rw [sto_k (by omega)]; exact t2, by rw [sto_k (by omega)]; exact t3, fun j hj => by rw [sto_k (by omega), sto_k (by omega)]; exact t4 j hj⟩ (by rw [sto_k (by omega), sto_k (by omega), sto_k (by omega), sto_k (by omega)]; exact r2) (fun c hc => ?_) (sto_c (by omega)) (fun c hc => sto_c (by omega)) (fun j _ _ => sto_k (by omega)) ⟨sto_c (by omega), sto_c (by omega), sto_c (by omega)⟩ hI.2.2.2.2
  have q := r3 c hc
  unfold SHk at q ⊢
  rw [sto_c (σ := τ) (show (16 : Nat) ≠ 18 by omega), sto_c (σ := τ) (show (17 : Nat) ≠ 18 by omega), sto_c (σ := σ) (show 21 + 2 * c ≠ 21 + 2 * k + 1 by omega)]
  refine ⟨q.1, q.2.1, q.2.2.1, q.2.2.2.1, fun j hj => ?_⟩
  by_cases y : c = k ∧ j = i
  · obtain ⟨rfl, rfl⟩ := y
    rw [sto_eq, sto_eq]
    exact ⟨rfl, hx⟩
  · rw [sto_i (σ := τ) (by omega)]
    by_cases y2 : c = k
    · subst y2
      rw [sto_i (by omega)]
      exact q.2.2.2.2 j hj
    · rw [sto_k (by omega)]
      exact q.2.2.2.2 j hj
theorem k_lay {σ τ : Mm} {v u w : Int} (h : Inv σ τ) (hv : inR v) (hu : inR u) (hw : inR w) : CC (fX7_lay v u w σ) (fX8_lay v u w τ) := by
  obtain ⟨L, hI⟩ := h
  have e1 := c_isBelow σ (v := v) (n := 4) hv (by omega)
  have e2 := m_in τ (v := v) (a := 0) (b := 3) hv (by omega) (by omega)
  rw [bI_c (show (0 ≤ v ∧ v ≤ 3) ↔ (0 ≤ v ∧ v < ((4 : Nat) : Int)) by omega)] at e2
  by_cases z1 : 0 ≤ v ∧ v < ((4 : Nat) : Int)
  · rw [bI_t z1] at e2
    rw [bI_t (by omega)] at e1
    obtain ⟨k, rfl, hk⟩ := cut0 z1
    obtain ⟨s1, s2, s3, s4, -⟩ := hI.2.2.2.2.2.2.1 k hk
    have hN := c_isNothing (σ := σ) (k := 21 + 2 * k) (by rcases s1 with s1 | s1 <;> omega)
    rcases s1 with ⟨y1, y2⟩ | ⟨y1, y2, y3⟩
    · rw [bI_t y1] at hN
      refine ⟨-11, σ, τ, ?_, ?_, L, hI⟩
      · simp (disch := omega) only [fX7_lay, e1, hN, if_pos, if_neg, Int.reduceAdd, Int.reduceSub, Int.reduceMul, Int.zero_add, Int.add_zero, Nat.zero_add, na_0, ca_la, ca_al, ca_lm, ca_add, ca_mod, ca_lit, tn_c, Int.natCast_zero, bd_some, bd2_some, bindv_e, chk_ok, cr_ok, crl_ok, chd_ok, chb_0, chb_1, cr_bI, chb_bI, ite_bI0, if_true, if_false]
      · simp (disch := omega) only [fX8_lay, e2, y2, if_pos, if_neg, Int.reduceAdd, Int.reduceSub, Int.reduceMul, Int.zero_add, Int.add_zero, Nat.zero_add, na_0, ca_la, ca_al, ca_lm, ca_add, ca_mod, ca_lit, tn_c, Int.natCast_zero, bd_some, bd2_some, bindv_e, chk_ok, cr_ok, crl_ok, chd_ok, chb_0, chb_1, cr_bI, chb_bI, ite_bI0, if_true, if_false]
    · rw [bI_f (by omega)] at hN
      have f1 := c_isBelow σ (v := u) (n := σ (21 + 2 * k) 2) hu (by omega)
      have f2 := m_in τ (v := u) (a := 0) (b := τ 17 k - 1) hu (by omega) (by omega)
      rw [bI_c (show (0 ≤ u ∧ u ≤ τ 17 k - 1) ↔ (0 ≤ u ∧ u < σ (21 + 2 * k) 2) by omega)] at f2
      by_cases z2 : 0 ≤ u ∧ u < σ (21 + 2 * k) 2
      · rw [bI_t z2] at f1 f2
        obtain ⟨i, rfl⟩ : ∃ i : Nat, u = (i : Int) := ⟨u.toNat, by omega⟩
        have hi : i < 40 := by omega
        rcases (show τ 16 k = 0 ∨ τ 16 k = 1 ∨ τ 16 k = 2 by omega) with y | y | y
        · rw [y] at y1
          refine ⟨1, _, _, ?_, ?_, L, lay_I hI hk hi (byI_r w)⟩
          · simp (disch := omega) only [fX7_lay, fX4_put, fX4_put_61, e1, hN, f1, y1, if_pos, if_neg, Int.reduceAdd, Int.reduceSub, Int.reduceMul, Int.zero_add, Int.add_zero, Nat.zero_add, na_0, ca_la, ca_al, ca_lm, ca_add, ca_mod, ca_lit, tn_c, Int.natCast_zero, bd_some, bd2_some, bindv_e, chk_ok, cr_ok, crl_ok, chd_ok, chb_0, chb_1, cr_bI, chb_bI, ite_bI0, if_true, if_false]
          · simp (disch := omega) only [fX8_lay, fX8_lay_99, e2, f2, y, byI_s, if_pos, if_neg, Int.reduceAdd, Int.reduceSub, Int.reduceMul, Int.zero_add, Int.add_zero, Nat.zero_add, na_0, ca_la, ca_al, ca_lm, ca_add, ca_mod, ca_lit, tn_c, Int.natCast_zero, bd_some, bd2_some, bindv_e, chk_ok, cr_ok, crl_ok, chd_ok, chb_0, chb_1, cr_bI, chb_bI, ite_bI0, if_true, if_false]
        · rw [y] at y1
          refine ⟨1, _, _, ?_, ?_, L, lay_I hI hk hi (shI_r w)⟩
          · simp (disch := omega) only [fX7_lay, fX4_put, fX4_put_61, e1, hN, f1, y1, if_pos, if_neg, Int.reduceAdd, Int.reduceSub, Int.reduceMul, Int.zero_add, Int.add_zero, Nat.zero_add, na_0, ca_la, ca_al, ca_lm, ca_add, ca_mod, ca_lit, tn_c, Int.natCast_zero, bd_some, bd2_some, bindv_e, chk_ok, cr_ok, crl_ok, chd_ok, chb_0, chb_1, cr_bI, chb_bI, ite_bI0, if_true, if_false]
          · simp (disch := omega) only [fX8_lay, fX8_lay_99, e2, f2, y, shI_s, if_pos, if_neg, Int.reduceAdd, Int.reduceSub, Int.reduceMul, Int.zero_add, Int.add_zero, Nat.zero_add, na_0, ca_la, ca_al, ca_lm, ca_add, ca_mod, ca_lit, tn_c, Int.natCast_zero, bd_some, bd2_some, bindv_e, chk_ok, cr_ok, crl_ok, chd_ok, chb_0, chb_1, cr_bI, chb_bI, ite_bI0, if_true, if_false]
        · rw [y] at y1
          refine ⟨1, _, _, ?_, ?_, L, lay_I hI hk hi hw⟩
          · simp (disch := omega) only [fX7_lay, fX4_put, fX4_put_61, e1, hN, f1, y1, if_pos, if_neg, Int.reduceAdd, Int.reduceSub, Int.reduceMul, Int.zero_add, Int.add_zero, Nat.zero_add, na_0, ca_la, ca_al, ca_lm, ca_add, ca_mod, ca_lit, tn_c, Int.natCast_zero, bd_some, bd2_some, bindv_e, chk_ok, cr_ok, crl_ok, chd_ok, chb_0, chb_1, cr_bI, chb_bI, ite_bI0, if_true, if_false]
          · simp (disch := omega) only [fX8_lay, fX8_lay_99, e2, f2, y, if_pos, if_neg, Int.reduceAdd, Int.reduceSub, Int.reduceMul, Int.zero_add, Int.add_zero, Nat.zero_add, na_0, ca_la, ca_al, ca_lm, ca_add, ca_mod, ca_lit, tn_c, Int.natCast_zero, bd_some, bd2_some, bindv_e, chk_ok, cr_ok, crl_ok, chd_ok, chb_0, chb_1, cr_bI, chb_bI, ite_bI0, if_true, if_false]
      · rw [bI_f z2] at f1 f2
        refine ⟨-12, σ, τ, ?_, ?_, L, hI⟩
        · simp (disch := omega) only [fX7_lay, e1, hN, f1, if_pos, if_neg, Int.reduceAdd, Int.reduceSub, Int.reduceMul, Int.zero_add, Int.add_zero, Nat.zero_add, na_0, ca_la, ca_al, ca_lm, ca_add, ca_mod, ca_lit, tn_c, Int.natCast_zero, bd_some, bd2_some, bindv_e, chk_ok, cr_ok, crl_ok, chd_ok, chb_0, chb_1, cr_bI, chb_bI, ite_bI0, if_true, if_false]
        · simp (disch := omega) only [fX8_lay, e2, f2, if_pos, if_neg, Int.reduceAdd, Int.reduceSub, Int.reduceMul, Int.zero_add, Int.add_zero, Nat.zero_add, na_0, ca_la, ca_al, ca_lm, ca_add, ca_mod, ca_lit, tn_c, Int.natCast_zero, bd_some, bd2_some, bindv_e, chk_ok, cr_ok, crl_ok, chd_ok, chb_0, chb_1, cr_bI, chb_bI, ite_bI0, if_true, if_false]
  · rw [bI_f z1] at e2
    rw [bI_f (by omega)] at e1
    refine ⟨-1, σ, τ, ?_, ?_, L, hI⟩
    · simp (disch := omega) only [fX7_lay, e1, if_pos, Int.reduceAdd, Int.reduceSub, Int.reduceMul, Int.zero_add, Int.add_zero, Nat.zero_add, na_0, ca_la, ca_al, ca_lm, ca_add, ca_mod, ca_lit, tn_c, Int.natCast_zero, bd_some, bd2_some, bindv_e, chk_ok, cr_ok, crl_ok, chd_ok, chb_0, chb_1, cr_bI, chb_bI, ite_bI0, if_true, if_false]
    · simp (disch := omega) only [fX8_lay, e2, if_pos, Int.reduceAdd, Int.reduceSub, Int.reduceMul, Int.zero_add, Int.add_zero, Nat.zero_add, na_0, ca_la, ca_al, ca_lm, ca_add, ca_mod, ca_lit, tn_c, Int.natCast_zero, bd_some, bd2_some, bindv_e, chk_ok, cr_ok, crl_ok, chd_ok, chb_0, chb_1, cr_bI, chb_bI, ite_bI0, if_true, if_false]
theorem it_sum2 {β : Type} {f : (Int → Int → Int → Option β) → Int → Int → Int → Option β} (N : Nat) (t u : Nat → Int) (w : Int → Int → Option β) (hs : ∀ (c : Int → Int → Int → Option β) (a b : Int) (i : Nat), i < N → f c a b (i : Int) = c (a + t i) (b + u i) ((i + 1 : Nat) : Int)) (hx : ∀ (c : Int → Int → Int → Option β) (a b : Int), f c a b (N : Int) = w a b) : ∀ (fu i : Nat) (a b : Int), i ≤ N → N - i < fu → itN (fun _ _ _ => none) f fu a b (i : Int) = w (a + sumR t i (N - i)) (b + sumR u i (N - i))
  | 0, i, _, _, _, h => by omega
  | fu + 1, i, a, b, h1, h2 => by
    rw [itN_s]
    by_cases he : i = N
    · subst he
      rw [hx, Nat.sub_self]
      simp [sumR]
    · rw [hs _ a b i (by omega)]
      have ih := it_sum2 N t u w hs hx fu (i + 1) (a + t i) (b + u i) (by omega) (by omega)
      have e3 : sumR t i (N - (i + 1) + 1) = t i + sumR t (i + 1) (N - (i + 1)) := rfl
      have e4 : sumR u i (N - (i + 1) + 1) = u i + sumR u (i + 1) (N - (i + 1)) := rfl
      rw [ih, show N - i = (N - (i + 1)) + 1 by omega, e3, e4, Int.add_assoc, Int.add_assoc]
theorem c_sumOf {σ : Mm} {k w n : Nat} {f : Nat → Int} (h1 : σ k 9 = (n : Int)) (hn : n ≤ 24) (hf : ∀ i, i < n → σ w i = f i) : fX1_sumOf k w σ = some (sm f n) := by
  have key := it_sum0 (f := fun c => fX1_sumOf_4 k w σ (fun v => fX1_sumOf_24 k w v σ) c) n f (fun v => some v) 0 (by omega) (fun c a i hi => by
    simp (disch := omega) only [fX1_sumOf_4, h1, hf, if_pos, Int.reduceAdd, Int.reduceSub, Int.reduceMul, Int.zero_add, Int.add_zero, Nat.zero_add, na_0, ca_la, ca_al, ca_lm, ca_add, ca_mod, ca_lit, tn_c, Int.natCast_zero, bd_some, bd2_some, bindv_e, chk_ok, cr_ok, crl_ok, chd_ok, chb_0, chb_1, cr_bI, chb_bI, ite_bI0, if_true, if_false]) (fun c a => by
    simp (disch := omega) only [fX1_sumOf_4, fX1_sumOf_24, h1, if_neg, Int.reduceAdd, Int.reduceSub, Int.reduceMul, Int.zero_add, Int.add_zero, Nat.zero_add, na_0, ca_la, ca_al, ca_lm, ca_add, ca_mod, ca_lit, tn_c, Int.natCast_zero, bd_some, bd2_some, bindv_e, chk_ok, cr_ok, crl_ok, chd_ok, chb_0, chb_1, cr_bI, chb_bI, ite_bI0, if_true, if_false])
  rw [Int.zero_add] at key
  unfold fX1_sumOf
  rw [bindv_e, bindv_e]
  unfold lX1_sumOf_4
  exact key
theorem k_count {σ τ : Mm} {v : Int} (h : Inv σ τ) (hv : inR v) : CV (fX7_count v σ) (fX8_count v τ) := by
  obtain ⟨L, hI⟩ := h
  have hW := hI.1.1
  have hn := hW.1
  obtain ⟨cN, -, cX, cY, -⟩ := CL95 hI.1.2.2.1
  obtain ⟨-, -, mX, mY, -⟩ := ML0 hI.2.2.1
  have mN := m_points hI.2.2.1
  have sx := c_sumOf (w := 96) cN hn cX
  have sy := c_sumOf (w := 97) cN hn cY
  have key : lX8_count_7 v τ (fun a b => fX8_count_45 v a b τ) 400 0 0 0 = fX8_count_45 v (sm L.X L.np) (sm L.Y L.np) τ := by
    have q := it_sum2 (f := fun c => fX8_count_7 v τ (fun a b => fX8_count_45 v a b τ) c) L.np L.X L.Y (fun a b => fX8_count_45 v a b τ) (fun c a b i hi => by
      simp (disch := omega) only [fX8_count_7, mN, mX, mY, if_pos, Int.reduceAdd, Int.reduceSub, Int.reduceMul, Int.zero_add, Int.add_zero, Nat.zero_add, na_0, ca_la, ca_al, ca_lm, ca_add, ca_mod, ca_lit, tn_c, Int.natCast_zero, bd_some, bd2_some, bindv_e, chk_ok, cr_ok, crl_ok, chd_ok, chb_0, chb_1, cr_bI, chb_bI, ite_bI0, if_true, if_false]) (fun c a b => by
      simp (disch := omega) only [fX8_count_7, mN, if_neg, Int.reduceAdd, Int.reduceSub, Int.reduceMul, Int.zero_add, Int.add_zero, Nat.zero_add, na_0, ca_la, ca_al, ca_lm, ca_add, ca_mod, ca_lit, tn_c, Int.natCast_zero, bd_some, bd2_some, bindv_e, chk_ok, cr_ok, crl_ok, chd_ok, chb_0, chb_1, cr_bI, chb_bI, ite_bI0, if_true, if_false]) 400 0 0 0 (by omega) (by omega)
    rw [Int.zero_add, Int.zero_add, Nat.sub_zero] at q
    unfold lX8_count_7
    exact q
  have b8 : fX8_count v τ = fX8_count_45 v (sm L.X L.np) (sm L.Y L.np) τ := by
    unfold fX8_count
    rw [bindv_e, bindv_e, bindv_e]
    exact key
  obtain ⟨⟨n, t1, t2, t3, t4⟩, r2, r3, r4, -⟩ := hI.2.2.2.2
  have i01 : ∀ k, k < 2 → (σ 19 k = 0 ∧ τ 15 k = 0) ∨ (σ 19 k = 1 ∧ τ 15 k = 1) := fun k hk => by
    rcases r4 k hk with q | ⟨q1, q2, -⟩
    · exact Or.inl q
    · exact Or.inr ⟨q1, q2⟩
  unfold CV
  rw [b8]
  by_cases z0 : v = 0
  · subst z0
    rcases i01 0 (by omega) with ⟨x1, x2⟩ | ⟨x1, x2⟩
    · rcases i01 1 (by omega) with ⟨y1, y2⟩ | ⟨y1, y2⟩
      · refine ⟨0, ?_, ?_⟩
        · simp (disch := omega) only [fX7_count, fX7_count_50, fX7_count_64, x1, y1, if_pos, if_neg, Int.reduceAdd, Int.reduceSub, Int.reduceMul, Int.zero_add, Int.add_zero, Nat.zero_add, na_0, ca_la, ca_al, ca_lm, ca_add, ca_mod, ca_lit, tn_c, Int.natCast_zero, bd_some, bd2_some, bindv_e, chk_ok, cr_ok, crl_ok, chd_ok, chb_0, chb_1, cr_bI, chb_bI, ite_bI0, if_true, if_false]
        · simp (disch := omega) only [fX8_count_45, fX8_count_94, fX8_count_108, x2, y2, if_pos, if_neg, Int.reduceAdd, Int.reduceSub, Int.reduceMul, Int.zero_add, Int.add_zero, Nat.zero_add, na_0, ca_la, ca_al, ca_lm, ca_add, ca_mod, ca_lit, tn_c, Int.natCast_zero, bd_some, bd2_some, bindv_e, chk_ok, cr_ok, crl_ok, chd_ok, chb_0, chb_1, cr_bI, chb_bI, ite_bI0, if_true, if_false]
      · refine ⟨1, ?_, ?_⟩
        · simp (disch := omega) only [fX7_count, fX7_count_50, fX7_count_64, x1, y1, if_pos, if_neg, Int.reduceAdd, Int.reduceSub, Int.reduceMul, Int.zero_add, Int.add_zero, Nat.zero_add, na_0, ca_la, ca_al, ca_lm, ca_add, ca_mod, ca_lit, tn_c, Int.natCast_zero, bd_some, bd2_some, bindv_e, chk_ok, cr_ok, crl_ok, chd_ok, chb_0, chb_1, cr_bI, chb_bI, ite_bI0, if_true, if_false]
        · simp (disch := omega) only [fX8_count_45, fX8_count_94, fX8_count_108, x2, y2, if_pos, if_neg, Int.reduceAdd, Int.reduceSub, Int.reduceMul, Int.zero_add, Int.add_zero, Nat.zero_add, na_0, ca_la, ca_al, ca_lm, ca_add, ca_mod, ca_lit, tn_c, Int.natCast_zero, bd_some, bd2_some, bindv_e, chk_ok, cr_ok, crl_ok, chd_ok, chb_0, chb_1, cr_bI, chb_bI, ite_bI0, if_true, if_false]
    · rcases i01 1 (by omega) with ⟨y1, y2⟩ | ⟨y1, y2⟩
      · refine ⟨1, ?_, ?_⟩
        · simp (disch := omega) only [fX7_count, fX7_count_50, fX7_count_64, x1, y1, if_pos, if_neg, Int.reduceAdd, Int.reduceSub, Int.reduceMul, Int.zero_add, Int.add_zero, Nat.zero_add, na_0, ca_la, ca_al, ca_lm, ca_add, ca_mod, ca_lit, tn_c, Int.natCast_zero, bd_some, bd2_some, bindv_e, chk_ok, cr_ok, crl_ok, chd_ok, chb_0, chb_1, cr_bI, chb_bI, ite_bI0, if_true, if_false]
        · simp (disch := omega) only [fX8_count_45, fX8_count_94, fX8_count_108, x2, y2, if_pos, if_neg, Int.reduceAdd, Int.reduceSub, Int.reduceMul, Int.zero_add, Int.add_zero, Nat.zero_add, na_0, ca_la, ca_al, ca_lm, ca_add, ca_mod, ca_lit, tn_c, Int.natCast_zero, bd_some, bd2_some, bindv_e, chk_ok, cr_ok, crl_ok, chd_ok, chb_0, chb_1, cr_bI, chb_bI, ite_bI0, if_true, if_false]
      · refine ⟨2, ?_, ?_⟩
        · simp (disch := omega) only [fX7_count, fX7_count_50, fX7_count_64, x1, y1, if_pos, if_neg, Int.reduceAdd, Int.reduceSub, Int.reduceMul, Int.zero_add, Int.add_zero, Nat.zero_add, na_0, ca_la, ca_al, ca_lm, ca_add, ca_mod, ca_lit, tn_c, Int.natCast_zero, bd_some, bd2_some, bindv_e, chk_ok, cr_ok, crl_ok, chd_ok, chb_0, chb_1, cr_bI, chb_bI, ite_bI0, if_true, if_false]
        · simp (disch := omega) only [fX8_count_45, fX8_count_94, fX8_count_108, x2, y2, if_pos, if_neg, Int.reduceAdd, Int.reduceSub, Int.reduceMul, Int.zero_add, Int.add_zero, Nat.zero_add, na_0, ca_la, ca_al, ca_lm, ca_add, ca_mod, ca_lit, tn_c, Int.natCast_zero, bd_some, bd2_some, bindv_e, chk_ok, cr_ok, crl_ok, chd_ok, chb_0, chb_1, cr_bI, chb_bI, ite_bI0, if_true, if_false]
  by_cases z1 : v = 1
  · subst z1
    refine ⟨n, ?_, ?_⟩
    · simp (disch := omega) only [fX7_count, t2, if_pos, if_neg, Int.reduceAdd, Int.reduceSub, Int.reduceMul, Int.zero_add, Int.add_zero, Nat.zero_add, na_0, ca_la, ca_al, ca_lm, ca_add, ca_mod, ca_lit, tn_c, Int.natCast_zero, bd_some, bd2_some, bindv_e, chk_ok, cr_ok, crl_ok, chd_ok, chb_0, chb_1, cr_bI, chb_bI, ite_bI0, if_true, if_false]
    · simp (disch := omega) only [fX8_count_45, t3, if_pos, if_neg, Int.reduceAdd, Int.reduceSub, Int.reduceMul, Int.zero_add, Int.add_zero, Nat.zero_add, na_0, ca_la, ca_al, ca_lm, ca_add, ca_mod, ca_lit, tn_c, Int.natCast_zero, bd_some, bd2_some, bindv_e, chk_ok, cr_ok, crl_ok, chd_ok, chb_0, chb_1, cr_bI, chb_bI, ite_bI0, if_true, if_false]
  by_cases z2 : v = 2
  · subst z2
    obtain ⟨s1, s2, s3, s4, -⟩ := r3 0 (by omega)
    have hN := c_isNothing (σ := σ) (k := 21 + 2 * 0) (by rcases s1 with s1 | s1 <;> omega)
    rcases s1 with ⟨y1, y2⟩ | ⟨y1, y2, y3⟩
    · rw [bI_t y1] at hN
      refine ⟨-4, ?_, ?_⟩
      · simp (disch := omega) only [fX7_count, fX7_count_100, hN, if_pos, if_neg, Int.reduceAdd, Int.reduceSub, Int.reduceMul, Int.zero_add, Int.add_zero, Nat.zero_add, na_0, ca_la, ca_al, ca_lm, ca_add, ca_mod, ca_lit, tn_c, Int.natCast_zero, bd_some, bd2_some, bindv_e, chk_ok, cr_ok, crl_ok, chd_ok, chb_0, chb_1, cr_bI, chb_bI, ite_bI0, if_true, if_false]
      · simp (disch := omega) only [fX8_count_45, fX8_count_137, y2, if_pos, if_neg, Int.reduceAdd, Int.reduceSub, Int.reduceMul, Int.zero_add, Int.add_zero, Nat.zero_add, na_0, ca_la, ca_al, ca_lm, ca_add, ca_mod, ca_lit, tn_c, Int.natCast_zero, bd_some, bd2_some, bindv_e, chk_ok, cr_ok, crl_ok, chd_ok, chb_0, chb_1, cr_bI, chb_bI, ite_bI0, if_true, if_false]
    · rw [bI_f (by omega)] at hN
      refine ⟨τ 17 0, ?_, ?_⟩
      · simp (disch := omega) only [fX7_count, fX7_count_100, hN, s2, if_pos, if_neg, Int.reduceAdd, Int.reduceSub, Int.reduceMul, Int.zero_add, Int.add_zero, Nat.zero_add, na_0, ca_la, ca_al, ca_lm, ca_add, ca_mod, ca_lit, tn_c, Int.natCast_zero, bd_some, bd2_some, bindv_e, chk_ok, cr_ok, crl_ok, chd_ok, chb_0, chb_1, cr_bI, chb_bI, ite_bI0, if_true, if_false]
      · simp (disch := omega) only [fX8_count_45, fX8_count_137, if_pos, if_neg, Int.reduceAdd, Int.reduceSub, Int.reduceMul, Int.zero_add, Int.add_zero, Nat.zero_add, na_0, ca_la, ca_al, ca_lm, ca_add, ca_mod, ca_lit, tn_c, Int.natCast_zero, bd_some, bd2_some, bindv_e, chk_ok, cr_ok, crl_ok, chd_ok, chb_0, chb_1, cr_bI, chb_bI, ite_bI0, if_true, if_false]
  by_cases z3 : v = 3
  · subst z3
    refine ⟨sm L.X L.np, ?_, ?_⟩
    · simp (disch := omega) only [fX7_count, sx, if_pos, if_neg, Int.reduceAdd, Int.reduceSub, Int.reduceMul, Int.zero_add, Int.add_zero, Nat.zero_add, na_0, ca_la, ca_al, ca_lm, ca_add, ca_mod, ca_lit, tn_c, Int.natCast_zero, bd_some, bd2_some, bindv_e, chk_ok, cr_ok, crl_ok, chd_ok, chb_0, chb_1, cr_bI, chb_bI, ite_bI0, if_true, if_false]
    · simp (disch := omega) only [fX8_count_45, if_pos, if_neg, Int.reduceAdd, Int.reduceSub, Int.reduceMul, Int.zero_add, Int.add_zero, Nat.zero_add, na_0, ca_la, ca_al, ca_lm, ca_add, ca_mod, ca_lit, tn_c, Int.natCast_zero, bd_some, bd2_some, bindv_e, chk_ok, cr_ok, crl_ok, chd_ok, chb_0, chb_1, cr_bI, chb_bI, ite_bI0, if_true, if_false]
  by_cases z4 : v = 4
  · subst z4
    refine ⟨sm L.Y L.np, ?_, ?_⟩
    · simp (disch := omega) only [fX7_count, sy, if_pos, if_neg, Int.reduceAdd, Int.reduceSub, Int.reduceMul, Int.zero_add, Int.add_zero, Nat.zero_add, na_0, ca_la, ca_al, ca_lm, ca_add, ca_mod, ca_lit, tn_c, Int.natCast_zero, bd_some, bd2_some, bindv_e, chk_ok, cr_ok, crl_ok, chd_ok, chb_0, chb_1, cr_bI, chb_bI, ite_bI0, if_true, if_false]
    · simp (disch := omega) only [fX8_count_45, if_pos, if_neg, Int.reduceAdd, Int.reduceSub, Int.reduceMul, Int.zero_add, Int.add_zero, Nat.zero_add, na_0, ca_la, ca_al, ca_lm, ca_add, ca_mod, ca_lit, tn_c, Int.natCast_zero, bd_some, bd2_some, bindv_e, chk_ok, cr_ok, crl_ok, chd_ok, chb_0, chb_1, cr_bI, chb_bI, ite_bI0, if_true, if_false]
  refine ⟨-1, ?_, ?_⟩
  · simp (disch := omega) only [fX7_count, if_pos, if_neg, Int.reduceAdd, Int.reduceSub, Int.reduceMul, Int.zero_add, Int.add_zero, Nat.zero_add, na_0, ca_la, ca_al, ca_lm, ca_add, ca_mod, ca_lit, tn_c, Int.natCast_zero, bd_some, bd2_some, bindv_e, chk_ok, cr_ok, crl_ok, chd_ok, chb_0, chb_1, cr_bI, chb_bI, ite_bI0, if_true, if_false]
  · simp (disch := omega) only [fX8_count_45, if_pos, if_neg, Int.reduceAdd, Int.reduceSub, Int.reduceMul, Int.zero_add, Int.add_zero, Nat.zero_add, na_0, ca_la, ca_al, ca_lm, ca_add, ca_mod, ca_lit, tn_c, Int.natCast_zero, bd_some, bd2_some, bindv_e, chk_ok, cr_ok, crl_ok, chd_ok, chb_0, chb_1, cr_bI, chb_bI, ite_bI0, if_true, if_false]
