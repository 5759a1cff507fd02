/-! text -/
theorem c_clear {σ : Mm} : ∃ σ', fX1_clear 111 σ = some σ' ∧ σ' 111 9 = 0 ∧ σ' 111 10 = 0 ∧ (∀ p, p < 24 → σ' 114 p = 0) ∧ (∀ c, c ≠ 111 → c ≠ 114 → σ' c = σ c) := by
  obtain ⟨σ', ⟨h1, h2⟩, h3⟩ := it_inv0 (f := fun c => fX1_clear_12 111 (fun s => fX1_clear_31 111 s) c) 24 (fun i s => (∀ c, c ≠ 114 → s c = sto (sto σ 111 9 0) 111 10 0 c) ∧ ∀ j, j < i → s 114 j = 0) (fun s => some s) (sto (sto σ 111 9 0) 111 10 0) (by omega) ⟨fun _ _ => rfl, fun j hj => by omega⟩ (fun c i s hi hI => by
    obtain ⟨h1, h2⟩ := hI
    refine ⟨sto s (111 + 3) i 0, ⟨fun c hc => by rw [sto_c (by omega)]; exact h1 c hc, fun j hj => ?_⟩, ?_⟩
    · by_cases q : j = i
      · rw [q]; exact sto_eq _ _ _ _
      · rw [sto_i q]; exact h2 j (by omega)
    · simp (disch := omega) only [fX1_clear_12, if_pos, Int.reduceAdd, Int.reduceSub, Int.reduceMul, Int.zero_add, Int.add_zero, Nat.zero_add, na_0, ca_la, ca_al, ca_lm, ca_add, ca_mod, ca_lit, tn_c, Int.natCast_zero, bd_some, bd2_some, bindv_e, chk_ok, cr_ok, crl_ok, chd_ok, chb_0, chb_1, cr_bI, chb_bI, ite_bI0, if_true, if_false]) (fun c s hI => by
    simp (disch := omega) only [fX1_clear_12, fX1_clear_31, if_neg, Int.reduceAdd, Int.reduceSub, Int.reduceMul, Int.zero_add, Int.add_zero, Nat.zero_add, na_0, ca_la, ca_al, ca_lm, ca_add, ca_mod, ca_lit, tn_c, Int.natCast_zero, bd_some, bd2_some, bindv_e, chk_ok, cr_ok, crl_ok, chd_ok, chb_0, chb_1, cr_bI, chb_bI, ite_bI0, if_true, if_false])
  refine ⟨σ', ?_, by rw [h1 111 (by omega), sto_i (by omega), sto_eq], by rw [h1 111 (by omega), sto_eq], h2, fun c c1 c2 => by rw [h1 c c2, sto_c c1, sto_c c1]⟩
  unfold fX1_clear
  rw [bindv_e, bindv_e, bindv_e]
  unfold lX1_clear_12
  exact h3
theorem m_zero {τ : Mm} {e : Mm → Option (Int × Mm)} : ∃ τ', ((∀ j, j < 140 → τ' 1 (420 + j) = 0) ∧ (∀ j, (j < 420 ∨ 560 ≤ j) → τ' 1 j = τ 1 j) ∧ (∀ c, c ≠ 1 → τ' c = τ c)) ∧ lX8_text_19 0 e 400 0 τ = e τ' := by
  unfold lX8_text_19
  refine it_inv0 (f := fun c => fX8_text_19 0 e c) 140 (fun i t => (∀ j, j < i → t 1 (420 + j) = 0) ∧ (∀ j, (j < 420 ∨ 560 ≤ j) → t 1 j = τ 1 j) ∧ (∀ c, c ≠ 1 → t c = τ c)) e τ (by omega) ⟨fun j hj => by omega, fun _ _ => rfl, fun _ _ => rfl⟩ (fun c i t hi hI => ?_) (fun c t hI => ?_)
  · obtain ⟨h1, h2, h3⟩ := hI
    refine ⟨sto t 1 (420 + i) 0, ⟨fun j hj => ?_, fun j hj => by rw [sto_i (by omega)]; exact h2 j hj, fun c hc => by rw [sto_c hc]; exact h3 c hc⟩, ?_⟩
    · by_cases q : j = i
      · rw [q, sto_eq]
      · rw [sto_i (by omega)]; exact h1 j (by omega)
    · simp (disch := omega) only [fX8_text_19, if_pos, Int.reduceAdd, Int.reduceSub, Int.reduceMul, Int.zero_add, Int.add_zero, Nat.zero_add, na_0, ca_la, ca_al, ca_lm, ca_add, ca_mod, ca_lit, tn_c, Int.natCast_zero, bd_some, bd2_some, bindv_e, chk_ok, cr_ok, crl_ok, chd_ok, chb_0, chb_1, cr_bI, chb_bI, ite_bI0, if_true, if_false]
  · simp (disch := omega) only [fX8_text_19, if_neg, Int.reduceAdd, Int.reduceSub, Int.reduceMul, Int.zero_add, Int.add_zero, Nat.zero_add, na_0, ca_la, ca_al, ca_lm, ca_add, ca_mod, ca_lit, tn_c, Int.natCast_zero, bd_some, bd2_some, bindv_e, chk_ok, cr_ok, crl_ok, chd_ok, chb_0, chb_1, cr_bI, chb_bI, ite_bI0, if_true, if_false]
/-- the end of a refused text -/
theorem text_f {L : Ld} {σ τ σ' τ' : Mm} {l : Int} (hI : InvL L σ τ) (hF : FL σ' τ') (h1 : frL σ σ') (h2 : frN τ τ') : CC (fX7_text_24 σ') (fX8_text_91 l τ') := by
  obtain ⟨c, p, c1, c2, c3, c4, c5⟩ := hF
  obtain ⟨⟨n, n1, n2, n3, n4⟩, r2, r3, -⟩ := hI.2.2.2.2
  refine ⟨-10 - (p : Int), sto (sto σ' 1 1 0) 0 10 (c : Int), sto (sto τ' 0 2 0) 0 3 (c : Int), ?_, ?_, L, ?_⟩
  · unfold fX7_text_24 fX7_text_25
    rw [bindv_e, bindv_e, sto_k (by omega), c2, bindv_e, cr_ok (by omega), if_pos rfl, sto_k (by omega), sto_k (by omega), c3]
  · unfold fX8_text_91
    rw [bindv_e, sto_i (by omega), c4, bindv_e, sto_i (by omega), sto_i (by omega), c4, cr_ok (by omega), if_pos (by omega), sto_i (by omega), sto_i (by omega), c5]
  · refine InvL_g (σ := σ) (τ := τ) (fun k hk => by rw [sto_c (by omega), sto_c (by omega)]; exact h1 k (by omega) (by omega)) (fun j hj => by rw [sto_k (by omega), sto_k (by omega)]; exact h2.2.2 j (by omega)) ⟨by rw [sto_i (by omega), sto_i (by omega)]; exact h2.2.1 17 (by omega) (by omega), by rw [sto_i (by omega), sto_i (by omega)]; exact h2.2.1 16 (by omega) (by omega), by rw [sto_i (by omega), sto_i (by omega)]; exact h2.2.1 24 (by omega) (by omega)⟩ (fun k _ _ => by rw [sto_c (by omega), sto_c (by omega)]; exact h2.1 k (by omega)) ?_ hI
    refine RST_g (σ := σ) (τ := τ) ⟨0, by omega, by rw [sto_k (by omega), sto_eq]; rfl, by rw [sto_i (by omega), sto_eq]; rfl, fun i hi => by omega⟩ ⟨by rw [sto_eq, sto_eq], ?_⟩ (fun k hk => SHk_c (by rw [sto_c (by omega), sto_c (by omega)]; exact h1 _ (by omega) (by omega)) (by rw [sto_c (by omega), sto_c (by omega)]; exact h1 _ (by omega) (by omega)) ⟨by rw [sto_c (by omega), sto_c (by omega)]; exact h2.1 _ (by omega), by rw [sto_c (by omega), sto_c (by omega)]; exact h2.1 _ (by omega), by rw [sto_c (by omega), sto_c (by omega)]; exact h2.1 _ (by omega)⟩ (r3 k hk)) (by rw [sto_c (by omega), sto_c (by omega)]; exact h1 _ (by omega) (by omega)) (fun k hk => by rw [sto_c (by omega), sto_c (by omega)]; exact h1 _ (by omega) (by omega)) (fun j hj hj2 => by rw [sto_k (by omega), sto_k (by omega)]; exact h2.2.2 j (by omega)) ⟨by rw [sto_c (by omega), sto_c (by omega)]; exact h2.1 _ (by omega), by rw [sto_c (by omega), sto_c (by omega)]; exact h2.1 _ (by omega), by rw [sto_c (by omega), sto_c (by omega)]; exact h2.1 _ (by omega)⟩ hI.2.2.2.2
    rw [sto_i (by omega), sto_k (by omega), sto_i (by omega), sto_i (by omega), h1 0 (by omega) (by omega), h2.2.1 30 (by omega) (by omega)]
    exact r2.2
theorem c_forget {σ : Mm} : ∃ σ', fX7_forgetImages σ = some σ' ∧ (∀ k, k < 2 → σ' 19 k = 0) ∧ (∀ c, c ≠ 19 → σ' c = σ c) := by
  obtain ⟨σ', ⟨h1, h2⟩, h3⟩ := it_inv0 (f := fun c => fX7_forgetImages_2 (fun s => fX7_forgetImages_20 s) c) 2 (fun i s => (∀ c, c ≠ 19 → s c = σ c) ∧ ∀ j, j < i → s 19 j = 0) (fun s => some s) σ (by omega) ⟨fun _ _ => rfl, fun j hj => by omega⟩ (fun c i s hi hI => by
    obtain ⟨h1, h2⟩ := hI
    refine ⟨sto s 19 i 0, ⟨fun c hc => by rw [sto_c hc]; exact h1 c hc, fun j hj => ?_⟩, ?_⟩
    · by_cases q : j = i
      · rw [q, sto_eq]
      · rw [sto_i q]; exact h2 j (by omega)
    · simp (disch := omega) only [fX7_forgetImages_2, if_pos, Int.reduceAdd, Int.reduceSub, Int.reduceMul, Int.zero_add, Int.add_zero, Nat.zero_add, na_0, ca_la, ca_al, ca_lm, ca_add, ca_mod, ca_lit, tn_c, Int.natCast_zero, bd_some, bd2_some, bindv_e, chk_ok, cr_ok, crl_ok, chd_ok, chb_0, chb_1, cr_bI, chb_bI, ite_bI0, if_true, if_false]) (fun c s hI => by
    simp (disch := omega) only [fX7_forgetImages_2, fX7_forgetImages_20, if_neg, Int.reduceAdd, Int.reduceSub, Int.reduceMul, Int.zero_add, Int.add_zero, Nat.zero_add, na_0, ca_la, ca_al, ca_lm, ca_add, ca_mod, ca_lit, tn_c, Int.natCast_zero, bd_some, bd2_some, bindv_e, chk_ok, cr_ok, crl_ok, chd_ok, chb_0, chb_1, cr_bI, chb_bI, ite_bI0, if_true, if_false])
  refine ⟨σ', ?_, h2, h1⟩
  unfold fX7_forgetImages
  rw [bindv_e]
  unfold lX7_forgetImages_2
  exact h3
/-- the end of a text that comes -/
theorem text_o {L L1 : Ld} {σ τ σ' τ' : Mm} {l : Nat} (hI : InvL L σ τ) (hD : LDC σ' 111 L1) (hM : ML τ' 420 L1) (h6 : σ' 3 6 = 0) (h4 : τ' 0 4 = 0) (h8 : σ' 3 8 = (l : Int)) (h1 : frL σ σ') (h2 : frN τ τ') : CC (fX7_text_25 1 σ') (fX8_text_91 l τ') := by
  obtain ⟨⟨n, n1, n2, n3, n4⟩, r2, r3, r4, r5⟩ := hI.2.2.2.2
  obtain ⟨σ1, a1, a2, a3⟩ := c_copyFrom (σ := sto (sto σ' 1 1 0) 0 10 0) (k := 95) (w := 111) (by omega) (fun p hp => by rw [sto_k (by omega), sto_k (by omega)]; exact hD.2.2.2.2 p hp)
  have hD' : LDC (sto (sto σ' 1 1 0) 0 10 0) 111 L1 := LDC_c (fun c _ _ => by rw [sto_c (by omega), sto_c (by omega)]) hD
  obtain ⟨σ2, b1, b2, b3⟩ := c_forget (σ := σ1)
  obtain ⟨τ1, t1, t2, t3, t4⟩ := m_copies (τ := sto (sto τ' 0 2 0) 0 3 0) (a := 420) (o := 0) (by omega) (by omega) (by omega)
  rw [Int.natCast_zero, show ((420 : Nat) : Int) = 420 from rfl] at t1
  have H : HALF L1 σ2 (sto (sto (sto τ1 0 17 0) 15 0 0) 15 1 0) := by
    refine ⟨LDC_c (fun c _ _ => b3 c (by omega)) (LDC_cp a2 hD'), ML_c (σ := τ') (o := 420) hD.1 (fun j hj => ?_) hM, Or.inl (by rw [sto_k (by omega), sto_k (by omega), sto_eq]), ⟨0, by omega, ?_, ?_, fun i hi => by omega⟩, ⟨?_, ?_⟩, fun k hk => SHk_c (σ := σ) (τ := τ) ?_ ?_ ⟨?_, ?_, ?_⟩ (r3 k hk), fun k hk => Or.inl ⟨b2 k hk, ?_⟩, ?_⟩
    · rw [sto_k (by omega), sto_k (by omega), sto_k (by omega), t2 j hj, sto_k (by omega), sto_k (by omega)]
    · rw [b3 1 (by omega), a3 1 (by omega), sto_k (by omega), sto_eq]; rfl
    · rw [sto_k (by omega), sto_k (by omega), sto_i (by omega), t4 0 (by omega), sto_i (by omega), sto_eq]; rfl
    · rw [b3 0 (by omega), a3 0 (by omega), sto_eq, sto_k (by omega), sto_k (by omega), sto_i (by omega), t4 0 (by omega), sto_eq]
    · rw [b3 0 (by omega), a3 0 (by omega), sto_i (by omega), sto_k (by omega), sto_k (by omega), sto_k (by omega), sto_i (by omega), t4 0 (by omega), sto_i (by omega), sto_i (by omega), h1 0 (by omega) (by omega), h2.2.1 30 (by omega) (by omega)]
      exact r2.2
    · rw [b3 _ (by omega), a3 _ (by omega), sto_c (by omega), sto_c (by omega)]; exact h1 _ (by omega) (by omega)
    · rw [b3 _ (by omega), a3 _ (by omega), sto_c (by omega), sto_c (by omega)]; exact h1 _ (by omega) (by omega)
    · rw [sto_c (by omega), sto_c (by omega), sto_c (by omega), t4 _ (by omega), sto_c (by omega), sto_c (by omega)]; exact h2.1 _ (by omega)
    · rw [sto_c (by omega), sto_c (by omega), sto_c (by omega), t4 _ (by omega), sto_c (by omega), sto_c (by omega)]; exact h2.1 _ (by omega)
    · rw [sto_c (by omega), sto_c (by omega), sto_c (by omega), t4 _ (by omega), sto_c (by omega), sto_c (by omega)]; exact h2.1 _ (by omega)
    · rcases (show k = 0 ∨ k = 1 by omega) with rfl | rfl
      · rw [sto_i (by omega), sto_eq]
      · rw [sto_eq]
    · unfold KC at r5 ⊢
      rw [sto_c (by omega), sto_c (by omega), sto_c (by omega), t4 _ (by omega), sto_c (by omega), sto_c (by omega), h2.1 3 (by omega), sto_c (by omega), sto_c (by omega), sto_c (by omega), t4 _ (by omega), sto_c (by omega), sto_c (by omega), h2.1 4 (by omega)]
      exact r5
  obtain ⟨σ3, g1, g2, g3⟩ := H_refresh H
  have x8 : σ3 3 8 = (l : Int) := by rw [g3 3 (by omega), b3 3 (by omega), a3 3 (by omega), sto_k (by omega), sto_k (by omega)]; exact h8
  refine ⟨l, σ3, sto (sto (sto τ1 0 17 0) 15 0 0) 15 1 0, ?_, ?_, L1, g2⟩
  · unfold fX7_text_25
    rw [bindv_e, bindv_e, sto_k (by omega), h6, bindv_e, cr_ok (by omega), if_neg (by omega), a1, bd_some, b1, bd_some, g1, bd_some, x8]
  · unfold fX8_text_91
    rw [bindv_e, sto_i (by omega), h4, bindv_e, sto_i (by omega), sto_i (by omega), h4, cr_ok (by omega), if_neg (by omega), t1, bd_some, bindv_e, chb_0, chk_ok (by omega), bindv_e, chb_0, chk_ok (by omega), bindv_e]
theorem k_text {σ τ : Mm} (h : Inv σ τ) : CC (fX7_text σ) (fX8_text τ) := by
  obtain ⟨L, hI⟩ := h
  obtain ⟨⟨n, n1, n2, n3, n4⟩, r2, r3, r4, r5⟩ := hI.2.2.2.2
  have hB : BT n (τ 2) := ⟨n1, fun i hi => (n4 i hi).2⟩
  obtain ⟨σ1, a1, a2, a3, a4, a5⟩ := c_clear (σ := σ)
  obtain ⟨τ1, ⟨b1, b2, b3⟩, b4⟩ := m_zero (τ := sto (sto (sto τ 0 4 0) 0 6 0) 0 12 0) (e := fun s => fX8_text_43 0 s)
  have e1 : fX7_text σ = bd2 (itN (fun _ _ => none) (fun c => fX2_readAll_29 (fun s => fX2_readAll_74 s) c) 400 0 (sto (sto (sto (sto σ1 3 2 0) 3 6 0) 3 7 0) 3 8 0)) (fun x_1 σ_1 => cr x_1 ((if x_1 = 0 then fX7_text_24 σ_1 else bd2 (fX2_judgeAll σ_1) (fun x_3 σ_3 => cr x_3 ((if x_3 = 0 then fX7_text_24 σ_3 else fX7_text_25 1 σ_3)))))) := by
    unfold fX7_text fX2_readAll
    rw [a1, bd_some, bindv_e, bindv_e, bindv_e, bindv_e, bindv_e]
    unfold lX2_readAll_29
    rfl
  have e2 : fX8_text τ = fX8_text_43 0 τ1 := by
    unfold fX8_text
    rw [bindv_e, bindv_e, bindv_e, bindv_e, bindv_e]
    exact b4
  have u4 : τ1 0 4 = 0 := by rw [b3 0 (by omega), sto_i (by omega), sto_i (by omega), sto_eq]
  have u6 : τ1 0 6 = ((0 : Nat) : Int) := by rw [b3 0 (by omega), sto_i (by omega), sto_eq]; rfl
  have u12 : τ1 0 12 = 0 := by rw [b3 0 (by omega), sto_eq]
  have M1 : TM τ1 n (τ 2) := ⟨by rw [b3 0 (by omega), sto_i (by omega), sto_i (by omega), sto_i (by omega)]; exact n3, fun i hi => by rw [b3 2 (by omega), sto_k (by omega), sto_k (by omega), sto_k (by omega)]⟩
  have T1 : TB (sto (sto (sto (sto σ1 3 2 0) 3 6 0) 3 7 0) 3 8 0) n (τ 2) := TB_3 (TB_3 (TB_3 (TB_3 ⟨by rw [a5 1 (by omega) (by omega)]; exact n2, fun i hi => by rw [a5 2 (by omega) (by omega)]; exact (n4 i hi).1⟩)))
  have f1 : frL σ (sto (sto (sto (sto σ1 3 2 0) 3 6 0) 3 7 0) 3 8 0) := fun c c1 c2 => by rw [sto_c c1, sto_c c1, sto_c c1, sto_c c1]; exact a5 c (by omega) (by omega)
  have f2 : frN τ τ1 := ⟨fun c hc => by rw [b3 c (by omega), sto_c (by omega), sto_c (by omega), sto_c (by omega)], fun j j1 j2 => by rw [b3 0 (by omega), sto_i (by omega), sto_i (by omega), sto_i (by omega)], fun j hj => by rw [b2 j hj, sto_k (by omega), sto_k (by omega), sto_k (by omega)]⟩
  have g2 : (sto (sto (sto (sto σ1 3 2 0) 3 6 0) 3 7 0) 3 8 0) 3 2 = ((0 : Nat) : Int) := by rw [sto_i (by omega), sto_i (by omega), sto_i (by omega), sto_eq]; rfl
  have g6 : (sto (sto (sto (sto σ1 3 2 0) 3 6 0) 3 7 0) 3 8 0) 3 6 = 0 := by rw [sto_i (by omega), sto_i (by omega), sto_eq]
  have g8 : (sto (sto (sto (sto σ1 3 2 0) 3 6 0) 3 7 0) 3 8 0) 3 8 = ((0 : Nat) : Int) := sto_eq _ _ _ _
  have gc : ∀ c, c ≠ 3 → (sto (sto (sto (sto σ1 3 2 0) 3 6 0) 3 7 0) 3 8 0) c = σ1 c := fun c hc => by rw [sto_c hc, sto_c hc, sto_c hc, sto_c hc]
  generalize sto (sto (sto (sto σ1 3 2 0) 3 6 0) 3 7 0) 3 8 0 = σ2 at *
  have D1 : DRX σ2 τ1 0 0 0 0 := by
    refine ⟨by omega, ⟨by rw [gc 111 (by omega)]; exact a2, b1 138 (by omega), by rw [gc 111 (by omega)]; exact a3, b1 139 (by omega)⟩, fun p hp => by omega, fun p hp => ?_, fun r hr => by omega, fun r _ hr => ?_, u12, by omega, fun p hp q => ?_, Or.inl rfl⟩
    · have q := b1 (48 + p) (by omega)
      rw [← Nat.add_assoc] at q
      rw [gc 114 (by omega), a4 p hp, q]
      exact ⟨rfl, Or.inl rfl⟩
    · have q := b1 (132 + r) (by omega)
      rw [← Nat.add_assoc] at q
      exact q
    · have q2 := b1 (48 + p) (by omega)
      rw [← Nat.add_assoc] at q2
      have q3 : τ1 1 (468 + p) = 0 := q2
      omega
  obtain ⟨τ2, st, k, e, v, c1, c2, c3⟩ := pd_next (σ := σ2) (τ := τ1) (s := 0) hB T1 M1 (by omega) g2 u4 u6
  have D2 : DRX σ2 τ2 0 0 0 0 := DRX_c (fun c _ _ => rfl) (c2.1 1 (by omega)) (c2.2 12 (by omega)) D1
  have A := all_j (E := fun l s => fX8_text_71 l s) hB n (399 - n) (399 - n) 0 σ2 τ2 0 st k e 0 0 0 v (by omega) (by omega) c3 D2 (KC_c (frN_t f2 (frN_K c2)) r5) g8
  rw [show 399 - n + n + 1 = 400 by omega, Int.natCast_zero] at A
  have e3 : fX8_text_43 0 τ1 = itN (fun _ _ => none) (fun c => fX8_text_47 (fun l s => fX8_text_71 l s) c) 400 0 τ2 := by
    unfold fX8_text_43
    rw [c1, bd_some]
    unfold lX8_text_47
    rfl
  rw [e1, e2, e3]
  have fN := frN_t f2 (frN_K c2)
  rcases A with ⟨σ3, τ3, l, y1, y2, y3, y4, y5⟩ | ⟨σ3, τ3, l, np, nr, P, y1, y2, y3, y4, y5, y6, y7, y8, y9⟩
  · rw [y1, y2, bd2_some, cr_ok (by omega), if_pos rfl]
    have y3' := y3
    obtain ⟨c, p, z1, z2, z3, z4, z5⟩ := y3'
    show CC (fX7_text_24 σ3) (fX8_text_71 l τ3)
    unfold fX8_text_71
    rw [z4, cr_ok (by omega), if_neg (by omega)]
    exact text_f hI y3 (frL_t f1 y4) (frN_t fN y5)
  · rw [y1, y2, bd2_some, cr_ok (by omega), if_neg (by omega)]
    show CC _ (fX8_text_71 (l : Int) τ3)
    have w1 := c_isWhole y5
    have w2 := m_isWhole y5
    obtain ⟨cl, ml, -⟩ := drx_L y5
    have fL := frL_t f1 y8
    have fT := frN_t fN y9
    have tl : σ3 1 1 = (n : Int) := by rw [fL 1 (by omega) (by omega)]; exact n2
    unfold fX8_text_71
    rw [y3, cr_ok (by omega), if_pos rfl, w2, bd_some]
    have bad : ∀ ρ : Mm, frL σ ρ → CC (fX7_text_24 (sto (sto ρ 3 6 6) 3 7 (n : Int))) (bd (fX8_fails 6 τ3) (fun s => fX8_text_91 l s)) := fun ρ hρ => by
      rw [show fX8_fails 6 τ3 = some (flS τ3 6) from m_failS y3, bd_some]
      exact text_f hI (FL_c (c := 6) ⟨by omega, by omega, by omega⟩ (flS_4 τ3 6) (flS_5 y4)) (frL_t hρ (frL_3 (fun c hc => by rw [sto_c hc, sto_c hc]))) (frN_t fT (frN_K frK_f))
    by_cases z : WHO (LdT τ3 np nr) P
    · have hWF := who_WF y5 z
      rw [bI_t z] at w1
      obtain ⟨ρ, p1, p2, p3⟩ := c_gatherEdges hWF cl
      have fρ : frL σ3 ρ := fun c q1 q2 => p3.1 c (by omega) (by omega) (by omega) (by omega) (by omega)
      have cl2 := fr5_CL p3 cl
      have p3k : ρ 3 = σ3 3 := p3.1 3 (by omega) (by omega) (by omega) (by omega) (by omega)
      obtain ⟨ne, A, B, hG⟩ := id p2
      have fair := c_isFair hWF cl2 hG.1 (fun e he => hG.2.2.1 e he)
      have fi := fair_iff hWF (GI_GE hWF hG) hG.1.2.2.2.2.1 hG.1.2.2.2.2.2
      rw [show ((∀ e, e < ne → us (LdT τ3 np nr) (A e) (B e) ≤ 2) ∧ (∀ p, p < (LdT τ3 np nr).np → FA (LdT τ3 np nr) ne A B p) ∧ (∀ r, r < (LdT τ3 np nr).nr → AR (LdT τ3 np nr) r ≠ 0)) = FAIRc (LdT τ3 np nr) ne A B from rfl, bI_c fi] at fair
      unfold fX2_judgeAll
      rw [w1, bd_some, cr_ok (by omega), if_neg (by omega), p1, bd_some, fair, bd_some]
      by_cases q : FAIR (LdT τ3 np nr)
      · rw [bI_t q, bI_t ⟨z, q⟩, cr_ok (by omega), if_neg (by omega), cr_ok (by omega), if_neg (by omega)]
        unfold fX2_judgeAll_57 fX2_judgeAll_62
        rw [chb_1, bd2_some, cr_ok (by omega), if_neg (by omega)]
        refine text_o hI ⟨hWF, q, cl2, p2, fun p hp => ?_⟩ ml (by rw [p3k, y7]; exact g6) y3 (by rw [p3k]; exact y6) (frL_t fL fρ) fT
        have h4 := y5.2.2.2.1 p hp
        rw [p3.1 (111 + 3) (by omega) (by omega) (by omega) (by omega) (by omega)]
        show σ3 114 p = 0 ∨ σ3 114 p = 1
        rw [h4.1]
        exact h4.2
      · have tl2 : ρ 1 1 = (n : Int) := by rw [fρ 1 (by omega) (by omega)]; exact tl
        rw [bI_f q, bI_f (fun y => q y.2), cr_ok (by omega), if_pos rfl, c_refuse, bd2_some, cr_ok (by omega), if_pos rfl, tl2]
        unfold fX2_judgeAll_62
        rw [chb_0, bd2_some, cr_ok (by omega), if_pos rfl, cr_ok (by omega), if_pos rfl]
        exact bad ρ (frL_t fL fρ)
    · rw [bI_f z] at w1
      unfold fX2_judgeAll
      rw [w1, bd_some, cr_ok (by omega), if_pos rfl, c_refuse, bd2_some, chb_0, bd2_some, cr_ok (by omega), if_pos rfl, tl, bI_f (fun y => z y.1), cr_ok (by omega), if_pos rfl]
      exact bad σ3 fL
