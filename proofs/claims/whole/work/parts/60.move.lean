/-! lands copied; moves, pins, images -/
theorem cpy_k {σ : Mm} {a b n k' j : Nat} (h : k' ≠ b) : cpy σ a b n k' j = σ k' j := by rw [cpy_at]; simp [h]
theorem cpy_c {σ : Mm} {a b n k' : Nat} (h : k' ≠ b) : cpy σ a b n k' = σ k' := funext fun j => cpy_k h
theorem cpy_n {σ : Mm} {a b n j : Nat} (h : j < n) : cpy σ a b n b j = σ a j := by rw [cpy_at]; simp [h]
def CP (σ σ' : Mm) (k w : Nat) : Prop := (σ' k 9 = σ w 9 ∧ σ' k 10 = σ w 10 ∧ σ' k 11 = σ w 11) ∧ (∀ i, i < 24 → σ' (k + 1) i = σ (w + 1) i ∧ σ' (k + 2) i = σ (w + 2) i ∧ σ' (k + 3) i = σ (w + 3) i ∧ σ' (k + 9) i = σ (w + 9) i) ∧ (∀ i, i < 6 → σ' (k + 5) i = σ (w + 5) i) ∧ (∀ i, i < 60 → σ' (k + 6) i = σ (w + 6) i ∧ σ' (k + 7) i = σ (w + 7) i ∧ σ' (k + 8) i = σ (w + 8) i) ∧ (∀ r i, r < 6 → i < 10 → σ' (k + 10 + r) i = σ (w + 10 + r) i)
def cpA (σ : Mm) (k w : Nat) : Mm := cpy (cpy (sto (sto (sto σ k 9 (σ w 9)) k 10 ((sto σ k 9 (σ w 9)) w 10)) k 11 ((sto (sto σ k 9 (σ w 9)) k 10 ((sto σ k 9 (σ w 9)) w 10)) w 11)) (w + 1) (k + 1) 24) (w + 2) (k + 2) 24
def cpB (σ : Mm) (k w : Nat) : Mm := cpy (cpy σ (w + 9) (k + 9) 24) (w + 5) (k + 5) 6
def cpC (σ : Mm) (k w : Nat) : Mm := cpy (cpy (cpy σ (w + 6) (k + 6) 60) (w + 7) (k + 7) 60) (w + 8) (k + 8) 60
theorem c_cp56 {σ : Mm} {k w : Nat} {e : Mm → Option Mm} (hd : w + 16 ≤ k ∨ k + 16 ≤ w) (hp : ∀ p, p < 24 → σ (w + 3) p = 0 ∨ σ (w + 3) p = 1) : ∃ σ', ((∀ c, c ≠ k + 3 → σ' c = σ c) ∧ ∀ i, i < 24 → σ' (k + 3) i = σ (w + 3) i) ∧ lX1_copyFrom_56 k w e 400 0 σ = e σ' := by
  unfold lX1_copyFrom_56
  refine it_inv0 (f := fun c => fX1_copyFrom_56 k w e c) 24 (fun i σ' => (∀ c, c ≠ k + 3 → σ' c = σ c) ∧ ∀ j, j < i → σ' (k + 3) j = σ (w + 3) j) e σ (by omega) ⟨fun _ _ => rfl, fun j hj => by omega⟩ (fun c i a hi hI => ?_) (fun c a hI => ?_)
  · obtain ⟨h1, h2⟩ := hI
    have e1 : a (w + 3) i = σ (w + 3) i := by rw [h1 (w + 3) (by omega)]
    have e2 := hp i hi
    refine ⟨sto a (k + 3) i (σ (w + 3) i), ⟨fun c hc => by rw [sto_c hc]; exact h1 c hc, fun j hj => ?_⟩, ?_⟩
    · by_cases q : j = i
      · rw [q, sto_eq]
      · rw [sto_i q]; exact h2 j (by omega)
    · rcases e2 with e2 | e2
      · rw [e2] at e1 ⊢
        simp (disch := omega) only [fX1_copyFrom_56, e1, if_pos, Int.reduceAdd, Int.reduceSub, Int.reduceMul, Int.zero_add, Int.add_zero, Nat.zero_add, na_0, ca_la, ca_al, ca_lm, ca_add, ca_mod, ca_lit, tn_c, Int.natCast_zero, bd_some, bd2_some, bindv_e, chk_ok, cr_ok, crl_ok, chd_ok, chb_0, chb_1, cr_bI, chb_bI, ite_bI0, if_true, if_false]
      · rw [e2] at e1 ⊢
        simp (disch := omega) only [fX1_copyFrom_56, e1, if_pos, Int.reduceAdd, Int.reduceSub, Int.reduceMul, Int.zero_add, Int.add_zero, Nat.zero_add, na_0, ca_la, ca_al, ca_lm, ca_add, ca_mod, ca_lit, tn_c, Int.natCast_zero, bd_some, bd2_some, bindv_e, chk_ok, cr_ok, crl_ok, chd_ok, chb_0, chb_1, cr_bI, chb_bI, ite_bI0, if_true, if_false]
  · simp (disch := omega) only [fX1_copyFrom_56, if_neg, Int.reduceAdd, Int.reduceSub, Int.reduceMul, Int.zero_add, Int.add_zero, Nat.zero_add, na_0, ca_la, ca_al, ca_lm, ca_add, ca_mod, ca_lit, tn_c, Int.natCast_zero, bd_some, bd2_some, bindv_e, chk_ok, cr_ok, crl_ok, chd_ok, chb_0, chb_1, cr_bI, chb_bI, ite_bI0, if_true, if_false]
theorem c_cp112 {σ : Mm} {k w : Nat} {e : Mm → Option Mm} (hd : w + 16 ≤ k ∨ k + 16 ≤ w) : ∃ σ', ((∀ c, (c < k + 10 ∨ k + 16 ≤ c) → σ' c = σ c) ∧ ∀ r i, r < 6 → i < 10 → σ' (k + 10 + r) i = σ (w + 10 + r) i) ∧ lX1_copyFrom_112 k w e 400 0 σ = e σ' := by
  unfold lX1_copyFrom_112
  refine it_inv0 (f := fun c => fX1_copyFrom_112 k w e c) 6 (fun i σ' => (∀ c, (c < k + 10 ∨ k + 16 ≤ c) → σ' c = σ c) ∧ ∀ r j, r < i → j < 10 → σ' (k + 10 + r) j = σ (w + 10 + r) j) e σ (by omega) ⟨fun _ _ => rfl, fun r j hj => by omega⟩ (fun c i a hi hI => ?_) (fun c a hI => ?_)
  · obtain ⟨h1, h2⟩ := hI
    refine ⟨cpy a (w + 4 + 6 + i) (k + 10 + i) 10, ⟨fun c hc => by rw [cpy_c (by omega)]; exact h1 c hc, fun r j hr hj => ?_⟩, ?_⟩
    · by_cases q : r = i
      · rw [q, cpy_n hj, h1 _ (by omega)]
      · rw [cpy_k (by omega)]; exact h2 r j (by omega) hj
    · simp (disch := omega) only [fX1_copyFrom_112, if_pos, Int.reduceAdd, Int.reduceSub, Int.reduceMul, Int.zero_add, Int.add_zero, Nat.zero_add, na_0, ca_la, ca_al, ca_lm, ca_add, ca_mod, ca_lit, tn_c, Int.natCast_zero, bd_some, bd2_some, bindv_e, chk_ok, cr_ok, crl_ok, chd_ok, chb_0, chb_1, cr_bI, chb_bI, ite_bI0, if_true, if_false]
  · simp (disch := omega) only [fX1_copyFrom_112, if_neg, Int.reduceAdd, Int.reduceSub, Int.reduceMul, Int.zero_add, Int.add_zero, Nat.zero_add, na_0, ca_la, ca_al, ca_lm, ca_add, ca_mod, ca_lit, tn_c, Int.natCast_zero, bd_some, bd2_some, bindv_e, chk_ok, cr_ok, crl_ok, chd_ok, chb_0, chb_1, cr_bI, chb_bI, ite_bI0, if_true, if_false]
theorem c_copyFrom {σ : Mm} {k w : Nat} (hd : w + 16 ≤ k ∨ k + 16 ≤ w) (hp : ∀ p, p < 24 → σ (w + 3) p = 0 ∨ σ (w + 3) p = 1) : ∃ σ', fX1_copyFrom k w σ = some σ' ∧ CP σ σ' k w ∧ (∀ c, (c < k ∨ k + 16 ≤ c) → σ' c = σ c) := by
  have s1 : fX1_copyFrom k w σ = lX1_copyFrom_56 k w (fun s => fX1_copyFrom_80 k w s) 400 0 (cpA σ k w) := by
    unfold fX1_copyFrom cpA
    simp only [bindv_e]
  have a0 : ∀ c, (c < k ∨ k + 3 ≤ c) → cpA σ k w c = σ c := fun c hc => by
    unfold cpA
    rw [cpy_c (by omega), cpy_c (by omega), sto_c (by omega), sto_c (by omega), sto_c (by omega)]
  obtain ⟨σ6, ⟨b1, b2⟩, b3⟩ := c_cp56 (σ := cpA σ k w) (k := k) (w := w) (e := fun s => fX1_copyFrom_80 k w s) hd (fun p h => by rw [a0 _ (by omega)]; exact hp p h)
  have s2 : fX1_copyFrom_80 k w σ6 = lX1_copyFrom_112 k w (fun s => fX1_copyFrom_143 k w s) 400 0 (cpB σ6 k w) := by
    unfold fX1_copyFrom_80 cpB
    simp only [bindv_e]
  obtain ⟨σ8, ⟨d1, d2⟩, d3⟩ := c_cp112 (σ := cpB σ6 k w) (k := k) (w := w) (e := fun s => fX1_copyFrom_143 k w s) hd
  have s3 : fX1_copyFrom_143 k w σ8 = some (cpC σ8 k w) := by
    unfold fX1_copyFrom_143 cpC
    simp only [bindv_e]
  have c0 : ∀ c, (c < k + 5 ∨ (k + 5 < c ∧ c < k + 9) ∨ k + 10 ≤ c) → cpB σ6 k w c = σ6 c := fun c hc => by
    unfold cpB
    rw [cpy_c (by omega), cpy_c (by omega)]
  have e0 : ∀ c, (c < k + 6 ∨ k + 9 ≤ c) → cpC σ8 k w c = σ8 c := fun c hc => by
    unfold cpC
    rw [cpy_c (by omega), cpy_c (by omega), cpy_c (by omega)]
  have fw : ∀ c, w ≤ c → c < w + 16 → σ8 c = σ c := fun c h1 h2 => by rw [d1 c (by omega), c0 c (by omega), b1 c (by omega), a0 c (by omega)]
  have f6 : ∀ c, w ≤ c → c < w + 16 → σ6 c = σ c := fun c h1 h2 => by rw [b1 c (by omega), a0 c (by omega)]
  refine ⟨cpC σ8 k w, by rw [s1, b3, s2, d3, s3], ⟨⟨?_, ?_, ?_⟩, fun i hi => ⟨?_, ?_, ?_, ?_⟩, fun i hi => ?_, fun i hi => ⟨?_, ?_, ?_⟩, fun r i hr hi => ?_⟩, fun c hc => ?_⟩
  · rw [e0 k (by omega), d1 k (by omega), c0 k (by omega), b1 k (by omega)]
    unfold cpA
    rw [cpy_k (by omega), cpy_k (by omega), sto_i (by omega), sto_i (by omega), sto_eq]
  · rw [e0 k (by omega), d1 k (by omega), c0 k (by omega), b1 k (by omega)]
    unfold cpA
    rw [cpy_k (by omega), cpy_k (by omega), sto_i (by omega), sto_eq, sto_k (by omega)]
  · rw [e0 k (by omega), d1 k (by omega), c0 k (by omega), b1 k (by omega)]
    unfold cpA
    rw [cpy_k (by omega), cpy_k (by omega), sto_eq, sto_k (by omega), sto_k (by omega)]
  · rw [e0 _ (by omega), d1 _ (by omega), c0 _ (by omega), b1 _ (by omega)]
    unfold cpA
    rw [cpy_k (by omega), cpy_n hi, sto_k (by omega), sto_k (by omega), sto_k (by omega)]
  · rw [e0 _ (by omega), d1 _ (by omega), c0 _ (by omega), b1 _ (by omega)]
    unfold cpA
    rw [cpy_n hi, cpy_k (by omega), sto_k (by omega), sto_k (by omega), sto_k (by omega)]
  · rw [e0 _ (by omega), d1 _ (by omega), c0 _ (by omega), b2 i hi, a0 _ (by omega)]
  · rw [e0 _ (by omega), d1 _ (by omega)]
    unfold cpB
    rw [cpy_k (by omega), cpy_n hi, f6 _ (by omega) (by omega)]
  · rw [e0 _ (by omega), d1 _ (by omega)]
    unfold cpB
    rw [cpy_n hi, cpy_k (by omega), f6 _ (by omega) (by omega)]
  · unfold cpC
    rw [cpy_k (by omega), cpy_k (by omega), cpy_n hi, fw _ (by omega) (by omega)]
  · unfold cpC
    rw [cpy_k (by omega), cpy_n hi, cpy_k (by omega), fw _ (by omega) (by omega)]
  · unfold cpC
    rw [cpy_n hi, cpy_k (by omega), cpy_k (by omega), fw _ (by omega) (by omega)]
  · rw [e0 _ (by omega), d2 r i hr hi, c0 _ (by omega), f6 _ (by omega) (by omega)]
  · rw [e0 c (by omega), d1 c (by omega), c0 c (by omega), b1 c (by omega), a0 c (by omega)]
theorem LDC_cp {σ σ' : Mm} {k w : Nat} {L : Ld} (h : CP σ σ' k w) (g : LDC σ w L) : LDC σ' k L := by
  obtain ⟨⟨a1, a2, a3⟩, b, c, d, e⟩ := h
  obtain ⟨g1, g2, ⟨h1, h2, h3, h4, h5, h6, h7⟩, ⟨ne, A, B, ⟨i1, i2, i3, i4, i5, i6⟩, j2, j3, j4, j5, j6, j7, j8⟩, g5⟩ := g
  have hnp := g1.1
  have hnr := g1.2.1
  have hcn := g1.2.2.1
  refine ⟨g1, g2, ⟨a1.trans h1, a2.trans h2, fun p hp => (b p (by omega)).1.trans (h3 p hp), fun p hp => (b p (by omega)).2.1.trans (h4 p hp), fun p hp => (b p (by omega)).2.2.1.trans (h5 p hp), fun r hr => (c r (by omega)).trans (h6 r hr), fun r i hr hi => (e r i (by omega) (by have := hcn r hr; omega)).trans (h7 r i hr hi)⟩, ⟨ne, A, B, ⟨a3.trans i1, i2, fun x hx => (d x (by omega)).1.trans (i3 x hx), fun x hx => (d x (by omega)).2.1.trans (i4 x hx), i5, i6⟩, j2, fun x hx => (d x (by omega)).2.2.trans (j3 x hx), j4, j5, j6, fun p hp => (b p (by omega)).2.2.2.trans (j7 p hp), j8⟩, fun p hp => by rw [(b p hp).2.2.1]; exact g5 p hp⟩
theorem m_copies {τ : Mm} {a o : Nat} (ha : a ≤ 560) (ho : o ≤ 560) (hd : a + 140 ≤ o ∨ o + 140 ≤ a) : ∃ τ', fX8_copies a o τ = some τ' ∧ (∀ j, j < 140 → τ' 1 (o + j) = τ 1 (a + j)) ∧ (∀ j, (j < o ∨ o + 140 ≤ j) → τ' 1 j = τ 1 j) ∧ (∀ c, c ≠ 1 → τ' c = τ c) := by
  obtain ⟨τ', ⟨h1, h2, h3⟩, h4⟩ := it_inv0 (f := fun c => fX8_copies_2 a o (fun s => fX8_copies_31 s) c) 140 (fun i t => (∀ j, j < i → t 1 (o + j) = τ 1 (a + j)) ∧ (∀ j, (j < o ∨ o + 140 ≤ j) → t 1 j = τ 1 j) ∧ (∀ c, c ≠ 1 → t c = τ c)) (fun s => some s) τ (by omega) ⟨fun j hj => by omega, fun _ _ => rfl, fun _ _ => rfl⟩ (fun c i t hi hI => by
    obtain ⟨h1, h2, h3⟩ := hI
    refine ⟨sto t 1 (o + i) (τ 1 (a + i)), ⟨fun j hj => ?_, fun j hj => by rw [sto_i (by omega)]; exact h2 j hj, fun c hc => by rw [sto_c hc]; exact h3 c hc⟩, ?_⟩
    · by_cases q : j = i
      · rw [q, sto_eq]
      · rw [sto_i (by omega)]; exact h1 j (by omega)
    · have e1 : t 1 (a + i) = τ 1 (a + i) := h2 _ (by omega)
      simp (disch := omega) only [fX8_copies_2, e1, if_pos, Int.reduceAdd, Int.reduceSub, Int.reduceMul, Int.zero_add, Int.add_zero, Nat.zero_add, na_0, ca_la, ca_al, ca_lm, ca_add, ca_mod, ca_lit, tn_c, Int.natCast_zero, bd_some, bd2_some, bindv_e, chk_ok, cr_ok, crl_ok, chd_ok, chb_0, chb_1, cr_bI, chb_bI, ite_bI0, if_true, if_false]) (fun c t hI => by
    simp (disch := omega) only [fX8_copies_2, fX8_copies_31, if_neg, Int.reduceAdd, Int.reduceSub, Int.reduceMul, Int.zero_add, Int.add_zero, Nat.zero_add, na_0, ca_la, ca_al, ca_lm, ca_add, ca_mod, ca_lit, tn_c, Int.natCast_zero, bd_some, bd2_some, bindv_e, chk_ok, cr_ok, crl_ok, chd_ok, chb_0, chb_1, cr_bI, chb_bI, ite_bI0, if_true, if_false])
  refine ⟨τ', ?_, h1, h2, h3⟩
  unfold fX8_copies
  rw [bindv_e]
  unfold lX8_copies_2
  exact h4
/-- all but what follows from a land -/
def HALF (L : Ld) (σ τ : Mm) : Prop := LDC σ 95 L ∧ ML τ 0 L ∧ MK τ L ∧ RST σ τ
theorem InvL_H {L : Ld} {σ τ : Mm} (h : InvL L σ τ) : HALF L σ τ := ⟨h.1, h.2.2.1, h.2.2.2.1, h.2.2.2.2⟩
theorem H_refresh {L : Ld} {σ τ : Mm} (h : HALF L σ τ) : ∃ σ', fX7_refresh σ = some σ' ∧ InvL L σ' τ ∧ (∀ k, (k < 4 ∨ (17 < k ∧ k < 29) ∨ 94 < k) → σ' k = σ k) := by
  obtain ⟨h1, h2, h3, h4⟩ := h
  obtain ⟨σ', a1, a2, a3, a4⟩ := c_refresh h1
  exact ⟨σ', a1, ⟨a2, a3, h2, h3, RST_C (fun k hk => a4 k (by omega)) h4⟩, a4⟩
theorem sh_step {L : Ld} {σ τ : Mm} {p x y : Int} (h : HALF L σ τ) (hp : inR p) (hx : inR x) (hy : inR y) : (∃ σ' τ' L', fX7_shift p x y σ = some (1, σ') ∧ fX8_moves p x y τ = some (1, τ') ∧ HALF L' σ' τ' ∧ L'.np = L.np ∧ (∀ c, c ≠ 96 → c ≠ 97 → σ' c = σ c) ∧ (∀ j, 140 ≤ j → τ' 1 j = τ 1 j) ∧ (∀ c, 2 ≤ c → τ' c = τ c)) ∨ (∃ r : Int, (r = -1 ∨ r = -2) ∧ fX7_shift p x y σ = some (r, σ) ∧ fX8_moves p x y τ = some (r, τ)) := by
  obtain ⟨⟨w, hF, hC, hE, h01⟩, hM, hK, hR⟩ := h
  have hnp := w.1
  obtain ⟨ne, A, B, hG⟩ := hE
  have c1 := c_shift w hC hG.1 (GI_GE w hG) hF hp hx hy
  have m1 := m_moves w hM hp hx hy
  by_cases z : (0 ≤ p ∧ p < (L.np : Int)) ∧ inP x ∧ inP y
  · rw [pI_t z] at c1 m1
    by_cases z2 : FAIR (mv L p.toNat x y)
    · rw [pI_t z2] at c1 m1
      obtain ⟨q, rfl, hq⟩ := cut0 z.1
      rw [tn_c] at c1 m1 z2
      have fσ : ∀ c, c ≠ 96 → c ≠ 97 → cmv σ 95 q x y c = σ c := fun c h1 h2 => by
        unfold cmv
        rw [sto_c (by omega), sto_c (by omega)]
      have fτ : ∀ c, 2 ≤ c → sto (mmv τ q x y) 0 17 0 c = τ c := fun c h => by
        unfold mmv
        rw [sto_c (by omega), sto_c (by omega), sto_c (by omega)]
      have fτ1 : ∀ j, 140 ≤ j → sto (mmv τ q x y) 0 17 0 1 j = τ 1 j := fun j h => by
        unfold mmv
        rw [sto_k (by omega), sto_i (by omega), sto_i (by omega)]
      have fτ0 : ∀ j, j ≠ 17 → sto (mmv τ q x y) 0 17 0 0 j = τ 0 j := fun j h => by
        unfold mmv
        rw [sto_i (by omega), sto_k (by omega), sto_k (by omega)]
      refine Or.inl ⟨cmv σ 95 q x y, sto (mmv τ q x y) 0 17 0, mv L q x y, c1, m1, ⟨⟨mv_wf w z.2.1 z.2.2, z2, cmv_CL hC, ⟨ne, A, B, cmv_EL hG.1, hG.2.1, fun e he => ?_, hG.2.2.2.1, hG.2.2.2.2.1, hG.2.2.2.2.2.1, fun p hp => ?_, hG.2.2.2.2.2.2.2⟩, fun p hp => by rw [fσ 98 (by omega) (by omega)]; exact h01 p hp⟩, ?_, Or.inl (by rw [sto_eq]), ?_⟩, rfl, fσ, fτ1, fτ⟩
      · rw [fσ _ (by omega) (by omega)]; exact hG.2.2.1 e he
      · rw [fσ _ (by omega) (by omega)]; exact hG.2.2.2.2.2.2.1 p hp
      · refine ML_c (mv_wf w z.2.1 z.2.2) (fun j hj => ?_) (mmv_ML w hq hM)
        rw [sto_k (by omega)]
      · exact RST_C (fun k hk => fσ k (by omega) (by omega)) (RST_M ⟨fτ0 2 (by omega), fτ0 3 (by omega), fτ0 30 (by omega)⟩ (fun j h1 _ => fτ1 j h1) (fun k hk => fτ k (by omega)) hR)
    · rw [pI_f z2] at c1 m1
      exact Or.inr ⟨-2, Or.inr rfl, c1, m1⟩
  · rw [pI_f z] at c1 m1
    exact Or.inr ⟨-1, Or.inl rfl, c1, m1⟩
theorem k_move {σ τ : Mm} {p x y : Int} (h : Inv σ τ) (hp : inR p) (hx : inR x) (hy : inR y) : CC (fX7_move p x y σ) (fX8_move p x y τ) := by
  obtain ⟨L, hI⟩ := h
  rcases sh_step (InvL_H hI) hp hx hy with ⟨σ', τ', L', a1, a2, a3, -⟩ | ⟨r, hr, a1, a2⟩
  · obtain ⟨σ2, b1, b2, -⟩ := H_refresh a3
    refine ⟨1, σ2, τ', ?_, ?_, L', b2⟩
    · simp (disch := omega) only [fX7_move, fX7_move_19, a1, b1, if_pos, Int.reduceAdd, Int.reduceSub, Int.reduceMul, Int.zero_add, Int.add_zero, Nat.zero_add, na_0, ca_la, ca_al, ca_lm, ca_add, ca_mod, ca_lit, tn_c, Int.natCast_zero, bd_some, bd2_some, bindv_e, chk_ok, cr_ok, crl_ok, chd_ok, chb_0, chb_1, cr_bI, chb_bI, ite_bI0, if_true, if_false]
    · simp (disch := omega) only [fX8_move, a2, Int.reduceAdd, Int.reduceSub, Int.reduceMul, Int.zero_add, Int.add_zero, Nat.zero_add, na_0, ca_la, ca_al, ca_lm, ca_add, ca_mod, ca_lit, tn_c, Int.natCast_zero, bd_some, bd2_some, bindv_e, chk_ok, cr_ok, crl_ok, chd_ok, chb_0, chb_1, cr_bI, chb_bI, ite_bI0, if_true, if_false]
  · refine ⟨r, σ, τ, ?_, ?_, L, hI⟩
    · simp (disch := omega) only [fX7_move, fX7_move_19, a1, if_neg, Int.reduceAdd, Int.reduceSub, Int.reduceMul, Int.zero_add, Int.add_zero, Nat.zero_add, na_0, ca_la, ca_al, ca_lm, ca_add, ca_mod, ca_lit, tn_c, Int.natCast_zero, bd_some, bd2_some, bindv_e, chk_ok, cr_ok, crl_ok, chd_ok, chb_0, chb_1, cr_bI, chb_bI, ite_bI0, if_true, if_false]
    · simp (disch := omega) only [fX8_move, a2, Int.reduceAdd, Int.reduceSub, Int.reduceMul, Int.zero_add, Int.add_zero, Nat.zero_add, na_0, ca_la, ca_al, ca_lm, ca_add, ca_mod, ca_lit, tn_c, Int.natCast_zero, bd_some, bd2_some, bindv_e, chk_ok, cr_ok, crl_ok, chd_ok, chb_0, chb_1, cr_bI, chb_bI, ite_bI0, if_true, if_false]
def pn (L : Ld) (p : Nat) (on : Int) : Ld := (L.1, L.2.1, L.2.2.1, L.X, L.Y, upZ L.P p on)
theorem pn_wf {L : Ld} {p : Nat} {on : Int} (hw : WF L) (ho : on = 0 ∨ on = 1) : WF (pn L p on) := by
  obtain ⟨h1, h2, h3, h4, h5, h6, h7, h8⟩ := hw
  refine ⟨h1, h2, h3, h4, h5, h6, h7, fun q hq => ?_⟩
  show upZ L.P p on q = 0 ∨ upZ L.P p on q = 1
  unfold upZ
  split
  · exact ho
  · exact h8 q hq
theorem k_pin {σ τ : Mm} {v u : Int} (h : Inv σ τ) (hv : inR v) (hu : inR u) : CC (fX7_pin v u σ) (fX8_pin v u τ) := by
  obtain ⟨L, hI⟩ := h
  have hW := hI.1.1
  have hn := hW.1
  obtain ⟨cN, -, -, -, cP, -⟩ := CL95 hI.1.2.2.1
  obtain ⟨-, -, -, -, mP, -⟩ := ML0 hI.2.2.1
  have e1 := c_isBelow σ (v := v) (n := (L.np : Int)) hv (by omega)
  have e2 := m_isPoint hW hI.2.2.1 hv
  have f1 := c_isBelow σ (v := u) (n := 2) hu (by omega)
  have f2 := m_in τ (v := u) (a := 0) (b := 1) hu (by omega) (by omega)
  rw [bI_c (show (0 ≤ u ∧ u ≤ 1) ↔ (0 ≤ u ∧ u < 2) by omega)] at f2
  by_cases w1 : 0 ≤ v ∧ v < (L.np : Int)
  · obtain ⟨p, rfl, hp⟩ := cut0 w1
    rw [bI_t w1] at e1 e2
    by_cases w2 : 0 ≤ u ∧ u < 2
    · rw [bI_t w2] at f1 f2
      have g1 := cP p hp
      have g2 := mP p hp
      have g3 := hW.2.2.2.2.2.2.2 p hp
      have hu' : u = 0 ∨ u = 1 := by omega
      have H : HALF (pn L p u) (sto σ 98 p u) (sto (sto τ 1 (48 + p) u) 0 17 0) := by
        obtain ⟨⟨w, hF, ⟨i1, i2, i3, i4, i5, i6, i7⟩, hE, h01⟩, -, ⟨j1, j2, j3, j4, j5, j6, j7⟩, -, hR⟩ := hI
        refine ⟨⟨pn_wf w hu', hF, ⟨?_, ?_, fun q hq => ?_, fun q hq => ?_, fun q hq => ?_, fun r hr => ?_, fun r i hr hi => ?_⟩, EDG_c (by rw [sto_c (by omega)]) (fun j a b => by rw [sto_c (by omega)]) hE, fun q hq => ?_⟩, ⟨?_, ?_, fun q hq => ?_, fun q hq => ?_, fun q hq => ?_, fun r hr => ?_, fun r i hr hi => ?_⟩, Or.inl (by rw [sto_eq]), ?_⟩
        · rw [sto_k (by omega)]; exact i1
        · rw [sto_k (by omega)]; exact i2
        · rw [sto_k (by omega)]; exact i3 q hq
        · rw [sto_k (by omega)]; exact i4 q hq
        · show sto σ 98 p u 98 q = upZ L.P p u q
          unfold upZ
          by_cases z : q = p
          · rw [z, sto_eq, if_pos rfl]
          · rw [sto_i z, if_neg z]; exact i5 q hq
        · rw [sto_k (by omega)]; exact i6 r hr
        · rw [sto_k (by have : r < L.nr := hr; have := w.2.1; omega)]; exact i7 r i hr hi
        · show sto σ 98 p u 98 q = 0 ∨ sto σ 98 p u 98 q = 1
          by_cases z : q = p
          · rw [z, sto_eq]; exact hu'
          · rw [sto_i z]; exact h01 q hq
        · rw [sto_k (by omega), sto_i (by omega)]; exact j1
        · rw [sto_k (by omega), sto_i (by omega)]; exact j2
        · have : q < L.np := hq
          rw [sto_k (by omega), sto_i (by omega)]; exact j3 q hq
        · have : q < L.np := hq
          rw [sto_k (by omega), sto_i (by omega)]; exact j4 q hq
        · show sto (sto τ 1 (48 + p) u) 0 17 0 1 (0 + 48 + q) = upZ L.P p u q
          unfold upZ
          rw [sto_k (by omega), Nat.zero_add]
          by_cases z : q = p
          · rw [z, sto_eq, if_pos rfl]
          · rw [sto_i (by omega), if_neg z]
            have := j5 q hq
            rw [Nat.zero_add] at this
            exact this
        · rw [sto_k (by omega), sto_i (by omega)]; exact j6 r hr
        · rw [sto_k (by omega), sto_i (by omega)]; exact j7 r i hr hi
        · exact RST_C (fun k hk => by rw [sto_c (by omega)]) (RST_M ⟨by rw [sto_i (by omega), sto_k (by omega)], by rw [sto_i (by omega), sto_k (by omega)], by rw [sto_i (by omega), sto_k (by omega)]⟩ (fun j h1 _ => by rw [sto_k (by omega), sto_i (by omega)]) (fun k hk => by rw [sto_c (by omega), sto_c (by omega)]) hR)
      obtain ⟨σ2, b1, b2, -⟩ := H_refresh H
      refine ⟨L.P p, σ2, sto (sto τ 1 (48 + p) u) 0 17 0, ?_, ?_, _, b2⟩
      · rcases hu' with rfl | rfl
        · rcases g3 with g3 | g3 <;> rw [g3] at g1 ⊢ <;> simp (disch := omega) only [fX7_pin, fX7_pin_41, fX7_pin_60, cN, e1, f1, g1, b1, if_pos, if_neg, Int.reduceAdd, Int.reduceSub, Int.reduceMul, Int.zero_add, Int.add_zero, Nat.zero_add, na_0, ca_la, ca_al, ca_lm, ca_add, ca_mod, ca_lit, tn_c, Int.natCast_zero, bd_some, bd2_some, bindv_e, chk_ok, cr_ok, crl_ok, chd_ok, chb_0, chb_1, cr_bI, chb_bI, ite_bI0, if_true, if_false]
        · rcases g3 with g3 | g3 <;> rw [g3] at g1 ⊢ <;> simp (disch := omega) only [fX7_pin, fX7_pin_41, fX7_pin_60, cN, e1, f1, g1, b1, if_pos, if_neg, Int.reduceAdd, Int.reduceSub, Int.reduceMul, Int.zero_add, Int.add_zero, Nat.zero_add, na_0, ca_la, ca_al, ca_lm, ca_add, ca_mod, ca_lit, tn_c, Int.natCast_zero, bd_some, bd2_some, bindv_e, chk_ok, cr_ok, crl_ok, chd_ok, chb_0, chb_1, cr_bI, chb_bI, ite_bI0, if_true, if_false]
      · simp (disch := omega) only [fX8_pin, e2, f2, g2, if_neg, Int.reduceAdd, Int.reduceSub, Int.reduceMul, Int.zero_add, Int.add_zero, Nat.zero_add, na_0, ca_la, ca_al, ca_lm, ca_add, ca_mod, ca_lit, tn_c, Int.natCast_zero, bd_some, bd2_some, bindv_e, chk_ok, cr_ok, crl_ok, chd_ok, chb_0, chb_1, cr_bI, chb_bI, ite_bI0, if_true, if_false]
    · rw [bI_f w2] at f1 f2
      refine ⟨-1, σ, τ, ?_, ?_, L, hI⟩
      · simp (disch := omega) only [fX7_pin, fX7_pin_22, cN, e1, f1, if_pos, if_neg, Int.reduceAdd, Int.reduceSub, Int.reduceMul, Int.zero_add, Int.add_zero, Nat.zero_add, na_0, ca_la, ca_al, ca_lm, ca_add, ca_mod, ca_lit, tn_c, Int.natCast_zero, bd_some, bd2_some, bindv_e, chk_ok, cr_ok, crl_ok, chd_ok, chb_0, chb_1, cr_bI, chb_bI, ite_bI0, if_true, if_false]
      · simp (disch := omega) only [fX8_pin, fX8_pin_18, e2, f2, if_pos, if_neg, Int.reduceAdd, Int.reduceSub, Int.reduceMul, Int.zero_add, Int.add_zero, Nat.zero_add, na_0, ca_la, ca_al, ca_lm, ca_add, ca_mod, ca_lit, tn_c, Int.natCast_zero, bd_some, bd2_some, bindv_e, chk_ok, cr_ok, crl_ok, chd_ok, chb_0, chb_1, cr_bI, chb_bI, ite_bI0, if_true, if_false]
  · rw [bI_f w1] at e1 e2
    refine ⟨-1, σ, τ, ?_, ?_, L, hI⟩
    · simp (disch := omega) only [fX7_pin, fX7_pin_22, cN, e1, if_pos, Int.reduceAdd, Int.reduceSub, Int.reduceMul, Int.zero_add, Int.add_zero, Nat.zero_add, na_0, ca_la, ca_al, ca_lm, ca_add, ca_mod, ca_lit, tn_c, Int.natCast_zero, bd_some, bd2_some, bindv_e, chk_ok, cr_ok, crl_ok, chd_ok, chb_0, chb_1, cr_bI, chb_bI, ite_bI0, if_true, if_false]
    · simp (disch := omega) only [fX8_pin, fX8_pin_18, e2, if_pos, Int.reduceAdd, Int.reduceSub, Int.reduceMul, Int.zero_add, Int.add_zero, Nat.zero_add, na_0, ca_la, ca_al, ca_lm, ca_add, ca_mod, ca_lit, tn_c, Int.natCast_zero, bd_some, bd2_some, bindv_e, chk_ok, cr_ok, crl_ok, chd_ok, chb_0, chb_1, cr_bI, chb_bI, ite_bI0, if_true, if_false]
theorem k_store {σ τ : Mm} {v : Int} (h : Inv σ τ) (hv : inR v) : CC (fX7_store v σ) (fX8_store v τ) := by
  obtain ⟨L, hI⟩ := h
  have e1 := c_isBelow σ (v := v) (n := 2) hv (by omega)
  have e2 := m_in τ (v := v) (a := 0) (b := 1) hv (by omega) (by omega)
  rw [bI_c (show (0 ≤ v ∧ v ≤ 1) ↔ (0 ≤ v ∧ v < ((2 : Nat) : Int)) by omega)] at e2
  by_cases w : 0 ≤ v ∧ v < ((2 : Nat) : Int)
  · rw [bI_t w] at e2
    rw [bI_t (by omega)] at e1
    obtain ⟨k, rfl, hk⟩ := cut0 w
    obtain ⟨σ1, a1, a2, a3⟩ := c_copyFrom (σ := σ) (k := 143 + 16 * k) (w := 95) (by omega) hI.1.2.2.2.2
    obtain ⟨τ1, b1, b2, b3, b4⟩ := m_copies (τ := τ) (a := 0) (o := 140 * k + 140) (by omega) (by omega) (by omega)
    have eo : (140 * (k : Int)) + 140 = ((140 * k + 140 : Nat) : Int) := by omega
    rw [Int.natCast_zero] at b1
    have h19 : σ1 19 = σ 19 := a3 19 (by omega)
    have h15 : τ1 15 = τ 15 := b4 15 (by omega)
    have hIM := hI.2.2.2.2.2.2.2.1
    have r01 : (σ 19 k = 0 ∧ τ 15 k = 0) ∨ (σ 19 k = 1 ∧ τ 15 k = 1) := by
      rcases hIM k hk with q | ⟨q1, q2, -⟩
      · exact Or.inl q
      · exact Or.inr ⟨q1, q2⟩
    have fI : InvL L (sto σ1 19 k 1) (sto τ1 15 k 1) := by
      obtain ⟨h1, h2, h3, h4, ⟨n, t1, t2, t3, t4⟩, r2, r3, r4, r5⟩ := hI
      refine InvL_g (σ := σ) (τ := τ) (fun c hc => by rw [sto_c (by omega)]; exact a3 c (by omega)) (fun j hj => by rw [sto_k (by omega)]; exact b3 j (by omega)) ⟨by rw [sto_k (by omega), b4 0 (by omega)], by rw [sto_k (by omega), b4 0 (by omega)], by rw [sto_k (by omega), b4 0 (by omega)]⟩ (fun c _ _ => by rw [sto_c (by omega)]; exact b4 c (by omega)) ?_ ⟨h1, h2, h3, h4, ⟨n, t1, t2, t3, t4⟩, r2, r3, r4, r5⟩
      refine ⟨⟨n, t1, ?_, ?_, fun i hi => ?_⟩, ⟨?_, ?_⟩, fun c hc => SHk_c ?_ ?_ ⟨?_, ?_, ?_⟩ (r3 c hc), fun c hc => ?_, ?_⟩
      · rw [sto_k (by omega), a3 1 (by omega)]; exact t2
      · rw [sto_k (by omega), b4 0 (by omega)]; exact t3
      · rw [sto_k (by omega), a3 2 (by omega), sto_k (by omega), b4 2 (by omega)]; exact t4 i hi
      · rw [sto_k (by omega), a3 0 (by omega), sto_k (by omega), b4 0 (by omega)]; exact r2.1
      · rw [sto_k (by omega), a3 0 (by omega), sto_k (by omega), b4 0 (by omega)]; exact r2.2
      · rw [sto_c (by omega), a3 _ (by omega)]
      · rw [sto_c (by omega), a3 _ (by omega)]
      · rw [sto_c (by omega), b4 _ (by omega)]
      · rw [sto_c (by omega), b4 _ (by omega)]
      · rw [sto_c (by omega), b4 _ (by omega)]
      · by_cases z : c = k
        · subst z
          refine Or.inr ⟨sto_eq _ _ _ _, sto_eq _ _ _ _, L, LDC_c (fun d x1 x2 => by rw [sto_c (by omega)]) (LDC_cp a2 h1), ML_c (σ := τ) (o := 0) h1.1 (fun j hj => ?_) h3⟩
          rw [sto_k (by omega)]
          exact b2 j hj
        · have q := r4 c hc
          unfold IMk at q ⊢
          rw [sto_i z, sto_i z, h19, h15]
          rcases q with q | ⟨q1, q2, L1, q3, q4⟩
          · exact Or.inl q
          · refine Or.inr ⟨q1, q2, L1, LDC_c (fun d x1 x2 => by rw [sto_c (by omega), a3 d (by omega)]) q3, ML_c q3.1 (fun j hj => ?_) q4⟩
            rw [sto_k (by omega), b3 _ (by omega)]
      · unfold KC at r5 ⊢
        rw [sto_c (by omega), sto_c (by omega), b4 3 (by omega), b4 4 (by omega)]
        exact r5
    rcases r01 with ⟨q1, q2⟩ | ⟨q1, q2⟩
    · refine ⟨0, sto σ1 19 k 1, sto τ1 15 k 1, ?_, ?_, L, fI⟩
      · simp (disch := omega) only [fX7_store, fX7_store_24, e1, q1, a1, if_pos, if_neg, Int.reduceAdd, Int.reduceSub, Int.reduceMul, Int.zero_add, Int.add_zero, Nat.zero_add, na_0, ca_la, ca_al, ca_lm, ca_add, ca_mod, ca_lit, tn_c, Int.natCast_zero, bd_some, bd2_some, bindv_e, chk_ok, cr_ok, crl_ok, chd_ok, chb_0, chb_1, cr_bI, chb_bI, ite_bI0, if_true, if_false]
      · simp (disch := omega) only [fX8_store, fX8_store_26, e2, q2, eo, b1, if_pos, if_neg, Int.reduceAdd, Int.reduceSub, Int.reduceMul, Int.zero_add, Int.add_zero, Nat.zero_add, na_0, ca_la, ca_al, ca_lm, ca_add, ca_mod, ca_lit, tn_c, Int.natCast_zero, bd_some, bd2_some, bindv_e, chk_ok, cr_ok, crl_ok, chd_ok, chb_0, chb_1, cr_bI, chb_bI, ite_bI0, if_true, if_false]
    · refine ⟨1, sto σ1 19 k 1, sto τ1 15 k 1, ?_, ?_, L, fI⟩
      · simp (disch := omega) only [fX7_store, fX7_store_24, e1, q1, a1, if_pos, if_neg, Int.reduceAdd, Int.reduceSub, Int.reduceMul, Int.zero_add, Int.add_zero, Nat.zero_add, na_0, ca_la, ca_al, ca_lm, ca_add, ca_mod, ca_lit, tn_c, Int.natCast_zero, bd_some, bd2_some, bindv_e, chk_ok, cr_ok, crl_ok, chd_ok, chb_0, chb_1, cr_bI, chb_bI, ite_bI0, if_true, if_false]
      · simp (disch := omega) only [fX8_store, fX8_store_26, e2, q2, eo, b1, if_pos, if_neg, Int.reduceAdd, Int.reduceSub, Int.reduceMul, Int.zero_add, Int.add_zero, Nat.zero_add, na_0, ca_la, ca_al, ca_lm, ca_add, ca_mod, ca_lit, tn_c, Int.natCast_zero, bd_some, bd2_some, bindv_e, chk_ok, cr_ok, crl_ok, chd_ok, chb_0, chb_1, cr_bI, chb_bI, ite_bI0, if_true, if_false]
  · rw [bI_f w] at e2
    rw [bI_f (by omega)] at e1
    refine ⟨-1, σ, τ, ?_, ?_, L, hI⟩
    · simp (disch := omega) only [fX7_store, e1, if_pos, Int.reduceAdd, Int.reduceSub, Int.reduceMul, Int.zero_add, Int.add_zero, Nat.zero_add, na_0, ca_la, ca_al, ca_lm, ca_add, ca_mod, ca_lit, tn_c, Int.natCast_zero, bd_some, bd2_some, bindv_e, chk_ok, cr_ok, crl_ok, chd_ok, chb_0, chb_1, cr_bI, chb_bI, ite_bI0, if_true, if_false]
    · simp (disch := omega) only [fX8_store, e2, if_pos, Int.reduceAdd, Int.reduceSub, Int.reduceMul, Int.zero_add, Int.add_zero, Nat.zero_add, na_0, ca_la, ca_al, ca_lm, ca_add, ca_mod, ca_lit, tn_c, Int.natCast_zero, bd_some, bd2_some, bindv_e, chk_ok, cr_ok, crl_ok, chd_ok, chb_0, chb_1, cr_bI, chb_bI, ite_bI0, if_true, if_false]
theorem k_back {σ τ : Mm} {v : Int} (h : Inv σ τ) (hv : inR v) : CC (fX7_back v σ) (fX8_back v τ) := by
  obtain ⟨L, hI⟩ := h
  have e1 := c_isBelow σ (v := v) (n := 2) hv (by omega)
  have e2 := m_in τ (v := v) (a := 0) (b := 1) hv (by omega) (by omega)
  rw [bI_c (show (0 ≤ v ∧ v ≤ 1) ↔ (0 ≤ v ∧ v < ((2 : Nat) : Int)) by omega)] at e2
  by_cases w : 0 ≤ v ∧ v < ((2 : Nat) : Int)
  · rw [bI_t w] at e2
    rw [bI_t (by omega)] at e1
    obtain ⟨k, rfl, hk⟩ := cut0 w
    rcases hI.2.2.2.2.2.2.2.1 k hk with ⟨q1, q2⟩ | ⟨q1, q2, L1, q3, q4⟩
    · refine ⟨-2, σ, τ, ?_, ?_, L, hI⟩
      · simp (disch := omega) only [fX7_back, e1, q1, if_pos, if_neg, Int.reduceAdd, Int.reduceSub, Int.reduceMul, Int.zero_add, Int.add_zero, Nat.zero_add, na_0, ca_la, ca_al, ca_lm, ca_add, ca_mod, ca_lit, tn_c, Int.natCast_zero, bd_some, bd2_some, bindv_e, chk_ok, cr_ok, crl_ok, chd_ok, chb_0, chb_1, cr_bI, chb_bI, ite_bI0, if_true, if_false]
      · simp (disch := omega) only [fX8_back, e2, q2, if_pos, if_neg, Int.reduceAdd, Int.reduceSub, Int.reduceMul, Int.zero_add, Int.add_zero, Nat.zero_add, na_0, ca_la, ca_al, ca_lm, ca_add, ca_mod, ca_lit, tn_c, Int.natCast_zero, bd_some, bd2_some, bindv_e, chk_ok, cr_ok, crl_ok, chd_ok, chb_0, chb_1, cr_bI, chb_bI, ite_bI0, if_true, if_false]
    · obtain ⟨σ1, a1, a2, a3⟩ := c_copyFrom (σ := σ) (k := 95) (w := 143 + 16 * k) (by omega) q3.2.2.2.2
      obtain ⟨τ1, b1, b2, b3, b4⟩ := m_copies (τ := τ) (a := 140 * k + 140) (o := 0) (by omega) (by omega) (by omega)
      have eo : (140 * (k : Int)) + 140 = ((140 * k + 140 : Nat) : Int) := by omega
      rw [Int.natCast_zero] at b1
      have H : HALF L1 σ1 (sto τ1 0 17 0) := by
        refine ⟨LDC_cp a2 q3, ML_c (σ := τ) (o := 140 * k + 140) q3.1 (fun j hj => by rw [sto_k (by omega)]; exact b2 j hj) q4, Or.inl (by rw [sto_eq]), ?_⟩
        exact RST_C (fun c hc => a3 c (by omega)) (RST_M ⟨by rw [sto_i (by omega), b4 0 (by omega)], by rw [sto_i (by omega), b4 0 (by omega)], by rw [sto_i (by omega), b4 0 (by omega)]⟩ (fun j h1 _ => by rw [sto_k (by omega), b3 j (by omega)]) (fun c hc => by rw [sto_c (by omega), b4 c (by omega)]) hI.2.2.2.2)
      have mN := m_points H.2.1
      obtain ⟨σ2, c1, c2, -⟩ := H_refresh H
      obtain ⟨cN, -⟩ := CL95 c2.1.2.2.1
      refine ⟨L1.np, σ2, sto τ1 0 17 0, ?_, ?_, L1, c2⟩
      · simp (disch := omega) only [fX7_back, e1, q1, a1, c1, cN, if_neg, Int.reduceAdd, Int.reduceSub, Int.reduceMul, Int.zero_add, Int.add_zero, Nat.zero_add, na_0, ca_la, ca_al, ca_lm, ca_add, ca_mod, ca_lit, tn_c, Int.natCast_zero, bd_some, bd2_some, bindv_e, chk_ok, cr_ok, crl_ok, chd_ok, chb_0, chb_1, cr_bI, chb_bI, ite_bI0, if_true, if_false]
      · simp (disch := omega) only [fX8_back, e2, q2, eo, b1, mN, if_neg, Int.reduceAdd, Int.reduceSub, Int.reduceMul, Int.zero_add, Int.add_zero, Nat.zero_add, na_0, ca_la, ca_al, ca_lm, ca_add, ca_mod, ca_lit, tn_c, Int.natCast_zero, bd_some, bd2_some, bindv_e, chk_ok, cr_ok, crl_ok, chd_ok, chb_0, chb_1, cr_bI, chb_bI, ite_bI0, if_true, if_false]
  · rw [bI_f w] at e2
    rw [bI_f (by omega)] at e1
    refine ⟨-1, σ, τ, ?_, ?_, L, hI⟩
    · simp (disch := omega) only [fX7_back, e1, if_pos, Int.reduceAdd, Int.reduceSub, Int.reduceMul, Int.zero_add, Int.add_zero, Nat.zero_add, na_0, ca_la, ca_al, ca_lm, ca_add, ca_mod, ca_lit, tn_c, Int.natCast_zero, bd_some, bd2_some, bindv_e, chk_ok, cr_ok, crl_ok, chd_ok, chb_0, chb_1, cr_bI, chb_bI, ite_bI0, if_true, if_false]
    · simp (disch := omega) only [fX8_back, e2, if_pos, Int.reduceAdd, Int.reduceSub, Int.reduceMul, Int.zero_add, Int.add_zero, Nat.zero_add, na_0, ca_la, ca_al, ca_lm, ca_add, ca_mod, ca_lit, tn_c, Int.natCast_zero, bd_some, bd2_some, bindv_e, chk_ok, cr_ok, crl_ok, chd_ok, chb_0, chb_1, cr_bI, chb_bI, ite_bI0, if_true, if_false]
