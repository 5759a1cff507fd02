/-! read: the call -/
theorem rd_l1 {σ σ1 : Mm} {k n : Nat} {u f : Int} (hk : k < 4) (hn : n ≤ 13) (e1 : fX7_isBelow k 4 σ = some 1) (f1 : fX7_isBelow u 3 σ = some 1) (a1 : fX1_copyFrom 127 95 σ = some σ1) : fX7_read k u f n σ = lX7_read_58 u f n (21 + 2 * k) (fun a b s => fX7_read_162 a b s) 400 0 0 0 σ1 := by
  unfold fX7_read
  rw [e1, bd_some, cr_ok (by omega), if_neg (by omega), f1, bd_some, cr_ok (by omega), if_neg (by omega), cr_ok (by omega), if_neg (by omega), cr_ok (by omega), if_neg (by omega), chk_ok (by omega), a1, bd_some, bindv_e, bindv_e, bindv_e, tn_c]
theorem rd_l2 {τ τ1 : Mm} {k n : Nat} {u f : Int} (hk : k < 4) (hn : n ≤ 13) (hu : inR u) (e2 : fX8_in k 0 3 τ = some 1) (f2 : fX8_in u 0 2 τ = some 1) (g2 : fX8_in n 0 13 τ = some 1) (t1 : fX8_copies 0 560 τ = some τ1) : fX8_read k u f n τ = lX8_read_56 k u f n (fun a b s => fX8_read_215 a b s) 400 0 0 0 τ1 := by
  unfold fX8_read
  rw [cr_ok (by omega), e2, bd_some, cr_ok (by omega), if_neg (by omega), cr_ok (by omega), f2, bd_some, cr_ok (by omega), if_neg (by omega), cr_ok (by omega), g2, bd_some, cr_ok (by omega), if_neg (by omega), t1, bd_some, bindv_e, bindv_e, bindv_e]
theorem rd_fin {σ τ σ1 τ1 : Mm} {k n : Nat} {u f : Int} {L : Ld} {a b : Option (Int × Mm)} (l1 : a = lX7_read_58 u f n (21 + 2 * k) (fun a b s => fX7_read_162 a b s) 400 0 0 0 σ1) (l2 : b = lX8_read_56 k u f n (fun a b s => fX8_read_215 a b s) 400 0 0 0 τ1) (R : RES L (fun a b s => fX7_read_162 a b s) (fun a b s => fX8_read_215 a b s) (lX7_read_58 u f n (21 + 2 * k) (fun a b s => fX7_read_162 a b s) 400 0 0 0 σ1) (lX8_read_56 k u f n (fun a b s => fX8_read_215 a b s) 400 0 0 0 τ1)) : CC a b := by
  rw [← l1, ← l2] at R
  clear l1 l2
  rcases R with ⟨fd, cm, σ', τ', L', r1, r2, r3⟩ | ⟨r, σ', τ', r1, r2, r3⟩
  · obtain ⟨σ2, b1, b2, -⟩ := H_refresh (HALF_f (x := fd) r1)
    refine ⟨cm, σ2, sto τ' 0 30 fd, ?_, ?_, L', b2⟩
    · rw [r2]
      show fX7_read_162 fd cm σ' = _
      unfold fX7_read_162
      rw [bindv_e, b1, bd_some]
    · rw [r3]
      show fX8_read_215 fd cm τ' = _
      unfold fX8_read_215
      rw [bindv_e]
  · exact ⟨r, σ', τ', r1, r2, L, r3⟩
theorem rd_R {σ τ : Mm} {k n : Nat} {u f : Int} {L : Ld} (hk : k < 4) (hn : n ≤ 13) (hu : 0 ≤ u ∧ u < 3) (hf : inR f) (H : H2 L L σ τ) : RES L (fun a b s => fX7_read_162 a b s) (fun a b s => fX8_read_215 a b s) (lX7_read_58 u f n (21 + 2 * k) (fun a b s => fX7_read_162 a b s) 400 0 0 0 σ) (lX8_read_56 k u f n (fun a b s => fX8_read_215 a b s) 400 0 0 0 τ) := by
  have R := read_l (k := k) (n := n) (v := u) (f := f) (L0 := L) (e1 := fun a b s => fX7_read_162 a b s) (e2 := fun a b s => fX8_read_215 a b s) hk hn hu hf n (399 - n) (399 - 3 * n) 0 σ τ L (by omega) (by omega) H
  rw [show 399 - n + n + 1 = 400 by omega, show 399 - 3 * n + 3 * n + 1 = 400 by omega, Nat.mul_zero, Int.natCast_zero] at R
  unfold lX7_read_58 lX8_read_56
  exact R
theorem k_read {σ τ : Mm} {v u f w : Int} (h : Inv σ τ) (hv : inR v) (hu : inR u) (hf : inR f) (hw : inR w) : CC (fX7_read v u f w σ) (fX8_read v u f w τ) := by
  obtain ⟨L, hI⟩ := h
  have e1 := c_isBelow σ (v := v) (n := 4) hv (by omega)
  have e2 := m_in τ (v := v) (a := 0) (b := 3) hv (by omega) (by omega)
  rw [bI_c (show (0 ≤ v ∧ v ≤ 3) ↔ (0 ≤ v ∧ v < ((4 : Nat) : Int)) by omega)] at e2
  have f1 := c_isBelow σ (v := u) (n := 3) hu (by omega)
  have f2 := m_in τ (v := u) (a := 0) (b := 2) hu (by omega) (by omega)
  rw [bI_c (show (0 ≤ u ∧ u ≤ 2) ↔ (0 ≤ u ∧ u < 3) by omega)] at f2
  have g2 := m_in τ (v := w) (a := 0) (b := 13) hw (by omega) (by omega)
  by_cases z1 : 0 ≤ v ∧ v < ((4 : Nat) : Int)
  · rw [bI_t z1] at e2
    rw [bI_t (by omega)] at e1
    obtain ⟨k, rfl, hk⟩ := cut0 z1
    by_cases z2 : 0 ≤ u ∧ u < 3
    · rw [bI_t z2] at f1 f2
      by_cases z3 : 0 ≤ w ∧ w ≤ 13
      · rw [bI_t z3] at g2
        obtain ⟨n, rfl⟩ : ∃ n : Nat, w = (n : Int) := ⟨w.toNat, by omega⟩
        obtain ⟨σ1, a1, a2, a3⟩ := c_copyFrom (σ := σ) (k := 127) (w := 95) (by omega) hI.1.2.2.2.2
        obtain ⟨τ1, t1, t2, t3, t4⟩ := m_copies (τ := τ) (a := 0) (o := 560) (by omega) (by omega) (by omega)
        rw [Int.natCast_zero, show ((560 : Nat) : Int) = 560 from rfl] at t1
        have H : H2 L L σ1 τ1 := by
          refine ⟨⟨LDC_c (fun c _ _ => a3 c (by omega)) hI.1, ML_c hI.1.1 (fun j hj => t3 _ (by omega)) hI.2.2.1, ?_, ?_⟩, LDC_cp a2 hI.1, ML_c (σ := τ) (o := 0) hI.1.1 (fun j hj => t2 j hj) hI.2.2.1, LK_g hI.1.1 (fun c hc => a3 c (by omega)) hI.2.1⟩
          · have h4 := hI.2.2.2.1
            unfold MK at h4 ⊢
            rw [t4 0 (by omega)]
            rcases h4 with h4 | ⟨h4, h5⟩
            · exact Or.inl h4
            · exact Or.inr ⟨h4, MADE_c ⟨by rw [t4 0 (by omega)], by rw [t4 0 (by omega)]⟩ (fun c _ _ => t4 c (by omega)) h5⟩
          · exact RST_C (fun c hc => a3 c (by omega)) (RST_M ⟨by rw [t4 0 (by omega)], by rw [t4 0 (by omega)], by rw [t4 0 (by omega)]⟩ (fun j h1 h2 => t3 j (by omega)) (fun c hc => t4 c (by omega)) hI.2.2.2.2)
        exact rd_fin (σ := σ) (τ := τ) (rd_l1 hk (by omega) e1 f1 a1) (rd_l2 hk (by omega) hu e2 f2 g2 t1) (rd_R hk (by omega) z2 hf H)
      · rw [bI_f z3] at g2
        refine ⟨-1, σ, τ, ?_, ?_, L, hI⟩
        · by_cases z4 : w < 0
          · simp (disch := omega) only [fX7_read, fX7_read_28, e1, f1, if_pos, if_neg, Int.reduceAdd, Int.reduceSub, Int.reduceMul, Int.zero_add, Int.add_zero, Nat.zero_add, na_0, ca_la, ca_al, ca_lm, ca_add, ca_mod, ca_lit, tn_c, Int.natCast_zero, bd_some, bd2_some, bindv_e, chk_ok, cr_ok, crl_ok, chd_ok, chb_0, chb_1, cr_bI, chb_bI, ite_bI0, if_true, if_false]
          · simp (disch := omega) only [fX7_read, fX7_read_28, e1, f1, if_pos, if_neg, Int.reduceAdd, Int.reduceSub, Int.reduceMul, Int.zero_add, Int.add_zero, Nat.zero_add, na_0, ca_la, ca_al, ca_lm, ca_add, ca_mod, ca_lit, tn_c, Int.natCast_zero, bd_some, bd2_some, bindv_e, chk_ok, cr_ok, crl_ok, chd_ok, chb_0, chb_1, cr_bI, chb_bI, ite_bI0, if_true, if_false]
        · simp (disch := omega) only [fX8_read, fX8_read_37, e2, f2, g2, if_pos, if_neg, Int.reduceAdd, Int.reduceSub, Int.reduceMul, Int.zero_add, Int.add_zero, Nat.zero_add, na_0, ca_la, ca_al, ca_lm, ca_add, ca_mod, ca_lit, tn_c, Int.natCast_zero, bd_some, bd2_some, bindv_e, chk_ok, cr_ok, crl_ok, chd_ok, chb_0, chb_1, cr_bI, chb_bI, ite_bI0, if_true, if_false]
    · rw [bI_f z2] at f1 f2
      refine ⟨-1, σ, τ, ?_, ?_, L, hI⟩
      · simp (disch := omega) only [fX7_read, fX7_read_28, e1, f1, if_pos, if_neg, Int.reduceAdd, Int.reduceSub, Int.reduceMul, Int.zero_add, Int.add_zero, Nat.zero_add, na_0, ca_la, ca_al, ca_lm, ca_add, ca_mod, ca_lit, tn_c, Int.natCast_zero, bd_some, bd2_some, bindv_e, chk_ok, cr_ok, crl_ok, chd_ok, chb_0, chb_1, cr_bI, chb_bI, ite_bI0, if_true, if_false]
      · simp (disch := omega) only [fX8_read, fX8_read_37, e2, f2, if_pos, if_neg, Int.reduceAdd, Int.reduceSub, Int.reduceMul, Int.zero_add, Int.add_zero, Nat.zero_add, na_0, ca_la, ca_al, ca_lm, ca_add, ca_mod, ca_lit, tn_c, Int.natCast_zero, bd_some, bd2_some, bindv_e, chk_ok, cr_ok, crl_ok, chd_ok, chb_0, chb_1, cr_bI, chb_bI, ite_bI0, if_true, if_false]
  · rw [bI_f z1] at e2
    rw [bI_f (by omega)] at e1
    refine ⟨-1, σ, τ, ?_, ?_, L, hI⟩
    · simp (disch := omega) only [fX7_read, fX7_read_28, e1, if_pos, Int.reduceAdd, Int.reduceSub, Int.reduceMul, Int.zero_add, Int.add_zero, Nat.zero_add, na_0, ca_la, ca_al, ca_lm, ca_add, ca_mod, ca_lit, tn_c, Int.natCast_zero, bd_some, bd2_some, bindv_e, chk_ok, cr_ok, crl_ok, chd_ok, chb_0, chb_1, cr_bI, chb_bI, ite_bI0, if_true, if_false]
    · simp (disch := omega) only [fX8_read, fX8_read_37, e2, if_pos, Int.reduceAdd, Int.reduceSub, Int.reduceMul, Int.zero_add, Int.add_zero, Nat.zero_add, na_0, ca_la, ca_al, ca_lm, ca_add, ca_mod, ca_lit, tn_c, Int.natCast_zero, bd_some, bd2_some, bindv_e, chk_ok, cr_ok, crl_ok, chd_ok, chb_0, chb_1, cr_bI, chb_bI, ite_bI0, if_true, if_false]
