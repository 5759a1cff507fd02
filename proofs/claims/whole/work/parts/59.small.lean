/-! bits; the tape, the sheets; along, count -/
theorem andI_m {v : Int} (h : inR v) : andI v 32767 = (if v < 0 then v + 4294967296 else v) % 32768 := by
  have e := i32_nat h
  have q : ((i32 v &&& i32 32767).toBitVec.toNat) = (i32 v).toBitVec.toNat % 32768 := by
    show ((i32 v).toBitVec &&& (i32 32767).toBitVec).toNat = _
    rw [BitVec.toNat_and, show (i32 32767).toBitVec.toNat = 2 ^ 15 - 1 from by decide +kernel, Nat.and_two_pow_sub_one_eq_mod]
  show BitVec.toInt (i32 v &&& i32 32767).toBitVec = _
  rw [BitVec.toInt_eq_toNat_cond, q, ← e]
  split <;> omega
theorem drawn_e (v : Int) : ∃ g : Nat, g < 32768 ∧ andI (ushrI v 16) 32767 = (g : Int) ∧ andI (shrI v 16) 32767 = (g : Int) := by
  have hz := inR_toInt (i32 v)
  have e0 := i32_nat hz
  rw [i32_of] at e0
  have e1 : ushrI v 16 = (if (i32 v).toInt < 0 then (i32 v).toInt + 4294967296 else (i32 v).toInt) / 65536 := by
    unfold ushrI
    have e := pk_ushr (i32 v) (i32 16) 16 (by decide)
    generalize ((i32 v).toUInt32 >>> ((i32 16).toUInt32 &&& Int32.toUInt32 31)).toInt32 = z at e ⊢
    show z.toBitVec.toInt = _
    have hl := (i32 v).toBitVec.isLt
    rw [BitVec.toInt_eq_toNat_cond, e, ← e0]
    split <;> omega
  have e2 : shrI v 16 = (i32 v).toInt / 65536 := by
    unfold shrI
    rw [pk_shr (i32 v) (i32 16 &&& 31) 16 (by decide), Int.shiftRight_eq_div_pow]
    rfl
  rw [e1, e2]
  generalize (i32 v).toInt = w at *
  rw [andI_m (by split <;> omega), andI_m (by omega)]
  refine ⟨(w / 65536 % 32768).toNat, by omega, ?_, ?_⟩
  · split <;> split <;> omega
  · split <;> omega
theorem byI_i {v : Int} (h : 0 ≤ v ∧ v < 128) : byI v = v := by
  unfold byI
  rw [Int8.toInt_toInt32, Int32.toInt_toInt8, i32_toInt (by omega), Int.bmod_def]
  split <;> omega
theorem byI_r (v : Int) : inR (byI v) := inR_toInt _
theorem shI_r (v : Int) : inR (shI v) := inR_toInt _
theorem shl_t (z s : Int32) (k : Nat) (hs : (s.toBitVec.smod 32).toNat = k) : (z <<< s).toInt = (((z.toBitVec.toNat * 2 ^ k % 2 ^ 32 : Nat) : Int)).bmod (2 ^ 32) := by
  have e := pk_shl z s k hs
  show (z <<< s).toBitVec.toInt = _
  rw [BitVec.toInt_eq_toNat_bmod, e]
theorem byI_s (v : Int) : shrI (shlI v 24) 24 = byI v := by
  unfold byI shrI shlI
  rw [i32_of]
  generalize i32 v = z
  rw [pk_shr _ (i32 24 &&& 31) 24 (by decide), shl_t z (i32 24 &&& 31) 24 (by decide), Int8.toInt_toInt32, Int32.toInt_toInt8, Int.shiftRight_eq_div_pow]
  have e : z.toInt = (z.toBitVec.toNat : Int).bmod (2 ^ 32) := BitVec.toInt_eq_toNat_bmod _
  have hl := z.toBitVec.isLt
  rw [e]
  generalize z.toBitVec.toNat = n at *
  simp only [Int.bmod_def]
  repeat' split
  all_goals omega
theorem shI_s (v : Int) : shrI (shlI v 16) 16 = shI v := by
  unfold shI shrI shlI
  rw [i32_of]
  generalize i32 v = z
  rw [pk_shr _ (i32 16 &&& 31) 16 (by decide), shl_t z (i32 16 &&& 31) 16 (by decide), Int16.toInt_toInt32, Int32.toInt_toInt16, Int.shiftRight_eq_div_pow]
  have e : z.toInt = (z.toBitVec.toNat : Int).bmod (2 ^ 32) := BitVec.toInt_eq_toNat_bmod _
  have hl := z.toBitVec.isLt
  rw [e]
  generalize z.toBitVec.toNat = n at *
  simp only [Int.bmod_def]
  repeat' split
  all_goals omega
theorem MADE_c {τ τ' : Mm} {L : Ld} (f0 : τ' 0 16 = τ 0 16 ∧ τ' 0 24 = τ 0 24) (f : ∀ k, 5 ≤ k → k < 14 → τ' k = τ k) (h : MADE τ L) : MADE τ' L := by
  obtain ⟨⟨gb, sz, n, h1, h2⟩, h3⟩ := h
  refine ⟨⟨gb, sz, n, h1, ?_⟩, ?_⟩
  · unfold MP GA DG at h2 ⊢
    rw [f0.1, f 7 (by omega) (by omega), f 5 (by omega) (by omega), f 6 (by omega) (by omega), f 8 (by omega) (by omega)]
    exact h2
  · unfold MA at h3 ⊢
    rw [f0.2, f 10 (by omega) (by omega), f 11 (by omega) (by omega), f 12 (by omega) (by omega), f 13 (by omega) (by omega)]
    exact h3
theorem LK_g {L : Ld} {σ σ' : Mm} (hw : WF L) (e1 : ∀ k, (k = 4 ∨ k = 6 ∨ k = 7 ∨ (9 ≤ k ∧ k < 13) ∨ (35 ≤ k ∧ k < 95)) → σ' k = σ k) (h : LK σ L) : LK σ' L := ⟨STG_c (fun k a b => e1 k (by omega)) h.1, ARS_c h.2.2 hw (e1 4 (by omega)) (e1 6 (by omega)) (e1 7 (by omega)) (fun k a b => e1 k (by omega)) h.2.1, h.2.2⟩
theorem InvL_g {L : Ld} {σ σ' τ τ' : Mm} (e1 : ∀ k, (k = 4 ∨ k = 6 ∨ k = 7 ∨ (9 ≤ k ∧ k < 13) ∨ (35 ≤ k ∧ k < 111)) → σ' k = σ k) (f1 : ∀ j, j < 140 → τ' 1 j = τ 1 j) (f0 : τ' 0 17 = τ 0 17 ∧ τ' 0 16 = τ 0 16 ∧ τ' 0 24 = τ 0 24) (f : ∀ k, 5 ≤ k → k < 14 → τ' k = τ k) (hR : RST σ' τ') (h : InvL L σ τ) : InvL L σ' τ' := by
  obtain ⟨h1, h2, h3, h4, h5⟩ := h
  refine ⟨LDC_c (fun c a b => e1 c (by omega)) h1, LK_g h1.1 (fun k a => e1 k (by omega)) h2, ML_c h1.1 (fun j hj => by rw [Nat.zero_add]; exact f1 j hj) h3, ?_, hR⟩
  unfold MK at h4 ⊢
  rw [f0.1]
  rcases h4 with h4 | ⟨h4, h6⟩
  · exact Or.inl h4
  · exact Or.inr ⟨h4, MADE_c f0.2 f h6⟩
theorem RST_g {σ σ' τ τ' : Mm} (t : TP σ' τ') (a : σ' 0 10 = τ' 0 3 ∧ σ' 0 11 = τ' 0 30) (s : ∀ k, k < 4 → SHk σ' τ' k) (e : σ' 19 = σ 19) (e2 : ∀ k, 143 ≤ k → σ' k = σ k) (f1 : ∀ j, 140 ≤ j → j < 420 → τ' 1 j = τ 1 j) (f : τ' 3 = τ 3 ∧ τ' 4 = τ 4 ∧ τ' 15 = τ 15) (h : RST σ τ) : RST σ' τ' := by
  obtain ⟨-, -, -, h4, h5⟩ := h
  refine ⟨t, a, s, fun k hk => IMk_c e e2 f.2.2 f1 hk (h4 k hk), ?_⟩
  unfold KC at h5 ⊢
  rw [f.1, f.2.1]
  exact h5
theorem SHk_c {σ σ' τ τ' : Mm} {k : Nat} (e1 : σ' (21 + 2 * k) = σ (21 + 2 * k)) (e2 : σ' (21 + 2 * k + 1) = σ (21 + 2 * k + 1)) (f : τ' 16 = τ 16 ∧ τ' 17 = τ 17 ∧ τ' 18 = τ 18) (h : SHk σ τ k) : SHk σ' τ' k := by
  unfold SHk at h ⊢
  rw [e1, e2, f.1, f.2.1, f.2.2]
  exact h
theorem k_feed {σ τ : Mm} {v : Int} (h : Inv σ τ) (hv : inR v) : CC (fX7_feed v σ) (fX8_feed v τ) := by
  obtain ⟨L, hI⟩ := h
  obtain ⟨⟨n, n1, n2, n3, n4⟩, r2, r3, -⟩ := hI.2.2.2.2
  have c1 := c_isBelow σ (v := v) (n := 128) hv (by omega)
  have m1 := m_in τ (v := v) (a := 0) (b := 127) hv (by omega) (by omega)
  rw [bI_c (show (0 ≤ v ∧ v ≤ 127) ↔ (0 ≤ v ∧ v < 128) by omega)] at m1
  by_cases w : 0 ≤ v ∧ v < 128
  · rw [bI_t w] at c1 m1
    by_cases z : n < 320
    · have by1 : byI (byI v) = v := by rw [byI_i w, byI_i w]
      refine ⟨(n : Int) + 1, sto (sto σ 2 n v) 1 1 ((n : Int) + 1), sto (sto τ 2 n v) 0 2 ((n : Int) + 1), ?_, ?_, L, ?_⟩
      · simp (disch := omega) only [fX7_feed, fX6_append, fX6_append_31, c1, n2, by1, sto_eq, sto_k, if_pos, if_neg, Int.reduceAdd, Int.reduceSub, Int.reduceMul, Int.zero_add, Int.add_zero, Nat.zero_add, na_0, ca_la, ca_al, ca_lm, ca_add, ca_mod, ca_lit, tn_c, Int.natCast_zero, bd_some, bd2_some, bindv_e, chk_ok, cr_ok, crl_ok, chd_ok, chb_0, chb_1, cr_bI, chb_bI, ite_bI0, if_true, if_false]
      · simp (disch := omega) only [fX8_feed, m1, n3, sto_eq, sto_k, if_pos, if_neg, Int.reduceAdd, Int.reduceSub, Int.reduceMul, Int.zero_add, Int.add_zero, Nat.zero_add, na_0, ca_la, ca_al, ca_lm, ca_add, ca_mod, ca_lit, tn_c, Int.natCast_zero, bd_some, bd2_some, bindv_e, chk_ok, cr_ok, crl_ok, chd_ok, chb_0, chb_1, cr_bI, chb_bI, ite_bI0, if_true, if_false]
      · refine InvL_g (fun k a => by rw [sto_c (by omega), sto_c (by omega)]) (fun j _ => by rw [sto_c (by omega), sto_c (by omega)]) ⟨by rw [sto_i (by omega), sto_k (by omega)], by rw [sto_i (by omega), sto_k (by omega)], by rw [sto_i (by omega), sto_k (by omega)]⟩ (fun k _ _ => by rw [sto_c (by omega), sto_c (by omega)]) ?_ hI
        refine RST_g ⟨n + 1, by omega, by rw [sto_eq]; rfl, by rw [sto_eq]; rfl, fun i hi => ?_⟩ ⟨?_, ?_⟩ (fun k hk => SHk_c (by rw [sto_c (by omega), sto_c (by omega)]) (by rw [sto_c (by omega), sto_c (by omega)]) ⟨by rw [sto_c (by omega), sto_c (by omega)], by rw [sto_c (by omega), sto_c (by omega)], by rw [sto_c (by omega), sto_c (by omega)]⟩ (r3 k hk)) (by rw [sto_c (by omega), sto_c (by omega)]) (fun k _ => by rw [sto_c (by omega), sto_c (by omega)]) (fun j _ _ => by rw [sto_c (by omega), sto_c (by omega)]) ⟨by rw [sto_c (by omega), sto_c (by omega)], by rw [sto_c (by omega), sto_c (by omega)], by rw [sto_c (by omega), sto_c (by omega)]⟩ hI.2.2.2.2
        · rw [sto_k (by omega), sto_k (show (2 : Nat) ≠ 0 by omega), sto_at, sto_at]
          by_cases q : i = n
          · rw [if_pos ⟨rfl, q⟩, if_pos ⟨rfl, q⟩]; omega
          · rw [if_neg (fun y => q y.2), if_neg (fun y => q y.2)]; exact n4 i (by omega)
        · rw [sto_k (by omega), sto_k (by omega), sto_i (by omega), sto_k (by omega)]; exact r2.1
        · rw [sto_k (by omega), sto_k (by omega), sto_i (by omega), sto_k (by omega)]; exact r2.2
    · refine ⟨-3, σ, τ, ?_, ?_, L, hI⟩
      · simp (disch := omega) only [fX7_feed, c1, n2, if_pos, if_neg, Int.reduceAdd, Int.reduceSub, Int.reduceMul, Int.zero_add, Int.add_zero, Nat.zero_add, na_0, ca_la, ca_al, ca_lm, ca_add, ca_mod, ca_lit, tn_c, Int.natCast_zero, bd_some, bd2_some, bindv_e, chk_ok, cr_ok, crl_ok, chd_ok, chb_0, chb_1, cr_bI, chb_bI, ite_bI0, if_true, if_false]
      · simp (disch := omega) only [fX8_feed, m1, n3, if_pos, if_neg, Int.reduceAdd, Int.reduceSub, Int.reduceMul, Int.zero_add, Int.add_zero, Nat.zero_add, na_0, ca_la, ca_al, ca_lm, ca_add, ca_mod, ca_lit, tn_c, Int.natCast_zero, bd_some, bd2_some, bindv_e, chk_ok, cr_ok, crl_ok, chd_ok, chb_0, chb_1, cr_bI, chb_bI, ite_bI0, if_true, if_false]
  · rw [bI_f w] at c1 m1
    refine ⟨-1, σ, τ, ?_, ?_, L, hI⟩
    · simp (disch := omega) only [fX7_feed, c1, if_pos, Int.reduceAdd, Int.reduceSub, Int.reduceMul, Int.zero_add, Int.add_zero, Nat.zero_add, na_0, ca_la, ca_al, ca_lm, ca_add, ca_mod, ca_lit, tn_c, Int.natCast_zero, bd_some, bd2_some, bindv_e, chk_ok, cr_ok, crl_ok, chd_ok, chb_0, chb_1, cr_bI, chb_bI, ite_bI0, if_true, if_false]
    · simp (disch := omega) only [fX8_feed, m1, if_pos, Int.reduceAdd, Int.reduceSub, Int.reduceMul, Int.zero_add, Int.add_zero, Nat.zero_add, na_0, ca_la, ca_al, ca_lm, ca_add, ca_mod, ca_lit, tn_c, Int.natCast_zero, bd_some, bd2_some, bindv_e, chk_ok, cr_ok, crl_ok, chd_ok, chb_0, chb_1, cr_bI, chb_bI, ite_bI0, if_true, if_false]
theorem k_end {σ τ : Mm} {v : Int} (h : Inv σ τ) (hv : inR v) : CC (fX7_end v σ) (fX8_end v τ) := by
  obtain ⟨L, hI⟩ := h
  obtain ⟨⟨n, n1, n2, n3, n4⟩, r2, r3, -⟩ := hI.2.2.2.2
  have m1 := m_in τ (v := v) (a := 0) (b := (n : Int)) hv (by omega) (by omega)
  by_cases w : 0 ≤ v ∧ v ≤ (n : Int)
  · rw [bI_t w] at m1
    obtain ⟨z, rfl, hz⟩ := cut1 w
    refine ⟨n, sto σ 1 1 z, sto τ 0 2 z, ?_, ?_, L, ?_⟩
    · simp (disch := omega) only [fX7_end, n2, if_neg, Int.reduceAdd, Int.reduceSub, Int.reduceMul, Int.zero_add, Int.add_zero, Nat.zero_add, na_0, ca_la, ca_al, ca_lm, ca_add, ca_mod, ca_lit, tn_c, Int.natCast_zero, bd_some, bd2_some, bindv_e, chk_ok, cr_ok, crl_ok, chd_ok, chb_0, chb_1, cr_bI, chb_bI, ite_bI0, if_true, if_false]
    · simp (disch := omega) only [fX8_end, m1, n3, if_neg, Int.reduceAdd, Int.reduceSub, Int.reduceMul, Int.zero_add, Int.add_zero, Nat.zero_add, na_0, ca_la, ca_al, ca_lm, ca_add, ca_mod, ca_lit, tn_c, Int.natCast_zero, bd_some, bd2_some, bindv_e, chk_ok, cr_ok, crl_ok, chd_ok, chb_0, chb_1, cr_bI, chb_bI, ite_bI0, if_true, if_false]
    · refine InvL_g (fun k a => by rw [sto_c (by omega)]) (fun j _ => by rw [sto_c (by omega)]) ⟨by rw [sto_i (by omega)], by rw [sto_i (by omega)], by rw [sto_i (by omega)]⟩ (fun k _ _ => by rw [sto_c (by omega)]) ?_ hI
      refine RST_g ⟨z, by omega, by rw [sto_eq], by rw [sto_eq], fun i hi => ?_⟩ ⟨?_, ?_⟩ (fun k hk => SHk_c (by rw [sto_c (by omega)]) (by rw [sto_c (by omega)]) ⟨by rw [sto_c (by omega)], by rw [sto_c (by omega)], by rw [sto_c (by omega)]⟩ (r3 k hk)) (by rw [sto_c (by omega)]) (fun k _ => by rw [sto_c (by omega)]) (fun j _ _ => by rw [sto_c (by omega)]) ⟨by rw [sto_c (by omega)], by rw [sto_c (by omega)], by rw [sto_c (by omega)]⟩ hI.2.2.2.2
      · rw [sto_k (by omega), sto_k (show (2 : Nat) ≠ 0 by omega)]; exact n4 i (by omega)
      · rw [sto_k (by omega), sto_i (by omega)]; exact r2.1
      · rw [sto_k (by omega), sto_i (by omega)]; exact r2.2
  · rw [bI_f w] at m1
    refine ⟨-1, σ, τ, ?_, ?_, L, hI⟩
    · by_cases z : v < 0
      · simp (disch := omega) only [fX7_end, fX7_end_15, if_pos, Int.reduceAdd, Int.reduceSub, Int.reduceMul, Int.zero_add, Int.add_zero, Nat.zero_add, na_0, ca_la, ca_al, ca_lm, ca_add, ca_mod, ca_lit, tn_c, Int.natCast_zero, bd_some, bd2_some, bindv_e, chk_ok, cr_ok, crl_ok, chd_ok, chb_0, chb_1, cr_bI, chb_bI, ite_bI0, if_true, if_false]
      · simp (disch := omega) only [fX7_end, fX7_end_15, n2, if_pos, if_neg, Int.reduceAdd, Int.reduceSub, Int.reduceMul, Int.zero_add, Int.add_zero, Nat.zero_add, na_0, ca_la, ca_al, ca_lm, ca_add, ca_mod, ca_lit, tn_c, Int.natCast_zero, bd_some, bd2_some, bindv_e, chk_ok, cr_ok, crl_ok, chd_ok, chb_0, chb_1, cr_bI, chb_bI, ite_bI0, if_true, if_false]
    · simp (disch := omega) only [fX8_end, m1, n3, if_pos, Int.reduceAdd, Int.reduceSub, Int.reduceMul, Int.zero_add, Int.add_zero, Nat.zero_add, na_0, ca_la, ca_al, ca_lm, ca_add, ca_mod, ca_lit, tn_c, Int.natCast_zero, bd_some, bd2_some, bindv_e, chk_ok, cr_ok, crl_ok, chd_ok, chb_0, chb_1, cr_bI, chb_bI, ite_bI0, if_true, if_false]
theorem k_along {σ τ : Mm} {v u w : Int} (h : Inv σ τ) (hv : inR v) (hu : inR u) (hw : inR w) : CR σ (fX7_along v u w σ) (fX8_along v u w τ) := by
  obtain ⟨L, hI⟩ := h
  have hW := hI.1.1
  have hnp := hW.1
  obtain ⟨τ', gb, sz, n, m1, m2, hI', m3, hl, hA⟩ := ar_view hI hv
  have c2 := c_isBelow σ (v := w) (n := 2) hw (by omega)
  have e2 := m_in τ' (v := w) (a := 0) (b := 1) hw (by omega) (by omega)
  rw [bI_c (show (0 ≤ w ∧ w ≤ 1) ↔ (0 ≤ w ∧ w < 2) by omega)] at e2
  by_cases z1 : 0 ≤ v ∧ v < ((allA L L.nr).length : Int)
  · obtain ⟨x, rfl, hx⟩ := cut0 z1
    rw [bI_t z1] at m1 m2
    by_cases z2 : u < 0
    · refine ⟨-1, τ', ?_, ?_, L, hI'⟩
      · simp (disch := omega) only [fX7_along, fX7_along_26, m2, if_pos, if_neg, Int.reduceAdd, Int.reduceSub, Int.reduceMul, Int.zero_add, Int.add_zero, Nat.zero_add, na_0, ca_la, ca_al, ca_lm, ca_add, ca_mod, ca_lit, tn_c, Int.natCast_zero, bd_some, bd2_some, bindv_e, chk_ok, cr_ok, crl_ok, chd_ok, chb_0, chb_1, cr_bI, chb_bI, ite_bI0, if_true, if_false]
      · simp (disch := omega) only [fX8_along, fX8_along_22, m1, if_pos, if_neg, Int.reduceAdd, Int.reduceSub, Int.reduceMul, Int.zero_add, Int.add_zero, Nat.zero_add, na_0, ca_la, ca_al, ca_lm, ca_add, ca_mod, ca_lit, tn_c, Int.natCast_zero, bd_some, bd2_some, bindv_e, chk_ok, cr_ok, crl_ok, chd_ok, chb_0, chb_1, cr_bI, chb_bI, ite_bI0, if_true, if_false]
    by_cases z3 : 0 ≤ w ∧ w < 2
    · rw [bI_t z3] at c2 e2
      have hM := m3.2.2.2
      obtain ⟨-, g2, g3, -⟩ := hI.2.1.2.1
      have c6 := g2 x hx
      have cp := fun j hj => g3 x j hx hj
      obtain ⟨f1, f2, f3, f4, f5⟩ := arc_f hW hA hx
      have t12 := hM.2.2.2.1 x hx
      by_cases z4 : w = 1
      · subst z4
        obtain ⟨y, y1, y2⟩ := m_ringsOfArc (v := u) hW hI'.2.2.1 hM hA hl hx hu
        have l0 := f3 0
        have l1 := f3 1
        obtain ⟨y', y3, y4⟩ := c_ringOf (v := u) hW hI.1.2.2.1 (by omega) (cp 0 (by omega)) (cp 1 (by omega)) (by omega) (by omega) hu
        have eY : y' = y := by
          rcases y1 with ⟨y1, -⟩ | ⟨-, y1⟩
          · omega
          · exact FST_u y3 y1
        subst eY
        refine ⟨y', τ', ?_, ?_, L, hI'⟩
        · simp (disch := omega) only [fX7_along, m2, c2, y4, if_pos, if_neg, Int.reduceAdd, Int.reduceSub, Int.reduceMul, Int.zero_add, Int.add_zero, Nat.zero_add, na_0, ca_la, ca_al, ca_lm, ca_add, ca_mod, ca_lit, tn_c, Int.natCast_zero, bd_some, bd2_some, bindv_e, chk_ok, cr_ok, crl_ok, chd_ok, chb_0, chb_1, cr_bI, chb_bI, ite_bI0, if_true, if_false]
        · simp (disch := omega) only [fX8_along, fX8_along_59, m1, e2, y2, if_pos, if_neg, Int.reduceAdd, Int.reduceSub, Int.reduceMul, Int.zero_add, Int.add_zero, Nat.zero_add, na_0, ca_la, ca_al, ca_lm, ca_add, ca_mod, ca_lit, tn_c, Int.natCast_zero, bd_some, bd2_some, bindv_e, chk_ok, cr_ok, crl_ok, chd_ok, chb_0, chb_1, cr_bI, chb_bI, ite_bI0, if_true, if_false]
      · obtain ⟨j, rfl⟩ : ∃ j : Nat, u = (j : Int) := ⟨u.toNat, by omega⟩
        by_cases z5 : j < (ag (allA L L.nr) x).2.2.1
        · have d1 := cp j z5
          have d2 := m_arcPoint (j := j) hW hI'.2.2.1 hM hA hl hx (by omega)
          refine ⟨pt L (ag (allA L L.nr) x) j, τ', ?_, ?_, L, hI'⟩
          · simp (disch := omega) only [fX7_along, fX7_along_72, m2, c2, c6, d1, if_pos, if_neg, Int.reduceAdd, Int.reduceSub, Int.reduceMul, Int.zero_add, Int.add_zero, Nat.zero_add, na_0, ca_la, ca_al, ca_lm, ca_add, ca_mod, ca_lit, tn_c, Int.natCast_zero, bd_some, bd2_some, bindv_e, chk_ok, cr_ok, crl_ok, chd_ok, chb_0, chb_1, cr_bI, chb_bI, ite_bI0, if_true, if_false]
          · simp (disch := omega) only [fX8_along, fX8_along_59, m1, e2, t12, d2, if_pos, if_neg, Int.reduceAdd, Int.reduceSub, Int.reduceMul, Int.zero_add, Int.add_zero, Nat.zero_add, na_0, ca_la, ca_al, ca_lm, ca_add, ca_mod, ca_lit, tn_c, Int.natCast_zero, bd_some, bd2_some, bindv_e, chk_ok, cr_ok, crl_ok, chd_ok, chb_0, chb_1, cr_bI, chb_bI, ite_bI0, if_true, if_false]
        · refine ⟨-4, τ', ?_, ?_, L, hI'⟩
          · simp (disch := omega) only [fX7_along, fX7_along_72, m2, c2, c6, if_pos, if_neg, Int.reduceAdd, Int.reduceSub, Int.reduceMul, Int.zero_add, Int.add_zero, Nat.zero_add, na_0, ca_la, ca_al, ca_lm, ca_add, ca_mod, ca_lit, tn_c, Int.natCast_zero, bd_some, bd2_some, bindv_e, chk_ok, cr_ok, crl_ok, chd_ok, chb_0, chb_1, cr_bI, chb_bI, ite_bI0, if_true, if_false]
          · simp (disch := omega) only [fX8_along, fX8_along_59, m1, e2, t12, if_pos, if_neg, Int.reduceAdd, Int.reduceSub, Int.reduceMul, Int.zero_add, Int.add_zero, Nat.zero_add, na_0, ca_la, ca_al, ca_lm, ca_add, ca_mod, ca_lit, tn_c, Int.natCast_zero, bd_some, bd2_some, bindv_e, chk_ok, cr_ok, crl_ok, chd_ok, chb_0, chb_1, cr_bI, chb_bI, ite_bI0, if_true, if_false]
    · rw [bI_f z3] at c2 e2
      refine ⟨-1, τ', ?_, ?_, L, hI'⟩
      · simp (disch := omega) only [fX7_along, fX7_along_26, m2, c2, if_pos, if_neg, Int.reduceAdd, Int.reduceSub, Int.reduceMul, Int.zero_add, Int.add_zero, Nat.zero_add, na_0, ca_la, ca_al, ca_lm, ca_add, ca_mod, ca_lit, tn_c, Int.natCast_zero, bd_some, bd2_some, bindv_e, chk_ok, cr_ok, crl_ok, chd_ok, chb_0, chb_1, cr_bI, chb_bI, ite_bI0, if_true, if_false]
      · simp (disch := omega) only [fX8_along, fX8_along_22, m1, e2, if_pos, if_neg, Int.reduceAdd, Int.reduceSub, Int.reduceMul, Int.zero_add, Int.add_zero, Nat.zero_add, na_0, ca_la, ca_al, ca_lm, ca_add, ca_mod, ca_lit, tn_c, Int.natCast_zero, bd_some, bd2_some, bindv_e, chk_ok, cr_ok, crl_ok, chd_ok, chb_0, chb_1, cr_bI, chb_bI, ite_bI0, if_true, if_false]
  · rw [bI_f z1] at m1 m2
    refine ⟨-1, τ', ?_, ?_, L, hI'⟩
    · simp (disch := omega) only [fX7_along, fX7_along_26, m2, if_pos, Int.reduceAdd, Int.reduceSub, Int.reduceMul, Int.zero_add, Int.add_zero, Nat.zero_add, na_0, ca_la, ca_al, ca_lm, ca_add, ca_mod, ca_lit, tn_c, Int.natCast_zero, bd_some, bd2_some, bindv_e, chk_ok, cr_ok, crl_ok, chd_ok, chb_0, chb_1, cr_bI, chb_bI, ite_bI0, if_true, if_false]
    · simp (disch := omega) only [fX8_along, fX8_along_22, m1, if_pos, Int.reduceAdd, Int.reduceSub, Int.reduceMul, Int.zero_add, Int.add_zero, Nat.zero_add, na_0, ca_la, ca_al, ca_lm, ca_add, ca_mod, ca_lit, tn_c, Int.natCast_zero, bd_some, bd2_some, bindv_e, chk_ok, cr_ok, crl_ok, chd_ok, chb_0, chb_1, cr_bI, chb_bI, ite_bI0, if_true, if_false]
