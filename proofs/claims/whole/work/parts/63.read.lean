/-! read -/
theorem m_inL (σ : Mm) {v a b : Int} (hv : inL v) (ha : inL a) (hb : inL b) : fX8_in v a b σ = some (bI (a ≤ v ∧ v ≤ b)) := by
  simp (disch := omega) only [fX8_in, fX8_in_17, fX8_in_18, Int.reduceAdd, Int.reduceSub, Int.reduceMul, Int.zero_add, Int.add_zero, Nat.zero_add, na_0, ca_la, ca_al, ca_lm, ca_add, ca_mod, ca_lit, tn_c, Int.natCast_zero, bd_some, bd2_some, bindv_e, chk_ok, cr_ok, crl_ok, chd_ok, chb_0, chb_1, cr_bI, chb_bI, ite_bI0, if_true, if_false]
  repeat' split
  all_goals first | (rw [bI_t (by omega)]; done) | rw [bI_f (by omega)]
theorem c_f3 {σ τ : Mm} {k : Nat} {v g : Int} (h : SHk σ τ k) (hv : 0 ≤ v ∧ v < 3) (hg : -9000000000 ≤ g ∧ g ≤ 9000000000) : (τ 16 k = -4 → fX4_faultOfThree (21 + 2 * k) v g σ = some 1) ∧ (τ 16 k ≠ -4 → τ 16 k ≠ v → fX4_faultOfThree (21 + 2 * k) v g σ = some 3) ∧ (τ 16 k = v → (g < 0 ∨ τ 17 k ≤ g + 2) → fX4_faultOfThree (21 + 2 * k) v g σ = some 2) ∧ (τ 16 k = v → 0 ≤ g → g + 2 < τ 17 k → fX4_faultOfThree (21 + 2 * k) v g σ = some 0) := by
  obtain ⟨s1, s2, s3, s4, -⟩ := h
  have hN := c_isNothing (σ := σ) (k := 21 + 2 * k) (by rcases s1 with s1 | s1 <;> omega)
  refine ⟨fun y => ?_, fun y y' => ?_, fun y y' => ?_, fun y y1 y2 => ?_⟩
  · have q : σ (21 + 2 * k) 1 = -1 := by rcases s1 with s1 | s1 <;> omega
    rw [bI_t q] at hN
    simp (disch := omega) only [fX4_faultOfThree, hN, if_neg, Int.reduceAdd, Int.reduceSub, Int.reduceMul, Int.zero_add, Int.add_zero, Nat.zero_add, na_0, ca_la, ca_al, ca_lm, ca_add, ca_mod, ca_lit, tn_c, Int.natCast_zero, bd_some, bd2_some, bindv_e, chk_ok, cr_ok, crl_ok, chd_ok, chb_0, chb_1, cr_bI, chb_bI, ite_bI0, if_true, if_false]
  · have q : σ (21 + 2 * k) 1 = τ 16 k := by rcases s1 with s1 | s1 <;> omega
    have q2 : 0 ≤ τ 16 k ∧ τ 16 k < 3 := by rcases s1 with s1 | s1 <;> omega
    rw [bI_f (by omega)] at hN
    simp (disch := omega) only [fX4_faultOfThree, hN, q, if_neg, if_pos, Int.reduceAdd, Int.reduceSub, Int.reduceMul, Int.zero_add, Int.add_zero, Nat.zero_add, na_0, ca_la, ca_al, ca_lm, ca_add, ca_mod, ca_lit, tn_c, Int.natCast_zero, bd_some, bd2_some, bindv_e, chk_ok, cr_ok, crl_ok, chd_ok, chb_0, chb_1, cr_bI, chb_bI, ite_bI0, if_true, if_false]
  · have q : σ (21 + 2 * k) 1 = v := by rcases s1 with s1 | s1 <;> omega
    rw [bI_f (by omega)] at hN
    by_cases z : g < 0
    · simp (disch := omega) only [fX4_faultOfThree, fX4_faultOfThree_39, fX4_faultOfThree_44, hN, q, if_neg, if_pos, Int.reduceAdd, Int.reduceSub, Int.reduceMul, Int.zero_add, Int.add_zero, Nat.zero_add, na_0, ca_la, ca_al, ca_lm, ca_add, ca_mod, ca_lit, tn_c, Int.natCast_zero, bd_some, bd2_some, bindv_e, chk_ok, cr_ok, crl_ok, chd_ok, chb_0, chb_1, cr_bI, chb_bI, ite_bI0, if_true, if_false]
    · simp (disch := omega) only [fX4_faultOfThree, fX4_faultOfThree_39, fX4_faultOfThree_44, hN, q, s2, if_neg, if_pos, Int.reduceAdd, Int.reduceSub, Int.reduceMul, Int.zero_add, Int.add_zero, Nat.zero_add, na_0, ca_la, ca_al, ca_lm, ca_add, ca_mod, ca_lit, tn_c, Int.natCast_zero, bd_some, bd2_some, bindv_e, chk_ok, cr_ok, crl_ok, chd_ok, chb_0, chb_1, cr_bI, chb_bI, ite_bI0, if_true, if_false]
  · have q : σ (21 + 2 * k) 1 = v := by rcases s1 with s1 | s1 <;> omega
    rw [bI_f (by omega)] at hN
    simp (disch := omega) only [fX4_faultOfThree, fX4_faultOfThree_39, fX4_faultOfThree_44, hN, q, s2, if_neg, if_pos, Int.reduceAdd, Int.reduceSub, Int.reduceMul, Int.zero_add, Int.add_zero, Nat.zero_add, na_0, ca_la, ca_al, ca_lm, ca_add, ca_mod, ca_lit, tn_c, Int.natCast_zero, bd_some, bd2_some, bindv_e, chk_ok, cr_ok, crl_ok, chd_ok, chb_0, chb_1, cr_bI, chb_bI, ite_bI0, if_true, if_false]
section
variable {τ : Mm} {k n : Nat} {v f : Int} {e : Int → Int → Mm → Option (Int × Mm)} {c : Int → Int → Int → Mm → Option (Int × Mm)} {cm : Int} {i : Nat}
theorem rd_no (hk : k < 4) (hn : n ≤ 13) (hf : inR f) (hi : i < 3 * n) (h : τ 16 k = -4) : fX8_read_56 k v f n e c 0 cm i τ = c 1 cm ((i + 1 : Nat) : Int) τ := by
  simp (disch := omega) only [fX8_read_56, fX8_read_130, fX8_read_209, h, if_neg, if_pos, Int.reduceAdd, Int.reduceSub, Int.reduceMul, Int.zero_add, Int.add_zero, Nat.zero_add, na_0, ca_la, ca_al, ca_lm, ca_add, ca_mod, ca_lit, tn_c, Int.natCast_zero, bd_some, bd2_some, bindv_e, chk_ok, cr_ok, crl_ok, chd_ok, chb_0, chb_1, cr_bI, chb_bI, ite_bI0, if_true, if_false]
theorem rd_cast (hk : k < 4) (hn : n ≤ 13) (hf : inR f) (hv : inR v) (hi : i < 3 * n) (h0 : inR (τ 16 k)) (h : τ 16 k ≠ -4) (h2 : τ 16 k ≠ v) : fX8_read_56 k v f n e c 0 cm i τ = c 3 cm ((i + 1 : Nat) : Int) τ := by
  simp (disch := omega) only [fX8_read_56, fX8_read_130, fX8_read_209, if_neg, if_pos, Int.reduceAdd, Int.reduceSub, Int.reduceMul, Int.zero_add, Int.add_zero, Nat.zero_add, na_0, ca_la, ca_al, ca_lm, ca_add, ca_mod, ca_lit, tn_c, Int.natCast_zero, bd_some, bd2_some, bindv_e, chk_ok, cr_ok, crl_ok, chd_ok, chb_0, chb_1, cr_bI, chb_bI, ite_bI0, if_true, if_false]
theorem rd_bad (hk : k < 4) (hn : n ≤ 13) (hf : inR f) (hv : 0 ≤ v ∧ v < 3) (hi : i < 3 * n) (h : τ 16 k = v) (hl : 0 ≤ τ 17 k ∧ τ 17 k ≤ 40) (hb : ¬ (0 ≤ f + i ∧ f + i < τ 17 k)) : fX8_read_56 k v f n e c 0 cm i τ = c 2 cm ((i + 1 : Nat) : Int) τ := by
  have m1 := m_inL τ (v := f + i) (a := 0) (b := τ 17 k - 1) (by omega) (by omega) (by omega)
  rw [bI_f (by omega)] at m1
  simp (disch := omega) only [fX8_read_56, fX8_read_130, fX8_read_209, h, m1, if_neg, if_pos, Int.reduceAdd, Int.reduceSub, Int.reduceMul, Int.zero_add, Int.add_zero, Nat.zero_add, na_0, ca_la, ca_al, ca_lm, ca_add, ca_mod, ca_lit, tn_c, Int.natCast_zero, bd_some, bd2_some, bindv_e, chk_ok, cr_ok, crl_ok, chd_ok, chb_0, chb_1, cr_bI, chb_bI, ite_bI0, if_true, if_false]
theorem rd_go (hk : k < 4) (hn : n ≤ 13) (hf : inR f) (hv : 0 ≤ v ∧ v < 3) (hi : i < 3 * n) (h : τ 16 k = v) (hl : 0 ≤ τ 17 k ∧ τ 17 k ≤ 40) (hb : 0 ≤ f + i ∧ f + i < τ 17 k) (h3 : i % 3 ≠ 2) : fX8_read_56 k v f n e c 0 cm i τ = c 0 cm ((i + 1 : Nat) : Int) τ := by
  have m1 := m_inL τ (v := f + i) (a := 0) (b := τ 17 k - 1) (by omega) (by omega) (by omega)
  rw [bI_t (by omega)] at m1
  simp (disch := omega) only [fX8_read_56, fX8_read_130, fX8_read_209, h, m1, if_neg, if_pos, Int.reduceAdd, Int.reduceSub, Int.reduceMul, Int.zero_add, Int.add_zero, Nat.zero_add, na_0, ca_la, ca_al, ca_lm, ca_add, ca_mod, ca_lit, tn_c, Int.natCast_zero, bd_some, bd2_some, bindv_e, chk_ok, cr_ok, crl_ok, chd_ok, chb_0, chb_1, cr_bI, chb_bI, ite_bI0, if_true, if_false]
theorem rd_stop {fd : Int} {fu i : Nat} (hn : n ≤ 13) (hi : i ≤ 1000) (h : 1 ≤ fd ∧ fd ≤ 3) : itN (fun _ _ _ _ => none) (fun c => fX8_read_56 k v f n e c) (fu + 1) fd cm i τ = e fd cm τ := by
  rw [itN_s]
  by_cases z : i < 3 * n
  · simp (disch := omega) only [fX8_read_56, if_neg, if_pos, Int.reduceAdd, Int.reduceSub, Int.reduceMul, Int.zero_add, Int.add_zero, Nat.zero_add, na_0, ca_la, ca_al, ca_lm, ca_add, ca_mod, ca_lit, tn_c, Int.natCast_zero, bd_some, bd2_some, bindv_e, chk_ok, cr_ok, crl_ok, chd_ok, chb_0, chb_1, cr_bI, chb_bI, ite_bI0, if_true, if_false]
  · simp (disch := omega) only [fX8_read_56, if_neg, if_pos, Int.reduceAdd, Int.reduceSub, Int.reduceMul, Int.zero_add, Int.add_zero, Nat.zero_add, na_0, ca_la, ca_al, ca_lm, ca_add, ca_mod, ca_lit, tn_c, Int.natCast_zero, bd_some, bd2_some, bindv_e, chk_ok, cr_ok, crl_ok, chd_ok, chb_0, chb_1, cr_bI, chb_bI, ite_bI0, if_true, if_false]
end
def H2 (L0 L : Ld) (σ τ : Mm) : Prop := HALF L σ τ ∧ LDC σ 127 L0 ∧ ML τ 560 L0 ∧ LK σ L0
def RES (L0 : Ld) (e1 e2 : Int → Int → Mm → Option (Int × Mm)) (a b : Option (Int × Mm)) : Prop := (∃ fd cm σ' τ' L', HALF L' σ' τ' ∧ a = e1 fd cm σ' ∧ b = e2 fd cm τ') ∨ (∃ r σ' τ', a = some (r, σ') ∧ b = some (r, τ') ∧ InvL L0 σ' τ')
theorem read_l {k n : Nat} {v f : Int} {L0 : Ld} {e1 e2 : Int → Int → Mm → Option (Int × Mm)} (hk : k < 4) (hn : n ≤ 13) (hv : 0 ≤ v ∧ v < 3) (hf : inR f) : ∀ (d fu fv i : Nat) (σ τ : Mm) (L : Ld), n - i = d → i ≤ n → H2 L0 L σ τ → RES L0 e1 e2 (itN (fun _ _ _ _ => none) (fun c => fX7_read_58 v f n (21 + 2 * k) e1 c) (fu + d + 1) 0 i i σ) (itN (fun _ _ _ _ => none) (fun c => fX8_read_56 k v f n e2 c) (fv + 3 * d + 1) 0 i ((3 * i : Nat) : Int) τ)
  | 0, fu, fv, i, σ, τ, L, hd, hi, hH => by
    have e : i = n := by omega
    subst e
    refine Or.inl ⟨0, i, σ, τ, L, hH.1, ?_, ?_⟩
    · rw [Nat.add_zero, itN_s]
      simp (disch := omega) only [fX7_read_58, if_neg, Int.reduceAdd, Int.reduceSub, Int.reduceMul, Int.zero_add, Int.add_zero, Nat.zero_add, na_0, ca_la, ca_al, ca_lm, ca_add, ca_mod, ca_lit, tn_c, Int.natCast_zero, bd_some, bd2_some, bindv_e, chk_ok, cr_ok, crl_ok, chd_ok, chb_0, chb_1, cr_bI, chb_bI, ite_bI0, if_true, if_false]
    · rw [Nat.mul_zero, Nat.add_zero, itN_s]
      simp (disch := omega) only [fX8_read_56, if_neg, Int.reduceAdd, Int.reduceSub, Int.reduceMul, Int.zero_add, Int.add_zero, Nat.zero_add, na_0, ca_la, ca_al, ca_lm, ca_add, ca_mod, ca_lit, tn_c, Int.natCast_zero, bd_some, bd2_some, bindv_e, chk_ok, cr_ok, crl_ok, chd_ok, chb_0, chb_1, cr_bI, chb_bI, ite_bI0, if_true, if_false]
  | d + 1, fu, fv, i, σ, τ, L, hd, hi, hH => by
    have hS := hH.1.2.2.2.2.2.1 k hk
    obtain ⟨c1, c2, c3, c4⟩ := c_f3 (g := f + ((3 * i : Nat) : Int)) hS hv (by omega)
    obtain ⟨s1, s2, s3, s4, s5⟩ := id hS
    rw [show fu + (d + 1) + 1 = (fu + d + 1) + 1 by omega, show fv + 3 * (d + 1) + 1 = ((fv + 3 * d + 1) + 1 + 1) + 1 by omega, itN_s _ (fun c => fX7_read_58 v f n (21 + 2 * k) e1 c) (fu + d + 1), itN_s _ (fun c => fX8_read_56 k v f n e2 c) ((fv + 3 * d + 1) + 1 + 1)]
    by_cases y1 : τ 16 k = -4
    · have c1 := c1 y1
      refine Or.inl ⟨1, i, σ, τ, L, hH.1, ?_, ?_⟩
      · simp (disch := omega) only [fX7_read_58, c1, if_neg, if_pos, Int.reduceAdd, Int.reduceSub, Int.reduceMul, Int.zero_add, Int.add_zero, Nat.zero_add, na_0, ca_la, ca_al, ca_lm, ca_add, ca_mod, ca_lit, tn_c, Int.natCast_zero, bd_some, bd2_some, bindv_e, chk_ok, cr_ok, crl_ok, chd_ok, chb_0, chb_1, cr_bI, chb_bI, ite_bI0, if_true, if_false]
      · rw [rd_no hk hn hf (by omega) y1, rd_stop hn (by omega) (by omega)]
    by_cases y2 : ¬ τ 16 k = v
    · have c2 := c2 y1 y2
      refine Or.inl ⟨3, i, σ, τ, L, hH.1, ?_, ?_⟩
      · simp (disch := omega) only [fX7_read_58, c2, if_neg, if_pos, Int.reduceAdd, Int.reduceSub, Int.reduceMul, Int.zero_add, Int.add_zero, Nat.zero_add, na_0, ca_la, ca_al, ca_lm, ca_add, ca_mod, ca_lit, tn_c, Int.natCast_zero, bd_some, bd2_some, bindv_e, chk_ok, cr_ok, crl_ok, chd_ok, chb_0, chb_1, cr_bI, chb_bI, ite_bI0, if_true, if_false]
      · rw [rd_cast hk hn hf (by omega) (by omega) (by rcases s1 with s1 | s1 <;> omega) y1 y2, rd_stop hn (by omega) (by omega)]
    have y2 : τ 16 k = v := by omega
    by_cases y3 : f + ((3 * i : Nat) : Int) < 0 ∨ τ 17 k ≤ f + ((3 * i : Nat) : Int) + 2
    · have c3 := c3 y2 y3
      refine Or.inl ⟨2, i, σ, τ, L, hH.1, ?_, ?_⟩
      · simp (disch := omega) only [fX7_read_58, c3, if_neg, if_pos, Int.reduceAdd, Int.reduceSub, Int.reduceMul, Int.zero_add, Int.add_zero, Nat.zero_add, na_0, ca_la, ca_al, ca_lm, ca_add, ca_mod, ca_lit, tn_c, Int.natCast_zero, bd_some, bd2_some, bindv_e, chk_ok, cr_ok, crl_ok, chd_ok, chb_0, chb_1, cr_bI, chb_bI, ite_bI0, if_true, if_false]
      · by_cases x0 : 0 ≤ f + ((3 * i : Nat) : Int) ∧ f + ((3 * i : Nat) : Int) < τ 17 k
        · rw [rd_go hk hn hf hv (by omega) y2 ⟨s3, s4⟩ x0 (by omega), itN_s]
          by_cases x1 : f + ((3 * i + 1 : Nat) : Int) < τ 17 k
          · rw [rd_go hk hn hf hv (by omega) y2 ⟨s3, s4⟩ (by omega) (by omega), itN_s, rd_bad hk hn hf hv (by omega) y2 ⟨s3, s4⟩ (by omega), rd_stop hn (by omega) (by omega)]
          · rw [rd_bad hk hn hf hv (by omega) y2 ⟨s3, s4⟩ (by omega), rd_stop hn (by omega) (by omega)]
        · rw [rd_bad hk hn hf hv (by omega) y2 ⟨s3, s4⟩ x0, rd_stop hn (by omega) (by omega)]
    · have c4 := c4 y2 (by omega) (by omega)
      obtain ⟨g, hg⟩ : ∃ g : Nat, f + ((3 * i : Nat) : Int) = (g : Int) := ⟨(f + ((3 * i : Nat) : Int)).toNat, by omega⟩
      obtain ⟨p1, p2⟩ := s5 g (by omega)
      obtain ⟨q1, q2⟩ := s5 (g + 1) (by omega)
      obtain ⟨r1, r2⟩ := s5 (g + 2) (by omega)
      rw [hg] at c4
      have m1 := m_inL τ (v := f + ((3 * i + 1 + 1 : Nat) : Int)) (a := 0) (b := τ 17 k - 1) (by omega) (by omega) (by omega)
      rw [bI_t (by omega)] at m1
      have ea : ((40 * k : Nat) : Int) + (f + ((3 * i + 1 + 1 : Nat) : Int)) = ((40 * k + (g + 2) : Nat) : Int) := by omega
      have eb : ((40 * k + (g + 2) : Nat) : Int) - 2 = ((40 * k + g : Nat) : Int) := by omega
      have ec : ((40 * k + (g + 2) : Nat) : Int) - 1 = ((40 * k + (g + 1) : Nat) : Int) := by omega
      rw [rd_go hk hn hf hv (by omega) y2 ⟨s3, s4⟩ (by omega) (by omega), itN_s _ (fun c => fX8_read_56 k v f n e2 c) ((fv + 3 * d + 1) + 1), rd_go hk hn hf hv (by omega) y2 ⟨s3, s4⟩ (by omega) (by omega), itN_s _ (fun c => fX8_read_56 k v f n e2 c) (fv + 3 * d + 1)]
      rcases sh_step (p := τ 18 (40 * k + g)) (x := τ 18 (40 * k + (g + 1))) (y := τ 18 (40 * k + (g + 2))) hH.1 p2 q2 r2 with ⟨σ', τ', L', a1, a2, a3, a4, a5, a6, a7⟩ | ⟨r, hr, a1, a2⟩
      · have ih := read_l (e1 := e1) (e2 := e2) hk hn hv hf d fu fv (i + 1) σ' τ' L' (by omega) (by omega) ⟨a3, LDC_c (fun c _ _ => a5 c (by omega) (by omega)) hH.2.1, ML_c hH.2.1.1 (fun j hj => a6 _ (by omega)) hH.2.2.1, LK_g hH.2.1.1 (fun c hc => a5 c (by omega) (by omega)) hH.2.2.2⟩
        have w1 : fX7_read_58 v f n (21 + 2 * k) e1 (itN (fun _ _ _ _ => none) (fun c => fX7_read_58 v f n (21 + 2 * k) e1 c) (fu + d + 1)) 0 i i σ = itN (fun _ _ _ _ => none) (fun c => fX7_read_58 v f n (21 + 2 * k) e1 c) (fu + d + 1) 0 ((i + 1 : Nat) : Int) ((i + 1 : Nat) : Int) σ' := by
          simp (disch := omega) only [fX7_read_58, hg, c4, p1, q1, r1, a1, if_pos, Int.reduceAdd, Int.reduceSub, Int.reduceMul, Int.zero_add, Int.add_zero, Nat.zero_add, na_0, ca_la, ca_al, ca_lm, ca_add, ca_mod, ca_lit, tn_c, Int.natCast_zero, bd_some, bd2_some, bindv_e, chk_ok, cr_ok, crl_ok, chd_ok, chb_0, chb_1, cr_bI, chb_bI, ite_bI0, if_true, if_false]
        have w2 : fX8_read_56 k v f n e2 (itN (fun _ _ _ _ => none) (fun c => fX8_read_56 k v f n e2 c) (fv + 3 * d + 1)) 0 i ((3 * i + 1 + 1 : Nat) : Int) τ = itN (fun _ _ _ _ => none) (fun c => fX8_read_56 k v f n e2 c) (fv + 3 * d + 1) 0 ((i + 1 : Nat) : Int) ((3 * (i + 1) : Nat) : Int) τ' := by
          rw [show 3 * (i + 1) = 3 * i + 1 + 1 + 1 by omega]
          simp (disch := omega) only [fX8_read_56, fX8_read_130, fX8_read_209, y2, m1, ea, eb, ec, a2, if_pos, if_neg, Int.reduceAdd, Int.reduceSub, Int.reduceMul, Int.zero_add, Int.add_zero, Nat.zero_add, na_0, ca_la, ca_al, ca_lm, ca_add, ca_mod, ca_lit, tn_c, Int.natCast_zero, bd_some, bd2_some, bindv_e, chk_ok, cr_ok, crl_ok, chd_ok, chb_0, chb_1, cr_bI, chb_bI, ite_bI0, if_true, if_false]
        show RES L0 e1 e2 (fX7_read_58 v f n (21 + 2 * k) e1 (itN (fun _ _ _ _ => none) (fun c => fX7_read_58 v f n (21 + 2 * k) e1 c) (fu + d + 1)) 0 i i σ) (fX8_read_56 k v f n e2 (itN (fun _ _ _ _ => none) (fun c => fX8_read_56 k v f n e2 c) (fv + 3 * d + 1)) 0 i ((3 * i + 1 + 1 : Nat) : Int) τ)
        rw [w1, w2]
        exact ih
      · obtain ⟨σ1, b1, b2, b3⟩ := c_copyFrom (σ := σ) (k := 95) (w := 127) (by omega) hH.2.1.2.2.2.2
        obtain ⟨τ1, t1, t2, t3, t4⟩ := m_copies (τ := τ) (a := 560) (o := 0) (by omega) (by omega) (by omega)
        rw [Int.natCast_zero, show ((560 : Nat) : Int) = 560 from rfl] at t1
        refine Or.inr ⟨-20 - (i : Int), σ1, sto τ1 0 17 0, ?_, ?_, ?_⟩
        · simp (disch := omega) only [fX7_read_58, hg, c4, p1, q1, r1, a1, b1, if_pos, if_neg, Int.reduceAdd, Int.reduceSub, Int.reduceMul, Int.zero_add, Int.add_zero, Nat.zero_add, na_0, ca_la, ca_al, ca_lm, ca_add, ca_mod, ca_lit, tn_c, Int.natCast_zero, bd_some, bd2_some, bindv_e, chk_ok, cr_ok, crl_ok, chd_ok, chb_0, chb_1, cr_bI, chb_bI, ite_bI0, if_true, if_false]
        · simp (disch := omega) only [fX8_read_56, fX8_read_130, fX8_read_209, y2, m1, ea, eb, ec, a2, t1, if_pos, if_neg, Int.reduceAdd, Int.reduceSub, Int.reduceMul, Int.zero_add, Int.add_zero, Nat.zero_add, na_0, ca_la, ca_al, ca_lm, ca_add, ca_mod, ca_lit, tn_c, Int.natCast_zero, bd_some, bd2_some, bindv_e, chk_ok, cr_ok, crl_ok, chd_ok, chb_0, chb_1, cr_bI, chb_bI, ite_bI0, if_true, if_false]
        · refine ⟨LDC_cp b2 hH.2.1, LK_g hH.2.1.1 (fun c hc => b3 c (by omega)) hH.2.2.2, ML_c (σ := τ) (o := 560) hH.2.1.1 (fun j hj => by rw [sto_k (by omega)]; exact t2 j hj) hH.2.2.1, Or.inl (by rw [sto_eq]), ?_⟩
          exact RST_C (fun c hc => b3 c (by omega)) (RST_M ⟨by rw [sto_i (by omega), t4 0 (by omega)], by rw [sto_i (by omega), t4 0 (by omega)], by rw [sto_i (by omega), t4 0 (by omega)]⟩ (fun j h1 _ => by rw [sto_k (by omega), t3 j (by omega)]) (fun c hc => by rw [sto_c (by omega), t4 c (by omega)]) hH.1.2.2.2)
theorem HALF_f {L : Ld} {σ τ : Mm} {x : Int} (h : HALF L σ τ) : HALF L (sto σ 0 11 x) (sto τ 0 30 x) := by
  obtain ⟨h1, h2, h3, h4⟩ := h
  refine ⟨LDC_c (fun c _ _ => sto_c (by omega)) h1, ML_c h1.1 (fun j hj => sto_k (by omega)) h2, ?_, ?_⟩
  · unfold MK at h3 ⊢
    rw [sto_i (by omega)]
    rcases h3 with h3 | ⟨h3, h5⟩
    · exact Or.inl h3
    · exact Or.inr ⟨h3, MADE_c ⟨sto_i (by omega), sto_i (by omega)⟩ (fun c _ _ => sto_c (by omega)) h5⟩
  · obtain ⟨⟨n, t1, t2, t3, t4⟩, r2, r3, -⟩ := id h4
    refine RST_g ⟨n, t1, by rw [sto_k (by omega)]; exact t2, by rw [sto_i (by omega)]; exact t3, fun i hi => by rw [sto_k (by omega), sto_k (by omega)]; exact t4 i hi⟩ ⟨by rw [sto_i (by omega), sto_i (by omega)]; exact r2.1, by rw [sto_eq, sto_eq]⟩ (fun c hc => SHk_c (sto_c (by omega)) (sto_c (by omega)) ⟨sto_c (by omega), sto_c (by omega), sto_c (by omega)⟩ (r3 c hc)) (sto_c (by omega)) (fun c _ => sto_c (by omega)) (fun j _ _ => sto_k (by omega)) ⟨sto_c (by omega), sto_c (by omega), sto_c (by omega)⟩ h4
