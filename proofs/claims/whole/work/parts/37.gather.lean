/-! all edges; degrees -/
def fr5 (k : Nat) (σ σ' : Mm) : Prop := (∀ c, c ≠ k → c ≠ k + 6 → c ≠ k + 7 → c ≠ k + 8 → c ≠ k + 9 → σ' c = σ c) ∧ (∀ j, j ≠ 11 → σ' k j = σ k j)
theorem fr5_t {k : Nat} {a b c : Mm} (h : fr5 k a b) (g : fr5 k b c) : fr5 k a c := ⟨fun z h1 h2 h3 h4 h5 => (g.1 z h1 h2 h3 h4 h5).trans (h.1 z h1 h2 h3 h4 h5), fun j hj => (g.2 j hj).trans (h.2 j hj)⟩
theorem fr5_CL {k : Nat} {σ σ' : Mm} {L : Ld} (hf : fr5 k σ σ') (h : CL σ k L) : CL σ' k L := by
  obtain ⟨h1, h2, h3, h4, h5, h6, h7⟩ := h
  refine ⟨?_, ?_, fun p hp => ?_, fun p hp => ?_, fun p hp => ?_, fun r hr => ?_, fun r i hr hi => ?_⟩
  · rw [hf.2 9 (by omega)]; exact h1
  · rw [hf.2 10 (by omega)]; exact h2
  · rw [hf.1 _ (by omega) (by omega) (by omega) (by omega) (by omega)]; exact h3 p hp
  · rw [hf.1 _ (by omega) (by omega) (by omega) (by omega) (by omega)]; exact h4 p hp
  · rw [hf.1 _ (by omega) (by omega) (by omega) (by omega) (by omega)]; exact h5 p hp
  · rw [hf.1 _ (by omega) (by omega) (by omega) (by omega) (by omega)]; exact h6 r hr
  · rw [hf.1 _ (by omega) (by omega) (by omega) (by omega) (by omega)]; exact h7 r i hr hi
noncomputable def uP (L : Ld) (r i : Nat) : Nat → Nat → Int := fun p q => sm (fun r' => sm (fun i' => bI (isE L r' i' p q)) (L.cn r')) r + sm (fun i' => bI (isE L r i' p q)) i
theorem uP_0 (L : Ld) : uP L 0 0 = fun _ _ => 0 := by
  funext p q
  unfold uP
  simp [sumR]
theorem uP_00 (L : Ld) (p q : Nat) : uP L 0 0 p q = 0 := by rw [uP_0]
theorem uP_s (L : Ld) (r i : Nat) : uP L r (i + 1) = addU (uP L r i) (L.co r i) (cx L r i) := by
  funext p q
  unfold uP addU
  rw [sm_s, ← Int.add_assoc]
  congr 1
  apply bI_c
  unfold isE
  omega
theorem uP_r (L : Ld) (r : Nat) : uP L r (L.cn r) = uP L (r + 1) 0 := by
  funext p q
  unfold uP
  rw [sm_s (fun r' => sm (fun i' => bI (isE L r' i' p q)) (L.cn r')) r]
  simp [sumR]
theorem uP_us (L : Ld) : uP L L.nr 0 = us L := by
  funext p q
  unfold uP us
  simp [sumR]
theorem sm_nn {t : Nat → Int} {n : Nat} (h : ∀ j, j < n → 0 ≤ t j) : 0 ≤ sm t n := by
  induction n with
  | zero => simp [sumR]
  | succ n ih =>
    rw [sm_s]
    have h1 := ih (fun j hj => h j (by omega))
    have h2 := h n (by omega)
    omega
theorem uP_nn (L : Ld) (r i p q : Nat) : 0 ≤ uP L r i p q := by
  unfold uP
  have h1 := sm_nn (t := fun r' => sm (fun i' => bI (isE L r' i' p q)) (L.cn r')) (n := r) (fun j _ => sm_nn (fun z _ => (bI_b _).1))
  have h2 := sm_nn (t := fun i' => bI (isE L r i' p q)) (n := i) (fun j _ => (bI_b _).1)
  omega
theorem uP_sw (L : Ld) (r i p q : Nat) : uP L r i p q = uP L r i q p := by
  unfold uP
  rw [sm_c (fun r' _ => sm_c (fun i' _ => bI_c (isE_sw (p := p) (q := q)))), sm_c (fun i' _ => bI_c (isE_sw (p := p) (q := q)))]
theorem us_pos {L : Ld} {p q : Nat} : 0 < us L p q ↔ ∃ r i, r < L.nr ∧ i < L.cn r ∧ isE L r i p q := by
  unfold us
  rw [sm_pos (fun r _ => sm_nn (fun z _ => (bI_b _).1))]
  constructor
  · rintro ⟨r, hr, h⟩
    obtain ⟨i, hi, h2⟩ := (sm_pos (fun z _ => (bI_b _).1)).mp h
    refine ⟨r, i, hr, hi, ?_⟩
    by_cases w : isE L r i p q
    · exact w
    · rw [bI_f w] at h2; omega
  · rintro ⟨r, i, hr, hi, h⟩
    refine ⟨r, hr, (sm_pos (fun z _ => (bI_b _).1)).mpr ⟨i, hi, ?_⟩⟩
    rw [bI_t h]; decide
noncomputable def dg (L : Ld) (p : Nat) : Int := dgU (us L) L.np p
def EDG (σ : Mm) (k : Nat) (L : Ld) : Prop := ∃ ne A B, GI σ k L.np ne A B (us L)
theorem GI_GE {σ : Mm} {L : Ld} {k ne : Nat} {A B : Nat → Nat} (hw : WF L) (h : GI σ k L.np ne A B (us L)) : GE L ne A B := by
  obtain ⟨-, -, -, h0, hX, hD, -⟩ := h
  refine ⟨fun e he => ?_, fun r i hr hi => ?_, fun e e' h1 h2 h3 => hD e e' h1 h2 h3⟩
  · exact us_pos.mp (h0 e he)
  · obtain ⟨e, he, hp⟩ := hX (L.co r i) (cx L r i) (hw.2.2.2.1 r i hr hi) (cx_lt hw hr) (us_pos.mpr ⟨r, i, hr, hi, Or.inl ⟨rfl, rfl⟩⟩)
    refine ⟨e, he, ?_⟩
    unfold isE
    omega
theorem co_ne {L : Ld} (hw : WF L) {r i : Nat} (hr : r < L.nr) (hi : i < L.cn r) : L.co r i ≠ cx L r i := by
  have h3 := hw.2.2.1 r hr
  intro h
  have hm : (i + 1) % L.cn r < L.cn r := Nat.mod_lt _ (by omega)
  have e := hw.2.2.2.2.1 r i ((i + 1) % L.cn r) hr hi hm h
  by_cases w : i + 1 < L.cn r
  · rw [Nat.mod_eq_of_lt w] at e; omega
  · rw [show i + 1 = L.cn r by omega, Nat.mod_self] at e; omega
theorem c_gatherEdges {σ : Mm} {L : Ld} {k : Nat} (hw : WF L) (h : CL σ k L) : ∃ σ', fX1_gatherEdges k σ = some σ' ∧ EDG σ' k L ∧ fr5 k σ σ' := by
  have hnp := hw.1
  have hnr := hw.2.1
  -- degrees to 0
  obtain ⟨σ1, ⟨i1, i2, i3⟩, e1⟩ := it_inv0 (f := fun c => fX1_gatherEdges_7 k (fun s => fX1_gatherEdges_26 k s) c) 24 (fun n s => fr5 k σ s ∧ s k 11 = 0 ∧ ∀ p, p < n → s (k + 9) p = 0) (fun s => fX1_gatherEdges_26 k s) (sto σ k 11 0) (by omega) ⟨⟨fun c h1 h2 h3 h4 h5 => sto_c h1, fun j hj => sto_i hj⟩, sto_eq _ _ _ _, fun p hp => by omega⟩ (fun c i s hi hI => by
    obtain ⟨q1, q2, q3⟩ := hI
    refine ⟨sto s (k + 9) i 0, ⟨⟨fun c h1 h2 h3 h4 h5 => ?_, fun j hj => ?_⟩, ?_, fun p hp => ?_⟩, ?_⟩
    · rw [sto_c h5]; exact q1.1 c h1 h2 h3 h4 h5
    · rw [sto_k (by omega)]; exact q1.2 j hj
    · rw [sto_k (by omega)]; exact q2
    · rw [sto_at]
      split
      · rfl
      · exact q3 p (by omega)
    · simp (disch := omega) only [fX1_gatherEdges_7, if_pos, Int.reduceAdd, Int.reduceSub, Int.reduceMul, Int.zero_add, Int.add_zero, Nat.zero_add, na_0, ca_la, ca_al, ca_lm, ca_add, ca_mod, ca_lit, tn_c, Int.natCast_zero, bd_some, bd2_some, bindv_e, chk_ok, cr_ok, crl_ok, chd_ok, chb_0, chb_1, cr_bI, chb_bI, ite_bI0, if_true, if_false]) (fun c s hI => by
    simp (disch := omega) only [fX1_gatherEdges_7, if_neg, Int.reduceAdd, Int.reduceSub, Int.reduceMul, Int.zero_add, Int.add_zero, Nat.zero_add, na_0, ca_la, ca_al, ca_lm, ca_add, ca_mod, ca_lit, tn_c, Int.natCast_zero, bd_some, bd2_some, bindv_e, chk_ok, cr_ok, crl_ok, chd_ok, chb_0, chb_1, cr_bI, chb_bI, ite_bI0, if_true, if_false])
  -- rings
  have inner : ∀ (e : Mm → Option Mm) (r : Nat) (s : Mm), r < L.nr → fr5 k σ s → (∃ ne A B, GI s k L.np ne A B (uP L r 0) ∧ ne ≤ 10 * r) → ∃ s', (fr5 k σ s' ∧ ∃ ne A B, GI s' k L.np ne A B (uP L r (L.cn r)) ∧ ne ≤ 10 * r + L.cn r) ∧ lX1_gatherEdges_38 k r e 400 0 s = e s' := by
    intro e r s hr hfs hG
    have h3 := hw.2.2.1 r hr
    simp only [lX1_gatherEdges_38]
    refine it_inv0 (f := fun c => fX1_gatherEdges_38 k r e c) (L.cn r) (fun i s => fr5 k σ s ∧ ∃ ne A B, GI s k L.np ne A B (uP L r i) ∧ ne ≤ 10 * r + i) e s (by omega) ⟨hfs, hG⟩ (fun c i s hi hI => ?_) (fun c s hI => ?_)
    · obtain ⟨q1, ne, A, B, q2, q3⟩ := hI
      have hC := fr5_CL q1 h
      obtain ⟨-, -, -, -, -, hCn, hCo⟩ := id hC
      have hm : (i + 1) % L.cn r < L.cn r := Nat.mod_lt _ (by omega)
      have e1 := c_following s hi (by omega)
      have c1 := hCo r i hr hi
      have c2 := hCo r ((i + 1) % L.cn r) hr hm
      obtain ⟨s', ne', A', B', n1, n2, n3, n4⟩ := c_noteEdge (a := L.co r i) (b := cx L r i) hnp q2 (uP_nn L r i) (uP_sw L r i) (hw.2.2.2.1 r i hr hi) (cx_lt hw hr) (co_ne hw hr hi) (by omega)
      refine ⟨s', ⟨fr5_t q1 n4, ne', A', B', ?_, by omega⟩, ?_⟩
      · rw [uP_s]; exact n2
      · simp (disch := omega) only [fX1_gatherEdges_38, hCn, e1, c1, c2, n1, if_pos, Int.reduceAdd, Int.reduceSub, Int.reduceMul, Int.zero_add, Int.add_zero, Nat.zero_add, na_0, ca_la, ca_al, ca_lm, ca_add, ca_mod, ca_lit, tn_c, Int.natCast_zero, bd_some, bd2_some, bindv_e, chk_ok, cr_ok, crl_ok, chd_ok, chb_0, chb_1, cr_bI, chb_bI, ite_bI0, if_true, if_false]
    · obtain ⟨q1, -⟩ := hI
      obtain ⟨-, -, -, -, -, hCn, -⟩ := fr5_CL q1 h
      simp (disch := omega) only [fX1_gatherEdges_38, hCn, if_neg, Int.reduceAdd, Int.reduceSub, Int.reduceMul, Int.zero_add, Int.add_zero, Nat.zero_add, na_0, ca_la, ca_al, ca_lm, ca_add, ca_mod, ca_lit, tn_c, Int.natCast_zero, bd_some, bd2_some, bindv_e, chk_ok, cr_ok, crl_ok, chd_ok, chb_0, chb_1, cr_bI, chb_bI, ite_bI0, if_true, if_false]
  obtain ⟨σ2, ⟨j1, ne, A, B, j2, j3⟩, e2⟩ := it_inv0 (f := fun c => fX1_gatherEdges_28 k (fun s => fX1_gatherEdges_89 k s) c) L.nr (fun r s => fr5 k σ s ∧ ∃ ne A B, GI s k L.np ne A B (uP L r 0) ∧ ne ≤ 10 * r) (fun s => some s) σ1 (by omega) ⟨i1, 0, fun _ => 0, fun _ => 0, ⟨⟨by rw [i2]; rfl, by omega, fun e he => by omega, fun e he => by omega, fun e he => by omega, fun e he => by omega⟩, fun e he => by omega, fun e he => by omega, fun e he => by omega, fun p q h1 h2 h3 => by rw [uP_00] at h3; omega, fun e e' he => by omega, fun p hp => by
      rw [i3 p (by omega)]
      unfold dgU
      rw [sm_0]
      intro q _
      rw [uP_00]
      exact bI_f (fun z => by have := z.2; omega), by
      rw [sm_0]
      · rfl
      · intro p _
        unfold dgU
        rw [sm_0]
        intro q _
        rw [uP_00]
        exact bI_f (fun z => by have := z.2; omega)⟩, by omega⟩ (fun c r s hr hI => by
    obtain ⟨q1, q2⟩ := hI
    have hC := fr5_CL q1 h
    obtain ⟨-, hN, -⟩ := id hC
    have h3 := hw.2.2.1 r hr
    obtain ⟨s', ⟨k1, ne, A, B, k2, k3⟩, k4⟩ := inner (fun s => fX1_gatherEdges_83 k c r s) r s hr q1 q2
    refine ⟨s', ⟨k1, ne, A, B, by rw [← uP_r]; exact k2, by omega⟩, ?_⟩
    have e1 : fX1_gatherEdges_28 k (fun s => fX1_gatherEdges_89 k s) c (r : Int) s = fX1_gatherEdges_83 k c r s' := by
      rw [← k4]
      simp (disch := omega) only [fX1_gatherEdges_28, hN, if_pos, Int.reduceAdd, Int.reduceSub, Int.reduceMul, Int.zero_add, Int.add_zero, Nat.zero_add, na_0, ca_la, ca_al, ca_lm, ca_add, ca_mod, ca_lit, tn_c, Int.natCast_zero, bd_some, bd2_some, bindv_e, chk_ok, cr_ok, crl_ok, chd_ok, chb_0, chb_1, cr_bI, chb_bI, ite_bI0, if_true, if_false]
    show fX1_gatherEdges_28 k (fun s => fX1_gatherEdges_89 k s) c (r : Int) s = _
    rw [e1]
    simp (disch := omega) only [fX1_gatherEdges_83, Int.reduceAdd, Int.reduceSub, Int.reduceMul, Int.zero_add, Int.add_zero, Nat.zero_add, na_0, ca_la, ca_al, ca_lm, ca_add, ca_mod, ca_lit, tn_c, Int.natCast_zero, bd_some, bd2_some, bindv_e, chk_ok, cr_ok, crl_ok, chd_ok, chb_0, chb_1, cr_bI, chb_bI, ite_bI0, if_true, if_false]) (fun c s hI => by
    obtain ⟨q1, -⟩ := hI
    obtain ⟨-, hN, -⟩ := fr5_CL q1 h
    simp (disch := omega) only [fX1_gatherEdges_28, fX1_gatherEdges_89, hN, if_neg, Int.reduceAdd, Int.reduceSub, Int.reduceMul, Int.zero_add, Int.add_zero, Nat.zero_add, na_0, ca_la, ca_al, ca_lm, ca_add, ca_mod, ca_lit, tn_c, Int.natCast_zero, bd_some, bd2_some, bindv_e, chk_ok, cr_ok, crl_ok, chd_ok, chb_0, chb_1, cr_bI, chb_bI, ite_bI0, if_true, if_false])
  refine ⟨σ2, ?_, ⟨ne, A, B, by rw [← uP_us]; exact j2⟩, j1⟩
  simp only [fX1_gatherEdges, lX1_gatherEdges_7, bindv_e]
  rw [e1]
  simp only [fX1_gatherEdges_26, lX1_gatherEdges_28, bindv_e]
  rw [e2]
theorem dg_b {L : Ld} (hw : WF L) (p : Nat) : 0 ≤ dg L p ∧ dg L p ≤ 24 := by
  have h := sm_b (t := fun q => bI (q ≠ p ∧ 0 < us L p q)) (a := 0) (b := 1) (n := L.np) (fun j _ => bI_b _)
  have hn := hw.1
  unfold dg dgU
  omega
theorem m_degreeOf {σ : Mm} {L : Ld} {p : Nat} (hw : WF L) (h : ML σ 0 L) (hp : p < L.np) : fX8_degreeOf (p : Int) σ = some (dg L p) := by
  have hn := hw.1
  have e1 := m_points h
  have key := it_sum0 (f := fun c => fX8_degreeOf_4 p σ (fun v => fX8_degreeOf_41 v σ) c) L.np (fun q => bI (q ≠ p ∧ 0 < us L p q)) (fun v => some v) 0 (by omega) (fun c a q hq => by
    have e2 := m_edgesOf (o := 0) (p := p) (q := q) (by omega) hw h (by omega) (by omega)
    rw [show ((0 : Nat) : Int) = 0 from rfl] at e2
    have e3 := us_b hw p q
    simp (disch := omega) only [fX8_degreeOf_4, fX8_degreeOf_32, fX8_degreeOf_33, e1, e2, if_pos, Int.reduceAdd, Int.reduceSub, Int.reduceMul, Int.zero_add, Int.add_zero, Nat.zero_add, na_0, ca_la, ca_al, ca_lm, ca_add, ca_mod, ca_lit, tn_c, Int.natCast_zero, bd_some, bd2_some, bindv_e, chk_ok, cr_ok, crl_ok, chd_ok, chb_0, chb_1, cr_bI, chb_bI, ite_bI0, if_true, if_false]
    by_cases w : q = p
    · rw [if_pos (by omega), bI_f (fun z => z.1 w), Int.add_zero]
    · rw [if_neg (by omega)]
      by_cases w2 : 0 < us L p q
      · rw [if_pos w2, bI_t ⟨w, w2⟩]
      · rw [if_neg w2, bI_f (fun z => w2 z.2), Int.add_zero]) (fun c a => by
    simp (disch := omega) only [fX8_degreeOf_4, fX8_degreeOf_41, e1, if_neg, Int.reduceAdd, Int.reduceSub, Int.reduceMul, Int.zero_add, Int.add_zero, Nat.zero_add, na_0, ca_la, ca_al, ca_lm, ca_add, ca_mod, ca_lit, tn_c, Int.natCast_zero, bd_some, bd2_some, bindv_e, chk_ok, cr_ok, crl_ok, chd_ok, chb_0, chb_1, cr_bI, chb_bI, ite_bI0, if_true, if_false])
  rw [Int.zero_add] at key
  simp only [fX8_degreeOf, lX8_degreeOf_4, bindv_e]
  exact key
def ND (L : Ld) (p : Nat) : Prop := L.P p = 1 ∨ dg L p ≠ 2
theorem c_isNode {σ : Mm} {L : Ld} {k p : Nat} (hw : WF L) (h : CL σ k L) (hE : EDG σ k L) (hp : p < L.np) : fX1_isNode k p σ = some (bI (ND L p)) := by
  have hn := hw.1
  obtain ⟨ne, A, B, -, -, -, -, -, -, hD, -⟩ := hE
  obtain ⟨-, -, -, -, hPn, -⟩ := h
  have d1 : σ (k + 9) p = dg L p := hD p hp
  have d2 := dg_b hw p
  have d3 := hw.2.2.2.2.2.2.2 p hp
  have d4 := hPn p hp
  unfold ND
  simp (disch := omega) only [fX1_isNode, fX1_isNode_19, fX1_isNode_24, d1, d4, Int.reduceAdd, Int.reduceSub, Int.reduceMul, Int.zero_add, Int.add_zero, Nat.zero_add, na_0, ca_la, ca_al, ca_lm, ca_add, ca_mod, ca_lit, tn_c, Int.natCast_zero, bd_some, bd2_some, bindv_e, chk_ok, cr_ok, crl_ok, chd_ok, chb_0, chb_1, cr_bI, chb_bI, ite_bI0, if_true, if_false]
  repeat' split
  all_goals first | (rw [bI_t (by omega)]; done) | rw [bI_f (by omega)]
