/-! the reference's arcs -/
theorem it_stop1 {β : Type} {f : (Int → Option β) → Int → Option β} (N : Nat) (I : Nat → Prop) (D : Option β → Prop) (hs : ∀ (c : Int → Option β) (i : Nat), i ≤ N → I i → D (f c (i : Int)) ∨ (i < N ∧ I (i + 1) ∧ f c (i : Int) = c ((i + 1 : Nat) : Int))) : ∀ (fu i : Nat), i ≤ N → N - i < fu → I i → D (itN (fun _ => none) f fu (i : Int))
  | 0, i, _, h, _ => by omega
  | fu + 1, i, h1, h2, hi => by
    rw [itN_s]
    rcases hs (itN (fun _ => none) f fu) i h1 hi with h3 | ⟨h3, h4, h5⟩
    · exact h3
    · rw [h5]
      exact it_stop1 N I D hs fu (i + 1) (by omega) (by omega) h4
def MA (σ : Mm) (as : List Ac) : Prop := σ 0 24 = (as.length : Int) ∧ (∀ x, x < as.length → σ 10 x = ((ag as x).1 : Int)) ∧ (∀ x, x < as.length → σ 11 x = ((ag as x).2.1 : Int)) ∧ (∀ x, x < as.length → σ 12 x = ((ag as x).2.2.1 : Int)) ∧ (∀ x, x < as.length → σ 13 x = bI ((ag as x).2.2.2 = true))
theorem m_corner0 {σ : Mm} {L : Ld} {r i : Nat} (hw : WF L) (h : ML σ 0 L) (hr : r < L.nr) (hi : i < 1000) : fX8_cornerOf 0 r i σ = some (L.co r (i % L.cn r) : Int) := m_cornerOf (o := 0) (by omega) hw h hr hi
theorem m_arcPoint {σ : Mm} {L : Ld} {as : List Ac} {x j : Nat} (hw : WF L) (h : ML σ 0 L) (hM : MA σ as) (hA : AOK L as) (hl : as.length ≤ 60) (hx : x < as.length) (hj : j < 100) : fX8_arcPoint x j σ = some (pt L (ag as x) j : Int) := by
  obtain ⟨r, i, hr, hi, hR⟩ := hA _ (ag_mem hx)
  obtain ⟨h0, h1, -⟩ := ARC_sh hw hr hi hR
  have h3 := hw.2.2.1 r hr
  have a1 := hM.2.1 x hx
  have a2 := hM.2.2.1 x hx
  rw [h0] at a1
  have e1 := m_corner0 (r := r) (i := (ag as x).2.1 + j) hw h hr (by omega)
  have e2 : pt L (ag as x) j = L.co r (((ag as x).2.1 + j) % L.cn r) := by unfold pt; rw [h0]
  rw [e2]
  simp (disch := omega) only [fX8_arcPoint, a1, a2, e1, Int.reduceAdd, Int.reduceSub, Int.reduceMul, Int.zero_add, Int.add_zero, Nat.zero_add, na_0, ca_la, ca_al, ca_lm, ca_add, ca_mod, ca_lit, tn_c, Int.natCast_zero, bd_some, bd2_some, bindv_e, chk_ok, cr_ok, crl_ok, chd_ok, chb_0, chb_1, cr_bI, chb_bI, ite_bI0, if_true, if_false]
theorem m_isInArc {σ : Mm} {L : Ld} {as : List Ac} {p q : Nat} (hw : WF L) (h : ML σ 0 L) (hM : MA σ as) (hA : AOK L as) (hl : as.length ≤ 60) (hp : p < 1000) (hq : q < 1000) : fX8_isInArc p q σ = some (bI (TK L as p q)) := by
  have hnp := hw.1
  have inner : ∀ (e : Option Int) (x : Nat), x < as.length → lX8_isInArc_41 p q x ((eN (ag as x) : Nat) : Int) σ e 400 0 = pI (∃ j, j < eN (ag as x) ∧ ((pt L (ag as x) j = p ∧ pt L (ag as x) (j + 1) = q) ∨ (pt L (ag as x) j = q ∧ pt L (ag as x) (j + 1) = p))) (some 1) e := by
    intro e x hx
    obtain ⟨r, i, hr, hi, hR⟩ := hA _ (ag_mem hx)
    obtain ⟨h0, h1, -, -, -, h2, -⟩ := ARC_sh hw hr hi hR
    have h3 := hw.2.2.1 r hr
    unfold lX8_isInArc_41
    refine it_ex0 (eN (ag as x)) _ (some 1) e (by omega) (fun c j hj => ?_) (fun c => ?_)
    · have e1 := m_arcPoint (j := j) hw h hM hA hl hx (by omega)
      have e2 := m_arcPoint (j := j + 1) hw h hM hA hl hx (by omega)
      have l1 : pt L (ag as x) j < L.np := by unfold pt; rw [h0]; exact hw.2.2.2.1 r _ hr (Nat.mod_lt _ (by omega))
      have l2 : pt L (ag as x) (j + 1) < L.np := by unfold pt; rw [h0]; exact hw.2.2.2.1 r _ hr (Nat.mod_lt _ (by omega))
      simp (disch := omega) only [fX8_isInArc_41, fX8_isInArc_80, fX8_isInArc_92, fX8_isInArc_94, e1, e2, if_pos, Int.reduceAdd, Int.reduceSub, Int.reduceMul, Int.zero_add, Int.add_zero, Nat.zero_add, na_0, ca_la, ca_al, ca_lm, ca_add, ca_mod, ca_lit, tn_c, Int.natCast_zero, bd_some, bd2_some, bindv_e, chk_ok, cr_ok, crl_ok, chd_ok, chb_0, chb_1, cr_bI, chb_bI, ite_bI0, if_true, if_false]
      repeat' split
      all_goals first | (rw [pI_t (by omega)]; done) | rw [pI_f (by omega)]
    · simp (disch := omega) only [fX8_isInArc_41, if_neg, Int.reduceAdd, Int.reduceSub, Int.reduceMul, Int.zero_add, Int.add_zero, Nat.zero_add, na_0, ca_la, ca_al, ca_lm, ca_add, ca_mod, ca_lit, tn_c, Int.natCast_zero, bd_some, bd2_some, bindv_e, chk_ok, cr_ok, crl_ok, chd_ok, chb_0, chb_1, cr_bI, chb_bI, ite_bI0, if_true, if_false]
  have c0 := hM.1
  have key := it_ex0 (f := fun c => fX8_isInArc_2 p q σ (fX8_isInArc_106 σ) c) as.length (fun x => ∃ j, j < eN (ag as x) ∧ ((pt L (ag as x) j = p ∧ pt L (ag as x) (j + 1) = q) ∨ (pt L (ag as x) j = q ∧ pt L (ag as x) (j + 1) = p))) (some 1) (some 0) (by omega) (fun c x hx => by
    obtain ⟨r, i, hr, hi, hR⟩ := hA _ (ag_mem hx)
    obtain ⟨h0, h1, h4, -, -, h2, -⟩ := ARC_sh hw hr hi hR
    have h3 := hw.2.2.1 r hr
    have a3 := hM.2.2.2.1 x hx
    have a4 := hM.2.2.2.2 x hx
    have k1 := inner (fX8_isInArc_100 c p q x σ) x hx
    have base : fX8_isInArc_2 p q σ (fX8_isInArc_106 σ) c (x : Int) = lX8_isInArc_41 p q x ((eN (ag as x) : Nat) : Int) σ (fX8_isInArc_100 c p q x σ) 400 0 := by
      by_cases w : (ag as x).2.2.2 = true
      · have e : eN (ag as x) = (ag as x).2.2.1 := by unfold eN; rw [w]; rfl
        rw [bI_t w] at a4
        rw [e]
        simp (disch := omega) only [fX8_isInArc_2, fX8_isInArc_36, c0, a3, a4, if_pos, if_neg, Int.reduceAdd, Int.reduceSub, Int.reduceMul, Int.zero_add, Int.add_zero, Nat.zero_add, na_0, ca_la, ca_al, ca_lm, ca_add, ca_mod, ca_lit, tn_c, Int.natCast_zero, bd_some, bd2_some, bindv_e, chk_ok, cr_ok, crl_ok, chd_ok, chb_0, chb_1, cr_bI, chb_bI, ite_bI0, if_true, if_false]
      · have e : eN (ag as x) = (ag as x).2.2.1 - 1 := by
          unfold eN
          rw [Bool.not_eq_true] at w
          rw [w]; rfl
        rw [bI_f w] at a4
        have ez : ((ag as x).2.2.1 : Int) - 1 = (((ag as x).2.2.1 - 1 : Nat) : Int) := by omega
        rw [e]
        simp (disch := omega) only [fX8_isInArc_2, fX8_isInArc_36, c0, a3, a4, ez, if_pos, Int.reduceAdd, Int.reduceSub, Int.reduceMul, Int.zero_add, Int.add_zero, Nat.zero_add, na_0, ca_la, ca_al, ca_lm, ca_add, ca_mod, ca_lit, tn_c, Int.natCast_zero, bd_some, bd2_some, bindv_e, chk_ok, cr_ok, crl_ok, chd_ok, chb_0, chb_1, cr_bI, chb_bI, ite_bI0, if_true, if_false]
    show fX8_isInArc_2 p q σ (fX8_isInArc_106 σ) c (x : Int) = _
    rw [base, k1]
    simp (disch := omega) only [fX8_isInArc_100, Int.reduceAdd, Int.reduceSub, Int.reduceMul, Int.zero_add, Int.add_zero, Nat.zero_add, na_0, ca_la, ca_al, ca_lm, ca_add, ca_mod, ca_lit, tn_c, Int.natCast_zero, bd_some, bd2_some, bindv_e, chk_ok, cr_ok, crl_ok, chd_ok, chb_0, chb_1, cr_bI, chb_bI, ite_bI0, if_true, if_false]) (fun c => by
    simp (disch := omega) only [fX8_isInArc_2, fX8_isInArc_106, c0, if_neg, Int.reduceAdd, Int.reduceSub, Int.reduceMul, Int.zero_add, Int.add_zero, Nat.zero_add, na_0, ca_la, ca_al, ca_lm, ca_add, ca_mod, ca_lit, tn_c, Int.natCast_zero, bd_some, bd2_some, bindv_e, chk_ok, cr_ok, crl_ok, chd_ok, chb_0, chb_1, cr_bI, chb_bI, ite_bI0, if_true, if_false])
  unfold fX8_isInArc
  rw [bindv_e]
  unfold lX8_isInArc_2
  rw [key, pI_some]
  apply ob_c
  constructor
  · rintro ⟨x, hx, t⟩; exact ⟨_, ag_mem hx, t⟩
  · rintro ⟨a, ha, t⟩
    obtain ⟨x, hx, he⟩ := mem_ag ha
    exact ⟨x, hx, by rw [he]; exact t⟩
/-- a new arc into the reference's rows -/
def putA (σ : Mm) (x0 : Nat) (r f m : Nat) (c : Int) : Mm := sto (sto (sto (sto (sto σ 10 x0 (r : Int)) 13 x0 c) 11 x0 (f : Int)) 12 x0 (m : Int)) 0 24 ((x0 : Int) + 1)
theorem putA_MA {σ : Mm} {as : List Ac} {r f m : Nat} {c : Bool} (h : MA σ as) : MA (putA σ as.length r f m (bI (c = true))) (as ++ [(r, f, m, c)]) := by
  obtain ⟨h0, h1, h2, h3, h4⟩ := h
  have hl : (as ++ [((r, f, m, c) : Ac)]).length = as.length + 1 := by rw [List.length_append, List.length_singleton]
  unfold putA
  refine ⟨?_, fun x hx => ?_, fun x hx => ?_, fun x hx => ?_, fun x hx => ?_⟩
  · rw [sto_eq, hl]; rfl
  · rw [hl] at hx
    rw [sto_k (by omega), sto_k (by omega), sto_k (by omega), sto_k (by omega), sto_at]
    by_cases w : x < as.length
    · rw [if_neg (by omega), ag_l w]; exact h1 x w
    · rw [if_pos ⟨rfl, by omega⟩, show x = as.length by omega, ag_r]
  · rw [hl] at hx
    rw [sto_k (by omega), sto_k (by omega), sto_at]
    by_cases w : x < as.length
    · rw [if_neg (by omega), ag_l w, sto_k (by omega), sto_k (by omega)]; exact h2 x w
    · rw [if_pos ⟨rfl, by omega⟩, show x = as.length by omega, ag_r]
  · rw [hl] at hx
    rw [sto_k (by omega), sto_at]
    by_cases w : x < as.length
    · rw [if_neg (by omega), ag_l w, sto_k (by omega), sto_k (by omega), sto_k (by omega)]; exact h3 x w
    · rw [if_pos ⟨rfl, by omega⟩, show x = as.length by omega, ag_r]
  · rw [hl] at hx
    rw [sto_k (by omega), sto_k (by omega), sto_k (by omega), sto_at]
    by_cases w : x < as.length
    · rw [if_neg (by omega), ag_l w, sto_k (by omega)]; exact h4 x w
    · rw [if_pos ⟨rfl, by omega⟩, show x = as.length by omega, ag_r]
theorem putA_fr (σ : Mm) (x0 r f m : Nat) (c : Int) : (∀ k, k ≠ 0 → (k < 10 ∨ 13 < k) → putA σ x0 r f m c k = σ k) ∧ (∀ j, j ≠ 24 → putA σ x0 r f m c 0 j = σ 0 j) := by
  unfold putA
  refine ⟨fun k h1 h2 => ?_, fun j hj => ?_⟩
  · rw [sto_c h1, sto_c (by omega), sto_c (by omega), sto_c (by omega), sto_c (by omega)]
  · rw [sto_i hj, sto_k (by omega), sto_k (by omega), sto_k (by omega), sto_k (by omega)]
theorem m_back {σ : Mm} {L : Ld} {r i : Nat} {e : Int → Int → Option Mm} (hw : WF L) (h : ML σ 0 L) (hD : DG σ L) (hr : r < L.nr) (hi : i < L.cn r) : (∃ b, b < L.cn r ∧ ND L (L.co r ((i + L.cn r - b) % L.cn r)) ∧ (∀ z, z < b → ¬ ND L (L.co r ((i + L.cn r - z) % L.cn r))) ∧ lX8_arcOf_17 r (L.cn r) σ e 400 i 0 = e (((i + L.cn r - b) % L.cn r : Nat) : Int) b) ∨ ((∀ j, j < L.cn r → ¬ ND L (L.co r j)) ∧ ∃ f : Nat, f < L.cn r ∧ lX8_arcOf_17 r (L.cn r) σ e 400 i 0 = e f (L.cn r)) := by
  have hnp := hw.1
  have hnr := hw.2.1
  have h3 := hw.2.2.1 r hr
  have key := it_stop2 (f := fun c => fX8_arcOf_17 r (L.cn r) σ e c) (L.cn r) (fun b v => v = (((i + L.cn r - b) % L.cn r : Nat) : Int) ∧ ∀ z, z < b → ¬ ND L (L.co r ((i + L.cn r - z) % L.cn r))) (fun o => (∃ b, b < L.cn r ∧ ND L (L.co r ((i + L.cn r - b) % L.cn r)) ∧ (∀ z, z < b → ¬ ND L (L.co r ((i + L.cn r - z) % L.cn r))) ∧ o = e (((i + L.cn r - b) % L.cn r : Nat) : Int) b) ∨ ((∀ j, j < L.cn r → ¬ ND L (L.co r j)) ∧ ∃ f : Nat, f < L.cn r ∧ o = e f (L.cn r))) (fun c b v hb hI => by
    obtain ⟨q1, q2⟩ := hI
    subst q1
    have hm : (i + L.cn r - b) % L.cn r < L.cn r := Nat.mod_lt _ (by omega)
    by_cases e0 : b = L.cn r
    · left
      right
      refine ⟨fun j hj => ?_, _, hm, ?_⟩
      · obtain ⟨z, z1, z2⟩ := md_cov (show 0 < L.cn r by omega) hi hj
        rw [← z2]; exact q2 z (by omega)
      · rw [e0]
        simp (disch := omega) only [fX8_arcOf_17, if_neg, Int.reduceAdd, Int.reduceSub, Int.reduceMul, Int.zero_add, Int.add_zero, Nat.zero_add, na_0, ca_la, ca_al, ca_lm, ca_add, ca_mod, ca_lit, tn_c, Int.natCast_zero, bd_some, bd2_some, bindv_e, chk_ok, cr_ok, crl_ok, chd_ok, chb_0, chb_1, cr_bI, chb_bI, ite_bI0, if_true, if_false]
    · have c2 := m_corner0 (r := r) (i := (i + L.cn r - b) % L.cn r) hw h hr (by omega)
      rw [Nat.mod_mod] at c2
      have n1 := m_isNode hw h hD (hw.2.2.2.1 r _ hr hm)
      by_cases w : ND L (L.co r ((i + L.cn r - b) % L.cn r))
      · left
        left
        refine ⟨b, by omega, w, q2, ?_⟩
        simp (disch := omega) only [fX8_arcOf_17, c2, n1, if_pos, Int.reduceAdd, Int.reduceSub, Int.reduceMul, Int.zero_add, Int.add_zero, Nat.zero_add, na_0, ca_la, ca_al, ca_lm, ca_add, ca_mod, ca_lit, tn_c, Int.natCast_zero, bd_some, bd2_some, bindv_e, chk_ok, cr_ok, crl_ok, chd_ok, chb_0, chb_1, cr_bI, chb_bI, ite_bI0, if_true, if_false]
        rw [pI_t w]
      · right
        refine ⟨by omega, _, ⟨rfl, lt_s1 q2 w⟩, ?_⟩
        have ez : ((((i + L.cn r - b) % L.cn r : Nat) : Int) + (L.cn r : Int)) - 1 = (((i + L.cn r - b) % L.cn r + L.cn r - 1 : Nat) : Int) := by omega
        simp (disch := omega) only [fX8_arcOf_17, c2, n1, ez, if_pos, cr_ok, cr_bI, ite_bI0, bd_some, bindv_e, chd_ok, ca_mod, ca_al]
        rw [pI_f w, md_p (by omega) hi (by omega)]) 400 0 (i : Int) (Nat.zero_le _) (by omega) ⟨by rw [Nat.sub_zero, Nat.add_mod_right, Nat.mod_eq_of_lt hi], fun z hz => by omega⟩
  rw [show ((0 : Nat) : Int) = 0 from rfl] at key
  unfold lX8_arcOf_17
  exact key
theorem m_fwd {σ : Mm} {L : Ld} {r f : Nat} {b : Nat} {e : Int → Option Mm} (hw : WF L) (h : ML σ 0 L) (hD : DG σ L) (hr : r < L.nr) (hf : f < L.cn r) (hb : b < L.cn r) (hN : ND L (L.co r f)) : ∃ k, 1 ≤ k ∧ k ≤ L.cn r ∧ ND L (L.co r ((f + k) % L.cn r)) ∧ (∀ j, 1 ≤ j → j < k → ¬ ND L (L.co r ((f + j) % L.cn r))) ∧ lX8_arcOf_108 r (L.cn r) f b σ e 400 1 = e k := by
  have hnp := hw.1
  have h3 := hw.2.2.1 r hr
  have key := it_stop1 (f := fun c => fX8_arcOf_108 r (L.cn r) f b σ e c) (L.cn r) (fun k => 1 ≤ k ∧ ∀ j, 1 ≤ j → j < k → ¬ ND L (L.co r ((f + j) % L.cn r))) (fun o => ∃ k, 1 ≤ k ∧ k ≤ L.cn r ∧ ND L (L.co r ((f + k) % L.cn r)) ∧ (∀ j, 1 ≤ j → j < k → ¬ ND L (L.co r ((f + j) % L.cn r))) ∧ o = e k) (fun c k hk hI => by
    have hm : (f + k) % L.cn r < L.cn r := Nat.mod_lt _ (by omega)
    have c2 := m_corner0 (r := r) (i := f + k) hw h hr (by omega)
    have n1 := m_isNode hw h hD (hw.2.2.2.1 r _ hr hm)
    by_cases w : ND L (L.co r ((f + k) % L.cn r))
    · left
      refine ⟨k, hI.1, hk, w, hI.2, ?_⟩
      simp (disch := omega) only [fX8_arcOf_108, c2, n1, if_pos, Int.reduceAdd, Int.reduceSub, Int.reduceMul, Int.zero_add, Int.add_zero, Nat.zero_add, na_0, ca_la, ca_al, ca_lm, ca_add, ca_mod, ca_lit, tn_c, Int.natCast_zero, bd_some, bd2_some, bindv_e, chk_ok, cr_ok, crl_ok, chd_ok, chb_0, chb_1, cr_bI, chb_bI, ite_bI0, if_true, if_false]
      rw [pI_t w]
    · right
      have hlt : k < L.cn r := by
        rcases Nat.lt_or_ge k (L.cn r) with z | z
        · exact z
        · exfalso
          rw [show k = L.cn r by omega, Nat.add_mod_right, Nat.mod_eq_of_lt hf] at w
          exact w hN
      refine ⟨hlt, ⟨by omega, fun j j1 j2 => ?_⟩, ?_⟩
      · rcases Nat.lt_or_ge j k with z | z
        · exact hI.2 j j1 z
        · rw [show j = k by omega]; exact w
      · simp (disch := omega) only [fX8_arcOf_108, c2, n1, if_pos, Int.reduceAdd, Int.reduceSub, Int.reduceMul, Int.zero_add, Int.add_zero, Nat.zero_add, na_0, ca_la, ca_al, ca_lm, ca_add, ca_mod, ca_lit, tn_c, Int.natCast_zero, bd_some, bd2_some, bindv_e, chk_ok, cr_ok, crl_ok, chd_ok, chb_0, chb_1, cr_bI, chb_bI, ite_bI0, if_true, if_false]
        rw [pI_f w]) 400 1 (by omega) (by omega) ⟨by omega, fun j j1 j2 => by omega⟩
  rw [show ((1 : Nat) : Int) = 1 from rfl] at key
  unfold lX8_arcOf_108
  exact key
theorem m_l108 {r n f : Nat} {t : Mm} {e : Int → Option Mm} (hn : n < 1000) : ∀ fu, lX8_arcOf_108 r n f n t e (fu + 1) 1 = e 1 := by
  intro fu
  unfold lX8_arcOf_108
  rw [itN_s]
  simp (disch := omega) only [fX8_arcOf_108, if_neg, cr_ok]
theorem m_s1a {σ : Mm} {as : List Ac} {r n f b : Nat} (d0 : σ 0 24 = (as.length : Int)) (hl : as.length < 60) (hn : n ≤ 10) (hb : b < n) : fX8_arcOf_54 r n f b σ = bindv 1 (fun v => lX8_arcOf_108 r n f b (sto (sto (sto σ 10 as.length (r : Int)) 13 as.length 0) 11 as.length (f : Int)) (fun v => fX8_arcOf_138 n b v (sto (sto (sto σ 10 as.length (r : Int)) 13 as.length 0) 11 as.length (f : Int))) 400 v) := by
  have e1 : (sto σ 10 as.length (r : Int)) 0 24 = (as.length : Int) := by rw [sto_k (by omega)]; exact d0
  have e2 : (sto (sto σ 10 as.length (r : Int)) 13 as.length 0) 0 24 = (as.length : Int) := by rw [sto_k (by omega)]; exact e1
  unfold fX8_arcOf_54
  rw [d0, chk_ok (by omega), tn_c, bindv_e, cr_ok (by omega), cr_ok (by omega), if_neg (by omega), e1]
  unfold fX8_arcOf_83
  rw [chb_0, chk_ok (by omega), tn_c, bindv_e, cr_ok (by omega), cr_ok (by omega), if_neg (by omega), e2]
  unfold fX8_arcOf_104
  rw [chk_ok (by omega), tn_c, bindv_e]
theorem m_s1b {σ : Mm} {as : List Ac} {r n f : Nat} (d0 : σ 0 24 = (as.length : Int)) (hl : as.length < 60) (hn : n ≤ 10) : fX8_arcOf_54 r n f n σ = bindv 1 (fun v => lX8_arcOf_108 r n f n (sto (sto (sto σ 10 as.length (r : Int)) 13 as.length 1) 11 as.length 0) (fun v => fX8_arcOf_138 n n v (sto (sto (sto σ 10 as.length (r : Int)) 13 as.length 1) 11 as.length 0)) 400 v) := by
  have e1 : (sto σ 10 as.length (r : Int)) 0 24 = (as.length : Int) := by rw [sto_k (by omega)]; exact d0
  have e2 : (sto (sto σ 10 as.length (r : Int)) 13 as.length 1) 0 24 = (as.length : Int) := by rw [sto_k (by omega)]; exact e1
  unfold fX8_arcOf_54
  rw [d0, chk_ok (by omega), tn_c, bindv_e, cr_ok (by omega), cr_ok (by omega), if_pos rfl, e1]
  unfold fX8_arcOf_83
  rw [chb_1, chk_ok (by omega), tn_c, bindv_e, cr_ok (by omega), cr_ok (by omega), if_pos rfl, e2]
  unfold fX8_arcOf_104
  rw [chk_ok (by omega), tn_c, bindv_e]
theorem m_s2 {τ : Mm} {as : List Ac} {n : Nat} {b v : Int} (d0 : τ 0 24 = (as.length : Int)) (hl : as.length < 60) (hn : n ≤ 10) (hb : 0 ≤ b ∧ b ≤ 10) : fX8_arcOf_138 n b v τ = some (sto (sto τ 12 as.length (if b = n then (n : Int) else v + 1)) 0 24 ((as.length : Int) + 1)) := by
  have e1 : ∀ z, (sto τ 12 as.length z) 0 24 = (as.length : Int) := fun z => by rw [sto_k (by omega)]; exact d0
  unfold fX8_arcOf_138
  rw [cr_ok (by omega), cr_ok (by omega), d0]
  unfold fX8_arcOf_160
  by_cases w : b = n
  · rw [if_pos w, if_pos w, chk_ok (by omega), tn_c, bindv_e, e1, bindv_e]
  · rw [if_neg w, if_neg w, chk_ok (by omega), tn_c, bindv_e, e1, bindv_e]
theorem m_arcOf {σ : Mm} {L : Ld} {as : List Ac} {r i : Nat} (hw : WF L) (h : ML σ 0 L) (hD : DG σ L) (hM : MA σ as) (hl : as.length < 60) (hr : r < L.nr) (hi : i < L.cn r) : ∃ a f m c, fX8_arcOf r i σ = some (putA σ as.length r f m (bI (c = true))) ∧ a = (r, f, m, c) ∧ ARC L r i a := by
  have hnp := hw.1
  have hnr := hw.2.1
  have h3 := hw.2.2.1 r hr
  obtain ⟨-, -, -, -, -, hC, -⟩ := ML0 h
  have c1 := hC r hr
  have d0 := hM.1
  have base : fX8_arcOf r i σ = lX8_arcOf_17 r (L.cn r) σ (fun v w => fX8_arcOf_54 r (L.cn r) v w σ) 400 i 0 := by
    unfold fX8_arcOf
    have e1 : ((132 : Int) + (r : Int)).toNat = 132 + r := by omega
    rw [chk_ok (by omega), e1, c1, bindv_e, bindv_e, bindv_e]
  rcases m_back (e := fun v w => fX8_arcOf_54 r (L.cn r) v w σ) hw h hD hr hi with ⟨b, b1, b2, b3, b4⟩ | ⟨b1, f, b2, b3⟩
  · have hm : (i + L.cn r - b) % L.cn r < L.cn r := Nat.mod_lt _ (by omega)
    generalize hf : (i + L.cn r - b) % L.cn r = f at hm b2 b4
    have hML : ML (sto (sto (sto σ 10 as.length (r : Int)) 13 as.length 0) 11 as.length (f : Int)) 0 L := by
      unfold ML at h ⊢
      rw [sto_c (by omega), sto_c (by omega), sto_c (by omega)]
      exact h
    have hDG : DG (sto (sto (sto σ 10 as.length (r : Int)) 13 as.length 0) 11 as.length (f : Int)) L := fun p hp => by
      rw [sto_k (by omega), sto_k (by omega), sto_k (by omega)]; exact hD p hp
    obtain ⟨k, k1, k2, k3, k4, k5⟩ := m_fwd (b := b) (e := fun v => fX8_arcOf_138 (L.cn r) b v (sto (sto (sto σ 10 as.length (r : Int)) 13 as.length 0) 11 as.length (f : Int))) hw hML hDG hr hm b1 b2
    refine ⟨_, f, k + 1, false, ?_, rfl, ⟨rfl, Or.inr ⟨rfl, b, k, b1, hf.symm, b2, b3, rfl, k1, k2, k3, k4⟩⟩⟩
    have s1 := m_s1a (r := r) (n := L.cn r) (f := f) (b := b) d0 hl (by omega) b1
    have e9 : (sto (sto (sto σ 10 as.length (r : Int)) 13 as.length 0) 11 as.length (f : Int)) 0 24 = (as.length : Int) := by rw [sto_k (by omega), sto_k (by omega), sto_k (by omega)]; exact d0
    have s2 := m_s2 (n := L.cn r) (b := (b : Int)) (v := (k : Int)) e9 hl (by omega) (by omega)
    rw [if_neg (by omega)] at s2
    rw [base, b4, s1, bindv_e, k5, s2, bI_f (by simp)]
    rfl
  · refine ⟨_, 0, L.cn r, true, ?_, rfl, ⟨rfl, Or.inl ⟨rfl, rfl, rfl, b1⟩⟩⟩
    have s1 := m_s1b (r := r) (n := L.cn r) (f := f) d0 hl (by omega)
    have e9 : (sto (sto (sto σ 10 as.length (r : Int)) 13 as.length 1) 11 as.length 0) 0 24 = (as.length : Int) := by rw [sto_k (by omega), sto_k (by omega), sto_k (by omega)]; exact d0
    have s2 := m_s2 (n := L.cn r) (b := (L.cn r : Int)) (v := 1) e9 hl (by omega) (by omega)
    rw [if_pos rfl] at s2
    have s3 := m_l108 (r := r) (n := L.cn r) (f := f) (t := sto (sto (sto σ 10 as.length (r : Int)) 13 as.length 1) 11 as.length 0) (e := fun v => fX8_arcOf_138 (L.cn r) (L.cn r) v (sto (sto (sto σ 10 as.length (r : Int)) 13 as.length 1) 11 as.length 0)) (by omega) 399
    rw [base, b3, s1, bindv_e, s3, s2, bI_t rfl]
    rfl
