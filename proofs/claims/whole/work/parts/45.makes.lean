/-! the reference's stages -/
theorem it_gen {α β : Type} {f : (Int → α → Option β) → Int → α → Option β} (I : Nat → Int → α → Prop) (D : Option β → Prop) (hs : ∀ (c : Int → α → Option β) (n : Nat) (v : Int) (a : α), I n v a → D (f c v a) ∨ (∃ m v' a', m < n ∧ I m v' a' ∧ f c v a = c v' a')) : ∀ (fu n : Nat) (v : Int) (a : α), n < fu → I n v a → D (itN (fun _ _ => none) f fu v a)
  | 0, n, _, _, h, _ => by omega
  | fu + 1, n, v, a, h2, hi => by
    rw [itN_s]
    rcases hs (itN (fun _ _ => none) f fu) n v a hi with h3 | ⟨m, v', a', h3, h4, h5⟩
    · exact h3
    · rw [h5]
      exact it_gen I D hs fu m v' a' (by omega) h4
theorem als_fun {L : Ld} {gb : Nat → Nat} {sz : Nat → Int} {n s : Nat} (h : PRE L gb sz n) (hs : s ≤ n) : als (gaF gb n) s = alG gb s := funext fun p => als_al h hs p
theorem m_least {σ : Mm} {L : Ld} {gb : Nat → Nat} {sz : Nat → Int} {s : Nat} (hw : WF L) (hF : FAIR L) (h : ML σ 0 L) (hD : DG σ L) (hP : PRE L gb sz s) (hg : GA σ (gaF gb s)) : ∃ b σ', fX8_least s σ = some (b, σ') ∧ ((b = -4 ∧ ∀ q, ¬ CAND L (SCN L gb s) (alG gb s) q) ∨ (∃ p : Nat, b = (p : Int) ∧ BST L (SCN L gb s) (alG gb s) p)) ∧ E9 σ σ' := by
  have hnp := hw.1
  have hle := PRE_le hP
  have ea := als_fun hP (Nat.le_refl s)
  have eS : dr L (als (gaF gb s) s) = SCN L gb s := by rw [ea]; rfl
  have hWS := SCN_WF hw hF hP (Nat.le_refl s)
  have hGD := GD_s hw hF hP (Nat.le_refl s)
  obtain ⟨b, l, σ', ⟨i1, i2⟩, e1⟩ := it_inv4 (f := fun c => fX8_least_8 s (fun v t => fX8_least_85 v t) c) L.np (fun i b l t => BI L (SCN L gb s) (alG gb s) (-4) i b l ∧ E9 σ t) (fun b l t => some (b, t)) (fun c i b l t hi hI => by
    obtain ⟨q1, q2⟩ := hI
    have e0 := m_points (E9_ML q2 h)
    obtain ⟨t1, w1, w2⟩ := m_whyNot (p := i) (s := s) (ga := gaF gb s) hw (E9_ML q2 h) (E9_GA q2 hg) (E9_DG q2 hD) (by omega) hi (by rw [eS]; exact hWS) (by rw [eS]; exact hGD.2) hH
    rw [eS, ea] at w1
    have wb := WHY_b L (SCN L gb s) (alG gb s) i
    have bnd : -4 ≤ b ∧ b < 24 := by
      rcases q1 with ⟨a, -⟩ | ⟨p, a1, a2, -⟩ <;> omega
    have lbd : b ≠ -4 → 0 ≤ l ∧ l ≤ 79202 := by
      intro hb
      rcases q1 with ⟨a, -⟩ | ⟨p, a1, a2, a3, a4, -⟩
      · exact absurd a hb
      · rw [a3]; exact SZ_b hw a4
    by_cases c0 : WHY L (SCN L gb s) (alG gb s) i = 0
    · have hc : CAND L (SCN L gb s) (alG gb s) i := ⟨hi, c0⟩
      have f1 := E9_t q2 w2
      obtain ⟨t2, z1, z2⟩ := m_sizeOf (p := i) (s := s) (ga := gaF gb s) hw (E9_ML f1 h) (E9_GA f1 hg) (by omega) hi (by rw [ea]; exact hH (WHY_0 c0).1 (WHY_0 c0).2.1)
      rw [eS] at z1
      have zb : 0 ≤ SZ L (SCN L gb s) i ∧ SZ L (SCN L gb s) i ≤ 79202 := SZ_b hw hc
      have f2 := E9_t f1 z2
      rw [c0] at w1
      by_cases c1 : b = -4
      · refine ⟨(i : Int), SZ L (SCN L gb s) i, t2, ⟨BI_new q1 hc (Or.inl c1) (by omega), f2⟩, ?_⟩
        simp (disch := omega) only [fX8_least_8, fX8_least_48, fX8_least_53, fX8_least_66, fX8_least_78, fX8_least_79, e0, w1, z1, if_pos, if_neg, Int.reduceAdd, Int.reduceSub, Int.reduceMul, Int.zero_add, Int.add_zero, Nat.zero_add, na_0, ca_la, ca_al, ca_lm, ca_add, ca_mod, ca_lit, tn_c, Int.natCast_zero, bd_some, bd2_some, bindv_e, chk_ok, cr_ok, crl_ok, chd_ok, chb_0, chb_1, cr_bI, chb_bI, ite_bI0, if_true, if_false]
      · have lb := lbd c1
        by_cases c2 : SZ L (SCN L gb s) i < l
        · refine ⟨(i : Int), SZ L (SCN L gb s) i, t2, ⟨BI_new q1 hc (Or.inr c2) (by omega), f2⟩, ?_⟩
          simp (disch := omega) only [fX8_least_8, fX8_least_48, fX8_least_53, fX8_least_66, fX8_least_78, fX8_least_79, e0, w1, z1, if_pos, if_neg, Int.reduceAdd, Int.reduceSub, Int.reduceMul, Int.zero_add, Int.add_zero, Nat.zero_add, na_0, ca_la, ca_al, ca_lm, ca_add, ca_mod, ca_lit, tn_c, Int.natCast_zero, bd_some, bd2_some, bindv_e, chk_ok, cr_ok, crl_ok, chd_ok, chb_0, chb_1, cr_bI, chb_bI, ite_bI0, if_true, if_false]
        · refine ⟨b, l, t2, ⟨BI_old q1 c1 (fun _ => c2), f2⟩, ?_⟩
          simp (disch := omega) only [fX8_least_8, fX8_least_48, fX8_least_53, fX8_least_66, fX8_least_78, fX8_least_79, e0, w1, z1, if_pos, if_neg, Int.reduceAdd, Int.reduceSub, Int.reduceMul, Int.zero_add, Int.add_zero, Nat.zero_add, na_0, ca_la, ca_al, ca_lm, ca_add, ca_mod, ca_lit, tn_c, Int.natCast_zero, bd_some, bd2_some, bindv_e, chk_ok, cr_ok, crl_ok, chd_ok, chb_0, chb_1, cr_bI, chb_bI, ite_bI0, if_true, if_false]
    · refine ⟨b, l, t1, ⟨BI_keep q1 (fun z => c0 z.2), E9_t q2 w2⟩, ?_⟩
      simp (disch := omega) only [fX8_least_8, fX8_least_79, e0, w1, if_pos, if_neg, Int.reduceAdd, Int.reduceSub, Int.reduceMul, Int.zero_add, Int.add_zero, Nat.zero_add, na_0, ca_la, ca_al, ca_lm, ca_add, ca_mod, ca_lit, tn_c, Int.natCast_zero, bd_some, bd2_some, bindv_e, chk_ok, cr_ok, crl_ok, chd_ok, chb_0, chb_1, cr_bI, chb_bI, ite_bI0, if_true, if_false]) (fun c b l t hI => by
    have e0 := m_points (E9_ML hI.2 h)
    simp (disch := omega) only [fX8_least_8, fX8_least_85, e0, if_neg, Int.reduceAdd, Int.reduceSub, Int.reduceMul, Int.zero_add, Int.add_zero, Nat.zero_add, na_0, ca_la, ca_al, ca_lm, ca_add, ca_mod, ca_lit, tn_c, Int.natCast_zero, bd_some, bd2_some, bindv_e, chk_ok, cr_ok, crl_ok, chd_ok, chb_0, chb_1, cr_bI, chb_bI, ite_bI0, if_true, if_false]) 400 0 (-4) 0 σ (Nat.zero_le _) (by omega) ⟨Or.inl ⟨rfl, fun q hq => by omega⟩, E9_r σ⟩
  rw [show ((0 : Nat) : Int) = 0 from rfl] at e1
  refine ⟨b, σ', ?_, ?_, i2⟩
  · unfold fX8_least
    rw [bindv_e, bindv_e, bindv_e]
    unfold lX8_least_8
    exact e1
  · rcases BI_end i1 with a | ⟨p, a1, -, a3⟩
    · exact Or.inl a
    · exact Or.inr ⟨p, a1, a3⟩
/-- the reference's stages as they are kept -/
def MP (σ : Mm) (L : Ld) (gb : Nat → Nat) (sz : Nat → Int) (n : Nat) : Prop := σ 0 16 = (n : Int) ∧ (∀ s, 1 ≤ s → s ≤ n → σ 7 s = (gb s : Int)) ∧ GA σ (gaF gb n) ∧ (∀ p, p < L.np → σ 6 p = if gaF gb n p = 0 then -4 else sz (gaF gb n p)) ∧ DG σ L
def frM (σ σ' : Mm) : Prop := (∀ k, k ≠ 0 → (k < 5 ∨ 13 < k) → σ' k = σ k) ∧ (∀ j, j ≠ 16 → j ≠ 24 → σ' 0 j = σ 0 j)
theorem frM_t {a b c : Mm} (h : frM a b) (g : frM b c) : frM a c := ⟨fun k h1 h2 => (g.1 k h1 h2).trans (h.1 k h1 h2), fun j h1 h2 => (g.2 j h1 h2).trans (h.2 j h1 h2)⟩
theorem frM_r (a : Mm) : frM a a := ⟨fun _ _ _ => rfl, fun _ _ _ => rfl⟩
theorem E9_M {a b : Mm} (h : E9 a b) : frM a b := ⟨fun k _ h2 => h k (by omega), fun j _ _ => by rw [h 0 (by omega)]⟩
theorem frM_ML {σ σ' : Mm} {L : Ld} {o : Nat} (hf : frM σ σ') (h : ML σ o L) : ML σ' o L := by
  unfold ML at h ⊢
  rw [hf.1 1 (by omega) (by omega)]
  exact h
theorem E9_MP {σ σ' : Mm} {L : Ld} {gb : Nat → Nat} {sz : Nat → Int} {n : Nat} (hf : E9 σ σ') (h : MP σ L gb sz n) : MP σ' L gb sz n := by
  obtain ⟨h1, h2, h3, h4, h5⟩ := h
  exact ⟨by rw [hf 0 (by omega)]; exact h1, fun s a b => by rw [hf 7 (by omega)]; exact h2 s a b, E9_GA hf h3, fun p hp => by rw [hf 6 (by omega)]; exact h4 p hp, E9_DG hf h5⟩
theorem m_stages {σ : Mm} {L : Ld} {e : Mm → Option Mm} (hw : WF L) (hF : FAIR L) (h : ML σ 0 L) (hD : DG σ L) (h0 : σ 0 16 = 0) (hg : ∀ p, p < 24 → σ 5 p = 0) (hz : ∀ p, p < 24 → σ 6 p = -4) : ∃ σ' gb sz n, RUN L gb sz n ∧ MP σ' L gb sz n ∧ frM σ σ' ∧ bd2 (fX8_least 0 σ) (fun x t => bindv x (fun v => lX8_makes_76 e 400 v t)) = e σ' := by
  have hnp := hw.1
  have hMP0 : MP σ L (fun _ => 0) (fun _ => 0) 0 := ⟨by rw [h0]; rfl, fun s a b => by omega, fun p hp => ⟨by rw [hg p hp]; rfl, by show 0 ≤ 24; omega⟩, fun p hp => by rw [hz p (by omega)]; rfl, hD⟩
  obtain ⟨b0, t0, l1, l2, l3⟩ := m_least (gb := fun _ => 0) (sz := fun _ => 0) (s := 0) hw hF h hD (fun s hs => by omega) hMP0.2.2.1
  have key := it_gen (f := fun c => fX8_makes_76 e c) (fun m v t => ∃ gb sz s, m = 24 - s ∧ s ≤ 24 ∧ PRE L gb sz s ∧ MP t L gb sz s ∧ frM σ t ∧ ((v = -4 ∧ ∀ q, ¬ CAND L (SCN L gb s) (alG gb s) q) ∨ (∃ p : Nat, v = (p : Int) ∧ BST L (SCN L gb s) (alG gb s) p))) (fun o => ∃ σ' gb sz n, RUN L gb sz n ∧ MP σ' L gb sz n ∧ frM σ σ' ∧ o = e σ') (fun c m v t hI => by
    obtain ⟨gb, sz, s, q0, q1, q2, q3, q4, q5⟩ := hI
    rcases q5 with ⟨a, b⟩ | ⟨p, a, b⟩
    · left
      refine ⟨t, gb, sz, s, ⟨q2, b⟩, q3, q4, ?_⟩
      subst a
      simp (disch := omega) only [fX8_makes_76, if_pos, Int.reduceAdd, Int.reduceSub, Int.reduceMul, Int.zero_add, Int.add_zero, Nat.zero_add, na_0, ca_la, ca_al, ca_lm, ca_add, ca_mod, ca_lit, tn_c, Int.natCast_zero, bd_some, bd2_some, bindv_e, chk_ok, cr_ok, crl_ok, chd_ok, chb_0, chb_1, cr_bI, chb_bI, ite_bI0, if_true, if_false]
    · right
      subst a
      have hp := b.1.1
      have hlt : s < 24 := by
        have hle := PRE_le q2
        rcases Nat.lt_or_ge s L.np with z | z
        · omega
        · exact absurd b.1 (PRE_full q2 (by omega) p)
      have ea := als_fun q2 (Nat.le_refl s)
      have eS : dr L (als (gaF gb s) s) = SCN L gb s := by rw [ea]; rfl
      obtain ⟨m1, m2, m3, m4, m5⟩ := id q3
      obtain ⟨t1, z1, z2⟩ := m_sizeOf (p := p) (s := s) (ga := gaF gb s) hw (frM_ML q4 h) m3 (by omega) hp (by rw [ea]; exact hH (WHY_0 b.1.2).1 (WHY_0 b.1.2).2.1)
      rw [eS] at z1
      have q3' := E9_MP z2 q3
      obtain ⟨x1, x2, x3, x4, x5⟩ := id q3'
      generalize hτ : sto (sto (sto (sto t1 6 p (SZ L (SCN L gb s) p)) 0 16 ((s : Int) + 1)) 5 p ((s : Int) + 1)) 7 (s + 1) (p : Int) = τ
      have keep : ∀ j, 1 ≤ j → j ≤ s → gb j = upN gb (s + 1) p j := fun j a b => (upN_ne (by omega)).symm
      have keepz : ∀ j, 1 ≤ j → j ≤ s → sz j = upZ sz (s + 1) (SZ L (SCN L gb s) p) j := fun j a b => (if_neg (by omega)).symm
      have eG := gaF_c keep
      have eG' : ∀ q, gaF (upN gb (s + 1) p) (s + 1) q = if p = q then s + 1 else gaF gb s q := by
        intro q
        show (if upN gb (s + 1) p (s + 1) = q then s + 1 else gaF (upN gb (s + 1) p) s q) = _
        rw [upN_eq, ← eG q]
      have hP' : PRE L (upN gb (s + 1) p) (upZ sz (s + 1) (SZ L (SCN L gb s) p)) (s + 1) := by
        have hc := PRE_c q2 keep keepz
        intro j hj
        by_cases w : j < s
        · exact hc j w
        · have ej : j = s := by omega
          subst ej
          rw [← SCN_c (L := L) keep, ← alG_c keep, upN_eq]
          refine ⟨b, ?_⟩
          unfold upZ
          rw [if_pos rfl]
      have hM' : MP τ L (upN gb (s + 1) p) (upZ sz (s + 1) (SZ L (SCN L gb s) p)) (s + 1) := by
        refine ⟨?_, fun j a b => ?_, fun q hq => ⟨?_, ?_⟩, fun q hq => ?_, fun q hq => ?_⟩
        · rw [← hτ, sto_k (by omega), sto_k (by omega), sto_eq]; rfl
        · rw [← hτ, sto_at]
          by_cases w : j = s + 1
          · rw [if_pos ⟨rfl, w⟩, w, upN_eq]
          · rw [if_neg (by omega), upN_ne w, sto_k (by omega), sto_k (by omega), sto_k (by omega)]; exact x2 j a (by omega)
        · rw [eG' q, ← hτ, sto_k (by omega), sto_at]
          by_cases w : q = p
          · rw [if_pos ⟨rfl, w⟩, if_pos w.symm]; rfl
          · rw [if_neg (by omega), if_neg (Ne.symm w), sto_k (by omega), sto_k (by omega)]; exact (x3 q hq).1
        · rw [eG' q]
          have := gaF_le gb q s
          split <;> omega
        · rw [eG' q, ← hτ, sto_k (by omega), sto_k (by omega), sto_k (by omega), sto_at]
          by_cases w : q = p
          · rw [if_pos ⟨rfl, w⟩, if_pos w.symm, if_neg (by omega)]
            unfold upZ
            rw [if_pos rfl]
          · rw [if_neg (by omega), if_neg (Ne.symm w), x4 q hq]
            have := gaF_le gb q s
            unfold upZ
            rw [if_neg (show ¬ gaF gb s q = s + 1 by omega)]
        · rw [← hτ, sto_k (by omega), sto_k (by omega), sto_k (by omega), sto_k (by omega)]; exact x5 q hq
      have hfr : frM σ τ := by
        refine frM_t (frM_t q4 (E9_M z2)) ⟨fun k a1 a2 => ?_, fun j a1 a2 => ?_⟩
        · rw [← hτ, sto_c (by omega), sto_c (by omega), sto_c (by omega), sto_c (by omega)]
        · rw [← hτ, sto_k (by omega), sto_k (by omega), sto_i a1, sto_k (by omega)]
      obtain ⟨b', t', l1, l2, l3⟩ := m_least hw hF (frM_ML hfr h) hM'.2.2.2.2 hP' hM'.2.2.1
      refine ⟨24 - (s + 1), b', t', by omega, ⟨upN gb (s + 1) p, upZ sz (s + 1) (SZ L (SCN L gb s) p), s + 1, rfl, by omega, hP', E9_MP l3 hM', frM_t hfr (E9_M l3), l2⟩, ?_⟩
      have e1 : ((s : Int) + 1).toNat = s + 1 := by omega
      have e2 : (s : Int) + 1 = ((s + 1 : Nat) : Int) := rfl
      rw [← e2] at l1
      rw [← hτ] at l1
      simp (disch := omega) only [fX8_makes_76, m1, z1, x1, sto_k, sto_eq, e1, l1, if_neg, bd2_some, bindv_e, chk_ok, cr_ok, tn_c]) 400 24 b0 t0 (by omega) ⟨fun _ => 0, fun _ => 0, 0, rfl, by omega, fun s hs => by omega, E9_MP l3 hMP0, E9_M l3, l2⟩
  obtain ⟨σ', gb, sz, n, k1, k2, k3, k4⟩ := key
  refine ⟨σ', gb, sz, n, k1, k2, k3, ?_⟩
  have l1' : fX8_least 0 σ = some (b0, t0) := l1
  rw [l1', bd2_some, bindv_e]
  unfold lX8_makes_76
  exact k4
