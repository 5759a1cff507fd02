/-! what all lines tell: whole, fair -/
def LdT (τ : Mm) (np nr : Nat) : Ld := ((np, nr), fun r => (τ 1 (552 + r)).toNat, fun r i => (τ 1 (492 + 10 * r + i)).toNat, fun p => τ 1 (420 + p), fun p => τ 1 (444 + p), fun p => τ 1 (468 + p))
theorem drx_L {σ τ : Mm} {np nr P : Nat} (h : DRX σ τ np nr nr P) : CL σ 111 (LdT τ np nr) ∧ ML τ 420 (LdT τ np nr) ∧ (∀ r, r < nr → 3 ≤ (LdT τ np nr).cn r ∧ (LdT τ np nr).cn r ≤ 10) ∧ (∀ r i, r < nr → i < (LdT τ np nr).cn r → (LdT τ np nr).co r i < 24) ∧ (∀ r i j, r < nr → i < (LdT τ np nr).cn r → j < (LdT τ np nr).cn r → (LdT τ np nr).co r i = (LdT τ np nr).co r j → i = j) := by
  obtain ⟨h1, h2, h3, h4, h5, h6, h7⟩ := h
  have cn : ∀ r, r < nr → ∃ m, RG σ τ r m ∧ 3 ≤ m ∧ (LdT τ np nr).cn r = m := fun r hr => by
    obtain ⟨m, m1, m2⟩ := h5 r hr
    refine ⟨m, m1, m2, ?_⟩
    show (τ 1 (552 + r)).toNat = m
    rw [m1.2.2.1, tn_c]
  refine ⟨⟨h2.1, h2.2.2.1, fun p hp => (h3 p hp).1, fun p hp => (h3 p hp).2.2.1, fun p hp => ?_, fun r hr => ?_, fun r i hr hi => ?_⟩, ⟨h2.2.1, h2.2.2.2, fun p hp => rfl, fun p hp => rfl, fun p hp => rfl, fun r hr => ?_, fun r i hr hi => ?_⟩, fun r hr => ?_, fun r i hr hi => ?_, fun r i j hr hi hj e => ?_⟩
  · have : p < np := hp
    exact (h4 p (by omega)).1
  · obtain ⟨m, m1, m2, m3⟩ := cn r hr
    rw [m3]
    exact m1.2.1
  · obtain ⟨m, m1, m2, m3⟩ := cn r hr
    rw [m3] at hi
    obtain ⟨g1, g2, g3⟩ := m1.2.2.2.1 i hi
    show σ (121 + r) i = (((τ 1 (492 + 10 * r + i)).toNat : Nat) : Int)
    rw [g1]
    omega
  · obtain ⟨m, m1, m2, m3⟩ := cn r hr
    rw [m3]
    show τ 1 (552 + r) = _
    exact m1.2.2.1
  · obtain ⟨m, m1, m2, m3⟩ := cn r hr
    rw [m3] at hi
    obtain ⟨g1, g2, g3⟩ := m1.2.2.2.1 i hi
    show τ 1 (492 + 10 * r + i) = (((τ 1 (492 + 10 * r + i)).toNat : Nat) : Int)
    omega
  · obtain ⟨m, m1, m2, m3⟩ := cn r hr
    rw [m3]
    exact ⟨m2, m1.1⟩
  · obtain ⟨m, m1, m2, m3⟩ := cn r hr
    rw [m3] at hi
    obtain ⟨g1, g2, g3⟩ := m1.2.2.2.1 i hi
    show (τ 1 (492 + 10 * r + i)).toNat < 24
    omega
  · obtain ⟨m, m1, m2, m3⟩ := cn r hr
    rw [m3] at hi hj
    obtain ⟨g1, g2, g3⟩ := m1.2.2.2.1 i hi
    obtain ⟨k1, k2, k3⟩ := m1.2.2.2.1 j hj
    have e' : (τ 1 (492 + 10 * r + i)).toNat = (τ 1 (492 + 10 * r + j)).toNat := e
    exact m1.2.2.2.2 i j hi hj (by omega)
def COK (L : Ld) (r : Nat) : Prop := ∀ i, i < L.cn r → L.co r i < L.np
def WHO (L : Ld) (P : Nat) : Prop := P ≤ L.np ∧ ∀ r, r < L.nr → COK L r
theorem who_WF {σ τ : Mm} {np nr P : Nat} (h : DRX σ τ np nr nr P) (hw : WHO (LdT τ np nr) P) : WF (LdT τ np nr) := by
  obtain ⟨-, -, l3, l4, l5⟩ := drx_L h
  obtain ⟨h1, h2, h3, h4, -⟩ := h
  refine ⟨h1.1, h1.2.2, l3, fun r i hr hi => hw.2 r hr i hi, l5, fun p hp => (h3 p hp).2.1, fun p hp => (h3 p hp).2.2.2, fun p hp => ?_⟩
  have : p < np := hp
  exact (h4 p (by omega)).2
theorem c_isWhole {σ τ : Mm} {np nr P : Nat} (h : DRX σ τ np nr nr P) : fX1_isWhole 111 σ = some (bI (WHO (LdT τ np nr) P)) := by
  obtain ⟨⟨c1, c2, -, -, -, c6, c7⟩, -, l3, l4, -⟩ := drx_L h
  obtain ⟨h1, h2, h3, h4, -, -, h7⟩ := h
  have n1 : (LdT τ np nr).np = np := rfl
  have n2 : (LdT τ np nr).nr = nr := rfl
  generalize LdT τ np nr = L at *
  rw [n1] at c1
  rw [n2] at c2 c6 c7
  have inner : ∀ (r : Nat) (e : Option Int), r < nr → lX1_isWhole_40 111 r σ e 400 0 = pI (∃ i, i < L.cn r ∧ ¬ L.co r i < np) (some 0) e := fun r e hr => by
    have y1 := l3 r hr
    have y2 := c6 r hr
    unfold lX1_isWhole_40
    exact it_ex0 (f := fun c => fX1_isWhole_40 111 r σ e c) (L.cn r) (fun i => ¬ L.co r i < np) (some 0) e (by omega) (fun c i hi => by
      have y3 := c7 r i hr hi
      have y4 := l4 r i hr hi
      simp (disch := omega) only [fX1_isWhole_40, y2, y3, c1, if_pos, Int.reduceAdd, Int.reduceSub, Int.reduceMul, Int.zero_add, Int.add_zero, Nat.zero_add, na_0, ca_la, ca_al, ca_lm, ca_add, ca_mod, ca_lit, tn_c, Int.natCast_zero, bd_some, bd2_some, bindv_e, chk_ok, cr_ok, crl_ok, chd_ok, chb_0, chb_1, cr_bI, chb_bI, ite_bI0, if_true, if_false]
      by_cases q : L.co r i < np
      · rw [if_pos (by omega), pI_f (fun z => z q)]
      · rw [if_neg (by omega), pI_t q]) (fun c => by
      simp (disch := omega) only [fX1_isWhole_40, y2, if_neg, Int.reduceAdd, Int.reduceSub, Int.reduceMul, Int.zero_add, Int.add_zero, Nat.zero_add, na_0, ca_la, ca_al, ca_lm, ca_add, ca_mod, ca_lit, tn_c, Int.natCast_zero, bd_some, bd2_some, bindv_e, chk_ok, cr_ok, crl_ok, chd_ok, chb_0, chb_1, cr_bI, chb_bI, ite_bI0, if_true, if_false])
  have k30 : fX1_isWhole_28 111 σ = pI (∃ r, r < nr ∧ ∃ i, i < L.cn r ∧ ¬ L.co r i < np) (some 0) (some 1) := by
    unfold fX1_isWhole_28
    rw [bindv_e]
    unfold lX1_isWhole_30
    exact it_ex0 (f := fun c => fX1_isWhole_30 111 σ (fX1_isWhole_79 111 σ) c) nr (fun r => ∃ i, i < L.cn r ∧ ¬ L.co r i < np) (some 0) (some 1) (by omega) (fun c r hr => by
      have y := inner r (c ((r + 1 : Nat) : Int)) hr
      simp (disch := omega) only [fX1_isWhole_30, c2, fX1_isWhole_73, y, if_pos, Int.reduceAdd, Int.reduceSub, Int.reduceMul, Int.zero_add, Int.add_zero, Nat.zero_add, na_0, ca_la, ca_al, ca_lm, ca_add, ca_mod, ca_lit, tn_c, Int.natCast_zero, bd_some, bd2_some, bindv_e, chk_ok, cr_ok, crl_ok, chd_ok, chb_0, chb_1, cr_bI, chb_bI, ite_bI0, if_true, if_false]) (fun c => by
      simp (disch := omega) only [fX1_isWhole_30, fX1_isWhole_79, c2, if_neg, Int.reduceAdd, Int.reduceSub, Int.reduceMul, Int.zero_add, Int.add_zero, Nat.zero_add, na_0, ca_la, ca_al, ca_lm, ca_add, ca_mod, ca_lit, tn_c, Int.natCast_zero, bd_some, bd2_some, bindv_e, chk_ok, cr_ok, crl_ok, chd_ok, chb_0, chb_1, cr_bI, chb_bI, ite_bI0, if_true, if_false])
  have k5 := it_ex (f := fun c => fX1_isWhole_5 111 σ (fX1_isWhole_28 111 σ) c) 24 (fun p => τ 1 (468 + p) = 1) (some 0) (fX1_isWhole_28 111 σ) (fun c p hp => by
    obtain ⟨y1, y2⟩ := h4 p hp
    have y3 : σ (111 + 3) p = τ 1 (468 + p) := y1
    simp (disch := omega) only [fX1_isWhole_5, y3, if_pos, Int.reduceAdd, Int.reduceSub, Int.reduceMul, Int.zero_add, Int.add_zero, Nat.zero_add, na_0, ca_la, ca_al, ca_lm, ca_add, ca_mod, ca_lit, tn_c, Int.natCast_zero, bd_some, bd2_some, bindv_e, chk_ok, cr_ok, crl_ok, chd_ok, chb_0, chb_1, cr_bI, chb_bI, ite_bI0, if_true, if_false]
    by_cases q : τ 1 (468 + p) = 1
    · rw [if_neg (by omega), pI_t q]
    · rw [if_pos (by omega), pI_f q]) (fun c => by
    simp (disch := omega) only [fX1_isWhole_5, if_neg, Int.reduceAdd, Int.reduceSub, Int.reduceMul, Int.zero_add, Int.add_zero, Nat.zero_add, na_0, ca_la, ca_al, ca_lm, ca_add, ca_mod, ca_lit, tn_c, Int.natCast_zero, bd_some, bd2_some, bindv_e, chk_ok, cr_ok, crl_ok, chd_ok, chb_0, chb_1, cr_bI, chb_bI, ite_bI0, if_true, if_false]) 400 np h1.1 (by omega)
  unfold fX1_isWhole
  rw [c1, bindv_e]
  unfold lX1_isWhole_5
  rw [k5, k30, pI_or, pI_some']
  refine ob_c ⟨fun q => ⟨?_, fun r hr i hi => ?_⟩, ?_⟩
  · rw [n1]
    rcases h7.2.2.2 with y | y
    · omega
    · by_cases w : P ≤ np
      · exact w
      · exact absurd (Or.inl ⟨P - 1, by omega, by omega, y⟩) q
  · rw [n1]
    by_cases w : L.co r i < np
    · exact w
    · exact absurd (Or.inr ⟨r, by omega, i, hi, w⟩) q
  · rintro ⟨q1, q2⟩ (⟨p, w1, w2, w3⟩ | ⟨r, w1, i, w2, w3⟩)
    · have := h7.2.2.1 p w2 w3
      omega
    · have q3 : L.co r i < L.np := q2 r (by omega) i w2
      omega
theorem it_and {β : Type} {f : (Int → Int → Option β) → Int → Int → Option β} (N : Nat) (Q : Nat → Prop) (w : Int → Option β) (hs : ∀ (c : Int → Int → Option β) (R : Prop) (i : Nat), i < N → f c (bI R) (i : Int) = c (bI (R ∧ Q i)) ((i + 1 : Nat) : Int)) (hx : ∀ (c : Int → Int → Option β) (R : Prop), f c (bI R) (N : Int) = w (bI R)) : ∀ (fu i : Nat) (R : Prop), i ≤ N → N - i < fu → itN (fun _ _ => none) f fu (bI R) (i : Int) = w (bI (R ∧ ∀ j, i ≤ j → j < N → Q j))
  | 0, i, _, _, h => by omega
  | fu + 1, i, R, h1, h2 => by
    rw [itN_s]
    by_cases he : i = N
    · subst he
      rw [hx]
      exact congrArg w (bI_c ⟨fun a => ⟨a, fun j q1 q2 => by omega⟩, fun a => a.1⟩)
    · rw [hs _ R i (by omega), it_and N Q w hs hx fu (i + 1) (R ∧ Q i) (by omega) (by omega)]
      refine congrArg w (bI_c ⟨fun a => ⟨a.1.1, fun j q1 q2 => ?_⟩, fun a => ⟨⟨a.1, a.2 i (Nat.le_refl i) (by omega)⟩, fun j q1 q2 => a.2 j (by omega) q2⟩⟩)
      rcases Nat.lt_or_ge i j with q | q
      · exact a.2 j q q2
      · exact (show i = j by omega) ▸ a.1.2
theorem m_isWhole {σ τ : Mm} {np nr P : Nat} (h : DRX σ τ np nr nr P) : fX8_isWhole τ = some (bI (WHO (LdT τ np nr) P ∧ FAIR (LdT τ np nr))) := by
  obtain ⟨-, hM, l3, l4, -⟩ := drx_L h
  have hWF := who_WF h
  obtain ⟨m1, m2, -, -, -, m6, m7⟩ := id hM
  obtain ⟨h1, h2, -, -, -, -, h7⟩ := h
  have n1 : (LdT τ np nr).np = np := rfl
  have n2 : (LdT τ np nr).nr = nr := rfl
  generalize LdT τ np nr = L at *
  rw [n1] at m1
  rw [n2] at m2 m6 m7
  have t9 : τ 1 559 = (nr : Int) := m2
  have t8 : τ 1 558 = (np : Int) := m1
  have inner : ∀ (r : Nat) (R : Prop) (e : Int → Option Int), r < nr → lX8_isWhole_40 np r τ e 400 (bI R) 0 = e (bI (R ∧ COK L r)) := fun r R e hr => by
    have y1 := l3 r hr
    have y2 : τ 1 (552 + r) = (L.cn r : Int) := m6 r hr
    have q := it_and (f := fun c => fX8_isWhole_40 np r τ e c) (L.cn r) (fun i => L.co r i < np) e (fun c R i hi => by
      have y3 : τ 1 (492 + 10 * r + i) = (L.co r i : Int) := m7 r i hr hi
      have y4 := l4 r i hr hi
      by_cases w : R
      · rw [bI_t w]
        simp (disch := omega) only [fX8_isWhole_40, fX8_isWhole_83, fX8_isWhole_84, y2, y3, if_pos, if_neg, Int.reduceAdd, Int.reduceSub, Int.reduceMul, Int.zero_add, Int.add_zero, Nat.zero_add, na_0, ca_la, ca_al, ca_lm, ca_add, ca_mod, ca_lit, tn_c, Int.natCast_zero, bd_some, bd2_some, bindv_e, chk_ok, cr_ok, crl_ok, chd_ok, chb_0, chb_1, cr_bI, chb_bI, ite_bI0, if_true, if_false]
        by_cases q : L.co r i < np
        · rw [if_pos (by omega), bI_t ⟨w, q⟩]
        · rw [if_neg (by omega), bI_f (fun z => q z.2)]
      · rw [bI_f w, bI_f (fun z => w z.1)]
        simp (disch := omega) only [fX8_isWhole_40, fX8_isWhole_83, fX8_isWhole_84, y2, if_pos, Int.reduceAdd, Int.reduceSub, Int.reduceMul, Int.zero_add, Int.add_zero, Nat.zero_add, na_0, ca_la, ca_al, ca_lm, ca_add, ca_mod, ca_lit, tn_c, Int.natCast_zero, bd_some, bd2_some, bindv_e, chk_ok, cr_ok, crl_ok, chd_ok, chb_0, chb_1, cr_bI, chb_bI, ite_bI0, if_true, if_false]) (fun c R => by
      simp (disch := omega) only [fX8_isWhole_40, y2, if_neg, Int.reduceAdd, Int.reduceSub, Int.reduceMul, Int.zero_add, Int.add_zero, Nat.zero_add, na_0, ca_la, ca_al, ca_lm, ca_add, ca_mod, ca_lit, tn_c, Int.natCast_zero, bd_some, bd2_some, bindv_e, chk_ok, cr_ok, crl_ok, chd_ok, chb_0, chb_1, cr_bI, chb_bI, ite_bI0, if_true, if_false]) 400 0 R (by omega) (by omega)
    unfold lX8_isWhole_40
    rw [Int.natCast_zero] at q
    rw [q]
    refine congrArg e (bI_c ⟨fun a => ⟨a.1, fun i hi => by rw [n1]; exact a.2 i (Nat.zero_le i) hi⟩, fun a => ⟨a.1, fun i _ hi => by have : L.co r i < L.np := a.2 i hi; omega⟩⟩)
  have k25 : ∀ R : Prop, lX8_isWhole_25 np τ (fun v => fX8_isWhole_97 v τ) 400 (bI R) 0 = fX8_isWhole_97 (bI (R ∧ ∀ r, r < nr → COK L r)) τ := fun R => by
    have q := it_and (f := fun c => fX8_isWhole_25 np τ (fun v => fX8_isWhole_97 v τ) c) nr (fun r => COK L r) (fun v => fX8_isWhole_97 v τ) (fun c R r hr => by
      have y := inner r R (fun v => c v ((r + 1 : Nat) : Int)) hr
      simp (disch := omega) only [fX8_isWhole_25, t9, fX8_isWhole_91, y, if_pos, Int.reduceAdd, Int.reduceSub, Int.reduceMul, Int.zero_add, Int.add_zero, Nat.zero_add, na_0, ca_la, ca_al, ca_lm, ca_add, ca_mod, ca_lit, tn_c, Int.natCast_zero, bd_some, bd2_some, bindv_e, chk_ok, cr_ok, crl_ok, chd_ok, chb_0, chb_1, cr_bI, chb_bI, ite_bI0, if_true, if_false]) (fun c R => by
      simp (disch := omega) only [fX8_isWhole_25, t9, if_neg, Int.reduceAdd, Int.reduceSub, Int.reduceMul, Int.zero_add, Int.add_zero, Nat.zero_add, na_0, ca_la, ca_al, ca_lm, ca_add, ca_mod, ca_lit, tn_c, Int.natCast_zero, bd_some, bd2_some, bindv_e, chk_ok, cr_ok, crl_ok, chd_ok, chb_0, chb_1, cr_bI, chb_bI, ite_bI0, if_true, if_false]) 400 0 R (by omega) (by omega)
    unfold lX8_isWhole_25
    rw [Int.natCast_zero] at q
    rw [q]
    refine congrArg (fun v => fX8_isWhole_97 v τ) (bI_c ⟨fun a => ⟨a.1, fun r hr => a.2 r (Nat.zero_le r) hr⟩, fun a => ⟨a.1, fun r _ hr => a.2 r hr⟩⟩)
  have fin : ∀ R : Prop, (R ↔ P ≤ np) → fX8_isWhole_97 (bI (R ∧ ∀ r, r < nr → COK L r)) τ = some (bI (WHO L P ∧ FAIR L)) := fun R hR => by
    by_cases w : WHO L P
    · have hF := m_isFair (o := 420) (by omega) (hWF w) hM
      rw [show ((420 : Nat) : Int) = 420 from rfl] at hF
      obtain ⟨w1, w2⟩ := w
      rw [bI_t ⟨hR.mpr (by omega), fun r hr => w2 r (by omega)⟩]
      unfold fX8_isWhole_97 fX8_isWhole_115 fX8_isWhole_116
      rw [cr_ok (by omega), if_neg (by omega), hF, bd_some]
      by_cases q : FAIR L
      · rw [bI_t q, bI_t ⟨⟨w1, w2⟩, q⟩, cr_ok (by omega), if_neg (by omega), chb_1]
      · rw [bI_f q, bI_f (fun z => q z.2), cr_ok (by omega), if_pos rfl, chb_0]
    · rw [bI_f (fun z => w ⟨by have := hR.mp z.1; omega, fun r hr => z.2 r (by omega)⟩), bI_f (fun z => w z.1)]
      unfold fX8_isWhole_97 fX8_isWhole_115 fX8_isWhole_116
      rw [cr_ok (by omega), if_pos rfl, chb_0]
  have t12 := h7.1
  have hP := h7.2.1
  unfold fX8_isWhole
  rw [chk_ok (by omega), bindv_e, t8, t12, cr_ok (by omega), cr_ok (by omega)]
  by_cases z : (np : Int) < P
  · rw [if_pos z]
    unfold fX8_isWhole_22
    have k0 := k25 False
    rw [bI_f (P := False) (fun z => z)] at k0
    rw [bindv_e, bindv_e, k0]
    exact fin False ⟨fun a => a.elim, fun a => by omega⟩
  · rw [if_neg z]
    unfold fX8_isWhole_22
    have k0 := k25 True
    rw [bI_t (P := True) trivial] at k0
    rw [bindv_e, bindv_e, k0]
    exact fin True ⟨fun _ => by omega, fun _ => trivial⟩
