/-! what is fair: class and reference mean the same -/
def GE (L : Ld) (ne : Nat) (A B : Nat → Nat) : Prop := (∀ e, e < ne → ∃ r i, r < L.nr ∧ i < L.cn r ∧ isE L r i (A e) (B e)) ∧ (∀ r i, r < L.nr → i < L.cn r → ∃ e, e < ne ∧ isE L r i (A e) (B e)) ∧ (∀ e e', e < ne → e' < ne → ((A e = A e' ∧ B e = B e') ∨ (A e = B e' ∧ B e = A e')) → e = e')
theorem c_isFair {σ : Mm} {L : Ld} {k ne : Nat} {A B : Nat → Nat} (hw : WF L) (h : CL σ k L) (hE : EL σ k L.np ne A B) (hU : ∀ e, e < ne → σ (k + 8) e = us L (A e) (B e)) : fX1_isFair k σ = some (bI ((∀ e, e < ne → us L (A e) (B e) ≤ 2) ∧ (∀ p, p < L.np → FA L ne A B p) ∧ (∀ r, r < L.nr → AR L r ≠ 0))) := by
  have hn := hw.1
  obtain ⟨hNe, h60, -⟩ := id hE
  obtain ⟨hP, -⟩ := id h
  have ka := c_areasStand hw h
  have k30 := it_ex0 (f := fun c => fX1_isFair_30 k σ (fX1_isFair_54 k σ) c) L.np (fun p => ¬ FA L ne A B p) (some 0) (fX1_isFair_54 k σ) (by omega) (fun c p hp => by
    have e1 := c_isFairAround hw h hE hp
    simp (disch := omega) only [fX1_isFair_30, hP, e1, if_pos, pI_n, Int.reduceAdd, Int.reduceSub, Int.reduceMul, Int.zero_add, Int.add_zero, Nat.zero_add, na_0, ca_la, ca_al, ca_lm, ca_add, ca_mod, ca_lit, tn_c, Int.natCast_zero, bd_some, bd2_some, bindv_e, chk_ok, cr_ok, crl_ok, chd_ok, chb_0, chb_1, cr_bI, chb_bI, ite_bI0, if_true, if_false]) (fun c => by
    simp (disch := omega) only [fX1_isFair_30, hP, if_neg, Int.reduceAdd, Int.reduceSub, Int.reduceMul, Int.zero_add, Int.add_zero, Nat.zero_add, na_0, ca_la, ca_al, ca_lm, ca_add, ca_mod, ca_lit, tn_c, Int.natCast_zero, bd_some, bd2_some, bindv_e, chk_ok, cr_ok, crl_ok, chd_ok, chb_0, chb_1, cr_bI, chb_bI, ite_bI0, if_true, if_false])
  have k2 := it_ex0 (f := fun c => fX1_isFair_2 k σ (fX1_isFair_28 k σ) c) ne (fun e => 2 < us L (A e) (B e)) (some 0) (fX1_isFair_28 k σ) (by omega) (fun c e he => by
    have e1 := us_b hw (A e) (B e)
    simp (disch := omega) only [fX1_isFair_2, hNe, hU, if_pos, pI_ite, Int.reduceAdd, Int.reduceSub, Int.reduceMul, Int.zero_add, Int.add_zero, Nat.zero_add, na_0, ca_la, ca_al, ca_lm, ca_add, ca_mod, ca_lit, tn_c, Int.natCast_zero, bd_some, bd2_some, bindv_e, chk_ok, cr_ok, crl_ok, chd_ok, chb_0, chb_1, cr_bI, chb_bI, ite_bI0, if_true, if_false]) (fun c => by
    simp (disch := omega) only [fX1_isFair_2, hNe, if_neg, Int.reduceAdd, Int.reduceSub, Int.reduceMul, Int.zero_add, Int.add_zero, Nat.zero_add, na_0, ca_la, ca_al, ca_lm, ca_add, ca_mod, ca_lit, tn_c, Int.natCast_zero, bd_some, bd2_some, bindv_e, chk_ok, cr_ok, crl_ok, chd_ok, chb_0, chb_1, cr_bI, chb_bI, ite_bI0, if_true, if_false])
  simp only [fX1_isFair, lX1_isFair_2, bindv_e]
  rw [k2]
  simp only [fX1_isFair_28, lX1_isFair_30, bindv_e]
  rw [k30]
  simp only [fX1_isFair_54, ka, bd_some, chb_bI, pI_some, pI_some', b_and, b_or, b_nand, b_imp]
  apply ob_c
  rw [nex_and, nex_and]
  constructor
  · rintro ⟨z1, z2, z3⟩
    exact ⟨fun e q => by have := z1 e q; omega, fun p q => Classical.not_not.mp (z2 p q), z3⟩
  · rintro ⟨z1, z2, z3⟩
    exact ⟨fun e q => by have := z1 e q; omega, fun p q w => w (z2 p q), z3⟩
theorem crs_sw (ax ay bx by_ x y : Int) : crs bx by_ ax ay x y = - crs ax ay bx by_ x y := by
  unfold crs
  grind
theorem ON_sw {L : Ld} {a b p : Nat} : ON L a b p ↔ ON L b a p := by
  unfold ON onS
  rw [crs_sw (L.X a) (L.Y a) (L.X b) (L.Y b)]
  unfold btw
  constructor <;> (rintro ⟨z1, z2, z3⟩; exact ⟨by omega, by omega, by omega⟩)
theorem TR_sw (L : Ld) (a b c : Nat) : TR L b a c = - TR L a b c := crs_sw _ _ _ _ _ _
theorem XS_1 {L : Ld} {a b c d : Nat} : XS L a b c d ↔ XS L b a c d := by
  unfold XS opp
  rw [TR_sw L a b c, TR_sw L a b d]
  omega
theorem XS_2 {L : Ld} {a b c d : Nat} : XS L a b c d ↔ XS L a b d c := by
  unfold XS opp
  rw [TR_sw L c d a, TR_sw L c d b]
  omega
theorem XS_3 {L : Ld} {a b c d : Nat} : XS L a b c d ↔ XS L c d a b := by
  unfold XS
  exact And.comm
theorem isE_sw {L : Ld} {r i p q : Nat} : isE L r i p q ↔ isE L r i q p := by
  unfold isE
  omega
theorem us_sw (L : Ld) (p q : Nat) : us L p q = us L q p := by
  unfold us
  exact sm_c fun r _ => sm_c fun i _ => bI_c isE_sw
theorem isE_ce {L : Ld} {r i a b : Nat} (h : isE L r i a b) : (L.co r i = a ∧ cx L r i = b) ∨ (L.co r i = b ∧ cx L r i = a) := h
/-- the class's words of what is fair -/
def FAIRc (L : Ld) (ne : Nat) (A B : Nat → Nat) : Prop := (∀ e, e < ne → us L (A e) (B e) ≤ 2) ∧ (∀ p, p < L.np → FA L ne A B p) ∧ (∀ r, r < L.nr → AR L r ≠ 0)
theorem CLR_EF {L : Ld} {ne : Nat} {A B : Nat → Nat} (hG : GE L ne A B) {a b : Nat} : CLR L ne A B a b ↔ ((∀ p, p < L.np → p ≠ a → p ≠ b → ¬ ON L a b p) ∧ (∀ r i, r < L.nr → i < L.cn r → ¬ (a ≠ L.co r i ∧ a ≠ cx L r i ∧ b ≠ L.co r i ∧ b ≠ cx L r i ∧ XS L a b (L.co r i) (cx L r i)))) := by
  unfold CLR
  constructor
  · rintro ⟨z1, z2⟩
    refine ⟨z1, fun r i hr hi hq => ?_⟩
    obtain ⟨e, he, hie⟩ := hG.2.1 r i hr hi
    refine z2 e he ?_
    rcases isE_ce hie with ⟨q1, q2⟩ | ⟨q1, q2⟩
    · rw [← q1, ← q2]
      exact ⟨by omega, by omega, hq.2.2.2.2⟩
    · rw [← q1, ← q2]
      exact ⟨by omega, by omega, XS_2.mp hq.2.2.2.2⟩
  · rintro ⟨z1, z2⟩
    refine ⟨z1, fun e he hq => ?_⟩
    obtain ⟨r, i, hr, hi, hie⟩ := hG.1 e he
    refine z2 r i hr hi ?_
    rcases isE_ce hie with ⟨q1, q2⟩ | ⟨q1, q2⟩
    · rw [q1, q2]
      exact ⟨by omega, by omega, by omega, by omega, hq.2.2⟩
    · rw [q1, q2]
      exact ⟨by omega, by omega, by omega, by omega, XS_2.mp hq.2.2⟩
theorem EF_CLR {L : Ld} {ne : Nat} {A B : Nat → Nat} (hG : GE L ne A B) {a b : Nat} : EF L a b ↔ us L a b ≤ 2 ∧ CLR L ne A B a b := by
  rw [CLR_EF hG]
  rfl
theorem CLR_sw {L : Ld} {ne : Nat} {A B : Nat → Nat} {a b : Nat} (h : CLR L ne A B a b) : CLR L ne A B b a := by
  refine ⟨fun p q1 q2 q3 q4 => h.1 p q1 q3 q2 (ON_sw.mpr q4), fun g q1 q2 => h.2 g q1 ⟨q2.2.1, q2.1, XS_1.mpr q2.2.2⟩⟩
theorem fair_iff {L : Ld} {ne : Nat} {A B : Nat → Nat} (hw : WF L) (hG : GE L ne A B) (hAl : ∀ e, e < ne → A e < L.np) (hBl : ∀ e, e < ne → B e < L.np) : FAIRc L ne A B ↔ FAIR L := by
  constructor
  · rintro ⟨z1, z2, z3⟩
    refine ⟨fun p q hp hq w => (z2 p hp).1 q (by omega) (by omega) ⟨w.1.symm, w.2.symm⟩, fun r hr => ⟨z3 r hr, fun i hi => ?_⟩⟩
    obtain ⟨e, he, hie⟩ := hG.2.1 r i hr hi
    have c1 := ((z2 (A e) (hAl e he)).2 e he).1 (Or.inl rfl)
    have c2 := z1 e he
    rw [EF_CLR hG]
    rcases isE_ce hie with ⟨q1, q2⟩ | ⟨q1, q2⟩
    · rw [q1, q2]; exact ⟨c2, c1⟩
    · rw [q1, q2]; exact ⟨by rw [us_sw]; exact c2, CLR_sw c1⟩
  · rintro ⟨z1, z2⟩
    have ce : ∀ e, e < ne → us L (A e) (B e) ≤ 2 ∧ CLR L ne A B (A e) (B e) := by
      intro e he
      obtain ⟨r, i, hr, hi, hie⟩ := hG.1 e he
      have c1 := (EF_CLR hG).mp ((z2 r hr).2 i hi)
      rcases isE_ce hie with ⟨q1, q2⟩ | ⟨q1, q2⟩
      · rw [q1, q2] at c1; exact c1
      · rw [q1, q2] at c1; exact ⟨by rw [us_sw]; exact c1.1, CLR_sw c1.2⟩
    refine ⟨fun e he => (ce e he).1, fun p hp => ⟨fun q hq hne w => ?_, fun e he => ⟨fun _ => (ce e he).2, fun w => (ce e he).2.1 p hp (by omega) (by omega)⟩⟩, fun r hr => (z2 r hr).1⟩
    rcases Nat.lt_or_ge q p with g | g
    · exact z1 p q hp g ⟨w.1.symm, w.2.symm⟩
    · exact z1 q p hq (by omega) w
/-- a point moved -/
def mv (L : Ld) (p : Nat) (x y : Int) : Ld := (L.1, L.2.1, L.2.2.1, upZ L.X p x, upZ L.Y p y, L.P)
theorem mv_wf {L : Ld} (hw : WF L) {p : Nat} {x y : Int} (hx : inP x) (hy : inP y) : WF (mv L p x y) := by
  obtain ⟨h1, h2, h3, h4, h5, h6, h7, h8⟩ := hw
  refine ⟨h1, h2, h3, h4, h5, fun q hq => ?_, fun q hq => ?_, h8⟩
  · show 0 ≤ upZ L.X p x q ∧ upZ L.X p x q ≤ 199
    unfold upZ; split
    · exact hx
    · exact h6 q hq
  · show 0 ≤ upZ L.Y p y q ∧ upZ L.Y p y q ≤ 199
    unfold upZ; split
    · exact hy
    · exact h7 q hq
theorem mv_us (L : Ld) (p : Nat) (x y : Int) (a b : Nat) : us (mv L p x y) a b = us L a b := rfl
theorem mv_GE {L : Ld} {ne : Nat} {A B : Nat → Nat} {p : Nat} {x y : Int} (h : GE L ne A B) : GE (mv L p x y) ne A B := h
theorem mv_X {L : Ld} {p : Nat} {x y : Int} {q : Nat} (h : q ≠ p) : (mv L p x y).X q = L.X q := if_neg h
theorem mv_Y {L : Ld} {p : Nat} {x y : Int} {q : Nat} (h : q ≠ p) : (mv L p x y).Y q = L.Y q := if_neg h
theorem mv_ON {L : Ld} {p : Nat} {x y : Int} {a b c : Nat} (ha : a ≠ p) (hb : b ≠ p) (hc : c ≠ p) : ON (mv L p x y) a b c ↔ ON L a b c := by
  unfold ON
  rw [mv_X ha, mv_X hb, mv_X hc, mv_Y ha, mv_Y hb, mv_Y hc]
theorem mv_TR {L : Ld} {p : Nat} {x y : Int} {a b c : Nat} (ha : a ≠ p) (hb : b ≠ p) (hc : c ≠ p) : TR (mv L p x y) a b c = TR L a b c := by
  unfold TR
  rw [mv_X ha, mv_X hb, mv_X hc, mv_Y ha, mv_Y hb, mv_Y hc]
theorem mv_XS {L : Ld} {p : Nat} {x y : Int} {a b c d : Nat} (ha : a ≠ p) (hb : b ≠ p) (hc : c ≠ p) (hd : d ≠ p) : XS (mv L p x y) a b c d ↔ XS L a b c d := by
  unfold XS
  rw [mv_TR ha hb hc, mv_TR ha hb hd, mv_TR hc hd ha, mv_TR hc hd hb]
/-- what the moved point has no part in is as fair as it was -/
theorem mv_fair {L : Ld} {ne : Nat} {A B : Nat → Nat} {p : Nat} {x y : Int} (hw : WF L) (hx : inP x) (hy : inP y) (hG : GE L ne A B) (hAl : ∀ e, e < ne → A e < L.np) (hBl : ∀ e, e < ne → B e < L.np) (hp : p < L.np) (hF : FAIR L) : (FA (mv L p x y) ne A B p ∧ (∀ r, r < L.nr → AR (mv L p x y) r ≠ 0)) ↔ FAIR (mv L p x y) := by
  have hw' := mv_wf (p := p) hw hx hy
  have fi := fair_iff hw' (mv_GE hG) hAl hBl
  have f0 := (fair_iff hw hG hAl hBl).mpr hF
  constructor
  · rintro ⟨z1, z2⟩
    apply fi.mp
    refine ⟨f0.1, fun q hq => ?_, z2⟩
    by_cases hqp : q = p
    · rw [hqp]; exact z1
    have cp : ∀ e, e < ne → (A e = p ∨ B e = p) → CLR (mv L p x y) ne A B (A e) (B e) := fun e he w => (z1.2 e he).1 w
    have c0 : ∀ e, e < ne → CLR L ne A B (A e) (B e) := fun e he => ((f0.2.1 (A e) (hAl e he)).2 e he).1 (Or.inl rfl)
    have cc : ∀ e, e < ne → CLR (mv L p x y) ne A B (A e) (B e) := by
      intro e he
      by_cases hep : A e = p ∨ B e = p
      · exact cp e he hep
      refine ⟨fun s hs q1 q2 => ?_, fun g hg w => ?_⟩
      · by_cases hsp : s = p
        · rw [hsp]; exact (z1.2 e he).2 hep
        · rw [mv_ON (by omega) (by omega) hsp]; exact (c0 e he).1 s hs q1 q2
      · by_cases hgp : A g = p ∨ B g = p
        · exact (cp g hg hgp).2 e he ⟨by omega, by omega, XS_3.mp w.2.2⟩
        · exact (c0 e he).2 g hg ⟨w.1, w.2.1, (mv_XS (by omega) (by omega) (by omega) (by omega)).mp w.2.2⟩
    refine ⟨fun s hs hsq => ?_, fun e he => ⟨fun _ => cc e he, fun w => (cc e he).1 q hq (by omega) (by omega)⟩⟩
    by_cases hsp : s = p
    · rw [hsp]
      intro w
      exact z1.1 q hq hqp ⟨w.1.symm, w.2.symm⟩
    · rw [mv_X hsp, mv_Y hsp, mv_X hqp, mv_Y hqp]
      exact (f0.2.1 q hq).1 s hs hsq
  · intro z
    have z' := fi.mpr z
    exact ⟨z'.2.1 p hp, z'.2.2⟩
