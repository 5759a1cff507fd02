/-! the class: what is fair -/
def EL (σ : Mm) (k np ne : Nat) (A B : Nat → Nat) : Prop := σ k 11 = (ne : Int) ∧ ne ≤ 60 ∧ (∀ e, e < ne → σ (k + 6) e = (A e : Int)) ∧ (∀ e, e < ne → σ (k + 7) e = (B e : Int)) ∧ (∀ e, e < ne → A e < np) ∧ (∀ e, e < ne → B e < np)
theorem c_following (σ : Mm) {i n : Nat} (h : i < n) (hn : n < 1000) : fX7_following (i : Int) (n : Int) σ = some (((i + 1) % n : Nat) : Int) := by
  simp (disch := omega) only [fX7_following, fX7_following_14, Int.reduceAdd, Int.reduceSub, Int.reduceMul, Int.zero_add, Int.add_zero, Nat.zero_add, na_0, ca_la, ca_al, ca_lm, ca_add, ca_mod, ca_lit, tn_c, Int.natCast_zero, bd_some, bd2_some, bindv_e, chk_ok, cr_ok, crl_ok, chd_ok, chb_0, chb_1, cr_bI, chb_bI, ite_bI0, if_true, if_false]
  by_cases h1 : i + 1 < n
  · rw [if_pos (by omega), Nat.mod_eq_of_lt h1]
  · rw [if_neg (by omega), show i + 1 = n by omega, Nat.mod_self]
    rfl
theorem c_preceding (σ : Mm) {i n : Nat} (h : i < n) (hn : n < 1000) : fX7_preceding (i : Int) (n : Int) σ = some (((i + n - 1) % n : Nat) : Int) := by
  simp (disch := omega) only [fX7_preceding, fX7_preceding_13, Int.reduceAdd, Int.reduceSub, Int.reduceMul, Int.zero_add, Int.add_zero, Nat.zero_add, na_0, ca_la, ca_al, ca_lm, ca_add, ca_mod, ca_lit, tn_c, Int.natCast_zero, bd_some, bd2_some, bindv_e, chk_ok, cr_ok, crl_ok, chd_ok, chb_0, chb_1, cr_bI, chb_bI, ite_bI0, if_true, if_false]
  by_cases h1 : 0 < i
  · rw [if_pos (by omega), show i + n - 1 = (i - 1) + n by omega, Nat.add_mod_right, Nat.mod_eq_of_lt (by omega)]
    congr 1
    omega
  · rw [if_neg (by omega), show i + n - 1 = n - 1 by omega, Nat.mod_eq_of_lt (by omega)]
    congr 1
    omega
theorem c_sideOf {σ : Mm} {L : Ld} {k a b : Nat} (x y : Int) (hw : WF L) (h : CL σ k L) (ha : a < L.np) (hb : b < L.np) : fX1_sideOf k a b x y σ = some (crs (L.X a) (L.Y a) (L.X b) (L.Y b) x y) := by
  have hn := hw.1
  obtain ⟨-, -, hX, hY, -⟩ := h
  simp (disch := omega) only [fX1_sideOf, hX, hY, crs, Int.reduceAdd, Int.reduceSub, Int.reduceMul, Int.zero_add, Int.add_zero, Nat.zero_add, na_0, ca_la, ca_al, ca_lm, ca_add, ca_mod, ca_lit, tn_c, Int.natCast_zero, bd_some, bd2_some, bindv_e, chk_ok, cr_ok, crl_ok, chd_ok, chb_0, chb_1, cr_bI, chb_bI, ite_bI0, if_true, if_false]
theorem mnmx_x (x a b : Int) : (¬ x < mnI a b ∧ ¬ mxI a b < x) ↔ btw x a b := by
  unfold mnI mxI btw
  repeat' split
  all_goals (constructor <;> intro z <;> omega)
theorem mnI_b {a b : Int} (ha : inP a) (hb : inP b) : inP (mnI a b) := by
  unfold mnI; split <;> assumption
theorem mxI_b {a b : Int} (ha : inP a) (hb : inP b) : inP (mxI a b) := by
  unfold mxI; split <;> assumption
theorem c_isOn {σ : Mm} {L : Ld} {k a b : Nat} {x y : Int} (hw : WF L) (h : CL σ k L) (ha : a < L.np) (hb : b < L.np) (hx : inP x) (hy : inP y) : fX1_isOn k a b x y σ = some (bI (onS (L.X a) (L.Y a) (L.X b) (L.Y b) x y)) := by
  have hn := hw.1
  have hs := c_sideOf x y hw h ha hb
  obtain ⟨-, -, hX, hY, -⟩ := h
  obtain ⟨-, -, -, -, -, wX, wY, -⟩ := hw
  have x1 := wX a ha
  have x2 := wX b hb
  have y1 := wY a ha
  have y2 := wY b hb
  have e0 := crs_b x1 y1 x2 y2 hx hy
  have e1 := mnI_b x1 x2
  have e2 := mxI_b x1 x2
  have e3 := mnI_b y1 y2
  have e4 := mxI_b y1 y2
  simp (disch := omega) only [fX1_isOn, fX1_isOn_94, fX1_isOn_95, hs, hX, hY, pI_ite, pI_some, pI_some', b_and, b_or, b_nand, b_imp, Int.reduceAdd, Int.reduceSub, Int.reduceMul, Int.zero_add, Int.add_zero, Nat.zero_add, na_0, ca_la, ca_al, ca_lm, ca_add, ca_mod, ca_lit, tn_c, Int.natCast_zero, bd_some, bd2_some, bindv_e, chk_ok, cr_ok, crl_ok, chd_ok, chb_0, chb_1, cr_bI, chb_bI, ite_bI0, if_true, if_false]
  unfold onS
  apply ob_c
  have z1 := mnmx_x x (L.X a) (L.X b)
  have z2 := mnmx_x y (L.Y a) (L.Y b)
  rw [← z1, ← z2]
  constructor
  · rintro ⟨p1, p2, p3, p4, p5⟩; exact ⟨p1, ⟨p2, p3⟩, p4, p5⟩
  · rintro ⟨p1, ⟨p2, p3⟩, p4, p5⟩; exact ⟨p1, p2, p3, p4, p5⟩
theorem c_cross {σ : Mm} {L : Ld} {k a b c d : Nat} (hw : WF L) (h : CL σ k L) (ha : a < L.np) (hb : b < L.np) (hc : c < L.np) (hd : d < L.np) : fX1_cross k a b c d σ = some (bI (XS L a b c d)) := by
  have hn := hw.1
  have s1 := c_sideOf (L.X c) (L.Y c) hw h ha hb
  have s2 := c_sideOf (L.X d) (L.Y d) hw h ha hb
  have s3 := c_sideOf (L.X a) (L.Y a) hw h hc hd
  have s4 := c_sideOf (L.X b) (L.Y b) hw h hc hd
  have b1 := TR_b hw ha hb hc
  have b2 := TR_b hw ha hb hd
  have b3 := TR_b hw hc hd ha
  have b4 := TR_b hw hc hd hb
  unfold TR at b1 b2 b3 b4
  obtain ⟨-, -, hX, hY, -⟩ := h
  simp (disch := omega) only [fX1_cross, fX1_cross_92, fX1_cross_93, s1, s2, s3, s4, hX, hY, c_areOpposite, pI_some, pI_some', b_and, b_or, b_nand, b_imp, Int.reduceAdd, Int.reduceSub, Int.reduceMul, Int.zero_add, Int.add_zero, Nat.zero_add, na_0, ca_la, ca_al, ca_lm, ca_add, ca_mod, ca_lit, tn_c, Int.natCast_zero, bd_some, bd2_some, bindv_e, chk_ok, cr_ok, crl_ok, chd_ok, chb_0, chb_1, cr_bI, chb_bI, ite_bI0, if_true, if_false]
  rfl
theorem c_ends {σ : Mm} {k np ne e p : Nat} {A B : Nat → Nat} (hE : EL σ k np ne A B) (hnp : np ≤ 24) (he : e < ne) (hp : p < 1000) : fX1_ends k e p σ = some (bI (A e = p ∨ B e = p)) := by
  obtain ⟨-, h60, hA, hB, hAl, hBl⟩ := hE
  have a1 := hAl e he
  have b1 := hBl e he
  simp (disch := omega) only [fX1_ends, fX1_ends_20, fX1_ends_25, hA, hB, Int.reduceAdd, Int.reduceSub, Int.reduceMul, Int.zero_add, Int.add_zero, Nat.zero_add, na_0, ca_la, ca_al, ca_lm, ca_add, ca_mod, ca_lit, tn_c, Int.natCast_zero, bd_some, bd2_some, bindv_e, chk_ok, cr_ok, crl_ok, chd_ok, chb_0, chb_1, cr_bI, chb_bI, ite_bI0, if_true, if_false]
  repeat' split
  all_goals first | (rw [bI_t (by omega)]; done) | rw [bI_f (by omega)]
/-- no other point is on the edge, no other edge crosses it -/
def CLR (L : Ld) (ne : Nat) (A B : Nat → Nat) (a b : Nat) : Prop := (∀ p, p < L.np → p ≠ a → p ≠ b → ¬ ON L a b p) ∧ (∀ g, g < ne → ¬ (¬ (A g = a ∨ B g = a) ∧ ¬ (A g = b ∨ B g = b) ∧ XS L a b (A g) (B g)))
theorem c_isClear {σ : Mm} {L : Ld} {k ne e : Nat} {A B : Nat → Nat} (hw : WF L) (h : CL σ k L) (hE : EL σ k L.np ne A B) (he : e < ne) : fX1_isClear k e σ = some (bI (CLR L ne A B (A e) (B e))) := by
  have hn := hw.1
  obtain ⟨hNe, h60, hA, hB, hAl, hBl⟩ := id hE
  obtain ⟨hP, -, hX, hY, -⟩ := id h
  have ha := hAl e he
  have hb := hBl e he
  generalize hae : A e = a at ha
  generalize hbe : B e = b at hb
  have k72 := it_ex0 (f := fun c => fX1_isClear_72 k a b σ (fX1_isClear_132 k σ) c) ne (fun g => ¬ (A g = a ∨ B g = a) ∧ ¬ (A g = b ∨ B g = b) ∧ XS L a b (A g) (B g)) (some 0) (some 1) (by omega) (fun c g hg => by
    have e1 := c_ends hE hn hg (p := a) (by omega)
    have e2 := c_ends hE hn hg (p := b) (by omega)
    have e3 := c_cross hw h ha hb (hAl g hg) (hBl g hg)
    simp (disch := omega) only [fX1_isClear_72, fX1_isClear_126, hNe, e1, e2, e3, hA, hB, if_pos, Int.reduceAdd, Int.reduceSub, Int.reduceMul, Int.zero_add, Int.add_zero, Nat.zero_add, na_0, ca_la, ca_al, ca_lm, ca_add, ca_mod, ca_lit, tn_c, Int.natCast_zero, bd_some, bd2_some, bindv_e, chk_ok, cr_ok, crl_ok, chd_ok, chb_0, chb_1, cr_bI, chb_bI, ite_bI0, if_true, if_false]
    by_cases q1 : A g = a ∨ B g = a
    · rw [pI_t q1, pI_f (fun z => z.1 q1)]
    rw [pI_f q1]
    by_cases q2 : A g = b ∨ B g = b
    · rw [pI_t q2, pI_f (fun z => z.2.1 q2)]
    rw [pI_f q2]
    exact pI_c ⟨fun z => ⟨q1, q2, z⟩, fun z => z.2.2⟩) (fun c => by
    simp (disch := omega) only [fX1_isClear_72, fX1_isClear_132, hNe, if_neg, Int.reduceAdd, Int.reduceSub, Int.reduceMul, Int.zero_add, Int.add_zero, Nat.zero_add, na_0, ca_la, ca_al, ca_lm, ca_add, ca_mod, ca_lit, tn_c, Int.natCast_zero, bd_some, bd2_some, bindv_e, chk_ok, cr_ok, crl_ok, chd_ok, chb_0, chb_1, cr_bI, chb_bI, ite_bI0, if_true, if_false])
  have k17 := it_ex0 (f := fun c => fX1_isClear_17 k a b σ (fX1_isClear_69 k a b σ) c) L.np (fun p => p ≠ a ∧ p ≠ b ∧ ON L a b p) (some 0) (fX1_isClear_69 k a b σ) (by omega) (fun c p hp => by
    have m3 := c_isOn hw h ha hb (hw.2.2.2.2.2.1 p hp) (hw.2.2.2.2.2.2.1 p hp)
    simp (disch := omega) only [fX1_isClear_17, fX1_isClear_63, hP, hX, hY, m3, if_pos, Int.reduceAdd, Int.reduceSub, Int.reduceMul, Int.zero_add, Int.add_zero, Nat.zero_add, na_0, ca_la, ca_al, ca_lm, ca_add, ca_mod, ca_lit, tn_c, Int.natCast_zero, bd_some, bd2_some, bindv_e, chk_ok, cr_ok, crl_ok, chd_ok, chb_0, chb_1, cr_bI, chb_bI, ite_bI0, if_true, if_false]
    by_cases h1 : p = a
    · rw [if_pos (by omega), pI_f (fun z => z.1 h1)]
    rw [if_neg (by omega)]
    by_cases h2 : p = b
    · rw [if_pos (by omega), pI_f (fun z => z.2.1 h2)]
    rw [if_neg (by omega)]
    exact pI_c ⟨fun z => ⟨h1, h2, z⟩, fun z => z.2.2⟩) (fun c => by
    simp (disch := omega) only [fX1_isClear_17, hP, if_neg, Int.reduceAdd, Int.reduceSub, Int.reduceMul, Int.zero_add, Int.add_zero, Nat.zero_add, na_0, ca_la, ca_al, ca_lm, ca_add, ca_mod, ca_lit, tn_c, Int.natCast_zero, bd_some, bd2_some, bindv_e, chk_ok, cr_ok, crl_ok, chd_ok, chb_0, chb_1, cr_bI, chb_bI, ite_bI0, if_true, if_false])
  simp (disch := omega) only [fX1_isClear, hA, hB, hae, hbe, lX1_isClear_17, Int.reduceAdd, Int.reduceSub, Int.reduceMul, Int.zero_add, Int.add_zero, Nat.zero_add, na_0, ca_la, ca_al, ca_lm, ca_add, ca_mod, ca_lit, tn_c, Int.natCast_zero, bd_some, bd2_some, bindv_e, chk_ok, cr_ok, crl_ok, chd_ok, chb_0, chb_1, cr_bI, chb_bI, ite_bI0, if_true, if_false]
  rw [k17]
  simp only [fX1_isClear_69, lX1_isClear_72, bindv_e]
  rw [k72]
  simp only [pI_some, pI_some', b_and, b_or, b_nand, b_imp]
  apply ob_c
  unfold CLR
  rw [nex_and, nex_and]
  constructor
  · rintro ⟨z1, z2⟩
    exact ⟨fun p q1 q2 q3 q4 => z1 p q1 ⟨q2, q3, q4⟩, z2⟩
  · rintro ⟨z1, z2⟩
    exact ⟨fun p q1 q2 => z1 p q1 q2.1 q2.2.1 q2.2.2, z2⟩
/-- what is fair around a point -/
def FA (L : Ld) (ne : Nat) (A B : Nat → Nat) (p : Nat) : Prop := (∀ q, q < L.np → q ≠ p → ¬ (L.X q = L.X p ∧ L.Y q = L.Y p)) ∧ (∀ e, e < ne → ((A e = p ∨ B e = p) → CLR L ne A B (A e) (B e)) ∧ (¬ (A e = p ∨ B e = p) → ¬ ON L (A e) (B e) p))
theorem c_isFairAround {σ : Mm} {L : Ld} {k ne p : Nat} {A B : Nat → Nat} (hw : WF L) (h : CL σ k L) (hE : EL σ k L.np ne A B) (hp : p < L.np) : fX1_isFairAround k p σ = some (bI (FA L ne A B p)) := by
  have hn := hw.1
  obtain ⟨hNe, h60, hA, hB, hAl, hBl⟩ := id hE
  obtain ⟨hP, -, hX, hY, -⟩ := id h
  have x1 := hw.2.2.2.2.2.1 p hp
  have y1 := hw.2.2.2.2.2.2.1 p hp
  have k55 := it_ex0 (f := fun c => fX1_isFairAround_55 k p σ (fX1_isFairAround_122 k σ) c) ne (fun e => ¬ (((A e = p ∨ B e = p) → CLR L ne A B (A e) (B e)) ∧ (¬ (A e = p ∨ B e = p) → ¬ ON L (A e) (B e) p))) (some 0) (some 1) (by omega) (fun c e he => by
    have e1 := c_ends hE hn he (p := p) (by omega)
    have e2 := c_isOn hw h (hAl e he) (hBl e he) x1 y1
    have e3 := c_isClear hw h hE he
    simp (disch := omega) only [fX1_isFairAround_55, fX1_isFairAround_116, fX1_isFairAround_114, hNe, e1, e2, e3, hA, hB, hX, hY, if_pos, Int.reduceAdd, Int.reduceSub, Int.reduceMul, Int.zero_add, Int.add_zero, Nat.zero_add, na_0, ca_la, ca_al, ca_lm, ca_add, ca_mod, ca_lit, tn_c, Int.natCast_zero, bd_some, bd2_some, bindv_e, chk_ok, cr_ok, crl_ok, chd_ok, chb_0, chb_1, cr_bI, chb_bI, ite_bI0, if_true, if_false]
    by_cases q1 : A e = p ∨ B e = p
    · rw [pI_t q1, ← pI_n]
      exact pI_c ⟨fun z w => z (w.1 q1), fun z w => z ⟨fun _ => w, fun q => absurd q1 q⟩⟩
    · rw [pI_f q1]
      exact pI_c ⟨fun z w => w.2 q1 z, fun z => Classical.byContradiction fun w => z ⟨fun q => absurd q q1, fun _ => w⟩⟩) (fun c => by
    simp (disch := omega) only [fX1_isFairAround_55, fX1_isFairAround_122, hNe, if_neg, Int.reduceAdd, Int.reduceSub, Int.reduceMul, Int.zero_add, Int.add_zero, Nat.zero_add, na_0, ca_la, ca_al, ca_lm, ca_add, ca_mod, ca_lit, tn_c, Int.natCast_zero, bd_some, bd2_some, bindv_e, chk_ok, cr_ok, crl_ok, chd_ok, chb_0, chb_1, cr_bI, chb_bI, ite_bI0, if_true, if_false])
  have k2 := it_ex0 (f := fun c => fX1_isFairAround_2 k p σ (fX1_isFairAround_53 k p σ) c) L.np (fun q => q ≠ p ∧ L.X q = L.X p ∧ L.Y q = L.Y p) (some 0) (fX1_isFairAround_53 k p σ) (by omega) (fun c q hq => by
    have x2 := hw.2.2.2.2.2.1 q hq
    have y2 := hw.2.2.2.2.2.2.1 q hq
    simp (disch := omega) only [fX1_isFairAround_2, fX1_isFairAround_47, hP, hX, hY, if_pos, Int.reduceAdd, Int.reduceSub, Int.reduceMul, Int.zero_add, Int.add_zero, Nat.zero_add, na_0, ca_la, ca_al, ca_lm, ca_add, ca_mod, ca_lit, tn_c, Int.natCast_zero, bd_some, bd2_some, bindv_e, chk_ok, cr_ok, crl_ok, chd_ok, chb_0, chb_1, cr_bI, chb_bI, ite_bI0, if_true, if_false]
    by_cases h1 : q = p
    · rw [if_pos (by omega), pI_f (fun z => z.1 h1)]
    rw [if_neg (by omega), pI_ite, pI_ite, pI_and]
    exact pI_c ⟨fun z => ⟨h1, z⟩, fun z => z.2⟩) (fun c => by
    simp (disch := omega) only [fX1_isFairAround_2, hP, if_neg, Int.reduceAdd, Int.reduceSub, Int.reduceMul, Int.zero_add, Int.add_zero, Nat.zero_add, na_0, ca_la, ca_al, ca_lm, ca_add, ca_mod, ca_lit, tn_c, Int.natCast_zero, bd_some, bd2_some, bindv_e, chk_ok, cr_ok, crl_ok, chd_ok, chb_0, chb_1, cr_bI, chb_bI, ite_bI0, if_true, if_false])
  simp only [fX1_isFairAround, lX1_isFairAround_2, bindv_e]
  rw [k2]
  simp only [fX1_isFairAround_53, lX1_isFairAround_55, bindv_e]
  rw [k55]
  simp only [pI_some, pI_some', b_and, b_or, b_nand, b_imp]
  apply ob_c
  unfold FA
  rw [nex_and, nex_and]
  constructor
  · rintro ⟨z1, z2⟩
    exact ⟨fun q q1 q2 q3 => z1 q q1 ⟨q2, q3⟩, fun e q1 => Classical.not_not.mp (z2 e q1)⟩
  · rintro ⟨z1, z2⟩
    exact ⟨fun q q1 q2 => z1 q q1 q2.1 q2.2, fun e q1 q2 => q2 (z2 e q1)⟩
/-- the area of a row of n points -/
def ARf (L : Ld) (f : Nat → Nat) (n : Nat) : Int := sm (fun i => L.X (f i) * L.Y (f ((i + 1) % n)) - L.X (f ((i + 1) % n)) * L.Y (f i)) n
theorem ARf_b {L : Ld} (hw : WF L) {f : Nat → Nat} {n : Nat} (hn : n ≤ 10) (hf : ∀ i, i < n → f i < L.np) : -800000 ≤ ARf L f n ∧ ARf L f n ≤ 800000 := by
  have h4 := sm_b (t := fun i => L.X (f i) * L.Y (f ((i + 1) % n)) - L.X (f ((i + 1) % n)) * L.Y (f i)) (a := -79202) (b := 79202) (n := n) (fun i hi => by
    have c1 := hf i hi
    have c2 := hf ((i + 1) % n) (Nat.mod_lt _ (by omega))
    have x1 := hw.2.2.2.2.2.1 _ c1
    have x2 := hw.2.2.2.2.2.1 _ c2
    have y1 := hw.2.2.2.2.2.2.1 _ c1
    have y2 := hw.2.2.2.2.2.2.1 _ c2
    have e1 := mul_b (a := L.X (f i)) (b := L.Y (f ((i + 1) % n))) (by omega) (by omega)
    have e2 := mul_b (a := L.X (f ((i + 1) % n))) (b := L.Y (f i)) (by omega) (by omega)
    omega)
  unfold ARf
  omega
theorem c_areaOf {σ : Mm} {L : Ld} {k w n : Nat} {f : Nat → Nat} (hw : WF L) (h : CL σ k L) (hn : n ≤ 10) (hf : ∀ i, i < n → f i < L.np) (hr : ∀ i, i < n → σ w i = (f i : Int)) : fX1_areaOf k w n σ = some (ARf L f n) := by
  have hnp := hw.1
  obtain ⟨hP, -, hX, hY, -⟩ := id h
  have key := it_sum0 (f := fun c => fX1_areaOf_5 k w n σ (fun v => fX1_areaOf_67 k w v σ) c) n (fun i => L.X (f i) * L.Y (f ((i + 1) % n)) - L.X (f ((i + 1) % n)) * L.Y (f i)) (fun v => some v) 0 (by omega) (fun c a i hi => by
    have hm : (i + 1) % n < n := Nat.mod_lt _ (by omega)
    have c1 := hf i hi
    have c2 := hf ((i + 1) % n) hm
    have e1 := c_following σ hi (by omega)
    simp (disch := omega) only [fX1_areaOf_5, hr, hX, hY, e1, if_pos, Int.reduceAdd, Int.reduceSub, Int.reduceMul, Int.zero_add, Int.add_zero, Nat.zero_add, na_0, ca_la, ca_al, ca_lm, ca_add, ca_mod, ca_lit, tn_c, Int.natCast_zero, bd_some, bd2_some, bindv_e, chk_ok, cr_ok, crl_ok, chd_ok, chb_0, chb_1, cr_bI, chb_bI, ite_bI0, if_true, if_false]) (fun c a => by
    simp (disch := omega) only [fX1_areaOf_5, fX1_areaOf_67, if_neg, Int.reduceAdd, Int.reduceSub, Int.reduceMul, Int.zero_add, Int.add_zero, Nat.zero_add, na_0, ca_la, ca_al, ca_lm, ca_add, ca_mod, ca_lit, tn_c, Int.natCast_zero, bd_some, bd2_some, bindv_e, chk_ok, cr_ok, crl_ok, chd_ok, chb_0, chb_1, cr_bI, chb_bI, ite_bI0, if_true, if_false])
  rw [Int.zero_add] at key
  simp only [fX1_areaOf, lX1_areaOf_5, bindv_e]
  exact key
theorem c_areasStand {σ : Mm} {L : Ld} {k : Nat} (hw : WF L) (h : CL σ k L) : fX1_areasStand k σ = some (bI (∀ r, r < L.nr → AR L r ≠ 0)) := by
  have hnr := hw.2.1
  obtain ⟨-, hN, -, -, -, hC, hR⟩ := id h
  have key := it_ex0 (f := fun c => fX1_areasStand_2 k σ (fX1_areasStand_37 k σ) c) L.nr (fun r => AR L r = 0) (some 0) (some 1) (by omega) (fun c r hr => by
    have h3 := hw.2.2.1 r hr
    have e1 := c_areaOf (w := k + 10 + r) (n := L.cn r) (f := L.co r) hw h (by omega) (fun i hi => hw.2.2.2.1 r i hr hi) (fun i hi => hR r i hr hi)
    have e2 := AR_b hw hr
    have e3 : ARf L (L.co r) (L.cn r) = AR L r := rfl
    rw [e3] at e1
    simp (disch := omega) only [fX1_areasStand_2, hN, hC, e1, if_pos, pI_ite, Int.reduceAdd, Int.reduceSub, Int.reduceMul, Int.zero_add, Int.add_zero, Nat.zero_add, na_0, ca_la, ca_al, ca_lm, ca_add, ca_mod, ca_lit, tn_c, Int.natCast_zero, bd_some, bd2_some, bindv_e, chk_ok, cr_ok, crl_ok, chd_ok, chb_0, chb_1, cr_bI, chb_bI, ite_bI0, if_true, if_false]) (fun c => by
    simp (disch := omega) only [fX1_areasStand_2, fX1_areasStand_37, hN, if_neg, Int.reduceAdd, Int.reduceSub, Int.reduceMul, Int.zero_add, Int.add_zero, Nat.zero_add, na_0, ca_la, ca_al, ca_lm, ca_add, ca_mod, ca_lit, tn_c, Int.natCast_zero, bd_some, bd2_some, bindv_e, chk_ok, cr_ok, crl_ok, chd_ok, chb_0, chb_1, cr_bI, chb_bI, ite_bI0, if_true, if_false])
  simp only [fX1_areasStand, lX1_areasStand_2, bindv_e]
  rw [key, pI_some']
  apply ob_c
  rw [nex_and]
