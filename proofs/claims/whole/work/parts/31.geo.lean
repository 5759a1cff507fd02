/-! geometry, lands -/
abbrev Ld : Type := (Nat × Nat) × (Nat → Nat) × (Nat → Nat → Nat) × (Nat → Int) × (Nat → Int) × (Nat → Int)
def Ld.np (L : Ld) : Nat := L.1.1
def Ld.nr (L : Ld) : Nat := L.1.2
def Ld.cn (L : Ld) : Nat → Nat := L.2.1
def Ld.co (L : Ld) : Nat → Nat → Nat := L.2.2.1
def Ld.X (L : Ld) : Nat → Int := L.2.2.2.1
def Ld.Y (L : Ld) : Nat → Int := L.2.2.2.2.1
def Ld.P (L : Ld) : Nat → Int := L.2.2.2.2.2
/-- sizes and places are as they must be -/
def WF (L : Ld) : Prop := L.np ≤ 24 ∧ L.nr ≤ 6 ∧ (∀ r, r < L.nr → 3 ≤ L.cn r ∧ L.cn r ≤ 10) ∧ (∀ r i, r < L.nr → i < L.cn r → L.co r i < L.np) ∧ (∀ r i j, r < L.nr → i < L.cn r → j < L.cn r → L.co r i = L.co r j → i = j) ∧ (∀ p, p < L.np → 0 ≤ L.X p ∧ L.X p ≤ 199) ∧ (∀ p, p < L.np → 0 ≤ L.Y p ∧ L.Y p ≤ 199) ∧ (∀ p, p < L.np → L.P p = 0 ∨ L.P p = 1)
/-- a land of the class at cell k holds L (points, rings, pins) -/
def CL (σ : Mm) (k : Nat) (L : Ld) : Prop := σ k 9 = (L.np : Int) ∧ σ k 10 = (L.nr : Int) ∧ (∀ p, p < L.np → σ (k + 1) p = L.X p) ∧ (∀ p, p < L.np → σ (k + 2) p = L.Y p) ∧ (∀ p, p < L.np → σ (k + 3) p = L.P p) ∧ (∀ r, r < L.nr → σ (k + 5) r = (L.cn r : Int)) ∧ (∀ r i, r < L.nr → i < L.cn r → σ (k + 10 + r) i = (L.co r i : Int))
/-- a page of the reference from o on holds L -/
def ML (σ : Mm) (o : Nat) (L : Ld) : Prop := σ 1 (o + 138) = (L.np : Int) ∧ σ 1 (o + 139) = (L.nr : Int) ∧ (∀ p, p < L.np → σ 1 (o + p) = L.X p) ∧ (∀ p, p < L.np → σ 1 (o + 24 + p) = L.Y p) ∧ (∀ p, p < L.np → σ 1 (o + 48 + p) = L.P p) ∧ (∀ r, r < L.nr → σ 1 (o + 132 + r) = (L.cn r : Int)) ∧ (∀ r i, r < L.nr → i < L.cn r → σ 1 (o + 72 + 10 * r + i) = (L.co r i : Int))
def crs (ax ay bx by_ cx cy : Int) : Int := (bx - ax) * (cy - ay) - (by_ - ay) * (cx - ax)
abbrev inP (x : Int) : Prop := 0 ≤ x ∧ x ≤ 199
theorem mul_b {a b : Int} (ha : -199 ≤ a ∧ a ≤ 199) (hb : -199 ≤ b ∧ b ≤ 199) : -39601 ≤ a * b ∧ a * b ≤ 39601 := by
  have h1 : 0 ≤ (199 - a) * (199 - b) := Int.mul_nonneg (by omega) (by omega)
  have h2 : 0 ≤ (199 + a) * (199 + b) := Int.mul_nonneg (by omega) (by omega)
  have h3 : 0 ≤ (199 - a) * (199 + b) := Int.mul_nonneg (by omega) (by omega)
  have h4 : 0 ≤ (199 + a) * (199 - b) := Int.mul_nonneg (by omega) (by omega)
  simp only [Int.sub_mul, Int.mul_sub, Int.add_mul, Int.mul_add] at h1 h2 h3 h4
  constructor <;> omega
theorem crs_b {ax ay bx by_ cx cy : Int} (h1 : inP ax) (h2 : inP ay) (h3 : inP bx) (h4 : inP by_) (h5 : inP cx) (h6 : inP cy) : -79202 ≤ crs ax ay bx by_ cx cy ∧ crs ax ay bx by_ cx cy ≤ 79202 := by
  have e1 := mul_b (a := bx - ax) (b := cy - ay) (by omega) (by omega)
  have e2 := mul_b (a := by_ - ay) (b := cx - ax) (by omega) (by omega)
  unfold crs
  omega
/-- between two places -/
def btw (v a b : Int) : Prop := (a ≤ v ∧ v ≤ b) ∨ (b ≤ v ∧ v ≤ a)
/-- x, y lies on what a and b end -/
def onS (ax ay bx by_ x y : Int) : Prop := crs ax ay bx by_ x y = 0 ∧ btw x ax bx ∧ btw y ay by_
def opp (m n : Int) : Prop := (m < 0 ∧ 0 < n) ∨ (0 < m ∧ n < 0)
def sgn (v : Int) : Int := if 0 < v then 1 else if v < 0 then -1 else 0
theorem m_cross (a b c d e f : Int) (σ : Mm) : fX8_cross a b c d e f σ = some (crs a b c d e f) := rfl
theorem m_signOf {v : Int} (σ : Mm) (h : inR v) : fX8_signOf v σ = some (sgn v) := by
  simp (disch := omega) only [fX8_signOf, fX8_signOf_17, cr_ok, sgn]
  repeat' split
  all_goals rfl
theorem m_isBetween {v a b : Int} (σ : Mm) (h1 : inR v) (h2 : inR a) (h3 : inR b) : fX8_isBetween v a b σ = some (bI (btw v a b)) := by
  simp (disch := omega) only [fX8_isBetween, fX8_isBetween_10, fX8_isBetween_20, fX8_isBetween_24, fX8_isBetween_25, cr_ok, chb_0, chb_1]
  unfold btw
  repeat' split
  all_goals first | (rw [bI_t (by omega)]; done) | rw [bI_f (by omega)]
theorem c_areOpposite {m n : Int} (σ : Mm) (h1 : inR m) (h2 : inR n) : fX1_areOpposite m n σ = some (bI (opp m n)) := by
  simp (disch := omega) only [fX1_areOpposite, fX1_areOpposite_8, fX1_areOpposite_16, fX1_areOpposite_20, fX1_areOpposite_21, cr_ok, chb_0, chb_1]
  unfold opp
  repeat' split
  all_goals first | (rw [bI_t (by omega)]; done) | rw [bI_f (by omega)]
def TR (L : Ld) (a b c : Nat) : Int := crs (L.X a) (L.Y a) (L.X b) (L.Y b) (L.X c) (L.Y c)
def ON (L : Ld) (a b p : Nat) : Prop := onS (L.X a) (L.Y a) (L.X b) (L.Y b) (L.X p) (L.Y p)
def XS (L : Ld) (a b c d : Nat) : Prop := opp (TR L a b c) (TR L a b d) ∧ opp (TR L c d a) (TR L c d b)
theorem TR_b {L : Ld} (hw : WF L) {a b c : Nat} (ha : a < L.np) (hb : b < L.np) (hc : c < L.np) : -79202 ≤ TR L a b c ∧ TR L a b c ≤ 79202 := by
  obtain ⟨-, -, -, -, -, hX, hY, -⟩ := hw
  exact crs_b (hX a ha) (hY a ha) (hX b hb) (hY b hb) (hX c hc) (hY c hc)
theorem m_turned {σ : Mm} {L : Ld} {o a b c : Nat} (ho : o ≤ 420) (hw : WF L) (h : ML σ o L) (ha : a < L.np) (hb : b < L.np) (hc : c < L.np) : fX8_turned (o : Int) a b c σ = some (TR L a b c) := by
  have hn := hw.1
  obtain ⟨-, -, hX, hY, -⟩ := h
  simp (disch := omega) only [fX8_turned, m_cross, hX, hY, TR, Int.reduceAdd, Int.reduceSub, Int.reduceMul, Int.zero_add, Int.add_zero, Nat.zero_add, na_0, ca_la, ca_al, ca_lm, ca_add, ca_mod, ca_lit, tn_c, Int.natCast_zero, bd_some, bd2_some, bindv_e, chk_ok, cr_ok, crl_ok, chd_ok, chb_0, chb_1, cr_bI, chb_bI, ite_bI0, if_true, if_false]
theorem m_isOn {σ : Mm} {L : Ld} {o a b p : Nat} (ho : o ≤ 420) (hw : WF L) (h : ML σ o L) (ha : a < L.np) (hb : b < L.np) (hp : p < L.np) : fX8_isOn (o : Int) p a b σ = some (bI (ON L a b p)) := by
  have hn := hw.1
  have ht := m_turned ho hw h ha hb hp
  have hb1 := TR_b hw ha hb hp
  obtain ⟨-, -, hX, hY, -⟩ := h
  obtain ⟨-, -, -, -, -, wX, wY, -⟩ := hw
  have x1 := wX a ha
  have x2 := wX b hb
  have x3 := wX p hp
  have y1 := wY a ha
  have y2 := wY b hb
  have y3 := wY p hp
  simp (disch := omega) only [fX8_isOn, fX8_isOn_87, fX8_isOn_88, ht, m_isBetween, hX, hY, Int.reduceAdd, Int.reduceSub, Int.reduceMul, Int.zero_add, Int.add_zero, Nat.zero_add, na_0, ca_la, ca_al, ca_lm, ca_add, ca_mod, ca_lit, tn_c, Int.natCast_zero, bd_some, bd2_some, bindv_e, chk_ok, cr_ok, crl_ok, chd_ok, chb_0, chb_1, cr_bI, chb_bI, ite_bI0, if_true, if_false]
  unfold ON onS
  rw [show crs (L.X a) (L.Y a) (L.X b) (L.Y b) (L.X p) (L.Y p) = TR L a b p from rfl]
  by_cases h1 : TR L a b p = 0
  · rw [if_pos h1]
    by_cases h2 : btw (L.X p) (L.X a) (L.X b)
    · rw [pI_t h2]
      by_cases h3 : btw (L.Y p) (L.Y a) (L.Y b)
      · rw [pI_t h3, bI_t ⟨h1, h2, h3⟩]
      · rw [pI_f h3, bI_f (fun z => h3 z.2.2)]
    · rw [pI_f h2, bI_f (fun z => h2 z.2.1)]
  · rw [if_neg h1, bI_f (fun z => h1 z.1)]
theorem sgn_mul (a b : Int) : sgn a * sgn b < 0 ↔ opp a b := by
  unfold sgn opp
  repeat' split
  all_goals first | (constructor <;> intro z <;> omega)
theorem sgn_r (a b : Int) : -1 ≤ sgn a * sgn b ∧ sgn a * sgn b ≤ 1 := by
  unfold sgn
  repeat' split
  all_goals decide
theorem m_isCrossing {σ : Mm} {L : Ld} {o a b c d : Nat} (ho : o ≤ 420) (hw : WF L) (h : ML σ o L) (ha : a < L.np) (hb : b < L.np) (hc : c < L.np) (hd : d < L.np) : fX8_isCrossing (o : Int) a b c d σ = some (bI (a ≠ c ∧ a ≠ d ∧ b ≠ c ∧ b ≠ d ∧ XS L a b c d)) := by
  have hn := hw.1
  have t1 := m_turned ho hw h ha hb hc
  have t2 := m_turned ho hw h ha hb hd
  have t3 := m_turned ho hw h hc hd ha
  have t4 := m_turned ho hw h hc hd hb
  have b1 := TR_b hw ha hb hc
  have b2 := TR_b hw ha hb hd
  have b3 := TR_b hw hc hd ha
  have b4 := TR_b hw hc hd hb
  have r1 := sgn_r (TR L a b c) (TR L a b d)
  have r2 := sgn_r (TR L c d a) (TR L c d b)
  simp (disch := omega) only [fX8_isCrossing, fX8_isCrossing_24, fX8_isCrossing_88, fX8_isCrossing_89, t1, t2, t3, t4, m_signOf, sgn_mul, Int.reduceAdd, Int.reduceSub, Int.reduceMul, Int.zero_add, Int.add_zero, Nat.zero_add, na_0, ca_la, ca_al, ca_lm, ca_add, ca_mod, ca_lit, tn_c, Int.natCast_zero, bd_some, bd2_some, bindv_e, chk_ok, cr_ok, crl_ok, chd_ok, chb_0, chb_1, cr_bI, chb_bI, ite_bI0, if_true, if_false]
  unfold XS
  by_cases h1 : a = c
  · rw [if_pos (by omega), bI_f (fun z => z.1 h1)]
  rw [if_neg (by omega)]
  by_cases h2 : a = d
  · rw [if_pos (by omega), bI_f (fun z => z.2.1 h2)]
  rw [if_neg (by omega)]
  by_cases h3 : b = c
  · rw [if_pos (by omega), bI_f (fun z => z.2.2.1 h3)]
  rw [if_neg (by omega)]
  by_cases h4 : b = d
  · rw [if_pos (by omega), bI_f (fun z => z.2.2.2.1 h4)]
  rw [if_neg (by omega)]
  rw [pI_ite, pI_ite, pI_c (sgn_mul _ _), pI_c (sgn_mul _ _)]
  by_cases h5 : opp (TR L a b c) (TR L a b d)
  · rw [pI_t h5]
    by_cases h6 : opp (TR L c d a) (TR L c d b)
    · rw [pI_t h6, bI_t ⟨h1, h2, h3, h4, h5, h6⟩]
    · rw [pI_f h6, bI_f (fun z => h6 z.2.2.2.2.2)]
  · rw [pI_f h5, bI_f (fun z => h5 z.2.2.2.2.1)]
theorem m_cornerOf {σ : Mm} {L : Ld} {o r i : Nat} (ho : o ≤ 420) (hw : WF L) (h : ML σ o L) (hr : r < L.nr) (hi : i < 1000) : fX8_cornerOf (o : Int) r i σ = some (L.co r (i % L.cn r) : Int) := by
  obtain ⟨-, -, -, -, -, hC, hR⟩ := h
  obtain ⟨-, hnr, hcn, -⟩ := hw
  have h3 := hcn r hr
  have hm : i % L.cn r < L.cn r := Nat.mod_lt _ (by omega)
  simp (disch := omega) only [fX8_cornerOf, hC, hR, Int.reduceAdd, Int.reduceSub, Int.reduceMul, Int.zero_add, Int.add_zero, Nat.zero_add, na_0, ca_la, ca_al, ca_lm, ca_add, ca_mod, ca_lit, tn_c, Int.natCast_zero, bd_some, bd2_some, bindv_e, chk_ok, cr_ok, crl_ok, chd_ok, chb_0, chb_1, cr_bI, chb_bI, ite_bI0, if_true, if_false]
