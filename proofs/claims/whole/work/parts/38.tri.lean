/-! a place in a triangle: class and reference mean the same -/
/-- frame in one direction: not all on one side -/
def frm (a b c v : Int) : Prop := (a ≤ v ∨ b ≤ v ∨ c ≤ v) ∧ (v ≤ a ∨ v ≤ b ∨ v ≤ c)
def mixd (m n o : Int) : Prop := (m < 0 ∨ n < 0 ∨ o < 0) ∧ (0 < m ∨ 0 < n ∨ 0 < o)
theorem ilg (a b : Int) : a < b ∨ b ≤ a := by omega
theorem nn_le {n u : Int} (hn : n < 0) (hu : u ≤ 0) : 0 ≤ n * u := Int.mul_nonneg_of_nonpos_of_nonpos (by omega) hu
theorem np_le {n u : Int} (hn : n < 0) (hu : 0 ≤ u) : n * u ≤ 0 := Int.mul_nonpos_of_nonpos_of_nonneg (by omega) hu
theorem pp_le {n u : Int} (hn : 0 < n) (hu : 0 ≤ u) : 0 ≤ n * u := Int.mul_nonneg (by omega) hu
theorem pn_le {n u : Int} (hn : 0 < n) (hu : u ≤ 0) : n * u ≤ 0 := Int.mul_nonpos_of_nonneg_of_nonpos (by omega) hu
theorem pp_lt {n u : Int} (hn : 0 < n) (hu : 0 < u) : 0 < n * u := Int.mul_pos hn hu
theorem pn_lt {n u : Int} (hn : 0 < n) (hu : u < 0) : n * u < 0 := Int.mul_neg_of_pos_of_neg hn hu
theorem np_lt {n u : Int} (hn : n < 0) (hu : 0 < u) : n * u < 0 := Int.mul_neg_of_neg_of_pos hn hu
theorem nn_lt {n u : Int} (hn : n < 0) (hu : u < 0) : 0 < n * u := Int.mul_pos_of_neg_of_neg hn hu
theorem ssame {n o u v : Int} (hn : n < 0) (ho : 0 < o) (h : n * u + o * v = 0) : (0 < v → 0 < u) ∧ (v < 0 → u < 0) := by
  constructor
  · intro hv
    have h1 := pp_lt ho hv
    rcases ilg 0 u with g | g
    · exact g
    · have := nn_le hn g; omega
  · intro hv
    have h1 := pn_lt ho hv
    rcases ilg u 0 with g | g
    · exact g
    · have := np_le hn g; omega
theorem sopp {n o u v : Int} (hn : 0 < n) (ho : 0 < o) (h : n * u + o * v = 0) : (0 < v → u < 0) ∧ (v < 0 → 0 < u) := by
  constructor
  · intro hv
    have h1 := pp_lt ho hv
    rcases ilg u 0 with g | g
    · exact g
    · have := pp_le hn g; omega
  · intro hv
    have h1 := pn_lt ho hv
    rcases ilg 0 u with g | g
    · exact g
    · have := pn_le hn g; omega
theorem tri_in {m n o u1 v1 w1 : Int} (h : n * u1 + o * v1 + m * w1 = 0) (hs : (0 < m ∧ 0 < n ∧ 0 < o) ∨ (m < 0 ∧ n < 0 ∧ o < 0)) : frm u1 v1 w1 0 := by
  refine ⟨?_, ?_⟩
  · rcases ilg 0 u1 with a | a
    · rcases ilg 0 v1 with b | b
      · rcases ilg 0 w1 with c | c
        · exfalso
          rcases hs with ⟨x, y, z⟩ | ⟨x, y, z⟩
          · have := pp_lt y a; have := pp_lt z b; have := pp_lt x c; omega
          · have := np_lt y a; have := np_lt z b; have := np_lt x c; omega
        · exact Or.inr (Or.inr c)
      · exact Or.inr (Or.inl b)
    · exact Or.inl a
  · rcases ilg u1 0 with a | a
    · rcases ilg v1 0 with b | b
      · rcases ilg w1 0 with c | c
        · exfalso
          rcases hs with ⟨x, y, z⟩ | ⟨x, y, z⟩
          · have := pn_lt y a; have := pn_lt z b; have := pn_lt x c; omega
          · have := nn_lt y a; have := nn_lt z b; have := nn_lt x c; omega
        · exact Or.inr (Or.inr c)
      · exact Or.inr (Or.inl b)
    · exact Or.inl a
theorem on_0 {n o u v : Int} (hn : n < 0) (ho : 0 < o) (h : n * u + o * v = 0) (hb : btw 0 u v) : v = 0 := by
  have e := ssame hn ho h
  unfold btw at hb
  rcases Int.lt_trichotomy v 0 with g | g | g
  · have := e.2 g; omega
  · exact g
  · have := e.1 g; omega
theorem on_0' {n o u v : Int} (hn : 0 < n) (ho : o < 0) (h : n * u + o * v = 0) (hb : btw 0 u v) : v = 0 :=
  on_0 (n := -n) (o := -o) (u := u) (v := v) (by omega) (by omega) (by rw [Int.neg_mul, Int.neg_mul]; omega) hb
theorem tri_on {n o u1 u2 v1 v2 w1 w2 : Int} (hn : n = v1 * w2 - w1 * v2) (i1 : n * u1 + o * v1 = 0) (i2 : n * u2 + o * v2 = 0) (hb1 : btw 0 u1 v1) (hb2 : btw 0 u2 v2) : ¬ (n < 0 ∧ 0 < o) ∧ ¬ (0 < n ∧ o < 0) := by
  constructor
  · rintro ⟨q1, q2⟩
    have e1 := on_0 q1 q2 i1 hb1
    have e2 := on_0 q1 q2 i2 hb2
    rw [e1, e2, Int.zero_mul, Int.mul_zero] at hn
    omega
  · rintro ⟨q1, q2⟩
    have e1 := on_0' q1 q2 i1 hb1
    have e2 := on_0' q1 q2 i2 hb2
    rw [e1, e2, Int.zero_mul, Int.mul_zero] at hn
    omega
theorem z_of {n u : Int} (h : n * u = 0) (hn : n ≠ 0) : u = 0 := by
  rcases Int.mul_eq_zero.mp h with g | g
  · exact absurd g hn
  · exact g
theorem tri_z1 {n o u v : Int} (i1 : n * u + o * v = 0) (h : 0 ≤ n ∧ 0 ≤ o) (h0 : ¬ (n = 0 ∧ o = 0)) : btw 0 u v := by
  unfold btw
  by_cases a : n = 0
  · rw [a, Int.zero_mul] at i1
    have := z_of (n := o) (u := v) (by omega) (by omega)
    omega
  by_cases b : o = 0
  · rw [b, Int.zero_mul] at i1
    have := z_of (n := n) (u := u) (by omega) (by omega)
    omega
  have e := sopp (n := n) (o := o) (by omega) (by omega) i1
  rcases Int.lt_trichotomy v 0 with g | g | g
  · have := e.2 g; omega
  · rw [g, Int.mul_zero] at i1
    have := z_of (n := n) (u := u) (by omega) a
    omega
  · have := e.1 g; omega
theorem tri_z {n o u v : Int} (i1 : n * u + o * v = 0) (h : (0 ≤ n ∧ 0 ≤ o) ∨ (n ≤ 0 ∧ o ≤ 0)) (h0 : ¬ (n = 0 ∧ o = 0)) : btw 0 u v := by
  rcases h with h | h
  · exact tri_z1 i1 h h0
  · exact tri_z1 (n := -n) (o := -o) (by rw [Int.neg_mul, Int.neg_mul]; omega) (by omega) (by omega)
theorem tri_l {u1 u2 v1 v2 : Int} (h : u1 * v2 - v1 * u2 = 0) (hs : (u1 < 0 ∧ 0 < v1) ∨ (0 < u1 ∧ v1 < 0)) : btw 0 u2 v2 := by
  rcases hs with ⟨a, b⟩ | ⟨a, b⟩
  · have e := tri_z1 (n := v1) (o := -u1) (u := u2) (v := v2) (by rw [Int.neg_mul]; omega) (by omega) (by omega)
    exact e
  · exact tri_z1 (n := -v1) (o := u1) (u := u2) (v := v2) (by rw [Int.neg_mul]; omega) (by omega) (by omega)
theorem tri_l2 {u1 u2 v1 v2 : Int} (h : u1 * v2 - v1 * u2 = 0) (hs : (u2 < 0 ∧ 0 < v2) ∨ (0 < u2 ∧ v2 < 0)) : btw 0 u1 v1 :=
  tri_l (u1 := u2) (u2 := u1) (v1 := v2) (v2 := v1) (by rw [Int.mul_comm u2 v1, Int.mul_comm v2 u1]; omega) hs
theorem bt_o {u v : Int} (h : (u < 0 ∧ 0 < v) ∨ (0 < u ∧ v < 0)) : btw 0 u v := by unfold btw; omega
theorem bt_z {u v : Int} (h : u = 0 ∨ v = 0) : btw 0 u v := by unfold btw; omega
/-- two of three on both sides, or one is 0 -/
theorem three {u v w : Int} (f : frm u v w 0) : ((u < 0 ∧ 0 < v) ∨ (0 < u ∧ v < 0)) ∨ ((v < 0 ∧ 0 < w) ∨ (0 < v ∧ w < 0)) ∨ ((w < 0 ∧ 0 < u) ∨ (0 < w ∧ u < 0)) ∨ u = 0 ∨ v = 0 ∨ w = 0 := by
  unfold frm at f
  omega
theorem zz {u1 u2 v1 v2 : Int} (h : u1 * v2 - v1 * u2 = 0) (hu : u1 = 0) (hv : v1 ≠ 0) : u2 = 0 := by
  rw [hu, Int.zero_mul] at h
  exact z_of (n := v1) (u := u2) (by omega) hv
/-- with one place on the first axis's 0 -/
theorem tri_00 {u1 u2 v1 v2 w1 w2 : Int} (hm : u1 * v2 - v1 * u2 = 0) (hn : v1 * w2 - w1 * v2 = 0) (ho : w1 * u2 - u1 * w2 = 0) (f2 : frm u2 v2 w2 0) (h0 : u1 = 0) : (btw 0 u1 v1 ∧ btw 0 u2 v2) ∨ (btw 0 v1 w1 ∧ btw 0 v2 w2) ∨ (btw 0 w1 u1 ∧ btw 0 w2 u2) := by
  by_cases hv : v1 = 0
  · by_cases hw : w1 = 0
    · rcases three f2 with g | g | g | g | g | g
      · exact Or.inl ⟨bt_z (Or.inl h0), bt_o g⟩
      · exact Or.inr (Or.inl ⟨bt_z (Or.inl hv), bt_o g⟩)
      · exact Or.inr (Or.inr ⟨bt_z (Or.inl hw), bt_o g⟩)
      · exact Or.inl ⟨bt_z (Or.inl h0), bt_z (Or.inl g)⟩
      · exact Or.inl ⟨bt_z (Or.inl h0), bt_z (Or.inr g)⟩
      · exact Or.inr (Or.inl ⟨bt_z (Or.inl hv), bt_z (Or.inr g)⟩)
    · have e : u2 = 0 := by
        rw [h0, Int.zero_mul] at ho
        exact z_of (n := w1) (u := u2) (by omega) hw
      exact Or.inl ⟨bt_z (Or.inl h0), bt_z (Or.inl e)⟩
  · have e := zz hm h0 hv
    exact Or.inl ⟨bt_z (Or.inl h0), bt_z (Or.inl e)⟩
theorem tri_0 {u1 u2 v1 v2 w1 w2 : Int} (hm : u1 * v2 - v1 * u2 = 0) (hn : v1 * w2 - w1 * v2 = 0) (ho : w1 * u2 - u1 * w2 = 0) (f1 : frm u1 v1 w1 0) (f2 : frm u2 v2 w2 0) : (btw 0 u1 v1 ∧ btw 0 u2 v2) ∨ (btw 0 v1 w1 ∧ btw 0 v2 w2) ∨ (btw 0 w1 u1 ∧ btw 0 w2 u2) := by
  have rot : frm v2 w2 u2 0 := by unfold frm at f2 ⊢; omega
  have rot2 : frm w2 u2 v2 0 := by unfold frm at f2 ⊢; omega
  rcases three f1 with g | g | g | g | g | g
  · exact Or.inl ⟨bt_o g, tri_l hm g⟩
  · exact Or.inr (Or.inl ⟨bt_o g, tri_l hn g⟩)
  · exact Or.inr (Or.inr ⟨bt_o g, tri_l ho g⟩)
  · exact tri_00 hm hn ho f2 g
  · rcases tri_00 hn ho hm rot g with z | z | z
    · exact Or.inr (Or.inl z)
    · exact Or.inr (Or.inr z)
    · exact Or.inl z
  · rcases tri_00 ho hm hn rot2 g with z | z | z
    · exact Or.inr (Or.inr z)
    · exact Or.inl z
    · exact Or.inr (Or.inl z)
theorem tri_eq {u1 u2 v1 v2 w1 w2 m n o : Int} (hm : m = u1 * v2 - v1 * u2) (hn : n = v1 * w2 - w1 * v2) (ho : o = w1 * u2 - u1 * w2) : (((0 < m ∧ 0 < n ∧ 0 < o) ∨ (m < 0 ∧ n < 0 ∧ o < 0)) ∨ (m = 0 ∧ btw 0 u1 v1 ∧ btw 0 u2 v2) ∨ (n = 0 ∧ btw 0 v1 w1 ∧ btw 0 v2 w2) ∨ (o = 0 ∧ btw 0 w1 u1 ∧ btw 0 w2 u2)) ↔ (¬ mixd m n o ∧ frm u1 v1 w1 0 ∧ frm u2 v2 w2 0) := by
  have i1 : n * u1 + o * v1 + m * w1 = 0 := by subst hm hn ho; grind
  have i2 : n * u2 + o * v2 + m * w2 = 0 := by subst hm hn ho; grind
  constructor
  · rintro (h | ⟨h0, h1, h2⟩ | ⟨h0, h1, h2⟩ | ⟨h0, h1, h2⟩)
    · exact ⟨by unfold mixd; omega, tri_in i1 h, tri_in i2 h⟩
    · have e := tri_on (n := n) (o := o) (w1 := w1) (w2 := w2) hn (by rw [h0, Int.zero_mul] at i1; omega) (by rw [h0, Int.zero_mul] at i2; omega) h1 h2
      refine ⟨by unfold mixd; omega, ?_, ?_⟩ <;> (unfold btw at h1 h2; unfold frm; omega)
    · have e := tri_on (n := o) (o := m) (u1 := v1) (u2 := v2) (v1 := w1) (v2 := w2) (w1 := u1) (w2 := u2) ho (by rw [h0, Int.zero_mul] at i1; omega) (by rw [h0, Int.zero_mul] at i2; omega) h1 h2
      refine ⟨by unfold mixd; omega, ?_, ?_⟩ <;> (unfold btw at h1 h2; unfold frm; omega)
    · have e := tri_on (n := m) (o := n) (u1 := w1) (u2 := w2) (v1 := u1) (v2 := u2) (w1 := v1) (w2 := v2) hm (by rw [h0, Int.zero_mul] at i1; omega) (by rw [h0, Int.zero_mul] at i2; omega) h1 h2
      refine ⟨by unfold mixd; omega, ?_, ?_⟩ <;> (unfold btw at h1 h2; unfold frm; omega)
  · rintro ⟨h0, f1, f2⟩
    unfold mixd at h0
    by_cases z : m = 0 ∧ n = 0 ∧ o = 0
    · have e := tri_0 (u1 := u1) (u2 := u2) (v1 := v1) (v2 := v2) (w1 := w1) (w2 := w2) (by omega) (by omega) (by omega) f1 f2
      rcases e with ⟨q1, q2⟩ | ⟨q1, q2⟩ | ⟨q1, q2⟩
      · exact Or.inr (Or.inl ⟨z.1, q1, q2⟩)
      · exact Or.inr (Or.inr (Or.inl ⟨z.2.1, q1, q2⟩))
      · exact Or.inr (Or.inr (Or.inr ⟨z.2.2, q1, q2⟩))
    by_cases zm : m = 0
    · rw [zm, Int.zero_mul] at i1 i2
      exact Or.inr (Or.inl ⟨zm, tri_z (n := n) (o := o) (by omega) (by omega) (by omega), tri_z (n := n) (o := o) (by omega) (by omega) (by omega)⟩)
    by_cases zn : n = 0
    · rw [zn, Int.zero_mul] at i1 i2
      exact Or.inr (Or.inr (Or.inl ⟨zn, tri_z (n := o) (o := m) (by omega) (by omega) (by omega), tri_z (n := o) (o := m) (by omega) (by omega) (by omega)⟩))
    by_cases zo : o = 0
    · rw [zo, Int.zero_mul] at i1 i2
      exact Or.inr (Or.inr (Or.inr ⟨zo, tri_z (n := m) (o := n) (by omega) (by omega) (by omega), tri_z (n := m) (o := n) (by omega) (by omega) (by omega)⟩))
    exact Or.inl (by omega)
theorem crs_rel (ax ay bx by_ x y : Int) : crs ax ay bx by_ x y = (ax - x) * (by_ - y) - (bx - x) * (ay - y) := by
  unfold crs
  grind
/-- a point in the triangle of three others or on its border, as the reference says it -/
def INT (L : Ld) (a b c q : Nat) : Prop := (sgn (TR L a b q) = sgn (TR L b c q) ∧ sgn (TR L b c q) = sgn (TR L c a q) ∧ sgn (TR L a b q) ≠ 0) ∨ ON L a b q ∨ ON L b c q ∨ ON L c a q
theorem INT_c {L : Ld} {a b c q : Nat} : INT L a b c q ↔ (¬ mixd (TR L a b q) (TR L b c q) (TR L c a q) ∧ frm (L.X a) (L.X b) (L.X c) (L.X q) ∧ frm (L.Y a) (L.Y b) (L.Y c) (L.Y q)) := by
  have e := tri_eq (u1 := L.X a - L.X q) (u2 := L.Y a - L.Y q) (v1 := L.X b - L.X q) (v2 := L.Y b - L.Y q) (w1 := L.X c - L.X q) (w2 := L.Y c - L.Y q) (crs_rel _ _ _ _ _ _) (crs_rel _ _ _ _ _ _) (crs_rel _ _ _ _ _ _)
  have t1 : TR L a b q = crs (L.X a) (L.Y a) (L.X b) (L.Y b) (L.X q) (L.Y q) := rfl
  have t2 : TR L b c q = crs (L.X b) (L.Y b) (L.X c) (L.Y c) (L.X q) (L.Y q) := rfl
  have t3 : TR L c a q = crs (L.X c) (L.Y c) (L.X a) (L.Y a) (L.X q) (L.Y q) := rfl
  rw [← t1, ← t2, ← t3] at e
  have s1 : (sgn (TR L a b q) = sgn (TR L b c q) ∧ sgn (TR L b c q) = sgn (TR L c a q) ∧ sgn (TR L a b q) ≠ 0) ↔ ((0 < TR L a b q ∧ 0 < TR L b c q ∧ 0 < TR L c a q) ∨ (TR L a b q < 0 ∧ TR L b c q < 0 ∧ TR L c a q < 0)) := by
    unfold sgn
    repeat' split
    all_goals (constructor <;> intro z <;> omega)
  have o1 : ∀ a b : Nat, ON L a b q ↔ (TR L a b q = 0 ∧ btw 0 (L.X a - L.X q) (L.X b - L.X q) ∧ btw 0 (L.Y a - L.Y q) (L.Y b - L.Y q)) := by
    intro a b
    unfold ON onS TR btw
    constructor <;> (rintro ⟨z1, z2, z3⟩; exact ⟨z1, by omega, by omega⟩)
  have f1 : ∀ a b c v : Int, frm a b c v ↔ frm (a - v) (b - v) (c - v) 0 := by
    intro a b c v
    unfold frm
    omega
  unfold INT
  rw [s1, o1, o1, o1, f1 (L.X a), f1 (L.Y a)]
  exact e
theorem m_isInTriangle {σ : Mm} {L : Ld} {a b c q : Nat} (hw : WF L) (h : ML σ 0 L) (ha : a < L.np) (hb : b < L.np) (hc : c < L.np) (hq : q < L.np) : fX8_isInTriangle (q : Int) a b c σ = some (bI (INT L a b c q)) := by
  have t1 : fX8_turned 0 a b q σ = _ := m_turned (o := 0) (by omega) hw h ha hb hq
  have t2 : fX8_turned 0 b c q σ = _ := m_turned (o := 0) (by omega) hw h hb hc hq
  have t3 : fX8_turned 0 c a q σ = _ := m_turned (o := 0) (by omega) hw h hc ha hq
  have o1 : fX8_isOn 0 q a b σ = _ := m_isOn (o := 0) (by omega) hw h ha hb hq
  have o2 : fX8_isOn 0 q b c σ = _ := m_isOn (o := 0) (by omega) hw h hb hc hq
  have o3 : fX8_isOn 0 q c a σ = _ := m_isOn (o := 0) (by omega) hw h hc ha hq
  have b1 := TR_b hw ha hb hq
  have b2 := TR_b hw hb hc hq
  have b3 := TR_b hw hc ha hq
  have sr : ∀ v : Int, -1 ≤ sgn v ∧ sgn v ≤ 1 := by
    intro v; unfold sgn; repeat' split
    all_goals omega
  have r1 := sr (TR L a b q)
  have r2 := sr (TR L b c q)
  have r3 := sr (TR L c a q)
  simp (disch := omega) only [fX8_isInTriangle, fX8_isInTriangle_64, fX8_isInTriangle_65, fX8_isInTriangle_107, fX8_isInTriangle_112, t1, t2, t3, o1, o2, o3, m_signOf, pI_ite, pI_some, pI_some', b_and, b_or, b_nand, b_imp, Int.reduceAdd, Int.reduceSub, Int.reduceMul, Int.zero_add, Int.add_zero, Nat.zero_add, na_0, ca_la, ca_al, ca_lm, ca_add, ca_mod, ca_lit, tn_c, Int.natCast_zero, bd_some, bd2_some, bindv_e, chk_ok, cr_ok, crl_ok, chd_ok, chb_0, chb_1, cr_bI, chb_bI, ite_bI0, if_true, if_false]
  unfold INT
  by_cases q1 : sgn (TR L a b q) = sgn (TR L b c q)
  · rw [pI_t q1]
    by_cases q2 : sgn (TR L b c q) = sgn (TR L c a q)
    · rw [pI_t q2]
      by_cases q3 : sgn (TR L a b q) = 0
      · rw [pI_t q3]
        apply ob_c
        simp only [bI_0, Classical.not_not, not_true_eq_false, false_or]
        constructor
        · intro z; exact Or.inr z
        · rintro (z | z)
          · exact absurd q3 z.2.2
          · exact z
      · rw [pI_f q3, bI_t (Or.inl (by omega)), bI_t (Or.inl ⟨q1, q2, q3⟩)]
    · rw [pI_f q2]
      apply ob_c
      simp only [bI_0, Classical.not_not, not_true_eq_false, false_or]
      constructor
      · intro z; exact Or.inr z
      · rintro (z | z)
        · exact absurd z.2.1 q2
        · exact z
  · rw [pI_f q1]
    apply ob_c
    simp only [bI_0, Classical.not_not, not_true_eq_false, false_or]
    constructor
    · intro z; exact Or.inr z
    · rintro (z | z)
      · exact absurd z.1 q1
      · exact z
theorem c_isInFrame (σ : Mm) {a b c v : Int} (ha : inR a) (hb : inR b) (hc : inR c) (hv : inR v) : fX1_isInFrame a b c v σ = some (bI (frm a b c v)) := by
  simp (disch := omega) only [fX1_isInFrame, fX1_isInFrame_15, fX1_isInFrame_30, fX1_isInFrame_34, fX1_isInFrame_35, Int.reduceAdd, Int.reduceSub, Int.reduceMul, Int.zero_add, Int.add_zero, Nat.zero_add, na_0, ca_la, ca_al, ca_lm, ca_add, ca_mod, ca_lit, tn_c, Int.natCast_zero, bd_some, bd2_some, bindv_e, chk_ok, cr_ok, crl_ok, chd_ok, chb_0, chb_1, cr_bI, chb_bI, ite_bI0, if_true, if_false]
  unfold frm
  repeat' split
  all_goals first | (rw [bI_t (by omega)]; done) | rw [bI_f (by omega)]
theorem c_isInTriangle {σ : Mm} {L : Ld} {k a b c q : Nat} (hw : WF L) (h : CL σ k L) (ha : a < L.np) (hb : b < L.np) (hc : c < L.np) (hq : q < L.np) : fX1_isInTriangle k a b c (L.X q) (L.Y q) σ = some (bI (INT L a b c q)) := by
  have hn := hw.1
  have t1 : fX1_sideOf k a b (L.X q) (L.Y q) σ = some (TR L a b q) := c_sideOf _ _ hw h ha hb
  have t2 : fX1_sideOf k b c (L.X q) (L.Y q) σ = some (TR L b c q) := c_sideOf _ _ hw h hb hc
  have t3 : fX1_sideOf k c a (L.X q) (L.Y q) σ = some (TR L c a q) := c_sideOf _ _ hw h hc ha
  have b1 := TR_b hw ha hb hq
  have b2 := TR_b hw hb hc hq
  have b3 := TR_b hw hc ha hq
  obtain ⟨-, -, hX, hY, -⟩ := id h
  have x1 := hw.2.2.2.2.2.1 a ha
  have x2 := hw.2.2.2.2.2.1 b hb
  have x3 := hw.2.2.2.2.2.1 c hc
  have x4 := hw.2.2.2.2.2.1 q hq
  have y1 := hw.2.2.2.2.2.2.1 a ha
  have y2 := hw.2.2.2.2.2.2.1 b hb
  have y3 := hw.2.2.2.2.2.2.1 c hc
  have y4 := hw.2.2.2.2.2.2.1 q hq
  have f1 := c_isInFrame σ (a := L.X a) (b := L.X b) (c := L.X c) (v := L.X q) (by omega) (by omega) (by omega) (by omega)
  have f2 := c_isInFrame σ (a := L.Y a) (b := L.Y b) (c := L.Y c) (v := L.Y q) (by omega) (by omega) (by omega) (by omega)
  have k0 : fX1_isInTriangle_71 k a b c (L.X q) (L.Y q) 0 σ = some (bI (frm (L.X a) (L.X b) (L.X c) (L.X q) ∧ frm (L.Y a) (L.Y b) (L.Y c) (L.Y q))) := by
    simp (disch := omega) only [fX1_isInTriangle_71, fX1_isInTriangle_134, fX1_isInTriangle_135, f1, f2, hX, hY, pI_some, pI_some', b_and, b_or, b_nand, b_imp, Int.reduceAdd, Int.reduceSub, Int.reduceMul, Int.zero_add, Int.add_zero, Nat.zero_add, na_0, ca_la, ca_al, ca_lm, ca_add, ca_mod, ca_lit, tn_c, Int.natCast_zero, bd_some, bd2_some, bindv_e, chk_ok, cr_ok, crl_ok, chd_ok, chb_0, chb_1, cr_bI, chb_bI, ite_bI0, if_true, if_false]
  have k1 : fX1_isInTriangle_71 k a b c (L.X q) (L.Y q) 1 σ = some 0 := by
    simp (disch := omega) only [fX1_isInTriangle_71, fX1_isInTriangle_134, fX1_isInTriangle_135, if_neg, Int.reduceAdd, Int.reduceSub, Int.reduceMul, Int.zero_add, Int.add_zero, Nat.zero_add, na_0, ca_la, ca_al, ca_lm, ca_add, ca_mod, ca_lit, tn_c, Int.natCast_zero, bd_some, bd2_some, bindv_e, chk_ok, cr_ok, crl_ok, chd_ok, chb_0, chb_1, cr_bI, chb_bI, ite_bI0, if_true, if_false]
  rw [bI_c INT_c]
  unfold mixd
  generalize frm (L.X a) (L.X b) (L.X c) (L.X q) = FX at *
  generalize frm (L.Y a) (L.Y b) (L.Y c) (L.Y q) = FY at *
  simp (disch := omega) only [fX1_isInTriangle, fX1_isInTriangle_51, fX1_isInTriangle_66, fX1_isInTriangle_70, t1, t2, t3, k0, k1, Int.reduceAdd, Int.reduceSub, Int.reduceMul, Int.zero_add, Int.add_zero, Nat.zero_add, na_0, ca_la, ca_al, ca_lm, ca_add, ca_mod, ca_lit, tn_c, Int.natCast_zero, bd_some, bd2_some, bindv_e, chk_ok, cr_ok, crl_ok, chd_ok, chb_0, chb_1, cr_bI, chb_bI, ite_bI0, if_true, if_false]
  generalize TR L a b q = m at *
  generalize TR L b c q = n at *
  generalize TR L c a q = o at *
  repeat' split
  all_goals first | exact ob_c ⟨fun z => ⟨by omega, z.1, z.2⟩, fun z => ⟨z.2.1, z.2.2⟩⟩ | (rw [bI_f]; exact fun z => z.1 (by omega))
