/-! arcs -/
abbrev Ac : Type := Nat × Nat × Nat × Bool
def pt (L : Ld) (a : Ac) (j : Nat) : Nat := L.co a.1 ((a.2.1 + j) % L.cn a.1)
def eN (a : Ac) : Nat := if a.2.2.2 then a.2.2.1 else a.2.2.1 - 1
def TKa (L : Ld) (a : Ac) (p q : Nat) : Prop := ∃ j, j < eN a ∧ ((pt L a j = p ∧ pt L a (j + 1) = q) ∨ (pt L a j = q ∧ pt L a (j + 1) = p))
def TK (L : Ld) (as : List Ac) (p q : Nat) : Prop := ∃ a, a ∈ as ∧ TKa L a p q
/-- the arc that holds a ring's i-th edge -/
def ARC (L : Ld) (r i : Nat) (a : Ac) : Prop := a.1 = r ∧ ((a.2.2.2 = true ∧ a.2.1 = 0 ∧ a.2.2.1 = L.cn r ∧ ∀ j, j < L.cn r → ¬ ND L (L.co r j)) ∨ (a.2.2.2 = false ∧ ∃ b m, b < L.cn r ∧ a.2.1 = (i + L.cn r - b) % L.cn r ∧ ND L (L.co r a.2.1) ∧ (∀ z, z < b → ¬ ND L (L.co r ((i + L.cn r - z) % L.cn r))) ∧ a.2.2.1 = m + 1 ∧ 1 ≤ m ∧ m ≤ L.cn r ∧ ND L (L.co r ((a.2.1 + m) % L.cn r)) ∧ ∀ j, 1 ≤ j → j < m → ¬ ND L (L.co r ((a.2.1 + j) % L.cn r))))
theorem ARC_u {L : Ld} {r i : Nat} {a a' : Ac} (h : ARC L r i a) (g : ARC L r i a') : a = a' := by
  obtain ⟨r1, f, m, c⟩ := a
  obtain ⟨r2, f', m', c'⟩ := a'
  obtain ⟨h0, h⟩ := h
  obtain ⟨g0, g⟩ := g
  dsimp only at h0 h g0 g
  subst h0
  subst g0
  rcases h with ⟨h1, h2, h3, h4⟩ | ⟨h1, b, k, h2, h3, h4, h5, h6, h7, h8, h9, h10⟩ <;> rcases g with ⟨g1, g2, g3, g4⟩ | ⟨g1, b', k', g2, g3, g4, g5, g6, g7, g8, g9, g10⟩
  · rw [h1, h2, h3, g1, g2, g3]
  · exfalso
    have hlt : f' < L.cn r2 := by rw [g3]; exact Nat.mod_lt _ (by omega)
    exact h4 f' hlt g4
  · exfalso
    have hlt : f < L.cn r2 := by rw [h3]; exact Nat.mod_lt _ (by omega)
    exact g4 f hlt h4
  · have eb : b = b' := by
      rcases Nat.lt_trichotomy b b' with q | q | q
      · exact absurd (by rw [← h3]; exact h4) (g5 b q)
      · exact q
      · exact absurd (by rw [← g3]; exact g4) (h5 b' q)
    have ef : f = f' := by rw [h3, g3, eb]
    subst ef
    have ek : k = k' := by
      rcases Nat.lt_trichotomy k k' with q | q | q
      · exact absurd h9 (g10 k h7 q)
      · exact q
      · exact absurd g9 (h10 k' g7 q)
    rw [h1, g1, h6, g6, ek]
noncomputable def mkArc (L : Ld) (r i : Nat) : Ac := Classical.epsilon (fun a => ARC L r i a)
theorem mkArc_e {L : Ld} {r i : Nat} {a : Ac} (h : ARC L r i a) : mkArc L r i = a := ARC_u (Classical.epsilon_spec (p := fun a => ARC L r i a) ⟨a, h⟩) h
noncomputable def stepA (L : Ld) (as : List Ac) (r i : Nat) : List Ac := pI (TK L as (L.co r i) (cx L r i)) as (as ++ [mkArc L r i])
noncomputable def rowA (L : Ld) (as : List Ac) (r : Nat) : Nat → List Ac
  | 0 => as
  | i + 1 => stepA L (rowA L as r i) r i
noncomputable def allA (L : Ld) : Nat → List Ac
  | 0 => []
  | r + 1 => rowA L (allA L r) r (L.cn r)
theorem stepA_len (L : Ld) (as : List Ac) (r i : Nat) : (stepA L as r i).length ≤ as.length + 1 := by
  unfold stepA
  by_cases w : TK L as (L.co r i) (cx L r i)
  · rw [pI_t w]; omega
  · rw [pI_f w, List.length_append, List.length_singleton]; omega
theorem rowA_len (L : Ld) (as : List Ac) (r : Nat) : ∀ i, (rowA L as r i).length ≤ as.length + i
  | 0 => Nat.le_refl _
  | i + 1 => by
    have h1 := rowA_len L as r i
    have h2 := stepA_len L (rowA L as r i) r i
    show (stepA L (rowA L as r i) r i).length ≤ _
    omega
theorem allA_len {L : Ld} (hw : WF L) : ∀ r, r ≤ L.nr → (allA L r).length ≤ 10 * r
  | 0, _ => by show (0 : Nat) ≤ 0; omega
  | r + 1, h => by
    have h1 := allA_len hw r (by omega)
    have h2 := rowA_len L (allA L r) r (L.cn r)
    have h3 := hw.2.2.1 r (by omega)
    show (rowA L (allA L r) r (L.cn r)).length ≤ _
    omega
/-- walking round -/
theorem md_s {n x : Nat} (hn : 0 < n) : (x % n + 1) % n = (x + 1) % n := by rw [Nat.add_mod, Nat.mod_mod, ← Nat.add_mod]
theorem md_r {n x y : Nat} (hn : 0 < n) (hx : x < n) (hy : y < n) : ∃ j, j < n ∧ (x + j) % n = y := by
  by_cases h : x ≤ y
  · exact ⟨y - x, by omega, by rw [show x + (y - x) = y by omega, Nat.mod_eq_of_lt hy]⟩
  · refine ⟨y + n - x, by omega, ?_⟩
    rw [show x + (y + n - x) = y + n by omega, Nat.add_mod_right, Nat.mod_eq_of_lt hy]
theorem md_b {n i b : Nat} (hn : 0 < n) (hi : i < n) (hb : b ≤ n) : ((i + n - b) % n + b) % n = i := by
  rw [Nat.add_mod, Nat.mod_mod, ← Nat.add_mod, show i + n - b + b = i + n by omega, Nat.add_mod_right, Nat.mod_eq_of_lt hi]
theorem md_p {n i b : Nat} (hn : 0 < n) (hi : i < n) (hb : b < n) : ((i + n - b) % n + n - 1) % n = (i + n - (b + 1)) % n := by
  by_cases h : b ≤ i
  · rw [show i + n - b = (i - b) + n by omega, Nat.add_mod_right, Nat.mod_eq_of_lt (show i - b < n by omega)]
    by_cases h2 : b + 1 ≤ i
    · rw [show i + n - (b + 1) = (i - (b + 1)) + n by omega, Nat.add_mod_right, show i - b + n - 1 = (i - (b + 1)) + n by omega, Nat.add_mod_right]
    · rw [show i - b + n - 1 = i + n - (b + 1) by omega]
  · rw [Nat.mod_eq_of_lt (show i + n - b < n by omega), show i + n - b + n - 1 = (i + n - (b + 1)) + n by omega, Nat.add_mod_right]
/-- facts of an arc -/
theorem ARC_sh {L : Ld} (hw : WF L) {r i : Nat} {a : Ac} (hr : r < L.nr) (hi : i < L.cn r) (h : ARC L r i a) : a.1 = r ∧ a.2.1 < L.cn r ∧ 2 ≤ a.2.2.1 ∧ a.2.2.1 ≤ L.cn r + 1 ∧ 1 ≤ eN a ∧ eN a ≤ L.cn r ∧ ∃ j, j < eN a ∧ (a.2.1 + j) % L.cn r = i := by
  have h3 := hw.2.2.1 r hr
  obtain ⟨h0, h⟩ := h
  refine ⟨h0, ?_⟩
  rcases h with ⟨h1, h2, h4, h5⟩ | ⟨h1, b, k, h2, h4, h5, h6, h7, h8, h9, h10, h11⟩
  · have e : eN a = L.cn r := by unfold eN; rw [h1, h4]; rfl
    rw [e, h2, h4]
    exact ⟨by omega, by omega, by omega, by omega, Nat.le_refl _, i, hi, by rw [Nat.zero_add, Nat.mod_eq_of_lt hi]⟩
  · have e : eN a = k := by unfold eN; rw [h1, h7]; rfl
    have hlt : a.2.1 < L.cn r := by rw [h4]; exact Nat.mod_lt _ (by omega)
    rw [e]
    refine ⟨hlt, by omega, by omega, by omega, by omega, ?_⟩
    have hbk : b < k := by
      rcases Nat.lt_or_ge b k with q | q
      · exact q
      · exfalso
        by_cases z : k = b
        · by_cases z0 : b = 0
          · omega
          · have := h6 0 (by omega)
            rw [Nat.sub_zero, Nat.add_mod_right, Nat.mod_eq_of_lt hi] at this
            have e2 := md_b (n := L.cn r) (i := i) (b := b) (by omega) hi (by omega)
            rw [← h4, ← z] at e2
            rw [e2] at h10
            exact this h10
        · have hq := h6 (b - k) (by omega)
          have e3 : (i + L.cn r - (b - k)) % L.cn r = (a.2.1 + k) % L.cn r := by
            rw [h4, Nat.add_mod, Nat.mod_mod, ← Nat.add_mod]
            congr 1
            omega
          rw [e3] at hq
          exact hq h10
    exact ⟨b, hbk, by rw [h4]; exact md_b (by omega) hi (by omega)⟩
theorem ARC_TK {L : Ld} (hw : WF L) {r i : Nat} {a : Ac} (hr : r < L.nr) (hi : i < L.cn r) (h : ARC L r i a) : TKa L a (L.co r i) (cx L r i) := by
  have h3 := hw.2.2.1 r hr
  obtain ⟨h0, -, -, -, -, -, j, h1, h2⟩ := ARC_sh hw hr hi h
  refine ⟨j, h1, Or.inl ⟨?_, ?_⟩⟩
  · unfold pt
    rw [h0, h2]
  · unfold pt cx
    rw [h0, ← Nat.add_assoc, ← md_s (by omega), h2]
/-- arcs as they come -/
def AOK (L : Ld) (as : List Ac) : Prop := ∀ a, a ∈ as → ∃ r i, r < L.nr ∧ i < L.cn r ∧ ARC L r i a
theorem AOK_c {L : Ld} {as : List Ac} {a : Ac} {r i : Nat} (h : AOK L as) (hr : r < L.nr) (hi : i < L.cn r) (ha : ARC L r i a) : AOK L (as ++ [a]) := by
  intro b hb
  rcases List.mem_append.mp hb with q | q
  · exact h b q
  · rw [List.mem_singleton] at q
    rw [q]; exact ⟨r, i, hr, hi, ha⟩
/-- of two neighbours of a point that ends two edges there is no third -/
theorem cnt3 {P : Nat → Prop} {n a b c : Nat} (ha : a < n) (hb : b < n) (hc : c < n) (hab : a ≠ b) (hac : a ≠ c) (hbc : b ≠ c) (pa : P a) (pb : P b) (pc : P c) : 3 ≤ sm (fun q => bI (P q)) n := by
  have e : ∀ q, bI (q = a) + bI (q = b) + bI (q = c) ≤ bI (P q) := by
    intro q
    by_cases w1 : q = a
    · rw [bI_t w1, bI_f (by omega), bI_f (by omega), w1, bI_t pa]; omega
    by_cases w2 : q = b
    · rw [bI_f w1, bI_t w2, bI_f (by omega), w2, bI_t pb]; omega
    by_cases w3 : q = c
    · rw [bI_f w1, bI_f w2, bI_t w3, w3, bI_t pc]; omega
    rw [bI_f w1, bI_f w2, bI_f w3]
    have := bI_b (P q)
    omega
  have mono : ∀ m, sm (fun q => bI (q = a) + bI (q = b) + bI (q = c)) m ≤ sm (fun q => bI (P q)) m := by
    intro m
    induction m with
    | zero => exact Int.le_refl _
    | succ m ih =>
      rw [sm_s, sm_s]
      have := e m
      omega
  have h := mono n
  rw [sm_add, sm_add, sm_one ha, sm_one hb, sm_one hc] at h
  omega
theorem two_nb {L : Ld} (hw : WF L) {p a b q : Nat} (hn : ¬ ND L p) (ha : 0 < us L p a) (hb : 0 < us L p b) (hq : 0 < us L p q) (hab : a ≠ b) : q = a ∨ q = b := by
  have h2 : dg L p = 2 := Classical.not_not.mp (fun z => hn (Or.inr z))
  have lt : ∀ x, 0 < us L p x → x < L.np ∧ x ≠ p := by
    intro x hx
    obtain ⟨r, i, hr, hi, he⟩ := us_pos.mp hx
    have c1 := hw.2.2.2.1 r i hr hi
    have c2 := cx_lt hw (i := i) hr
    have c3 := co_ne hw hr hi
    rcases isE_ce he with ⟨x1, x2⟩ | ⟨x1, x2⟩
    · rw [← x1, ← x2]; exact ⟨c2, Ne.symm c3⟩
    · rw [← x1, ← x2]; exact ⟨c1, c3⟩
  by_cases w1 : q = a
  · exact Or.inl w1
  by_cases w2 : q = b
  · exact Or.inr w2
  exfalso
  have h3 := cnt3 (P := fun x => x ≠ p ∧ 0 < us L p x) (lt a ha).1 (lt b hb).1 (lt q hq).1 hab (Ne.symm w1) (Ne.symm w2) ⟨(lt a ha).2, ha⟩ ⟨(lt b hb).2, hb⟩ ⟨(lt q hq).2, hq⟩
  unfold dg dgU at h2
  omega
/-- the two edges of a ring at a point -/
theorem us_nx {L : Ld} {r i : Nat} (hr : r < L.nr) (hi : i < L.cn r) : 0 < us L (L.co r i) (cx L r i) := us_pos.mpr ⟨r, i, hr, hi, Or.inl ⟨rfl, rfl⟩⟩
/-- inside an arc: a point that is no node has both its edges there -/
theorem arc_in {L : Ld} (hw : WF L) {r i : Nat} {a : Ac} (hr : r < L.nr) (hi : i < L.cn r) (h : ARC L r i a) {p j : Nat} (hj : j < a.2.2.1) (hp : pt L a j = p) (hn : ¬ ND L p) {q : Nat} (hq : 0 < us L p q) : TKa L a p q := by
  have h3 := hw.2.2.1 r hr
  have inj := hw.2.2.2.2.1 r
  -- place of p in the ring
  have key : ∃ k, (k < eN a) ∧ pt L a (k + 1) = p ∧ ∃ k', k' < eN a ∧ pt L a k' = p := by
    obtain ⟨h0, hh⟩ := h
    rcases hh with ⟨h1, h2, h4, h5⟩ | ⟨h1, b, m, h2, h4, h5, h6, h7, h8, h9, h10, h11⟩
    · have e : eN a = L.cn r := by unfold eN; rw [h1, h4]; rfl
      rw [h4] at hj
      rw [e]
      by_cases z : j = 0
      · refine ⟨L.cn r - 1, by omega, ?_, j, hj, hp⟩
        rw [← hp, z]
        unfold pt
        rw [h0, h2, show 0 + (L.cn r - 1 + 1) = 0 + 0 + L.cn r by omega, Nat.add_mod_right]
      · exact ⟨j - 1, by omega, by rw [show j - 1 + 1 = j by omega]; exact hp, j, hj, hp⟩
    · have e : eN a = m := by unfold eN; rw [h1, h7]; rfl
      rw [e]
      have j0 : j ≠ 0 := fun z => by
        apply hn
        rw [← hp, z]
        unfold pt
        rw [h0, Nat.add_zero]
        have hlt : a.2.1 < L.cn r := by rw [h4]; exact Nat.mod_lt _ (by omega)
        rw [Nat.mod_eq_of_lt hlt]
        exact h5
      have jm : j ≠ m := fun z => by
        apply hn
        rw [← hp, z]
        unfold pt
        rw [h0]
        exact h10
      exact ⟨j - 1, by omega, by rw [show j - 1 + 1 = j by omega]; exact hp, j, by omega, hp⟩
  obtain ⟨k, k1, k2, k', k3, k4⟩ := key
  have h0 : a.1 = r := h.1
  have m1 : (a.2.1 + k) % L.cn r < L.cn r := Nat.mod_lt _ (by omega)
  have m2 : (a.2.1 + k') % L.cn r < L.cn r := Nat.mod_lt _ (by omega)
  have e1 : pt L a (k + 1) = cx L r ((a.2.1 + k) % L.cn r) := by
    unfold pt cx
    rw [h0, md_s (by omega), Nat.add_assoc]
  have e2 : pt L a (k' + 1) = cx L r ((a.2.1 + k') % L.cn r) := by
    unfold pt cx
    rw [h0, md_s (by omega), Nat.add_assoc]
  have e3 : pt L a k = L.co r ((a.2.1 + k) % L.cn r) := by unfold pt; rw [h0]
  have e4 : pt L a k' = L.co r ((a.2.1 + k') % L.cn r) := by unfold pt; rw [h0]
  have u1 : 0 < us L p (pt L a k) := by
    rw [us_sw, ← k2, e1, e3]
    exact us_nx hr m1
  have u2 : 0 < us L p (pt L a (k' + 1)) := by
    rw [← k4, e2, e4]
    exact us_nx hr m2
  have hne : pt L a k ≠ pt L a (k' + 1) := by
    intro z
    rw [e3, e2] at z
    have q1 := inj _ _ hr m1 (Nat.mod_lt _ (by omega)) z
    have q2 : (((a.2.1 + k) % L.cn r) + 1) % L.cn r = (a.2.1 + k') % L.cn r := by
      have q3 : L.co r ((((a.2.1 + k) % L.cn r) + 1) % L.cn r) = L.co r ((a.2.1 + k') % L.cn r) := by
        have := k2.trans k4.symm
        rw [e1, e4] at this
        exact this
      exact inj _ _ hr (Nat.mod_lt _ (by omega)) m2 q3
    exact nx_ne (n := L.cn r) (by omega) m1 m2 q2 q1.symm
  rcases two_nb hw hn u1 u2 hq hne with z | z
  · exact ⟨k, k1, Or.inr ⟨z.symm, k2⟩⟩
  · exact ⟨k', k3, Or.inl ⟨k4, z.symm⟩⟩
