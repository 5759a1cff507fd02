/-! arcs: each point that is no node is in one -/
theorem tka_pt {L : Ld} (hw : WF L) {r i : Nat} {a : Ac} (hr : r < L.nr) (hi : i < L.cn r) (h : ARC L r i a) {x y : Nat} (t : TKa L a x y) : (∃ j, j < a.2.2.1 ∧ pt L a j = x) ∧ (∃ j, j < a.2.2.1 ∧ pt L a j = y) := by
  have h3 := hw.2.2.1 r hr
  have key : ∀ j, j < eN a → (∃ k, k < a.2.2.1 ∧ pt L a k = pt L a j) ∧ (∃ k, k < a.2.2.1 ∧ pt L a k = pt L a (j + 1)) := by
    intro j hj
    obtain ⟨h0, hh⟩ := h
    rcases hh with ⟨h1, h2, h4, h5⟩ | ⟨h1, b, m, h2, h4, h5, h6, h7, h8, h9, h10, h11⟩
    · have e : eN a = L.cn r := by unfold eN; rw [h1, h4]; rfl
      rw [e] at hj
      rw [h4]
      refine ⟨⟨j, hj, rfl⟩, ?_⟩
      by_cases z : j + 1 < L.cn r
      · exact ⟨j + 1, z, rfl⟩
      · refine ⟨0, by omega, ?_⟩
        unfold pt
        rw [h0, h2, show 0 + (j + 1) = 0 + 0 + L.cn r by omega, Nat.add_mod_right]
    · have e : eN a = m := by unfold eN; rw [h1, h7]; rfl
      rw [e] at hj
      exact ⟨⟨j, by omega, rfl⟩, ⟨j + 1, by omega, rfl⟩⟩
  obtain ⟨j, j1, ⟨j2, j3⟩ | ⟨j2, j3⟩⟩ := t
  · rw [← j2, ← j3]; exact key j j1
  · rw [← j2, ← j3]; exact ⟨(key j j1).2, (key j j1).1⟩
theorem TK_sw {L : Ld} {as : List Ac} {p q : Nat} (h : TK L as p q) : TK L as q p := by
  obtain ⟨a, ha, j, h1, h2⟩ := h
  exact ⟨a, ha, j, h1, h2.symm.elim (fun z => Or.inl z) (fun z => Or.inr z)⟩
theorem TK_step {L : Ld} (hw : WF L) {as : List Ac} (hA : AOK L as) {p x y : Nat} (hn : ¬ ND L p) (h : TK L as p x) (hy : 0 < us L p y) : TK L as p y := by
  obtain ⟨a, ha, t⟩ := h
  obtain ⟨r, i, hr, hi, hR⟩ := hA a ha
  obtain ⟨⟨j, h1, h2⟩, -⟩ := tka_pt hw hr hi hR t
  exact ⟨a, ha, arc_in hw hr hi hR h1 h2 hn hy⟩
theorem us_pt {L : Ld} (hw : WF L) {r i : Nat} {a : Ac} (hr : r < L.nr) (hi : i < L.cn r) (h : ARC L r i a) (j : Nat) : 0 < us L (pt L a j) (pt L a (j + 1)) := by
  have h3 := hw.2.2.1 r hr
  have m1 : (a.2.1 + j) % L.cn r < L.cn r := Nat.mod_lt _ (by omega)
  have e1 : pt L a (j + 1) = cx L r ((a.2.1 + j) % L.cn r) := by
    unfold pt cx
    rw [h.1, md_s (by omega), Nat.add_assoc]
  have e3 : pt L a j = L.co r ((a.2.1 + j) % L.cn r) := by unfold pt; rw [h.1]
  rw [e1, e3]
  exact us_nx hr m1
theorem arc_mid {L : Ld} {r i : Nat} {a : Ac} (h : ARC L r i a) (h3 : 0 < L.cn r) {j : Nat} (hj : 1 ≤ j) (hj2 : j < eN a) : ¬ ND L (pt L a j) := by
  obtain ⟨h0, hh⟩ := h
  rcases hh with ⟨h1, h2, h4, h5⟩ | ⟨h1, b, m, h2, h4, h5, h6, h7, h8, h9, h10, h11⟩
  · unfold pt
    rw [h0]
    exact h5 _ (Nat.mod_lt _ h3)
  · have e : eN a = m := by unfold eN; rw [h1, h7]; rfl
    rw [e] at hj2
    unfold pt
    rw [h0]
    exact h11 j hj hj2
theorem all_TK {L : Ld} (hw : WF L) {as : List Ac} (hA : AOK L as) {r i : Nat} {a : Ac} (hr : r < L.nr) (hi : i < L.cn r) (h : ARC L r i a) {j0 : Nat} (hj0 : j0 < eN a) (ht : TK L as (pt L a j0) (pt L a (j0 + 1))) : ∀ j, j < eN a → TK L as (pt L a j) (pt L a (j + 1)) := by
  have h3 := hw.2.2.1 r hr
  have up : ∀ d, j0 + d < eN a → TK L as (pt L a (j0 + d)) (pt L a (j0 + d + 1)) := by
    intro d
    induction d with
    | zero => intro _; exact ht
    | succ d ih =>
      intro hd
      have h1 := ih (by omega)
      have hn := arc_mid h (by omega) (j := j0 + d + 1) (by omega) (by omega)
      exact TK_step hw hA hn (TK_sw h1) (us_pt hw hr hi h (j0 + d + 1))
  have dn : ∀ d, d ≤ j0 → TK L as (pt L a (j0 - d)) (pt L a (j0 - d + 1)) := by
    intro d
    induction d with
    | zero => intro _; exact ht
    | succ d ih =>
      intro hd
      have h1 := ih (by omega)
      have hn := arc_mid h (by omega) (j := j0 - d) (by omega) (by omega)
      have u := us_pt hw hr hi h (j0 - (d + 1))
      rw [show j0 - (d + 1) + 1 = j0 - d by omega, us_sw] at u
      have h2 := TK_step hw hA hn h1 u
      rw [show j0 - (d + 1) + 1 = j0 - d by omega]
      exact TK_sw h2
  intro j hj
  by_cases z : j0 ≤ j
  · have := up (j - j0) (by omega)
    rw [show j0 + (j - j0) = j by omega] at this
    exact this
  · have := dn (j0 - j) (by omega)
    rw [show j0 - (j0 - j) = j by omega] at this
    exact this
/-- a new arc has no point in common with the ones before, but nodes -/
theorem arc_new {L : Ld} (hw : WF L) {as : List Ac} (hA : AOK L as) {r i : Nat} {a b : Ac} (hr : r < L.nr) (hi : i < L.cn r) (h : ARC L r i a) (hno : ¬ TK L as (L.co r i) (cx L r i)) (hb : b ∈ as) {p j k : Nat} (hn : ¬ ND L p) (hj : j < a.2.2.1) (hpj : pt L a j = p) (hk : k < b.2.2.1) (hpk : pt L b k = p) : False := by
  have h3 := hw.2.2.1 r hr
  obtain ⟨r', i', hr', hi', hR⟩ := hA b hb
  have u := us_pt hw hr hi h j
  rw [hpj] at u
  have t1 := arc_in hw hr hi h hj hpj hn u
  have t2 : TK L as p (pt L a (j + 1)) := ⟨b, hb, arc_in hw hr' hi' hR hk hpk hn u⟩
  obtain ⟨j0, q1, q2⟩ := t1
  have t3 : TK L as (pt L a j0) (pt L a (j0 + 1)) := by
    rcases q2 with ⟨x, y⟩ | ⟨x, y⟩
    · rw [x, y]; exact t2
    · rw [x, y]; exact TK_sw t2
  have all := all_TK hw hA hr hi h q1 t3
  obtain ⟨h0, -, -, -, -, -, j1, q3, q4⟩ := ARC_sh hw hr hi h
  have f := all j1 q3
  have e1 : pt L a j1 = L.co r i := by unfold pt; rw [h0, q4]
  have e2 : pt L a (j1 + 1) = cx L r i := by
    unfold pt cx
    rw [h0, ← Nat.add_assoc, ← md_s (by omega), q4]
  rw [e1, e2] at f
  exact hno f
abbrev aD : Ac := (0, 0, 0, false)
def ag (as : List Ac) (x : Nat) : Ac := as.getD x aD
theorem ag_l {as bs : List Ac} {x : Nat} (h : x < as.length) : ag (as ++ bs) x = ag as x := by
  unfold ag
  rw [List.getD_eq_getElem?_getD, List.getD_eq_getElem?_getD, List.getElem?_append_left h]
theorem ag_r {as : List Ac} {a : Ac} : ag (as ++ [a]) as.length = a := by
  unfold ag
  rw [List.getD_eq_getElem?_getD, List.getElem?_append_right (Nat.le_refl _)]
  simp
theorem ag_mem {as : List Ac} {x : Nat} (h : x < as.length) : ag as x ∈ as := by
  unfold ag
  rw [List.getD_eq_getElem?_getD, List.getElem?_eq_getElem h]
  exact List.getElem_mem h
theorem mem_ag {as : List Ac} {a : Ac} (h : a ∈ as) : ∃ x, x < as.length ∧ ag as x = a := by
  obtain ⟨i, hi, he⟩ := List.getElem_of_mem h
  exact ⟨i, hi, by unfold ag; rw [List.getD_eq_getElem?_getD, List.getElem?_eq_getElem hi]; exact he⟩
def inA (L : Ld) (a : Ac) (p : Nat) : Prop := ∃ j, j < a.2.2.1 ∧ pt L a j = p
def UNQ (L : Ld) (as : List Ac) : Prop := ∀ x y p, x < as.length → y < as.length → ¬ ND L p → inA L (ag as x) p → inA L (ag as y) p → x = y
/-- all that holds of the arcs so far, the pairs up to (r, i) looked at -/
def ALL (L : Ld) (as : List Ac) (r i : Nat) : Prop := AOK L as ∧ UNQ L as ∧ (∀ r' i', r' < L.nr → i' < L.cn r' → (r' < r ∨ (r' = r ∧ i' < i)) → TK L as (L.co r' i') (cx L r' i')) ∧ as.length ≤ 10 * r + i
theorem TK_app {L : Ld} {as bs : List Ac} {p q : Nat} (h : TK L as p q) : TK L (as ++ bs) p q := by
  obtain ⟨a, ha, t⟩ := h
  exact ⟨a, List.mem_append_left _ ha, t⟩
theorem ALL_old {L : Ld} {as : List Ac} {r i : Nat} (h : ALL L as r i) (ht : TK L as (L.co r i) (cx L r i)) : ALL L as r (i + 1) := by
  obtain ⟨h1, h2, h3, h4⟩ := h
  refine ⟨h1, h2, fun r' i' a b c => ?_, by omega⟩
  by_cases z : r' = r ∧ i' = i
  · rw [z.1, z.2]; exact ht
  · exact h3 r' i' a b (by omega)
theorem ALL_new {L : Ld} (hw : WF L) {as : List Ac} {r i : Nat} {a : Ac} (hr : r < L.nr) (hi : i < L.cn r) (h : ALL L as r i) (ha : ARC L r i a) (ht : ¬ TK L as (L.co r i) (cx L r i)) : ALL L (as ++ [a]) r (i + 1) := by
  obtain ⟨h1, h2, h3, h4⟩ := h
  refine ⟨AOK_c h1 hr hi ha, fun x y p hx hy hn ix iy => ?_, fun r' i' q1 q2 q3 => ?_, by rw [List.length_append, List.length_singleton]; omega⟩
  · rw [List.length_append, List.length_singleton] at hx hy
    by_cases zx : x < as.length
    · by_cases zy : y < as.length
      · rw [ag_l zx] at ix
        rw [ag_l zy] at iy
        exact h2 x y p zx zy hn ix iy
      · exfalso
        rw [show y = as.length by omega, ag_r] at iy
        rw [ag_l zx] at ix
        obtain ⟨k, k1, k2⟩ := ix
        obtain ⟨j, j1, j2⟩ := iy
        exact arc_new hw h1 hr hi ha ht (ag_mem zx) hn j1 j2 k1 k2
    · by_cases zy : y < as.length
      · exfalso
        rw [show x = as.length by omega, ag_r] at ix
        rw [ag_l zy] at iy
        obtain ⟨k, k1, k2⟩ := iy
        obtain ⟨j, j1, j2⟩ := ix
        exact arc_new hw h1 hr hi ha ht (ag_mem zy) hn j1 j2 k1 k2
      · omega
  · by_cases z : r' = r ∧ i' = i
    · rw [z.1, z.2]
      exact ⟨a, List.mem_append_right _ (List.mem_singleton.mpr rfl), ARC_TK hw hr hi ha⟩
    · exact TK_app (h3 r' i' q1 q2 (by omega))
theorem ALL_row {L : Ld} (hw : WF L) {as : List Ac} {r : Nat} (hr : r < L.nr) (h : ALL L as r (L.cn r)) : ALL L as (r + 1) 0 := by
  have h3 := hw.2.2.1 r hr
  obtain ⟨h1, h2, h4, h5⟩ := h
  refine ⟨h1, h2, fun r' i' a b c => h4 r' i' a b ?_, by omega⟩
  by_cases z : r' = r
  · subst z; exact Or.inr ⟨rfl, b⟩
  · left; omega
theorem ALL_0 (L : Ld) : ALL L [] 0 0 := ⟨fun a h => (by cases h), fun x y p hx => (by simp at hx), fun r' i' a b c => (by omega), (by simp)⟩
