/-! the reference: why a point may not go -/
theorem it_inv2 {β : Type} {f : (Int → Int → Option β) → Int → Int → Option β} (N : Nat) (I : Nat → Int → Prop) (w : Int → Option β) (hs : ∀ (c : Int → Int → Option β) (i : Nat) (v : Int), i < N → I i v → ∃ v', I (i + 1) v' ∧ f c v (i : Int) = c v' ((i + 1 : Nat) : Int)) (hx : ∀ (c : Int → Int → Option β) (v : Int), I N v → f c v (N : Int) = w v) : ∀ (fu i : Nat) (v : Int), i ≤ N → N - i < fu → I i v → ∃ v', I N v' ∧ itN (fun _ _ => none) f fu v (i : Int) = w v'
  | 0, i, _, _, h, _ => by omega
  | fu + 1, i, v, h1, h2, hi => by
    rw [itN_s]
    by_cases he : i = N
    · subst he
      exact ⟨v, hi, hx _ v hi⟩
    · obtain ⟨v', h3, h4⟩ := hs (itN (fun _ _ => none) f fu) i v (by omega) hi
      obtain ⟨u, h5, h6⟩ := it_inv2 N I w hs hx fu (i + 1) v' (by omega) (by omega) h3
      exact ⟨u, h5, by rw [h4]; exact h6⟩
theorem it_firsts {α β : Type} {f : (Int → α → Option β) → Int → α → Option β} (N : Nat) (P : Nat → Prop) (I : α → Prop) (Q : Nat → Option β → Prop) (Z : Option β → Prop) (hs1 : ∀ (c : Int → α → Option β) (i : Nat) (a : α), i < N → I a → P i → Q i (f c (i : Int) a)) (hs2 : ∀ (c : Int → α → Option β) (i : Nat) (a : α), i < N → I a → ¬ P i → ∃ a', I a' ∧ f c (i : Int) a = c ((i + 1 : Nat) : Int) a') (hx : ∀ (c : Int → α → Option β) (a : α), I a → Z (f c (N : Int) a)) : ∀ (fu i : Nat) (a : α), i ≤ N → N - i < fu → I a → (∃ j, i ≤ j ∧ j < N ∧ P j ∧ (∀ z, i ≤ z → z < j → ¬ P z) ∧ Q j (itN (fun _ _ => none) f fu (i : Int) a)) ∨ ((∀ z, i ≤ z → z < N → ¬ P z) ∧ Z (itN (fun _ _ => none) f fu (i : Int) a))
  | 0, i, _, _, h, _ => by omega
  | fu + 1, i, a, h1, h2, hi => by
    rw [itN_s]
    by_cases he : i = N
    · subst he
      exact Or.inr ⟨fun z a b => by omega, hx _ a hi⟩
    · by_cases hp : P i
      · exact Or.inl ⟨i, Nat.le_refl i, by omega, hp, fun z a b => by omega, hs1 _ i a (by omega) hi hp⟩
      · obtain ⟨a', h3, h4⟩ := hs2 (itN (fun _ _ => none) f fu) i a (by omega) hi hp
        rw [h4]
        have step : ∀ z, i ≤ z → ¬ (i + 1 ≤ z) → ¬ P z := fun z a b => (show z = i by omega) ▸ hp
        rcases it_firsts N P I Q Z hs1 hs2 hx fu (i + 1) a' (by omega) (by omega) h3 with ⟨j, x, b, d, q, r⟩ | ⟨q, r⟩
        · exact Or.inl ⟨j, by omega, b, d, fun z h1 h2 => if h : i + 1 ≤ z then q z h h2 else step z h1 h, r⟩
        · exact Or.inr ⟨fun z h1 h2 => if h : i + 1 ≤ z then q z h h2 else step z h1 h, r⟩
def E9 (σ σ' : Mm) : Prop := ∀ k, k ≠ 9 → σ' k = σ k
theorem E9_t {a b c : Mm} (h : E9 a b) (g : E9 b c) : E9 a c := fun k hk => (g k hk).trans (h k hk)
theorem E9_r (a : Mm) : E9 a a := fun _ _ => rfl
theorem E9_ML {σ σ' : Mm} {L : Ld} {o : Nat} (hf : E9 σ σ') (h : ML σ o L) : ML σ' o L := by
  unfold ML at h ⊢
  rw [hf 1 (by omega)]
  exact h
theorem E9_GA {σ σ' : Mm} {ga : Nat → Nat} (hf : E9 σ σ') (h : GA σ ga) : GA σ' ga := fun p hp => by rw [hf 5 (by omega)]; exact h p hp
def DG (σ : Mm) (L : Ld) : Prop := ∀ p, p < L.np → σ 8 p = dg L p
theorem E9_DG {σ σ' : Mm} {L : Ld} (hf : E9 σ σ') (h : DG σ L) : DG σ' L := fun p hp => by rw [hf 8 (by omega)]; exact h p hp
theorem m_placeIn {σ : Mm} {n p : Nat} {f : Nat → Nat} (hn : n ≤ 10) (hf : ∀ i, i < n → f i < 24) (hi : inj f n) (hr : ∀ i, i < n → σ 9 i = (f i : Int)) (hp : p < 1000) : (∃ i, i < n ∧ f i = p ∧ fX8_placeIn n p σ = some (i : Int)) ∨ ((∀ i, i < n → f i ≠ p) ∧ fX8_placeIn n p σ = some (-4)) := by
  obtain ⟨v, h1, h2⟩ := it_inv2 (f := fun c => fX8_placeIn_6 n p σ (fun v => fX8_placeIn_36 v σ) c) n (fun i v => (v = -4 ∧ ∀ j, j < i → f j ≠ p) ∨ (∃ j, j < i ∧ f j = p ∧ v = (j : Int))) (fun v => some v) (fun c i v hi hI => by
    have c1 := hr i hi
    have c2 := hf i hi
    by_cases e : f i = p
    · refine ⟨(i : Int), Or.inr ⟨i, by omega, e, rfl⟩, ?_⟩
      simp (disch := omega) only [fX8_placeIn_6, fX8_placeIn_29, c1, if_pos, Int.reduceAdd, Int.reduceSub, Int.reduceMul, Int.zero_add, Int.add_zero, Nat.zero_add, na_0, ca_la, ca_al, ca_lm, ca_add, ca_mod, ca_lit, tn_c, Int.natCast_zero, bd_some, bd2_some, bindv_e, chk_ok, cr_ok, crl_ok, chd_ok, chb_0, chb_1, cr_bI, chb_bI, ite_bI0, if_true, if_false]
    · refine ⟨v, ?_, ?_⟩
      · rcases hI with ⟨a, b⟩ | ⟨j, a, b, d⟩
        · refine Or.inl ⟨a, fun j hj => ?_⟩
          rcases Nat.lt_or_ge j i with z | z
          · exact b j z
          · exact (show i = j by omega) ▸ e
        · exact Or.inr ⟨j, by omega, b, d⟩
      · simp (disch := omega) only [fX8_placeIn_6, fX8_placeIn_29, c1, if_pos, if_neg, Int.reduceAdd, Int.reduceSub, Int.reduceMul, Int.zero_add, Int.add_zero, Nat.zero_add, na_0, ca_la, ca_al, ca_lm, ca_add, ca_mod, ca_lit, tn_c, Int.natCast_zero, bd_some, bd2_some, bindv_e, chk_ok, cr_ok, crl_ok, chd_ok, chb_0, chb_1, cr_bI, chb_bI, ite_bI0, if_true, if_false]) (fun c v hI => by
    simp (disch := omega) only [fX8_placeIn_6, fX8_placeIn_36, if_neg, Int.reduceAdd, Int.reduceSub, Int.reduceMul, Int.zero_add, Int.add_zero, Nat.zero_add, na_0, ca_la, ca_al, ca_lm, ca_add, ca_mod, ca_lit, tn_c, Int.natCast_zero, bd_some, bd2_some, bindv_e, chk_ok, cr_ok, crl_ok, chd_ok, chb_0, chb_1, cr_bI, chb_bI, ite_bI0, if_true, if_false]) 400 0 (-4) (Nat.zero_le _) (by omega) (Or.inl ⟨rfl, fun j hj => by omega⟩)
  rw [show ((0 : Nat) : Int) = 0 from rfl] at h2
  have hff : fX8_placeIn n p σ = some v := by
    simp only [fX8_placeIn, lX8_placeIn_6, bindv_e]
    rw [h2]
  rw [hff]
  rcases h1 with ⟨a, b⟩ | ⟨j, a, b, d⟩
  · exact Or.inr ⟨b, by rw [a]⟩
  · exact Or.inl ⟨j, a, b, by rw [d]⟩
theorem dr_SWL {L : Ld} (hw : WF L) (al : Nat → Bool) : SW L (dr L al) := dr_SW (SW_self hw) al
theorem m_nbA {σ : Mm} {L : Ld} {ga : Nat → Nat} {p s a b : Nat} (hw : WF L) (h : ML σ 0 L) (hg : GA σ ga) (hp : p < L.np) (hs : s < 1000) (hN : NB (dr L (als ga s)) L.nr p a b) : ∃ σ', fX8_neighbour p s (-1) σ = some ((a : Int), σ') ∧ E9 σ σ' := by
  have hnp := hw.1
  have hnr := hw.2.1
  have hS := dr_SWL hw (als ga s)
  generalize hSe : dr L (als ga s) = S at hS hN
  have key := it_firsts (f := fun c => fX8_neighbour_3 p s (-1) (fun t => fX8_neighbour_59 t) c) L.nr (fun r => has S r p) (fun t => E9 σ t) (fun r o => ∃ i σ', i < S.cn r ∧ S.co r i = p ∧ o = some (((S.co r ((i + S.cn r - 1) % S.cn r)) : Int), σ') ∧ E9 σ σ') (fun _ => True) (fun c r t hr hI hH => by
    obtain ⟨σ', n1, n2, n3⟩ := m_ringAt (s := s) hw (E9_ML hI h) (E9_GA hI hg) hr hs
    rw [hSe] at n1 n2
    have e1 := m_rings (E9_ML hI h)
    have h10 := hS.2.2.2.2.1 r hr
    rcases m_placeIn (σ := σ') (n := S.cn r) (p := p) (f := S.co r) h10 (fun i hi => by have := hS.2.2.2.2.2.1 r i hr hi; omega) (hS.2.2.2.2.2.2 r hr) n2 (by omega) with ⟨i, a1, a2, a3⟩ | ⟨a1, a2⟩
    · have hm : ((i + S.cn r - 1) % S.cn r) < S.cn r := Nat.mod_lt _ (by omega)
      refine ⟨i, σ', a1, a2, ?_, fun k hk => (n3 k hk).trans (hI k hk)⟩
      have c2 := n2 _ hm
      have ez : ((i : Int) + (S.cn r : Int)) + (-1) = ((i + S.cn r - 1 : Nat) : Int) := by omega
      simp (disch := omega) only [fX8_neighbour_3, e1, n1, a3, if_pos, if_neg, bd_some, bd2_some, bindv_e, cr_ok, ez, chd_ok, ca_mod, chk_ok, tn_c]
      rw [c2]
    · obtain ⟨i, x, y⟩ := hH
      exact absurd y (a1 i x)) (fun c r t hr hI hH => by
    obtain ⟨σ', n1, n2, n3⟩ := m_ringAt (s := s) hw (E9_ML hI h) (E9_GA hI hg) hr hs
    rw [hSe] at n1 n2
    have e1 := m_rings (E9_ML hI h)
    have h10 := hS.2.2.2.2.1 r hr
    rcases m_placeIn (σ := σ') (n := S.cn r) (p := p) (f := S.co r) h10 (fun i hi => by have := hS.2.2.2.2.2.1 r i hr hi; omega) (hS.2.2.2.2.2.2 r hr) n2 (by omega) with ⟨i, a1, a2, a3⟩ | ⟨a1, a2⟩
    · exact absurd ⟨i, a1, a2⟩ hH
    · refine ⟨σ', fun k hk => (n3 k hk).trans (hI k hk), ?_⟩
      simp (disch := omega) only [fX8_neighbour_3, e1, n1, a2, if_pos, Int.reduceAdd, Int.reduceSub, Int.reduceMul, Int.zero_add, Int.add_zero, Nat.zero_add, na_0, ca_la, ca_al, ca_lm, ca_add, ca_mod, ca_lit, tn_c, Int.natCast_zero, bd_some, bd2_some, bindv_e, chk_ok, cr_ok, crl_ok, chd_ok, chb_0, chb_1, cr_bI, chb_bI, ite_bI0, if_true, if_false]) (fun c t hI => trivial) 400 0 σ (Nat.zero_le _) (by omega) (E9_r σ)
  rw [show ((0 : Nat) : Int) = 0 from rfl] at key
  have hf : fX8_neighbour p s (-1) σ = itN (fun _ _ => none) (fun c => fX8_neighbour_3 p s (-1) (fun t => fX8_neighbour_59 t) c) 400 0 σ := by
    simp only [fX8_neighbour, lX8_neighbour_3, bindv_e]
  rw [hf]
  obtain ⟨r, i, h1, h2, h3, h4, h5, h6⟩ := hN
  rcases key with ⟨j, -, k2, k3, k4, i', σ', k5, k6, k7, k8⟩ | ⟨k1, -⟩
  · have hj : j = r := by
      rcases Nat.lt_trichotomy j r with q | q | q
      · exact absurd k3 (h4 j q)
      · exact q
      · exact absurd ⟨i, h2, h3⟩ (k4 r (Nat.zero_le r) q)
    subst hj
    have hi := hS.2.2.2.2.2.2 j h1 i' i k5 h2 (k6.trans h3.symm)
    subst hi
    exact ⟨σ', by rw [k7, h5], k8⟩
  · exact absurd ⟨i, h2, h3⟩ (k1 r (Nat.zero_le r) h1)
theorem m_nbB {σ : Mm} {L : Ld} {ga : Nat → Nat} {p s a b : Nat} (hw : WF L) (h : ML σ 0 L) (hg : GA σ ga) (hp : p < L.np) (hs : s < 1000) (hN : NB (dr L (als ga s)) L.nr p a b) : ∃ σ', fX8_neighbour p s 1 σ = some ((b : Int), σ') ∧ E9 σ σ' := by
  have hnp := hw.1
  have hnr := hw.2.1
  have hS := dr_SWL hw (als ga s)
  generalize hSe : dr L (als ga s) = S at hS hN
  have key := it_firsts (f := fun c => fX8_neighbour_3 p s 1 (fun t => fX8_neighbour_59 t) c) L.nr (fun r => has S r p) (fun t => E9 σ t) (fun r o => ∃ i σ', i < S.cn r ∧ S.co r i = p ∧ o = some (((S.co r ((i + 1) % S.cn r)) : Int), σ') ∧ E9 σ σ') (fun _ => True) (fun c r t hr hI hH => by
    obtain ⟨σ', n1, n2, n3⟩ := m_ringAt (s := s) hw (E9_ML hI h) (E9_GA hI hg) hr hs
    rw [hSe] at n1 n2
    have e1 := m_rings (E9_ML hI h)
    have h10 := hS.2.2.2.2.1 r hr
    rcases m_placeIn (σ := σ') (n := S.cn r) (p := p) (f := S.co r) h10 (fun i hi => by have := hS.2.2.2.2.2.1 r i hr hi; omega) (hS.2.2.2.2.2.2 r hr) n2 (by omega) with ⟨i, a1, a2, a3⟩ | ⟨a1, a2⟩
    · have hm : ((i + 1) % S.cn r) < S.cn r := Nat.mod_lt _ (by omega)
      refine ⟨i, σ', a1, a2, ?_, fun k hk => (n3 k hk).trans (hI k hk)⟩
      have c2 := n2 _ hm
      have ez : ((i : Int) + (S.cn r : Int)) + 1 = ((i + 1 + S.cn r : Nat) : Int) := by omega
      simp (disch := omega) only [fX8_neighbour_3, e1, n1, a3, if_pos, if_neg, bd_some, bd2_some, bindv_e, cr_ok, ez, chd_ok, ca_mod, chk_ok, tn_c, Nat.add_mod_right]
      rw [c2]
    · obtain ⟨i, x, y⟩ := hH
      exact absurd y (a1 i x)) (fun c r t hr hI hH => by
    obtain ⟨σ', n1, n2, n3⟩ := m_ringAt (s := s) hw (E9_ML hI h) (E9_GA hI hg) hr hs
    rw [hSe] at n1 n2
    have e1 := m_rings (E9_ML hI h)
    have h10 := hS.2.2.2.2.1 r hr
    rcases m_placeIn (σ := σ') (n := S.cn r) (p := p) (f := S.co r) h10 (fun i hi => by have := hS.2.2.2.2.2.1 r i hr hi; omega) (hS.2.2.2.2.2.2 r hr) n2 (by omega) with ⟨i, a1, a2, a3⟩ | ⟨a1, a2⟩
    · exact absurd ⟨i, a1, a2⟩ hH
    · refine ⟨σ', fun k hk => (n3 k hk).trans (hI k hk), ?_⟩
      simp (disch := omega) only [fX8_neighbour_3, e1, n1, a2, if_pos, Int.reduceAdd, Int.reduceSub, Int.reduceMul, Int.zero_add, Int.add_zero, Nat.zero_add, na_0, ca_la, ca_al, ca_lm, ca_add, ca_mod, ca_lit, tn_c, Int.natCast_zero, bd_some, bd2_some, bindv_e, chk_ok, cr_ok, crl_ok, chd_ok, chb_0, chb_1, cr_bI, chb_bI, ite_bI0, if_true, if_false]) (fun c t hI => trivial) 400 0 σ (Nat.zero_le _) (by omega) (E9_r σ)
  rw [show ((0 : Nat) : Int) = 0 from rfl] at key
  have hf : fX8_neighbour p s 1 σ = itN (fun _ _ => none) (fun c => fX8_neighbour_3 p s 1 (fun t => fX8_neighbour_59 t) c) 400 0 σ := by
    simp only [fX8_neighbour, lX8_neighbour_3, bindv_e]
  rw [hf]
  obtain ⟨r, i, h1, h2, h3, h4, h5, h6⟩ := hN
  rcases key with ⟨j, -, k2, k3, k4, i', σ', k5, k6, k7, k8⟩ | ⟨k1, -⟩
  · have hj : j = r := by
      rcases Nat.lt_trichotomy j r with q | q | q
      · exact absurd k3 (h4 j q)
      · exact q
      · exact absurd ⟨i, h2, h3⟩ (k4 r (Nat.zero_le r) q)
    subst hj
    have hi := hS.2.2.2.2.2.2 j h1 i' i k5 h2 (k6.trans h3.symm)
    subst hi
    exact ⟨σ', by rw [k7, h6], k8⟩
  · exact absurd ⟨i, h2, h3⟩ (k1 r (Nat.zero_le r) h1)
theorem m_edgesAt {σ : Mm} {L : Ld} {ga : Nat → Nat} {p q s : Nat} (hw : WF L) (h : ML σ 0 L) (hg : GA σ ga) (hs : s < 1000) (hp : p < 1000) (hq : q < 1000) : ∃ σ', fX8_edgesAt p q s σ = some (us (dr L (als ga s)) p q, σ') ∧ E9 σ σ' := by
  have hnp := hw.1
  have hnr := hw.2.1
  have hS := dr_SWL hw (als ga s)
  have hSn : (dr L (als ga s)).nr = L.nr := rfl
  unfold us
  rw [hSn]
  generalize hSe : dr L (als ga s) = S at hS
  have inner : ∀ (t : Mm) (e : Int → Option (Int × Mm)) (v : Int) (r : Nat), r < L.nr → (∀ i, i < S.cn r → t 9 i = (S.co r i : Int)) → lX8_edgesAt_27 p q s r (S.cn r) t e 400 v 0 = e (v + sm (fun i => bI (isE S r i p q)) (S.cn r)) := by
    intro t e v r hr hrow
    have h10 := hS.2.2.2.2.1 r hr
    simp only [lX8_edgesAt_27]
    refine it_sum0 (S.cn r) _ e v (by omega) (fun c a i hi => ?_) (fun c a => ?_)
    · have hm : (i + 1) % S.cn r < S.cn r := Nat.mod_lt _ (by omega)
      have c1 := hS.2.2.2.2.2.1 r i hr hi
      have c2 := hS.2.2.2.2.2.1 r _ hr hm
      simp (disch := omega) only [fX8_edgesAt_27, fX8_edgesAt_71, fX8_edgesAt_83, fX8_edgesAt_87, fX8_edgesAt_88, hrow, if_pos, Int.reduceAdd, Int.reduceSub, Int.reduceMul, Int.zero_add, Int.add_zero, Nat.zero_add, na_0, ca_la, ca_al, ca_lm, ca_add, ca_mod, ca_lit, tn_c, Int.natCast_zero, bd_some, bd2_some, bindv_e, chk_ok, cr_ok, crl_ok, chd_ok, chb_0, chb_1, cr_bI, chb_bI, ite_bI0, if_true, if_false]
      unfold isE
      show _ = c (a + bI ((S.co r i = p ∧ S.co r ((i + 1) % S.cn r) = q) ∨ (S.co r i = q ∧ S.co r ((i + 1) % S.cn r) = p))) _
      repeat' split
      all_goals first | (rw [bI_t (by omega)]; done) | (rw [bI_f (by omega), Int.add_zero])
    · simp (disch := omega) only [fX8_edgesAt_27, if_neg, Int.reduceAdd, Int.reduceSub, Int.reduceMul, Int.zero_add, Int.add_zero, Nat.zero_add, na_0, ca_la, ca_al, ca_lm, ca_add, ca_mod, ca_lit, tn_c, Int.natCast_zero, bd_some, bd2_some, bindv_e, chk_ok, cr_ok, crl_ok, chd_ok, chb_0, chb_1, cr_bI, chb_bI, ite_bI0, if_true, if_false]
  obtain ⟨v, σ', ⟨i1, i2⟩, e1⟩ := it_inv30 (f := fun c => fX8_edgesAt_6 p q s (fun v t => fX8_edgesAt_103 v t) c) L.nr (fun r v t => v = sm (fun r' => sm (fun i => bI (isE S r' i p q)) (S.cn r')) r ∧ E9 σ t) (fun v t => some (v, t)) 0 σ (by omega) ⟨rfl, E9_r σ⟩ (fun c r v t hr hI => by
    obtain ⟨q1, q2⟩ := hI
    obtain ⟨σ', n1, n2, n3⟩ := m_ringAt (s := s) hw (E9_ML q2 h) (E9_GA q2 hg) hr hs
    rw [hSe] at n1 n2
    have e1 := m_rings (E9_ML q2 h)
    have h10 := hS.2.2.2.2.1 r hr
    refine ⟨_, σ', ⟨rfl, fun k hk => (n3 k hk).trans (q2 k hk)⟩, ?_⟩
    have k1 := inner σ' (fun v => fX8_edgesAt_97 c p q s v r σ') v r hr n2
    have k2 : fX8_edgesAt_6 p q s (fun v t => fX8_edgesAt_103 v t) c v r t = fX8_edgesAt_97 c p q s (v + sm (fun i => bI (isE S r i p q)) (S.cn r)) r σ' := by
      rw [← k1]
      simp (disch := omega) only [fX8_edgesAt_6, e1, n1, if_pos, Int.reduceAdd, Int.reduceSub, Int.reduceMul, Int.zero_add, Int.add_zero, Nat.zero_add, na_0, ca_la, ca_al, ca_lm, ca_add, ca_mod, ca_lit, tn_c, Int.natCast_zero, bd_some, bd2_some, bindv_e, chk_ok, cr_ok, crl_ok, chd_ok, chb_0, chb_1, cr_bI, chb_bI, ite_bI0, if_true, if_false]
    show fX8_edgesAt_6 p q s (fun v t => fX8_edgesAt_103 v t) c v r t = _
    rw [k2, sm_s, ← q1]
    simp (disch := omega) only [fX8_edgesAt_97, Int.reduceAdd, Int.reduceSub, Int.reduceMul, Int.zero_add, Int.add_zero, Nat.zero_add, na_0, ca_la, ca_al, ca_lm, ca_add, ca_mod, ca_lit, tn_c, Int.natCast_zero, bd_some, bd2_some, bindv_e, chk_ok, cr_ok, crl_ok, chd_ok, chb_0, chb_1, cr_bI, chb_bI, ite_bI0, if_true, if_false]) (fun c v t hI => by
    have e1 := m_rings (E9_ML hI.2 h)
    simp (disch := omega) only [fX8_edgesAt_6, fX8_edgesAt_103, e1, if_neg, Int.reduceAdd, Int.reduceSub, Int.reduceMul, Int.zero_add, Int.add_zero, Nat.zero_add, na_0, ca_la, ca_al, ca_lm, ca_add, ca_mod, ca_lit, tn_c, Int.natCast_zero, bd_some, bd2_some, bindv_e, chk_ok, cr_ok, crl_ok, chd_ok, chb_0, chb_1, cr_bI, chb_bI, ite_bI0, if_true, if_false])
  refine ⟨σ', ?_, i2⟩
  simp only [fX8_edgesAt, lX8_edgesAt_6, bindv_e]
  rw [e1, i1]
theorem m_ringArea {σ : Mm} {L : Ld} {n : Nat} {f : Nat → Nat} (hw : WF L) (h : ML σ 0 L) (hn : n ≤ 10) (hf : ∀ i, i < n → f i < L.np) (hr : ∀ i, i < n → σ 9 i = (f i : Int)) : fX8_ringArea n σ = some (ARf L f n) := by
  have hnp := hw.1
  obtain ⟨-, -, hX, hY, -⟩ := ML0 h
  have key := it_sum0 (f := fun c => fX8_ringArea_4 n σ (fun v => fX8_ringArea_75 v σ) c) n (fun i => L.X (f i) * L.Y (f ((i + 1) % n)) - L.X (f ((i + 1) % n)) * L.Y (f i)) (fun v => some v) 0 (by omega) (fun c a i hi => by
    have hm : (i + 1) % n < n := Nat.mod_lt _ (by omega)
    have c1 := hf i hi
    have c2 := hf ((i + 1) % n) hm
    simp (disch := omega) only [fX8_ringArea_4, hr, hX, hY, if_pos, Int.reduceAdd, Int.reduceSub, Int.reduceMul, Int.zero_add, Int.add_zero, Nat.zero_add, na_0, ca_la, ca_al, ca_lm, ca_add, ca_mod, ca_lit, tn_c, Int.natCast_zero, bd_some, bd2_some, bindv_e, chk_ok, cr_ok, crl_ok, chd_ok, chb_0, chb_1, cr_bI, chb_bI, ite_bI0, if_true, if_false]) (fun c a => by
    simp (disch := omega) only [fX8_ringArea_4, fX8_ringArea_75, if_neg, Int.reduceAdd, Int.reduceSub, Int.reduceMul, Int.zero_add, Int.add_zero, Nat.zero_add, na_0, ca_la, ca_al, ca_lm, ca_add, ca_mod, ca_lit, tn_c, Int.natCast_zero, bd_some, bd2_some, bindv_e, chk_ok, cr_ok, crl_ok, chd_ok, chb_0, chb_1, cr_bI, chb_bI, ite_bI0, if_true, if_false])
  rw [Int.zero_add] at key
  simp only [fX8_ringArea, lX8_ringArea_4, bindv_e]
  exact key
theorem pf_cut {f : Nat → Nat} {n a p : Nat} (hi : inj f n) (ha : a < n) (hp : f a = p) : ∀ m, m ≤ n → (pf f m (fun x => x != p)).length = (if m ≤ a then m else m - 1) ∧ ∀ j, j < (pf f m (fun x => x != p)).length → (pf f m (fun x => x != p)).getD j 0 = if j < a then f j else f (j + 1)
  | 0, _ => ⟨by simp [pf], fun j hj => by simp [pf] at hj⟩
  | m + 1, hm => by
    obtain ⟨h1, h2⟩ := pf_cut hi ha hp m (by omega)
    rw [pf_s]
    by_cases e : m = a
    · subst e
      rw [if_neg (by simp [hp]), List.append_nil]
      refine ⟨?_, h2⟩
      rw [h1, if_pos (Nat.le_refl _), if_neg (by omega)]
      omega
    · have hne : f m ≠ p := fun z => e (hi m a (by omega) ha (z.trans hp.symm))
      rw [if_pos (by simp [hne]), List.length_append, List.length_singleton]
      constructor
      · rw [h1]
        by_cases w : m ≤ a
        · rw [if_pos w, if_pos (by omega)]
        · rw [if_neg w, if_neg (by omega)]; omega
      · intro j hj
        by_cases w : j < (pf f m (fun x => x != p)).length
        · rw [gD_l w]; exact h2 j w
        · have hje : j = (pf f m (fun x => x != p)).length := by omega
          rw [hje, gD_r, h1]
          by_cases w2 : m ≤ a
          · rw [if_pos w2, if_pos (by omega)]
          · rw [if_neg w2, if_neg (by omega)]
            congr 1
            omega
theorem ARf_c {L : Ld} {f g : Nat → Nat} {n : Nat} (h : ∀ i, i < n → f i = g i) : ARf L f n = ARf L g n := by
  unfold ARf
  refine sm_c fun i hi => ?_
  rw [h i hi, h ((i + 1) % n) (Nat.mod_lt _ (by omega))]
def WTm (S : Ld) (p r : Nat) : Prop := sgn (AR (dp S p) r) = 0 ∨ sgn (AR (dp S p) r) ≠ sgn (AR S r)
theorem m_shift49 {σ t : Mm} {p s u r n a : Nat} {f : Nat → Nat} {v : Int} {e : Mm → Option (Int × Mm)} (hn : n ≤ 10) (ha : a < n) (hE : E9 σ t) (hr : ∀ i, i < n → t 9 i = (f i : Int)) : ∃ t', E9 σ t' ∧ (∀ j, j < n - 1 → t' 9 j = ((if j < a then f j else f (j + 1) : Nat) : Int)) ∧ lX8_ringsWhy_49 p s u r n v e 400 a t = e t' := by
  obtain ⟨t', ⟨i1, i2, -⟩, e2⟩ := it_inv (f := fun c => fX8_ringsWhy_49 p s u r n v e c) (n - 1) (fun i z => E9 σ z ∧ (∀ j, j < i → z 9 j = ((if j < a then f j else f (j + 1) : Nat) : Int)) ∧ (∀ j, i ≤ j → j < n → z 9 j = (f j : Int)) ∧ a ≤ i) e (fun c i z hi hz => by
    obtain ⟨q1, q2, q3, q4⟩ := hz
    have c1 := q3 (i + 1) (by omega) (by omega)
    refine ⟨sto z 9 i (f (i + 1) : Int), ⟨fun k hk => by rw [sto_c hk]; exact q1 k hk, fun j hj => ?_, fun j h1 h2 => ?_, by omega⟩, ?_⟩
    · rw [sto_at]
      by_cases w : j = i
      · subst w; rw [if_pos ⟨rfl, rfl⟩, if_neg (by omega)]
      · rw [if_neg (by omega)]; exact q2 j (by omega)
    · rw [sto_i (by omega)]; exact q3 j (by omega) h2
    · simp (disch := omega) only [fX8_ringsWhy_49, c1, if_pos, Int.reduceAdd, Int.reduceSub, Int.reduceMul, Int.zero_add, Int.add_zero, Nat.zero_add, na_0, ca_la, ca_al, ca_lm, ca_add, ca_mod, ca_lit, tn_c, Int.natCast_zero, bd_some, bd2_some, bindv_e, chk_ok, cr_ok, crl_ok, chd_ok, chb_0, chb_1, cr_bI, chb_bI, ite_bI0, if_true, if_false]) (fun c z hz => by
    have ez : ((n - 1 : Nat) : Int) + 1 = (n : Int) := by omega
    simp (disch := omega) only [fX8_ringsWhy_49, ez, cr_ok, if_neg]) 400 a t (by omega) (by omega) ⟨hE, fun j hj => by rw [hr j (by omega), if_pos hj], fun j _ h2 => hr j h2, Nat.le_refl a⟩
  exact ⟨t', i1, i2, by simp only [lX8_ringsWhy_49]; exact e2⟩
theorem m_ringsWhy {σ : Mm} {L : Ld} {ga : Nat → Nat} {p s u : Nat} (hw : WF L) (h : ML σ 0 L) (hg : GA σ ga) (hs : s < 1000) (hp : p < L.np) (hu : u = 3 ∨ u = 5) : ∃ σ', fX8_ringsWhy p s u σ = some (pI (∃ r, r < L.nr ∧ has (dr L (als ga s)) r p ∧ ((u = 3 ∧ (dr L (als ga s)).cn r ≤ 3) ∨ (u = 5 ∧ WTm (dr L (als ga s)) p r))) (u : Int) 0, σ') ∧ E9 σ σ' := by
  have hnp := hw.1
  have hnr := hw.2.1
  have hS := dr_SWL hw (als ga s)
  generalize hSe : dr L (als ga s) = S at hS
  obtain ⟨σ', h1, h2⟩ := it_exs0 (f := fun c => fX8_ringsWhy_3 p s u (fun t => fX8_ringsWhy_133 t) c) L.nr (fun r => has S r p ∧ ((u = 3 ∧ S.cn r ≤ 3) ∨ (u = 5 ∧ WTm S p r))) (fun t => E9 σ t) (fun t => some ((u : Int), t)) (fun t => some (0, t)) σ (by omega) (E9_r σ) (fun c r t hr hI => by
    obtain ⟨t1, n1, n2, n3⟩ := m_ringAt (s := s) hw (E9_ML hI h) (E9_GA hI hg) hr hs
    rw [hSe] at n1 n2
    have e1 := m_rings (E9_ML hI h)
    have h10 := hS.2.2.2.2.1 r hr
    have hI1 : E9 σ t1 := fun k hk => (n3 k hk).trans (hI k hk)
    have hin := hS.2.2.2.2.2.2 r hr
    have hlt := hS.2.2.2.2.2.1 r
    rcases m_placeIn (σ := t1) (n := S.cn r) (p := p) (f := S.co r) h10 (fun i hi => by have := hlt i hr hi; omega) hin n2 (by omega) with ⟨a, a1, a2, a3⟩ | ⟨a1, a2⟩
    · have r1 := m_ringArea (f := S.co r) hw (E9_ML hI1 h) h10 (fun i hi => hlt i hr hi) n2
      have b2 := ARf_b hw h10 (fun i hi => hlt i hr hi)
      rw [ARf_S hS] at r1 b2
      have ea : ARf S (S.co r) (S.cn r) = AR S r := rfl
      rw [ea] at r1 b2
      obtain ⟨t2, k1, k2, k3⟩ := m_shift49 (σ := σ) (t := t1) (p := p) (s := s) (u := u) (r := r) (n := S.cn r) (a := a) (f := S.co r) (v := AR S r) (e := fun z => fX8_ringsWhy_80 c p s u r (S.cn r) (AR S r) z) h10 a1 hI1 n2
      have hcut := pf_cut hin a1 a2 (S.cn r) (Nat.le_refl _)
      rw [if_neg (show ¬ S.cn r ≤ a by omega)] at hcut
      have hD : SW L (dp S p) := dr_SW hS (fun x => x != p)
      have dn : (dp S p).cn r = S.cn r - 1 := hcut.1
      have dc : ∀ i, i < S.cn r - 1 → (dp S p).co r i = if i < a then S.co r i else S.co r (i + 1) := fun i hi => hcut.2 i (by rw [hcut.1]; exact hi)
      have r2 := m_ringArea (n := S.cn r - 1) (f := (dp S p).co r) hw (E9_ML k1 h) (by omega) (fun i hi => hD.2.2.2.2.2.1 r i hr (by rw [dn]; exact hi)) (fun i hi => by rw [dc i hi]; exact k2 i hi)
      have b3 := ARf_b hw (n := S.cn r - 1) (f := (dp S p).co r) (by omega) (fun i hi => hD.2.2.2.2.2.1 r i hr (by rw [dn]; exact hi))
      rw [← dn, ARf_S hD] at r2 b3
      have eb : ARf (dp S p) ((dp S p).co r) ((dp S p).cn r) = AR (dp S p) r := rfl
      rw [eb] at r2 b3
      rw [dn] at r2
      have ez : (S.cn r : Int) - 1 = ((S.cn r - 1 : Nat) : Int) := by omega
      have g1 := m_signOf (v := AR (dp S p) r) t2 (by omega)
      have g2 := m_signOf (v := AR S r) t2 (by omega)
      have s1 := sgn_b (AR (dp S p) r)
      have s2 := sgn_b (AR S r)
      have hhas : has S r p := ⟨a, a1, a2⟩
      have base : fX8_ringsWhy_3 p s u (fun t => fX8_ringsWhy_133 t) c r t = fX8_ringsWhy_80 c p s u r (S.cn r) (AR S r) t2 := by
        rw [← k3]
        simp (disch := omega) only [fX8_ringsWhy_3, e1, n1, a3, r1, if_pos, if_neg, Int.reduceAdd, Int.reduceSub, Int.reduceMul, Int.zero_add, Int.add_zero, Nat.zero_add, na_0, ca_la, ca_al, ca_lm, ca_add, ca_mod, ca_lit, tn_c, Int.natCast_zero, bd_some, bd2_some, bindv_e, chk_ok, cr_ok, crl_ok, chd_ok, chb_0, chb_1, cr_bI, chb_bI, ite_bI0, if_true, if_false]
      refine ⟨t2, k1, ?_⟩
      show fX8_ringsWhy_3 p s u (fun t => fX8_ringsWhy_133 t) c r t = _
      rw [base]
      rcases hu with rfl | rfl
      · simp (disch := omega) only [fX8_ringsWhy_80, fX8_ringsWhy_125, fX8_ringsWhy_127, ez, r2, if_pos, Int.reduceAdd, Int.reduceSub, Int.reduceMul, Int.zero_add, Int.add_zero, Nat.zero_add, na_0, ca_la, ca_al, ca_lm, ca_add, ca_mod, ca_lit, tn_c, Int.natCast_zero, bd_some, bd2_some, bindv_e, chk_ok, cr_ok, crl_ok, chd_ok, chb_0, chb_1, cr_bI, chb_bI, ite_bI0, if_true, if_false]
        by_cases w : 3 < S.cn r
        · rw [if_pos (by omega), pI_f]
          rintro ⟨-, z | z⟩
          · omega
          · omega
        · rw [if_neg (by omega), pI_t ⟨hhas, Or.inl ⟨trivial, by omega⟩⟩]
      · simp (disch := omega) only [fX8_ringsWhy_80, fX8_ringsWhy_125, fX8_ringsWhy_127, ez, r2, g1, g2, if_neg, Int.reduceAdd, Int.reduceSub, Int.reduceMul, Int.zero_add, Int.add_zero, Nat.zero_add, na_0, ca_la, ca_al, ca_lm, ca_add, ca_mod, ca_lit, tn_c, Int.natCast_zero, bd_some, bd2_some, bindv_e, chk_ok, cr_ok, crl_ok, chd_ok, chb_0, chb_1, cr_bI, chb_bI, ite_bI0, if_true, if_false]
        by_cases w1 : sgn (AR (dp S p) r) = 0
        · rw [if_pos w1, pI_t ⟨hhas, Or.inr ⟨trivial, Or.inl w1⟩⟩]
        rw [if_neg w1]
        by_cases w2 : sgn (AR (dp S p) r) = sgn (AR S r)
        · rw [if_pos w2, pI_f]
          rintro ⟨-, z | ⟨-, z | z⟩⟩
          · omega
          · exact w1 z
          · exact z w2
        · rw [if_neg w2, pI_t ⟨hhas, Or.inr ⟨trivial, Or.inr w2⟩⟩]
    · refine ⟨t1, hI1, ?_⟩
      simp (disch := omega) only [fX8_ringsWhy_3, fX8_ringsWhy_127, e1, n1, a2, if_pos, Int.reduceAdd, Int.reduceSub, Int.reduceMul, Int.zero_add, Int.add_zero, Nat.zero_add, na_0, ca_la, ca_al, ca_lm, ca_add, ca_mod, ca_lit, tn_c, Int.natCast_zero, bd_some, bd2_some, bindv_e, chk_ok, cr_ok, crl_ok, chd_ok, chb_0, chb_1, cr_bI, chb_bI, ite_bI0, if_true, if_false]
      rw [pI_f (fun z => by obtain ⟨⟨i, x, y⟩, -⟩ := z; exact a1 i x y)]) (fun c t hI => by
    have e1 := m_rings (E9_ML hI h)
    simp (disch := omega) only [fX8_ringsWhy_3, fX8_ringsWhy_133, e1, if_neg, Int.reduceAdd, Int.reduceSub, Int.reduceMul, Int.zero_add, Int.add_zero, Nat.zero_add, na_0, ca_la, ca_al, ca_lm, ca_add, ca_mod, ca_lit, tn_c, Int.natCast_zero, bd_some, bd2_some, bindv_e, chk_ok, cr_ok, crl_ok, chd_ok, chb_0, chb_1, cr_bI, chb_bI, ite_bI0, if_true, if_false])
  refine ⟨σ', ?_, h1⟩
  simp only [fX8_ringsWhy, lX8_ringsWhy_3, bindv_e]
  rw [h2]
  by_cases w : ∃ r, r < L.nr ∧ has S r p ∧ ((u = 3 ∧ S.cn r ≤ 3) ∨ (u = 5 ∧ WTm S p r))
  · rw [pI_t w, pI_t w]
  · rw [pI_f w, pI_f w]
theorem m_isEmpty {σ : Mm} {L : Ld} {ga : Nat → Nat} {a p b s : Nat} (hw : WF L) (h : ML σ 0 L) (hg : GA σ ga) (hs : s < 1000) (ha : a < L.np) (hp : p < L.np) (hb : b < L.np) : fX8_isEmpty p s a b σ = some (bI (¬ SLI L (als ga s) a p b)) := by
  have hnp := hw.1
  have e1 := m_points h
  have key := it_ex0 (f := fun c => fX8_isEmpty_3 p s a b σ (fX8_isEmpty_62 σ) c) L.np (fun q => als ga s q = true ∧ q ≠ a ∧ q ≠ p ∧ q ≠ b ∧ INT L a p b q) (some 0) (some 1) (by omega) (fun c q hq => by
    have e2 := m_isInTriangle hw h ha hp hb hq
    have e3 := m_isThere (p := q) (s := s) hg (by omega) hs
    simp (disch := omega) only [fX8_isEmpty_3, fX8_isEmpty_56, e1, e2, e3, if_pos, Int.reduceAdd, Int.reduceSub, Int.reduceMul, Int.zero_add, Int.add_zero, Nat.zero_add, na_0, ca_la, ca_al, ca_lm, ca_add, ca_mod, ca_lit, tn_c, Int.natCast_zero, bd_some, bd2_some, bindv_e, chk_ok, cr_ok, crl_ok, chd_ok, chb_0, chb_1, cr_bI, chb_bI, ite_bI0, if_true, if_false]
    by_cases w2 : q = p
    · rw [if_pos (by omega), pI_f (fun z => z.2.2.1 w2)]
    rw [if_neg (by omega)]
    by_cases w1 : q = a
    · rw [if_pos (by omega), pI_f (fun z => z.2.1 w1)]
    rw [if_neg (by omega)]
    by_cases w3 : q = b
    · rw [if_pos (by omega), pI_f (fun z => z.2.2.2.1 w3)]
    rw [if_neg (by omega)]
    by_cases w0 : als ga s q = true
    · rw [pI_t w0]
      exact pI_c ⟨fun z => ⟨w0, w1, w2, w3, z⟩, fun z => z.2.2.2.2⟩
    · rw [pI_f w0, pI_f (fun z => w0 z.1)]) (fun c => by
    simp (disch := omega) only [fX8_isEmpty_3, fX8_isEmpty_62, e1, if_neg, Int.reduceAdd, Int.reduceSub, Int.reduceMul, Int.zero_add, Int.add_zero, Nat.zero_add, na_0, ca_la, ca_al, ca_lm, ca_add, ca_mod, ca_lit, tn_c, Int.natCast_zero, bd_some, bd2_some, bindv_e, chk_ok, cr_ok, crl_ok, chd_ok, chb_0, chb_1, cr_bI, chb_bI, ite_bI0, if_true, if_false])
  simp only [fX8_isEmpty, lX8_isEmpty_3, bindv_e]
  rw [key, pI_some']
  rfl
theorem m_isNode {σ : Mm} {L : Ld} {p : Nat} (hw : WF L) (h : ML σ 0 L) (hD : DG σ L) (hp : p < L.np) : fX8_isNode p σ = some (bI (ND L p)) := by
  have hn := hw.1
  obtain ⟨-, -, -, -, hPn, -⟩ := ML0 h
  have d1 := hD p hp
  have d2 := dg_b hw p
  have d3 := hw.2.2.2.2.2.2.2 p hp
  have d4 := hPn p hp
  unfold ND
  simp (disch := omega) only [fX8_isNode, fX8_isNode_23, fX8_isNode_28, d1, d4, Int.reduceAdd, Int.reduceSub, Int.reduceMul, Int.zero_add, Int.add_zero, Nat.zero_add, na_0, ca_la, ca_al, ca_lm, ca_add, ca_mod, ca_lit, tn_c, Int.natCast_zero, bd_some, bd2_some, bindv_e, chk_ok, cr_ok, crl_ok, chd_ok, chb_0, chb_1, cr_bI, chb_bI, ite_bI0, if_true, if_false]
  repeat' split
  all_goals first | (rw [bI_t (by omega)]; done) | rw [bI_f (by omega)]
theorem WTm_iff {S : Ld} {nr p : Nat} (hA : ∀ r, r < nr → AR S r ≠ 0) : (∃ r, r < nr ∧ has S r p ∧ WTm S p r) ↔ WTO S nr p := by
  unfold WTO WTm
  constructor
  · rintro ⟨r, h1, h2, h3 | h3⟩
    · refine ⟨r, h1, h2, fun z => hA r h1 ?_⟩
      rw [h3] at z
      unfold sgn at z
      split at z
      · omega
      · split at z <;> omega
    · exact ⟨r, h1, h2, h3⟩
  · rintro ⟨r, h1, h2, h3⟩
    exact ⟨r, h1, h2, Or.inr h3⟩
theorem m_whyNot {σ : Mm} {L : Ld} {ga : Nat → Nat} {p s : Nat} (hw : WF L) (h : ML σ 0 L) (hg : GA σ ga) (hD : DG σ L) (hs : s < 1000) (hp : p < L.np) (hWS : WF (dr L (als ga s))) (hA : ∀ r, r < L.nr → AR (dr L (als ga s)) r ≠ 0) (hH : ¬ ND L p → als ga s p = true → ∃ r, r < L.nr ∧ has (dr L (als ga s)) r p) : ∃ σ', fX8_whyNot p s σ = some (WHY L (dr L (als ga s)) (als ga s) p, σ') ∧ E9 σ σ' := by
  have hnp := hw.1
  have hnr := hw.2.1
  have hS := dr_SWL hw (als ga s)
  have n1 := m_isNode hw h hD hp
  have t1 := m_isThere (p := p) (s := s) hg (by omega) hs
  unfold WHY
  by_cases q1 : ND L p
  · refine ⟨σ, ?_, E9_r σ⟩
    rw [pI_t (Or.inl q1)]
    simp (disch := omega) only [fX8_whyNot, fX8_whyNot_17, n1, Int.reduceAdd, Int.reduceSub, Int.reduceMul, Int.zero_add, Int.add_zero, Nat.zero_add, na_0, ca_la, ca_al, ca_lm, ca_add, ca_mod, ca_lit, tn_c, Int.natCast_zero, bd_some, bd2_some, bindv_e, chk_ok, cr_ok, crl_ok, chd_ok, chb_0, chb_1, cr_bI, chb_bI, ite_bI0, if_true, if_false]
    rw [pI_t q1]
  by_cases q2 : als ga s p = true
  · rw [pI_f (fun z => z.elim q1 (fun w => w q2))]
    obtain ⟨a, b, hN⟩ := NB_ex (hH q1 q2)
    rw [nbF_e hS hN]
    have hl := NB_lt hS hN
    obtain ⟨s1, a1, a2⟩ := m_nbA hw h hg hp hs hN
    obtain ⟨s2, b1, b2⟩ := m_nbB hw (E9_ML a2 h) (E9_GA a2 hg) hp hs hN
    have f2 := E9_t a2 b2
    obtain ⟨s3, c1, c2⟩ := m_edgesAt (p := a) (q := b) (s := s) hw (E9_ML f2 h) (E9_GA f2 hg) hs (by omega) (by omega)
    have f3 := E9_t f2 c2
    obtain ⟨s4, d1, d2⟩ := m_ringsWhy (p := p) (s := s) (u := 3) hw (E9_ML f3 h) (E9_GA f3 hg) hs hp (Or.inl rfl)
    have f4 := E9_t f3 d2
    have e1 := m_isEmpty (s := s) hw (E9_ML f4 h) (E9_GA f4 hg) hs hl.1 hp hl.2
    obtain ⟨s5, g1, g2⟩ := m_ringsWhy (p := p) (s := s) (u := 5) hw (E9_ML f4 h) (E9_GA f4 hg) hs hp (Or.inr rfl)
    have f5 := E9_t f4 g2
    have hu : us (dr L (als ga s)) a b = uq (dr L (als ga s)) L.nr a b := (uq_us hWS a b).symm
    have ub := uq_b (dr L (als ga s)) (nr := L.nr) (p := a) (q := b)
    rw [hu] at c1
    have x3 : (∃ r, r < L.nr ∧ has (dr L (als ga s)) r p ∧ ((3 = 3 ∧ (dr L (als ga s)).cn r ≤ 3) ∨ (3 = 5 ∧ WTm (dr L (als ga s)) p r))) ↔ LST (dr L (als ga s)) L.nr p := by
      unfold LST
      constructor
      · rintro ⟨r, y1, y2, y3 | y3⟩
        · exact ⟨r, y1, y2, y3.2⟩
        · omega
      · rintro ⟨r, y1, y2, y3⟩; exact ⟨r, y1, y2, Or.inl ⟨rfl, y3⟩⟩
    have x5 : (∃ r, r < L.nr ∧ has (dr L (als ga s)) r p ∧ ((5 = 3 ∧ (dr L (als ga s)).cn r ≤ 3) ∨ (5 = 5 ∧ WTm (dr L (als ga s)) p r))) ↔ WTO (dr L (als ga s)) L.nr p := by
      rw [← WTm_iff hA]
      constructor
      · rintro ⟨r, y1, y2, y3 | y3⟩
        · omega
        · exact ⟨r, y1, y2, y3.2⟩
      · rintro ⟨r, y1, y2, y3⟩; exact ⟨r, y1, y2, Or.inr ⟨rfl, y3⟩⟩
    rw [pI_c x3] at d1
    rw [pI_c x5] at g1
    have d1' : fX8_ringsWhy p s 3 s3 = some (pI (LST (dr L (als ga s)) L.nr p) 3 0, s4) := d1
    have g1' : fX8_ringsWhy p s 5 s4 = some (pI (WTO (dr L (als ga s)) L.nr p) 5 0, s5) := g1
    by_cases w1 : 0 < uq (dr L (als ga s)) L.nr a b
    · refine ⟨s3, ?_, f3⟩
      rw [pI_t w1]
      simp (disch := omega) only [fX8_whyNot, fX8_whyNot_17, fX8_whyNot_84, n1, t1, a1, b1, c1, if_pos, Int.reduceAdd, Int.reduceSub, Int.reduceMul, Int.zero_add, Int.add_zero, Nat.zero_add, na_0, ca_la, ca_al, ca_lm, ca_add, ca_mod, ca_lit, tn_c, Int.natCast_zero, bd_some, bd2_some, bindv_e, chk_ok, cr_ok, crl_ok, chd_ok, chb_0, chb_1, cr_bI, chb_bI, ite_bI0, if_true, if_false]
      rw [pI_f q1, pI_t q2]
    rw [pI_f w1]
    by_cases w2 : LST (dr L (als ga s)) L.nr p
    · refine ⟨s4, ?_, f4⟩
      rw [pI_t w2] at d1' ⊢
      simp (disch := omega) only [fX8_whyNot, fX8_whyNot_17, fX8_whyNot_84, n1, t1, a1, b1, c1, d1', if_neg, Int.reduceAdd, Int.reduceSub, Int.reduceMul, Int.zero_add, Int.add_zero, Nat.zero_add, na_0, ca_la, ca_al, ca_lm, ca_add, ca_mod, ca_lit, tn_c, Int.natCast_zero, bd_some, bd2_some, bindv_e, chk_ok, cr_ok, crl_ok, chd_ok, chb_0, chb_1, cr_bI, chb_bI, ite_bI0, if_true, if_false]
      rw [pI_f q1, pI_t q2]
    rw [pI_f w2] at d1' ⊢
    by_cases w3 : SLI L (als ga s) a p b
    · refine ⟨s4, ?_, f4⟩
      rw [pI_t w3]
      simp (disch := omega) only [fX8_whyNot, fX8_whyNot_17, fX8_whyNot_84, n1, t1, a1, b1, c1, d1', e1, if_neg, if_pos, Int.reduceAdd, Int.reduceSub, Int.reduceMul, Int.zero_add, Int.add_zero, Nat.zero_add, na_0, ca_la, ca_al, ca_lm, ca_add, ca_mod, ca_lit, tn_c, Int.natCast_zero, bd_some, bd2_some, bindv_e, chk_ok, cr_ok, crl_ok, chd_ok, chb_0, chb_1, cr_bI, chb_bI, ite_bI0, if_true, if_false]
      rw [pI_f q1, pI_t q2, pI_f (fun z => z w3)]
    · refine ⟨s5, ?_, f5⟩
      rw [pI_f w3]
      simp (disch := omega) only [fX8_whyNot, fX8_whyNot_17, fX8_whyNot_84, n1, t1, a1, b1, c1, d1', e1, g1', if_neg, if_pos, Int.reduceAdd, Int.reduceSub, Int.reduceMul, Int.zero_add, Int.add_zero, Nat.zero_add, na_0, ca_la, ca_al, ca_lm, ca_add, ca_mod, ca_lit, tn_c, Int.natCast_zero, bd_some, bd2_some, bindv_e, chk_ok, cr_ok, crl_ok, chd_ok, chb_0, chb_1, cr_bI, chb_bI, ite_bI0, if_true, if_false]
      rw [pI_f q1, pI_t q2, pI_t w3]
  · refine ⟨σ, ?_, E9_r σ⟩
    rw [pI_t (Or.inr q2)]
    simp (disch := omega) only [fX8_whyNot, fX8_whyNot_17, n1, t1, Int.reduceAdd, Int.reduceSub, Int.reduceMul, Int.zero_add, Int.add_zero, Nat.zero_add, na_0, ca_la, ca_al, ca_lm, ca_add, ca_mod, ca_lit, tn_c, Int.natCast_zero, bd_some, bd2_some, bindv_e, chk_ok, cr_ok, crl_ok, chd_ok, chb_0, chb_1, cr_bI, chb_bI, ite_bI0, if_true, if_false]
    rw [pI_f q1, pI_f q2]
theorem TR_rot (L : Ld) (a p b : Nat) : TR L a p b = - TR L a b p := by
  unfold TR crs
  grind
theorem m_sizeOf {σ : Mm} {L : Ld} {ga : Nat → Nat} {p s : Nat} (hw : WF L) (h : ML σ 0 L) (hg : GA σ ga) (hs : s < 1000) (hp : p < L.np) (hH : ∃ r, r < L.nr ∧ has (dr L (als ga s)) r p) : ∃ σ', fX8_sizeOf p s σ = some (SZ L (dr L (als ga s)) p, σ') ∧ E9 σ σ' := by
  have hS := dr_SWL hw (als ga s)
  obtain ⟨a, b, hN⟩ := NB_ex hH
  have hl := NB_lt hS hN
  obtain ⟨s1, a1, a2⟩ := m_nbA hw h hg hp hs hN
  obtain ⟨s2, b1, b2⟩ := m_nbB hw (E9_ML a2 h) (E9_GA a2 hg) hp hs hN
  have f2 := E9_t a2 b2
  have t1 : fX8_turned 0 a p b s2 = some (TR L a p b) := m_turned (o := 0) (by omega) hw (E9_ML f2 h) hl.1 hp hl.2
  have b3 := TR_b hw hl.1 hp hl.2
  refine ⟨s2, ?_, f2⟩
  unfold SZ
  rw [nbF_e hS hN]
  simp (disch := omega) only [fX8_sizeOf, fX8_sizeOf_31, a1, b1, t1, Int.reduceAdd, Int.reduceSub, Int.reduceMul, Int.zero_add, Int.add_zero, Nat.zero_add, na_0, ca_la, ca_al, ca_lm, ca_add, ca_mod, ca_lit, tn_c, Int.natCast_zero, bd_some, bd2_some, bindv_e, chk_ok, cr_ok, crl_ok, chd_ok, chb_0, chb_1, cr_bI, chb_bI, ite_bI0, if_true, if_false]
  rw [TR_rot] at b3 ⊢
  unfold abI
  by_cases w : 0 ≤ TR L a b p
  · rw [if_pos w]
    by_cases w2 : -TR L a b p < 0
    · rw [if_pos w2, Int.neg_neg]
    · rw [if_neg w2, show -TR L a b p = TR L a b p by omega]
  · rw [if_neg w, if_neg (by omega), show 0 - TR L a b p = -TR L a b p by omega]
