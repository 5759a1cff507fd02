/-! stages -/
def alG (gb : Nat → Nat) : Nat → Nat → Bool
  | 0, _ => true
  | s + 1, p => alG gb s p && p != gb (s + 1)
theorem alG_iff {gb : Nat → Nat} {p : Nat} : ∀ {s : Nat}, alG gb s p = true ↔ ∀ j, 1 ≤ j → j ≤ s → gb j ≠ p
  | 0 => by
    constructor
    · intro _ j h1 h2; omega
    · intro _; rfl
  | s + 1 => by
    show (alG gb s p && p != gb (s + 1)) = true ↔ _
    rw [Bool.and_eq_true, alG_iff (s := s), bne_iff_ne]
    constructor
    · rintro ⟨h1, h2⟩ j h3 h4
      by_cases e : j = s + 1
      · rw [e]; exact Ne.symm h2
      · exact h1 j h3 (by omega)
    · intro h
      exact ⟨fun j h1 h2 => h j h1 (by omega), Ne.symm (h (s + 1) (by omega) (Nat.le_refl _))⟩
def SCN (L : Ld) (gb : Nat → Nat) (s : Nat) : Ld := dr L (alG gb s)
theorem SCN_s (L : Ld) (gb : Nat → Nat) (s : Nat) : SCN L gb (s + 1) = dp (SCN L gb s) (gb (s + 1)) := (dr_dr L (alG gb s) (fun x => x != gb (s + 1))).symm
theorem SCN_SW {L : Ld} (hw : WF L) (gb : Nat → Nat) (s : Nat) : SW L (SCN L gb s) := dr_SWL hw _
theorem pf_all {f : Nat → Nat} {P : Nat → Bool} : ∀ {n : Nat}, (∀ i, i < n → P (f i) = true) → (pf f n P).length = n ∧ ∀ i, i < n → (pf f n P).getD i 0 = f i
  | 0, _ => ⟨by simp [pf], fun i hi => by omega⟩
  | n + 1, h => by
    obtain ⟨h1, h2⟩ := pf_all (n := n) (fun i hi => h i (by omega))
    rw [pf_s, if_pos (h n (by omega)), List.length_append, List.length_singleton]
    refine ⟨by omega, fun i hi => ?_⟩
    by_cases e : i < n
    · rw [gD_l (by omega)]; exact h2 i e
    · have hie : i = (pf f n P).length := by omega
      rw [hie, gD_r, h1]
theorem SCN_0 {L : Ld} {gb : Nat → Nat} {r : Nat} : (SCN L gb 0).cn r = L.cn r ∧ ∀ i, i < L.cn r → (SCN L gb 0).co r i = L.co r i := pf_all (fun _ _ => rfl)
theorem AR_eq {S T : Ld} {r : Nat} (h1 : S.cn r = T.cn r) (h2 : ∀ i, i < T.cn r → S.co r i = T.co r i) (hX : S.X = T.X) (hY : S.Y = T.Y) : AR S r = AR T r := by
  unfold AR cx
  rw [h1, hX, hY]
  refine sm_c fun i hi => ?_
  rw [h2 i hi, h2 _ (Nat.mod_lt _ (by omega))]
def CAND (L S : Ld) (al : Nat → Bool) (p : Nat) : Prop := p < L.np ∧ WHY L S al p = 0
def BST (L S : Ld) (al : Nat → Bool) (p : Nat) : Prop := CAND L S al p ∧ ∀ q, CAND L S al q → SZ L S p < SZ L S q ∨ (SZ L S p = SZ L S q ∧ p ≤ q)
theorem BST_u {L S : Ld} {al : Nat → Bool} {p q : Nat} (h : BST L S al p) (g : BST L S al q) : p = q := by
  have h1 := h.2 q g.1
  have h2 := g.2 p h.1
  omega
theorem WHY_0 {L S : Ld} {al : Nat → Bool} {p : Nat} (h : WHY L S al p = 0) : ¬ ND L p ∧ al p = true ∧ ¬ LST S L.nr p ∧ ¬ WTO S L.nr p := by
  unfold WHY at h
  by_cases q1 : ND L p ∨ ¬ al p = true
  · rw [pI_t q1] at h; omega
  rw [pI_f q1] at h
  by_cases q2 : 0 < uq S L.nr (nbF S L.nr p).1 (nbF S L.nr p).2
  · rw [pI_t q2] at h; omega
  rw [pI_f q2] at h
  by_cases q3 : LST S L.nr p
  · rw [pI_t q3] at h; omega
  rw [pI_f q3] at h
  by_cases q4 : SLI L al (nbF S L.nr p).1 p (nbF S L.nr p).2
  · rw [pI_t q4] at h; omega
  rw [pI_f q4] at h
  by_cases q5 : WTO S L.nr p
  · rw [pI_t q5] at h; omega
  exact ⟨fun z => q1 (Or.inl z), Classical.not_not.mp (fun z => q1 (Or.inr z)), q3, q5⟩
theorem WHY_b (L S : Ld) (al : Nat → Bool) (p : Nat) : 0 ≤ WHY L S al p ∧ WHY L S al p ≤ 5 := by
  unfold WHY
  by_cases q1 : ND L p ∨ ¬ al p = true
  · rw [pI_t q1]; omega
  rw [pI_f q1]
  by_cases q2 : 0 < uq S L.nr (nbF S L.nr p).1 (nbF S L.nr p).2
  · rw [pI_t q2]; omega
  rw [pI_f q2]
  by_cases q3 : LST S L.nr p
  · rw [pI_t q3]; omega
  rw [pI_f q3]
  by_cases q4 : SLI L al (nbF S L.nr p).1 p (nbF S L.nr p).2
  · rw [pI_t q4]; omega
  rw [pI_f q4]
  by_cases q5 : WTO S L.nr p
  · rw [pI_t q5]; omega
  · rw [pI_f q5]; omega
/-- a run of stages, so far -/
def PRE (L : Ld) (gb : Nat → Nat) (sz : Nat → Int) (n : Nat) : Prop := ∀ s, s < n → BST L (SCN L gb s) (alG gb s) (gb (s + 1)) ∧ sz (s + 1) = SZ L (SCN L gb s) (gb (s + 1))
def RUN (L : Ld) (gb : Nat → Nat) (sz : Nat → Int) (n : Nat) : Prop := PRE L gb sz n ∧ ∀ p, ¬ CAND L (SCN L gb n) (alG gb n) p
theorem alG_c {gb gb' : Nat → Nat} : ∀ {s : Nat}, (∀ j, 1 ≤ j → j ≤ s → gb j = gb' j) → alG gb s = alG gb' s
  | 0, _ => rfl
  | s + 1, h => by
    funext p
    show (alG gb s p && p != gb (s + 1)) = (alG gb' s p && p != gb' (s + 1))
    rw [alG_c (s := s) (fun j h1 h2 => h j h1 (by omega)), h (s + 1) (by omega) (Nat.le_refl _)]
theorem SCN_c {L : Ld} {gb gb' : Nat → Nat} {s : Nat} (h : ∀ j, 1 ≤ j → j ≤ s → gb j = gb' j) : SCN L gb s = SCN L gb' s := by
  unfold SCN
  rw [alG_c h]
theorem PRE_u {L : Ld} {gb gb' : Nat → Nat} {sz sz' : Nat → Int} : ∀ {m n n' : Nat}, PRE L gb sz n → PRE L gb' sz' n' → m ≤ n → m ≤ n' → ∀ j, 1 ≤ j → j ≤ m → gb j = gb' j ∧ sz j = sz' j
  | 0, _, _, _, _, _, _ => fun j h1 h2 => by omega
  | m + 1, n, n', h, g, h1, h2 => by
    intro j j1 j2
    have ih := PRE_u (m := m) h g (by omega) (by omega)
    by_cases e : j ≤ m
    · exact ih j j1 e
    · have hj : j = m + 1 := by omega
      subst hj
      obtain ⟨a1, a2⟩ := h m (by omega)
      obtain ⟨b1, b2⟩ := g m (by omega)
      have e1 := SCN_c (L := L) (s := m) (fun i x y => (ih i x y).1)
      have e2 := alG_c (s := m) (fun i x y => (ih i x y).1)
      rw [e1, e2] at a1
      rw [e1] at a2
      have e3 := BST_u a1 b1
      exact ⟨e3, by rw [a2, b2, e3]⟩
theorem RUN_u {L : Ld} {gb gb' : Nat → Nat} {sz sz' : Nat → Int} {n n' : Nat} (h : RUN L gb sz n) (g : RUN L gb' sz' n') : n = n' ∧ ∀ j, 1 ≤ j → j ≤ n → gb j = gb' j ∧ sz j = sz' j := by
  have key : ∀ {gb gb' : Nat → Nat} {sz sz' : Nat → Int} {n n' : Nat}, RUN L gb sz n → RUN L gb' sz' n' → ¬ n < n' := by
    intro gb gb' sz sz' n n' h g hlt
    have u := PRE_u (m := n) h.1 g.1 (Nat.le_refl n) (by omega)
    obtain ⟨b1, -⟩ := g.1 n hlt
    have e1 := SCN_c (L := L) (s := n) (fun i x y => (u i x y).1)
    have e2 := alG_c (s := n) (fun i x y => (u i x y).1)
    rw [← e1, ← e2] at b1
    exact h.2 _ b1.1
  have e : n = n' := by
    have h1 := key h g
    have h2 := key g h
    omega
  subst e
  exact ⟨rfl, PRE_u h.1 g.1 (Nat.le_refl n) (Nat.le_refl n)⟩
theorem has_dr {L : Ld} {al : Nat → Bool} {r p : Nat} (h : has L r p) (ha : al p = true) : has (dr L al) r p := by
  obtain ⟨i, h1, h2⟩ := h
  have hm : p ∈ pf (L.co r) (L.cn r) al := pf_mem.mpr ⟨ha, i, h1, h2⟩
  exact mem_gD hm
theorem nd_has {L : Ld} {p : Nat} (h : ¬ ND L p) : ∃ r, r < L.nr ∧ has L r p := by
  have h2 : dg L p = 2 := Classical.not_not.mp (fun z => h (Or.inr z))
  unfold dg dgU at h2
  have hpos := (sm_pos (t := fun q => bI (q ≠ p ∧ 0 < us L p q)) (n := L.np) (fun j _ => (bI_b _).1)).mp (by omega)
  obtain ⟨q, -, hq⟩ := hpos
  by_cases w : q ≠ p ∧ 0 < us L p q
  · obtain ⟨r, i, hr, hi, he⟩ := us_pos.mp w.2
    rcases isE_ce he with ⟨a, b⟩ | ⟨a, b⟩
    · exact ⟨r, hr, i, hi, a⟩
    · by_cases z : L.cn r = 0
      · omega
      · exact ⟨r, hr, (i + 1) % L.cn r, Nat.mod_lt _ (by omega), b⟩
  · rw [bI_f w] at hq; omega
theorem hH {L : Ld} {al : Nat → Bool} {p : Nat} : ¬ ND L p → al p = true → ∃ r, r < L.nr ∧ has (dr L al) r p := by
  intro h1 h2
  obtain ⟨r, a, b⟩ := nd_has h1
  exact ⟨r, a, has_dr b h2⟩
/-- a good scene -/
def GD (L S : Ld) : Prop := (∀ r, r < L.nr → 3 ≤ S.cn r) ∧ (∀ r, r < L.nr → AR S r ≠ 0)
theorem GD_0 {L : Ld} {gb : Nat → Nat} (hw : WF L) (hF : FAIR L) : GD L (SCN L gb 0) := by
  refine ⟨fun r hr => ?_, fun r hr => ?_⟩
  · rw [SCN_0.1]; exact (hw.2.2.1 r hr).1
  · rw [AR_eq (T := L) SCN_0.1 SCN_0.2 rfl rfl]; exact (hF.2 r hr).1
theorem GD_d {L S : Ld} {al : Nat → Bool} {p : Nat} (hS : SW L S) (h : GD L S) (hc : CAND L S al p) : GD L (dp S p) := by
  obtain ⟨-, h2, h3, h4⟩ := WHY_0 hc.2
  have key : ∀ r, r < L.nr → 3 ≤ (dp S p).cn r ∧ AR (dp S p) r ≠ 0 := by
    intro r hr
    by_cases w : has S r p
    · obtain ⟨a, a1, a2⟩ := w
      have hcut := (pf_cut (hS.2.2.2.2.2.2 r hr) a1 a2 (S.cn r) (Nat.le_refl _)).1
      rw [if_neg (show ¬ S.cn r ≤ a by omega)] at hcut
      have hc1 : (dp S p).cn r = S.cn r - 1 := hcut
      have hgt : ¬ S.cn r ≤ 3 := fun z => h3 ⟨r, hr, ⟨a, a1, a2⟩, z⟩
      refine ⟨by omega, fun z => ?_⟩
      have hs : sgn (AR (dp S p) r) = sgn (AR S r) := Classical.not_not.mp (fun q => h4 ⟨r, hr, ⟨a, a1, a2⟩, q⟩)
      rw [z] at hs
      have := h.2 r hr
      unfold sgn at hs
      split at hs
      · omega
      · split at hs
        · omega
        · split at hs <;> omega
    · have hal : ∀ i, i < S.cn r → (S.co r i != p) = true := fun i hi => by
        rw [bne_iff_ne]
        exact fun z => w ⟨i, hi, z⟩
      obtain ⟨b1, b2⟩ := pf_all (f := S.co r) (P := fun x => x != p) hal
      have b1' : (dp S p).cn r = S.cn r := b1
      refine ⟨by rw [b1']; exact h.1 r hr, ?_⟩
      rw [AR_eq (S := dp S p) (T := S) b1 b2 rfl rfl]
      exact h.2 r hr
  exact ⟨fun r hr => (key r hr).1, fun r hr => (key r hr).2⟩
theorem GD_s {L : Ld} {gb : Nat → Nat} {sz : Nat → Int} (hw : WF L) (hF : FAIR L) : ∀ {s n : Nat}, PRE L gb sz n → s ≤ n → GD L (SCN L gb s)
  | 0, _, _, _ => GD_0 hw hF
  | s + 1, n, h, hs => by
    have ih := GD_s hw hF (s := s) h (by omega)
    rw [SCN_s]
    exact GD_d (SCN_SW hw gb s) ih (h s (by omega)).1.1
theorem SCN_WF {L : Ld} {gb : Nat → Nat} {sz : Nat → Int} {s n : Nat} (hw : WF L) (hF : FAIR L) (h : PRE L gb sz n) (hs : s ≤ n) : WF (SCN L gb s) := SW_WF hw (SCN_SW hw gb s) (GD_s hw hF h hs).1
/-- points are fewer, one by one -/
theorem al_cnt {L : Ld} {gb : Nat → Nat} {sz : Nat → Int} : ∀ {s n : Nat}, PRE L gb sz n → s ≤ n → sm (fun p => bI (alG gb s p = true)) L.np = (L.np : Int) - s
  | 0, _, _, _ => by
    have e : ∀ n : Nat, sm (fun p => bI (alG gb 0 p = true)) n = (n : Int) := by
      intro n
      induction n with
      | zero => rfl
      | succ n ih => rw [sm_s, ih, bI_t (show alG gb 0 n = true from rfl)]; rfl
    rw [e]
    simp
  | s + 1, n, h, hs => by
    have ih := al_cnt (s := s) h (by omega)
    obtain ⟨hb, -⟩ := h s (by omega)
    have ha := (WHY_0 hb.1.2).2.1
    have e : ∀ p, bI (alG gb s p = true) = bI (alG gb (s + 1) p = true) + bI (p = gb (s + 1)) := by
      intro p
      have e1 : alG gb (s + 1) p = true ↔ alG gb s p = true ∧ p ≠ gb (s + 1) := by
        show (alG gb s p && p != gb (s + 1)) = true ↔ _
        rw [Bool.and_eq_true, bne_iff_ne]
      by_cases w : p = gb (s + 1)
      · rw [bI_t w, bI_f (fun z => (e1.mp z).2 w), bI_t (by rw [w]; exact ha)]; rfl
      · rw [bI_f w, Int.add_zero]
        exact bI_c ⟨fun z => e1.mpr ⟨z, w⟩, fun z => (e1.mp z).1⟩
    rw [sm_c (fun p _ => e p), sm_add, sm_one hb.1.1] at ih
    omega
theorem PRE_le {L : Ld} {gb : Nat → Nat} {sz : Nat → Int} {n : Nat} (h : PRE L gb sz n) : n ≤ L.np := by
  have e := al_cnt h (Nat.le_refl n)
  have e2 := sm_nn (t := fun p => bI (alG gb n p = true)) (n := L.np) (fun j _ => (bI_b _).1)
  omega
theorem PRE_full {L : Ld} {gb : Nat → Nat} {sz : Nat → Int} {n : Nat} (h : PRE L gb sz n) (hn : n = L.np) : ∀ p, ¬ CAND L (SCN L gb n) (alG gb n) p := by
  intro p hc
  have e := al_cnt h (Nat.le_refl n)
  have ha := (WHY_0 hc.2).2.1
  have hp := (sm_pos (t := fun p => bI (alG gb n p = true)) (n := L.np) (fun j _ => (bI_b _).1)).mpr ⟨p, hc.1, by rw [bI_t ha]; decide⟩
  omega
/-- the stage at which a point went -/
def gaF (gb : Nat → Nat) : Nat → Nat → Nat
  | 0, _ => 0
  | s + 1, p => if gb (s + 1) = p then s + 1 else gaF gb s p
theorem gaF_le (gb : Nat → Nat) (p : Nat) : ∀ s, gaF gb s p ≤ s
  | 0 => Nat.le_refl 0
  | s + 1 => by
    have := gaF_le gb p s
    show (if gb (s + 1) = p then s + 1 else gaF gb s p) ≤ s + 1
    split <;> omega
theorem gaF_sp {gb : Nat → Nat} {p : Nat} : ∀ {s : Nat}, (gaF gb s p = 0 ∧ alG gb s p = true) ∨ (1 ≤ gaF gb s p ∧ gb (gaF gb s p) = p)
  | 0 => Or.inl ⟨rfl, rfl⟩
  | s + 1 => by
    show ((if gb (s + 1) = p then s + 1 else gaF gb s p) = 0 ∧ (alG gb s p && p != gb (s + 1)) = true) ∨ (1 ≤ (if gb (s + 1) = p then s + 1 else gaF gb s p) ∧ gb (if gb (s + 1) = p then s + 1 else gaF gb s p) = p)
    by_cases w : gb (s + 1) = p
    · rw [if_pos w]; exact Or.inr ⟨by omega, w⟩
    · rw [if_neg w]
      rcases gaF_sp (s := s) with ⟨a, b⟩ | a
      · exact Or.inl ⟨a, by rw [Bool.and_eq_true, bne_iff_ne]; exact ⟨b, Ne.symm w⟩⟩
      · exact Or.inr a
theorem gb_inj {L : Ld} {gb : Nat → Nat} {sz : Nat → Int} {n : Nat} (h : PRE L gb sz n) {i j : Nat} (hi : 1 ≤ i) (hij : i < j) (hj : j ≤ n) : gb i ≠ gb j := by
  obtain ⟨hb, -⟩ := h (j - 1) (by omega)
  rw [show j - 1 + 1 = j by omega] at hb
  have ha := (WHY_0 hb.1.2).2.1
  exact alG_iff.mp ha i hi (by omega)
theorem als_al {L : Ld} {gb : Nat → Nat} {sz : Nat → Int} {n s : Nat} (h : PRE L gb sz n) (hs : s ≤ n) (p : Nat) : als (gaF gb n) s p = alG gb s p := by
  have e : als (gaF gb n) s p = true ↔ alG gb s p = true := by
    unfold als
    rw [Bool.or_eq_true, beq_iff_eq, decide_eq_true_eq, alG_iff]
    have hle := gaF_le gb p n
    rcases gaF_sp (gb := gb) (p := p) (s := n) with ⟨a, b⟩ | ⟨a, b⟩
    · constructor
      · intro _ j h1 h2; exact alG_iff.mp b j h1 (by omega)
      · intro _; exact Or.inl a
    · constructor
      · rintro (q | q)
        · omega
        · intro j h1 h2
          rw [← b]
          exact gb_inj h h1 (by omega) hle
      · intro q
        refine Or.inr ?_
        rcases Nat.lt_or_ge s (gaF gb n p) with z | z
        · exact z
        · exact absurd b (q _ a z)
  by_cases w : alG gb s p = true
  · rw [w, e.mpr w]
  · rw [Bool.not_eq_true] at w
    have w2 : ¬ als (gaF gb n) s p = true := fun z => by rw [e.mp z] at w; cases w
    rw [Bool.not_eq_true] at w2
    rw [w, w2]
theorem it_stop {α β : Type} {f : (Int → α → Option β) → Int → α → Option β} (N : Nat) (I : Nat → α → Prop) (D : Option β → Prop) (hs : ∀ (c : Int → α → Option β) (i : Nat) (a : α), i ≤ N → I i a → D (f c (i : Int) a) ∨ (i < N ∧ ∃ a', I (i + 1) a' ∧ f c (i : Int) a = c ((i + 1 : Nat) : Int) a')) : ∀ (fu i : Nat) (a : α), i ≤ N → N - i < fu → I i a → D (itN (fun _ _ => none) f fu (i : Int) a)
  | 0, i, _, _, h, _ => by omega
  | fu + 1, i, a, h1, h2, hi => by
    rw [itN_s]
    rcases hs (itN (fun _ _ => none) f fu) i a h1 hi with h3 | ⟨h3, a', h4, h5⟩
    · exact h3
    · rw [h5]
      exact it_stop N I D hs fu (i + 1) a' (by omega) (by omega) h4
theorem it_inv4 {α β : Type} {f : (Int → Int → Int → α → Option β) → Int → Int → Int → α → Option β} (N : Nat) (I : Nat → Int → Int → α → Prop) (w : Int → Int → α → Option β) (hs : ∀ (c : Int → Int → Int → α → Option β) (i : Nat) (u v : Int) (a : α), i < N → I i u v a → ∃ u' v' a', I (i + 1) u' v' a' ∧ f c u v (i : Int) a = c u' v' ((i + 1 : Nat) : Int) a') (hx : ∀ (c : Int → Int → Int → α → Option β) (u v : Int) (a : α), I N u v a → f c u v (N : Int) a = w u v a) : ∀ (fu i : Nat) (u v : Int) (a : α), i ≤ N → N - i < fu → I i u v a → ∃ u' v' a', I N u' v' a' ∧ itN (fun _ _ _ _ => none) f fu u v (i : Int) a = w u' v' a'
  | 0, i, _, _, _, _, h, _ => by omega
  | fu + 1, i, u, v, a, h1, h2, hi => by
    rw [itN_s]
    by_cases he : i = N
    · subst he
      exact ⟨u, v, a, hi, hx _ u v a hi⟩
    · obtain ⟨u', v', a', h3, h4⟩ := hs (itN (fun _ _ _ _ => none) f fu) i u v a (by omega) hi
      obtain ⟨x, y, b, h5, h6⟩ := it_inv4 N I w hs hx fu (i + 1) u' v' a' (by omega) (by omega) h3
      exact ⟨x, y, b, h5, by rw [h4]; exact h6⟩
/-- the best so far -/
def BI (L S : Ld) (al : Nat → Bool) (none_ : Int) (i : Nat) (b l : Int) : Prop := (b = none_ ∧ ∀ q, q < i → ¬ CAND L S al q) ∨ (∃ p : Nat, p < i ∧ b = (p : Int) ∧ l = SZ L S p ∧ CAND L S al p ∧ ∀ q, q < i → CAND L S al q → SZ L S p < SZ L S q ∨ (SZ L S p = SZ L S q ∧ p ≤ q))
theorem lt_s1 {P : Nat → Prop} {i : Nat} (h : ∀ q, q < i → P q) (g : P i) : ∀ q, q < i + 1 → P q := fun q hq => by
  rcases Nat.lt_or_ge q i with z | z
  · exact h q z
  · exact (show i = q by omega) ▸ g
theorem BI_keep {L S : Ld} {al : Nat → Bool} {nn b l : Int} {i : Nat} (h : BI L S al nn i b l) (hc : ¬ CAND L S al i) : BI L S al nn (i + 1) b l := by
  rcases h with ⟨a, q⟩ | ⟨p, h1, h2, h3, h4, h5⟩
  · exact Or.inl ⟨a, lt_s1 q hc⟩
  · exact Or.inr ⟨p, by omega, h2, h3, h4, lt_s1 h5 (fun z => absurd z hc)⟩
theorem BI_new {L S : Ld} {al : Nat → Bool} {nn b l : Int} {i : Nat} (h : BI L S al nn i b l) (hc : CAND L S al i) (hl : b = nn ∨ SZ L S i < l) (hnn : nn < 0) : BI L S al nn (i + 1) (i : Int) (SZ L S i) := by
  refine Or.inr ⟨i, by omega, rfl, rfl, hc, lt_s1 (fun q hq hcq => ?_) (fun _ => Or.inr ⟨rfl, Nat.le_refl i⟩)⟩
  rcases h with ⟨a, q'⟩ | ⟨p, h1, h2, h3, h4, h5⟩
  · exact absurd hcq (q' q hq)
  · rcases hl with hl | hl
    · omega
    · have := h5 q hq hcq
      left; omega
theorem BI_old {L S : Ld} {al : Nat → Bool} {nn b l : Int} {i : Nat} (h : BI L S al nn i b l) (hb : b ≠ nn) (hl : CAND L S al i → ¬ SZ L S i < l) : BI L S al nn (i + 1) b l := by
  rcases h with ⟨a, q⟩ | ⟨p, h1, h2, h3, h4, h5⟩
  · exact absurd a hb
  · refine Or.inr ⟨p, by omega, h2, h3, h4, lt_s1 h5 (fun z => ?_)⟩
    have := hl z
    by_cases e : SZ L S p = SZ L S i
    · exact Or.inr ⟨e, by omega⟩
    · left; omega
theorem BI_end {L S : Ld} {al : Nat → Bool} {nn b l : Int} (h : BI L S al nn L.np b l) : (b = nn ∧ ∀ q, ¬ CAND L S al q) ∨ (∃ p : Nat, b = (p : Int) ∧ l = SZ L S p ∧ BST L S al p) := by
  rcases h with ⟨a, q⟩ | ⟨p, h1, h2, h3, h4, h5⟩
  · exact Or.inl ⟨a, fun z hz => q z hz.1 hz⟩
  · exact Or.inr ⟨p, h2, h3, h4, fun q hq => h5 q hq.1 hq⟩
