/-! the class's arcs -/
theorem it_stop2 {β : Type} {f : (Int → Int → Option β) → Int → Int → Option β} (N : Nat) (I : Nat → Int → Prop) (D : Option β → Prop) (hs : ∀ (c : Int → Int → Option β) (i : Nat) (v : Int), i ≤ N → I i v → D (f c v (i : Int)) ∨ (i < N ∧ ∃ v', I (i + 1) v' ∧ f c v (i : Int) = c v' ((i + 1 : Nat) : Int))) : ∀ (fu i : Nat) (v : Int), i ≤ N → N - i < fu → I i v → D (itN (fun _ _ => none) f fu v (i : Int))
  | 0, i, _, _, h, _ => by omega
  | fu + 1, i, v, h1, h2, hi => by
    rw [itN_s]
    rcases hs (itN (fun _ _ => none) f fu) i v h1 hi with h3 | ⟨h3, v', h4, h5⟩
    · exact h3
    · rw [h5]
      exact it_stop2 N I D hs fu (i + 1) v' (by omega) (by omega) h4
theorem it_stop3 {α β : Type} {f : (Int → Int → α → Option β) → Int → Int → α → Option β} (N : Nat) (I : Nat → Int → α → Prop) (D : Option β → Prop) (hs : ∀ (c : Int → Int → α → Option β) (i : Nat) (v : Int) (a : α), i ≤ N → I i v a → D (f c v (i : Int) a) ∨ (i < N ∧ ∃ v' a', I (i + 1) v' a' ∧ f c v (i : Int) a = c v' ((i + 1 : Nat) : Int) a')) : ∀ (fu i : Nat) (v : Int) (a : α), i ≤ N → N - i < fu → I i v a → D (itN (fun _ _ _ => none) f fu v (i : Int) a)
  | 0, i, _, _, _, h, _ => by omega
  | fu + 1, i, v, a, h1, h2, hi => by
    rw [itN_s]
    rcases hs (itN (fun _ _ _ => none) f fu) i v a h1 hi with h3 | ⟨h3, v', a', h4, h5⟩
    · exact h3
    · rw [h5]
      exact it_stop3 N I D hs fu (i + 1) v' a' (by omega) (by omega) h4
def frA (σ σ' : Mm) : Prop := ∀ k, k ≠ 4 → k ≠ 6 → k ≠ 7 → k ≠ 8 → (k < 35 ∨ 94 < k) → σ' k = σ k
theorem frA_t {a b c : Mm} (h : frA a b) (g : frA b c) : frA a c := fun k h1 h2 h3 h4 h5 => (g k h1 h2 h3 h4 h5).trans (h k h1 h2 h3 h4 h5)
theorem frA_CL {σ σ' : Mm} {L : Ld} (hf : frA σ σ') (h : CL σ 95 L) : CL σ' 95 L := by
  obtain ⟨h1, h2, h3, h4, h5, h6, h7⟩ := h
  have e : ∀ k, 95 ≤ k → σ' k = σ k := fun k hk => hf k (by omega) (by omega) (by omega) (by omega) (by omega)
  refine ⟨?_, ?_, fun p hp => ?_, fun p hp => ?_, fun p hp => ?_, fun r hr => ?_, fun r i hr hi => ?_⟩
  · rw [e _ (by omega)]; exact h1
  · rw [e _ (by omega)]; exact h2
  · rw [e _ (by omega)]; exact h3 p hp
  · rw [e _ (by omega)]; exact h4 p hp
  · rw [e _ (by omega)]; exact h5 p hp
  · rw [e _ (by omega)]; exact h6 r hr
  · rw [e _ (by omega)]; exact h7 r i hr hi
theorem frA_GI {σ σ' : Mm} {np ne : Nat} {A B : Nat → Nat} {U : Nat → Nat → Int} (hf : frA σ σ') (h : GI σ 95 np ne A B U) : GI σ' 95 np ne A B U := by
  have e : ∀ k, 95 ≤ k → σ' k = σ k := fun k hk => hf k (by omega) (by omega) (by omega) (by omega) (by omega)
  obtain ⟨⟨h1, h2, h3, h4, h5, h6⟩, g1, g2, g3, g4, g5, g6, g7⟩ := h
  exact ⟨⟨by rw [e _ (by omega)]; exact h1, h2, fun j hj => by rw [e _ (by omega)]; exact h3 j hj, fun j hj => by rw [e _ (by omega)]; exact h4 j hj, h5, h6⟩, g1, fun j hj => by rw [e _ (by omega)]; exact g2 j hj, g3, g4, g5, fun p hp => by rw [e _ (by omega)]; exact g6 p hp, g7⟩
theorem c_edgeBehind {σ : Mm} {L : Ld} {ne r i : Nat} {A B : Nat → Nat} (hw : WF L) (h : CL σ 95 L) (hG : GI σ 95 L.np ne A B (us L)) (hr : r < L.nr) (hi : i < L.cn r) : ∃ e, e < ne ∧ prs A B e (L.co r i) (cx L r i) ∧ fX0_edgeBehind r i σ = some (e : Int) := by
  have hnp := hw.1
  have hnr := hw.2.1
  have h3 := hw.2.2.1 r hr
  obtain ⟨-, -, -, -, -, hC, hR⟩ := CL95 h
  have hm : (i + 1) % L.cn r < L.cn r := Nat.mod_lt _ (by omega)
  have c1 := hC r hr
  have c2 := hR r i hr hi
  have c3 := hR r _ hr hm
  have e1 := c_following σ hi (by omega)
  have l1 := hw.2.2.2.1 r i hr hi
  have l2 := cx_lt hw (i := i) hr
  have h60 := hG.1.2.1
  rcases c_edgeBetween hG.1 hnp (p := L.co r i) (q := cx L r i) (by omega) (by omega) with ⟨e, h4, h5, h6⟩ | ⟨h4, -⟩
  · refine ⟨e, h4, h5, ?_⟩
    simp (disch := omega) only [fX0_edgeBehind, c1, c2, c3, e1, h6, Int.reduceAdd, Int.reduceSub, Int.reduceMul, Int.zero_add, Int.add_zero, Nat.zero_add, na_0, ca_la, ca_al, ca_lm, ca_add, ca_mod, ca_lit, tn_c, Int.natCast_zero, bd_some, bd2_some, bindv_e, chk_ok, cr_ok, crl_ok, chd_ok, chb_0, chb_1, cr_bI, chb_bI, ite_bI0, if_true, if_false]
  · obtain ⟨e, x, y⟩ := hG.2.2.2.2.1 _ _ l1 l2 (us_nx hr hi)
    exact absurd y (h4 e x)
theorem md_cov {n i j : Nat} (hn : 0 < n) (hi : i < n) (hj : j < n) : ∃ z, z < n ∧ (i + n - z) % n = j := by
  by_cases h : j ≤ i
  · exact ⟨i - j, by omega, by rw [show i + n - (i - j) = j + n by omega, Nat.add_mod_right, Nat.mod_eq_of_lt hj]⟩
  · exact ⟨i + n - j, by omega, by rw [show i + n - (i + n - j) = j by omega, Nat.mod_eq_of_lt hj]⟩
theorem c_nodeAhead {σ : Mm} {L : Ld} {r i : Nat} (hw : WF L) (h : CL σ 95 L) (hE : EDG σ 95 L) (hr : r < L.nr) (hi : i < L.cn r) : (∃ b, b < L.cn r ∧ ND L (L.co r ((i + L.cn r - b) % L.cn r)) ∧ (∀ z, z < b → ¬ ND L (L.co r ((i + L.cn r - z) % L.cn r))) ∧ fX0_nodeAhead r i σ = some (((i + L.cn r - b) % L.cn r : Nat) : Int)) ∨ ((∀ j, j < L.cn r → ¬ ND L (L.co r j)) ∧ fX0_nodeAhead r i σ = some (-1)) := by
  have hnp := hw.1
  have hnr := hw.2.1
  have h3 := hw.2.2.1 r hr
  obtain ⟨-, -, -, -, -, hC, hR⟩ := CL95 h
  have c1 := hC r hr
  have key := it_stop2 (f := fun c => fX0_nodeAhead_5 r σ (fX0_nodeAhead_62 σ) c) (L.cn r) (fun b v => v = (((i + L.cn r - b) % L.cn r : Nat) : Int) ∧ ∀ z, z < b → ¬ ND L (L.co r ((i + L.cn r - z) % L.cn r))) (fun o => (∃ b, b < L.cn r ∧ ND L (L.co r ((i + L.cn r - b) % L.cn r)) ∧ (∀ z, z < b → ¬ ND L (L.co r ((i + L.cn r - z) % L.cn r))) ∧ o = some (((i + L.cn r - b) % L.cn r : Nat) : Int)) ∨ ((∀ j, j < L.cn r → ¬ ND L (L.co r j)) ∧ o = some (-1))) (fun c b v hb hI => by
    obtain ⟨q1, q2⟩ := hI
    subst q1
    by_cases e : b = L.cn r
    · left
      right
      refine ⟨fun j hj => ?_, ?_⟩
      · obtain ⟨z, z1, z2⟩ := md_cov (show 0 < L.cn r by omega) hi hj
        rw [← z2]; exact q2 z (by omega)
      · rw [e]
        simp (disch := omega) only [fX0_nodeAhead_5, fX0_nodeAhead_62, c1, if_neg, Int.reduceAdd, Int.reduceSub, Int.reduceMul, Int.zero_add, Int.add_zero, Nat.zero_add, na_0, ca_la, ca_al, ca_lm, ca_add, ca_mod, ca_lit, tn_c, Int.natCast_zero, bd_some, bd2_some, bindv_e, chk_ok, cr_ok, crl_ok, chd_ok, chb_0, chb_1, cr_bI, chb_bI, ite_bI0, if_true, if_false]
    · have hm : (i + L.cn r - b) % L.cn r < L.cn r := Nat.mod_lt _ (by omega)
      have c2 := hR r _ hr hm
      have n1 := c_isNode (k := 95) hw h hE (hw.2.2.2.1 r _ hr hm)
      have e1 := c_preceding σ hm (by omega)
      rw [md_p (by omega) hi (by omega)] at e1
      by_cases w : ND L (L.co r ((i + L.cn r - b) % L.cn r))
      · left
        left
        refine ⟨b, by omega, w, q2, ?_⟩
        simp (disch := omega) only [fX0_nodeAhead_5, c1, c2, n1, if_pos, Int.reduceAdd, Int.reduceSub, Int.reduceMul, Int.zero_add, Int.add_zero, Nat.zero_add, na_0, ca_la, ca_al, ca_lm, ca_add, ca_mod, ca_lit, tn_c, Int.natCast_zero, bd_some, bd2_some, bindv_e, chk_ok, cr_ok, crl_ok, chd_ok, chb_0, chb_1, cr_bI, chb_bI, ite_bI0, if_true, if_false]
        rw [pI_t w]
      · right
        refine ⟨by omega, _, ⟨rfl, lt_s1 q2 w⟩, ?_⟩
        simp (disch := omega) only [fX0_nodeAhead_5, c1, c2, n1, e1, if_pos, Int.reduceAdd, Int.reduceSub, Int.reduceMul, Int.zero_add, Int.add_zero, Nat.zero_add, na_0, ca_la, ca_al, ca_lm, ca_add, ca_mod, ca_lit, tn_c, Int.natCast_zero, bd_some, bd2_some, bindv_e, chk_ok, cr_ok, crl_ok, chd_ok, chb_0, chb_1, cr_bI, chb_bI, ite_bI0, if_true, if_false]
        rw [pI_f w]) 400 0 (i : Int) (Nat.zero_le _) (by omega) ⟨by rw [Nat.sub_zero, Nat.add_mod_right, Nat.mod_eq_of_lt hi], fun z hz => by omega⟩
  rw [show ((0 : Nat) : Int) = 0 from rfl] at key
  unfold fX0_nodeAhead
  rw [bindv_e, bindv_e]
  unfold lX0_nodeAhead_5
  exact key
theorem c_append {τ : Mm} {x0 l p : Nat} (h1 : τ 4 5 = (x0 : Int)) (h2 : τ 6 x0 = (l : Int)) (hx : x0 < 60) (hl : l < 11) (hp : p < 24) : fX0_append p τ = some (sto (sto (sto τ (35 + x0) l (p : Int)) 6 x0 ((l + 1 : Nat) : Int)) 7 p (x0 : Int)) := by
  simp (disch := omega) only [fX0_append, fX0_append_57, h1, h2, sto_k, if_pos, Int.reduceAdd, Int.reduceSub, Int.reduceMul, Int.zero_add, Int.add_zero, Nat.zero_add, na_0, ca_la, ca_al, ca_lm, ca_add, ca_mod, ca_lit, tn_c, Int.natCast_zero, bd_some, bd2_some, bindv_e, chk_ok, cr_ok, crl_ok, chd_ok, chb_0, chb_1, cr_bI, chb_bI, ite_bI0, if_true, if_false]
/-- the class's arcs as they are kept -/
def CAM (σ : Mm) (L : Ld) (as : List Ac) : Prop := σ 4 5 = (as.length : Int) ∧ (∀ x, x < as.length → σ 6 x = ((ag as x).2.2.1 : Int)) ∧ (∀ x j, x < as.length → j < (ag as x).2.2.1 → σ (35 + x) j = (pt L (ag as x) j : Int)) ∧ (∀ x p, x < as.length → inA L (ag as x) p → (∀ y, x < y → y < as.length → ¬ inA L (ag as y) p) → σ 7 p = (x : Int))
def TKM (σ : Mm) (L : Ld) (ne : Nat) (A B : Nat → Nat) (as : List Ac) : Prop := ∀ e, e < ne → σ 8 e = bI (TK L as (A e) (B e))
/-- while one arc is traced: s points, k edges of it -/
def TI (σ τ : Mm) (L : Ld) (ne : Nat) (A B : Nat → Nat) (as : List Ac) (r f s k : Nat) : Prop := frA σ τ ∧ τ 4 5 = (as.length : Int) ∧ τ 6 as.length = (s : Int) ∧ (∀ j, j < s → τ (35 + as.length) j = (L.co r ((f + j) % L.cn r) : Int)) ∧ (∀ x, x ≠ as.length → τ 6 x = σ 6 x) ∧ (∀ x, x < 60 → x ≠ as.length → τ (35 + x) = σ (35 + x)) ∧ (∀ p, (∃ j, j < s ∧ L.co r ((f + j) % L.cn r) = p) → τ 7 p = (as.length : Int)) ∧ (∀ p, ¬ (∃ j, j < s ∧ L.co r ((f + j) % L.cn r) = p) → τ 7 p = σ 7 p) ∧ (∀ e, e < ne → τ 8 e = bI (TK L as (A e) (B e) ∨ ∃ j, j < k ∧ prs A B e (L.co r ((f + j) % L.cn r)) (L.co r ((f + j + 1) % L.cn r))))
theorem TI_app {σ τ : Mm} {L : Ld} {ne : Nat} {A B : Nat → Nat} {as : List Ac} {r f s k : Nat} (hw : WF L) (hr : r < L.nr) (hx : as.length < 60) (hs : s < 11) (h : TI σ τ L ne A B as r f s k) : ∃ τ', fX0_append (L.co r ((f + s) % L.cn r)) τ = some τ' ∧ TI σ τ' L ne A B as r f (s + 1) k := by
  have hnp := hw.1
  have h3 := hw.2.2.1 r hr
  obtain ⟨a1, a2, a3, a4, a5, a6, a7, a8, a9⟩ := h
  have hp := hw.2.2.2.1 r ((f + s) % L.cn r) hr (Nat.mod_lt _ (by omega))
  refine ⟨_, c_append a2 a3 hx hs (by omega), fun c c1 c2 c3 c4 c5 => ?_, ?_, ?_, fun j hj => ?_, fun x hne => ?_, fun x h1 hne => ?_, fun p hp => ?_, fun p hp => ?_, fun e he => ?_⟩
  · rw [sto_c c3, sto_c c2, sto_c (by omega)]; exact a1 c c1 c2 c3 c4 c5
  · rw [sto_k (by omega), sto_k (by omega), sto_k (by omega)]; exact a2
  · rw [sto_k (by omega), sto_eq]
  · rw [sto_k (by omega), sto_k (by omega), sto_at]
    by_cases w : j = s
    · rw [if_pos ⟨rfl, w⟩, w]
    · rw [if_neg (by omega)]; exact a4 j (by omega)
  · rw [sto_k (by omega), sto_i hne, sto_k (by omega)]; exact a5 x hne
  · rw [sto_c (by omega), sto_c (by omega), sto_c (by omega)]; exact a6 x h1 hne
  · rw [sto_at]
    by_cases w : p = L.co r ((f + s) % L.cn r)
    · rw [if_pos ⟨rfl, w⟩]
    · rw [if_neg (by omega), sto_k (by omega), sto_k (by omega)]
      obtain ⟨j, j1, j2⟩ := hp
      refine a7 p ⟨j, ?_, j2⟩
      rcases Nat.lt_or_ge j s with z | z
      · exact z
      · exact absurd (by rw [← j2, show j = s by omega]) w
  · have w : p ≠ L.co r ((f + s) % L.cn r) := fun z => hp ⟨s, by omega, z.symm⟩
    rw [sto_i w, sto_k (by omega), sto_k (by omega)]
    exact a8 p (fun ⟨j, j1, j2⟩ => hp ⟨j, by omega, j2⟩)
  · rw [sto_k (by omega), sto_k (by omega), sto_k (by omega)]; exact a9 e he
theorem TI_tk {σ τ : Mm} {L : Ld} {ne e0 : Nat} {A B : Nat → Nat} {as : List Ac} {r f s k : Nat} (hd : ∀ e e', e < ne → e' < ne → prs A B e (A e') (B e') → e = e') (he0 : e0 < ne) (hp : prs A B e0 (L.co r ((f + k) % L.cn r)) (L.co r ((f + k + 1) % L.cn r))) (h : TI σ τ L ne A B as r f s k) : TI σ (sto τ 8 e0 1) L ne A B as r f s (k + 1) := by
  obtain ⟨a1, a2, a3, a4, a5, a6, a7, a8, a9⟩ := h
  refine ⟨fun c c1 c2 c3 c4 c5 => ?_, ?_, ?_, fun j hj => ?_, fun x hne => ?_, fun x h1 hne => ?_, fun p hp => ?_, fun p hp => ?_, fun e he => ?_⟩
  · rw [sto_c c4]; exact a1 c c1 c2 c3 c4 c5
  · rw [sto_k (by omega)]; exact a2
  · rw [sto_k (by omega)]; exact a3
  · rw [sto_k (by omega)]; exact a4 j hj
  · rw [sto_k (by omega)]; exact a5 x hne
  · rw [sto_c (by omega)]; exact a6 x h1 hne
  · rw [sto_k (by omega)]; exact a7 p hp
  · rw [sto_k (by omega)]; exact a8 p hp
  · rw [sto_at]
    by_cases w : e = e0
    · rw [if_pos ⟨rfl, w⟩, w, bI_t (Or.inr ⟨k, by omega, hp⟩)]
    · rw [if_neg (by omega), a9 e he]
      apply bI_c
      constructor
      · rintro (z | ⟨j, j1, j2⟩)
        · exact Or.inl z
        · exact Or.inr ⟨j, by omega, j2⟩
      · rintro (z | ⟨j, j1, j2⟩)
        · exact Or.inl z
        · right
          refine ⟨j, ?_, j2⟩
          rcases Nat.lt_or_ge j k with q | q
          · exact q
          · exfalso
            rw [show j = k by omega] at j2
            exact w (hd e e0 he he0 (by unfold prs at hp j2 ⊢; omega))
