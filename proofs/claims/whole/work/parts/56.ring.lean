/-! the rings at a stage -/
theorem it_or {β : Type} {f : (Int → Int → Option β) → Int → Int → Option β} (N : Nat) (Q : Nat → Prop) (w : Int → Option β) (hs : ∀ (c : Int → Int → Option β) (i : Nat) (R : Prop), i < N → f c (bI R) (i : Int) = c (bI (R ∨ Q i)) ((i + 1 : Nat) : Int)) (hx : ∀ (c : Int → Int → Option β) (R : Prop), f c (bI R) (N : Int) = w (bI R)) : ∀ (fu i : Nat) (R : Prop), i ≤ N → N - i < fu → itN (fun _ _ => none) f fu (bI R) (i : Int) = w (bI (R ∨ ∃ j, i ≤ j ∧ j < N ∧ Q j))
  | 0, i, _, _, h => by omega
  | fu + 1, i, R, h1, h2 => by
    rw [itN_s]
    by_cases he : i = N
    · subst he
      rw [hx]
      exact congrArg w (bI_c ⟨fun a => Or.inl a, fun a => a.elim id (fun ⟨j, q1, q2, _⟩ => by omega)⟩)
    · rw [hs _ i R (by omega), it_or N Q w hs hx fu (i + 1) (R ∨ Q i) (by omega) (by omega)]
      refine congrArg w (bI_c ⟨fun a => ?_, fun a => ?_⟩)
      · rcases a with (a | a) | ⟨j, q1, q2, q3⟩
        · exact Or.inl a
        · exact Or.inr ⟨i, Nat.le_refl i, by omega, a⟩
        · exact Or.inr ⟨j, by omega, q2, q3⟩
      · rcases a with a | ⟨j, q1, q2, q3⟩
        · exact Or.inl (Or.inl a)
        · rcases Nat.lt_or_ge i j with q | q
          · exact Or.inr ⟨j, q, q2, q3⟩
          · exact Or.inl (Or.inr ((show j = i by omega) ▸ q3))
theorem it_or0 {β : Type} {f : (Int → Int → Option β) → Int → Int → Option β} (N : Nat) (Q : Nat → Prop) (w : Int → Option β) (R : Prop) (hN : N < 400) (hs : ∀ (c : Int → Int → Option β) (i : Nat) (R : Prop), i < N → f c (bI R) (i : Int) = c (bI (R ∨ Q i)) ((i + 1 : Nat) : Int)) (hx : ∀ (c : Int → Int → Option β) (R : Prop), f c (bI R) (N : Int) = w (bI R)) : itN (fun _ _ => none) f 400 (bI R) 0 = w (bI (R ∨ ∃ j, j < N ∧ Q j)) := by
  have h := it_or N Q w hs hx 400 0 R (Nat.zero_le _) (by omega)
  rw [Int.natCast_zero] at h
  rw [h]
  exact congrArg w (bI_c ⟨fun a => a.imp id (fun ⟨j, _, q2, q3⟩ => ⟨j, q2, q3⟩), fun a => a.imp id (fun ⟨j, q2, q3⟩ => ⟨j, Nat.zero_le j, q2, q3⟩)⟩)
def SHR (S : Ld) (r q : Nat) : Prop := ∃ i, i < S.cn r ∧ ∃ j, j < S.cn q ∧ ((S.co q j = S.co r i ∧ cx S q j = cx S r i) ∨ (S.co q j = cx S r i ∧ cx S q j = S.co r i))
theorem c_shareEdge {σ : Mm} {L S : Ld} {r q : Nat} (hw : WF L) (hS : SW L S) (hC : SC σ L S) (hr : r < L.nr) (hq : q < L.nr) : fX3_shareEdge r q σ = some (bI (SHR S r q)) := by
  have hnp := hw.1
  have hnr := hw.2.1
  have n1 := hS.2.2.2.2.1 r hr
  have n2 := hS.2.2.2.2.1 q hq
  have b1 := hC.1 r hr
  have b2 := hC.1 q hq
  have b3 := fun i hi => hC.2 r i hr hi
  have key := it_ex0 (f := fun c => fX3_shareEdge_2 r q σ (fX3_shareEdge_67 σ) c) (S.cn r) (fun i => ∃ j, j < S.cn q ∧ ((S.co q j = S.co r i ∧ cx S q j = cx S r i) ∨ (S.co q j = cx S r i ∧ cx S q j = S.co r i))) (some 1) (some 0) (by omega) (fun c i hi => by
    have hm : (i + 1) % S.cn r < S.cn r := Nat.mod_lt _ (by omega)
    have c1 := hS.2.2.2.2.2.1 r i hr hi
    have c2 := hS.2.2.2.2.2.1 r _ hr hm
    have e1 := c_following σ hi (by omega)
    have e2 := c_areNext (σ := σ) (w := 29 + q) (n := S.cn q) (p := S.co r i) (q := S.co r ((i + 1) % S.cn r)) (f := S.co q) n2 (fun j hj => by have := hS.2.2.2.2.2.1 q j hq hj; omega) (fun j hj => hC.2 q j hq hj) (by omega) (by omega)
    simp (disch := omega) only [fX3_shareEdge_2, b1, b2, b3, e1, e2, if_pos, Int.reduceAdd, Int.reduceSub, Int.reduceMul, Int.zero_add, Int.add_zero, Nat.zero_add, na_0, ca_la, ca_al, ca_lm, ca_add, ca_mod, ca_lit, tn_c, Int.natCast_zero, bd_some, bd2_some, bindv_e, chk_ok, cr_ok, crl_ok, chd_ok, chb_0, chb_1, cr_bI, chb_bI, ite_bI0, if_true, if_false]) (fun c => by
    simp (disch := omega) only [fX3_shareEdge_2, fX3_shareEdge_67, b1, if_neg, Int.reduceAdd, Int.reduceSub, Int.reduceMul, Int.zero_add, Int.add_zero, Nat.zero_add, na_0, ca_la, ca_al, ca_lm, ca_add, ca_mod, ca_lit, tn_c, Int.natCast_zero, bd_some, bd2_some, bindv_e, chk_ok, cr_ok, crl_ok, chd_ok, chb_0, chb_1, cr_bI, chb_bI, ite_bI0, if_true, if_false])
  unfold fX3_shareEdge
  rw [bindv_e]
  unfold lX3_shareEdge_2
  rw [key, pI_some]
  rfl
noncomputable def NBR (S : Ld) (nr r : Nat) : Int := sm (fun q => bI (q ≠ r ∧ SHR S r q)) nr
theorem c_neighboursOf {σ : Mm} {L S : Ld} {r : Nat} (hw : WF L) (h : CL σ 95 L) (hS : SW L S) (hC : SC σ L S) (hr : r < L.nr) : fX3_neighboursOf r σ = some (NBR S L.nr r) := by
  have hnr := hw.2.1
  obtain ⟨-, cR, -⟩ := CL95 h
  have key := it_sum0 (f := fun c => fX3_neighboursOf_4 r σ (fun v => fX3_neighboursOf_38 v σ) c) L.nr (fun q => bI (q ≠ r ∧ SHR S r q)) (fun v => some v) 0 (by omega) (fun c a q hq => by
    have e1 := c_shareEdge hw hS hC hr hq
    by_cases w : q = r
    · subst w
      simp (disch := omega) only [fX3_neighboursOf_4, fX3_neighboursOf_32, cR, if_pos, Int.reduceAdd, Int.reduceSub, Int.reduceMul, Int.zero_add, Int.add_zero, Nat.zero_add, na_0, ca_la, ca_al, ca_lm, ca_add, ca_mod, ca_lit, tn_c, Int.natCast_zero, bd_some, bd2_some, bindv_e, chk_ok, cr_ok, crl_ok, chd_ok, chb_0, chb_1, cr_bI, chb_bI, ite_bI0, if_true, if_false]
      rw [bI_f (fun z => z.1 rfl), Int.add_zero]
    · simp (disch := omega) only [fX3_neighboursOf_4, fX3_neighboursOf_32, cR, e1, if_pos, if_neg, Int.reduceAdd, Int.reduceSub, Int.reduceMul, Int.zero_add, Int.add_zero, Nat.zero_add, na_0, ca_la, ca_al, ca_lm, ca_add, ca_mod, ca_lit, tn_c, Int.natCast_zero, bd_some, bd2_some, bindv_e, chk_ok, cr_ok, crl_ok, chd_ok, chb_0, chb_1, cr_bI, chb_bI, ite_bI0, if_true, if_false]
      by_cases z : SHR S r q
      · rw [pI_t z, bI_t ⟨w, z⟩]
      · rw [pI_f z, bI_f (fun y => z y.2), Int.add_zero]) (fun c a => by
    simp (disch := omega) only [fX3_neighboursOf_4, fX3_neighboursOf_38, cR, if_neg, Int.reduceAdd, Int.reduceSub, Int.reduceMul, Int.zero_add, Int.add_zero, Nat.zero_add, na_0, ca_la, ca_al, ca_lm, ca_add, ca_mod, ca_lit, tn_c, Int.natCast_zero, bd_some, bd2_some, bindv_e, chk_ok, cr_ok, crl_ok, chd_ok, chb_0, chb_1, cr_bI, chb_bI, ite_bI0, if_true, if_false])
  rw [Int.zero_add] at key
  unfold fX3_neighboursOf
  rw [bindv_e, bindv_e]
  unfold lX3_neighboursOf_4
  exact key
theorem frX_GA {τ τ' : Mm} {ga : Nat → Nat} (hf : frX τ τ') (h : GA τ ga) : GA τ' ga := fun p hp => by rw [hf 5 (by omega) (by omega)]; exact h p hp
theorem m_sh66 {t : Mm} {n m i : Nat} {f g : Nat → Nat} {e : Int → Option (Int × Mm)} {R : Prop} (hn : n ≤ 10) (hm : m ≤ 10) (hf : ∀ j, j < n → f j < 24 ∧ t 14 j = (f j : Int)) (hg : ∀ j, j < m → g j < 24 ∧ t 9 j = (g j : Int)) (hi : i < n) : lX8_isSharing_66 n m i t e 400 (bI R) 0 = e (bI (R ∨ ∃ j, j < m ∧ ((g j = f i ∧ g ((j + 1) % m) = f ((i + 1) % n)) ∨ (g j = f ((i + 1) % n) ∧ g ((j + 1) % m) = f i)))) := by
  have hm1 : (i + 1) % n < n := Nat.mod_lt _ (by omega)
  obtain ⟨a1, a2⟩ := hf i hi
  obtain ⟨a3, a4⟩ := hf _ hm1
  unfold lX8_isSharing_66
  refine it_or0 (f := fun c => fX8_isSharing_66 n m i t e c) m (fun j => (g j = f i ∧ g ((j + 1) % m) = f ((i + 1) % n)) ∨ (g j = f ((i + 1) % n) ∧ g ((j + 1) % m) = f i)) e R (by omega) (fun c j R hj => ?_) (fun c R => ?_)
  · have hm2 : (j + 1) % m < m := Nat.mod_lt _ (by omega)
    obtain ⟨b1, b2⟩ := hg j hj
    obtain ⟨b3, b4⟩ := hg _ hm2
    by_cases z : R
    · rw [bI_t z, bI_t (Or.inl z)]
      simp (disch := omega) only [fX8_isSharing_66, fX8_isSharing_148, fX8_isSharing_153, a2, a4, b2, b4, if_pos, if_neg, Int.reduceAdd, Int.reduceSub, Int.reduceMul, Int.zero_add, Int.add_zero, Nat.zero_add, na_0, ca_la, ca_al, ca_lm, ca_add, ca_mod, ca_lit, tn_c, Int.natCast_zero, bd_some, bd2_some, bindv_e, chk_ok, cr_ok, crl_ok, chd_ok, chb_0, chb_1, cr_bI, chb_bI, ite_bI0, if_true, if_false]
    · rw [bI_f z]
      rw [bI_c (show (R ∨ ((g j = f i ∧ g ((j + 1) % m) = f ((i + 1) % n)) ∨ (g j = f ((i + 1) % n) ∧ g ((j + 1) % m) = f i))) ↔ ((g j = f i ∧ g ((j + 1) % m) = f ((i + 1) % n)) ∨ (g j = f ((i + 1) % n) ∧ g ((j + 1) % m) = f i)) from ⟨fun y => y.elim (fun x => absurd x z) id, Or.inr⟩)]
      simp (disch := omega) only [fX8_isSharing_66, fX8_isSharing_134, fX8_isSharing_148, fX8_isSharing_152, fX8_isSharing_153, a2, a4, b2, b4, if_pos, Int.reduceAdd, Int.reduceSub, Int.reduceMul, Int.zero_add, Int.add_zero, Nat.zero_add, na_0, ca_la, ca_al, ca_lm, ca_add, ca_mod, ca_lit, tn_c, Int.natCast_zero, bd_some, bd2_some, bindv_e, chk_ok, cr_ok, crl_ok, chd_ok, chb_0, chb_1, cr_bI, chb_bI, ite_bI0, if_true, if_false]
      repeat' split
      all_goals first | (rw [bI_t (by omega)]; done) | rw [bI_f (by omega)]
  · simp (disch := omega) only [fX8_isSharing_66, if_neg, Int.reduceAdd, Int.reduceSub, Int.reduceMul, Int.zero_add, Int.add_zero, Nat.zero_add, na_0, ca_la, ca_al, ca_lm, ca_add, ca_mod, ca_lit, tn_c, Int.natCast_zero, bd_some, bd2_some, bindv_e, chk_ok, cr_ok, crl_ok, chd_ok, chb_0, chb_1, cr_bI, chb_bI, ite_bI0, if_true, if_false]
theorem m_sh56 {t : Mm} {n m : Nat} {f g : Nat → Nat} (hn : n ≤ 10) (hm : m ≤ 10) (hf : ∀ j, j < n → f j < 24 ∧ t 14 j = (f j : Int)) (hg : ∀ j, j < m → g j < 24 ∧ t 9 j = (g j : Int)) : lX8_isSharing_56 n m t (fun v => fX8_isSharing_167 v t) 400 0 0 = some (bI (∃ i, i < n ∧ ∃ j, j < m ∧ ((g j = f i ∧ g ((j + 1) % m) = f ((i + 1) % n)) ∨ (g j = f ((i + 1) % n) ∧ g ((j + 1) % m) = f i))), t) := by
  have key := it_or0 (f := fun c => fX8_isSharing_56 n m t (fun v => fX8_isSharing_167 v t) c) n (fun i => ∃ j, j < m ∧ ((g j = f i ∧ g ((j + 1) % m) = f ((i + 1) % n)) ∨ (g j = f ((i + 1) % n) ∧ g ((j + 1) % m) = f i))) (fun v => fX8_isSharing_167 v t) False (by omega) (fun c i R hi => by
    have e1 := m_sh66 (t := t) (e := fun v => fX8_isSharing_161 c n m v i t) (R := R) hn hm hf hg hi
    simp (disch := omega) only [fX8_isSharing_56, e1, if_pos, Int.reduceAdd, Int.reduceSub, Int.reduceMul, Int.zero_add, Int.add_zero, Nat.zero_add, na_0, ca_la, ca_al, ca_lm, ca_add, ca_mod, ca_lit, tn_c, Int.natCast_zero, bd_some, bd2_some, bindv_e, chk_ok, cr_ok, crl_ok, chd_ok, chb_0, chb_1, cr_bI, chb_bI, ite_bI0, if_true, if_false]
    simp only [fX8_isSharing_161, Int.reduceAdd, Int.reduceSub, Int.reduceMul, Int.zero_add, Int.add_zero, Nat.zero_add, na_0, ca_la, ca_al, ca_lm, ca_add, ca_mod, ca_lit, tn_c, Int.natCast_zero, bd_some, bd2_some, bindv_e, chk_ok, cr_ok, crl_ok, chd_ok, chb_0, chb_1, cr_bI, chb_bI, ite_bI0, if_true, if_false]) (fun c R => by
    simp (disch := omega) only [fX8_isSharing_56, if_neg, Int.reduceAdd, Int.reduceSub, Int.reduceMul, Int.zero_add, Int.add_zero, Nat.zero_add, na_0, ca_la, ca_al, ca_lm, ca_add, ca_mod, ca_lit, tn_c, Int.natCast_zero, bd_some, bd2_some, bindv_e, chk_ok, cr_ok, crl_ok, chd_ok, chb_0, chb_1, cr_bI, chb_bI, ite_bI0, if_true, if_false])
  rw [bI_f (fun z => z), false_or] at key
  unfold lX8_isSharing_56
  rw [key]
  unfold fX8_isSharing_167
  rw [chb_bI]
theorem m_isSharing {τ : Mm} {L : Ld} {ga : Nat → Nat} {r q s : Nat} (hw : WF L) (h : ML τ 0 L) (hg : GA τ ga) (hr : r < L.nr) (hq : q < L.nr) (hs : s < 1000) : ∃ τ', fX8_isSharing r q s τ = some (bI (SHR (dr L (als ga s)) r q), τ') ∧ frX τ τ' := by
  have hnp := hw.1
  have hnr := hw.2.1
  have hS := dr_SWL hw (als ga s)
  have n1 := hS.2.2.2.2.1 r hr
  have n2 := hS.2.2.2.2.1 q hq
  have hA := fun i hi => hS.2.2.2.2.2.1 r i hr hi
  have hB := fun i hi => hS.2.2.2.2.2.1 q i hq hi
  obtain ⟨τ1, d1, d2, d3⟩ := m_ringAt hw h hg hr hs
  have x1 : frX τ τ1 := fun k a _ => d3 k a
  obtain ⟨t, ⟨i1, i2, i3⟩, e1⟩ := it_inv0 (f := fun c => fX8_isSharing_17 q s ((dr L (als ga s)).cn r : Int) (fun t => fX8_isSharing_42 q s ((dr L (als ga s)).cn r : Int) t) c) ((dr L (als ga s)).cn r) (fun i t => (∀ j, j < i → t 14 j = ((dr L (als ga s)).co r j : Int)) ∧ t 9 = τ1 9 ∧ frX τ1 t) (fun t => fX8_isSharing_42 q s ((dr L (als ga s)).cn r : Int) t) τ1 (by omega) ⟨fun j hj => by omega, rfl, frX_r τ1⟩ (fun c i t hi hI => by
    obtain ⟨q1, q2, q3⟩ := hI
    have c1 : t 9 i = ((dr L (als ga s)).co r i : Int) := by rw [q2]; exact d2 i hi
    refine ⟨sto t 14 i ((dr L (als ga s)).co r i : Int), ⟨fun j hj => ?_, by rw [sto_c (by omega)]; exact q2, fun k a b => by rw [sto_c b]; exact q3 k a b⟩, ?_⟩
    · rw [sto_at]
      by_cases w : j = i
      · rw [if_pos ⟨rfl, w⟩, w]
      · rw [if_neg (by omega)]; exact q1 j (by omega)
    · simp (disch := omega) only [fX8_isSharing_17, c1, if_pos, Int.reduceAdd, Int.reduceSub, Int.reduceMul, Int.zero_add, Int.add_zero, Nat.zero_add, na_0, ca_la, ca_al, ca_lm, ca_add, ca_mod, ca_lit, tn_c, Int.natCast_zero, bd_some, bd2_some, bindv_e, chk_ok, cr_ok, crl_ok, chd_ok, chb_0, chb_1, cr_bI, chb_bI, ite_bI0, if_true, if_false]) (fun c t hI => by
    simp (disch := omega) only [fX8_isSharing_17, if_neg, Int.reduceAdd, Int.reduceSub, Int.reduceMul, Int.zero_add, Int.add_zero, Nat.zero_add, na_0, ca_la, ca_al, ca_lm, ca_add, ca_mod, ca_lit, tn_c, Int.natCast_zero, bd_some, bd2_some, bindv_e, chk_ok, cr_ok, crl_ok, chd_ok, chb_0, chb_1, cr_bI, chb_bI, ite_bI0, if_true, if_false])
  have x2 := frX_t x1 i3
  obtain ⟨τ2, g1, g2, g3⟩ := m_ringAt hw (frX_ML x2 h) (frX_GA x2 hg) hq hs
  refine ⟨τ2, ?_, frX_t x2 (fun k a _ => g3 k a)⟩
  have e2 := m_sh56 (t := τ2) (f := (dr L (als ga s)).co r) (g := (dr L (als ga s)).co q) n1 n2 (fun j hj => ⟨by have := hA j hj; omega, by rw [g3 14 (by omega)]; exact i1 j hj⟩) (fun j hj => ⟨by have := hB j hj; omega, g2 j hj⟩)
  unfold fX8_isSharing
  rw [d1, bd2_some, bindv_e, bindv_e]
  unfold lX8_isSharing_17
  rw [e1]
  unfold fX8_isSharing_42
  rw [g1, bd2_some, bindv_e, bindv_e, bindv_e]
  exact e2
theorem m_sharing {τ : Mm} {L : Ld} {ga : Nat → Nat} {r s : Nat} (hw : WF L) (h : ML τ 0 L) (hg : GA τ ga) (hr : r < L.nr) (hs : s < 1000) : ∃ τ', fX8_sharing r s τ = some (NBR (dr L (als ga s)) L.nr r, τ') ∧ frX τ τ' := by
  have hnr := hw.2.1
  obtain ⟨v, t, ⟨i1, i2⟩, e1⟩ := it_inv30 (f := fun c => fX8_sharing_5 r s (fun v t => fX8_sharing_45 v t) c) L.nr (fun i v t => v = sm (fun q => bI (q ≠ r ∧ SHR (dr L (als ga s)) r q)) i ∧ frX τ t) (fun v t => some (v, t)) 0 τ (by omega) ⟨rfl, frX_r τ⟩ (fun c q v t hq hI => by
    obtain ⟨q1, q2⟩ := hI
    have m1 := m_rings (frX_ML q2 h)
    by_cases w : q = r
    · refine ⟨v + 0, t, ⟨?_, q2⟩, ?_⟩
      · rw [sm_s, bI_f (fun z => z.1 w), q1]
      · simp (disch := omega) only [fX8_sharing_5, fX8_sharing_36, fX8_sharing_37, m1, if_pos, Int.reduceAdd, Int.reduceSub, Int.reduceMul, Int.zero_add, Int.add_zero, Nat.zero_add, na_0, ca_la, ca_al, ca_lm, ca_add, ca_mod, ca_lit, tn_c, Int.natCast_zero, bd_some, bd2_some, bindv_e, chk_ok, cr_ok, crl_ok, chd_ok, chb_0, chb_1, cr_bI, chb_bI, ite_bI0, if_true, if_false]
    · obtain ⟨t2, d1, d2⟩ := m_isSharing (s := s) hw (frX_ML q2 h) (frX_GA q2 hg) hr hq hs
      refine ⟨v + bI (SHR (dr L (als ga s)) r q), t2, ⟨?_, frX_t q2 d2⟩, ?_⟩
      · rw [sm_s, q1, bI_c (show (q ≠ r ∧ SHR (dr L (als ga s)) r q) ↔ SHR (dr L (als ga s)) r q from ⟨fun z => z.2, fun z => ⟨w, z⟩⟩)]
      · simp (disch := omega) only [fX8_sharing_5, fX8_sharing_36, fX8_sharing_37, m1, d1, if_pos, if_neg, Int.reduceAdd, Int.reduceSub, Int.reduceMul, Int.zero_add, Int.add_zero, Nat.zero_add, na_0, ca_la, ca_al, ca_lm, ca_add, ca_mod, ca_lit, tn_c, Int.natCast_zero, bd_some, bd2_some, bindv_e, chk_ok, cr_ok, crl_ok, chd_ok, chb_0, chb_1, cr_bI, chb_bI, ite_bI0, if_true, if_false]
        by_cases z : SHR (dr L (als ga s)) r q
        · rw [pI_t z, bI_t z]
        · rw [pI_f z, bI_f z, Int.add_zero]) (fun c v t hI => by
    have m1 := m_rings (frX_ML hI.2 h)
    simp (disch := omega) only [fX8_sharing_5, fX8_sharing_45, m1, if_neg, Int.reduceAdd, Int.reduceSub, Int.reduceMul, Int.zero_add, Int.add_zero, Nat.zero_add, na_0, ca_la, ca_al, ca_lm, ca_add, ca_mod, ca_lit, tn_c, Int.natCast_zero, bd_some, bd2_some, bindv_e, chk_ok, cr_ok, crl_ok, chd_ok, chb_0, chb_1, cr_bI, chb_bI, ite_bI0, if_true, if_false])
  refine ⟨t, ?_, i2⟩
  unfold fX8_sharing
  rw [bindv_e, bindv_e]
  unfold lX8_sharing_5
  rw [e1, i1]
  rfl
theorem k_ring {σ τ : Mm} {v u w : Int} (h : Inv σ τ) (hv : inR v) (hu : inR u) (hw : inR w) : CC (fX7_ring v u w σ) (fX8_ring v u w τ) := by
  obtain ⟨L, hI⟩ := h
  have hW := hI.1.1
  have hn := hW.2.1
  obtain ⟨-, cR, -⟩ := CL95 hI.1.2.2.1
  have e1 := c_isBelow σ (v := v) (n := (L.nr : Int)) hv (by omega)
  have e2 := m_isRing hW hI.2.2.1 hv
  by_cases w1 : 0 ≤ v ∧ v < (L.nr : Int)
  · obtain ⟨r, rfl, hr⟩ := cut0 w1
    rw [bI_t w1] at e1 e2
    obtain ⟨τ', gb, sz, n, m1, m2, hI', m3, l1, l2⟩ := st_view hI hu
    by_cases w2 : 0 ≤ u ∧ u ≤ (n : Int)
    · obtain ⟨s, rfl, hs⟩ := cut1 w2
      rw [bI_t w2] at m1 m2
      obtain ⟨σ', c1, c2, c3, c4⟩ := c_sceneAt hW hI.1.2.2.1 m3.1.1 m3.2.1 hs
      have hI2 := InvL_S c4 hI'
      have hS := SCN_SW hW gb s
      have hcn := hS.2.2.2.2.1 r hr
      have hc := c2.1 r hr
      have e4 := m_in τ' (v := w) (a := 0) (b := 2) hw (by omega) (by omega)
      by_cases w3 : 0 ≤ w ∧ w ≤ 2
      · rw [bI_t w3] at e4
        obtain ⟨τ2, d1, d2, d3⟩ := m_ringAt hW hI'.2.2.1 m3.2.2.1.2.2.1 hr (s := s) (by omega)
        rw [drS m3.1.1 hs] at d1 d2
        have hI3 := InvL_X (E9_X d3) hI2
        by_cases v0 : w = 0
        · subst v0
          refine ⟨(SCN L gb s).cn r, σ', τ2, ?_, ?_, L, hI3⟩
          · simp (disch := omega) only [fX7_ring, cR, e1, m2, c1, hc, if_pos, if_neg, Int.reduceAdd, Int.reduceSub, Int.reduceMul, Int.zero_add, Int.add_zero, Nat.zero_add, na_0, ca_la, ca_al, ca_lm, ca_add, ca_mod, ca_lit, tn_c, Int.natCast_zero, bd_some, bd2_some, bindv_e, chk_ok, cr_ok, crl_ok, chd_ok, chb_0, chb_1, cr_bI, chb_bI, ite_bI0, if_true, if_false]
          · simp (disch := omega) only [fX8_ring, fX8_ring_67, e2, m1, e4, d1, if_pos, if_neg, Int.reduceAdd, Int.reduceSub, Int.reduceMul, Int.zero_add, Int.add_zero, Nat.zero_add, na_0, ca_la, ca_al, ca_lm, ca_add, ca_mod, ca_lit, tn_c, Int.natCast_zero, bd_some, bd2_some, bindv_e, chk_ok, cr_ok, crl_ok, chd_ok, chb_0, chb_1, cr_bI, chb_bI, ite_bI0, if_true, if_false]
        by_cases v1 : w = 1
        · subst v1
          have a1 := c_areaOf (w := 29 + r) (n := (SCN L gb s).cn r) (f := (SCN L gb s).co r) hW hI2.1.2.2.1 hcn (fun i hi => hS.2.2.2.2.2.1 r i hr hi) (fun i hi => c2.2 r i hr hi)
          have a2 := m_ringArea (f := (SCN L gb s).co r) hW hI3.2.2.1 hcn (fun i hi => hS.2.2.2.2.2.1 r i hr hi) d2
          refine ⟨ARf L ((SCN L gb s).co r) ((SCN L gb s).cn r), σ', τ2, ?_, ?_, L, hI3⟩
          · simp (disch := omega) only [fX7_ring, fX3_areaOf, cR, e1, m2, c1, hc, a1, if_pos, if_neg, Int.reduceAdd, Int.reduceSub, Int.reduceMul, Int.zero_add, Int.add_zero, Nat.zero_add, na_0, ca_la, ca_al, ca_lm, ca_add, ca_mod, ca_lit, tn_c, Int.natCast_zero, bd_some, bd2_some, bindv_e, chk_ok, cr_ok, crl_ok, chd_ok, chb_0, chb_1, cr_bI, chb_bI, ite_bI0, if_true, if_false]
          · simp (disch := omega) only [fX8_ring, fX8_ring_67, e2, m1, e4, d1, a2, if_pos, if_neg, Int.reduceAdd, Int.reduceSub, Int.reduceMul, Int.zero_add, Int.add_zero, Nat.zero_add, na_0, ca_la, ca_al, ca_lm, ca_add, ca_mod, ca_lit, tn_c, Int.natCast_zero, bd_some, bd2_some, bindv_e, chk_ok, cr_ok, crl_ok, chd_ok, chb_0, chb_1, cr_bI, chb_bI, ite_bI0, if_true, if_false]
        · have v2 : w = 2 := by omega
          subst v2
          have a1 := c_neighboursOf hW hI2.1.2.2.1 hS c2 hr
          obtain ⟨τ3, b1, b2⟩ := m_sharing (s := s) hW hI3.2.2.1 (frX_GA (E9_X d3) m3.2.2.1.2.2.1) hr (by omega)
          rw [drS m3.1.1 hs] at b1
          refine ⟨NBR (SCN L gb s) L.nr r, σ', τ3, ?_, ?_, L, InvL_X b2 hI3⟩
          · simp (disch := omega) only [fX7_ring, cR, e1, m2, c1, a1, if_pos, if_neg, Int.reduceAdd, Int.reduceSub, Int.reduceMul, Int.zero_add, Int.add_zero, Nat.zero_add, na_0, ca_la, ca_al, ca_lm, ca_add, ca_mod, ca_lit, tn_c, Int.natCast_zero, bd_some, bd2_some, bindv_e, chk_ok, cr_ok, crl_ok, chd_ok, chb_0, chb_1, cr_bI, chb_bI, ite_bI0, if_true, if_false]
          · simp (disch := omega) only [fX8_ring, fX8_ring_67, e2, m1, e4, d1, b1, if_pos, if_neg, Int.reduceAdd, Int.reduceSub, Int.reduceMul, Int.zero_add, Int.add_zero, Nat.zero_add, na_0, ca_la, ca_al, ca_lm, ca_add, ca_mod, ca_lit, tn_c, Int.natCast_zero, bd_some, bd2_some, bindv_e, chk_ok, cr_ok, crl_ok, chd_ok, chb_0, chb_1, cr_bI, chb_bI, ite_bI0, if_true, if_false]
      · rw [bI_f w3] at e4
        refine ⟨-1, σ', τ', ?_, ?_, L, hI2⟩
        · simp (disch := omega) only [fX7_ring, cR, e1, m2, c1, if_pos, if_neg, Int.reduceAdd, Int.reduceSub, Int.reduceMul, Int.zero_add, Int.add_zero, Nat.zero_add, na_0, ca_la, ca_al, ca_lm, ca_add, ca_mod, ca_lit, tn_c, Int.natCast_zero, bd_some, bd2_some, bindv_e, chk_ok, cr_ok, crl_ok, chd_ok, chb_0, chb_1, cr_bI, chb_bI, ite_bI0, if_true, if_false]
        · simp (disch := omega) only [fX8_ring, fX8_ring_28, e2, m1, e4, if_pos, if_neg, Int.reduceAdd, Int.reduceSub, Int.reduceMul, Int.zero_add, Int.add_zero, Nat.zero_add, na_0, ca_la, ca_al, ca_lm, ca_add, ca_mod, ca_lit, tn_c, Int.natCast_zero, bd_some, bd2_some, bindv_e, chk_ok, cr_ok, crl_ok, chd_ok, chb_0, chb_1, cr_bI, chb_bI, ite_bI0, if_true, if_false]
    · rw [bI_f w2] at m1 m2
      refine ⟨-1, σ, τ', ?_, ?_, L, hI'⟩
      · simp (disch := omega) only [fX7_ring, fX7_ring_22, cR, e1, m2, if_pos, if_neg, Int.reduceAdd, Int.reduceSub, Int.reduceMul, Int.zero_add, Int.add_zero, Nat.zero_add, na_0, ca_la, ca_al, ca_lm, ca_add, ca_mod, ca_lit, tn_c, Int.natCast_zero, bd_some, bd2_some, bindv_e, chk_ok, cr_ok, crl_ok, chd_ok, chb_0, chb_1, cr_bI, chb_bI, ite_bI0, if_true, if_false]
      · simp (disch := omega) only [fX8_ring, fX8_ring_28, e2, m1, if_pos, if_neg, Int.reduceAdd, Int.reduceSub, Int.reduceMul, Int.zero_add, Int.add_zero, Nat.zero_add, na_0, ca_la, ca_al, ca_lm, ca_add, ca_mod, ca_lit, tn_c, Int.natCast_zero, bd_some, bd2_some, bindv_e, chk_ok, cr_ok, crl_ok, chd_ok, chb_0, chb_1, cr_bI, chb_bI, ite_bI0, if_true, if_false]
  · rw [bI_f w1] at e1 e2
    refine ⟨-1, σ, τ, ?_, ?_, L, hI⟩
    · simp (disch := omega) only [fX7_ring, fX7_ring_22, cR, e1, if_pos, Int.reduceAdd, Int.reduceSub, Int.reduceMul, Int.zero_add, Int.add_zero, Nat.zero_add, na_0, ca_la, ca_al, ca_lm, ca_add, ca_mod, ca_lit, tn_c, Int.natCast_zero, bd_some, bd2_some, bindv_e, chk_ok, cr_ok, crl_ok, chd_ok, chb_0, chb_1, cr_bI, chb_bI, ite_bI0, if_true, if_false]
    · simp (disch := omega) only [fX8_ring, fX8_ring_28, e2, if_pos, Int.reduceAdd, Int.reduceSub, Int.reduceMul, Int.zero_add, Int.add_zero, Nat.zero_add, na_0, ca_la, ca_al, ca_lm, ca_add, ca_mod, ca_lit, tn_c, Int.natCast_zero, bd_some, bd2_some, bindv_e, chk_ok, cr_ok, crl_ok, chd_ok, chb_0, chb_1, cr_bI, chb_bI, ite_bI0, if_true, if_false]
