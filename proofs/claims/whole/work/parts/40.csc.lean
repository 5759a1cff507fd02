/-! the class's scenes -/
def SC (σ : Mm) (L S : Ld) : Prop := (∀ r, r < L.nr → σ 15 r = (S.cn r : Int)) ∧ (∀ r i, r < L.nr → i < S.cn r → σ (29 + r) i = (S.co r i : Int))
def TH (σ : Mm) (L : Ld) (al : Nat → Bool) : Prop := ∀ p, p < L.np → σ 16 p = bI (al p = true)
def frS (σ σ' : Mm) : Prop := ∀ k, k ≠ 15 → k ≠ 16 → k ≠ 17 → (k < 29 ∨ 35 ≤ k) → σ' k = σ k
theorem frS_t {a b c : Mm} (h : frS a b) (g : frS b c) : frS a c := fun k h1 h2 h3 h4 => (g k h1 h2 h3 h4).trans (h k h1 h2 h3 h4)
theorem frS_r (a : Mm) : frS a a := fun _ _ _ _ _ => rfl
theorem frS_CL {σ σ' : Mm} {L : Ld} (hf : frS σ σ') (h : CL σ 95 L) : CL σ' 95 L := by
  obtain ⟨h1, h2, h3, h4, h5, h6, h7⟩ := h
  refine ⟨?_, ?_, fun p hp => ?_, fun p hp => ?_, fun p hp => ?_, fun r hr => ?_, fun r i hr hi => ?_⟩
  · rw [hf 95 (by omega) (by omega) (by omega) (by omega)]; exact h1
  · rw [hf 95 (by omega) (by omega) (by omega) (by omega)]; exact h2
  · rw [hf _ (by omega) (by omega) (by omega) (by omega)]; exact h3 p hp
  · rw [hf _ (by omega) (by omega) (by omega) (by omega)]; exact h4 p hp
  · rw [hf _ (by omega) (by omega) (by omega) (by omega)]; exact h5 p hp
  · rw [hf _ (by omega) (by omega) (by omega) (by omega)]; exact h6 r hr
  · rw [hf _ (by omega) (by omega) (by omega) (by omega)]; exact h7 r i hr hi
theorem c_showAll {σ : Mm} {L : Ld} (hw : WF L) (h : CL σ 95 L) : ∃ σ', fX3_showAll σ = some σ' ∧ SC σ' L L ∧ TH σ' L (fun _ => true) ∧ frS σ σ' := by
  have hnp := hw.1
  have hnr := hw.2.1
  obtain ⟨σ1, ⟨i1, i2, i3⟩, e1⟩ := it_inv0 (f := fun c => fX3_showAll_2 (fun s => fX3_showAll_56 s) c) L.nr (fun n s => frS σ s ∧ (∀ r, r < n → s 15 r = (L.cn r : Int)) ∧ (∀ r i, r < n → i < L.cn r → s (29 + r) i = (L.co r i : Int))) (fun s => fX3_showAll_56 s) σ (by omega) ⟨frS_r σ, fun r hr => by omega, fun r i hr => by omega⟩ (fun c r s hr hI => by
    obtain ⟨q1, q2, q3⟩ := hI
    obtain ⟨-, hN, -, -, -, hC, hR⟩ := CL95 (frS_CL q1 h)
    have h3 := hw.2.2.1 r hr
    have c1 := hC r hr
    refine ⟨cpy (sto s 15 r (L.cn r : Int)) (105 + r) (29 + r) 10, ⟨fun k h1 h2 h3 h4 => ?_, fun r' hr' => ?_, fun r' i hr' hi => ?_⟩, ?_⟩
    · funext j
      rw [cpy_at, if_neg (by omega), sto_k (by omega), q1 k h1 h2 h3 h4]
    · rw [cpy_at, if_neg (by omega), sto_at]
      by_cases e : r' = r
      · rw [if_pos ⟨rfl, e⟩, e]
      · rw [if_neg (by omega)]; exact q2 r' (by omega)
    · rw [cpy_at]
      by_cases e : r' = r
      · subst e
        rw [if_pos ⟨rfl, by omega⟩, sto_k (by omega)]
        exact hR r' i hr hi
      · rw [if_neg (by omega), sto_k (by omega)]; exact q3 r' i (by omega) hi
    · simp (disch := omega) only [fX3_showAll_2, hN, c1, if_pos, Int.reduceAdd, Int.reduceSub, Int.reduceMul, Int.zero_add, Int.add_zero, Nat.zero_add, na_0, ca_la, ca_al, ca_lm, ca_add, ca_mod, ca_lit, tn_c, Int.natCast_zero, bd_some, bd2_some, bindv_e, chk_ok, cr_ok, crl_ok, chd_ok, chb_0, chb_1, cr_bI, chb_bI, ite_bI0, if_true, if_false]) (fun c s hI => by
    obtain ⟨-, hN, -⟩ := CL95 (frS_CL hI.1 h)
    simp (disch := omega) only [fX3_showAll_2, hN, if_neg, Int.reduceAdd, Int.reduceSub, Int.reduceMul, Int.zero_add, Int.add_zero, Nat.zero_add, na_0, ca_la, ca_al, ca_lm, ca_add, ca_mod, ca_lit, tn_c, Int.natCast_zero, bd_some, bd2_some, bindv_e, chk_ok, cr_ok, crl_ok, chd_ok, chb_0, chb_1, cr_bI, chb_bI, ite_bI0, if_true, if_false])
  obtain ⟨σ2, ⟨j1, j2, j3⟩, e2⟩ := it_inv0 (f := fun c => fX3_showAll_58 (fun s => fX3_showAll_92 s) c) 24 (fun n s => frS σ s ∧ (∀ k, k ≠ 16 → s k = σ1 k) ∧ (∀ p, p < n → p < L.np → s 16 p = 1)) (fun s => some s) σ1 (by omega) ⟨i1, fun _ _ => rfl, fun p hp => by omega⟩ (fun c p s hp hI => by
    obtain ⟨q1, q2, q3⟩ := hI
    obtain ⟨hP, -⟩ := CL95 (frS_CL q1 h)
    by_cases e : p < L.np
    · refine ⟨sto s 16 p 1, ⟨fun k h1 h2 h3 h4 => by rw [sto_c h2]; exact q1 k h1 h2 h3 h4, fun k hk => by rw [sto_c hk]; exact q2 k hk, fun p' hp' hn => ?_⟩, ?_⟩
      · rw [sto_at]
        by_cases w : p' = p
        · rw [if_pos ⟨rfl, w⟩]
        · rw [if_neg (by omega)]; exact q3 p' (by omega) hn
      · simp (disch := omega) only [fX3_showAll_58, fX3_showAll_85, hP, if_pos, Int.reduceAdd, Int.reduceSub, Int.reduceMul, Int.zero_add, Int.add_zero, Nat.zero_add, na_0, ca_la, ca_al, ca_lm, ca_add, ca_mod, ca_lit, tn_c, Int.natCast_zero, bd_some, bd2_some, bindv_e, chk_ok, cr_ok, crl_ok, chd_ok, chb_0, chb_1, cr_bI, chb_bI, ite_bI0, if_true, if_false]
    · refine ⟨sto s 16 p 0, ⟨fun k h1 h2 h3 h4 => by rw [sto_c h2]; exact q1 k h1 h2 h3 h4, fun k hk => by rw [sto_c hk]; exact q2 k hk, fun p' hp' hn => ?_⟩, ?_⟩
      · rw [sto_i (by omega)]; exact q3 p' (by omega) hn
      · simp (disch := omega) only [fX3_showAll_58, fX3_showAll_85, hP, if_pos, if_neg, Int.reduceAdd, Int.reduceSub, Int.reduceMul, Int.zero_add, Int.add_zero, Nat.zero_add, na_0, ca_la, ca_al, ca_lm, ca_add, ca_mod, ca_lit, tn_c, Int.natCast_zero, bd_some, bd2_some, bindv_e, chk_ok, cr_ok, crl_ok, chd_ok, chb_0, chb_1, cr_bI, chb_bI, ite_bI0, if_true, if_false]) (fun c s hI => by
    simp (disch := omega) only [fX3_showAll_58, fX3_showAll_92, if_neg, Int.reduceAdd, Int.reduceSub, Int.reduceMul, Int.zero_add, Int.add_zero, Nat.zero_add, na_0, ca_la, ca_al, ca_lm, ca_add, ca_mod, ca_lit, tn_c, Int.natCast_zero, bd_some, bd2_some, bindv_e, chk_ok, cr_ok, crl_ok, chd_ok, chb_0, chb_1, cr_bI, chb_bI, ite_bI0, if_true, if_false])
  refine ⟨σ2, ?_, ⟨fun r hr => by rw [j2 15 (by omega)]; exact i2 r hr, fun r i hr hi => by rw [j2 _ (by omega)]; exact i3 r i hr hi⟩, fun p hp => by rw [j3 p (by omega) hp, bI_t rfl], j1⟩
  simp only [fX3_showAll, lX3_showAll_2, bindv_e]
  rw [e1]
  simp only [fX3_showAll_56, lX3_showAll_58, bindv_e]
  rw [e2]
def dp (S : Ld) (p : Nat) : Ld := dr S (fun x => x != p)
theorem c_dropPoint {σ : Mm} {L S : Ld} {al : Nat → Bool} {p : Nat} (hw : WF L) (h : CL σ 95 L) (hS : SW L S) (hC : SC σ L S) (hT : TH σ L al) (hp : p < L.np) : ∃ σ', fX3_dropPoint p σ = some σ' ∧ SC σ' L (dp S p) ∧ TH σ' L (fun x => al x && x != p) ∧ frS σ σ' := by
  have hnp := hw.1
  have hnr := hw.2.1
  obtain ⟨σ1, ⟨i1, i2, i3, i4, i5⟩, e1⟩ := it_inv0 (f := fun c => fX3_dropPoint_9 p (fun s => fX3_dropPoint_44 s) c) L.nr (fun n s => frS σ s ∧ (∀ r, r < n → s 15 r = ((dp S p).cn r : Int)) ∧ (∀ r i, r < n → i < (dp S p).cn r → s (29 + r) i = ((dp S p).co r i : Int)) ∧ (∀ r, n ≤ r → r < L.nr → s 15 r = (S.cn r : Int) ∧ ∀ i, i < S.cn r → s (29 + r) i = (S.co r i : Int)) ∧ s 16 = sto σ 16 p 0 16) (fun s => some s) (sto σ 16 p 0) (by omega) ⟨fun k h1 h2 h3 h4 => sto_c h2, fun r hr => by omega, fun r i hr => by omega, fun r _ hr => ⟨by rw [sto_k (by omega)]; exact hC.1 r hr, fun i hi => by rw [sto_k (by omega)]; exact hC.2 r i hr hi⟩, rfl⟩ (fun c r s hr hI => by
    obtain ⟨q1, q2, q3, q4, q5⟩ := hI
    obtain ⟨-, hN, -⟩ := CL95 (frS_CL q1 h)
    obtain ⟨c1, c2⟩ := q4 r (Nat.le_refl r) hr
    obtain ⟨s', n1, n2, n3⟩ := c_copyWithout (σ := s) (r := r) (p := p) (w := 29 + r) (n := S.cn r) (f := S.co r) (by omega) (hS.2.2.2.2.1 r hr) (fun i hi => by have := hS.2.2.2.2.2.1 r i hr hi; omega) (by omega) c1 c2 (by omega)
    refine ⟨sto s' 15 r ((pf (S.co r) (S.cn r) (fun x => x != p)).length : Int), ⟨fun k h1 h2 h3 h4 => ?_, fun r' hr' => ?_, fun r' i hr' hi => ?_, fun r' hr1 hr2 => ⟨?_, fun i hi => ?_⟩, ?_⟩, ?_⟩
    · rw [sto_c h1, n3 k (by omega)]; exact q1 k h1 h2 h3 h4
    · rw [sto_at]
      by_cases e : r' = r
      · subst e; rw [if_pos ⟨rfl, rfl⟩]; rfl
      · rw [if_neg (by omega), n3 15 (by omega)]; exact q2 r' (by omega)
    · rw [sto_k (by omega)]
      by_cases e : r' = r
      · subst e; exact n2 i hi
      · rw [n3 _ (by omega)]; exact q3 r' i (by omega) hi
    · rw [sto_i (by omega), n3 15 (by omega)]; exact (q4 r' (by omega) hr2).1
    · rw [sto_k (by omega), n3 _ (by omega)]; exact (q4 r' (by omega) hr2).2 i hi
    · rw [sto_c (by omega), n3 16 (by omega)]; exact q5
    · simp (disch := omega) only [fX3_dropPoint_9, hN, n1, if_pos, Int.reduceAdd, Int.reduceSub, Int.reduceMul, Int.zero_add, Int.add_zero, Nat.zero_add, na_0, ca_la, ca_al, ca_lm, ca_add, ca_mod, ca_lit, tn_c, Int.natCast_zero, bd_some, bd2_some, bindv_e, chk_ok, cr_ok, crl_ok, chd_ok, chb_0, chb_1, cr_bI, chb_bI, ite_bI0, if_true, if_false]) (fun c s hI => by
    obtain ⟨-, hN, -⟩ := CL95 (frS_CL hI.1 h)
    simp (disch := omega) only [fX3_dropPoint_9, fX3_dropPoint_44, hN, if_neg, Int.reduceAdd, Int.reduceSub, Int.reduceMul, Int.zero_add, Int.add_zero, Nat.zero_add, na_0, ca_la, ca_al, ca_lm, ca_add, ca_mod, ca_lit, tn_c, Int.natCast_zero, bd_some, bd2_some, bindv_e, chk_ok, cr_ok, crl_ok, chd_ok, chb_0, chb_1, cr_bI, chb_bI, ite_bI0, if_true, if_false])
  refine ⟨σ1, ?_, ⟨i2, i3⟩, fun x hx => ?_, i1⟩
  · simp (disch := omega) only [fX3_dropPoint, lX3_dropPoint_9, Int.reduceAdd, Int.reduceSub, Int.reduceMul, Int.zero_add, Int.add_zero, Nat.zero_add, na_0, ca_la, ca_al, ca_lm, ca_add, ca_mod, ca_lit, tn_c, Int.natCast_zero, bd_some, bd2_some, bindv_e, chk_ok, cr_ok, crl_ok, chd_ok, chb_0, chb_1, cr_bI, chb_bI, ite_bI0, if_true, if_false]
    rw [e1]
  · rw [i5, sto_at]
    by_cases e : x = p
    · rw [if_pos ⟨rfl, e⟩, bI_f (by simp [e])]
    · rw [if_neg (by omega), hT x hx]
      apply bI_c
      simp [e]
def has (S : Ld) (r p : Nat) : Prop := ∃ i, i < S.cn r ∧ S.co r i = p
theorem c_indexIn {σ : Mm} {L S : Ld} {r p : Nat} (hw : WF L) (hS : SW L S) (hC : SC σ L S) (hr : r < L.nr) (hp : p < 24) : (∃ i, i < S.cn r ∧ S.co r i = p ∧ fX3_indexIn r p σ = some (i : Int)) ∨ (¬ has S r p ∧ fX3_indexIn r p σ = some (-1)) := by
  have hnp := hw.1
  have hnr := hw.2.1
  have h10 := hS.2.2.2.2.1 r hr
  have c1 := hC.1 r hr
  have key := it_first (f := fun c => fX3_indexIn_2 r p σ (fX3_indexIn_32 σ) c) (S.cn r) (fun i => S.co r i = p) (fun i => some (i : Int)) (some (-1)) (fun c i hi => by
    have c2 := hC.2 r i hr hi
    have c3 := hS.2.2.2.2.2.1 r i hr hi
    simp (disch := omega) only [fX3_indexIn_2, c1, c2, if_pos, Int.reduceAdd, Int.reduceSub, Int.reduceMul, Int.zero_add, Int.add_zero, Nat.zero_add, na_0, ca_la, ca_al, ca_lm, ca_add, ca_mod, ca_lit, tn_c, Int.natCast_zero, bd_some, bd2_some, bindv_e, chk_ok, cr_ok, crl_ok, chd_ok, chb_0, chb_1, cr_bI, chb_bI, ite_bI0, if_true, if_false]
    by_cases e : S.co r i = p
    · rw [if_pos (by omega), pI_t e]
    · rw [if_neg (by omega), pI_f e]) (fun c => by
    simp (disch := omega) only [fX3_indexIn_2, fX3_indexIn_32, c1, if_neg, Int.reduceAdd, Int.reduceSub, Int.reduceMul, Int.zero_add, Int.add_zero, Nat.zero_add, na_0, ca_la, ca_al, ca_lm, ca_add, ca_mod, ca_lit, tn_c, Int.natCast_zero, bd_some, bd2_some, bindv_e, chk_ok, cr_ok, crl_ok, chd_ok, chb_0, chb_1, cr_bI, chb_bI, ite_bI0, if_true, if_false]) 400 0 (Nat.zero_le _) (by omega)
  rw [show ((0 : Nat) : Int) = 0 from rfl] at key
  have hf : fX3_indexIn r p σ = itN (fun _ => none) (fun c => fX3_indexIn_2 r p σ (fX3_indexIn_32 σ) c) 400 0 := by
    simp only [fX3_indexIn, lX3_indexIn_2, bindv_e]
  rw [hf]
  rcases key with ⟨j, -, h2, h3, -, h5⟩ | ⟨h1, h2⟩
  · exact Or.inl ⟨j, h2, h3, h5⟩
  · exact Or.inr ⟨fun ⟨i, a, b⟩ => h1 i (Nat.zero_le i) a b, h2⟩
theorem c_ringWith {σ : Mm} {L S : Ld} {p : Nat} (hw : WF L) (h : CL σ 95 L) (hS : SW L S) (hC : SC σ L S) (hp : p < 24) : (∃ r, r < L.nr ∧ has S r p ∧ (∀ z, z < r → ¬ has S z p) ∧ fX3_ringWith p σ = some (r : Int)) ∨ ((∀ r, r < L.nr → ¬ has S r p) ∧ fX3_ringWith p σ = some (-1)) := by
  have hnr := hw.2.1
  obtain ⟨-, hN, -⟩ := CL95 h
  have key := it_first (f := fun c => fX3_ringWith_2 p σ (fX3_ringWith_30 σ) c) L.nr (fun r => has S r p) (fun r => some (r : Int)) (some (-1)) (fun c r hr => by
    have h10 := hS.2.2.2.2.1 r hr
    rcases c_indexIn hw hS hC hr hp with ⟨i, a1, a2, a3⟩ | ⟨a1, a2⟩
    · simp (disch := omega) only [fX3_ringWith_2, hN, a3, if_pos, if_neg, Int.reduceAdd, Int.reduceSub, Int.reduceMul, Int.zero_add, Int.add_zero, Nat.zero_add, na_0, ca_la, ca_al, ca_lm, ca_add, ca_mod, ca_lit, tn_c, Int.natCast_zero, bd_some, bd2_some, bindv_e, chk_ok, cr_ok, crl_ok, chd_ok, chb_0, chb_1, cr_bI, chb_bI, ite_bI0, if_true, if_false]
      rw [pI_t ⟨i, a1, a2⟩]
    · simp (disch := omega) only [fX3_ringWith_2, hN, a2, if_pos, Int.reduceAdd, Int.reduceSub, Int.reduceMul, Int.zero_add, Int.add_zero, Nat.zero_add, na_0, ca_la, ca_al, ca_lm, ca_add, ca_mod, ca_lit, tn_c, Int.natCast_zero, bd_some, bd2_some, bindv_e, chk_ok, cr_ok, crl_ok, chd_ok, chb_0, chb_1, cr_bI, chb_bI, ite_bI0, if_true, if_false]
      rw [pI_f a1]) (fun c => by
    simp (disch := omega) only [fX3_ringWith_2, fX3_ringWith_30, hN, if_neg, Int.reduceAdd, Int.reduceSub, Int.reduceMul, Int.zero_add, Int.add_zero, Nat.zero_add, na_0, ca_la, ca_al, ca_lm, ca_add, ca_mod, ca_lit, tn_c, Int.natCast_zero, bd_some, bd2_some, bindv_e, chk_ok, cr_ok, crl_ok, chd_ok, chb_0, chb_1, cr_bI, chb_bI, ite_bI0, if_true, if_false]) 400 0 (Nat.zero_le _) (by omega)
  rw [show ((0 : Nat) : Int) = 0 from rfl] at key
  have hf : fX3_ringWith p σ = itN (fun _ => none) (fun c => fX3_ringWith_2 p σ (fX3_ringWith_30 σ) c) 400 0 := by
    simp only [fX3_ringWith, lX3_ringWith_2, bindv_e]
  rw [hf]
  rcases key with ⟨j, -, h2, h3, h4, h5⟩ | ⟨h1, h2⟩
  · exact Or.inl ⟨j, h2, h3, fun z hz => h4 z (Nat.zero_le z) hz, h5⟩
  · exact Or.inr ⟨fun r hr => h1 r (Nat.zero_le r) hr, h2⟩
/-- neighbours: by the first ring that has the point -/
def NB (S : Ld) (nr p a b : Nat) : Prop := ∃ r i, r < nr ∧ i < S.cn r ∧ S.co r i = p ∧ (∀ z, z < r → ¬ has S z p) ∧ a = S.co r ((i + S.cn r - 1) % S.cn r) ∧ b = S.co r ((i + 1) % S.cn r)
theorem NB_u {L S : Ld} (hS : SW L S) {p a b a' b' : Nat} (h : NB S L.nr p a b) (g : NB S L.nr p a' b') : a = a' ∧ b = b' := by
  obtain ⟨r, i, h1, h2, h3, h4, h5, h6⟩ := h
  obtain ⟨r', i', g1, g2, g3, g4, g5, g6⟩ := g
  have hr : r = r' := by
    rcases Nat.lt_trichotomy r r' with q | q | q
    · exact absurd ⟨i, h2, h3⟩ (g4 r q)
    · exact q
    · exact absurd ⟨i', g2, g3⟩ (h4 r' q)
  subst hr
  have hi := hS.2.2.2.2.2.2 r h1 i i' h2 g2 (h3.trans g3.symm)
  subst hi
  exact ⟨h5.trans g5.symm, h6.trans g6.symm⟩
theorem NB_lt {L S : Ld} (hS : SW L S) {p a b : Nat} (h : NB S L.nr p a b) : a < L.np ∧ b < L.np := by
  obtain ⟨r, i, h1, h2, h3, h4, h5, h6⟩ := h
  rw [h5, h6]
  exact ⟨hS.2.2.2.2.2.1 r _ h1 (Nat.mod_lt _ (by omega)), hS.2.2.2.2.2.1 r _ h1 (Nat.mod_lt _ (by omega))⟩
theorem NB_ex {S : Ld} {nr p : Nat} (h : ∃ r, r < nr ∧ has S r p) : ∃ a b, NB S nr p a b := by
  obtain ⟨r, ⟨h1, i, h2, h3⟩, h4⟩ := pk_least (fun r => r < nr ∧ has S r p) h
  exact ⟨_, _, r, i, h1, h2, h3, fun z hz q => h4 z hz ⟨by omega, q⟩, rfl, rfl⟩
theorem c_aheadbehind {σ : Mm} {L S : Ld} {p : Nat} (hw : WF L) (h : CL σ 95 L) (hS : SW L S) (hC : SC σ L S) (hp : p < 24) : (∃ a b, NB S L.nr p a b ∧ fX3_ahead p σ = some (a : Int) ∧ fX3_behind p σ = some (b : Int)) ∨ ((∀ r, r < L.nr → ¬ has S r p) ∧ fX3_ahead p σ = some (-1) ∧ fX3_behind p σ = some (-1)) := by
  have hnr := hw.2.1
  rcases c_ringWith hw h hS hC hp with ⟨r, h1, h2, h3, h4⟩ | ⟨h1, h2⟩
  · rcases c_indexIn hw hS hC h1 hp with ⟨i, a1, a2, a3⟩ | ⟨a1, a2⟩
    · have h10 := hS.2.2.2.2.1 r h1
      have c1 := hC.1 r h1
      have e1 := c_preceding σ (i := i) (n := S.cn r) a1 (by omega)
      have e2 := c_following σ (i := i) (n := S.cn r) a1 (by omega)
      have m1 : (i + S.cn r - 1) % S.cn r < S.cn r := Nat.mod_lt _ (by omega)
      have m2 : (i + 1) % S.cn r < S.cn r := Nat.mod_lt _ (by omega)
      have d1 := hC.2 r _ h1 m1
      have d2 := hC.2 r _ h1 m2
      refine Or.inl ⟨_, _, ⟨r, i, h1, a1, a2, h3, rfl, rfl⟩, ?_, ?_⟩
      · simp (disch := omega) only [fX3_ahead, fX3_ahead_36, h4, a3, c1, e1, d1, if_neg, Int.reduceAdd, Int.reduceSub, Int.reduceMul, Int.zero_add, Int.add_zero, Nat.zero_add, na_0, ca_la, ca_al, ca_lm, ca_add, ca_mod, ca_lit, tn_c, Int.natCast_zero, bd_some, bd2_some, bindv_e, chk_ok, cr_ok, crl_ok, chd_ok, chb_0, chb_1, cr_bI, chb_bI, ite_bI0, if_true, if_false]
      · simp (disch := omega) only [fX3_behind, fX3_behind_36, h4, a3, c1, e2, d2, if_neg, Int.reduceAdd, Int.reduceSub, Int.reduceMul, Int.zero_add, Int.add_zero, Nat.zero_add, na_0, ca_la, ca_al, ca_lm, ca_add, ca_mod, ca_lit, tn_c, Int.natCast_zero, bd_some, bd2_some, bindv_e, chk_ok, cr_ok, crl_ok, chd_ok, chb_0, chb_1, cr_bI, chb_bI, ite_bI0, if_true, if_false]
    · exact absurd h2 a1
  · refine Or.inr ⟨h1, ?_, ?_⟩
    · simp (disch := omega) only [fX3_ahead, fX3_ahead_36, h2, if_pos, Int.reduceAdd, Int.reduceSub, Int.reduceMul, Int.zero_add, Int.add_zero, Nat.zero_add, na_0, ca_la, ca_al, ca_lm, ca_add, ca_mod, ca_lit, tn_c, Int.natCast_zero, bd_some, bd2_some, bindv_e, chk_ok, cr_ok, crl_ok, chd_ok, chb_0, chb_1, cr_bI, chb_bI, ite_bI0, if_true, if_false]
    · simp (disch := omega) only [fX3_behind, fX3_behind_36, h2, if_pos, Int.reduceAdd, Int.reduceSub, Int.reduceMul, Int.zero_add, Int.add_zero, Nat.zero_add, na_0, ca_la, ca_al, ca_lm, ca_add, ca_mod, ca_lit, tn_c, Int.natCast_zero, bd_some, bd2_some, bindv_e, chk_ok, cr_ok, crl_ok, chd_ok, chb_0, chb_1, cr_bI, chb_bI, ite_bI0, if_true, if_false]
