/-! the class: why a point may not go -/
theorem it_exs {α β : Type} {f : (Int → α → Option β) → Int → α → Option β} (N : Nat) (P : Nat → Prop) (I : α → Prop) (v w : α → Option β) (hs : ∀ (c : Int → α → Option β) (i : Nat) (a : α), i < N → I a → ∃ a', I a' ∧ f c (i : Int) a = pI (P i) (v a') (c ((i + 1 : Nat) : Int) a')) (hx : ∀ (c : Int → α → Option β) (a : α), I a → f c (N : Int) a = w a) : ∀ (fu i : Nat) (a : α), i ≤ N → N - i < fu → I a → ∃ a', I a' ∧ itN (fun _ _ => none) f fu (i : Int) a = pI (∃ j, i ≤ j ∧ j < N ∧ P j) (v a') (w a')
  | 0, i, _, _, h, _ => by omega
  | fu + 1, i, a, h1, h2, hi => by
    rw [itN_s]
    by_cases he : i = N
    · subst he
      exact ⟨a, hi, by rw [hx _ a hi, pI_f (fun ⟨j, p, q, _⟩ => by omega)]⟩
    · obtain ⟨a', h3, h4⟩ := hs (itN (fun _ _ => none) f fu) i a (by omega) hi
      by_cases hp : P i
      · exact ⟨a', h3, by rw [h4, pI_t hp, pI_t ⟨i, Nat.le_refl i, by omega, hp⟩]⟩
      · obtain ⟨b, h5, h6⟩ := it_exs N P I v w hs hx fu (i + 1) a' (by omega) (by omega) h3
        refine ⟨b, h5, ?_⟩
        rw [h4, pI_f hp, h6]
        apply pI_c
        constructor
        · rintro ⟨j, p, q, r⟩; exact ⟨j, by omega, q, r⟩
        · rintro ⟨j, p, q, r⟩
          refine ⟨j, ?_, q, r⟩
          rcases Nat.lt_or_ge i j with z | z
          · exact z
          · exact absurd ((show j = i by omega) ▸ r) hp
theorem it_exs0 {α β : Type} {f : (Int → α → Option β) → Int → α → Option β} (N : Nat) (P : Nat → Prop) (I : α → Prop) (v w : α → Option β) (a : α) (hN : N < 400) (h0 : I a) (hs : ∀ (c : Int → α → Option β) (i : Nat) (a : α), i < N → I a → ∃ a', I a' ∧ f c (i : Int) a = pI (P i) (v a') (c ((i + 1 : Nat) : Int) a')) (hx : ∀ (c : Int → α → Option β) (a : α), I a → f c (N : Int) a = w a) : ∃ a', I a' ∧ itN (fun _ _ => none) f 400 0 a = pI (∃ j, j < N ∧ P j) (v a') (w a') := by
  obtain ⟨a', h1, h2⟩ := it_exs N P I v w hs hx 400 0 a (Nat.zero_le _) (by omega) h0
  rw [show ((0 : Nat) : Int) = 0 from rfl] at h2
  refine ⟨a', h1, ?_⟩
  rw [h2]
  apply pI_c
  constructor
  · rintro ⟨j, _, b, d⟩; exact ⟨j, b, d⟩
  · rintro ⟨j, b, d⟩; exact ⟨j, Nat.zero_le j, b, d⟩
theorem c_areNext {σ : Mm} {w n p q : Nat} {f : Nat → Nat} (hn : n ≤ 10) (hf : ∀ i, i < n → f i < 24) (hr : ∀ i, i < n → σ w i = (f i : Int)) (hp : p < 1000) (hq : q < 1000) : fX7_areNext w n p q σ = some (bI (∃ i, i < n ∧ ((f i = p ∧ f ((i + 1) % n) = q) ∨ (f i = q ∧ f ((i + 1) % n) = p)))) := by
  have key := it_ex0 (f := fun c => fX7_areNext_3 w n p q σ (fX7_areNext_55 w σ) c) n (fun i => (f i = p ∧ f ((i + 1) % n) = q) ∨ (f i = q ∧ f ((i + 1) % n) = p)) (some 1) (some 0) (by omega) (fun c i hi => by
    have hm : (i + 1) % n < n := Nat.mod_lt _ (by omega)
    have c1 := hf i hi
    have c2 := hf _ hm
    have e1 := c_following σ hi (by omega)
    simp (disch := omega) only [fX7_areNext_3, fX7_areNext_33, fX7_areNext_47, fX7_areNext_49, hr, e1, if_pos, Int.reduceAdd, Int.reduceSub, Int.reduceMul, Int.zero_add, Int.add_zero, Nat.zero_add, na_0, ca_la, ca_al, ca_lm, ca_add, ca_mod, ca_lit, tn_c, Int.natCast_zero, bd_some, bd2_some, bindv_e, chk_ok, cr_ok, crl_ok, chd_ok, chb_0, chb_1, cr_bI, chb_bI, ite_bI0, if_true, if_false]
    repeat' split
    all_goals first | (rw [pI_t (by omega)]; done) | rw [pI_f (by omega)]) (fun c => by
    simp (disch := omega) only [fX7_areNext_3, fX7_areNext_55, if_neg, Int.reduceAdd, Int.reduceSub, Int.reduceMul, Int.zero_add, Int.add_zero, Nat.zero_add, na_0, ca_la, ca_al, ca_lm, ca_add, ca_mod, ca_lit, tn_c, Int.natCast_zero, bd_some, bd2_some, bindv_e, chk_ok, cr_ok, crl_ok, chd_ok, chb_0, chb_1, cr_bI, chb_bI, ite_bI0, if_true, if_false])
  simp only [fX7_areNext, lX7_areNext_3, bindv_e]
  rw [key, pI_some]
noncomputable def uq (S : Ld) (nr p q : Nat) : Int := sm (fun r => bI (∃ i, i < S.cn r ∧ isE S r i p q)) nr
theorem uq_b (S : Ld) {nr p q : Nat} : 0 ≤ uq S nr p q ∧ uq S nr p q ≤ nr := by
  have h := sm_b (t := fun r => bI (∃ i, i < S.cn r ∧ isE S r i p q)) (a := 0) (b := 1) (n := nr) (fun j _ => bI_b _)
  unfold uq
  omega
theorem sm_ex {P : Nat → Prop} : ∀ {n : Nat}, (∀ i j, i < n → j < n → P i → P j → i = j) → sm (fun i => bI (P i)) n = bI (∃ i, i < n ∧ P i)
  | 0, _ => by
    rw [bI_f (fun ⟨i, h, _⟩ => by omega)]
    rfl
  | n + 1, h => by
    rw [sm_s]
    by_cases hp : P n
    · rw [bI_t hp, bI_t ⟨n, by omega, hp⟩, sm_0 (fun j hj => bI_f (fun q => by have := h j n (by omega) (by omega) q hp; omega))]
      rfl
    · rw [bI_f hp, sm_ex (n := n) (fun i j hi hj => h i j (by omega) (by omega)), Int.add_zero]
      apply bI_c
      constructor
      · rintro ⟨i, a, b⟩; exact ⟨i, by omega, b⟩
      · rintro ⟨i, a, b⟩
        refine ⟨i, ?_, b⟩
        rcases Nat.lt_or_ge i n with z | z
        · exact z
        · exact absurd ((show i = n by omega) ▸ b) hp
theorem nx_ne {n i j : Nat} (hn : 3 ≤ n) (hi : i < n) (hj : j < n) (h1 : (i + 1) % n = j) (h2 : (j + 1) % n = i) : False := by
  by_cases a : i + 1 < n
  · rw [Nat.mod_eq_of_lt a] at h1
    by_cases b : j + 1 < n
    · rw [Nat.mod_eq_of_lt b] at h2; omega
    · rw [show j + 1 = n by omega, Nat.mod_self] at h2; omega
  · rw [show i + 1 = n by omega, Nat.mod_self] at h1
    by_cases b : j + 1 < n
    · rw [Nat.mod_eq_of_lt b] at h2; omega
    · rw [show j + 1 = n by omega, Nat.mod_self] at h2; omega
theorem isE_u {S : Ld} (hw : WF S) {r i j p q : Nat} (hr : r < S.nr) (hi : i < S.cn r) (hj : j < S.cn r) (h : isE S r i p q) (g : isE S r j p q) : i = j := by
  have h3 := hw.2.2.1 r hr
  have inj := hw.2.2.2.2.1 r
  have mi : (i + 1) % S.cn r < S.cn r := Nat.mod_lt _ (by omega)
  have mj : (j + 1) % S.cn r < S.cn r := Nat.mod_lt _ (by omega)
  rcases h with ⟨h1, h2⟩ | ⟨h1, h2⟩ <;> rcases g with ⟨g1, g2⟩ | ⟨g1, g2⟩
  · exact inj i j hr hi hj (h1.trans g1.symm)
  · exact absurd (inj _ j hr mi hj (h2.trans g1.symm)) (fun e => nx_ne h3.1 hi hj e (inj _ i hr mj hi (g2.trans h1.symm)))
  · exact absurd (inj _ j hr mi hj (h2.trans g1.symm)) (fun e => nx_ne h3.1 hi hj e (inj _ i hr mj hi (g2.trans h1.symm)))
  · exact inj i j hr hi hj (h1.trans g1.symm)
theorem uq_us {S : Ld} (hw : WF S) (p q : Nat) : uq S S.nr p q = us S p q := by
  unfold uq us
  refine sm_c fun r hr => ?_
  rw [sm_ex (fun i j hi hj h g => isE_u hw hr hi hj h g)]
theorem c_usesOf {σ : Mm} {L S : Ld} {p q : Nat} (hw : WF L) (h : CL σ 95 L) (hS : SW L S) (hC : SC σ L S) (hp : p < 24) (hq : q < 24) : fX3_usesOf p q σ = some (uq S L.nr p q) := by
  have hnp := hw.1
  have hnr := hw.2.1
  obtain ⟨-, hN, -⟩ := CL95 h
  have key := it_sum0 (f := fun c => fX3_usesOf_5 p q σ (fun v => fX3_usesOf_48 v σ) c) L.nr (fun r => bI (∃ i, i < S.cn r ∧ isE S r i p q)) (fun v => some v) 0 (by omega) (fun c a r hr => by
    have h10 := hS.2.2.2.2.1 r hr
    have c1 := hC.1 r hr
    have e1 := c_areNext (σ := σ) (w := 29 + r) (n := S.cn r) (p := p) (q := q) (f := S.co r) h10 (fun i hi => by have := hS.2.2.2.2.2.1 r i hr hi; omega) (fun i hi => hC.2 r i hr hi) (by omega) (by omega)
    have e2 : (∃ i, i < S.cn r ∧ ((S.co r i = p ∧ S.co r ((i + 1) % S.cn r) = q) ∨ (S.co r i = q ∧ S.co r ((i + 1) % S.cn r) = p))) ↔ ∃ i, i < S.cn r ∧ isE S r i p q := Iff.rfl
    rw [bI_c e2] at e1
    simp (disch := omega) only [fX3_usesOf_5, fX3_usesOf_42, hN, c1, e1, if_pos, Int.reduceAdd, Int.reduceSub, Int.reduceMul, Int.zero_add, Int.add_zero, Nat.zero_add, na_0, ca_la, ca_al, ca_lm, ca_add, ca_mod, ca_lit, tn_c, Int.natCast_zero, bd_some, bd2_some, bindv_e, chk_ok, cr_ok, crl_ok, chd_ok, chb_0, chb_1, cr_bI, chb_bI, ite_bI0, if_true, if_false]
    by_cases w : ∃ i, i < S.cn r ∧ isE S r i p q
    · rw [pI_t w, bI_t w]
    · rw [pI_f w, bI_f w, Int.add_zero]) (fun c a => by
    simp (disch := omega) only [fX3_usesOf_5, fX3_usesOf_48, hN, if_neg, Int.reduceAdd, Int.reduceSub, Int.reduceMul, Int.zero_add, Int.add_zero, Nat.zero_add, na_0, ca_la, ca_al, ca_lm, ca_add, ca_mod, ca_lit, tn_c, Int.natCast_zero, bd_some, bd2_some, bindv_e, chk_ok, cr_ok, crl_ok, chd_ok, chb_0, chb_1, cr_bI, chb_bI, ite_bI0, if_true, if_false])
  rw [Int.zero_add] at key
  simp only [fX3_usesOf, lX3_usesOf_5, bindv_e]
  exact key
def LST (S : Ld) (nr p : Nat) : Prop := ∃ r, r < nr ∧ has S r p ∧ S.cn r ≤ 3
theorem c_isInLeastRing {σ : Mm} {L S : Ld} {p : Nat} (hw : WF L) (h : CL σ 95 L) (hS : SW L S) (hC : SC σ L S) (hp : p < 24) : fX3_isInLeastRing p σ = some (bI (LST S L.nr p)) := by
  have hnr := hw.2.1
  obtain ⟨-, hN, -⟩ := CL95 h
  have key := it_ex0 (f := fun c => fX3_isInLeastRing_2 p σ (fX3_isInLeastRing_40 σ) c) L.nr (fun r => has S r p ∧ S.cn r ≤ 3) (some 1) (some 0) (by omega) (fun c r hr => by
    have h10 := hS.2.2.2.2.1 r hr
    have c1 := hC.1 r hr
    by_cases w : 3 < S.cn r
    · simp (disch := omega) only [fX3_isInLeastRing_2, fX3_isInLeastRing_34, hN, c1, if_pos, Int.reduceAdd, Int.reduceSub, Int.reduceMul, Int.zero_add, Int.add_zero, Nat.zero_add, na_0, ca_la, ca_al, ca_lm, ca_add, ca_mod, ca_lit, tn_c, Int.natCast_zero, bd_some, bd2_some, bindv_e, chk_ok, cr_ok, crl_ok, chd_ok, chb_0, chb_1, cr_bI, chb_bI, ite_bI0, if_true, if_false]
      rw [pI_f (fun z => by have := z.2; omega)]
    · rcases c_indexIn hw hS hC hr hp with ⟨i, a1, a2, a3⟩ | ⟨a1, a2⟩
      · simp (disch := omega) only [fX3_isInLeastRing_2, fX3_isInLeastRing_34, hN, c1, a3, if_pos, if_neg, Int.reduceAdd, Int.reduceSub, Int.reduceMul, Int.zero_add, Int.add_zero, Nat.zero_add, na_0, ca_la, ca_al, ca_lm, ca_add, ca_mod, ca_lit, tn_c, Int.natCast_zero, bd_some, bd2_some, bindv_e, chk_ok, cr_ok, crl_ok, chd_ok, chb_0, chb_1, cr_bI, chb_bI, ite_bI0, if_true, if_false]
        rw [pI_t ⟨⟨i, a1, a2⟩, by omega⟩]
      · simp (disch := omega) only [fX3_isInLeastRing_2, fX3_isInLeastRing_34, hN, c1, a2, if_pos, if_neg, Int.reduceAdd, Int.reduceSub, Int.reduceMul, Int.zero_add, Int.add_zero, Nat.zero_add, na_0, ca_la, ca_al, ca_lm, ca_add, ca_mod, ca_lit, tn_c, Int.natCast_zero, bd_some, bd2_some, bindv_e, chk_ok, cr_ok, crl_ok, chd_ok, chb_0, chb_1, cr_bI, chb_bI, ite_bI0, if_true, if_false]
        rw [pI_f (fun z => a1 z.1)]) (fun c => by
    simp (disch := omega) only [fX3_isInLeastRing_2, fX3_isInLeastRing_40, hN, if_neg, Int.reduceAdd, Int.reduceSub, Int.reduceMul, Int.zero_add, Int.add_zero, Nat.zero_add, na_0, ca_la, ca_al, ca_lm, ca_add, ca_mod, ca_lit, tn_c, Int.natCast_zero, bd_some, bd2_some, bindv_e, chk_ok, cr_ok, crl_ok, chd_ok, chb_0, chb_1, cr_bI, chb_bI, ite_bI0, if_true, if_false])
  simp only [fX3_isInLeastRing, lX3_isInLeastRing_2, bindv_e]
  rw [key, pI_some]
  rfl
def SLI (L : Ld) (al : Nat → Bool) (a p b : Nat) : Prop := ∃ q, q < L.np ∧ al q = true ∧ q ≠ a ∧ q ≠ p ∧ q ≠ b ∧ INT L a p b q
theorem c_someoneLiesIn {σ : Mm} {L : Ld} {al : Nat → Bool} {a p b : Nat} (hw : WF L) (h : CL σ 95 L) (hT : TH σ L al) (ha : a < L.np) (hp : p < L.np) (hb : b < L.np) : fX3_someoneLiesIn a p b σ = some (bI (SLI L al a p b)) := by
  have hnp := hw.1
  obtain ⟨hP, -, hX, hY, -⟩ := CL95 h
  have key := it_ex0 (f := fun c => fX3_someoneLiesIn_3 a p b σ (fX3_someoneLiesIn_84 σ) c) L.np (fun q => al q = true ∧ q ≠ a ∧ q ≠ p ∧ q ≠ b ∧ INT L a p b q) (some 1) (some 0) (by omega) (fun c q hq => by
    have e1 := c_isInTriangle hw h ha hp hb hq
    have t1 := hT q hq
    simp (disch := omega) only [fX3_someoneLiesIn_3, fX3_someoneLiesIn_78, hP, hX, hY, t1, e1, if_pos, Int.reduceAdd, Int.reduceSub, Int.reduceMul, Int.zero_add, Int.add_zero, Nat.zero_add, na_0, ca_la, ca_al, ca_lm, ca_add, ca_mod, ca_lit, tn_c, Int.natCast_zero, bd_some, bd2_some, bindv_e, chk_ok, cr_ok, crl_ok, chd_ok, chb_0, chb_1, cr_bI, chb_bI, ite_bI0, if_true, if_false]
    by_cases w0 : al q = true
    · rw [pI_t w0]
      by_cases w1 : q = a
      · rw [if_pos (by omega), pI_f (fun z => z.2.1 w1)]
      rw [if_neg (by omega)]
      by_cases w2 : q = p
      · rw [if_pos (by omega), pI_f (fun z => z.2.2.1 w2)]
      rw [if_neg (by omega)]
      by_cases w3 : q = b
      · rw [if_pos (by omega), pI_f (fun z => z.2.2.2.1 w3)]
      rw [if_neg (by omega)]
      exact pI_c ⟨fun z => ⟨w0, w1, w2, w3, z⟩, fun z => z.2.2.2.2⟩
    · rw [pI_f w0, pI_f (fun z => w0 z.1)]) (fun c => by
    simp (disch := omega) only [fX3_someoneLiesIn_3, fX3_someoneLiesIn_84, hP, if_neg, Int.reduceAdd, Int.reduceSub, Int.reduceMul, Int.zero_add, Int.add_zero, Nat.zero_add, na_0, ca_la, ca_al, ca_lm, ca_add, ca_mod, ca_lit, tn_c, Int.natCast_zero, bd_some, bd2_some, bindv_e, chk_ok, cr_ok, crl_ok, chd_ok, chb_0, chb_1, cr_bI, chb_bI, ite_bI0, if_true, if_false])
  simp only [fX3_someoneLiesIn, lX3_someoneLiesIn_3, bindv_e]
  rw [key, pI_some]
  rfl
theorem shr31 {v : Int} (h : -1000000000 ≤ v ∧ v ≤ 1000000000) : shrI v 31 = if v < 0 then -1 else 0 := by
  unfold shrI
  rw [pk_shr (i32 v) (i32 31 &&& 31) 31 (by decide), i32_toInt (by omega), Int.shiftRight_eq_div_pow]
  split <;> omega
theorem i32_nat {v : Int} (h : inR v) : ((i32 v).toBitVec.toNat : Int) = if v < 0 then v + 4294967296 else v := by
  have e : (i32 v).toBitVec.toInt = v := i32_toInt h
  rw [BitVec.toInt_eq_toNat_cond] at e
  have hl := (i32 v).toBitVec.isLt
  split at e <;> split <;> omega
theorem ushr31 {v : Int} (h : -1000000000 ≤ v ∧ v ≤ 1000000000) : ushrI v 31 = if v < 0 then 1 else 0 := by
  unfold ushrI
  have e := pk_ushr (i32 v) (i32 31) 31 (by decide)
  have e2 := i32_nat (v := v) (by omega)
  generalize ((i32 v).toUInt32 >>> ((i32 31).toUInt32 &&& Int32.toUInt32 31)).toInt32 = z at e ⊢
  have e3 : z.toBitVec.toNat = if v < 0 then 1 else 0 := by
    rw [e]
    split <;> split at e2 <;> omega
  show z.toBitVec.toInt = _
  rw [BitVec.toInt_eq_toNat_cond, e3]
  split <;> simp
theorem signum_e {v : Int} (h : -1000000000 ≤ v ∧ v ≤ 1000000000) (σ : Mm) : fJ6_signum_0f7a4 v σ = some (sgn v) := by
  unfold fJ6_signum_0f7a4
  rw [shr31 h, ushr31 (v := -v) (by omega)]
  unfold sgn
  by_cases h1 : v < 0
  · simp only [if_pos h1, if_neg (show ¬ 0 < v by omega), if_neg (show ¬ -v < 0 by omega)]; rfl
  · by_cases h2 : 0 < v
    · simp only [if_neg h1, if_pos h2, if_pos (show -v < 0 by omega)]; rfl
    · simp only [if_neg h1, if_neg h2, if_neg (show ¬ -v < 0 by omega)]; rfl
theorem ARf_S {L S : Ld} (hS : SW L S) (f : Nat → Nat) (n : Nat) : ARf L f n = ARf S f n := by
  unfold ARf
  rw [hS.2.1, hS.2.2.1]
theorem sgn_b (v : Int) : -1 ≤ sgn v ∧ sgn v ≤ 1 := by
  unfold sgn
  repeat' split
  all_goals omega
def WTO (S : Ld) (nr p : Nat) : Prop := ∃ r, r < nr ∧ has S r p ∧ sgn (AR (dp S p) r) ≠ sgn (AR S r)
theorem pf_lt_has {S : Ld} {r p : Nat} : (dp S p).cn r < S.cn r ↔ has S r p := by
  show (pf (S.co r) (S.cn r) (fun x => x != p)).length < S.cn r ↔ _
  have key : ∀ n, ((pf (S.co r) n (fun x => x != p)).length < n ↔ ∃ i, i < n ∧ S.co r i = p) := by
    intro n
    induction n with
    | zero => simp [pf]
    | succ n ih =>
      rw [pf_s, List.length_append]
      have hl := pf_len (S.co r) (fun x => x != p) n
      by_cases e : S.co r n = p
      · rw [if_neg (by simp [e])]
        constructor
        · intro _; exact ⟨n, by omega, e⟩
        · intro _; simp; omega
      · rw [if_pos (by simp [e]), List.length_singleton]
        constructor
        · intro h
          obtain ⟨i, a, b⟩ := ih.mp (by omega)
          exact ⟨i, by omega, b⟩
        · rintro ⟨i, a, b⟩
          have : ∃ i, i < n ∧ S.co r i = p := by
            refine ⟨i, ?_, b⟩
            rcases Nat.lt_or_ge i n with z | z
            · exact z
            · exact absurd ((show i = n by omega) ▸ b) e
          have := ih.mpr this
          omega
  exact key (S.cn r)
def f17 (σ σ' : Mm) : Prop := ∀ k, k ≠ 17 → σ' k = σ k
theorem f17_frS {σ σ' : Mm} (h : f17 σ σ') : frS σ σ' := fun k _ _ h3 _ => h k h3
theorem f17_SC {σ σ' : Mm} {L S : Ld} (hf : f17 σ σ') (h : SC σ L S) (hw : WF L) : SC σ' L S := ⟨fun r hr => by rw [hf 15 (by omega)]; exact h.1 r hr, fun r i hr hi => by rw [hf _ (by omega)]; exact h.2 r i hr hi⟩
theorem f17_TH {σ σ' : Mm} {L : Ld} {al : Nat → Bool} (hf : f17 σ σ') (h : TH σ L al) : TH σ' L al := fun p hp => by rw [hf 16 (by omega)]; exact h p hp
theorem c_wouldTurnOver {σ : Mm} {L S : Ld} {p : Nat} (hw : WF L) (h : CL σ 95 L) (hS : SW L S) (hC : SC σ L S) (hp : p < L.np) : ∃ σ', fX3_wouldTurnOver p σ = some (bI (WTO S L.nr p), σ') ∧ f17 σ σ' := by
  have hnp := hw.1
  have hnr := hw.2.1
  obtain ⟨σ', h1, h2⟩ := it_exs0 (f := fun c => fX3_wouldTurnOver_2 p (fun s => fX3_wouldTurnOver_82 s) c) L.nr (fun r => has S r p ∧ sgn (AR (dp S p) r) ≠ sgn (AR S r)) (fun s => f17 σ s) (fun s => some (1, s)) (fun s => some (0, s)) σ (by omega) (fun _ _ => rfl) (fun c r s hr hI => by
    have hCL := frS_CL (f17_frS hI) h
    have hC' := f17_SC hI hC hw
    obtain ⟨-, hN, -⟩ := CL95 hCL
    have h10 := hS.2.2.2.2.1 r hr
    obtain ⟨s', n1, n2, n3⟩ := c_copyWithout (σ := s) (r := r) (p := p) (w := 17) (n := S.cn r) (f := S.co r) (by omega) h10 (fun i hi => by have := hS.2.2.2.2.2.1 r i hr hi; omega) (by omega) (hC'.1 r hr) (fun i hi => hC'.2 r i hr hi) (by omega)
    have hI' : f17 σ s' := fun k hk => (n3 k hk).trans (hI k hk)
    have hCL' := frS_CL (f17_frS hI') h
    have hC2 := f17_SC hI' hC hw
    have c1 := hC2.1 r hr
    have hD : SW L (dp S p) := dr_SW hS (fun x => x != p)
    have d10 := hD.2.2.2.2.1 r hr
    have a1 := c_areaOf (σ := s') (k := 95) (w := 17) (n := (dp S p).cn r) (f := (dp S p).co r) hw hCL' d10 (fun i hi => hD.2.2.2.2.2.1 r i hr hi) n2
    have a2 := c_areaOf (σ := s') (k := 95) (w := 29 + r) (n := S.cn r) (f := S.co r) hw hCL' h10 (fun i hi => hS.2.2.2.2.2.1 r i hr hi) (fun i hi => hC2.2 r i hr hi)
    have b1 := ARf_b hw d10 (fun i hi => hD.2.2.2.2.2.1 r i hr hi)
    have b2 := ARf_b hw h10 (fun i hi => hS.2.2.2.2.2.1 r i hr hi)
    rw [ARf_S hD] at a1 b1
    rw [ARf_S hS] at a2 b2
    have e1 : ARf (dp S p) ((dp S p).co r) ((dp S p).cn r) = AR (dp S p) r := rfl
    have e2 : ARf S (S.co r) (S.cn r) = AR S r := rfl
    rw [e1] at a1 b1
    rw [e2] at a2 b2
    have g1 := signum_e (v := AR (dp S p) r) (by omega) s'
    have g2 := signum_e (v := AR S r) (by omega) s'
    have s1 := sgn_b (AR (dp S p) r)
    have s2 := sgn_b (AR S r)
    have n1' : fX3_copyWithout 17 r p s = some (((dp S p).cn r : Int), s') := n1
    refine ⟨s', hI', ?_⟩
    by_cases w : has S r p
    · have w' := pf_lt_has.mpr w
      simp (disch := omega) only [fX3_wouldTurnOver_2, fX3_wouldTurnOver_76, hN, n1', c1, a1, a2, g1, g2, if_pos, Int.reduceAdd, Int.reduceSub, Int.reduceMul, Int.zero_add, Int.add_zero, Nat.zero_add, na_0, ca_la, ca_al, ca_lm, ca_add, ca_mod, ca_lit, tn_c, Int.natCast_zero, bd_some, bd2_some, bindv_e, chk_ok, cr_ok, crl_ok, chd_ok, chb_0, chb_1, cr_bI, chb_bI, ite_bI0, if_true, if_false]
      by_cases z : sgn (AR (dp S p) r) = sgn (AR S r)
      · rw [if_pos z, pI_f (fun q => q.2 z)]
      · rw [if_neg z, pI_t ⟨w, z⟩]
    · have w' : ¬ (dp S p).cn r < S.cn r := fun q => w (pf_lt_has.mp q)
      simp (disch := omega) only [fX3_wouldTurnOver_2, fX3_wouldTurnOver_76, hN, n1', c1, if_pos, if_neg, Int.reduceAdd, Int.reduceSub, Int.reduceMul, Int.zero_add, Int.add_zero, Nat.zero_add, na_0, ca_la, ca_al, ca_lm, ca_add, ca_mod, ca_lit, tn_c, Int.natCast_zero, bd_some, bd2_some, bindv_e, chk_ok, cr_ok, crl_ok, chd_ok, chb_0, chb_1, cr_bI, chb_bI, ite_bI0, if_true, if_false]
      rw [pI_f (fun q => w q.1)]) (fun c s hI => by
    obtain ⟨-, hN, -⟩ := CL95 (frS_CL (f17_frS hI) h)
    simp (disch := omega) only [fX3_wouldTurnOver_2, fX3_wouldTurnOver_82, hN, if_neg, Int.reduceAdd, Int.reduceSub, Int.reduceMul, Int.zero_add, Int.add_zero, Nat.zero_add, na_0, ca_la, ca_al, ca_lm, ca_add, ca_mod, ca_lit, tn_c, Int.natCast_zero, bd_some, bd2_some, bindv_e, chk_ok, cr_ok, crl_ok, chd_ok, chb_0, chb_1, cr_bI, chb_bI, ite_bI0, if_true, if_false])
  refine ⟨σ', ?_, h1⟩
  simp only [fX3_wouldTurnOver, lX3_wouldTurnOver_2, bindv_e]
  rw [h2]
  unfold WTO
  by_cases w : ∃ j, j < L.nr ∧ has S j p ∧ sgn (AR (dp S p) j) ≠ sgn (AR S j)
  · rw [pI_t w, bI_t w]
  · rw [pI_f w, bI_f w]
noncomputable def nbF (S : Ld) (nr p : Nat) : Nat × Nat := Classical.epsilon (fun ab => NB S nr p ab.1 ab.2)
theorem nbF_e {L S : Ld} (hS : SW L S) {p a b : Nat} (h : NB S L.nr p a b) : nbF S L.nr p = (a, b) := by
  have e := Classical.epsilon_spec (p := fun ab : Nat × Nat => NB S L.nr p ab.1 ab.2) ⟨(a, b), h⟩
  have u := NB_u hS e h
  exact Prod.ext u.1 u.2
/-- the spec: why, and how large -/
noncomputable def WHY (L S : Ld) (al : Nat → Bool) (p : Nat) : Int := pI (ND L p ∨ ¬ al p = true) 1 (pI (0 < uq S L.nr (nbF S L.nr p).1 (nbF S L.nr p).2) 2 (pI (LST S L.nr p) 3 (pI (SLI L al (nbF S L.nr p).1 p (nbF S L.nr p).2) 4 (pI (WTO S L.nr p) 5 0))))
noncomputable def SZ (L S : Ld) (p : Nat) : Int := abI (TR L (nbF S L.nr p).1 (nbF S L.nr p).2 p)
theorem abI_b {v : Int} (h : -79202 ≤ v ∧ v ≤ 79202) : 0 ≤ abI v ∧ abI v ≤ 79202 := by
  unfold abI
  split <;> omega
theorem c_triangleOf {σ : Mm} {L S : Ld} {p : Nat} (hw : WF L) (h : CL σ 95 L) (hS : SW L S) (hC : SC σ L S) (hp : p < L.np) : ∃ v, fX3_triangleOf p σ = some v ∧ (0 ≤ v ∧ v ≤ 79202) ∧ ((∃ r, r < L.nr ∧ has S r p) → v = SZ L S p) := by
  have hnp := hw.1
  obtain ⟨-, -, hX, hY, -⟩ := CL95 h
  rcases c_aheadbehind hw h hS hC (p := p) (by omega) with ⟨a, b, h1, h2, h3⟩ | ⟨h1, h2, h3⟩
  · have hl := NB_lt hS h1
    have e1 := c_sideOf (L.X p) (L.Y p) hw h hl.1 hl.2
    have b1 := TR_b hw hl.1 hl.2 hp
    have b2 := abI_b b1
    refine ⟨abI (TR L a b p), ?_, b2, fun _ => ?_⟩
    · unfold TR at b1 ⊢
      simp (disch := omega) only [fX3_triangleOf, fX3_triangleOf_20, fX3_triangleOf_54, h2, h3, hX, hY, e1, if_neg, Int.reduceAdd, Int.reduceSub, Int.reduceMul, Int.zero_add, Int.add_zero, Nat.zero_add, na_0, ca_la, ca_al, ca_lm, ca_add, ca_mod, ca_lit, tn_c, Int.natCast_zero, bd_some, bd2_some, bindv_e, chk_ok, cr_ok, crl_ok, chd_ok, chb_0, chb_1, cr_bI, chb_bI, ite_bI0, if_true, if_false]
    · unfold SZ
      rw [nbF_e hS h1]
  · refine ⟨0, ?_, by omega, fun ⟨r, a, b⟩ => absurd b (h1 r a)⟩
    simp (disch := omega) only [fX3_triangleOf, fX3_triangleOf_20, fX3_triangleOf_54, h2, h3, if_pos, Int.reduceAdd, Int.reduceSub, Int.reduceMul, Int.zero_add, Int.add_zero, Nat.zero_add, na_0, ca_la, ca_al, ca_lm, ca_add, ca_mod, ca_lit, tn_c, Int.natCast_zero, bd_some, bd2_some, bindv_e, chk_ok, cr_ok, crl_ok, chd_ok, chb_0, chb_1, cr_bI, chb_bI, ite_bI0, if_true, if_false]
theorem c_reasonOf {σ : Mm} {L S : Ld} {al : Nat → Bool} {p : Nat} (hw : WF L) (h : CL σ 95 L) (hE : EDG σ 95 L) (hS : SW L S) (hC : SC σ L S) (hT : TH σ L al) (hH : ¬ ND L p → al p = true → ∃ r, r < L.nr ∧ has S r p) (hp : p < L.np) : ∃ σ', fX3_reasonOf p σ = some (WHY L S al p, σ') ∧ f17 σ σ' := by
  have hnp := hw.1
  have hnr := hw.2.1
  have n1 := c_isNode (k := 95) hw h hE hp
  have t1 := hT p hp
  unfold WHY
  by_cases q1 : ND L p
  · refine ⟨σ, ?_, fun _ _ => rfl⟩
    rw [pI_t (Or.inl q1)]
    simp (disch := omega) only [fX3_reasonOf, fX3_reasonOf_20, n1, Int.reduceAdd, Int.reduceSub, Int.reduceMul, Int.zero_add, Int.add_zero, Nat.zero_add, na_0, ca_la, ca_al, ca_lm, ca_add, ca_mod, ca_lit, tn_c, Int.natCast_zero, bd_some, bd2_some, bindv_e, chk_ok, cr_ok, crl_ok, chd_ok, chb_0, chb_1, cr_bI, chb_bI, ite_bI0, if_true, if_false]
    rw [pI_t q1]
  by_cases q2 : al p = true
  · rw [pI_f (fun z => z.elim q1 (fun w => w q2))]
    obtain ⟨a, b, hN⟩ := NB_ex (hH q1 q2)
    rw [nbF_e hS hN]
    have hl := NB_lt hS hN
    have ab : fX3_ahead p σ = some (a : Int) ∧ fX3_behind p σ = some (b : Int) := by
      rcases c_aheadbehind hw h hS hC (p := p) (by omega) with ⟨a', b', h1, h2, h3⟩ | ⟨h1, -, -⟩
      · have u := NB_u hS h1 hN
        rw [h2, h3, u.1, u.2]
        exact ⟨rfl, rfl⟩
      · obtain ⟨r, x, y⟩ := hH q1 q2
        exact absurd y (h1 r x)
    obtain ⟨hA, hB⟩ := ab
    have u1 := c_usesOf (p := a) (q := b) hw h hS hC (by omega) (by omega)
    have u2 := uq_b S (nr := L.nr) (p := a) (q := b)
    have u3 := c_isInLeastRing (p := p) hw h hS hC (by omega)
    have u4 := c_someoneLiesIn hw h hT hl.1 hp hl.2
    obtain ⟨σ', u5, u6⟩ := c_wouldTurnOver hw h hS hC hp
    have base : fX3_reasonOf p σ = (if 0 < uq S L.nr a b then some (2, σ) else pI (LST S L.nr p) (some (3, σ)) (pI (SLI L al a p b) (some (4, σ)) (pI (WTO S L.nr p) (some (5, σ')) (some (0, σ'))))) := by
      simp (disch := omega) only [fX3_reasonOf, fX3_reasonOf_20, fX3_reasonOf_42, fX3_reasonOf_90, n1, t1, hA, hB, u1, u3, u4, u5, if_neg, Int.reduceAdd, Int.reduceSub, Int.reduceMul, Int.zero_add, Int.add_zero, Nat.zero_add, na_0, ca_la, ca_al, ca_lm, ca_add, ca_mod, ca_lit, tn_c, Int.natCast_zero, bd_some, bd2_some, bindv_e, chk_ok, cr_ok, crl_ok, chd_ok, chb_0, chb_1, cr_bI, chb_bI, ite_bI0, if_true, if_false]
      rw [pI_f q1, pI_t q2]
    rw [base]
    by_cases w1 : 0 < uq S L.nr a b
    · exact ⟨σ, by rw [if_pos w1, pI_t w1], fun _ _ => rfl⟩
    rw [if_neg w1, pI_f w1]
    by_cases w2 : LST S L.nr p
    · exact ⟨σ, by rw [pI_t w2, pI_t w2], fun _ _ => rfl⟩
    rw [pI_f w2, pI_f w2]
    by_cases w3 : SLI L al a p b
    · exact ⟨σ, by rw [pI_t w3, pI_t w3], fun _ _ => rfl⟩
    rw [pI_f w3, pI_f w3]
    by_cases w4 : WTO S L.nr p
    · exact ⟨σ', by rw [pI_t w4, pI_t w4], u6⟩
    · exact ⟨σ', by rw [pI_f w4, pI_f w4], u6⟩
  · refine ⟨σ, ?_, fun _ _ => rfl⟩
    rw [pI_t (Or.inr q2)]
    simp (disch := omega) only [fX3_reasonOf, fX3_reasonOf_20, n1, t1, Int.reduceAdd, Int.reduceSub, Int.reduceMul, Int.zero_add, Int.add_zero, Nat.zero_add, na_0, ca_la, ca_al, ca_lm, ca_add, ca_mod, ca_lit, tn_c, Int.natCast_zero, bd_some, bd2_some, bindv_e, chk_ok, cr_ok, crl_ok, chd_ok, chb_0, chb_1, cr_bI, chb_bI, ite_bI0, if_true, if_false]
    rw [pI_f q1, pI_f q2]
