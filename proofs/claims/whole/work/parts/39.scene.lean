/-! rings with points left out -/
def RW (f : Nat → Int) (l : List Nat) : Prop := ∀ i, i < l.length → f i = ((l.getD i 0 : Nat) : Int)
def pf (f : Nat → Nat) (n : Nat) (P : Nat → Bool) : List Nat := ((List.range n).map f).filter P
theorem pf_s (f : Nat → Nat) (n : Nat) (P : Nat → Bool) : pf f (n + 1) P = pf f n P ++ (if P (f n) then [f n] else []) := by
  unfold pf
  rw [List.range_succ, List.map_append, List.filter_append]
  congr 1
  by_cases h : P (f n) <;> simp [h]
theorem pf_len (f : Nat → Nat) (P : Nat → Bool) : ∀ n : Nat, (pf f n P).length ≤ n
  | 0 => by simp [pf]
  | n + 1 => by
    have ih := pf_len f P n
    rw [pf_s, List.length_append]
    by_cases h : P (f n) <;> simp [h] <;> omega
theorem gD_l {l m : List Nat} {i : Nat} (h : i < l.length) : (l ++ m).getD i 0 = l.getD i 0 := by
  rw [List.getD_eq_getElem?_getD, List.getD_eq_getElem?_getD, List.getElem?_append_left h]
theorem gD_r {l : List Nat} {a : Nat} : (l ++ [a]).getD l.length 0 = a := by
  rw [List.getD_eq_getElem?_getD, List.getElem?_append_right (Nat.le_refl _)]
  simp
theorem RW_push {f : Nat → Int} {l : List Nat} {a : Nat} (h : RW f l) {g : Nat → Int} (h1 : ∀ i, i < l.length → g i = f i) (h2 : g l.length = (a : Int)) : RW g (l ++ [a]) := by
  intro i hi
  rw [List.length_append, List.length_singleton] at hi
  by_cases e : i < l.length
  · rw [gD_l e, h1 i e]; exact h i e
  · rw [show i = l.length by omega, gD_r]; exact h2
theorem pf_mem {f : Nat → Nat} {n : Nat} {P : Nat → Bool} {x : Nat} : x ∈ pf f n P ↔ P x = true ∧ ∃ i, i < n ∧ f i = x := by
  unfold pf
  rw [List.mem_filter, List.mem_map]
  constructor
  · rintro ⟨⟨i, h1, h2⟩, h3⟩; exact ⟨h3, i, List.mem_range.mp h1, h2⟩
  · rintro ⟨h3, i, h1, h2⟩; exact ⟨⟨i, List.mem_range.mpr h1, h2⟩, h3⟩
theorem gD_mem {l : List Nat} {i : Nat} (h : i < l.length) : l.getD i 0 ∈ l := by
  rw [List.getD_eq_getElem?_getD, List.getElem?_eq_getElem h]
  exact List.getElem_mem h
theorem mem_gD {l : List Nat} {x : Nat} (h : x ∈ l) : ∃ i, i < l.length ∧ l.getD i 0 = x := by
  obtain ⟨i, hi, he⟩ := List.getElem_of_mem h
  exact ⟨i, hi, by rw [List.getD_eq_getElem?_getD, List.getElem?_eq_getElem hi]; exact he⟩
/-- no point twice, by places -/
def inj (f : Nat → Nat) (n : Nat) : Prop := ∀ i j, i < n → j < n → f i = f j → i = j
theorem pf_nd {f : Nat → Nat} {P : Nat → Bool} : ∀ {n : Nat}, inj f n → (pf f n P).Nodup
  | 0, _ => by simp [pf]
  | n + 1, h => by
    rw [pf_s]
    have ih := pf_nd (P := P) (n := n) (fun i j hi hj e => h i j (by omega) (by omega) e)
    by_cases hp : P (f n)
    · rw [if_pos hp]
      refine List.nodup_append.mpr ⟨ih, by simp, ?_⟩
      intro a ha b hb
      rw [List.mem_singleton] at hb
      subst hb
      intro e
      obtain ⟨-, i, hi, he⟩ := pf_mem.mp ha
      have := h i n (by omega) (by omega) (he.trans e)
      omega
    · rw [if_neg hp, List.append_nil]; exact ih
theorem nd_inj {l : List Nat} (h : l.Nodup) : inj (fun i => l.getD i 0) l.length := by
  intro i j hi hj e
  simp only [List.getD_eq_getElem?_getD, List.getElem?_eq_getElem hi, List.getElem?_eq_getElem hj, Option.getD_some] at e
  exact (List.getElem_inj h).mp e
theorem pf_self (l : List Nat) (P : Nat → Bool) : pf (fun i => l.getD i 0) l.length P = l.filter P := by
  unfold pf
  congr 1
  apply List.ext_getElem?
  intro i
  rw [List.getElem?_map]
  by_cases h : i < l.length
  · rw [List.getElem?_range h, List.getElem?_eq_getElem h]
    simp [List.getD_eq_getElem?_getD, List.getElem?_eq_getElem h]
  · rw [List.getElem?_eq_none (by rw [List.length_range]; omega), List.getElem?_eq_none (by omega)]
    rfl
/-- a land with points left out of its rings -/
def dr (L : Ld) (al : Nat → Bool) : Ld := (L.1, fun r => (pf (L.co r) (L.cn r) al).length, fun r i => (pf (L.co r) (L.cn r) al).getD i 0, L.X, L.Y, L.P)
theorem dr_dr (L : Ld) (P Q : Nat → Bool) : dr (dr L P) Q = dr L (fun x => P x && Q x) := by
  have e : ∀ r, pf ((dr L P).co r) ((dr L P).cn r) Q = pf (L.co r) (L.cn r) (fun x => P x && Q x) := by
    intro r
    show pf (fun i => (pf (L.co r) (L.cn r) P).getD i 0) (pf (L.co r) (L.cn r) P).length Q = _
    rw [pf_self]
    unfold pf
    rw [List.filter_filter]
    congr 1
    funext x
    exact Bool.and_comm _ _
  unfold dr
  show ((L.1, fun r => (pf ((dr L P).co r) ((dr L P).cn r) Q).length, fun r i => (pf ((dr L P).co r) ((dr L P).cn r) Q).getD i 0, L.X, L.Y, L.P) : Ld) = _
  simp only [e]
theorem dr_c {L : Ld} {P Q : Nat → Bool} (h : ∀ r i, r < L.nr → i < L.cn r → P (L.co r i) = Q (L.co r i)) {r : Nat} (hr : r < L.nr) : pf (L.co r) (L.cn r) P = pf (L.co r) (L.cn r) Q := by
  unfold pf
  apply List.filter_congr
  intro x hx
  obtain ⟨i, h1, h2⟩ := List.mem_map.mp hx
  rw [← h2]
  exact h r i hr (List.mem_range.mp h1)
/-- what a scene is: as a land, but rings may be small -/
def SW (L S : Ld) : Prop := S.1 = L.1 ∧ S.X = L.X ∧ S.Y = L.Y ∧ S.P = L.P ∧ (∀ r, r < L.nr → S.cn r ≤ 10) ∧ (∀ r i, r < L.nr → i < S.cn r → S.co r i < L.np) ∧ (∀ r, r < L.nr → inj (S.co r) (S.cn r))
theorem dr_SW {L S : Ld} (h : SW L S) (al : Nat → Bool) : SW L (dr S al) := by
  obtain ⟨h1, h2, h3, h4, h5, h6, h7⟩ := h
  refine ⟨h1, h2, h3, h4, fun r hr => ?_, fun r i hr hi => ?_, fun r hr => ?_⟩
  · have := pf_len (S.co r) al (S.cn r)
    have := h5 r hr
    show (pf (S.co r) (S.cn r) al).length ≤ 10
    omega
  · have hm := gD_mem (l := pf (S.co r) (S.cn r) al) hi
    obtain ⟨-, j, hj, he⟩ := pf_mem.mp hm
    show (pf (S.co r) (S.cn r) al).getD i 0 < L.np
    rw [← he]
    exact h6 r j hr hj
  · exact nd_inj (pf_nd (h7 r hr))
theorem SW_self {L : Ld} (hw : WF L) : SW L L := ⟨rfl, rfl, rfl, rfl, fun r hr => (hw.2.2.1 r hr).2, fun r i hr hi => hw.2.2.2.1 r i hr hi, fun r hr i j hi hj e => hw.2.2.2.2.1 r i j hr hi hj e⟩
theorem SW_WF {L S : Ld} (hw : WF L) (h : SW L S) (h3 : ∀ r, r < L.nr → 3 ≤ S.cn r) : WF S := by
  obtain ⟨h1, h2, h4, h5, h6, h7, h8⟩ := h
  have e1 : S.np = L.np := congrArg Prod.fst h1
  have e2 : S.nr = L.nr := congrArg Prod.snd h1
  refine ⟨by rw [e1]; exact hw.1, by rw [e2]; exact hw.2.1, fun r hr => ?_, fun r i hr hi => ?_, fun r i j hr hi hj e => ?_, fun p hp => ?_, fun p hp => ?_, fun p hp => ?_⟩
  · rw [e2] at hr; exact ⟨h3 r hr, h6 r hr⟩
  · rw [e2] at hr; rw [e1]; exact h7 r i hr hi
  · rw [e2] at hr; exact h8 r hr i j hi hj e
  · rw [h2]; rw [e1] at hp; exact hw.2.2.2.2.2.1 p hp
  · rw [h4]; rw [e1] at hp; exact hw.2.2.2.2.2.2.1 p hp
  · rw [h5]; rw [e1] at hp; exact hw.2.2.2.2.2.2.2 p hp
/-- loops with a number, a counter and a memory -/
theorem it_inv3 {α β : Type} {f : (Int → Int → α → Option β) → Int → Int → α → Option β} (N : Nat) (I : Nat → Int → α → Prop) (w : Int → α → Option β) (hs : ∀ (c : Int → Int → α → Option β) (i : Nat) (v : Int) (a : α), i < N → I i v a → ∃ v' a', I (i + 1) v' a' ∧ f c v (i : Int) a = c v' ((i + 1 : Nat) : Int) a') (hx : ∀ (c : Int → Int → α → Option β) (v : Int) (a : α), I N v a → f c v (N : Int) a = w v a) : ∀ (fu i : Nat) (v : Int) (a : α), i ≤ N → N - i < fu → I i v a → ∃ v' a', I N v' a' ∧ itN (fun _ _ _ => none) f fu v (i : Int) a = w v' a'
  | 0, i, _, _, _, h, _ => by omega
  | fu + 1, i, v, a, h1, h2, hi => by
    rw [itN_s]
    by_cases he : i = N
    · subst he
      exact ⟨v, a, hi, hx _ v a hi⟩
    · obtain ⟨v', a', h3, h4⟩ := hs (itN (fun _ _ _ => none) f fu) i v a (by omega) hi
      obtain ⟨u, b, h5, h6⟩ := it_inv3 N I w hs hx fu (i + 1) v' a' (by omega) (by omega) h3
      exact ⟨u, b, h5, by rw [h4]; exact h6⟩
theorem it_inv30 {α β : Type} {f : (Int → Int → α → Option β) → Int → Int → α → Option β} (N : Nat) (I : Nat → Int → α → Prop) (w : Int → α → Option β) (v : Int) (a : α) (hN : N < 400) (h0 : I 0 v a) (hs : ∀ (c : Int → Int → α → Option β) (i : Nat) (v : Int) (a : α), i < N → I i v a → ∃ v' a', I (i + 1) v' a' ∧ f c v (i : Int) a = c v' ((i + 1 : Nat) : Int) a') (hx : ∀ (c : Int → Int → α → Option β) (v : Int) (a : α), I N v a → f c v (N : Int) a = w v a) : ∃ v' a', I N v' a' ∧ itN (fun _ _ _ => none) f 400 v 0 a = w v' a' := it_inv3 N I w hs hx 400 0 v a (Nat.zero_le _) (by omega) h0
/-- the class's rows without a point -/
theorem c_copyWithout {σ : Mm} {r p w n : Nat} {f : Nat → Nat} (hr : r < 6) (hn : n ≤ 10) (hf : ∀ i, i < n → f i < 24) (hp : p < 24) (h1 : σ 15 r = (n : Int)) (h2 : ∀ i, i < n → σ (29 + r) i = (f i : Int)) (hw : w ≠ 15) : ∃ σ', fX3_copyWithout w r p σ = some (((pf f n (fun x => x != p)).length : Int), σ') ∧ RW (σ' w) (pf f n (fun x => x != p)) ∧ (∀ k, k ≠ w → σ' k = σ k) := by
  obtain ⟨v, σ', ⟨i1, i2, i3, -⟩, e1⟩ := it_inv30 (f := fun c => fX3_copyWithout_6 w r p (fun v s => fX3_copyWithout_52 w v s) c) n (fun i v s => v = ((pf f i (fun x => x != p)).length : Int) ∧ RW (s w) (pf f i (fun x => x != p)) ∧ (∀ k, k ≠ w → s k = σ k) ∧ (∀ j, i ≤ j → j < n → s (29 + r) j = (f j : Int))) (fun v s => some (v, s)) 0 σ (by omega) ⟨rfl, fun i hi => by simp [pf] at hi, fun _ _ => rfl, fun j _ hj => h2 j hj⟩ (fun c i v s hi hI => by
    obtain ⟨q1, q2, q3, q4⟩ := hI
    have hl := pf_len f (fun x => x != p) i
    have c1 : s 15 r = (n : Int) := by rw [q3 15 (Ne.symm hw)]; exact h1
    have c2 := q4 i (Nat.le_refl i) hi
    have c3 := hf i hi
    subst q1
    by_cases e : f i = p
    · refine ⟨_, s, ⟨rfl, ?_, q3, fun j a b => q4 j (by omega) b⟩, ?_⟩
      · rw [pf_s, if_neg (by simp [e]), List.append_nil]; exact q2
      · rw [pf_s, if_neg (by simp [e]), List.append_nil]
        simp (disch := omega) only [fX3_copyWithout_6, fX3_copyWithout_46, c1, c2, if_pos, Int.reduceAdd, Int.reduceSub, Int.reduceMul, Int.zero_add, Int.add_zero, Nat.zero_add, na_0, ca_la, ca_al, ca_lm, ca_add, ca_mod, ca_lit, tn_c, Int.natCast_zero, bd_some, bd2_some, bindv_e, chk_ok, cr_ok, crl_ok, chd_ok, chb_0, chb_1, cr_bI, chb_bI, ite_bI0, if_true, if_false]
    · have hne : (f i != p) = true := by simp [e]
      refine ⟨_, sto s w (pf f i (fun x => x != p)).length (f i : Int), ⟨rfl, ?_, fun k hk => ?_, fun j a b => ?_⟩, ?_⟩
      · rw [pf_s, if_pos hne]
        exact RW_push q2 (fun j hj => sto_i (by omega)) (sto_eq _ _ _ _)
      · rw [sto_c hk]; exact q3 k hk
      · rw [sto_i (by omega)]; exact q4 j (by omega) b
      · rw [pf_s, if_pos hne, List.length_append, List.length_singleton]
        simp (disch := omega) only [fX3_copyWithout_6, fX3_copyWithout_46, c1, c2, if_pos, if_neg, Int.reduceAdd, Int.reduceSub, Int.reduceMul, Int.zero_add, Int.add_zero, Nat.zero_add, na_0, ca_la, ca_al, ca_lm, ca_add, ca_mod, ca_lit, tn_c, Int.natCast_zero, bd_some, bd2_some, bindv_e, chk_ok, cr_ok, crl_ok, chd_ok, chb_0, chb_1, cr_bI, chb_bI, ite_bI0, if_true, if_false]) (fun c v s hI => by
    obtain ⟨q1, q2, q3, q4⟩ := hI
    have c1 : s 15 r = (n : Int) := by rw [q3 15 (Ne.symm hw)]; exact h1
    simp (disch := omega) only [fX3_copyWithout_6, fX3_copyWithout_52, c1, if_neg, Int.reduceAdd, Int.reduceSub, Int.reduceMul, Int.zero_add, Int.add_zero, Nat.zero_add, na_0, ca_la, ca_al, ca_lm, ca_add, ca_mod, ca_lit, tn_c, Int.natCast_zero, bd_some, bd2_some, bindv_e, chk_ok, cr_ok, crl_ok, chd_ok, chb_0, chb_1, cr_bI, chb_bI, ite_bI0, if_true, if_false])
  refine ⟨σ', ?_, i2, i3⟩
  simp only [fX3_copyWithout, lX3_copyWithout_6, bindv_e]
  rw [e1, i1]
/-- which points are there at a stage, by the stage at which they went -/
def als (ga : Nat → Nat) (s : Nat) : Nat → Bool := fun p => ga p == 0 || decide (s < ga p)
def GA (σ : Mm) (ga : Nat → Nat) : Prop := ∀ p, p < 24 → σ 5 p = (ga p : Int) ∧ ga p ≤ 24
theorem m_isThere {σ : Mm} {ga : Nat → Nat} {p s : Nat} (h : GA σ ga) (hp : p < 24) (hs : s < 1000) : fX8_isThere p s σ = some (bI (als ga s p = true)) := by
  obtain ⟨h1, h2⟩ := h p hp
  unfold als
  simp (disch := omega) only [fX8_isThere, fX8_isThere_19, fX8_isThere_24, h1, Bool.or_eq_true, beq_iff_eq, decide_eq_true_eq, Int.reduceAdd, Int.reduceSub, Int.reduceMul, Int.zero_add, Int.add_zero, Nat.zero_add, na_0, ca_la, ca_al, ca_lm, ca_add, ca_mod, ca_lit, tn_c, Int.natCast_zero, bd_some, bd2_some, bindv_e, chk_ok, cr_ok, crl_ok, chd_ok, chb_0, chb_1, cr_bI, chb_bI, ite_bI0, if_true, if_false]
  repeat' split
  all_goals first | (rw [bI_t (by omega)]; done) | rw [bI_f (by omega)]
/-- the reference's ring at a stage -/
theorem m_ringAt {σ : Mm} {L : Ld} {ga : Nat → Nat} {r s : Nat} (hw : WF L) (h : ML σ 0 L) (hg : GA σ ga) (hr : r < L.nr) (hs : s < 1000) : ∃ σ', fX8_ringAt r s σ = some (((dr L (als ga s)).cn r : Int), σ') ∧ (∀ i, i < (dr L (als ga s)).cn r → σ' 9 i = ((dr L (als ga s)).co r i : Int)) ∧ (∀ k, k ≠ 9 → σ' k = σ k) := by
  have hnp := hw.1
  have hnr := hw.2.1
  have h3 := hw.2.2.1 r hr
  obtain ⟨v, σ', ⟨i1, i2, i3⟩, e1⟩ := it_inv30 (f := fun c => fX8_ringAt_5 r s (fun v s => fX8_ringAt_64 v s) c) (L.cn r) (fun i v t => v = ((pf (L.co r) i (als ga s)).length : Int) ∧ RW (t 9) (pf (L.co r) i (als ga s)) ∧ (∀ k, k ≠ 9 → t k = σ k)) (fun v t => some (v, t)) 0 σ (by omega) ⟨rfl, fun i hi => by simp [pf] at hi, fun _ _ => rfl⟩ (fun c i v t hi hI => by
    obtain ⟨q1, q2, q3⟩ := hI
    have hl := pf_len (L.co r) (als ga s) i
    obtain ⟨-, -, -, -, -, hC, hR⟩ := ML0 h
    have c1 : t 1 (132 + r) = (L.cn r : Int) := by rw [q3 1 (by omega)]; exact hC r hr
    have c2 : t 1 (72 + 10 * r + i) = (L.co r i : Int) := by rw [q3 1 (by omega)]; exact hR r i hr hi
    have c3 := hw.2.2.2.1 r i hr hi
    have c4 := m_isThere (σ := t) (p := L.co r i) (s := s) (fun p hp => by rw [q3 5 (by omega)]; exact hg p hp) (by omega) hs
    subst q1
    by_cases e : als ga s (L.co r i) = true
    · refine ⟨_, sto t 9 (pf (L.co r) i (als ga s)).length (L.co r i : Int), ⟨rfl, ?_, fun k hk => ?_⟩, ?_⟩
      · rw [pf_s, if_pos e]
        exact RW_push q2 (fun j hj => sto_i (by omega)) (sto_eq _ _ _ _)
      · rw [sto_c hk]; exact q3 k hk
      · rw [pf_s, if_pos e, List.length_append, List.length_singleton]
        simp (disch := omega) only [fX8_ringAt_5, fX8_ringAt_58, c1, c2, c4, if_pos, Int.reduceAdd, Int.reduceSub, Int.reduceMul, Int.zero_add, Int.add_zero, Nat.zero_add, na_0, ca_la, ca_al, ca_lm, ca_add, ca_mod, ca_lit, tn_c, Int.natCast_zero, bd_some, bd2_some, bindv_e, chk_ok, cr_ok, crl_ok, chd_ok, chb_0, chb_1, cr_bI, chb_bI, ite_bI0, if_true, if_false]
        rw [pI_t e]
    · refine ⟨_, t, ⟨rfl, ?_, q3⟩, ?_⟩
      · rw [pf_s, if_neg e, List.append_nil]; exact q2
      · rw [pf_s, if_neg e, List.append_nil]
        simp (disch := omega) only [fX8_ringAt_5, fX8_ringAt_58, c1, c2, c4, if_pos, Int.reduceAdd, Int.reduceSub, Int.reduceMul, Int.zero_add, Int.add_zero, Nat.zero_add, na_0, ca_la, ca_al, ca_lm, ca_add, ca_mod, ca_lit, tn_c, Int.natCast_zero, bd_some, bd2_some, bindv_e, chk_ok, cr_ok, crl_ok, chd_ok, chb_0, chb_1, cr_bI, chb_bI, ite_bI0, if_true, if_false]
        rw [pI_f e]) (fun c v t hI => by
    obtain ⟨q1, q2, q3⟩ := hI
    obtain ⟨-, -, -, -, -, hC, -⟩ := ML0 h
    have c1 : t 1 (132 + r) = (L.cn r : Int) := by rw [q3 1 (by omega)]; exact hC r hr
    simp (disch := omega) only [fX8_ringAt_5, fX8_ringAt_64, c1, if_neg, Int.reduceAdd, Int.reduceSub, Int.reduceMul, Int.zero_add, Int.add_zero, Nat.zero_add, na_0, ca_la, ca_al, ca_lm, ca_add, ca_mod, ca_lit, tn_c, Int.natCast_zero, bd_some, bd2_some, bindv_e, chk_ok, cr_ok, crl_ok, chd_ok, chb_0, chb_1, cr_bI, chb_bI, ite_bI0, if_true, if_false])
  refine ⟨σ', ?_, i2, i3⟩
  simp only [fX8_ringAt, lX8_ringAt_5, bindv_e]
  rw [e1, i1]
  rfl
