/-! tokens of the tape: class and reference -/
theorem sto_same (σ : Mm) (k i : Nat) : sto σ k i (σ k i) = σ := by
  funext a j
  rw [sto_at]
  split
  · rename_i h; rw [h.1, h.2]
  · rfl
theorem sto_sto (σ : Mm) (k i : Nat) (x y : Int) : sto (sto σ k i x) k i y = sto σ k i y := by
  funext a j
  rw [sto_at, sto_at, sto_at]
  split <;> rfl
theorem sto_id {σ : Mm} {k i : Nat} {x : Int} (h : σ k i = x) : sto σ k i x = σ := by rw [← h, sto_same]
def RTO (P : Nat → Prop) (n s e : Nat) : Prop := s ≤ e ∧ e ≤ n ∧ (∀ j, s ≤ j → j < e → P j) ∧ (e < n → ¬ P e)
theorem rto_ex (P : Nat → Prop) (n : Nat) : ∀ (d s : Nat), n - s = d → s ≤ n → ∃ e, RTO P n s e
  | 0, s, h, hs => ⟨s, Nat.le_refl s, hs, fun j h1 h2 => by omega, fun h1 => by omega⟩
  | d + 1, s, h, hs => by
    by_cases z : P s
    · obtain ⟨e, h1, h2, h3, h4⟩ := rto_ex P n d (s + 1) (by omega) (by omega)
      refine ⟨e, by omega, h2, fun j q1 q2 => ?_, h4⟩
      by_cases y : j = s
      · rw [y]; exact z
      · exact h3 j (by omega) q2
    · exact ⟨s, Nat.le_refl s, hs, fun j h1 h2 => by omega, fun _ => z⟩
theorem rto_s {P : Nat → Prop} {n s e : Nat} (h : RTO P n s e) (hs : s < n) (hp : P s) : RTO P n (s + 1) e := by
  obtain ⟨h1, h2, h3, h4⟩ := h
  have q : s ≠ e := fun z => by
    subst z
    exact h4 hs hp
  exact ⟨by omega, h2, fun j q1 q2 => h3 j (by omega) q2, h4⟩
theorem rto_0 {P : Nat → Prop} {n s e : Nat} (h : RTO P n s e) (hp : ¬ (s < n ∧ P s)) : e = s := by
  obtain ⟨h1, h2, h3, h4⟩ := h
  by_cases z : e = s
  · exact z
  · exact absurd ⟨by omega, h3 s (Nat.le_refl s) (by omega)⟩ hp
def TB (σ : Mm) (n : Nat) (b : Nat → Int) : Prop := σ 1 1 = (n : Int) ∧ ∀ i, i < n → σ 2 i = b i
def TM (τ : Mm) (n : Nat) (b : Nat → Int) : Prop := τ 0 2 = (n : Int) ∧ ∀ i, i < n → τ 2 i = b i
def BT (n : Nat) (b : Nat → Int) : Prop := n ≤ 320 ∧ ∀ i, i < n → 0 ≤ b i ∧ b i ≤ 127
theorem TB_3 {σ : Mm} {n : Nat} {b : Nat → Int} {j : Nat} {x : Int} (h : TB σ n b) : TB (sto σ 3 j x) n b := ⟨by rw [sto_k (by omega)]; exact h.1, fun i hi => by rw [sto_k (by omega)]; exact h.2 i hi⟩
theorem TM_0 {τ : Mm} {n : Nat} {b : Nat → Int} {j : Nat} {x : Int} (hj : j ≠ 2) (h : TM τ n b) : TM (sto τ 0 j x) n b := ⟨by rw [sto_i (by omega)]; exact h.1, fun i hi => by rw [sto_k (by omega)]; exact h.2 i hi⟩
theorem c_nt0 {n : Nat} {b : Nat → Int} {e : Mm → Option Mm} {st : Nat} (hB : BT n b) : ∀ (fu s : Nat) (σ : Mm), TB σ n b → σ 3 2 = (s : Int) → RTO (fun j => b j = 32) n s st → n - s < fu → itN (fun _ => none) (fun c => fX2_nextToken_0 e c) fu σ = e (sto σ 3 2 st)
  | 0, s, _, _, _, _, h => by omega
  | fu + 1, s, σ, hT, h2, hR, hf => by
    rw [itN_s]
    have t1 := hT.1
    have hn := hB.1
    have hle := hR.1
    have hle2 := hR.2.1
    by_cases z : s < n ∧ b s = 32
    · have ih := c_nt0 (e := e) hB fu (s + 1) (sto σ 3 2 ((s + 1 : Nat) : Int)) (TB_3 hT) (sto_eq _ _ _ _) (rto_s hR z.1 z.2) (by omega)
      rw [sto_sto] at ih
      rw [← ih]
      have e1 : σ 2 s = 32 := (hT.2 s z.1).trans z.2
      simp (disch := omega) only [fX2_nextToken_0, h2, t1, e1, if_pos, Int.reduceAdd, Int.reduceSub, Int.reduceMul, Int.zero_add, Int.add_zero, Nat.zero_add, na_0, ca_la, ca_al, ca_lm, ca_add, ca_mod, ca_lit, tn_c, Int.natCast_zero, bd_some, bd2_some, bindv_e, chk_ok, cr_ok, crl_ok, chd_ok, chb_0, chb_1, cr_bI, chb_bI, ite_bI0, if_true, if_false]
    · have q := rto_0 hR z
      subst q
      rw [sto_id h2]
      by_cases z1 : st < n
      · have e1 := hT.2 st z1
        have e2 := hB.2 st z1
        have e3 : b st ≠ 32 := fun y => z ⟨z1, y⟩
        simp (disch := omega) only [fX2_nextToken_0, h2, t1, e1, if_pos, if_neg, Int.reduceAdd, Int.reduceSub, Int.reduceMul, Int.zero_add, Int.add_zero, Nat.zero_add, na_0, ca_la, ca_al, ca_lm, ca_add, ca_mod, ca_lit, tn_c, Int.natCast_zero, bd_some, bd2_some, bindv_e, chk_ok, cr_ok, crl_ok, chd_ok, chb_0, chb_1, cr_bI, chb_bI, ite_bI0, if_true, if_false]
      · simp (disch := omega) only [fX2_nextToken_0, h2, t1, if_neg, Int.reduceAdd, Int.reduceSub, Int.reduceMul, Int.zero_add, Int.add_zero, Nat.zero_add, na_0, ca_la, ca_al, ca_lm, ca_add, ca_mod, ca_lit, tn_c, Int.natCast_zero, bd_some, bd2_some, bindv_e, chk_ok, cr_ok, crl_ok, chd_ok, chb_0, chb_1, cr_bI, chb_bI, ite_bI0, if_true, if_false]
def kd (v : Int) : Nat := if 97 ≤ v ∧ v ≤ 122 then 1 else if 48 ≤ v ∧ v ≤ 57 then 2 else if v = 59 then 3 else 4
theorem kd_r (v : Int) : 1 ≤ kd v ∧ kd v ≤ 4 := by
  unfold kd
  repeat' split
  all_goals omega
theorem kd_1 {v : Int} : kd v = 1 ↔ 97 ≤ v ∧ v ≤ 122 := by
  unfold kd
  repeat' split
  all_goals omega
theorem kd_2 {v : Int} : kd v = 2 ↔ 48 ≤ v ∧ v ≤ 57 := by
  unfold kd
  repeat' split
  all_goals omega
theorem kd_3 {v : Int} : kd v = 3 ↔ v = 59 := by
  unfold kd
  repeat' split
  all_goals omega
theorem c_kindOf (σ : Mm) {v : Int} (h : 0 ≤ v ∧ v ≤ 127) : fX2_kindOf v σ = some (kd v : Int) := by
  unfold kd
  simp (disch := omega) only [fX2_kindOf, fX2_kindOf_14, fX2_kindOf_28, fX2_kindOf_39, Int.reduceAdd, Int.reduceSub, Int.reduceMul, Int.zero_add, Int.add_zero, Nat.zero_add, na_0, ca_la, ca_al, ca_lm, ca_add, ca_mod, ca_lit, tn_c, Int.natCast_zero, bd_some, bd2_some, bindv_e, chk_ok, cr_ok, crl_ok, chd_ok, chb_0, chb_1, cr_bI, chb_bI, ite_bI0, if_true, if_false]
  repeat' split
  all_goals first | rfl | omega
theorem c_nt105 {n t : Nat} {b : Nat → Int} {en : Nat} (hB : BT n b) : ∀ (fu s : Nat) (σ : Mm), TB σ n b → σ 3 2 = (s : Int) → σ 3 3 = (t : Int) → t < 10 → RTO (fun j => kd (b j) = t) n s en → n - s < fu → itN (fun _ => none) (fun c => fX2_nextToken_105 c) fu σ = fX2_nextToken_172 (sto σ 3 2 en)
  | 0, s, _, _, _, _, _, _, h => by omega
  | fu + 1, s, σ, hT, h2, h3, ht, hR, hf => by
    rw [itN_s]
    have t1 := hT.1
    have hn := hB.1
    have hle := hR.1
    have hle2 := hR.2.1
    by_cases z : s < n ∧ kd (b s) = t
    · have ih := c_nt105 (t := t) hB fu (s + 1) (sto σ 3 2 ((s + 1 : Nat) : Int)) (TB_3 hT) (sto_eq _ _ _ _) (by rw [sto_i (by omega)]; exact h3) ht (rto_s hR z.1 z.2) (by omega)
      rw [sto_sto] at ih
      rw [← ih]
      have e1 := hT.2 s z.1
      have e2 := c_kindOf σ (hB.2 s z.1)
      rw [z.2] at e2
      simp (disch := omega) only [fX2_nextToken_105, h2, h3, t1, e1, e2, if_pos, Int.reduceAdd, Int.reduceSub, Int.reduceMul, Int.zero_add, Int.add_zero, Nat.zero_add, na_0, ca_la, ca_al, ca_lm, ca_add, ca_mod, ca_lit, tn_c, Int.natCast_zero, bd_some, bd2_some, bindv_e, chk_ok, cr_ok, crl_ok, chd_ok, chb_0, chb_1, cr_bI, chb_bI, ite_bI0, if_true, if_false]
    · have q := rto_0 hR z
      subst q
      rw [sto_id h2]
      by_cases z1 : en < n
      · have e1 := hT.2 en z1
        have e2 := c_kindOf σ (hB.2 en z1)
        have e3 := kd_r (b en)
        have e4 : kd (b en) ≠ t := fun y => z ⟨z1, y⟩
        simp (disch := omega) only [fX2_nextToken_105, h2, h3, t1, e1, e2, if_pos, if_neg, Int.reduceAdd, Int.reduceSub, Int.reduceMul, Int.zero_add, Int.add_zero, Nat.zero_add, na_0, ca_la, ca_al, ca_lm, ca_add, ca_mod, ca_lit, tn_c, Int.natCast_zero, bd_some, bd2_some, bindv_e, chk_ok, cr_ok, crl_ok, chd_ok, chb_0, chb_1, cr_bI, chb_bI, ite_bI0, if_true, if_false]
      · simp (disch := omega) only [fX2_nextToken_105, h2, t1, if_neg, Int.reduceAdd, Int.reduceSub, Int.reduceMul, Int.zero_add, Int.add_zero, Nat.zero_add, na_0, ca_la, ca_al, ca_lm, ca_add, ca_mod, ca_lit, tn_c, Int.natCast_zero, bd_some, bd2_some, bindv_e, chk_ok, cr_ok, crl_ok, chd_ok, chb_0, chb_1, cr_bI, chb_bI, ite_bI0, if_true, if_false]
def vl (b : Nat → Int) (st : Nat) : Nat → Int
  | 0 => 0
  | m + 1 => 10 * vl b st m + b (st + m) - 48
theorem c_weigh {σ : Mm} {n st en : Nat} {b : Nat → Int} (hB : BT n b) (hT : TB σ n b) (h4 : σ 3 4 = (st : Int)) (h2 : σ 3 2 = (en : Int)) (hs : st ≤ en) (he : en ≤ n) : (en - st ≤ 3 → fX2_weighNumber σ = some (sto σ 3 5 (vl b st (en - st)))) ∧ (3 < en - st → fX2_weighNumber σ = some (sto σ 3 3 4)) := by
  have hn := hB.1
  constructor
  · intro h3
    have key := it_inv (f := fun c => fX2_weighNumber_29 (fun s => fX2_weighNumber_67 s) c) en (fun i a => st ≤ i ∧ a = sto σ 3 5 (vl b st (i - st))) (fun s => some s) (fun c i a hi hI => by
      obtain ⟨q1, rfl⟩ := hI
      have e1 := hT.2 i (by omega)
      have e3 : vl b st (i + 1 - st) = vl b st (i - st) * 10 + b i - 48 := by
        rw [show i + 1 - st = (i - st) + 1 by omega]
        show 10 * vl b st (i - st) + b (st + (i - st)) - 48 = _
        rw [show st + (i - st) = i by omega]
        omega
      refine ⟨sto σ 3 5 (vl b st (i + 1 - st)), ⟨by omega, rfl⟩, ?_⟩
      rw [e3]
      simp (disch := omega) only [fX2_weighNumber_29, sto_i, sto_k, sto_eq, sto_sto, h2, e1, if_pos, Int.reduceAdd, Int.reduceSub, Int.reduceMul, Int.zero_add, Int.add_zero, Nat.zero_add, na_0, ca_la, ca_al, ca_lm, ca_add, ca_mod, ca_lit, tn_c, Int.natCast_zero, bd_some, bd2_some, bindv_e, chk_ok, cr_ok, crl_ok, chd_ok, chb_0, chb_1, cr_bI, chb_bI, ite_bI0, if_true, if_false]) (fun c a hI => by
      obtain ⟨q1, rfl⟩ := hI
      simp (disch := omega) only [fX2_weighNumber_29, fX2_weighNumber_67, sto_i, h2, if_neg, Int.reduceAdd, Int.reduceSub, Int.reduceMul, Int.zero_add, Int.add_zero, Nat.zero_add, na_0, ca_la, ca_al, ca_lm, ca_add, ca_mod, ca_lit, tn_c, Int.natCast_zero, bd_some, bd2_some, bindv_e, chk_ok, cr_ok, crl_ok, chd_ok, chb_0, chb_1, cr_bI, chb_bI, ite_bI0, if_true, if_false]) 400 st (sto σ 3 5 0) hs (by omega) ⟨Nat.le_refl st, by rw [Nat.sub_self]; rfl⟩
    obtain ⟨a', ⟨-, rfl⟩, k2⟩ := key
    have k3 : lX2_weighNumber_29 (fun s => fX2_weighNumber_67 s) 400 st (sto σ 3 5 0) = some (sto σ 3 5 (vl b st (en - st))) := by
      unfold lX2_weighNumber_29
      exact k2
    unfold fX2_weighNumber
    rw [h2, h4, cr_ok (by omega), if_neg (by omega), bindv_e, bindv_e, sto_i (by omega), h4]
    exact k3
  · intro h3
    unfold fX2_weighNumber
    rw [h2, h4, cr_ok (by omega), if_pos (by omega), bindv_e]
/-- a token from s on: its start, kind, end, value -/
def TKN (n : Nat) (b : Nat → Int) (s st k e : Nat) (v : Int) : Prop := RTO (fun j => b j = 32) n s st ∧ ((st = n ∧ k = 0 ∧ e = n) ∨ (st < n ∧ kd (b st) = 1 ∧ k = 1 ∧ RTO (fun j => kd (b j) = 1) n st e) ∨ (st < n ∧ kd (b st) = 2 ∧ RTO (fun j => kd (b j) = 2) n st e ∧ ((e - st ≤ 3 ∧ k = 2 ∧ v = vl b st (e - st)) ∨ (3 < e - st ∧ k = 4))) ∨ (st < n ∧ kd (b st) = 3 ∧ k = 3 ∧ e = st + 1) ∨ (st < n ∧ kd (b st) = 4 ∧ k = 4))
theorem tkn_ex {n : Nat} {b : Nat → Int} {s : Nat} (hs : s ≤ n) : ∃ st k e v, TKN n b s st k e v := by
  obtain ⟨st, hR⟩ := rto_ex (fun j => b j = 32) n (n - s) s rfl hs
  have h2 := hR.2.1
  by_cases z : st = n
  · exact ⟨st, 0, n, 0, hR, Or.inl ⟨z, rfl, rfl⟩⟩
  · have hr := kd_r (b st)
    rcases (show kd (b st) = 1 ∨ kd (b st) = 2 ∨ kd (b st) = 3 ∨ kd (b st) = 4 by omega) with q | q | q | q
    · obtain ⟨e, he⟩ := rto_ex (fun j => kd (b j) = 1) n (n - st) st rfl h2
      exact ⟨st, 1, e, 0, hR, Or.inr (Or.inl ⟨by omega, q, rfl, he⟩)⟩
    · obtain ⟨e, he⟩ := rto_ex (fun j => kd (b j) = 2) n (n - st) st rfl h2
      by_cases y : e - st ≤ 3
      · exact ⟨st, 2, e, vl b st (e - st), hR, Or.inr (Or.inr (Or.inl ⟨by omega, q, he, Or.inl ⟨y, rfl, rfl⟩⟩))⟩
      · exact ⟨st, 4, e, 0, hR, Or.inr (Or.inr (Or.inl ⟨by omega, q, he, Or.inr ⟨by omega, rfl⟩⟩))⟩
    · exact ⟨st, 3, st + 1, 0, hR, Or.inr (Or.inr (Or.inr (Or.inl ⟨by omega, q, rfl, rfl⟩)))⟩
    · exact ⟨st, 4, 0, 0, hR, Or.inr (Or.inr (Or.inr (Or.inr ⟨by omega, q, rfl⟩)))⟩
theorem rto_lt {P : Nat → Prop} {n s e : Nat} (h : RTO P n s e) (hs : s < n) (hp : P s) : s < e := by
  have := (rto_s h hs hp).1
  omega
theorem vl_b {n st : Nat} {b : Nat → Int} : ∀ {m : Nat}, m ≤ 3 → (∀ j, st ≤ j → j < st + m → 48 ≤ b j ∧ b j ≤ 57) → 0 ≤ vl b st m ∧ (m ≤ 0 → vl b st m ≤ 0) ∧ (m ≤ 1 → vl b st m ≤ 9) ∧ (m ≤ 2 → vl b st m ≤ 99) ∧ vl b st m ≤ 999
  | 0, _, _ => by
    have : vl b st 0 = 0 := rfl
    omega
  | m + 1, hm, h => by
    obtain ⟨h1, h2, h3, h4, h5⟩ := vl_b (n := n) (m := m) (by omega) (fun j q1 q2 => h j q1 (by omega))
    have e : vl b st (m + 1) = 10 * vl b st m + b (st + m) - 48 := rfl
    have e2 := h (st + m) (by omega) (by omega)
    omega
theorem tkn_f {n : Nat} {b : Nat → Int} {s st k e : Nat} {v : Int} (h : TKN n b s st k e v) : s ≤ st ∧ st ≤ n ∧ k ≤ 4 ∧ (k ≤ 3 → e ≤ n) ∧ (k ≤ 3 → 1 ≤ k → st < e) ∧ (k = 0 → st = n ∧ e = n) ∧ (k = 2 → 0 ≤ v ∧ v ≤ 999) := by
  obtain ⟨hR, h⟩ := h
  have h1 := hR.1
  have h2 := hR.2.1
  rcases h with ⟨q1, q2, q3⟩ | ⟨q1, q2, q3, q4⟩ | ⟨q1, q2, q3, q4⟩ | ⟨q1, q2, q3, q4⟩ | ⟨q1, q2, q3⟩
  · refine ⟨h1, h2, by omega, by omega, by omega, by omega, by omega⟩
  · have := rto_lt q4 q1 q2
    have := q4.2.1
    refine ⟨h1, h2, by omega, by omega, by omega, by omega, by omega⟩
  · have := rto_lt q3 q1 q2
    have := q3.2.1
    refine ⟨h1, h2, by omega, by omega, by omega, by omega, fun hk => ?_⟩
    rcases q4 with ⟨y1, y2, y3⟩ | ⟨y1, y2⟩
    · obtain ⟨z1, z2⟩ := vl_b (n := n) (st := st) (b := b) (m := e - st) y1 (fun j w1 w2 => kd_2.mp (q3.2.2.1 j w1 (by omega)))
      omega
    · omega
  · refine ⟨h1, h2, by omega, by omega, by omega, by omega, by omega⟩
  · refine ⟨h1, h2, by omega, by omega, by omega, by omega, by omega⟩
def fr3 (σ σ' : Mm) : Prop := (∀ c, c ≠ 3 → σ' c = σ c) ∧ (∀ j, j ≠ 2 → j ≠ 3 → j ≠ 4 → j ≠ 5 → σ' 3 j = σ 3 j)
theorem fr3_s {σ σ' : Mm} {j : Nat} {x : Int} (hj : j = 2 ∨ j = 3 ∨ j = 4 ∨ j = 5) (h : fr3 σ σ') : fr3 σ (sto σ' 3 j x) := ⟨fun c hc => by rw [sto_c hc]; exact h.1 c hc, fun i h2 h3 h4 h5 => by rw [sto_i (by omega)]; exact h.2 i h2 h3 h4 h5⟩
theorem fr3_r (σ : Mm) : fr3 σ σ := ⟨fun _ _ => rfl, fun _ _ _ _ _ => rfl⟩
theorem fr3_t {a b c : Mm} (h : fr3 a b) (g : fr3 b c) : fr3 a c := ⟨fun k hk => (g.1 k hk).trans (h.1 k hk), fun j h1 h2 h3 h4 => (g.2 j h1 h2 h3 h4).trans (h.2 j h1 h2 h3 h4)⟩
theorem c_nextToken {n : Nat} {b : Nat → Int} {s st k e : Nat} {v : Int} {ρ : Mm} (hB : BT n b) (h : TKN n b s st k e v) (hT : TB ρ n b) (h2 : ρ 3 2 = (s : Int)) (hs : s ≤ n) : ∃ ρ', fX2_nextToken ρ = some ρ' ∧ fr3 ρ ρ' ∧ ρ' 3 4 = (st : Int) ∧ ρ' 3 3 = (k : Int) ∧ (k ≤ 3 → ρ' 3 2 = (e : Int)) ∧ (k = 2 → ρ' 3 5 = v) := by
  obtain ⟨hR, h⟩ := h
  have hn := hB.1
  have hle := hR.2.1
  have s1 : fX2_nextToken ρ = fX2_nextToken_44 (sto ρ 3 2 st) := by
    unfold fX2_nextToken lX2_nextToken_0
    exact c_nt0 (e := fun s => fX2_nextToken_44 s) hB 400 s ρ hT h2 hR (by omega)
  have t1 := hT.1
  have f1 : fr3 ρ (sto (sto ρ 3 2 st) 3 4 st) := fr3_s (by omega) (fr3_s (by omega) (fr3_r ρ))
  have T1 : TB (sto (sto ρ 3 2 st) 3 4 st) n b := TB_3 (TB_3 hT)
  have a2 : (sto (sto ρ 3 2 st) 3 4 st) 3 2 = (st : Int) := by rw [sto_i (by omega), sto_eq]
  have a4 : (sto (sto ρ 3 2 st) 3 4 st) 3 4 = (st : Int) := sto_eq _ _ _ _
  rw [s1]
  have s2 : fX2_nextToken_44 (sto ρ 3 2 st) = if st < n then fX2_nextToken_86 (kd (b st)) (sto (sto ρ 3 2 st) 3 4 st) else fX2_nextToken_86 0 (sto (sto ρ 3 2 st) 3 4 st) := by
    unfold fX2_nextToken_44
    rw [bindv_e, sto_eq]
    generalize sto (sto ρ 3 2 st) 3 4 st = ρ1 at *
    have t2 := T1.1
    by_cases z : st < n
    · have e1 := T1.2 st z
      have e2 := c_kindOf ρ1 (hB.2 st z)
      rw [if_pos z]
      simp (disch := omega) only [a2, t2, e1, e2, if_pos, Int.reduceAdd, Int.reduceSub, Int.reduceMul, Int.zero_add, Int.add_zero, Nat.zero_add, na_0, ca_la, ca_al, ca_lm, ca_add, ca_mod, ca_lit, tn_c, Int.natCast_zero, bd_some, bd2_some, bindv_e, chk_ok, cr_ok, crl_ok, chd_ok, chb_0, chb_1, cr_bI, chb_bI, ite_bI0, if_true, if_false]
    · rw [if_neg z]
      simp (disch := omega) only [a2, t2, if_neg, Int.reduceAdd, Int.reduceSub, Int.reduceMul, Int.zero_add, Int.add_zero, Nat.zero_add, na_0, ca_la, ca_al, ca_lm, ca_add, ca_mod, ca_lit, tn_c, Int.natCast_zero, bd_some, bd2_some, bindv_e, chk_ok, cr_ok, crl_ok, chd_ok, chb_0, chb_1, cr_bI, chb_bI, ite_bI0, if_true, if_false]
  rw [s2]
  clear s1 s2
  generalize sto (sto ρ 3 2 st) 3 4 st = ρ1 at *
  rcases h with ⟨q1, q2, q3⟩ | ⟨q1, q2, q3, q4⟩ | ⟨q1, q2, q3, q4⟩ | ⟨q1, q2, q3, q4⟩ | ⟨q1, q2, q3⟩
  · subst q2
    rw [if_neg (by omega)]
    refine ⟨sto ρ1 3 3 0, ?_, fr3_s (by omega) f1, by rw [sto_i (by omega)]; exact a4, by rw [sto_eq]; rfl, fun _ => by rw [sto_i (by omega), a2, q3, q1], fun y => by omega⟩
    simp (disch := omega) only [fX2_nextToken_86, fX2_nextToken_172, fX2_nextToken_184, sto_eq, if_neg, Int.reduceAdd, Int.reduceSub, Int.reduceMul, Int.zero_add, Int.add_zero, Nat.zero_add, na_0, ca_la, ca_al, ca_lm, ca_add, ca_mod, ca_lit, tn_c, Int.natCast_zero, bd_some, bd2_some, bindv_e, chk_ok, cr_ok, crl_ok, chd_ok, chb_0, chb_1, cr_bI, chb_bI, ite_bI0, if_true, if_false]
  · subst q3
    rw [if_pos q1, q2]
    have key := c_nt105 (t := 1) hB 400 st (sto ρ1 3 3 ((1 : Nat) : Int)) (TB_3 T1) (by rw [sto_i (by omega)]; exact a2) (sto_eq _ _ _ _) (by omega) q4 (by omega)
    have key2 : lX2_nextToken_105 400 (sto ρ1 3 3 ((1 : Nat) : Int)) = fX2_nextToken_172 (sto (sto ρ1 3 3 ((1 : Nat) : Int)) 3 2 e) := by
      unfold lX2_nextToken_105
      exact key
    refine ⟨sto (sto ρ1 3 3 ((1 : Nat) : Int)) 3 2 e, ?_, fr3_s (by omega) (fr3_s (by omega) f1), by rw [sto_i (by omega), sto_i (by omega)]; exact a4, by rw [sto_i (by omega), sto_eq], fun _ => sto_eq _ _ _ _, fun y => by omega⟩
    unfold fX2_nextToken_86
    rw [bindv_e, sto_eq, cr_ok (by omega), if_pos (by omega), key2]
    unfold fX2_nextToken_172
    rw [sto_i (by omega), sto_eq, cr_ok (by omega), if_neg (by omega)]
    rfl
  · rw [if_pos q1, q2]
    have key := c_nt105 (t := 2) hB 400 st (sto ρ1 3 3 ((2 : Nat) : Int)) (TB_3 T1) (by rw [sto_i (by omega)]; exact a2) (sto_eq _ _ _ _) (by omega) q3 (by omega)
    have key2 : lX2_nextToken_105 400 (sto ρ1 3 3 ((2 : Nat) : Int)) = fX2_nextToken_172 (sto (sto ρ1 3 3 ((2 : Nat) : Int)) 3 2 e) := by
      unfold lX2_nextToken_105
      exact key
    have l1 := q3.1
    have l2 := q3.2.1
    obtain ⟨w1, w2⟩ := c_weigh (σ := sto (sto ρ1 3 3 ((2 : Nat) : Int)) 3 2 e) (st := st) (en := e) hB (TB_3 (TB_3 T1)) (by rw [sto_i (by omega), sto_i (by omega)]; exact a4) (sto_eq _ _ _ _) l1 l2
    have base : fX2_nextToken_86 ((2 : Nat) : Int) ρ1 = bd (fX2_weighNumber (sto (sto ρ1 3 3 ((2 : Nat) : Int)) 3 2 e)) (fun s => fX2_nextToken_184 s) := by
      unfold fX2_nextToken_86
      rw [bindv_e, sto_eq, cr_ok (by omega), if_neg (by omega), cr_ok (by omega), if_pos (by omega), key2]
      unfold fX2_nextToken_172
      rw [sto_i (by omega), sto_eq, cr_ok (by omega), if_pos (by omega)]
    rw [base]
    rcases q4 with ⟨y1, y2, y3⟩ | ⟨y1, y2⟩
    · rw [w1 y1, bd_some]
      subst y2
      refine ⟨sto (sto (sto ρ1 3 3 ((2 : Nat) : Int)) 3 2 e) 3 5 (vl b st (e - st)), rfl, fr3_s (by omega) (fr3_s (by omega) (fr3_s (by omega) f1)), by rw [sto_i (by omega), sto_i (by omega), sto_i (by omega)]; exact a4, by rw [sto_i (by omega), sto_i (by omega), sto_eq], fun _ => by rw [sto_i (by omega), sto_eq], fun y => by rw [sto_eq, y3]⟩
    · rw [w2 y1, bd_some]
      subst y2
      refine ⟨sto (sto (sto ρ1 3 3 ((2 : Nat) : Int)) 3 2 e) 3 3 4, rfl, fr3_s (by omega) (fr3_s (by omega) (fr3_s (by omega) f1)), by rw [sto_i (by omega), sto_i (by omega), sto_i (by omega)]; exact a4, by rw [sto_eq]; rfl, fun y => by omega, fun y => by omega⟩
  · subst q3
    rw [if_pos q1, q2]
    refine ⟨sto (sto ρ1 3 3 ((3 : Nat) : Int)) 3 2 ((st + 1 : Nat) : Int), ?_, fr3_s (by omega) (fr3_s (by omega) f1), by rw [sto_i (by omega), sto_i (by omega)]; exact a4, by rw [sto_i (by omega), sto_eq], fun _ => by rw [sto_eq, q4], fun y => by omega⟩
    unfold fX2_nextToken_86
    rw [bindv_e, sto_eq, cr_ok (by omega), if_neg (by omega), cr_ok (by omega), if_neg (by omega), cr_ok (by omega), if_pos (by omega), bindv_e, sto_i (by omega), a2]
    unfold fX2_nextToken_172
    rw [sto_i (by omega), sto_eq, cr_ok (by omega), if_neg (by omega)]
    rfl
  · subst q3
    rw [if_pos q1, q2]
    refine ⟨sto ρ1 3 3 ((4 : Nat) : Int), ?_, fr3_s (by omega) f1, by rw [sto_i (by omega)]; exact a4, sto_eq _ _ _ _, fun y => by omega, fun y => by omega⟩
    unfold fX2_nextToken_86
    rw [bindv_e, sto_eq, cr_ok (by omega), if_neg (by omega), cr_ok (by omega), if_neg (by omega), cr_ok (by omega), if_neg (by omega)]
    unfold fX2_nextToken_172
    rw [sto_eq, cr_ok (by omega), if_neg (by omega)]
    rfl
