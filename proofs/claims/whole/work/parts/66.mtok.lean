/-! tokens: the reference; names, both -/
theorem byte_in {τ : Mm} {n s : Nat} {b : Nat → Int} (hB : BT n b) (hT : TM τ n b) (h : s < n) : fX8_byteAt (s : Int) τ = some (b s) := by
  have hn := hB.1
  have t1 := hT.1
  have e1 := hT.2 s h
  simp (disch := omega) only [fX8_byteAt, fX8_byteAt_19, t1, e1, if_pos, Int.reduceAdd, Int.reduceSub, Int.reduceMul, Int.zero_add, Int.add_zero, Nat.zero_add, na_0, ca_la, ca_al, ca_lm, ca_add, ca_mod, ca_lit, tn_c, Int.natCast_zero, bd_some, bd2_some, bindv_e, chk_ok, cr_ok, crl_ok, chd_ok, chb_0, chb_1, cr_bI, chb_bI, ite_bI0, if_true, if_false]
theorem byte_out {τ : Mm} {n s : Nat} {b : Nat → Int} (hB : BT n b) (hT : TM τ n b) (h : n ≤ s) (h2 : s < 1000) : fX8_byteAt (s : Int) τ = some (-4) := by
  have hn := hB.1
  have t1 := hT.1
  simp (disch := omega) only [fX8_byteAt, fX8_byteAt_19, t1, if_neg, Int.reduceAdd, Int.reduceSub, Int.reduceMul, Int.zero_add, Int.add_zero, Nat.zero_add, na_0, ca_la, ca_al, ca_lm, ca_add, ca_mod, ca_lit, tn_c, Int.natCast_zero, bd_some, bd2_some, bindv_e, chk_ok, cr_ok, crl_ok, chd_ok, chb_0, chb_1, cr_bI, chb_bI, ite_bI0, if_true, if_false]
theorem m_ro8 {n : Nat} {b : Nat → Int} {e : Mm → Option Mm} {st : Nat} (hB : BT n b) : ∀ (fu s : Nat) (τ : Mm), TM τ n b → τ 0 6 = (s : Int) → RTO (fun j => b j = 32) n s st → n - s < fu → itN (fun _ => none) (fun c => fX8_readsOn_8 e c) fu τ = e (sto τ 0 6 st)
  | 0, s, _, _, _, _, h => by omega
  | fu + 1, s, τ, hT, h2, hR, hf => by
    rw [itN_s]
    have hn := hB.1
    have hle := hR.1
    have hle2 := hR.2.1
    by_cases z : s < n ∧ b s = 32
    · have ih := m_ro8 (e := e) hB fu (s + 1) (sto τ 0 6 ((s + 1 : Nat) : Int)) (TM_0 (by omega) hT) (sto_eq _ _ _ _) (rto_s hR z.1 z.2) (by omega)
      rw [sto_sto] at ih
      rw [← ih]
      have e1 := byte_in hB hT z.1
      rw [z.2] at e1
      simp (disch := omega) only [fX8_readsOn_8, h2, e1, if_pos, Int.reduceAdd, Int.reduceSub, Int.reduceMul, Int.zero_add, Int.add_zero, Nat.zero_add, na_0, ca_la, ca_al, ca_lm, ca_add, ca_mod, ca_lit, tn_c, Int.natCast_zero, bd_some, bd2_some, bindv_e, chk_ok, cr_ok, crl_ok, chd_ok, chb_0, chb_1, cr_bI, chb_bI, ite_bI0, if_true, if_false]
    · have q := rto_0 hR z
      subst q
      rw [sto_id h2]
      by_cases z1 : st < n
      · have e1 := byte_in hB hT z1
        have e2 := hB.2 st z1
        have e3 : b st ≠ 32 := fun y => z ⟨z1, y⟩
        simp (disch := omega) only [fX8_readsOn_8, h2, e1, if_neg, Int.reduceAdd, Int.reduceSub, Int.reduceMul, Int.zero_add, Int.add_zero, Nat.zero_add, na_0, ca_la, ca_al, ca_lm, ca_add, ca_mod, ca_lit, tn_c, Int.natCast_zero, bd_some, bd2_some, bindv_e, chk_ok, cr_ok, crl_ok, chd_ok, chb_0, chb_1, cr_bI, chb_bI, ite_bI0, if_true, if_false]
      · have e1 := byte_out (s := st) hB hT (by omega) (by omega)
        simp (disch := omega) only [fX8_readsOn_8, h2, e1, if_neg, Int.reduceAdd, Int.reduceSub, Int.reduceMul, Int.zero_add, Int.add_zero, Nat.zero_add, na_0, ca_la, ca_al, ca_lm, ca_add, ca_mod, ca_lit, tn_c, Int.natCast_zero, bd_some, bd2_some, bindv_e, chk_ok, cr_ok, crl_ok, chd_ok, chb_0, chb_1, cr_bI, chb_bI, ite_bI0, if_true, if_false]
theorem m_ro84 {n : Nat} {b : Nat → Int} {e : Mm → Option Mm} {en : Nat} (hB : BT n b) : ∀ (fu s : Nat) (τ : Mm), TM τ n b → τ 0 6 = (s : Int) → RTO (fun j => kd (b j) = 1) n s en → n - s < fu → itN (fun _ => none) (fun c => fX8_readsOn_84 e c) fu τ = e (sto τ 0 6 en)
  | 0, s, _, _, _, _, h => by omega
  | fu + 1, s, τ, hT, h2, hR, hf => by
    rw [itN_s]
    have hn := hB.1
    have hle := hR.1
    have hle2 := hR.2.1
    by_cases z : s < n ∧ kd (b s) = 1
    · have ih := m_ro84 (e := e) hB fu (s + 1) (sto τ 0 6 ((s + 1 : Nat) : Int)) (TM_0 (by omega) hT) (sto_eq _ _ _ _) (rto_s hR z.1 z.2) (by omega)
      rw [sto_sto] at ih
      rw [← ih]
      have e1 := byte_in hB hT z.1
      have e4 := kd_1.mp z.2
      have e2 := m_in τ (v := b s) (a := 97) (b := 122) (by omega) (by omega) (by omega)
      rw [bI_t e4] at e2
      simp (disch := omega) only [fX8_readsOn_84, h2, e1, e2, if_neg, Int.reduceAdd, Int.reduceSub, Int.reduceMul, Int.zero_add, Int.add_zero, Nat.zero_add, na_0, ca_la, ca_al, ca_lm, ca_add, ca_mod, ca_lit, tn_c, Int.natCast_zero, bd_some, bd2_some, bindv_e, chk_ok, cr_ok, crl_ok, chd_ok, chb_0, chb_1, cr_bI, chb_bI, ite_bI0, if_true, if_false]
    · have q := rto_0 hR z
      subst q
      rw [sto_id h2]
      by_cases z1 : en < n
      · have e1 := byte_in hB hT z1
        have e3 := hB.2 en z1
        have e2 := m_in τ (v := b en) (a := 97) (b := 122) (by omega) (by omega) (by omega)
        rw [bI_f (fun y => z ⟨z1, kd_1.mpr y⟩)] at e2
        simp (disch := omega) only [fX8_readsOn_84, h2, e1, e2, if_pos, Int.reduceAdd, Int.reduceSub, Int.reduceMul, Int.zero_add, Int.add_zero, Nat.zero_add, na_0, ca_la, ca_al, ca_lm, ca_add, ca_mod, ca_lit, tn_c, Int.natCast_zero, bd_some, bd2_some, bindv_e, chk_ok, cr_ok, crl_ok, chd_ok, chb_0, chb_1, cr_bI, chb_bI, ite_bI0, if_true, if_false]
      · have e1 := byte_out (s := en) hB hT (by omega) (by omega)
        have e2 := m_in τ (v := -4) (a := 97) (b := 122) (by omega) (by omega) (by omega)
        rw [bI_f (by omega)] at e2
        simp (disch := omega) only [fX8_readsOn_84, h2, e1, e2, if_pos, Int.reduceAdd, Int.reduceSub, Int.reduceMul, Int.zero_add, Int.add_zero, Nat.zero_add, na_0, ca_la, ca_al, ca_lm, ca_add, ca_mod, ca_lit, tn_c, Int.natCast_zero, bd_some, bd2_some, bindv_e, chk_ok, cr_ok, crl_ok, chd_ok, chb_0, chb_1, cr_bI, chb_bI, ite_bI0, if_true, if_false]
theorem sto_4 (τ : Mm) (a c w d : Int) : sto (sto (sto (sto τ 0 9 a) 0 6 c) 0 9 w) 0 6 d = sto (sto τ 0 9 w) 0 6 d := by
  funext k j
  simp only [sto_at]
  by_cases h6 : k = 0 ∧ j = 6
  · simp [h6]
  · by_cases h9 : k = 0 ∧ j = 9
    · simp [h9]
    · simp [h6, h9]
theorem m_ro140 {n st : Nat} {b : Nat → Int} {e : Mm → Option Mm} {en : Nat} (hB : BT n b) : ∀ (fu s : Nat) (τ : Mm), TM τ n b → st ≤ s → τ 0 7 = (st : Int) → τ 0 6 = (s : Int) → (s - st ≤ 3 → τ 0 9 = vl b st (s - st)) → RTO (fun j => kd (b j) = 2) n s en → n - s < fu → ∃ w, (en - st ≤ 3 → w = vl b st (en - st)) ∧ itN (fun _ => none) (fun c => fX8_readsOn_140 e c) fu τ = e (sto (sto τ 0 9 w) 0 6 en)
  | 0, s, _, _, _, _, _, _, _, h => by omega
  | fu + 1, s, τ, hT, hs, h7, h2, hV, hR, hf => by
    rw [itN_s]
    have hn := hB.1
    have hle := hR.1
    have hle2 := hR.2.1
    by_cases z : s < n ∧ kd (b s) = 2
    · have e1 := byte_in hB hT z.1
      have e4 := kd_2.mp z.2
      have e2 := m_in τ (v := b s) (a := 48) (b := 57) (by omega) (by omega) (by omega)
      rw [bI_t e4] at e2
      by_cases y : s - st < 3
      · obtain ⟨w, i1, i2⟩ := m_ro140 (e := e) (st := st) hB fu (s + 1) (sto (sto τ 0 9 (vl b st (s + 1 - st))) 0 6 ((s + 1 : Nat) : Int)) (TM_0 (by omega) (TM_0 (by omega) hT)) (by omega) (by rw [sto_i (by omega), sto_i (by omega)]; exact h7) (sto_eq _ _ _ _) (fun _ => by rw [sto_i (by omega), sto_eq]) (rto_s hR z.1 z.2) (by omega)
        refine ⟨w, i1, ?_⟩
        rw [sto_4] at i2
        rw [← i2]
        have e5 : vl b st (s + 1 - st) = 10 * vl b st (s - st) + b s - 48 := by
          rw [show s + 1 - st = (s - st) + 1 by omega]
          show 10 * vl b st (s - st) + b (st + (s - st)) - 48 = _
          rw [show st + (s - st) = s by omega]
        have e6 := hV (by omega)
        rw [e5]
        simp (disch := omega) only [fX8_readsOn_140, fX8_readsOn_201, h2, h7, e1, e2, e6, sto_i, if_pos, if_neg, Int.reduceAdd, Int.reduceSub, Int.reduceMul, Int.zero_add, Int.add_zero, Nat.zero_add, na_0, ca_la, ca_al, ca_lm, ca_add, ca_mod, ca_lit, tn_c, Int.natCast_zero, bd_some, bd2_some, bindv_e, chk_ok, cr_ok, crl_ok, chd_ok, chb_0, chb_1, cr_bI, chb_bI, ite_bI0, if_true, if_false]
      · obtain ⟨w, i1, i2⟩ := m_ro140 (e := e) (st := st) hB fu (s + 1) (sto (sto τ 0 9 (τ 0 9)) 0 6 ((s + 1 : Nat) : Int)) (TM_0 (by omega) (TM_0 (by omega) hT)) (by omega) (by rw [sto_i (by omega), sto_i (by omega)]; exact h7) (sto_eq _ _ _ _) (fun _ => by omega) (rto_s hR z.1 z.2) (by omega)
        refine ⟨w, i1, ?_⟩
        rw [sto_4] at i2
        rw [← i2]
        simp (disch := omega) only [fX8_readsOn_140, fX8_readsOn_201, h2, h7, e1, e2, sto_i, if_neg, Int.reduceAdd, Int.reduceSub, Int.reduceMul, Int.zero_add, Int.add_zero, Nat.zero_add, na_0, ca_la, ca_al, ca_lm, ca_add, ca_mod, ca_lit, tn_c, Int.natCast_zero, bd_some, bd2_some, bindv_e, chk_ok, cr_ok, crl_ok, chd_ok, chb_0, chb_1, cr_bI, chb_bI, ite_bI0, if_true, if_false]
    · have q := rto_0 hR z
      subst q
      refine ⟨τ 0 9, hV, ?_⟩
      rw [sto_same, sto_id h2]
      by_cases z1 : en < n
      · have e1 := byte_in hB hT z1
        have e3 := hB.2 en z1
        have e2 := m_in τ (v := b en) (a := 48) (b := 57) (by omega) (by omega) (by omega)
        rw [bI_f (fun y => z ⟨z1, kd_2.mpr y⟩)] at e2
        simp (disch := omega) only [fX8_readsOn_140, h2, e1, e2, if_pos, Int.reduceAdd, Int.reduceSub, Int.reduceMul, Int.zero_add, Int.add_zero, Nat.zero_add, na_0, ca_la, ca_al, ca_lm, ca_add, ca_mod, ca_lit, tn_c, Int.natCast_zero, bd_some, bd2_some, bindv_e, chk_ok, cr_ok, crl_ok, chd_ok, chb_0, chb_1, cr_bI, chb_bI, ite_bI0, if_true, if_false]
      · have e1 := byte_out (s := en) hB hT (by omega) (by omega)
        have e2 := m_in τ (v := -4) (a := 48) (b := 57) (by omega) (by omega) (by omega)
        rw [bI_f (by omega)] at e2
        simp (disch := omega) only [fX8_readsOn_140, h2, e1, e2, if_pos, Int.reduceAdd, Int.reduceSub, Int.reduceMul, Int.zero_add, Int.add_zero, Nat.zero_add, na_0, ca_la, ca_al, ca_lm, ca_add, ca_mod, ca_lit, tn_c, Int.natCast_zero, bd_some, bd2_some, bindv_e, chk_ok, cr_ok, crl_ok, chd_ok, chb_0, chb_1, cr_bI, chb_bI, ite_bI0, if_true, if_false]
theorem m_fails {τ : Mm} {c : Int} (h : τ 0 4 = 0) : fX8_fails c τ = some (sto (sto τ 0 4 c) 0 5 (τ 0 7)) := by
  unfold fX8_fails
  rw [h, cr_ok (by omega), if_pos rfl, bindv_e, bindv_e, sto_i (by omega)]
  rfl
def frK (τ τ' : Mm) : Prop := (∀ c, c ≠ 0 → τ' c = τ c) ∧ (∀ j, ¬ (4 ≤ j ∧ j ≤ 9) → τ' 0 j = τ 0 j)
theorem frK_s {τ τ' : Mm} {j : Nat} {x : Int} (hj : 4 ≤ j ∧ j ≤ 9) (h : frK τ τ') : frK τ (sto τ' 0 j x) := ⟨fun c hc => by rw [sto_c hc]; exact h.1 c hc, fun i hi => by rw [sto_i (by omega)]; exact h.2 i hi⟩
theorem frK_r (τ : Mm) : frK τ τ := ⟨fun _ _ => rfl, fun _ _ => rfl⟩
theorem frK_t {a b c : Mm} (h : frK a b) (g : frK b c) : frK a c := ⟨fun k hk => (g.1 k hk).trans (h.1 k hk), fun j hj => (g.2 j hj).trans (h.2 j hj)⟩
def RT (τ : Mm) (st k e : Nat) (v : Int) : Prop := (k = 4 ∧ τ 0 4 = 1 ∧ τ 0 5 = (st : Int)) ∨ (k ≤ 3 ∧ τ 0 4 = 0 ∧ τ 0 7 = (st : Int) ∧ τ 0 8 = (k : Int) ∧ τ 0 6 = (e : Int) ∧ (k = 2 → τ 0 9 = v))
theorem m_readsOn {n : Nat} {b : Nat → Int} {s st k e : Nat} {v : Int} {τ : Mm} (hB : BT n b) (h : TKN n b s st k e v) (hT : TM τ n b) (h4 : τ 0 4 = 0) (h6 : τ 0 6 = (s : Int)) (hs : s ≤ n) : ∃ τ', fX8_readsOn τ = some τ' ∧ frK τ τ' ∧ RT τ' st k e v := by
  obtain ⟨hR, h⟩ := h
  have hn := hB.1
  have hle := hR.2.1
  have s1 : fX8_readsOn τ = fX8_readsOn_34 (sto τ 0 6 st) := by
    unfold fX8_readsOn
    rw [h4, cr_ok (by omega), if_neg (by omega)]
    unfold lX8_readsOn_8
    exact m_ro8 (e := fun s => fX8_readsOn_34 s) hB 400 s τ hT h6 hR (by omega)
  rw [s1]
  clear s1
  unfold fX8_readsOn_34
  rw [bindv_e, sto_eq]
  have T0 : TM (sto (sto τ 0 6 st) 0 7 st) n b := TM_0 (by omega) (TM_0 (by omega) hT)
  have f0 : frK τ (sto (sto τ 0 6 st) 0 7 st) := frK_s (by omega) (frK_s (by omega) (frK_r τ))
  have a6 : (sto (sto τ 0 6 st) 0 7 st) 0 6 = (st : Int) := by rw [sto_i (by omega), sto_eq]
  have a7 : (sto (sto τ 0 6 st) 0 7 st) 0 7 = (st : Int) := sto_eq _ _ _ _
  have a4 : (sto (sto τ 0 6 st) 0 7 st) 0 4 = 0 := by rw [sto_i (by omega), sto_i (by omega)]; exact h4
  generalize sto (sto τ 0 6 st) 0 7 st = τ1 at *
  have T1 : TM (sto τ1 0 9 0) n b := TM_0 (by omega) T0
  have f1 : frK τ (sto τ1 0 9 0) := frK_s (by omega) f0
  have b6 : (sto τ1 0 9 0) 0 6 = (st : Int) := by rw [sto_i (by omega)]; exact a6
  have b7 : (sto τ1 0 9 0) 0 7 = (st : Int) := by rw [sto_i (by omega)]; exact a7
  have b4 : (sto τ1 0 9 0) 0 4 = 0 := by rw [sto_i (by omega)]; exact a4
  have b9 : (sto τ1 0 9 0) 0 9 = 0 := sto_eq _ _ _ _
  rw [a6]
  rcases h with ⟨q1, q2, q3⟩ | ⟨q1, q2, q3, q4⟩ | ⟨q1, q2, q3, q4⟩ | ⟨q1, q2, q3, q4⟩ | ⟨q1, q2, q3⟩
  · subst q2
    have e1 := byte_out (s := st) hB T0 (by omega) (by omega)
    rw [e1, bd_some, bindv_e, bindv_e]
    generalize sto τ1 0 9 0 = τ2 at *
    rw [cr_ok (by omega), if_pos rfl, bindv_e]
    exact ⟨_, rfl, frK_s (by omega) f1, Or.inr ⟨by omega, by rw [sto_i (by omega)]; exact b4, by rw [sto_i (by omega)]; exact b7, by rw [sto_eq]; rfl, by rw [sto_i (by omega), b6, q1, q3], fun y => by omega⟩⟩
  · subst q3
    have e1 := byte_in hB T0 q1
    have e2 := kd_1.mp q2
    rw [e1, bd_some, bindv_e, bindv_e]
    generalize sto τ1 0 9 0 = τ2 at *
    have e3 := m_in τ2 (v := b st) (a := 97) (b := 122) (by omega) (by omega) (by omega)
    rw [bI_t e2] at e3
    have key : lX8_readsOn_84 (fun s => fX8_readsOn_118 s) 400 τ2 = fX8_readsOn_118 (sto τ2 0 6 e) := by
      unfold lX8_readsOn_84
      exact m_ro84 (e := fun s => fX8_readsOn_118 s) hB 400 st τ2 T1 b6 q4 (by omega)
    rw [cr_ok (by omega), if_neg (by omega), cr_ok (by omega), e3, bd_some, cr_ok (by omega), if_neg (by omega), key]
    unfold fX8_readsOn_118
    rw [bindv_e]
    exact ⟨_, rfl, frK_s (by omega) (frK_s (by omega) f1), Or.inr ⟨by omega, by rw [sto_i (by omega), sto_i (by omega)]; exact b4, by rw [sto_i (by omega), sto_i (by omega)]; exact b7, by rw [sto_eq]; rfl, by rw [sto_i (by omega), sto_eq], fun y => by omega⟩⟩
  · have e1 := byte_in hB T0 q1
    have e2 := kd_2.mp q2
    rw [e1, bd_some, bindv_e, bindv_e]
    generalize sto τ1 0 9 0 = τ2 at *
    have e3 := m_in τ2 (v := b st) (a := 97) (b := 122) (by omega) (by omega) (by omega)
    rw [bI_f (by omega)] at e3
    have e4 := m_in τ2 (v := b st) (a := 48) (b := 57) (by omega) (by omega) (by omega)
    rw [bI_t e2] at e4
    obtain ⟨w, w1, w2⟩ := m_ro140 (e := fun s => fX8_readsOn_217 s) (st := st) hB 400 st τ2 T1 (Nat.le_refl st) b7 b6 (fun _ => by rw [b9, Nat.sub_self]; rfl) q3 (by omega)
    have key : lX8_readsOn_140 (fun s => fX8_readsOn_217 s) 400 τ2 = fX8_readsOn_217 (sto (sto τ2 0 9 w) 0 6 e) := by
      unfold lX8_readsOn_140
      exact w2
    rw [cr_ok (by omega), if_neg (by omega), cr_ok (by omega), e3, bd_some, cr_ok (by omega), if_pos rfl, cr_ok (by omega), e4, bd_some, cr_ok (by omega), if_neg (by omega), key]
    have l1 := q3.1
    have l2 := q3.2.1
    unfold fX8_readsOn_217
    rw [bindv_e]
    have g6 : (sto (sto (sto τ2 0 9 w) 0 6 e) 0 8 2) 0 6 = (e : Int) := by rw [sto_i (by omega), sto_eq]
    have g7 : (sto (sto (sto τ2 0 9 w) 0 6 e) 0 8 2) 0 7 = (st : Int) := by rw [sto_i (by omega), sto_i (by omega), sto_i (by omega)]; exact b7
    have g4 : (sto (sto (sto τ2 0 9 w) 0 6 e) 0 8 2) 0 4 = 0 := by rw [sto_i (by omega), sto_i (by omega), sto_i (by omega)]; exact b4
    have g8 : (sto (sto (sto τ2 0 9 w) 0 6 e) 0 8 2) 0 8 = 2 := sto_eq _ _ _ _
    have g9 : (sto (sto (sto τ2 0 9 w) 0 6 e) 0 8 2) 0 9 = w := by rw [sto_i (by omega), sto_i (by omega), sto_eq]
    have g0 : frK τ (sto (sto (sto τ2 0 9 w) 0 6 e) 0 8 2) := frK_s (by omega) (frK_s (by omega) (frK_s (by omega) f1))
    generalize sto (sto (sto τ2 0 9 w) 0 6 e) 0 8 2 = τ3 at *
    rw [g6, g7, cr_ok (by omega)]
    rcases q4 with ⟨y1, y2, y3⟩ | ⟨y1, y2⟩
    · subst y2
      rw [if_neg (by omega)]
      exact ⟨_, rfl, g0, Or.inr ⟨by omega, g4, g7, g8, g6, fun _ => by rw [g9, w1 y1, y3]⟩⟩
    · subst y2
      rw [if_pos (by omega), m_fails g4, bd_some]
      exact ⟨_, rfl, frK_s (by omega) (frK_s (by omega) g0), Or.inl ⟨rfl, by rw [sto_i (by omega), sto_eq], by rw [sto_eq, g7]⟩⟩
  · subst q3
    have e1 := byte_in hB T0 q1
    have e2 := kd_3.mp q2
    rw [e1, bd_some, bindv_e, bindv_e]
    generalize sto τ1 0 9 0 = τ2 at *
    have e3 := m_in τ2 (v := b st) (a := 97) (b := 122) (by omega) (by omega) (by omega)
    rw [bI_f (by omega)] at e3
    have e4 := m_in τ2 (v := b st) (a := 48) (b := 57) (by omega) (by omega) (by omega)
    rw [bI_f (by omega)] at e4
    rw [cr_ok (by omega), if_neg (by omega), cr_ok (by omega), e3, bd_some, cr_ok (by omega), if_pos rfl, cr_ok (by omega), e4, bd_some, cr_ok (by omega), if_pos rfl, bindv_e, bindv_e, cr_ok (by omega), if_pos e2, sto_i (by omega), b6]
    exact ⟨_, rfl, frK_s (by omega) (frK_s (by omega) f1), Or.inr ⟨by omega, by rw [sto_i (by omega), sto_i (by omega)]; exact b4, by rw [sto_i (by omega), sto_i (by omega)]; exact b7, by rw [sto_i (by omega), sto_eq]; rfl, by rw [sto_eq, q4]; rfl, fun y => by omega⟩⟩
  · subst q3
    have e1 := byte_in hB T0 q1
    have e2 : ¬ kd (b st) = 1 ∧ ¬ kd (b st) = 2 ∧ ¬ kd (b st) = 3 := by omega
    rw [kd_1, kd_2, kd_3] at e2
    have e5 := hB.2 st q1
    rw [e1, bd_some, bindv_e, bindv_e]
    generalize sto τ1 0 9 0 = τ2 at *
    have e3 := m_in τ2 (v := b st) (a := 97) (b := 122) (by omega) (by omega) (by omega)
    rw [bI_f e2.1] at e3
    have e4 := m_in τ2 (v := b st) (a := 48) (b := 57) (by omega) (by omega) (by omega)
    rw [bI_f e2.2.1] at e4
    rw [cr_ok (by omega), if_neg (by omega), cr_ok (by omega), e3, bd_some, cr_ok (by omega), if_pos rfl, cr_ok (by omega), e4, bd_some, cr_ok (by omega), if_pos rfl, bindv_e, bindv_e, cr_ok (by omega), if_neg e2.2.2, m_fails (by rw [sto_i (by omega), sto_i (by omega)]; exact b4), bd_some]
    exact ⟨_, rfl, frK_s (by omega) (frK_s (by omega) (frK_s (by omega) (frK_s (by omega) f1))), Or.inl ⟨rfl, by rw [sto_i (by omega), sto_eq], by rw [sto_eq, sto_i (by omega), sto_i (by omega)]; exact b7⟩⟩
theorem m_ro_broken {τ : Mm} {c : Int} (h : τ 0 4 = c) (hc : 1 ≤ c ∧ c ≤ 9) : fX8_readsOn τ = some τ := by
  unfold fX8_readsOn
  rw [h, cr_ok (by omega), if_pos (by omega)]
def NMW (b : Nat → Int) (st e w : Nat) : Prop := e - st = strLn w ∧ ∀ i, i < strLn w → b (st + i) = strCc w i
theorem str_b {w : Nat} (hw : w < 3) : 3 ≤ strLn w ∧ strLn w ≤ 5 ∧ nOf w + strLn w = nOf (w + 1) ∧ nOf (w + 1) ≤ 12 := by
  rcases (show w = 0 ∨ w = 1 ∨ w = 2 by omega) with rfl | rfl | rfl <;> decide
theorem strc_b {w i : Nat} (hw : w < 3) (hi : i < 5) : 0 ≤ strCc w i ∧ strCc w i ≤ 127 := by
  have key : ∀ w : Fin 3, ∀ i : Fin 5, 0 ≤ strCc w i ∧ strCc w i ≤ 127 := by decide
  exact key ⟨w, hw⟩ ⟨i, hi⟩
theorem c_nameIs {σ : Mm} {n : Nat} {b : Nat → Int} {st e k w : Nat} (hB : BT n b) (hT : TB σ n b) (hw : w < 3) (h3 : σ 3 3 = (k : Int)) (hk : k ≤ 4) (h4 : σ 3 4 = (st : Int)) (h2 : k ≤ 3 → σ 3 2 = (e : Int)) (he : k ≤ 3 → st ≤ e ∧ e ≤ n) : fX2_nameIs w σ = some (bI (k = 1 ∧ NMW b st e w)) := by
  have hn := hB.1
  obtain ⟨l1, l2, -⟩ := str_b hw
  by_cases z : k = 1
  · have h2 := h2 (by omega)
    have he := he (by omega)
    by_cases y : e - st = strLn w
    · have key := it_ex0 (f := fun c => fX2_nameIs_28 w σ (fX2_nameIs_66 w σ) c) (strLn w) (fun i => b (st + i) ≠ strCc w i) (some 0) (some 1) (by omega) (fun c i hi => by
        have e1 := hT.2 (st + i) (by omega)
        have e2 := hB.2 (st + i) (by omega)
        have e3 := strc_b (i := i) hw (by omega)
        simp (disch := omega) only [fX2_nameIs_28, h4, e1, if_pos, Int.reduceAdd, Int.reduceSub, Int.reduceMul, Int.zero_add, Int.add_zero, Nat.zero_add, na_0, ca_la, ca_al, ca_lm, ca_add, ca_mod, ca_lit, tn_c, Int.natCast_zero, bd_some, bd2_some, bindv_e, chk_ok, cr_ok, crl_ok, chd_ok, chb_0, chb_1, cr_bI, chb_bI, ite_bI0, if_true, if_false]
        by_cases q : b (st + i) = strCc w i
        · rw [if_pos q, pI_f (fun y => y q)]
        · rw [if_neg q, pI_t q]) (fun c => by
        simp (disch := omega) only [fX2_nameIs_28, fX2_nameIs_66, if_neg, Int.reduceAdd, Int.reduceSub, Int.reduceMul, Int.zero_add, Int.add_zero, Nat.zero_add, na_0, ca_la, ca_al, ca_lm, ca_add, ca_mod, ca_lit, tn_c, Int.natCast_zero, bd_some, bd2_some, bindv_e, chk_ok, cr_ok, crl_ok, chd_ok, chb_0, chb_1, cr_bI, chb_bI, ite_bI0, if_true, if_false])
      unfold fX2_nameIs
      rw [h3, cr_ok (by omega), if_pos (by omega), h2, h4, cr_ok (by omega), cr_ok (by omega), if_pos (by omega), bindv_e]
      unfold lX2_nameIs_28
      rw [key]
      rw [pI_some']
      refine ob_c ⟨fun q => ⟨z, y, fun i hi => ?_⟩, fun q ⟨i, hi, q2⟩ => q2 (q.2.2 i hi)⟩
      by_cases q3 : b (st + i) = strCc w i
      · exact q3
      · exact absurd ⟨i, hi, q3⟩ q
    · rw [bI_f (fun q => y q.2.1)]
      unfold fX2_nameIs
      rw [h3, cr_ok (by omega), if_pos (by omega), h2, h4, cr_ok (by omega), cr_ok (by omega), if_neg (by omega)]
      rfl
  · rw [bI_f (fun q => z q.1)]
    unfold fX2_nameIs
    rw [h3, cr_ok (by omega), if_neg (by omega)]
    rfl
theorem m_nameHere {τ : Mm} {n : Nat} {b : Nat → Int} {st e k : Nat} (hB : BT n b) (hT : TM τ n b) (hK : KC τ) (h8 : τ 0 8 = (k : Int)) (hk : k ≤ 3) (h7 : τ 0 7 = (st : Int)) (h6 : τ 0 6 = (e : Int)) (he : st ≤ e ∧ e ≤ n) : (∃ w, w < 3 ∧ (k = 1 ∧ NMW b st e w) ∧ (∀ z, z < w → ¬ (k = 1 ∧ NMW b st e z)) ∧ fX8_nameHere τ = some (w : Int)) ∨ ((∀ w, w < 3 → ¬ (k = 1 ∧ NMW b st e w)) ∧ fX8_nameHere τ = some (-4)) := by
  have hn := hB.1
  by_cases z : k = 1
  · have step : ∀ (c : Int → Option Int) (w : Nat), w < 3 → fX8_nameHere_2 τ (fX8_nameHere_117 τ) c (w : Int) = pI (k = 1 ∧ NMW b st e w) (some (w : Int)) (c ((w + 1 : Nat) : Int)) := fun c w hw => by
      obtain ⟨l1, l2, l3, l4⟩ := str_b hw
      have k1 := hK.1 w (by omega)
      have k2 := hK.1 (w + 1) (by omega)
      by_cases y : e - st = strLn w
      · have key := it_flag (f := fun c' => fX8_nameHere_50 w τ (fun v => fX8_nameHere_105 c w v τ) c') (strLn w) (fun i => b (st + i) = strCc w i) (fun v => fX8_nameHere_105 c w v τ) (fun c' i hi => by
          simp (disch := omega) only [fX8_nameHere_50, if_pos, Int.reduceAdd, Int.reduceSub, Int.reduceMul, Int.zero_add, Int.add_zero, Nat.zero_add, na_0, ca_la, ca_al, ca_lm, ca_add, ca_mod, ca_lit, tn_c, Int.natCast_zero, bd_some, bd2_some, bindv_e, chk_ok, cr_ok, crl_ok, chd_ok, chb_0, chb_1, cr_bI, chb_bI, ite_bI0, if_true, if_false]) (fun c' i hi => by
          have e1 := byte_in (s := st + i) hB hT (by omega)
          have e2 := hB.2 (st + i) (by omega)
          have e3 := strc_b (i := i) hw (by omega)
          have e4 := hK.2 w i hw hi
          have e5 : (e : Int) - (st : Int) = ((strLn w : Nat) : Int) := by omega
          simp (disch := omega) only [fX8_nameHere_50, fX8_nameHere_98, h6, h7, e5, e1, k1, e4, if_neg, if_pos, Int.reduceAdd, Int.reduceSub, Int.reduceMul, Int.zero_add, Int.add_zero, Nat.zero_add, na_0, ca_la, ca_al, ca_lm, ca_add, ca_mod, ca_lit, tn_c, Int.natCast_zero, bd_some, bd2_some, bindv_e, chk_ok, cr_ok, crl_ok, chd_ok, chb_0, chb_1, cr_bI, chb_bI, ite_bI0, if_true, if_false]
          by_cases q : b (st + i) = strCc w i
          · rw [if_pos q, bI_t q]
          · rw [if_neg q, bI_f q]) (fun c' v hv => by
          have e5 : (e : Int) - (st : Int) = ((strLn w : Nat) : Int) := by omega
          rcases hv with rfl | rfl
          · simp (disch := omega) only [fX8_nameHere_50, if_pos, Int.reduceAdd, Int.reduceSub, Int.reduceMul, Int.zero_add, Int.add_zero, Nat.zero_add, na_0, ca_la, ca_al, ca_lm, ca_add, ca_mod, ca_lit, tn_c, Int.natCast_zero, bd_some, bd2_some, bindv_e, chk_ok, cr_ok, crl_ok, chd_ok, chb_0, chb_1, cr_bI, chb_bI, ite_bI0, if_true, if_false]
          · simp (disch := omega) only [fX8_nameHere_50, h6, h7, e5, if_neg, Int.reduceAdd, Int.reduceSub, Int.reduceMul, Int.zero_add, Int.add_zero, Nat.zero_add, na_0, ca_la, ca_al, ca_lm, ca_add, ca_mod, ca_lit, tn_c, Int.natCast_zero, bd_some, bd2_some, bindv_e, chk_ok, cr_ok, crl_ok, chd_ok, chb_0, chb_1, cr_bI, chb_bI, ite_bI0, if_true, if_false]) 400 0 True (by omega) (by omega)
        rw [bI_t trivial] at key
        have k3 : lX8_nameHere_50 w τ (fun v => fX8_nameHere_105 c w v τ) 400 1 0 = fX8_nameHere_105 c w (bI (True ∧ ∀ j, 0 ≤ j → j < strLn w → b (st + j) = strCc w j)) τ := by
          unfold lX8_nameHere_50
          exact key
        have e6 : (nOf (w + 1) : Int) - (nOf w : Int) = ((strLn w : Nat) : Int) := by omega
        have e5 : (e : Int) - (st : Int) = ((strLn w : Nat) : Int) := by omega
        unfold fX8_nameHere_2
        rw [cr_ok (by omega), if_pos (by omega), h8, cr_ok (by omega), if_pos (by omega), chk_ok (by omega), chk_ok (by omega), h6, h7, tn_c, show ((w : Int) + 1).toNat = w + 1 by omega, k1, k2, e5, e6, cr_ok (by omega), cr_ok (by omega), if_pos rfl]
        unfold fX8_nameHere_47
        rw [bindv_e, bindv_e, k3]
        by_cases q : NMW b st e w
        · rw [bI_t ⟨trivial, fun j _ hj => q.2 j hj⟩, pI_t ⟨z, q⟩]
          unfold fX8_nameHere_105
          rw [cr_ok (by omega), if_neg (by omega)]
        · rw [bI_f (fun q2 => q ⟨y, fun j hj => q2.2 j (Nat.zero_le j) hj⟩), pI_f (fun q2 => q q2.2)]
          unfold fX8_nameHere_105
          rw [cr_ok (by omega), if_pos rfl, bindv_e]
          rfl
      · rw [pI_f (fun q => y q.2.1)]
        have k3 : lX8_nameHere_50 w τ (fun v => fX8_nameHere_105 c w v τ) 400 0 0 = fX8_nameHere_105 c w 0 τ := by
          unfold lX8_nameHere_50
          rw [show (400 : Nat) = 399 + 1 from rfl, itN_s]
          generalize itN (fun _ _ => none) (fun c50 => fX8_nameHere_50 w τ (fun v => fX8_nameHere_105 c w v τ) c50) 399 = cc
          unfold fX8_nameHere_50
          rw [cr_ok (by omega), if_pos rfl]
        unfold fX8_nameHere_2
        rw [cr_ok (by omega), if_pos (by omega), h8, cr_ok (by omega), if_pos (by omega), chk_ok (by omega), chk_ok (by omega), h6, h7, tn_c, show ((w : Int) + 1).toNat = w + 1 by omega, k1, k2, cr_ok (by omega), cr_ok (by omega), if_neg (by omega)]
        unfold fX8_nameHere_47
        rw [bindv_e, bindv_e, k3]
        unfold fX8_nameHere_105
        rw [cr_ok (by omega), if_pos rfl, bindv_e]
        rfl
    have key := it_first (f := fun c => fX8_nameHere_2 τ (fX8_nameHere_117 τ) c) 3 (fun w => k = 1 ∧ NMW b st e w) (fun w => some (w : Int)) (some (-4)) (fun c w hw => step c w hw) (fun c => by
      unfold fX8_nameHere_2
      rw [cr_ok (by omega), if_neg (by omega)]
      rfl) 400 0 (by omega) (by omega)
    have b0 : fX8_nameHere τ = itN (fun _ => none) (fun c => fX8_nameHere_2 τ (fX8_nameHere_117 τ) c) 400 ((0 : Nat) : Int) := by
      unfold fX8_nameHere
      rw [bindv_e]
      unfold lX8_nameHere_2
      rw [Int.natCast_zero]
    rw [b0]
    rcases key with ⟨w, -, h2, h3, h4, h5⟩ | ⟨h1, h2⟩
    · exact Or.inl ⟨w, h2, h3, fun q hq => h4 q (Nat.zero_le q) hq, h5⟩
    · exact Or.inr ⟨fun w hw => h1 w (Nat.zero_le w) hw, h2⟩
  · refine Or.inr ⟨fun w hw q => z q.1, ?_⟩
    unfold fX8_nameHere
    rw [bindv_e]
    unfold lX8_nameHere_2
    rw [show (400 : Nat) = 399 + 1 from rfl, itN_s]
    generalize itN (fun _ => none) (fun c2 => fX8_nameHere_2 τ (fX8_nameHere_117 τ) c2) 399 = cc
    unfold fX8_nameHere_2
    rw [cr_ok (by omega), if_pos (by omega), h8, cr_ok (by omega), if_neg (by omega)]
    rfl
