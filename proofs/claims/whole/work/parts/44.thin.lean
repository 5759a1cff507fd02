/-! the class's stages -/
/-- what stages change -/
def frT (σ σ' : Mm) : Prop := (∀ k, k ≠ 9 → k ≠ 10 → k ≠ 11 → k ≠ 12 → k ≠ 15 → k ≠ 16 → k ≠ 17 → (k < 29 ∨ 35 ≤ k) → σ' k = σ k)
theorem frT_t {a b c : Mm} (h : frT a b) (g : frT b c) : frT a c := fun k h1 h2 h3 h4 h5 h6 h7 h8 => (g k h1 h2 h3 h4 h5 h6 h7 h8).trans (h k h1 h2 h3 h4 h5 h6 h7 h8)
theorem frS_T {a b : Mm} (h : frS a b) : frT a b := fun k _ _ _ _ h5 h6 h7 h8 => h k h5 h6 h7 h8
theorem frT_CL {σ σ' : Mm} {L : Ld} (hf : frT σ σ') (h : CL σ 95 L) : CL σ' 95 L := by
  obtain ⟨h1, h2, h3, h4, h5, h6, h7⟩ := h
  have e : ∀ k, 95 ≤ k → σ' k = σ k := fun k hk => hf k (by omega) (by omega) (by omega) (by omega) (by omega) (by omega) (by omega) (by omega)
  refine ⟨?_, ?_, fun p hp => ?_, fun p hp => ?_, fun p hp => ?_, fun r hr => ?_, fun r i hr hi => ?_⟩
  · rw [e _ (by omega)]; exact h1
  · rw [e _ (by omega)]; exact h2
  · rw [e _ (by omega)]; exact h3 p hp
  · rw [e _ (by omega)]; exact h4 p hp
  · rw [e _ (by omega)]; exact h5 p hp
  · rw [e _ (by omega)]; exact h6 r hr
  · rw [e _ (by omega)]; exact h7 r i hr hi
theorem EDG_c {σ σ' : Mm} {k : Nat} {L : Ld} (e0 : σ' k 11 = σ k 11) (e : ∀ j, k + 6 ≤ j → j ≤ k + 9 → σ' j = σ j) (h : EDG σ k L) : EDG σ' k L := by
  obtain ⟨ne, A, B, ⟨h1, h2, h3, h4, h5, h6⟩, g1, g2, g3, g4, g5, g6, g7⟩ := h
  refine ⟨ne, A, B, ⟨by rw [e0]; exact h1, h2, fun j hj => by rw [e _ (by omega) (by omega)]; exact h3 j hj, fun j hj => by rw [e _ (by omega) (by omega)]; exact h4 j hj, h5, h6⟩, g1, fun j hj => by rw [e _ (by omega) (by omega)]; exact g2 j hj, g3, g4, g5, fun p hp => by rw [e _ (by omega) (by omega)]; exact g6 p hp, g7⟩
theorem frT_EDG {σ σ' : Mm} {L : Ld} (hf : frT σ σ') (h : EDG σ 95 L) : EDG σ' 95 L := by
  have e : ∀ k, 95 ≤ k → σ' k = σ k := fun k hk => hf k (by omega) (by omega) (by omega) (by omega) (by omega) (by omega) (by omega) (by omega)
  exact EDG_c (by rw [e 95 (by omega)]) (fun j h1 h2 => e j (by omega)) h
theorem SCN_SC0 {σ : Mm} {L : Ld} {gb : Nat → Nat} (h : SC σ L L) : SC σ L (SCN L gb 0) := by
  refine ⟨fun r hr => ?_, fun r i hr hi => ?_⟩
  · rw [SCN_0.1]; exact h.1 r hr
  · rw [SCN_0.1] at hi
    rw [SCN_0.2 i hi]; exact h.2 r i hr hi
theorem SZ_b {L : Ld} {al : Nat → Bool} {p : Nat} (hw : WF L) (hc : CAND L (dr L al) al p) : 0 ≤ SZ L (dr L al) p ∧ SZ L (dr L al) p ≤ 79202 := by
  have hS := dr_SWL hw al
  obtain ⟨x, y, hN⟩ := NB_ex (hH (WHY_0 hc.2).1 (WHY_0 hc.2).2.1)
  have hl := NB_lt hS hN
  unfold SZ
  rw [nbF_e hS hN]
  exact abI_b (TR_b hw hl.1 hl.2 hc.1)
/-- the search of one stage -/
theorem c_best {σ : Mm} {L : Ld} {gb : Nat → Nat} {s : Nat} {v : Int} {e : Int → Int → Mm → Option Mm} (hw : WF L) (h : CL σ 95 L) (hE : EDG σ 95 L) (hC : SC σ L (SCN L gb s)) (hT : TH σ L (alG gb s)) : ∃ b l σ', BI L (SCN L gb s) (alG gb s) (-1) L.np b l ∧ f17 σ σ' ∧ lX5_thin_48 v e 400 (-1) 0 0 σ = e b l σ' := by
  have hnp := hw.1
  have hS := SCN_SW hw gb s
  obtain ⟨b, l, σ', ⟨i1, i2⟩, e1⟩ := it_inv4 (f := fun c => fX5_thin_48 v e c) L.np (fun i b l t => BI L (SCN L gb s) (alG gb s) (-1) i b l ∧ f17 σ t) e (fun c i b l t hi hI => by
    obtain ⟨q1, q2⟩ := hI
    have hCL := frS_CL (f17_frS q2) h
    have hEE := frT_EDG (frS_T (f17_frS q2)) hE
    have hC' := f17_SC q2 hC hw
    have hT' := f17_TH q2 hT
    obtain ⟨hP, -⟩ := CL95 hCL
    obtain ⟨tv, t1, t2, t3⟩ := c_triangleOf hw hCL hS hC' hi
    obtain ⟨t', r1, r2⟩ := c_reasonOf (al := alG gb s) hw hCL hEE hS hC' hT' hH hi
    have wb := WHY_b L (SCN L gb s) (alG gb s) i
    have hcand : WHY L (SCN L gb s) (alG gb s) i = 0 → CAND L (SCN L gb s) (alG gb s) i ∧ tv = SZ L (SCN L gb s) i := fun z => ⟨⟨hi, z⟩, t3 (hH (WHY_0 z).1 (WHY_0 z).2.1)⟩
    have bnd : -1 ≤ b ∧ b < 24 := by
      rcases q1 with ⟨a, -⟩ | ⟨p, a1, a2, -⟩ <;> omega
    have lbd : b ≠ -1 → 0 ≤ l ∧ l ≤ 79202 := by
      intro hb
      rcases q1 with ⟨a, -⟩ | ⟨p, a1, a2, a3, a4, -⟩
      · exact absurd a hb
      · rw [a3]
        exact SZ_b hw a4
    have f17' : f17 σ t' := fun k hk => (r2 k hk).trans (q2 k hk)
    by_cases w0 : b < 0
    · by_cases w1 : WHY L (SCN L gb s) (alG gb s) i = 0
      · obtain ⟨c1, c2⟩ := hcand w1
        refine ⟨(i : Int), tv, t', ⟨by rw [c2]; exact BI_new q1 c1 (Or.inl (by omega)) (by omega), f17'⟩, ?_⟩
        rw [w1] at r1
        simp (disch := omega) only [fX5_thin_48, fX5_thin_81, fX5_thin_99, hP, t1, r1, if_pos, Int.reduceAdd, Int.reduceSub, Int.reduceMul, Int.zero_add, Int.add_zero, Nat.zero_add, na_0, ca_la, ca_al, ca_lm, ca_add, ca_mod, ca_lit, tn_c, Int.natCast_zero, bd_some, bd2_some, bindv_e, chk_ok, cr_ok, crl_ok, chd_ok, chb_0, chb_1, cr_bI, chb_bI, ite_bI0, if_true, if_false]
      · refine ⟨b, l, t', ⟨BI_keep q1 (fun z => w1 z.2), f17'⟩, ?_⟩
        simp (disch := omega) only [fX5_thin_48, fX5_thin_81, fX5_thin_99, hP, t1, r1, if_pos, if_neg, Int.reduceAdd, Int.reduceSub, Int.reduceMul, Int.zero_add, Int.add_zero, Nat.zero_add, na_0, ca_la, ca_al, ca_lm, ca_add, ca_mod, ca_lit, tn_c, Int.natCast_zero, bd_some, bd2_some, bindv_e, chk_ok, cr_ok, crl_ok, chd_ok, chb_0, chb_1, cr_bI, chb_bI, ite_bI0, if_true, if_false]
    · have lb := lbd (by omega)
      by_cases w2 : tv < l
      · by_cases w1 : WHY L (SCN L gb s) (alG gb s) i = 0
        · obtain ⟨c1, c2⟩ := hcand w1
          refine ⟨(i : Int), tv, t', ⟨by rw [c2]; exact BI_new q1 c1 (Or.inr (by rw [← c2]; exact w2)) (by omega), f17'⟩, ?_⟩
          rw [w1] at r1
          simp (disch := omega) only [fX5_thin_48, fX5_thin_81, fX5_thin_99, hP, t1, r1, if_pos, if_neg, Int.reduceAdd, Int.reduceSub, Int.reduceMul, Int.zero_add, Int.add_zero, Nat.zero_add, na_0, ca_la, ca_al, ca_lm, ca_add, ca_mod, ca_lit, tn_c, Int.natCast_zero, bd_some, bd2_some, bindv_e, chk_ok, cr_ok, crl_ok, chd_ok, chb_0, chb_1, cr_bI, chb_bI, ite_bI0, if_true, if_false]
        · refine ⟨b, l, t', ⟨BI_keep q1 (fun z => w1 z.2), f17'⟩, ?_⟩
          simp (disch := omega) only [fX5_thin_48, fX5_thin_81, fX5_thin_99, hP, t1, r1, if_pos, if_neg, Int.reduceAdd, Int.reduceSub, Int.reduceMul, Int.zero_add, Int.add_zero, Nat.zero_add, na_0, ca_la, ca_al, ca_lm, ca_add, ca_mod, ca_lit, tn_c, Int.natCast_zero, bd_some, bd2_some, bindv_e, chk_ok, cr_ok, crl_ok, chd_ok, chb_0, chb_1, cr_bI, chb_bI, ite_bI0, if_true, if_false]
      · refine ⟨b, l, t, ⟨BI_old q1 (by omega) (fun z => by rw [← (hcand z.2).2]; exact w2), q2⟩, ?_⟩
        simp (disch := omega) only [fX5_thin_48, fX5_thin_81, fX5_thin_99, hP, t1, if_pos, if_neg, Int.reduceAdd, Int.reduceSub, Int.reduceMul, Int.zero_add, Int.add_zero, Nat.zero_add, na_0, ca_la, ca_al, ca_lm, ca_add, ca_mod, ca_lit, tn_c, Int.natCast_zero, bd_some, bd2_some, bindv_e, chk_ok, cr_ok, crl_ok, chd_ok, chb_0, chb_1, cr_bI, chb_bI, ite_bI0, if_true, if_false]) (fun c b l t hI => by
    obtain ⟨hP, -⟩ := CL95 (frS_CL (f17_frS hI.2) h)
    simp (disch := omega) only [fX5_thin_48, hP, if_neg, Int.reduceAdd, Int.reduceSub, Int.reduceMul, Int.zero_add, Int.add_zero, Nat.zero_add, na_0, ca_la, ca_al, ca_lm, ca_add, ca_mod, ca_lit, tn_c, Int.natCast_zero, bd_some, bd2_some, bindv_e, chk_ok, cr_ok, crl_ok, chd_ok, chb_0, chb_1, cr_bI, chb_bI, ite_bI0, if_true, if_false]) 400 0 (-1) 0 σ (Nat.zero_le _) (by omega) ⟨Or.inl ⟨rfl, fun q hq => by omega⟩, fun _ _ => rfl⟩
  exact ⟨b, l, σ', i1, i2, by simp only [lX5_thin_48]; exact e1⟩
/-- the class's stages as they are kept -/
def STP (σ : Mm) (L : Ld) (gb : Nat → Nat) (sz : Nat → Int) (n : Nat) : Prop := σ 9 4 = (n : Int) ∧ (∀ s, 1 ≤ s → s ≤ n → σ 10 s = (gb s : Int)) ∧ (∀ s, 1 ≤ s → s ≤ n → σ 11 s = sz s) ∧ (∀ p, p < L.np → σ 12 p = (gaF gb n p : Int))
def STG (σ : Mm) (L : Ld) : Prop := ∃ gb sz n, RUN L gb sz n ∧ STP σ L gb sz n
theorem PRE_c {L : Ld} {gb gb' : Nat → Nat} {sz sz' : Nat → Int} {n : Nat} (h : PRE L gb sz n) (h1 : ∀ j, 1 ≤ j → j ≤ n → gb j = gb' j) (h2 : ∀ j, 1 ≤ j → j ≤ n → sz j = sz' j) : PRE L gb' sz' n := by
  intro s hs
  have e1 := SCN_c (L := L) (s := s) (fun j a b => h1 j a (by omega))
  have e2 := alG_c (s := s) (fun j a b => h1 j a (by omega))
  rw [← e1, ← e2, ← h1 (s + 1) (by omega) (by omega), ← h2 (s + 1) (by omega) (by omega)]
  exact h s hs
theorem gaF_c {gb gb' : Nat → Nat} : ∀ {s : Nat}, (∀ j, 1 ≤ j → j ≤ s → gb j = gb' j) → ∀ p, gaF gb s p = gaF gb' s p
  | 0, _, _ => rfl
  | s + 1, h, p => by
    show (if gb (s + 1) = p then s + 1 else gaF gb s p) = (if gb' (s + 1) = p then s + 1 else gaF gb' s p)
    rw [h (s + 1) (by omega) (Nat.le_refl _), gaF_c (s := s) (fun j a b => h j a (by omega)) p]
theorem c_noteGone {σ : Mm} {L : Ld} {gb : Nat → Nat} {sz : Nat → Int} {n p : Nat} {v : Int} (hw : WF L) (h : CL σ 95 L) (hp : p < L.np) (hn : n < 24) (hSt : STP σ L gb sz n) (hC : SC σ L (SCN L gb n)) (hT : TH σ L (alG gb n)) : ∃ σ', fX5_noteGone p ((n + 1 : Nat) : Int) v σ = some σ' ∧ STP σ' L (upN gb (n + 1) p) (upZ sz (n + 1) v) (n + 1) ∧ SC σ' L (SCN L (upN gb (n + 1) p) (n + 1)) ∧ TH σ' L (alG (upN gb (n + 1) p) (n + 1)) ∧ frT σ σ' := by
  have hnp := hw.1
  obtain ⟨h1, h2, h3, h4⟩ := hSt
  have keep : ∀ j, 1 ≤ j → j ≤ n → gb j = upN gb (n + 1) p j := fun j a b => (upN_ne (by omega)).symm
  have eS := SCN_c (L := L) keep
  have eA := alG_c keep
  have eG := gaF_c keep
  generalize hτ : sto (sto (sto (sto σ 9 4 ((n + 1 : Nat) : Int)) 10 (n + 1) (p : Int)) 11 (n + 1) v) 12 p ((n + 1 : Nat) : Int) = τ
  have fr : frT σ τ := fun k a1 a2 a3 a4 _ _ _ _ => by
    rw [← hτ, sto_c a4, sto_c a3, sto_c a2, sto_c a1]
  have hC' : SC τ L (SCN L gb n) := ⟨fun r hr => by rw [← hτ, sto_k (by omega), sto_k (by omega), sto_k (by omega), sto_k (by omega)]; exact hC.1 r hr, fun r i hr hi => by rw [← hτ, sto_k (by omega), sto_k (by omega), sto_k (by omega), sto_k (by omega)]; exact hC.2 r i hr hi⟩
  have hT' : TH τ L (alG gb n) := fun q hq => by rw [← hτ, sto_k (by omega), sto_k (by omega), sto_k (by omega), sto_k (by omega)]; exact hT q hq
  obtain ⟨σ', d1, d2, d3, d4⟩ := c_dropPoint hw (frT_CL fr h) (SCN_SW hw gb n) hC' hT' hp
  refine ⟨σ', ?_, ⟨?_, fun s a b => ?_, fun s a b => ?_, fun q hq => ?_⟩, ?_, ?_, frT_t fr (frS_T d4)⟩
  · simp (disch := omega) only [fX5_noteGone, Int.reduceAdd, Int.reduceSub, Int.reduceMul, Int.zero_add, Int.add_zero, Nat.zero_add, na_0, ca_la, ca_al, ca_lm, ca_add, ca_mod, ca_lit, tn_c, Int.natCast_zero, bd_some, bd2_some, bindv_e, chk_ok, cr_ok, crl_ok, chd_ok, chb_0, chb_1, cr_bI, chb_bI, ite_bI0, if_true, if_false]
    rw [hτ, d1]
    rfl
  · rw [d4 9 (by omega) (by omega) (by omega) (by omega), ← hτ, sto_k (by omega), sto_k (by omega), sto_k (by omega), sto_eq]
  · rw [d4 10 (by omega) (by omega) (by omega) (by omega), ← hτ, sto_k (by omega), sto_k (by omega), sto_at]
    by_cases e : s = n + 1
    · rw [if_pos ⟨rfl, e⟩, e, upN_eq]
    · rw [if_neg (by omega), upN_ne e, sto_k (by omega)]; exact h2 s a (by omega)
  · rw [d4 11 (by omega) (by omega) (by omega) (by omega), ← hτ, sto_k (by omega), sto_at]
    unfold upZ
    by_cases e : s = n + 1
    · rw [if_pos ⟨rfl, e⟩, if_pos e]
    · rw [if_neg (by omega), if_neg e, sto_k (by omega), sto_k (by omega)]; exact h3 s a (by omega)
  · rw [d4 12 (by omega) (by omega) (by omega) (by omega), ← hτ, sto_at]
    show _ = (((if upN gb (n + 1) p (n + 1) = q then n + 1 else gaF (upN gb (n + 1) p) n q) : Nat) : Int)
    rw [upN_eq]
    by_cases e : q = p
    · rw [if_pos ⟨rfl, e⟩, if_pos e.symm]
    · rw [if_neg (by omega), if_neg (Ne.symm e), sto_k (by omega), sto_k (by omega), sto_k (by omega), ← eG q]; exact h4 q hq
  · rw [SCN_s, ← eS, upN_eq]; exact d2
  · intro q hq
    rw [d3 q hq]
    apply bI_c
    show _ ↔ (alG (upN gb (n + 1) p) n q && q != upN gb (n + 1) p (n + 1)) = true
    rw [upN_eq, ← eA]
theorem c_thin {σ : Mm} {L : Ld} (hw : WF L) (hF : FAIR L) (h : CL σ 95 L) (hE : EDG σ 95 L) : ∃ σ', fX5_thin σ = some σ' ∧ STG σ' L ∧ frT σ σ' := by
  have hnp := hw.1
  obtain ⟨σ1, ⟨i1, i2, i3⟩, e1⟩ := it_inv0 (f := fun c => fX5_thin_7 (fun s => fX5_thin_26 s) c) 24 (fun n s => frT σ s ∧ s 9 4 = 0 ∧ ∀ p, p < n → s 12 p = 0) (fun s => fX5_thin_26 s) (sto σ 9 4 0) (by omega) ⟨fun k a1 _ _ _ _ _ _ _ => sto_c a1, sto_eq _ _ _ _, fun p hp => by omega⟩ (fun c i s hi hI => by
    obtain ⟨q1, q2, q3⟩ := hI
    refine ⟨sto s 12 i 0, ⟨fun k a1 a2 a3 a4 a5 a6 a7 a8 => by rw [sto_c a4]; exact q1 k a1 a2 a3 a4 a5 a6 a7 a8, by rw [sto_k (by omega)]; exact q2, fun p hp => ?_⟩, ?_⟩
    · rw [sto_at]
      split
      · rfl
      · exact q3 p (by omega)
    · simp (disch := omega) only [fX5_thin_7, if_pos, Int.reduceAdd, Int.reduceSub, Int.reduceMul, Int.zero_add, Int.add_zero, Nat.zero_add, na_0, ca_la, ca_al, ca_lm, ca_add, ca_mod, ca_lit, tn_c, Int.natCast_zero, bd_some, bd2_some, bindv_e, chk_ok, cr_ok, crl_ok, chd_ok, chb_0, chb_1, cr_bI, chb_bI, ite_bI0, if_true, if_false]) (fun c s hI => by
    simp (disch := omega) only [fX5_thin_7, if_neg, Int.reduceAdd, Int.reduceSub, Int.reduceMul, Int.zero_add, Int.add_zero, Nat.zero_add, na_0, ca_la, ca_al, ca_lm, ca_add, ca_mod, ca_lit, tn_c, Int.natCast_zero, bd_some, bd2_some, bindv_e, chk_ok, cr_ok, crl_ok, chd_ok, chb_0, chb_1, cr_bI, chb_bI, ite_bI0, if_true, if_false])
  obtain ⟨σ2, s1, s2, s3, s4⟩ := c_showAll hw (frT_CL i1 h)
  have hD := it_stop (f := fun c => fX5_thin_35 (fun s => fX5_thin_125 s) c) 25 (fun i s => 1 ≤ i ∧ frT σ s ∧ ∃ gb sz, PRE L gb sz (i - 1) ∧ STP s L gb sz (i - 1) ∧ SC s L (SCN L gb (i - 1)) ∧ TH s L (alG gb (i - 1))) (fun o => ∃ σ', o = some σ' ∧ STG σ' L ∧ frT σ σ') (fun c i s hi hI => by
    obtain ⟨q0, q1, gb, sz, q2, q3, q4, q5⟩ := hI
    have hle := PRE_le q2
    by_cases w : 24 < i
    · left
      refine ⟨s, ?_, ⟨gb, sz, i - 1, ⟨q2, PRE_full q2 (by omega)⟩, q3⟩, q1⟩
      simp (disch := omega) only [fX5_thin_35, fX5_thin_125, if_pos, Int.reduceAdd, Int.reduceSub, Int.reduceMul, Int.zero_add, Int.add_zero, Nat.zero_add, na_0, ca_la, ca_al, ca_lm, ca_add, ca_mod, ca_lit, tn_c, Int.natCast_zero, bd_some, bd2_some, bindv_e, chk_ok, cr_ok, crl_ok, chd_ok, chb_0, chb_1, cr_bI, chb_bI, ite_bI0, if_true, if_false]
    · obtain ⟨b, l, s', b1, b2, b3⟩ := c_best (v := (i : Int)) (e := fun b l t => fX5_thin_105 c (fun s => fX5_thin_125 s) i b l t) hw (frT_CL q1 h) (frT_EDG q1 hE) q4 q5
      have base : fX5_thin_35 (fun s => fX5_thin_125 s) c (i : Int) s = fX5_thin_105 c (fun s => fX5_thin_125 s) i b l s' := by
        rw [← b3]
        simp (disch := omega) only [fX5_thin_35, if_neg, Int.reduceAdd, Int.reduceSub, Int.reduceMul, Int.zero_add, Int.add_zero, Nat.zero_add, na_0, ca_la, ca_al, ca_lm, ca_add, ca_mod, ca_lit, tn_c, Int.natCast_zero, bd_some, bd2_some, bindv_e, chk_ok, cr_ok, crl_ok, chd_ok, chb_0, chb_1, cr_bI, chb_bI, ite_bI0, if_true, if_false]
      have q1' := frT_t q1 (frS_T (f17_frS b2))
      have q3' : STP s' L gb sz (i - 1) := by
        obtain ⟨x1, x2, x3, x4⟩ := q3
        exact ⟨by rw [b2 9 (by omega)]; exact x1, fun s a b => by rw [b2 10 (by omega)]; exact x2 s a b, fun s a b => by rw [b2 11 (by omega)]; exact x3 s a b, fun p hp => by rw [b2 12 (by omega)]; exact x4 p hp⟩
      rcases BI_end b1 with ⟨z1, z2⟩ | ⟨p, z1, z2, z3⟩
      · left
        refine ⟨s', ?_, ⟨gb, sz, i - 1, ⟨q2, z2⟩, q3'⟩, q1'⟩
        show fX5_thin_35 (fun s => fX5_thin_125 s) c (i : Int) s = _
        rw [base]
        simp (disch := omega) only [fX5_thin_105, fX5_thin_125, if_pos, Int.reduceAdd, Int.reduceSub, Int.reduceMul, Int.zero_add, Int.add_zero, Nat.zero_add, na_0, ca_la, ca_al, ca_lm, ca_add, ca_mod, ca_lit, tn_c, Int.natCast_zero, bd_some, bd2_some, bindv_e, chk_ok, cr_ok, crl_ok, chd_ok, chb_0, chb_1, cr_bI, chb_bI, ite_bI0, if_true, if_false]
      · right
        have hp := z3.1.1
        obtain ⟨s'', n1, n2, n3, n4, n5⟩ := c_noteGone (p := p) (v := l) hw (frT_CL q1' h) hp (show i - 1 < 24 by omega) q3' (f17_SC b2 q4 hw) (f17_TH b2 q5)
        rw [show i - 1 + 1 = i by omega] at n1 n2 n3 n4
        refine ⟨by omega, s'', ⟨by omega, frT_t q1' n5, upN gb i p, upZ sz i l, ?_, ?_, ?_, ?_⟩, ?_⟩
        · rw [show i + 1 - 1 = i by omega]
          have hc := PRE_c (gb' := upN gb i p) (sz' := upZ sz i l) q2 (fun j a b => (upN_ne (by omega)).symm) (fun j a b => (if_neg (by omega)).symm)
          intro t ht
          by_cases e : t < i - 1
          · exact hc t e
          · have et : t = i - 1 := by omega
            subst et
            rw [show i - 1 + 1 = i by omega]
            have eS := SCN_c (L := L) (gb := gb) (gb' := upN gb i p) (s := i - 1) (fun j a b => (upN_ne (by omega)).symm)
            have eA := alG_c (gb := gb) (gb' := upN gb i p) (s := i - 1) (fun j a b => (upN_ne (by omega)).symm)
            rw [← eS, ← eA, upN_eq]
            refine ⟨z3, ?_⟩
            unfold upZ
            rw [if_pos rfl]
            exact z2
        · exact n2
        · exact n3
        · exact n4
        · show fX5_thin_35 (fun s => fX5_thin_125 s) c (i : Int) s = _
          rw [base]
          simp (disch := omega) only [fX5_thin_105, z1, n1, if_neg, Int.reduceAdd, Int.reduceSub, Int.reduceMul, Int.zero_add, Int.add_zero, Nat.zero_add, na_0, ca_la, ca_al, ca_lm, ca_add, ca_mod, ca_lit, tn_c, Int.natCast_zero, bd_some, bd2_some, bindv_e, chk_ok, cr_ok, crl_ok, chd_ok, chb_0, chb_1, cr_bI, chb_bI, ite_bI0, if_true, if_false]) 400 1 σ2 (by omega) (by omega) ⟨by omega, frT_t i1 (frS_T s4), fun _ => 0, fun _ => 0, fun s hs => by omega, ⟨by rw [s4 9 (by omega) (by omega) (by omega) (by omega), i2]; rfl, fun s a b => by omega, fun s a b => by omega, fun p hp => by rw [s4 12 (by omega) (by omega) (by omega) (by omega), i3 p (by omega)]; rfl⟩, SCN_SC0 s2, s3⟩
  rw [show ((1 : Nat) : Int) = 1 from rfl] at hD
  obtain ⟨σ', d1, d2, d3⟩ := hD
  refine ⟨σ', ?_, d2, d3⟩
  simp only [fX5_thin, lX5_thin_7, bindv_e]
  rw [e1]
  simp only [fX5_thin_26, s1, bd_some, lX5_thin_35, bindv_e]
  rw [d1]
theorem c_sceneAt {σ : Mm} {L : Ld} {gb : Nat → Nat} {sz : Nat → Int} {n s : Nat} (hw : WF L) (h : CL σ 95 L) (hR : PRE L gb sz n) (hSt : STP σ L gb sz n) (hs : s ≤ n) : ∃ σ', fX5_sceneAt s σ = some σ' ∧ SC σ' L (SCN L gb s) ∧ TH σ' L (alG gb s) ∧ frS σ σ' := by
  have hnp := hw.1
  have hle := PRE_le hR
  obtain ⟨σ1, s1, s2, s3, s4⟩ := c_showAll hw h
  obtain ⟨σ2, ⟨i0, i1, i2, i3⟩, e2⟩ := it_inv (f := fun c => fX5_sceneAt_9 s (fun t => fX5_sceneAt_41 t) c) (s + 1) (fun i t => 1 ≤ i ∧ frS σ t ∧ SC t L (SCN L gb (i - 1)) ∧ TH t L (alG gb (i - 1))) (fun t => some t) (fun c i t hi hI => by
    obtain ⟨q0, q1, q2, q3⟩ := hI
    have c1 : t 9 4 = (n : Int) := by rw [q1 9 (by omega) (by omega) (by omega) (by omega)]; exact hSt.1
    have c2 : t 10 i = (gb i : Int) := by rw [q1 10 (by omega) (by omega) (by omega) (by omega)]; exact hSt.2.1 i q0 (by omega)
    have hb := (hR (i - 1) (by omega)).1.1.1
    rw [show i - 1 + 1 = i by omega] at hb
    obtain ⟨t', d1, d2, d3, d4⟩ := c_dropPoint hw (frS_CL q1 h) (SCN_SW hw gb (i - 1)) q2 q3 hb
    have e1 := SCN_s L gb (i - 1)
    rw [show i - 1 + 1 = i by omega] at e1
    refine ⟨t', ⟨by omega, frS_t q1 d4, ?_, ?_⟩, ?_⟩
    · rw [show i + 1 - 1 = i by omega, e1]; exact d2
    · rw [show i + 1 - 1 = i by omega]
      intro q hq
      rw [d3 q hq]
      apply bI_c
      rw [show alG gb i q = alG gb (i - 1 + 1) q by rw [show i - 1 + 1 = i by omega]]
      show _ ↔ (alG gb (i - 1) q && q != gb (i - 1 + 1)) = true
      rw [show i - 1 + 1 = i by omega]
    · simp (disch := omega) only [fX5_sceneAt_9, c1, c2, d1, if_neg, Int.reduceAdd, Int.reduceSub, Int.reduceMul, Int.zero_add, Int.add_zero, Nat.zero_add, na_0, ca_la, ca_al, ca_lm, ca_add, ca_mod, ca_lit, tn_c, Int.natCast_zero, bd_some, bd2_some, bindv_e, chk_ok, cr_ok, crl_ok, chd_ok, chb_0, chb_1, cr_bI, chb_bI, ite_bI0, if_true, if_false]) (fun c t hI => by
    simp (disch := omega) only [fX5_sceneAt_9, fX5_sceneAt_41, if_pos, Int.reduceAdd, Int.reduceSub, Int.reduceMul, Int.zero_add, Int.add_zero, Nat.zero_add, na_0, ca_la, ca_al, ca_lm, ca_add, ca_mod, ca_lit, tn_c, Int.natCast_zero, bd_some, bd2_some, bindv_e, chk_ok, cr_ok, crl_ok, chd_ok, chb_0, chb_1, cr_bI, chb_bI, ite_bI0, if_true, if_false]) 400 1 σ1 (by omega) (by omega) ⟨by omega, s4, SCN_SC0 s2, s3⟩
  rw [show ((1 : Nat) : Int) = 1 from rfl] at e2
  refine ⟨σ2, ?_, i2, i3, i1⟩
  unfold fX5_sceneAt
  rw [s1, bd_some, bindv_e]
  unfold lX5_sceneAt_9
  exact e2
