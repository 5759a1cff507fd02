/-! what holds between the class and the reference -/
def TP (σ τ : Mm) : Prop := ∃ n : Nat, n ≤ 320 ∧ σ 1 1 = (n : Int) ∧ τ 0 2 = (n : Int) ∧ ∀ i, i < n → σ 2 i = τ 2 i ∧ 0 ≤ τ 2 i ∧ τ 2 i ≤ 127
def SHk (σ τ : Mm) (k : Nat) : Prop := ((σ (21 + 2 * k) 1 = -1 ∧ τ 16 k = -4) ∨ (σ (21 + 2 * k) 1 = τ 16 k ∧ 0 ≤ τ 16 k ∧ τ 16 k < 3)) ∧ σ (21 + 2 * k) 2 = τ 17 k ∧ 0 ≤ τ 17 k ∧ τ 17 k ≤ 40 ∧ ∀ i, i < 40 → σ (21 + 2 * k + 1) i = τ 18 (40 * k + i) ∧ inR (τ 18 (40 * k + i))
def LDC (σ : Mm) (k : Nat) (L : Ld) : Prop := WF L ∧ FAIR L ∧ CL σ k L ∧ EDG σ k L ∧ ∀ p, p < 24 → σ (k + 3) p = 0 ∨ σ (k + 3) p = 1
def IMk (σ τ : Mm) (k : Nat) : Prop := (σ 19 k = 0 ∧ τ 15 k = 0) ∨ (σ 19 k = 1 ∧ τ 15 k = 1 ∧ ∃ L, LDC σ (143 + 16 * k) L ∧ ML τ (140 * k + 140) L)
def nOf (w : Nat) : Nat := ([0, 5, 9, 12] : List Nat).getD w 0
def KC (τ : Mm) : Prop := (∀ w, w < 4 → τ 3 w = (nOf w : Int)) ∧ (∀ w i, w < 3 → i < strLn w → τ 4 (nOf w + i) = strCc w i)
def RST (σ τ : Mm) : Prop := TP σ τ ∧ (σ 0 10 = τ 0 3 ∧ σ 0 11 = τ 0 30) ∧ (∀ k, k < 4 → SHk σ τ k) ∧ (∀ k, k < 2 → IMk σ τ k) ∧ KC τ
def LK (σ : Mm) (L : Ld) : Prop := STG σ L ∧ ARS σ L ∧ ALL L (allA L L.nr) L.nr 0
def MK (τ : Mm) (L : Ld) : Prop := τ 0 17 = 0 ∨ (τ 0 17 = 1 ∧ MADE τ L)
def InvL (L : Ld) (σ τ : Mm) : Prop := LDC σ 95 L ∧ LK σ L ∧ ML τ 0 L ∧ MK τ L ∧ RST σ τ
def Inv (σ τ : Mm) : Prop := ∃ L, InvL L σ τ
theorem CL_c {σ σ' : Mm} {k : Nat} {L : Ld} (hw : WF L) (e : ∀ c, k ≤ c → c < k + 16 → σ' c = σ c) (h : CL σ k L) : CL σ' k L := by
  have hnr := hw.2.1
  obtain ⟨h1, h2, h3, h4, h5, h6, h7⟩ := h
  refine ⟨by rw [e k (by omega) (by omega)]; exact h1, by rw [e k (by omega) (by omega)]; exact h2, fun p hp => by rw [e (k + 1) (by omega) (by omega)]; exact h3 p hp, fun p hp => by rw [e (k + 2) (by omega) (by omega)]; exact h4 p hp, fun p hp => by rw [e (k + 3) (by omega) (by omega)]; exact h5 p hp, fun r hr => by rw [e (k + 5) (by omega) (by omega)]; exact h6 r hr, fun r i hr hi => by rw [e (k + 10 + r) (by omega) (by omega)]; exact h7 r i hr hi⟩
theorem LDC_c {σ σ' : Mm} {k : Nat} {L : Ld} (e : ∀ c, k ≤ c → c < k + 16 → σ' c = σ c) (h : LDC σ k L) : LDC σ' k L := by
  obtain ⟨h1, h2, h3, h4, h5⟩ := h
  exact ⟨h1, h2, CL_c h1 e h3, EDG_c (by rw [e k (by omega) (by omega)]) (fun j a b => e j (by omega) (by omega)) h4, fun p hp => by rw [e (k + 3) (by omega) (by omega)]; exact h5 p hp⟩
theorem ML_c {σ σ' : Mm} {o o' : Nat} {L : Ld} (hw : WF L) (e : ∀ j, j < 140 → σ' 1 (o' + j) = σ 1 (o + j)) (h : ML σ o L) : ML σ' o' L := by
  have hnp := hw.1
  have hnr := hw.2.1
  obtain ⟨h1, h2, h3, h4, h5, h6, h7⟩ := h
  refine ⟨by rw [e 138 (by omega)]; exact h1, by rw [e 139 (by omega)]; exact h2, fun p hp => by rw [e p (by omega)]; exact h3 p hp, fun p hp => ?_, fun p hp => ?_, fun r hr => ?_, fun r i hr hi => ?_⟩
  · have q := e (24 + p) (by omega); rw [← Nat.add_assoc, ← Nat.add_assoc] at q; rw [q]; exact h4 p hp
  · have q := e (48 + p) (by omega); rw [← Nat.add_assoc, ← Nat.add_assoc] at q; rw [q]; exact h5 p hp
  · have q := e (132 + r) (by omega); rw [← Nat.add_assoc, ← Nat.add_assoc] at q; rw [q]; exact h6 r hr
  · have := hw.2.2.1 r hr
    have q := e (72 + 10 * r + i) (by omega)
    rw [show o' + (72 + 10 * r + i) = o' + 72 + 10 * r + i by omega, show o + (72 + 10 * r + i) = o + 72 + 10 * r + i by omega] at q
    rw [q]; exact h7 r i hr hi
theorem IMk_c {σ σ' τ τ' : Mm} {k : Nat} (e1 : σ' 19 = σ 19) (e2 : ∀ c, 143 ≤ c → σ' c = σ c) (e3 : τ' 15 = τ 15) (e4 : ∀ j, 140 ≤ j → j < 420 → τ' 1 j = τ 1 j) (hk : k < 2) (h : IMk σ τ k) : IMk σ' τ' k := by
  unfold IMk at h ⊢
  rw [e1, e3]
  rcases h with h | ⟨h1, h2, L, h3, h4⟩
  · exact Or.inl h
  · exact Or.inr ⟨h1, h2, L, LDC_c (fun c a b => e2 c (by omega)) h3, ML_c h3.1 (fun j hj => e4 _ (by omega) (by omega)) h4⟩
theorem RST_C {σ σ' τ : Mm} (e : ∀ k, (k < 3 ∨ (18 < k ∧ k < 29) ∨ 143 ≤ k) → σ' k = σ k) (h : RST σ τ) : RST σ' τ := by
  obtain ⟨⟨n, t1, t2, t3, t4⟩, h2, h3, h4, h5⟩ := h
  refine ⟨⟨n, t1, by rw [e 1 (by omega)]; exact t2, t3, fun i hi => by rw [e 2 (by omega)]; exact t4 i hi⟩, by rw [e 0 (by omega)]; exact h2, fun k hk => ?_, fun k hk => IMk_c (e 19 (by omega)) (fun c hc => e c (by omega)) rfl (fun j _ _ => rfl) hk (h4 k hk), h5⟩
  have q := h3 k hk
  unfold SHk at q ⊢
  rw [e (21 + 2 * k) (by omega), e (21 + 2 * k + 1) (by omega)]
  exact q
theorem RST_M {σ τ τ' : Mm} (e0 : τ' 0 2 = τ 0 2 ∧ τ' 0 3 = τ 0 3 ∧ τ' 0 30 = τ 0 30) (e1 : ∀ j, 140 ≤ j → j < 420 → τ' 1 j = τ 1 j) (e : ∀ k, ((1 < k ∧ k < 5) ∨ 14 < k) → τ' k = τ k) (h : RST σ τ) : RST σ τ' := by
  obtain ⟨⟨n, t1, t2, t3, t4⟩, h2, h3, h4, h5⟩ := h
  refine ⟨⟨n, t1, t2, by rw [e0.1]; exact t3, fun i hi => by rw [e 2 (by omega)]; exact t4 i hi⟩, by rw [e0.2.1, e0.2.2]; exact h2, fun k hk => ?_, fun k hk => IMk_c rfl (fun c _ => rfl) (e 15 (by omega)) e1 hk (h4 k hk), ?_⟩
  · have q := h3 k hk
    unfold SHk at q ⊢
    rw [e 16 (by omega), e 17 (by omega), e 18 (by omega)]
    exact q
  · unfold KC at h5 ⊢
    rw [e 3 (by omega), e 4 (by omega)]
    exact h5
theorem STG_c {σ σ' : Mm} {L : Ld} (e : ∀ k, 9 ≤ k → k < 13 → σ' k = σ k) (h : STG σ L) : STG σ' L := by
  obtain ⟨gb, sz, n, h1, h2⟩ := h
  refine ⟨gb, sz, n, h1, ?_⟩
  unfold STP at h2 ⊢
  rw [e 9 (by omega) (by omega), e 10 (by omega) (by omega), e 11 (by omega) (by omega), e 12 (by omega) (by omega)]
  exact h2
theorem ARS_c {σ σ' : Mm} {L : Ld} (hA : ALL L (allA L L.nr) L.nr 0) (hw : WF L) (e4 : σ' 4 = σ 4) (e6 : σ' 6 = σ 6) (e7 : σ' 7 = σ 7) (e : ∀ k, 35 ≤ k → k < 95 → σ' k = σ k) (h : ARS σ L) : ARS σ' L := by
  have hl := hA.2.2.2
  have := hw.2.1
  unfold ARS CAM at h ⊢
  rw [e4, e6, e7]
  obtain ⟨h1, h2, h3, h4⟩ := h
  exact ⟨h1, h2, fun x j hx hj => by rw [e (35 + x) (by omega) (by omega)]; exact h3 x j hx hj, h4⟩
theorem LK_c {σ σ' : Mm} {L : Ld} (hw : WF L) (e : ∀ k, (k < 15 ∨ (35 ≤ k ∧ k < 95)) → σ' k = σ k) (h : LK σ L) : LK σ' L := ⟨STG_c (fun k a b => e k (by omega)) h.1, ARS_c h.2.2 hw (e 4 (by omega)) (e 6 (by omega)) (e 7 (by omega)) (fun k a b => e k (by omega)) h.2.1, h.2.2⟩
theorem InvL_S {L : Ld} {σ σ' τ : Mm} (hf : frS σ σ') (h : InvL L σ τ) : InvL L σ' τ := by
  obtain ⟨h1, h2, h3, h4, h5⟩ := h
  exact ⟨LDC_c (fun c a b => hf c (by omega) (by omega) (by omega) (by omega)) h1, LK_c h1.1 (fun k a => hf k (by omega) (by omega) (by omega) (by omega)) h2, h3, h4, RST_C (fun k a => hf k (by omega) (by omega) (by omega) (by omega)) h5⟩
def frX (τ τ' : Mm) : Prop := ∀ k, k ≠ 9 → k ≠ 14 → τ' k = τ k
theorem frX_t {a b c : Mm} (h : frX a b) (g : frX b c) : frX a c := fun k h1 h2 => (g k h1 h2).trans (h k h1 h2)
theorem frX_r (a : Mm) : frX a a := fun _ _ _ => rfl
theorem E9_X {a b : Mm} (h : E9 a b) : frX a b := fun k h1 _ => h k h1
theorem frX_ML {τ τ' : Mm} {o : Nat} {L : Ld} (hf : frX τ τ') (h : ML τ o L) : ML τ' o L := by
  unfold ML at h ⊢
  rw [hf 1 (by omega) (by omega)]
  exact h
theorem frX_MP {τ τ' : Mm} {L : Ld} {gb : Nat → Nat} {sz : Nat → Int} {n : Nat} (hf : frX τ τ') (h : MP τ L gb sz n) : MP τ' L gb sz n := by
  obtain ⟨h1, h2, h3, h4, h5⟩ := h
  exact ⟨by rw [hf 0 (by omega) (by omega)]; exact h1, fun s a b => by rw [hf 7 (by omega) (by omega)]; exact h2 s a b, fun p hp => by rw [hf 5 (by omega) (by omega)]; exact h3 p hp, fun p hp => by rw [hf 6 (by omega) (by omega)]; exact h4 p hp, fun p hp => by rw [hf 8 (by omega) (by omega)]; exact h5 p hp⟩
theorem frX_MA {τ τ' : Mm} {as : List Ac} (hf : frX τ τ') (h : MA τ as) : MA τ' as := by
  unfold MA at h ⊢
  rw [hf 0 (by omega) (by omega), hf 10 (by omega) (by omega), hf 11 (by omega) (by omega), hf 12 (by omega) (by omega), hf 13 (by omega) (by omega)]
  exact h
theorem frX_MK {τ τ' : Mm} {L : Ld} (hf : frX τ τ') (h : MK τ L) : MK τ' L := by
  unfold MK at h ⊢
  rw [hf 0 (by omega) (by omega)]
  rcases h with h | ⟨h1, ⟨gb, sz, n, h2, h3⟩, h4⟩
  · exact Or.inl h
  · exact Or.inr ⟨h1, ⟨gb, sz, n, h2, frX_MP hf h3⟩, frX_MA hf h4⟩
theorem InvL_X {L : Ld} {σ τ τ' : Mm} (hf : frX τ τ') (h : InvL L σ τ) : InvL L σ τ' := by
  obtain ⟨h1, h2, h3, h4, h5⟩ := h
  have e0 := hf 0 (by omega) (by omega)
  exact ⟨h1, h2, frX_ML hf h3, frX_MK hf h4, RST_M ⟨by rw [e0], by rw [e0], by rw [e0]⟩ (fun j _ _ => by rw [hf 1 (by omega) (by omega)]) (fun k a => hf k (by omega) (by omega)) h5⟩
/-- both, behind makes: one run of stages, the same arcs -/
def VW (L : Ld) (σ τ : Mm) (gb : Nat → Nat) (sz : Nat → Int) (n : Nat) : Prop := RUN L gb sz n ∧ STP σ L gb sz n ∧ MP τ L gb sz n ∧ MA τ (allA L L.nr)
theorem VW_X {L : Ld} {σ τ τ' : Mm} {gb : Nat → Nat} {sz : Nat → Int} {n : Nat} (hf : frX τ τ') (h : VW L σ τ gb sz n) : VW L σ τ' gb sz n := ⟨h.1, h.2.1, frX_MP hf h.2.2.1, frX_MA hf h.2.2.2⟩
theorem inv_makes {L : Ld} {σ τ : Mm} (h : InvL L σ τ) : ∃ τ' gb sz n, fX8_makes τ = some τ' ∧ InvL L σ τ' ∧ VW L σ τ' gb sz n := by
  obtain ⟨h1, h2, h3, h4, h5⟩ := h
  obtain ⟨τ', m1, m2, m3, m4⟩ := m_makes h1.1 h1.2.1 h3 h4
  have m5 := m3
  obtain ⟨⟨gb, sz, n, r1, r2⟩, a1⟩ := m5
  obtain ⟨gb', sz', n', r3, c1, c2, c3, c4⟩ := h2.1
  obtain ⟨e1, e2⟩ := RUN_u r1 r3
  subst e1
  refine ⟨τ', gb, sz, n, m1, ⟨h1, h2, frQ_ML m4 h3, Or.inr ⟨m2, m3⟩, RST_M ⟨m4.2 2 (by omega) (by omega) (by omega), m4.2 3 (by omega) (by omega) (by omega), m4.2 30 (by omega) (by omega) (by omega)⟩ (fun j _ _ => by rw [m4.1 1 (by omega) (by omega)]) (fun k a => m4.1 k (by omega) (by omega)) h5⟩, r1, ⟨c1, fun s a b => ?_, fun s a b => ?_, fun p hp => ?_⟩, r2, a1⟩
  · rw [c2 s a b, (e2 s a b).1]
  · rw [c3 s a b, (e2 s a b).2]
  · rw [c4 p hp, gaF_c (fun j a b => (e2 j a b).1) p]
theorem VW_le {L : Ld} {σ τ : Mm} {gb : Nat → Nat} {sz : Nat → Int} {n : Nat} (hw : WF L) (h : VW L σ τ gb sz n) : n ≤ L.np ∧ L.np ≤ 24 := ⟨PRE_le h.1.1, hw.1⟩
theorem c_refresh {σ : Mm} {L : Ld} (h : LDC σ 95 L) : ∃ σ', fX7_refresh σ = some σ' ∧ LDC σ' 95 L ∧ LK σ' L ∧ (∀ k, (k < 4 ∨ (17 < k ∧ k < 29) ∨ 94 < k) → σ' k = σ k) := by
  obtain ⟨σ1, a1, a2, a3, a4⟩ := c_trace h.1 h.2.2.1 h.2.2.2.1
  have g1 : LDC σ1 95 L := LDC_c (fun c a b => a4 c (by omega) (by omega) (by omega) (by omega) (by omega)) h
  obtain ⟨σ2, b1, b2, b3⟩ := c_thin g1.1 g1.2.1 g1.2.2.1 g1.2.2.2.1
  have g2 : LDC σ2 95 L := LDC_c (fun c a b => b3 c (by omega) (by omega) (by omega) (by omega) (by omega) (by omega) (by omega) (by omega)) g1
  refine ⟨σ2, ?_, g2, ⟨b2, ARS_c a3 h.1 (b3 4 (by omega) (by omega) (by omega) (by omega) (by omega) (by omega) (by omega) (by omega)) (b3 6 (by omega) (by omega) (by omega) (by omega) (by omega) (by omega) (by omega) (by omega)) (b3 7 (by omega) (by omega) (by omega) (by omega) (by omega) (by omega) (by omega) (by omega)) (fun k a b => b3 k (by omega) (by omega) (by omega) (by omega) (by omega) (by omega) (by omega) (by omega)) a2, a3⟩, fun k hk => ?_⟩
  · unfold fX7_refresh
    rw [a1, bd_some, b1, bd_some]
  · rw [b3 k (by omega) (by omega) (by omega) (by omega) (by omega) (by omega) (by omega) (by omega), a4 k (by omega) (by omega) (by omega) (by omega) (by omega)]
