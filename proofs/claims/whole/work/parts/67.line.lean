/-! numbers, lines: class and reference side by side -/
def PD (n : Nat) (b : Nat → Int) (σ τ : Mm) (s st k e : Nat) (v : Int) : Prop := TB σ n b ∧ TM τ n b ∧ s ≤ n ∧ σ 3 2 = (s : Int) ∧ TKN n b s st k e v ∧ RT τ st k e v
def FL (σ τ : Mm) : Prop := ∃ c p : Nat, (1 ≤ c ∧ c ≤ 6 ∧ p ≤ 320) ∧ σ 3 6 = (c : Int) ∧ σ 3 7 = (p : Int) ∧ τ 0 4 = (c : Int) ∧ τ 0 5 = (p : Int)
theorem TB_c {σ σ' : Mm} {n : Nat} {b : Nat → Int} (e1 : σ' 1 = σ 1) (e2 : σ' 2 = σ 2) (h : TB σ n b) : TB σ' n b := by
  unfold TB at h ⊢
  rw [e1, e2]
  exact h
theorem TM_c {τ τ' : Mm} {n : Nat} {b : Nat → Int} (e1 : τ' 0 2 = τ 0 2) (e2 : τ' 2 = τ 2) (h : TM τ n b) : TM τ' n b := by
  unfold TM at h ⊢
  rw [e1, e2]
  exact h
theorem RT_c {τ τ' : Mm} {st k e : Nat} {v : Int} (h0 : ∀ j, j ≠ 12 → τ' 0 j = τ 0 j) (h : RT τ st k e v) : RT τ' st k e v := by
  unfold RT at h ⊢
  rw [h0 4 (by omega), h0 5 (by omega), h0 7 (by omega), h0 8 (by omega), h0 6 (by omega), h0 9 (by omega)]
  exact h
theorem PD_c {n : Nat} {b : Nat → Int} {σ σ' τ τ' : Mm} {s st k e : Nat} {v : Int} (e1 : σ' 1 = σ 1) (e2 : σ' 2 = σ 2) (e3 : σ' 3 = σ 3) (h0 : ∀ j, j ≠ 12 → τ' 0 j = τ 0 j) (h2 : τ' 2 = τ 2) (h : PD n b σ τ s st k e v) : PD n b σ' τ' s st k e v := by
  obtain ⟨p1, p2, p3, p4, p5, p6⟩ := h
  exact ⟨TB_c e1 e2 p1, TM_c (h0 2 (by omega)) h2 p2, p3, by rw [e3]; exact p4, p5, RT_c h0 p6⟩
theorem pd_next {n : Nat} {b : Nat → Int} {σ τ : Mm} {s : Nat} (hB : BT n b) (hT : TB σ n b) (hM : TM τ n b) (hs : s ≤ n) (h2 : σ 3 2 = (s : Int)) (h4 : τ 0 4 = 0) (h6 : τ 0 6 = (s : Int)) : ∃ τ' st k e v, fX8_readsOn τ = some τ' ∧ frK τ τ' ∧ PD n b σ τ' s st k e v := by
  obtain ⟨st, k, e, v, hK⟩ := tkn_ex (b := b) hs
  obtain ⟨τ', a1, a2, a3⟩ := m_readsOn hB hK hM h4 h6 hs
  exact ⟨τ', st, k, e, v, a1, a2, hT, TM_c (a2.2 2 (by omega)) (a2.1 2 (by omega)) hM, hs, h2, hK, a3⟩
theorem c_refuse (c p : Int) (σ : Mm) : fX2_refuse c p σ = some (0, sto (sto σ 3 6 c) 3 7 p) := by
  unfold fX2_refuse
  rw [bindv_e, bindv_e]
theorem c_refuseToken {σ : Mm} {k : Nat} {p : Int} (h3 : σ 3 3 = (k : Int)) (hk : k ≤ 4) (h4 : σ 3 4 = p) : fX2_refuseToken σ = some (0, sto (sto σ 3 6 (if k = 4 then 1 else 2)) 3 7 p) := by
  unfold fX2_refuseToken fX2_refuseToken_14
  rw [h3, h4, cr_ok (by omega)]
  by_cases z : k = 4
  · rw [if_pos (by omega), if_pos z, c_refuse, bd2_some, chb_0]
  · rw [if_neg (by omega), if_neg z, c_refuse, bd2_some, chb_0]
theorem FL_c {ρ τ : Mm} {c p : Nat} (h : 1 ≤ c ∧ c ≤ 6 ∧ p ≤ 320) (h1 : τ 0 4 = (c : Int)) (h2 : τ 0 5 = (p : Int)) : FL (sto (sto ρ 3 6 (c : Int)) 3 7 (p : Int)) τ := ⟨c, p, h, by rw [sto_i (by omega), sto_eq], sto_eq _ _ _ _, h1, h2⟩
theorem m_nb20 {τ : Mm} {m : Int} {c : Nat} (h : τ 0 4 = (c : Int)) (hc : 1 ≤ c ∧ c ≤ 6) : fX8_numberRead_20 m τ = some (0, τ) := by
  unfold fX8_numberRead_20 fX8_numberRead_40 fX8_numberRead_55
  rw [h, cr_ok (by omega), if_neg (by omega), cr_ok (by omega), if_neg (by omega), bindv_e, m_ro_broken h (by omega), bd_some]
theorem m_nb {τ : Mm} {m : Int} {c : Nat} (h : τ 0 4 = (c : Int)) (hc : 1 ≤ c ∧ c ≤ 6) : fX8_numberRead m τ = some (0, τ) := by
  unfold fX8_numberRead
  rw [h, cr_ok (by omega), if_neg (by omega), m_nb20 h hc]
theorem m_88b {τ : Mm} {c : Nat} (h : τ 0 4 = (c : Int)) (hc : 1 ≤ c ∧ c ≤ 6) : fX8_readLine_88 τ = some τ := by
  unfold fX8_readLine_88 fX8_readLine_108
  rw [h, cr_ok (by omega), if_neg (by omega), m_ro_broken h (by omega), bd_some]
theorem fl4 (τ : Mm) (c x : Int) : sto (sto τ 0 4 c) 0 5 x 0 4 = c := by rw [sto_i (by omega), sto_eq]
theorem frK_f {τ : Mm} {c x : Int} : frK τ (sto (sto τ 0 4 c) 0 5 x) := frK_s (by omega) (frK_s (by omega) (frK_r τ))
theorem num_j {n : Nat} {b : Nat → Int} {σ τ : Mm} {s st k e bound : Nat} {v : Int} (hB : BT n b) (hb : 1 ≤ bound ∧ bound ≤ 200) (h : PD n b σ τ s st k e v) : (∃ σ' τ', fX2_readNumber bound σ = some (0, σ') ∧ fX8_numberRead ((bound : Int) - 1) τ = some (0, τ') ∧ FL σ' τ' ∧ (∀ c, c ≠ 3 → σ' c = σ c) ∧ frK τ τ') ∨ (∃ σ' τ' st' k' e' v', fX2_readNumber bound σ = some (1, σ') ∧ fX8_numberRead ((bound : Int) - 1) τ = some (v, τ') ∧ 0 ≤ v ∧ v < (bound : Int) ∧ σ' 3 5 = v ∧ fr3 σ σ' ∧ frK τ τ' ∧ s < e ∧ PD n b σ' τ' e st' k' e' v') := by
  obtain ⟨p1, p2, p3, p4, p5, p6⟩ := h
  obtain ⟨ρ, a1, a2, a3, a4, a5, a6⟩ := c_nextToken hB p5 p1 p4 p3
  obtain ⟨f1, f2, f3, f4, f5, f6, f7⟩ := tkn_f p5
  have hn := hB.1
  have T1 : TB ρ n b := TB_c (a2.1 1 (by omega)) (a2.1 2 (by omega)) p1
  by_cases z : k = 2
  · have a5 := a5 (by omega)
    have a6 := a6 z
    have f7 := f7 z
    have f5 := f5 (by omega) (by omega)
    have f4 := f4 (by omega)
    rcases p6 with ⟨q1, -⟩ | ⟨q1, q2, q3, q4, q5, q6⟩
    · omega
    have q6 := q6 z
    by_cases y : v < (bound : Int)
    · obtain ⟨τ', st', k', e', v', b1, b2, b3⟩ := pd_next (σ := ρ) (τ := τ) (s := e) hB T1 p2 f4 a5 q2 q5
      refine Or.inr ⟨ρ, τ', st', k', e', v', ?_, ?_, f7.1, y, a6, a2, b2, by omega, b3⟩
      · unfold fX2_readNumber fX2_readNumber_37 fX2_readNumber_42
        rw [a1, bd_some, a4, cr_ok (by omega), if_pos (by omega), a6, cr_ok (by omega), cr_ok (by omega), if_pos y, chb_1]
      · unfold fX8_numberRead fX8_numberRead_20 fX8_numberRead_40 fX8_numberRead_55
        rw [q2, cr_ok (by omega), if_pos rfl, q4, cr_ok (by omega), if_pos (by omega), cr_ok (by omega), if_pos rfl, q6, cr_ok (by omega), cr_ok (by omega), if_neg (by omega), cr_ok (by omega), if_pos rfl, bindv_e, b1, bd_some]
    · refine Or.inl ⟨sto (sto ρ 3 6 ((3 : Nat) : Int)) 3 7 (st : Int), sto (sto τ 0 4 ((3 : Nat) : Int)) 0 5 (τ 0 7), ?_, ?_, FL_c ⟨by omega, by omega, by omega⟩ (fl4 _ _ _) (by rw [sto_eq, q3]), fun c hc => by rw [sto_c hc, sto_c hc]; exact a2.1 c hc, frK_f⟩
      · unfold fX2_readNumber fX2_readNumber_42
        rw [a1, bd_some, a4, cr_ok (by omega), if_pos (by omega), a6, cr_ok (by omega), cr_ok (by omega), if_neg y, c_refuse, bd2_some, cr_ok (by omega), if_pos rfl, chb_0, a3]
        rfl
      · have q := m_fails (c := 3) q2
        unfold fX8_numberRead fX8_numberRead_20
        rw [q2, cr_ok (by omega), if_pos rfl, q4, cr_ok (by omega), if_pos (by omega), cr_ok (by omega), if_pos rfl, q6, cr_ok (by omega), cr_ok (by omega), if_pos (by omega), q, bd_some]
        unfold fX8_numberRead_40 fX8_numberRead_55
        rw [fl4, cr_ok (by omega), if_neg (by omega), bindv_e, m_ro_broken (fl4 _ _ _) (by omega), bd_some]
        rfl
  · have g1 : fX2_readNumber bound σ = some (0, sto (sto ρ 3 6 (if k = 4 then 1 else 2)) 3 7 (st : Int)) := by
      unfold fX2_readNumber
      rw [a1, bd_some, a4, cr_ok (by omega), if_neg (by omega), c_refuseToken a4 f3 a3, bd2_some, chb_0]
    rcases p6 with ⟨q1, q2, q3⟩ | ⟨q1, q2, q3, q4, q5, q6⟩
    · rw [if_pos q1] at g1
      refine Or.inl ⟨_, τ, g1, m_nb (c := 1) q2 (by omega), FL_c (c := 1) ⟨by omega, by omega, by omega⟩ q2 q3, fun c hc => by rw [sto_c hc, sto_c hc]; exact a2.1 c hc, frK_r τ⟩
    · rw [if_neg (by omega)] at g1
      refine Or.inl ⟨_, sto (sto τ 0 4 2) 0 5 (τ 0 7), g1, ?_, FL_c (c := 2) ⟨by omega, by omega, by omega⟩ (fl4 _ _ _) (by rw [sto_eq, q3]), fun c hc => by rw [sto_c hc, sto_c hc]; exact a2.1 c hc, frK_f⟩
      unfold fX8_numberRead
      rw [q2, cr_ok (by omega), if_pos rfl, q4, cr_ok (by omega), if_neg (by omega), m_fails q2, bd_some, m_nb20 (c := 2) (τ := sto (sto τ 0 4 2) 0 5 (τ 0 7)) (fl4 _ _ _) (by omega)]
theorem semi_j {n : Nat} {b : Nat → Int} {σ τ : Mm} {s st k e : Nat} {v : Int} (hB : BT n b) (h : PD n b σ τ s st k e v) : (∃ σ' τ', fX2_readSemicolon σ = some (0, σ') ∧ fX8_readLine_88 τ = some τ' ∧ FL σ' τ' ∧ (∀ c, c ≠ 3 → σ' c = σ c) ∧ frK τ τ') ∨ (∃ σ' τ' st' k' e' v', fX2_readSemicolon σ = some (1, σ') ∧ fX8_readLine_88 τ = some τ' ∧ fr3 σ σ' ∧ frK τ τ' ∧ s < e ∧ PD n b σ' τ' e st' k' e' v') := by
  obtain ⟨p1, p2, p3, p4, p5, p6⟩ := h
  obtain ⟨ρ, a1, a2, a3, a4, a5, a6⟩ := c_nextToken hB p5 p1 p4 p3
  obtain ⟨f1, f2, f3, f4, f5, f6, f7⟩ := tkn_f p5
  have hn := hB.1
  have T1 : TB ρ n b := TB_c (a2.1 1 (by omega)) (a2.1 2 (by omega)) p1
  by_cases z : k = 3
  · have a5 := a5 (by omega)
    have f5 := f5 (by omega) (by omega)
    have f4 := f4 (by omega)
    rcases p6 with ⟨q1, -⟩ | ⟨q1, q2, q3, q4, q5, q6⟩
    · omega
    obtain ⟨τ', st', k', e', v', b1, b2, b3⟩ := pd_next (σ := ρ) (τ := τ) (s := e) hB T1 p2 f4 a5 q2 q5
    refine Or.inr ⟨ρ, τ', st', k', e', v', ?_, ?_, a2, b2, by omega, b3⟩
    · unfold fX2_readSemicolon fX2_readSemicolon_19 fX2_readSemicolon_24
      rw [a1, bd_some, a4, cr_ok (by omega), if_pos (by omega), chb_1]
    · unfold fX8_readLine_88 fX8_readLine_108
      rw [q2, cr_ok (by omega), if_pos rfl, q4, cr_ok (by omega), if_pos (by omega), b1, bd_some]
  · have g1 : fX2_readSemicolon σ = some (0, sto (sto ρ 3 6 (if k = 4 then 1 else 2)) 3 7 (st : Int)) := by
      unfold fX2_readSemicolon fX2_readSemicolon_24
      rw [a1, bd_some, a4, cr_ok (by omega), if_neg (by omega), c_refuseToken a4 f3 a3, bd2_some, cr_ok (by omega), if_pos rfl, chb_0]
    rcases p6 with ⟨q1, q2, q3⟩ | ⟨q1, q2, q3, q4, q5, q6⟩
    · rw [if_pos q1] at g1
      exact Or.inl ⟨_, τ, g1, m_88b (c := 1) q2 (by omega), FL_c (c := 1) ⟨by omega, by omega, by omega⟩ q2 q3, fun c hc => by rw [sto_c hc, sto_c hc]; exact a2.1 c hc, frK_r τ⟩
    · rw [if_neg (by omega)] at g1
      refine Or.inl ⟨_, sto (sto τ 0 4 2) 0 5 (τ 0 7), g1, ?_, FL_c (c := 2) ⟨by omega, by omega, by omega⟩ (fl4 _ _ _) (by rw [sto_eq, q3]), fun c hc => by rw [sto_c hc, sto_c hc]; exact a2.1 c hc, frK_f⟩
      unfold fX8_readLine_88 fX8_readLine_108
      rw [q2, cr_ok (by omega), if_pos rfl, q4, cr_ok (by omega), if_neg (by omega), m_fails q2, bd_some, m_ro_broken (fl4 _ _ _) (by omega), bd_some]
/-- a ring of the draft, both -/
def RG (σ τ : Mm) (r m : Nat) : Prop := m ≤ 10 ∧ σ 116 r = (m : Int) ∧ τ 1 (552 + r) = (m : Int) ∧ (∀ i, i < m → σ (121 + r) i = τ 1 (492 + 10 * r + i) ∧ 0 ≤ τ 1 (492 + 10 * r + i) ∧ τ 1 (492 + 10 * r + i) < 24) ∧ (∀ i j, i < m → j < m → τ 1 (492 + 10 * r + i) = τ 1 (492 + 10 * r + j) → i = j)
/-- the draft, both: nr rings whole, nd told -/
def DRX (σ τ : Mm) (np nr nd P : Nat) : Prop := (np ≤ 24 ∧ nr ≤ nd ∧ nd ≤ 6) ∧ (σ 111 9 = (np : Int) ∧ τ 1 558 = (np : Int) ∧ σ 111 10 = (nd : Int) ∧ τ 1 559 = (nd : Int)) ∧ (∀ p, p < np → σ 112 p = τ 1 (420 + p) ∧ inP (τ 1 (420 + p)) ∧ σ 113 p = τ 1 (444 + p) ∧ inP (τ 1 (444 + p))) ∧ (∀ p, p < 24 → σ 114 p = τ 1 (468 + p) ∧ (τ 1 (468 + p) = 0 ∨ τ 1 (468 + p) = 1)) ∧ (∀ r, r < nr → ∃ m, RG σ τ r m ∧ 3 ≤ m) ∧ (∀ r, nd ≤ r → r < 6 → τ 1 (552 + r) = 0) ∧ (τ 0 12 = (P : Int) ∧ P ≤ 24 ∧ (∀ p, p < 24 → τ 1 (468 + p) = 1 → p < P) ∧ (P = 0 ∨ τ 1 (468 + (P - 1)) = 1))
theorem RG_c {σ σ' τ τ' : Mm} {r m : Nat} (hr : r < 6) (e : ∀ c, 111 ≤ c → c < 127 → σ' c = σ c) (f : τ' 1 = τ 1) (h : RG σ τ r m) : RG σ' τ' r m := by
  unfold RG at h ⊢
  rw [e 116 (by omega) (by omega), e (121 + r) (by omega) (by omega), f]
  exact h
theorem DRX_c {σ σ' τ τ' : Mm} {np nr nd P : Nat} (e : ∀ c, 111 ≤ c → c < 127 → σ' c = σ c) (f : τ' 1 = τ 1) (g : τ' 0 12 = τ 0 12) (h : DRX σ τ np nr nd P) : DRX σ' τ' np nr nd P := by
  obtain ⟨h1, h2, h3, h4, h5, h6, h7⟩ := h
  refine ⟨h1, ?_, ?_, ?_, fun r hr => ?_, ?_, ?_⟩
  · rw [e 111 (by omega) (by omega), f]; exact h2
  · rw [e 112 (by omega) (by omega), e 113 (by omega) (by omega), f]; exact h3
  · rw [e 114 (by omega) (by omega), f]; exact h4
  · obtain ⟨m, m1, m2⟩ := h5 r hr
    exact ⟨m, RG_c (by omega) e f m1, m2⟩
  · rw [f]; exact h6
  · rw [f, g]; exact h7
def frL (σ σ' : Mm) : Prop := ∀ c, c ≠ 3 → (c < 111 ∨ 127 ≤ c) → σ' c = σ c
theorem frL_t {a b c : Mm} (h : frL a b) (g : frL b c) : frL a c := fun k h1 h2 => (g k h1 h2).trans (h k h1 h2)
theorem frL_3 {σ σ' : Mm} (h : ∀ c, c ≠ 3 → σ' c = σ c) : frL σ σ' := fun c h1 _ => h c h1
def frN (τ τ' : Mm) : Prop := (∀ c, 2 ≤ c → τ' c = τ c) ∧ (∀ j, ¬ (4 ≤ j ∧ j ≤ 9) → j ≠ 12 → τ' 0 j = τ 0 j) ∧ (∀ j, (j < 420 ∨ 560 ≤ j) → τ' 1 j = τ 1 j)
theorem frN_t {a b c : Mm} (h : frN a b) (g : frN b c) : frN a c := ⟨fun k h1 => (g.1 k h1).trans (h.1 k h1), fun j h1 h2 => (g.2.1 j h1 h2).trans (h.2.1 j h1 h2), fun j h1 => (g.2.2 j h1).trans (h.2.2 j h1)⟩
theorem frN_K {a b : Mm} (h : frK a b) : frN a b := ⟨fun k h1 => h.1 k (by omega), fun j h1 _ => h.2 j h1, fun j _ => by rw [h.1 1 (by omega)]⟩
theorem frN_1 (τ : Mm) {j : Nat} {x : Int} (hj : 420 ≤ j ∧ j < 560) : frN τ (sto τ 1 j x) := ⟨fun k h1 => sto_c (by omega), fun i _ _ => sto_k (by omega), fun i h1 => sto_i (by omega)⟩
theorem frN_12 (τ : Mm) {x : Int} : frN τ (sto τ 0 12 x) := ⟨fun k h1 => sto_c (by omega), fun i _ h2 => sto_i (by omega), fun i h1 => sto_k (by omega)⟩
/-- how a line ends -/
def OUT (n : Nat) (b : Nat → Int) (s : Nat) (σ τ : Mm) (A : Option (Int × Mm)) (B : Option Mm) : Prop := (∃ σ' τ', A = some (0, σ') ∧ B = some τ' ∧ FL σ' τ' ∧ frL σ σ' ∧ frN τ τ') ∨ (∃ σ' τ' s' st k e v np nr P, A = some (1, σ') ∧ B = some τ' ∧ s < s' ∧ PD n b σ' τ' s' st k e v ∧ DRX σ' τ' np nr nr P ∧ frL σ σ' ∧ frN τ τ' ∧ (∀ j, ¬ (2 ≤ j ∧ j ≤ 5) → σ' 3 j = σ 3 j))
theorem fr3_j {σ σ' : Mm} (h : fr3 σ σ') {j : Nat} (hj : ¬ (2 ≤ j ∧ j ≤ 5)) : σ' 3 j = σ 3 j := h.2 j (by omega) (by omega) (by omega) (by omega)
theorem OUT_t {n : Nat} {b : Nat → Int} {s s1 : Nat} {σ σ1 τ τ1 : Mm} {A : Option (Int × Mm)} {B : Option Mm} (hs : s ≤ s1) (h1 : frL σ σ1) (h2 : frN τ τ1) (h3 : ∀ j, ¬ (2 ≤ j ∧ j ≤ 5) → σ1 3 j = σ 3 j) (h : OUT n b s1 σ1 τ1 A B) : OUT n b s σ τ A B := by
  rcases h with ⟨σ', τ', a1, a2, a3, a4, a5⟩ | ⟨σ', τ', s', st, k, e, v, np, nr, P, a1, a2, a3, a4, a5, a6, a7, a8⟩
  · exact Or.inl ⟨σ', τ', a1, a2, a3, frL_t h1 a4, frN_t h2 a5⟩
  · exact Or.inr ⟨σ', τ', s', st, k, e, v, np, nr, P, a1, a2, by omega, a4, a5, frL_t h1 a6, frN_t h2 a7, fun j hj => (a8 j hj).trans (h3 j hj)⟩
/-- a line's end at the semicolon -/
theorem semi_O {n : Nat} {b : Nat → Int} {σ τ : Mm} {s st k e np nr P : Nat} {v : Int} (hB : BT n b) (h : PD n b σ τ s st k e v) (hD : DRX σ τ np nr nr P) : OUT n b s σ τ (fX2_readSemicolon σ) (fX8_readLine_88 τ) := by
  rcases semi_j hB h with ⟨σ', τ', a1, a2, a3, a4, a5⟩ | ⟨σ', τ', st', k', e', v', a1, a2, a3, a4, a5, a6⟩
  · exact Or.inl ⟨σ', τ', a1, a2, a3, frL_3 a4, frN_K a5⟩
  · exact Or.inr ⟨σ', τ', e, st', k', e', v', np, nr, P, a1, a2, a5, a6, DRX_c (fun c _ _ => a3.1 c (by omega)) (a4.1 1 (by omega)) (a4.2 12 (by omega)) hD, frL_3 a3.1, frN_K a4, fun j hj => fr3_j a3 hj⟩
theorem DRX_x {σ τ : Mm} {np nr nd P : Nat} {x : Int} (h : DRX σ τ np nr nd P) (hp : np < 24) : DRX σ (sto τ 1 (420 + np) x) np nr nd P := by
  obtain ⟨h1, h2, h3, h4, h5, h6, h7⟩ := h
  refine ⟨h1, ?_, fun p hp => ?_, fun p hp => ?_, fun r hr => ?_, fun r hr hr2 => ?_, ?_, h7.2.1, fun p hp => ?_, ?_⟩
  · simp (disch := omega) only [sto_k, sto_i, sto_eq]; exact h2
  · simp (disch := omega) only [sto_k, sto_i, sto_eq]; exact h3 p hp
  · simp (disch := omega) only [sto_k, sto_i, sto_eq]; exact h4 p hp
  · obtain ⟨m, ⟨r1, r2, r3, r4, r5⟩, m2⟩ := h5 r hr
    refine ⟨m, ⟨r1, r2, by simp (disch := omega) only [sto_k, sto_i, sto_eq]; exact r3, fun i hi => by simp (disch := omega) only [sto_k, sto_i, sto_eq]; exact r4 i hi, fun i j hi hj => by simp (disch := omega) only [sto_k, sto_i, sto_eq]; exact r5 i j hi hj⟩, m2⟩
  · simp (disch := omega) only [sto_k, sto_i, sto_eq]; exact h6 r hr hr2
  · simp (disch := omega) only [sto_k, sto_i, sto_eq]; exact h7.1
  · simp (disch := omega) only [sto_k, sto_i, sto_eq]; exact h7.2.2.1 p hp
  · simp (disch := omega) only [sto_k, sto_i, sto_eq]; exact h7.2.2.2
theorem DRX_pt {σ τ : Mm} {np nr nd P : Nat} {x y : Int} (h : DRX σ τ np nr nd P) (hp : np < 24) (hx : inP x) (hy : inP y) (ht : τ 1 (420 + np) = x) : DRX (sto (sto (sto σ 112 np x) 113 np y) 111 9 ((np : Int) + 1)) (sto (sto τ 1 (444 + np) y) 1 558 ((np : Int) + 1)) (np + 1) nr nd P := by
  obtain ⟨h1, h2, h3, h4, h5, h6, h7⟩ := h
  refine ⟨by omega, ⟨?_, ?_, ?_, ?_⟩, fun p hp => ?_, fun p hp => ?_, fun r hr => ?_, fun r hr hr2 => ?_, ?_, h7.2.1, fun p hp => ?_, ?_⟩
  · rw [sto_eq]; rfl
  · rw [sto_eq]; rfl
  · simp (disch := omega) only [sto_k, sto_i, sto_eq]; exact h2.2.2.1
  · simp (disch := omega) only [sto_k, sto_i, sto_eq]; exact h2.2.2.2
  · by_cases z : p = np
    · subst z
      simp (disch := omega) only [sto_k, sto_i, sto_eq, ht]
      exact ⟨trivial, hx, trivial, hy⟩
    · simp (disch := omega) only [sto_k, sto_i, sto_eq]
      exact h3 p (by omega)
  · simp (disch := omega) only [sto_k, sto_i, sto_eq]; exact h4 p hp
  · obtain ⟨m, ⟨r1, r2, r3, r4, r5⟩, m2⟩ := h5 r hr
    refine ⟨m, ⟨r1, by simp (disch := omega) only [sto_k, sto_i, sto_eq]; exact r2, by simp (disch := omega) only [sto_k, sto_i, sto_eq]; exact r3, fun i hi => by simp (disch := omega) only [sto_k, sto_i, sto_eq]; exact r4 i hi, fun i j hi hj => by simp (disch := omega) only [sto_k, sto_i, sto_eq]; exact r5 i j hi hj⟩, m2⟩
  · simp (disch := omega) only [sto_k, sto_i, sto_eq]; exact h6 r hr hr2
  · simp (disch := omega) only [sto_k, sto_i, sto_eq]; exact h7.1
  · simp (disch := omega) only [sto_k, sto_i, sto_eq]; exact h7.2.2.1 p hp
  · simp (disch := omega) only [sto_k, sto_i, sto_eq]; exact h7.2.2.2
theorem FL_1 {σ τ τ' : Mm} (h4 : τ' 0 4 = τ 0 4) (h5 : τ' 0 5 = τ 0 5) (h : FL σ τ) : FL σ τ' := by
  obtain ⟨c, p, h1, h2, h3, q4, q5⟩ := h
  exact ⟨c, p, h1, h2, h3, h4.trans q4, h5.trans q5⟩
theorem pt_j {n : Nat} {b : Nat → Int} {σ τ : Mm} {st e np nr P : Nat} (hB : BT n b) (hT : TB σ n b) (hM : TM τ n b) (he : e ≤ n) (hst : st ≤ n) (h2 : σ 3 2 = (e : Int)) (h4 : σ 3 4 = (st : Int)) (t4 : τ 0 4 = 0) (t6 : τ 0 6 = (e : Int)) (t7 : τ 0 7 = (st : Int)) (hD : DRX σ τ np nr nr P) : OUT n b e σ τ (fX2_readPoint σ) (bd (fX8_readPoint τ) (fun t => fX8_readLine_88 t)) := by
  have hn := hB.1
  have d1 := hD.2.1.1
  have d2 := hD.2.1.2.1
  have dn := hD.1.1
  by_cases z : np = 24
  · refine Or.inl ⟨sto (sto σ 3 6 ((5 : Nat) : Int)) 3 7 (st : Int), sto (sto τ 0 4 ((5 : Nat) : Int)) 0 5 (τ 0 7), ?_, ?_, FL_c ⟨by omega, by omega, by omega⟩ (fl4 _ _ _) (by rw [sto_eq, t7]), frL_3 (fun c hc => by rw [sto_c hc, sto_c hc]), frN_K frK_f⟩
    · unfold fX2_readPoint
      rw [d1, cr_ok (by omega), if_neg (by omega), c_refuse, bd2_some, chb_0, h4]
      rfl
    · have q := m_fails (c := ((5 : Nat) : Int)) t4
      unfold fX8_readPoint
      rw [chk_ok (by omega), bindv_e, d2, cr_ok (by omega), if_pos (by omega), show (5 : Int) = ((5 : Nat) : Int) from rfl, q, bd_some, bd_some, m_88b (c := 5) (fl4 _ _ _) (by omega)]
  · obtain ⟨τ1, st1, k1, e1, v1, r1, r2, r3⟩ := pd_next hB hT hM he h2 t4 t6
    have D1 : DRX σ τ1 np nr nr P := DRX_c (fun c _ _ => rfl) (r2.1 1 (by omega)) (r2.2 12 (by omega)) hD
    unfold fX8_readPoint
    rw [chk_ok (by omega), bindv_e, d2, cr_ok (by omega), if_neg (by omega), r1, bd_some]
    have i1 : (420 + (np : Int)).toNat = 420 + np := by omega
    have i2 : (444 + (np : Int)).toNat = 444 + np := by omega
    unfold fX2_readPoint
    rw [d1, cr_ok (by omega), if_pos (by omega)]
    rcases num_j (bound := 200) hB (by omega) r3 with ⟨σ2, τ2, a1, a2, a3, a4, a5⟩ | ⟨σ2, τ2, st2, k2, e2, v2, a1, a2, a3, a4, a5, a6, a7, a8, a9⟩
    · rw [show ((200 : Nat) : Int) = 200 from rfl] at a1 a2
      rw [show (200 : Int) - 1 = 199 from rfl] at a2
      obtain ⟨c, p, c1, c2, c3, c4, c5⟩ := a3
      have c4' : sto τ2 1 (420 + np) 0 0 4 = (c : Int) := by rw [sto_k (by omega)]; exact c4
      refine Or.inl ⟨σ2, sto (sto (sto τ2 1 (420 + np) 0) 1 (444 + np) 0) 1 558 (((sto (sto τ2 1 (420 + np) 0) 1 (444 + np) 0) 1 558) + 1), ?_, ?_, ⟨c, p, c1, c2, c3, by rw [sto_k (by omega), sto_k (by omega), sto_k (by omega)]; exact c4, by rw [sto_k (by omega), sto_k (by omega), sto_k (by omega)]; exact c5⟩, frL_3 a4, frN_t (frN_K (frK_t r2 a5)) (frN_t (frN_1 _ (by omega)) (frN_t (frN_1 _ (by omega)) (frN_1 _ (by omega))))⟩
      · rw [a1, bd2_some, cr_ok (by omega), if_pos rfl]
      · rw [a2, bd2_some, chk_ok (by omega), bindv_e, i1, m_nb c4' (by omega), bd2_some, chk_ok (by omega), bindv_e, i2, chk_ok (by omega), chk_ok (by omega), bindv_e, bd_some, m_88b (c := c) (by rw [sto_k (by omega), sto_k (by omega)]; exact c4') (by omega)]
    · rw [show ((200 : Nat) : Int) = 200 from rfl] at a1 a2 a4
      rw [show (200 : Int) - 1 = 199 from rfl] at a2
      have D2 : DRX σ2 (sto τ2 1 (420 + np) v1) np nr nr P := DRX_x (DRX_c (fun c _ _ => a6.1 c (by omega)) (a7.1 1 (by omega)) (a7.2 12 (by omega)) D1) (by omega)
      have P2 : PD n b σ2 (sto τ2 1 (420 + np) v1) e1 st2 k2 e2 v2 := PD_c rfl rfl rfl (fun j _ => sto_k (by omega)) (sto_c (by omega)) a9
      rw [a1, a2, bd2_some, cr_ok (by omega), if_neg (by omega), bindv_e, bd2_some, chk_ok (by omega), bindv_e, i1, a5]
      rcases num_j (bound := 200) hB (by omega) P2 with ⟨σ3, τ3, g1, g2, g3, g4, g5⟩ | ⟨σ3, τ3, st3, k3, e3, v3, g1, g2, g3, g4, g5, g6, g7, g8, g9⟩
      · rw [show ((200 : Nat) : Int) = 200 from rfl] at g1 g2
        rw [show (200 : Int) - 1 = 199 from rfl] at g2
        obtain ⟨c, p, c1, c2, c3, c4, c5⟩ := g3
        refine Or.inl ⟨σ3, sto (sto τ3 1 (444 + np) 0) 1 558 (((sto τ3 1 (444 + np) 0) 1 558) + 1), ?_, ?_, ⟨c, p, c1, c2, c3, by rw [sto_k (by omega), sto_k (by omega)]; exact c4, by rw [sto_k (by omega), sto_k (by omega)]; exact c5⟩, frL_t (frL_3 a6.1) (frL_3 g4), frN_t (frN_K (frK_t r2 a7)) (frN_t (frN_1 _ (by omega)) (frN_t (frN_K g5) (frN_t (frN_1 _ (by omega)) (frN_1 _ (by omega)))))⟩
        · rw [g1, bd2_some, cr_ok (by omega), if_pos rfl]
        · rw [g2, bd2_some, chk_ok (by omega), bindv_e, i2, chk_ok (by omega), chk_ok (by omega), bindv_e, bd_some, m_88b (c := c) (by rw [sto_k (by omega), sto_k (by omega)]; exact c4) (by omega)]
      · rw [show ((200 : Nat) : Int) = 200 from rfl] at g1 g2 g4
        rw [show (200 : Int) - 1 = 199 from rfl] at g2
        have D3 : DRX σ3 τ3 np nr nr P := DRX_c (fun c _ _ => g6.1 c (by omega)) (g7.1 1 (by omega)) (g7.2 12 (by omega)) D2
        have w9 : σ3 111 9 = (np : Int) := D3.2.1.1
        have w8 : sto τ3 1 (444 + np) v2 1 558 = (np : Int) := by rw [sto_i (by omega)]; exact D3.2.1.2.1
        have w7 : τ3 1 (420 + np) = v1 := by rw [g7.1 1 (by omega), sto_eq]
        have ad : fX1_addPoint 111 v1 v2 σ3 = some (sto (sto (sto σ3 112 np v1) 113 np v2) 111 9 ((np : Int) + 1)) := by
          have x1 : sto σ3 112 np v1 111 9 = (np : Int) := by rw [sto_k (by omega)]; exact w9
          have x2 : sto (sto σ3 112 np v1) 113 np v2 111 9 = (np : Int) := by rw [sto_k (by omega)]; exact x1
          unfold fX1_addPoint fX1_addPoint_39
          rw [w9, cr_ok (by omega), if_pos (by omega), chk_ok (by omega), bindv_e, tn_c, x1, chk_ok (by omega), bindv_e, tn_c, x2, bindv_e]
        have D4 := DRX_pt (x := v1) (y := v2) D3 (by omega) (by omega) (by omega) w7
        have P4 : PD n b (sto (sto (sto σ3 112 np v1) 113 np v2) 111 9 ((np : Int) + 1)) (sto (sto τ3 1 (444 + np) v2) 1 558 ((np : Int) + 1)) e2 st3 k3 e3 v3 := PD_c (by rw [sto_c (by omega), sto_c (by omega), sto_c (by omega)]) (by rw [sto_c (by omega), sto_c (by omega), sto_c (by omega)]) (by rw [sto_c (by omega), sto_c (by omega), sto_c (by omega)]) (fun j _ => by rw [sto_k (by omega), sto_k (by omega)]) (by rw [sto_c (by omega), sto_c (by omega)]) g9
        have O := semi_O hB P4 D4
        rw [g1, bd2_some, cr_ok (by omega), if_neg (by omega), g5, ad, bd_some, g2, bd2_some, chk_ok (by omega), bindv_e, i2, chk_ok (by omega), chk_ok (by omega), bindv_e, w8, bd_some]
        have O2 : OUT n b e σ τ (fX2_readSemicolon (sto (sto (sto σ3 112 np v1) 113 np v2) 111 9 ((np : Int) + 1))) (fX8_readLine_88 (sto (sto τ3 1 (444 + np) v2) 1 558 ((np : Int) + 1))) := OUT_t (by omega) (frL_t (frL_3 a6.1) (frL_t (frL_3 g6.1) (fun c h1 h2 => by rw [sto_c (by omega), sto_c (by omega), sto_c (by omega)]))) (frN_t (frN_K (frK_t r2 a7)) (frN_t (frN_1 _ (by omega)) (frN_t (frN_K g7) (frN_t (frN_1 _ (by omega)) (frN_1 _ (by omega)))))) (fun j hj => by rw [sto_k (by omega), sto_k (by omega), sto_k (by omega), fr3_j g6 hj, fr3_j a6 hj]) O
        rcases O2 with ⟨σ', τ', o1, o2, o3⟩ | ⟨σ', τ', s', st', k', e', v', np', nr', P', o1, o2, o3⟩
        · exact Or.inl ⟨σ', τ', by rw [o1, bd2_some, chb_0], o2, o3⟩
        · exact Or.inr ⟨σ', τ', s', st', k', e', v', np', nr', P', by rw [o1, bd2_some, chb_1], o2, o3⟩
