/-! pins, rings, lines -/
def mPin (τ : Mm) : Option Mm := bd (fX8_readsOn τ) (fun σ_6 => bd2 (fX8_numberRead 23 σ_6) (fun x_7 σ_7 => bindv x_7 (fun v2_8 => chk (468 + v2_8) 700 (bindv (sto σ_7 1 (468 + v2_8).toNat 1) (fun σ_9 => cr (v2_8 + 1) (cr (σ_9 0 12) ((if σ_9 0 12 < v2_8 + 1 then fX8_readLine_85 (v2_8 + 1) σ_9 else fX8_readLine_85 (σ_9 0 12) σ_9)))))))) 
theorem DRX_pin {σ τ : Mm} {np nr nd P p Q : Nat} (h : DRX σ τ np nr nd P) (hp : p < 24) (hQ : (Q = P ∧ p + 1 ≤ P) ∨ (Q = p + 1 ∧ P ≤ p + 1)) : DRX (sto σ 114 p 1) (sto (sto τ 1 (468 + p) 1) 0 12 (Q : Int)) np nr nd Q := by
  obtain ⟨h1, h2, h3, h4, h5, h6, h7⟩ := h
  refine ⟨h1, ⟨?_, ?_, ?_, ?_⟩, fun q hq => ?_, fun q hq => ?_, fun r hr => ?_, fun r hr hr2 => ?_, sto_eq _ _ _ _, by omega, fun q hq => ?_, ?_⟩
  · simp (disch := omega) only [sto_k, sto_i, sto_eq]; exact h2.1
  · simp (disch := omega) only [sto_k, sto_i, sto_eq]; exact h2.2.1
  · simp (disch := omega) only [sto_k, sto_i, sto_eq]; exact h2.2.2.1
  · simp (disch := omega) only [sto_k, sto_i, sto_eq]; exact h2.2.2.2
  · simp (disch := omega) only [sto_k, sto_i, sto_eq]; exact h3 q hq
  · by_cases z : q = p
    · subst z
      simp (disch := omega) only [sto_k, sto_i, sto_eq]
      exact ⟨trivial, Or.inr trivial⟩
    · simp (disch := omega) only [sto_k, sto_i, sto_eq]
      exact h4 q hq
  · obtain ⟨m, ⟨r1, r2, r3, r4, r5⟩, m2⟩ := h5 r hr
    refine ⟨m, ⟨r1, ?_, ?_, fun i hi => ?_, fun i j hi hj => ?_⟩, m2⟩
    · simp (disch := omega) only [sto_k, sto_i, sto_eq]; exact r2
    · simp (disch := omega) only [sto_k, sto_i, sto_eq]; exact r3
    · simp (disch := omega) only [sto_k, sto_i, sto_eq]; exact r4 i hi
    · simp (disch := omega) only [sto_k, sto_i, sto_eq]; exact r5 i j hi hj
  · simp (disch := omega) only [sto_k, sto_i, sto_eq]; exact h6 r hr hr2
  · intro h
    by_cases z : q = p
    · omega
    · rw [sto_k (by omega), sto_i (by omega)] at h
      have := h7.2.2.1 q hq h
      omega
  · rcases hQ with ⟨rfl, hQ⟩ | ⟨rfl, hQ⟩
    · right
      by_cases z : Q - 1 = p
      · rw [z, sto_k (by omega), sto_eq]
      · rw [sto_k (by omega), sto_i (by omega)]
        rcases h7.2.2.2 with y | y
        · omega
        · exact y
    · right
      rw [show p + 1 - 1 = p by omega, sto_k (by omega), sto_eq]
theorem pin_j {n : Nat} {b : Nat → Int} {σ τ : Mm} {e np nr P : Nat} (hB : BT n b) (hT : TB σ n b) (hM : TM τ n b) (he : e ≤ n) (h2 : σ 3 2 = (e : Int)) (t4 : τ 0 4 = 0) (t6 : τ 0 6 = (e : Int)) (hD : DRX σ τ np nr nr P) : OUT n b e σ τ (fX2_readPin σ) (mPin τ) := by
  obtain ⟨τ1, st1, k1, e1, v1, r1, r2, r3⟩ := pd_next hB hT hM he h2 t4 t6
  have D1 : DRX σ τ1 np nr nr P := DRX_c (fun c _ _ => rfl) (r2.1 1 (by omega)) (r2.2 12 (by omega)) hD
  have hP := hD.2.2.2.2.2.2.2.1
  unfold mPin fX2_readPin
  rw [r1, bd_some]
  rcases num_j (bound := 24) hB (by omega) r3 with ⟨σ2, τ2, a1, a2, a3, a4, a5⟩ | ⟨σ2, τ2, st2, k2, e2, v2, a1, a2, a3, a4, a5, a6, a7, a8, a9⟩
  · rw [show ((24 : Nat) : Int) = 24 from rfl] at a1 a2
    rw [show (24 : Int) - 1 = 23 from rfl] at a2
    obtain ⟨c, p, c1, c2, c3, c4, c5⟩ := a3
    have p12 : sto τ2 1 468 1 0 12 = (P : Int) := by rw [sto_k (by omega), a5.2 12 (by omega)]; exact D1.2.2.2.2.2.2.1
    have c4' : ∀ x, sto (sto τ2 1 468 1) 0 12 x 0 4 = (c : Int) := fun x => by rw [sto_i (by omega), sto_k (by omega)]; exact c4
    have c5' : ∀ x, sto (sto τ2 1 468 1) 0 12 x 0 5 = (p : Int) := fun x => by rw [sto_i (by omega), sto_k (by omega)]; exact c5
    have fN : ∀ x, frN τ (sto (sto τ2 1 468 1) 0 12 x) := fun x => frN_t (frN_K (frK_t r2 a5)) (frN_t (frN_1 _ (by omega)) (frN_12 _))
    rw [a1, bd2_some, cr_ok (by omega), if_pos rfl, a2, bd2_some, bindv_e, show (468 : Int) + 0 = 468 from rfl, chk_ok (by omega), bindv_e, show (468 : Int).toNat = 468 from rfl, show (0 : Int) + 1 = 1 from rfl, cr_ok (by omega), p12, cr_ok (by omega)]
    by_cases z : (P : Int) < 1
    · rw [if_pos z]
      unfold fX8_readLine_85
      rw [bindv_e, m_88b (c := c) (c4' 1) (by omega)]
      exact Or.inl ⟨σ2, _, rfl, rfl, ⟨c, p, c1, c2, c3, c4' 1, c5' 1⟩, frL_3 a4, fN 1⟩
    · rw [if_neg z]
      unfold fX8_readLine_85
      rw [bindv_e, m_88b (c := c) (c4' _) (by omega)]
      exact Or.inl ⟨σ2, _, rfl, rfl, ⟨c, p, c1, c2, c3, c4' _, c5' _⟩, frL_3 a4, fN _⟩
  · rw [show ((24 : Nat) : Int) = 24 from rfl] at a1 a2 a4
    rw [show (24 : Int) - 1 = 23 from rfl] at a2
    obtain ⟨p, rfl⟩ : ∃ p : Nat, v1 = (p : Int) := ⟨v1.toNat, by omega⟩
    have D2 : DRX σ2 τ2 np nr nr P := DRX_c (fun c _ _ => a6.1 c (by omega)) (a7.1 1 (by omega)) (a7.2 12 (by omega)) D1
    have e5 := c_isBelow σ2 (v := (p : Int)) (n := 24) (by omega) (by omega)
    rw [bI_t (by omega)] at e5
    have ip : (468 + (p : Int)).toNat = 468 + p := by omega
    have p12 : sto τ2 1 (468 + p) 1 0 12 = (P : Int) := by rw [sto_k (by omega)]; exact D2.2.2.2.2.2.2.1
    have fin : ∀ Q : Nat, ((Q = P ∧ p + 1 ≤ P) ∨ (Q = p + 1 ∧ P ≤ p + 1)) → OUT n b e σ τ (fX2_readPin_36 (sto σ2 114 p 1)) (fX8_readLine_88 (sto (sto τ2 1 (468 + p) 1) 0 12 (Q : Int))) := fun Q hQ => by
      have D3 := DRX_pin D2 (by omega) hQ
      have P3 : PD n b (sto σ2 114 p 1) (sto (sto τ2 1 (468 + p) 1) 0 12 (Q : Int)) e1 st2 k2 e2 v2 := PD_c (sto_c (by omega)) (sto_c (by omega)) (sto_c (by omega)) (fun j hj => by rw [sto_i hj, sto_k (by omega)]) (by rw [sto_c (by omega), sto_c (by omega)]) a9
      have O := semi_O hB P3 D3
      have O2 : OUT n b e σ τ (fX2_readSemicolon (sto σ2 114 p 1)) (fX8_readLine_88 (sto (sto τ2 1 (468 + p) 1) 0 12 (Q : Int))) := OUT_t (by omega) (frL_t (frL_3 a6.1) (fun c h1 h2 => sto_c (by omega))) (frN_t (frN_K (frK_t r2 a7)) (frN_t (frN_1 _ (by omega)) (frN_12 _))) (fun j hj => by rw [sto_k (by omega), fr3_j a6 hj]) O
      unfold fX2_readPin_36
      rcases O2 with ⟨σ', τ', o1, o2, o3⟩ | ⟨σ', τ', s', st', k', e', v', np', nr', P', o1, o2, o3⟩
      · exact Or.inl ⟨σ', τ', by rw [o1, bd2_some, chb_0], o2, o3⟩
      · exact Or.inr ⟨σ', τ', s', st', k', e', v', np', nr', P', by rw [o1, bd2_some, chb_1], o2, o3⟩
    rw [a1, a2, bd2_some, bd2_some, cr_ok (by omega), if_neg (by omega), a5, e5, bd_some, cr_ok (by omega), if_neg (by omega), chb_1, chk_ok (by omega), bindv_e, tn_c, bindv_e, chk_ok (by omega), bindv_e, ip, cr_ok (by omega), p12, cr_ok (by omega)]
    by_cases z : (P : Int) < (p : Int) + 1
    · rw [if_pos z]
      unfold fX8_readLine_85
      rw [bindv_e]
      exact fin (p + 1) (Or.inr ⟨rfl, by omega⟩)
    · rw [if_neg z]
      unfold fX8_readLine_85
      rw [bindv_e]
      exact fin P (Or.inl ⟨rfl, by omega⟩)
theorem DRX_op {σ τ : Mm} {np nr P : Nat} (h : DRX σ τ np nr nr P) (hr : nr < 6) : DRX (sto (sto σ 116 nr 0) 111 10 ((nr + 1 : Nat) : Int)) (sto τ 1 559 ((nr + 1 : Nat) : Int)) np nr (nr + 1) P ∧ RG (sto (sto σ 116 nr 0) 111 10 ((nr + 1 : Nat) : Int)) (sto τ 1 559 ((nr + 1 : Nat) : Int)) nr 0 := by
  obtain ⟨h1, h2, h3, h4, h5, h6, h7⟩ := h
  refine ⟨⟨by omega, ⟨?_, ?_, ?_, ?_⟩, fun q hq => ?_, fun q hq => ?_, fun r hr => ?_, fun r hr hr2 => ?_, ?_, h7.2.1, fun q hq => ?_, ?_⟩, by omega, ?_, ?_, fun i hi => by omega, fun i j hi => by omega⟩
  · simp (disch := omega) only [sto_k, sto_i, sto_eq]; exact h2.1
  · simp (disch := omega) only [sto_k, sto_i, sto_eq]; exact h2.2.1
  · simp (disch := omega) only [sto_k, sto_i, sto_eq]
  · simp (disch := omega) only [sto_k, sto_i, sto_eq]
  · simp (disch := omega) only [sto_k, sto_i, sto_eq]; exact h3 q hq
  · simp (disch := omega) only [sto_k, sto_i, sto_eq]; exact h4 q hq
  · obtain ⟨m, ⟨r1, r2, r3, r4, r5⟩, m2⟩ := h5 r hr
    refine ⟨m, ⟨r1, ?_, ?_, fun i hi => ?_, fun i j hi hj => ?_⟩, m2⟩
    · simp (disch := omega) only [sto_k, sto_i, sto_eq]; exact r2
    · simp (disch := omega) only [sto_k, sto_i, sto_eq]; exact r3
    · simp (disch := omega) only [sto_k, sto_i, sto_eq]; exact r4 i hi
    · simp (disch := omega) only [sto_k, sto_i, sto_eq]; exact r5 i j hi hj
  · simp (disch := omega) only [sto_k, sto_i, sto_eq]; exact h6 r (by omega) hr2
  · simp (disch := omega) only [sto_k, sto_i, sto_eq]; exact h7.1
  · simp (disch := omega) only [sto_k, sto_i, sto_eq]; exact h7.2.2.1 q hq
  · simp (disch := omega) only [sto_k, sto_i, sto_eq]; exact h7.2.2.2
  · simp (disch := omega) only [sto_k, sto_i, sto_eq]; rfl
  · simp (disch := omega) only [sto_k, sto_i, sto_eq]; exact h6 nr (by omega) hr
theorem DRX_co {σ τ : Mm} {np nr P i : Nat} {v : Int} (h : DRX σ τ np nr (nr + 1) P) (g : RG σ τ nr i) (hi : i < 10) (hv : 0 ≤ v ∧ v < 24) (hd : ∀ j, j < i → τ 1 (492 + 10 * nr + j) ≠ v) : DRX (sto (sto σ (121 + nr) i v) 116 nr ((i + 1 : Nat) : Int)) (sto (sto τ 1 (492 + 10 * nr + i) v) 1 (552 + nr) ((i + 1 : Nat) : Int)) np nr (nr + 1) P ∧ RG (sto (sto σ (121 + nr) i v) 116 nr ((i + 1 : Nat) : Int)) (sto (sto τ 1 (492 + 10 * nr + i) v) 1 (552 + nr) ((i + 1 : Nat) : Int)) nr (i + 1) := by
  obtain ⟨h1, h2, h3, h4, h5, h6, h7⟩ := h
  obtain ⟨g1, g2, g3, g4, g5⟩ := g
  refine ⟨⟨by omega, ⟨?_, ?_, ?_, ?_⟩, fun q hq => ?_, fun q hq => ?_, fun r hr => ?_, fun r hr hr2 => ?_, ?_, h7.2.1, fun q hq => ?_, ?_⟩, by omega, ?_, ?_, fun j hj => ?_, fun j l hj hl => ?_⟩
  · simp (disch := omega) only [sto_k, sto_i, sto_eq]; exact h2.1
  · simp (disch := omega) only [sto_k, sto_i, sto_eq]; exact h2.2.1
  · simp (disch := omega) only [sto_k, sto_i, sto_eq]; exact h2.2.2.1
  · simp (disch := omega) only [sto_k, sto_i, sto_eq]; exact h2.2.2.2
  · simp (disch := omega) only [sto_k, sto_i, sto_eq]; exact h3 q hq
  · simp (disch := omega) only [sto_k, sto_i, sto_eq]; exact h4 q hq
  · obtain ⟨m, ⟨r1, r2, r3, r4, r5⟩, m2⟩ := h5 r hr
    refine ⟨m, ⟨r1, ?_, ?_, fun i hi => ?_, fun i j hi hj => ?_⟩, m2⟩
    · simp (disch := omega) only [sto_k, sto_i, sto_eq]; exact r2
    · simp (disch := omega) only [sto_k, sto_i, sto_eq]; exact r3
    · simp (disch := omega) only [sto_k, sto_i, sto_eq]; exact r4 i hi
    · simp (disch := omega) only [sto_k, sto_i, sto_eq]; exact r5 i j hi hj
  · simp (disch := omega) only [sto_k, sto_i, sto_eq]; exact h6 r (by omega) hr2
  · simp (disch := omega) only [sto_k, sto_i, sto_eq]; exact h7.1
  · simp (disch := omega) only [sto_k, sto_i, sto_eq]; exact h7.2.2.1 q hq
  · simp (disch := omega) only [sto_k, sto_i, sto_eq]; exact h7.2.2.2
  · simp (disch := omega) only [sto_k, sto_i, sto_eq]
  · simp (disch := omega) only [sto_k, sto_i, sto_eq]
  · by_cases z : j = i
    · subst z
      simp (disch := omega) only [sto_k, sto_i, sto_eq]
      exact ⟨trivial, hv⟩
    · simp (disch := omega) only [sto_k, sto_i, sto_eq]
      exact g4 j (by omega)
  · by_cases z : j = i
    · by_cases y : l = i
      · intro _; omega
      · subst z
        simp (disch := omega) only [sto_k, sto_i, sto_eq]
        intro q
        exact absurd q.symm (hd l (by omega))
    · by_cases y : l = i
      · subst y
        simp (disch := omega) only [sto_k, sto_i, sto_eq]
        intro q
        exact absurd q (hd j (by omega))
      · simp (disch := omega) only [sto_k, sto_i, sto_eq]
        exact g5 j l (by omega) (by omega)
theorem c_newest {σ τ : Mm} {np nr P i : Nat} {v : Int} (h : DRX σ τ np nr (nr + 1) P) (g : RG σ τ nr i) (hv : inR v) : fX1_newestRingHas 111 v σ = some (bI (∃ j, j < i ∧ τ 1 (492 + 10 * nr + j) = v)) := by
  have d1 := h.2.1.2.2.1
  have d2 := h.1.2.2
  obtain ⟨g1, g2, g3, g4, g5⟩ := g
  have x1 : σ (111 + 5) nr = (i : Int) := g2
  have key := it_ex0 (f := fun c => fX1_newestRingHas_9 111 v nr σ (fX1_newestRingHas_43 111 σ) c) i (fun j => τ 1 (492 + 10 * nr + j) = v) (some 1) (some 0) (by omega) (fun c j hj => by
    obtain ⟨q1, q2, q3⟩ := g4 j hj
    have x2 : σ (111 + 10 + nr) j = τ 1 (492 + 10 * nr + j) := q1
    simp (disch := omega) only [fX1_newestRingHas_9, x1, x2, if_pos, if_neg, Int.reduceAdd, Int.reduceSub, Int.reduceMul, Int.zero_add, Int.add_zero, Nat.zero_add, na_0, ca_la, ca_al, ca_lm, ca_add, ca_mod, ca_lit, tn_c, Int.natCast_zero, bd_some, bd2_some, bindv_e, chk_ok, cr_ok, crl_ok, chd_ok, chb_0, chb_1, cr_bI, chb_bI, ite_bI0, if_true, if_false]
    by_cases q : τ 1 (492 + 10 * nr + j) = v
    · rw [if_pos q, pI_t q]
    · rw [if_neg q, pI_f q]) (fun c => by
    simp (disch := omega) only [fX1_newestRingHas_9, fX1_newestRingHas_43, x1, if_neg, Int.reduceAdd, Int.reduceSub, Int.reduceMul, Int.zero_add, Int.add_zero, Nat.zero_add, na_0, ca_la, ca_al, ca_lm, ca_add, ca_mod, ca_lit, tn_c, Int.natCast_zero, bd_some, bd2_some, bindv_e, chk_ok, cr_ok, crl_ok, chd_ok, chb_0, chb_1, cr_bI, chb_bI, ite_bI0, if_true, if_false])
  rw [pI_some] at key
  unfold fX1_newestRingHas
  rw [d1, show ((nr + 1 : Nat) : Int) - 1 = (nr : Int) by omega, bindv_e, bindv_e]
  unfold lX1_newestRingHas_9
  exact key
theorem c_addCorner {σ τ : Mm} {np nr P i : Nat} {v : Int} (h : DRX σ τ np nr (nr + 1) P) (g : RG σ τ nr i) (hi : i < 10) : fX1_addCorner 111 v σ = some (sto (sto σ (121 + nr) i v) 116 nr ((i + 1 : Nat) : Int)) := by
  have d1 := h.2.1.2.2.1
  have d2 := h.1.2.2
  have x1 : σ (111 + 5) nr = (i : Int) := g.2.1
  have x2 : sto σ (111 + 10 + nr) i v (111 + 5) nr = (i : Int) := by rw [sto_k (by omega)]; exact x1
  unfold fX1_addCorner fX1_addCorner_46
  rw [d1, show ((nr + 1 : Nat) : Int) - 1 = (nr : Int) by omega, bindv_e, cr_ok (by omega), if_neg (by omega), chk_ok (by omega), tn_c, x1, cr_ok (by omega), if_pos (by omega), chk_ok (by omega), chk_ok (by omega), chk_ok (by omega), tn_c, bindv_e, chk_ok (by omega), chk_ok (by omega), x2, bindv_e]
  rfl
theorem m_118b {τ : Mm} {r m : Int} {c : Nat} (h : τ 0 4 = (c : Int)) (hc : 1 ≤ c ∧ c ≤ 6) : fX8_readCorner_118 r m τ = some τ := by
  unfold fX8_readCorner_118 fX8_readCorner_158
  rw [h, cr_ok (by omega), if_neg (by omega), m_ro_broken h (by omega), bd_some]
theorem m_71b {τ : Mm} {r : Int} {i c : Nat} (hi : i ≤ 10) (h : τ 0 4 = (c : Int)) (hc : 1 ≤ c ∧ c ≤ 6) : fX8_readCorner_71 r i τ = some τ := by
  unfold fX8_readCorner_71
  rw [bindv_e]
  unfold lX8_readCorner_73
  rw [show (400 : Nat) = 399 + 1 from rfl, itN_s]
  generalize itN (fun _ _ => none) (fun c73 => fX8_readCorner_73 r i (fun σ_2 => fX8_readCorner_118 r i σ_2) c73) 399 = cc
  unfold fX8_readCorner_73
  rw [cr_ok (by omega), cr_ok (by omega)]
  by_cases z : (0 : Int) < i
  · rw [if_pos z, h, cr_ok (by omega), if_neg (by omega)]
    exact m_118b h hc
  · rw [if_neg z]
    exact m_118b h hc
theorem m_50b {τ : Mm} {r : Int} {i c : Nat} (hi : i ≤ 10) (h : τ 0 4 = (c : Int)) (hc : 1 ≤ c ∧ c ≤ 6) : fX8_readCorner_50 r i τ = some τ := by
  unfold fX8_readCorner_50
  rw [h, cr_ok (by omega), if_neg (by omega), m_71b hi h hc]
theorem m_30b {τ : Mm} {r : Int} {i c : Nat} (hi : i ≤ 10) (h : τ 0 4 = (c : Int)) (hc : 1 ≤ c ∧ c ≤ 6) : fX8_readCorner_30 r i τ = some τ := by
  unfold fX8_readCorner_30
  rw [h, cr_ok (by omega), if_neg (by omega), m_50b hi h hc]
theorem m_rrb {τ : Mm} {r : Int} {fu c : Nat} (h : τ 0 4 = (c : Int)) (hc : 1 ≤ c ∧ c ≤ 6) : itN (fun _ => none) (fun c => fX8_readRing_37 r (fun s => fX8_readRing_74 s) c) (fu + 1) τ = some τ := by
  rw [itN_s]
  generalize itN (fun _ => none) (fun c => fX8_readRing_37 r (fun s => fX8_readRing_74 s) c) fu = cc
  unfold fX8_readRing_37
  rw [h, cr_ok (by omega), if_neg (by omega)]
  rfl
abbrev flS (τ : Mm) (c : Nat) : Mm := sto (sto τ 0 4 (c : Int)) 0 5 (τ 0 7)
theorem flS_4 (τ : Mm) (c : Nat) : flS τ c 0 4 = (c : Int) := fl4 _ _ _
theorem m_failS {τ : Mm} {c : Nat} (h : τ 0 4 = 0) : fX8_fails (c : Int) τ = some (flS τ c) := m_fails h
theorem m_dupb {τ : Mm} {r i fu c : Nat} {x : Int} {e : Mm → Option Mm} (hi : i ≤ 10) (hx : 0 ≤ x ∧ x ≤ 100) (h : τ 0 4 = (c : Int)) (hc : 1 ≤ c ∧ c ≤ 6) : itN (fun _ _ => none) (fun c => fX8_readCorner_73 r i e c) (fu + 1) x τ = e τ := by
  rw [itN_s]
  generalize itN (fun _ _ => none) (fun c => fX8_readCorner_73 r i e c) fu = cc
  unfold fX8_readCorner_73
  rw [cr_ok (by omega), cr_ok (by omega), h]
  by_cases w : x < i
  · rw [if_pos w, cr_ok (by omega), if_neg (by omega)]
  · rw [if_neg w]
theorem m_dup {τ : Mm} {r i : Nat} {v : Int} {e : Mm → Option Mm} (hr : r < 6) (hi : i ≤ 10) (h4 : τ 0 4 = 0) (h9 : τ 0 9 = v) (hv : inR v) (hb : ∀ j, j < i → 0 ≤ τ 1 (492 + 10 * r + j) ∧ τ 1 (492 + 10 * r + j) < 24) : ∀ (fu j : Nat), j ≤ i → i - j < fu → itN (fun _ _ => none) (fun c => fX8_readCorner_73 r i e c) fu j τ = pI (∃ z, j ≤ z ∧ z < i ∧ τ 1 (492 + 10 * r + z) = v) (e (flS τ 4)) (e τ)
  | 0, j, _, h => by omega
  | fu + 1, j, hj, hf => by
    rw [itN_s]
    by_cases z : j = i
    · rw [pI_f (fun ⟨q, q1, q2, q3⟩ => by omega)]
      unfold fX8_readCorner_73
      rw [cr_ok (by omega), cr_ok (by omega), if_neg (by omega)]
    · have ih := m_dup (e := e) hr hi h4 h9 hv hb fu (j + 1) (by omega) (by omega)
      have hbj := hb j (by omega)
      have ix : (492 + 10 * (r : Int) + (j : Int)).toNat = 492 + 10 * r + j := by omega
      by_cases y : τ 1 (492 + 10 * r + j) = v
      · rw [pI_t ⟨j, Nat.le_refl j, by omega, y⟩]
        obtain ⟨fu', rfl⟩ : ∃ fu', fu = fu' + 1 := ⟨fu - 1, by omega⟩
        unfold fX8_readCorner_73
        rw [cr_ok (by omega), cr_ok (by omega), if_pos (by omega), h4, cr_ok (by omega), if_pos rfl, chk_ok (by omega), ix, h9, cr_ok (by omega), cr_ok (by omega), if_pos y, show (4 : Int) = ((4 : Nat) : Int) from rfl, m_failS h4, bd_some]
        unfold fX8_readCorner_112
        rw [bindv_e]
        exact m_dupb hi (by omega) (flS_4 τ 4) (by omega)
      · rw [pI_c (show (∃ z, j ≤ z ∧ z < i ∧ τ 1 (492 + 10 * r + z) = v) ↔ (∃ z, j + 1 ≤ z ∧ z < i ∧ τ 1 (492 + 10 * r + z) = v) from ⟨fun ⟨q, q1, q2, q3⟩ => ⟨q, by
          by_cases w : q = j
          · rw [w] at q3; exact absurd q3 y
          · omega, q2, q3⟩, fun ⟨q, q1, q2, q3⟩ => ⟨q, by omega, q2, q3⟩⟩), ← ih]
        show fX8_readCorner_73 r i e (itN (fun _ _ => none) (fun c => fX8_readCorner_73 r i e c) fu) j τ = _
        generalize itN (fun _ _ => none) (fun c => fX8_readCorner_73 r i e c) fu = cc
        unfold fX8_readCorner_73
        rw [cr_ok (by omega), cr_ok (by omega), if_pos (by omega), h4, cr_ok (by omega), if_pos rfl, chk_ok (by omega), ix, h9, cr_ok (by omega), cr_ok (by omega), if_neg y]
        unfold fX8_readCorner_112
        rw [bindv_e]
        rfl
