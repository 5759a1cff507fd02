/-! a line; all lines -/
theorem ringcall_j {n : Nat} {b : Nat → Int} {σ τ : Mm} {st e np nr P : Nat} (hB : BT n b) (hT : TB σ n b) (hM : TM τ n b) (he : e ≤ n) (hst : st ≤ n) (h2 : σ 3 2 = (e : Int)) (h4 : σ 3 4 = (st : Int)) (t4 : τ 0 4 = 0) (t6 : τ 0 6 = (e : Int)) (t7 : τ 0 7 = (st : Int)) (hD : DRX σ τ np nr nr P) : OUT n b e σ τ (fX2_readRing σ) (bd (fX8_readRing τ) (fun t => fX8_readLine_88 t)) := by
  have hn := hB.1
  have d1 := hD.2.1.2.2.1
  have d2 := hD.2.1.2.2.2
  have dn := hD.1.2.2
  by_cases z : nr = 6
  · have A : fX2_readRing σ = some (0, sto (sto σ 3 6 ((5 : Nat) : Int)) 3 7 (st : Int)) := by
      unfold fX2_readRing
      rw [d1, cr_ok (by omega), if_neg (by omega), c_refuse, bd2_some, chb_0, h4]
      rfl
    have B : fX8_readRing τ = some (flS τ 5) := by
      unfold fX8_readRing
      rw [chk_ok (by omega), bindv_e, d2, cr_ok (by omega), if_pos (by omega), show (5 : Int) = ((5 : Nat) : Int) from rfl, m_failS t4, bd_some]
    rw [A, B, bd_some, m_88b (flS_4 τ 5) (by omega)]
    exact OUT_f (by omega) (by omega) (fr3_r σ) frK_f (flS_4 τ 5) (flS_5 t7)
  · obtain ⟨τ1, st1, k1, e1, v1, r1, r2, r3⟩ := pd_next hB hT hM he h2 t4 t6
    have D1 : DRX σ τ1 np nr nr P := DRX_c (fun c _ _ => rfl) (r2.1 1 (by omega)) (r2.2 12 (by omega)) hD
    obtain ⟨D2, G2⟩ := DRX_op D1 (by omega)
    have P2 : PD n b (sto (sto σ 116 nr 0) 111 10 ((nr + 1 : Nat) : Int)) (sto τ1 1 559 ((nr + 1 : Nat) : Int)) e st1 k1 e1 v1 := PD_c (by rw [sto_c (by omega), sto_c (by omega)]) (by rw [sto_c (by omega), sto_c (by omega)]) (by rw [sto_c (by omega), sto_c (by omega)]) (fun j _ => sto_k (by omega)) (sto_c (by omega)) r3
    have O := ring_j hB (show nr < 6 by omega) 10 389 388 0 _ _ e st1 k1 e1 v1 (by omega) P2 D2 G2
    rw [show 389 + 10 + 1 = 400 from rfl, Int.natCast_zero] at O
    have A : fX2_readRing σ = itN (fun _ _ => none) (fun c => fX2_readRing_31 (fun s => fX2_readRing_72 s) c) 400 0 (sto (sto σ 116 nr 0) 111 10 ((nr + 1 : Nat) : Int)) := by
      have op : fX1_openRing 111 σ = some (sto (sto σ 116 nr 0) 111 10 ((nr + 1 : Nat) : Int)) := by
        have x1 : sto σ (111 + 5) nr 0 111 10 = (nr : Int) := by rw [sto_k (by omega)]; exact d1
        unfold fX1_openRing fX1_openRing_29
        rw [d1, cr_ok (by omega), if_pos (by omega), chk_ok (by omega), tn_c, bindv_e, x1, bindv_e]
        rfl
      unfold fX2_readRing
      rw [d1, cr_ok (by omega), if_pos (by omega), op, bd_some, bindv_e]
      unfold lX2_readRing_31
      rfl
    have B : fX8_readRing τ = itN (fun _ => none) (fun c => fX8_readRing_37 nr (fun s => fX8_readRing_74 s) c) 400 (sto τ1 1 559 ((nr + 1 : Nat) : Int)) := by
      have x1 : τ1 1 559 = (nr : Int) := D1.2.1.2.2.2
      unfold fX8_readRing
      rw [chk_ok (by omega), bindv_e, d2, cr_ok (by omega), if_neg (by omega), r1, bd_some, chk_ok (by omega), chk_ok (by omega), x1, bindv_e]
      unfold lX8_readRing_37
      rfl
    rw [A, B]
    exact OUT_t (Nat.le_refl e) (fun c h1 h2 => by rw [sto_c (by omega), sto_c (by omega)]) (frN_t (frN_K r2) (frN_1 _ (by omega))) (fun j hj => by rw [sto_k (by omega), sto_k (by omega)]) O
theorem nmw_u {b : Nat → Int} {st e w z : Nat} (hw : w < 3) (hz : z < 3) (h : NMW b st e w) (g : NMW b st e z) : w = z := by
  have q : strLn w = strLn z := h.1.symm.trans g.1
  rcases (show w = 0 ∨ w = 1 ∨ w = 2 by omega) with rfl | rfl | rfl <;> rcases (show z = 0 ∨ z = 1 ∨ z = 2 by omega) with rfl | rfl | rfl <;> first | rfl | (exfalso; revert q; decide)
theorem OUT_o {n : Nat} {b : Nat → Int} {s : Nat} {σ τ : Mm} {A : Option (Int × Mm)} {B : Option Mm} (h : OUT n b s σ τ A B) : OUT n b s σ τ (bd2 A (fun x s => chb x (some (x, s)))) B := by
  rcases h with ⟨σ', τ', o1, o2, o3⟩ | ⟨σ', τ', s', st', k', e', v', np', nr', P', o1, o2, o3⟩
  · exact Or.inl ⟨σ', τ', by rw [o1, bd2_some, chb_0], o2, o3⟩
  · exact Or.inr ⟨σ', τ', s', st', k', e', v', np', nr', P', by rw [o1, bd2_some, chb_1], o2, o3⟩
theorem line_j {n : Nat} {b : Nat → Int} {σ τ : Mm} {st k e np nr P : Nat} (hB : BT n b) (hT : TB σ n b) (hM : TM τ n b) (hK : KC τ) (hk : 1 ≤ k ∧ k ≤ 3) (he : st ≤ e ∧ e ≤ n) (h3 : σ 3 3 = (k : Int)) (h2 : σ 3 2 = (e : Int)) (h4 : σ 3 4 = (st : Int)) (t4 : τ 0 4 = 0) (t6 : τ 0 6 = (e : Int)) (t7 : τ 0 7 = (st : Int)) (t8 : τ 0 8 = (k : Int)) (hD : DRX σ τ np nr nr P) : OUT n b e σ τ (fX2_readLine σ) (fX8_readLine τ) := by
  have hn := hB.1
  have n0 := c_nameIs (w := 0) (e := e) hB hT (by omega) h3 (by omega) h4 (fun _ => h2) (fun _ => he)
  have n1 := c_nameIs (w := 1) (e := e) hB hT (by omega) h3 (by omega) h4 (fun _ => h2) (fun _ => he)
  have n2 := c_nameIs (w := 2) (e := e) hB hT (by omega) h3 (by omega) h4 (fun _ => h2) (fun _ => he)
  rcases m_nameHere hB hM hK t8 hk.2 t7 t6 he with ⟨w, hw, w1, w2, w3⟩ | ⟨w1, w3⟩
  · rcases (show w = 0 ∨ w = 1 ∨ w = 2 by omega) with rfl | rfl | rfl
    · rw [bI_t w1] at n0
      unfold fX2_readLine fX8_readLine
      rw [n0, bd_some, cr_ok (by omega), if_neg (by omega), w3, bd_some, bindv_e, cr_ok (by omega), if_neg (by omega), cr_ok (by omega), if_pos (by omega)]
      exact OUT_o (pt_j hB hT hM he.2 (by omega) h2 h4 t4 t6 t7 hD)
    · rw [bI_f (fun q => absurd (nmw_u (by omega) (by omega) q.2 w1.2) (by omega))] at n0
      rw [bI_t w1] at n1
      unfold fX2_readLine fX8_readLine
      rw [n0, bd_some, cr_ok (by omega), if_pos rfl, n1, bd_some, cr_ok (by omega), if_neg (by omega), w3, bd_some, bindv_e, cr_ok (by omega), if_neg (by omega), cr_ok (by omega), if_neg (by omega), cr_ok (by omega), if_pos (by omega)]
      exact OUT_o (ringcall_j hB hT hM he.2 (by omega) h2 h4 t4 t6 t7 hD)
    · rw [bI_f (fun q => absurd (nmw_u (by omega) (by omega) q.2 w1.2) (by omega))] at n0 n1
      rw [bI_t w1] at n2
      have M : fX8_readLine τ = mPin τ := by
        unfold fX8_readLine mPin
        rw [w3, bd_some, bindv_e, cr_ok (by omega), if_neg (by omega), cr_ok (by omega), if_neg (by omega), cr_ok (by omega), if_neg (by omega)]
      rw [M]
      unfold fX2_readLine
      rw [n0, bd_some, cr_ok (by omega), if_pos rfl, n1, bd_some, cr_ok (by omega), if_pos rfl, n2, bd_some, cr_ok (by omega), if_neg (by omega)]
      exact OUT_o (pin_j hB hT hM he.2 h2 t4 t6 hD)
  · rw [bI_f (w1 0 (by omega))] at n0
    rw [bI_f (w1 1 (by omega))] at n1
    rw [bI_f (w1 2 (by omega))] at n2
    unfold fX2_readLine fX8_readLine
    rw [n0, bd_some, cr_ok (by omega), if_pos rfl, n1, bd_some, cr_ok (by omega), if_pos rfl, n2, bd_some, cr_ok (by omega), if_pos rfl, c_refuseToken h3 (by omega) h4, if_neg (by omega), bd2_some, chb_0, w3, bd_some, bindv_e, cr_ok (by omega), if_pos rfl, show fX8_fails 2 τ = some (flS τ 2) from m_failS t4, bd_some, m_88b (flS_4 τ 2) (by omega)]
    exact OUT_f (c := 2) (by omega) (by omega) (fr3_r σ) frK_f (flS_4 τ 2) (flS_5 t7)
theorem KC_c {τ τ' : Mm} (h : frN τ τ') (g : KC τ) : KC τ' := by
  unfold KC at g ⊢
  rw [h.1 3 (by omega), h.1 4 (by omega)]
  exact g
/-- how all lines end -/
def ALO (n : Nat) (σ τ : Mm) (E : Int → Mm → Option (Int × Mm)) (A B : Option (Int × Mm)) : Prop := (∃ σ' τ' l, A = some (0, σ') ∧ B = E l τ' ∧ FL σ' τ' ∧ frL σ σ' ∧ frN τ τ') ∨ (∃ (σ' τ' : Mm) (l np nr P : Nat), A = some (1, σ') ∧ B = E (l : Int) τ' ∧ τ' 0 4 = 0 ∧ τ' 0 7 = (n : Int) ∧ DRX σ' τ' np nr nr P ∧ σ' 3 8 = (l : Int) ∧ σ' 3 6 = σ 3 6 ∧ frL σ σ' ∧ frN τ τ')
theorem m_47b {τ : Mm} {l : Int} {fu c : Nat} {E : Int → Mm → Option (Int × Mm)} (h : τ 0 4 = (c : Int)) (hc : 1 ≤ c ∧ c ≤ 6) : itN (fun _ _ => none) (fun c => fX8_text_47 E c) (fu + 1) l τ = E l τ := by
  rw [itN_s]
  generalize itN (fun _ _ => none) (fun c => fX8_text_47 E c) fu = cc
  unfold fX8_text_47
  rw [h, cr_ok (by omega), if_neg (by omega)]
theorem all_j {n : Nat} {b : Nat → Int} {E : Int → Mm → Option (Int × Mm)} (hB : BT n b) : ∀ (d fu fv i : Nat) (σ τ : Mm) (s st k e np nr P : Nat) (v : Int), n - s ≤ d → i ≤ s → PD n b σ τ s st k e v → DRX σ τ np nr nr P → KC τ → σ 3 8 = (i : Int) → ALO n σ τ E (itN (fun _ _ => none) (fun c => fX2_readAll_29 (fun s => fX2_readAll_74 s) c) (fu + d + 1) i σ) (itN (fun _ _ => none) (fun c => fX8_text_47 E c) (fv + d + 1) i τ) := by
  intro d
  induction d with
  | zero =>
    intro fu fv i σ τ s st k e np nr P v hd hi hP hD hK h8
    obtain ⟨p1, p2, p3, p4, p5, p6⟩ := hP
    obtain ⟨ρ, a1, a2, a3, a4, a5, a6⟩ := c_nextToken hB p5 p1 p4 p3
    obtain ⟨f1, f2, f3, f4, f5, f6, f7⟩ := tkn_f p5
    have hn := hB.1
    have hst : st = n := by omega
    have hk : k = 0 := by
      rcases p5.2 with ⟨-, q, -⟩ | ⟨q, -⟩ | ⟨q, -⟩ | ⟨q, -⟩ | ⟨q, -⟩
      · exact q
      all_goals omega
    subst hk
    rcases p6 with ⟨q1, -⟩ | ⟨q1, q2, q3, q4, q5, q6⟩
    · omega
    rw [Nat.add_zero, Nat.add_zero, itN_s, itN_s _ (fun c => fX8_text_47 E c) fv]
    refine Or.inr ⟨ρ, τ, i, np, nr, P, ?_, ?_, q2, by rw [q3, hst], DRX_c (fun c _ _ => a2.1 c (by omega)) rfl rfl hD, by rw [fr3_j a2 (by omega)]; exact h8, fr3_j a2 (by omega), frL_3 a2.1, frN_K (frK_r τ)⟩
    · generalize itN (fun _ _ => none) (fun c => fX2_readAll_29 (fun s => fX2_readAll_74 s) c) fu = cc
      unfold fX2_readAll_29
      rw [cr_ok (by omega), if_neg (by omega), a1, bd_some, a4, cr_ok (by omega), if_pos (by omega)]
    · generalize itN (fun _ _ => none) (fun c => fX8_text_47 E c) fv = cc
      unfold fX8_text_47
      rw [q2, cr_ok (by omega), if_pos rfl, q4, cr_ok (by omega), if_pos (by omega)]
  | succ d ih =>
    intro fu fv i σ τ s st k e np nr P v hd hi hP hD hK h8
    obtain ⟨p1, p2, p3, p4, p5, p6⟩ := hP
    obtain ⟨ρ, a1, a2, a3, a4, a5, a6⟩ := c_nextToken hB p5 p1 p4 p3
    obtain ⟨f1, f2, f3, f4, f5, f6, f7⟩ := tkn_f p5
    have hn := hB.1
    have IH := fun σ τ s st k e np nr P v => ih fu fv (i + 1) σ τ s st k e np nr P v
    clear ih
    rw [show fu + (d + 1) + 1 = (fu + d + 1) + 1 by omega, show fv + (d + 1) + 1 = (fv + d + 1) + 1 by omega, itN_s _ (fun c => fX2_readAll_29 (fun s => fX2_readAll_74 s) c) (fu + d + 1), itN_s _ (fun c => fX8_text_47 E c) (fv + d + 1)]
    have RB := fun (t : Mm) (c : Nat) (l : Int) (h : t 0 4 = (c : Int)) (hc : 1 ≤ c ∧ c ≤ 6) => m_47b (E := E) (fu := fv + d) (l := l) h hc
    generalize itN (fun _ _ => none) (fun c => fX2_readAll_29 (fun s => fX2_readAll_74 s) c) (fu + d + 1) = cc at *
    generalize itN (fun _ _ => none) (fun c => fX8_text_47 E c) (fv + d + 1) = rc at *
    show ALO n σ τ E (fX2_readAll_29 (fun s => fX2_readAll_74 s) cc (i : Int) σ) (fX8_text_47 E rc (i : Int) τ)
    unfold fX2_readAll_29 fX8_text_47
    rw [cr_ok (by omega), if_neg (by omega), a1, bd_some, a4, cr_ok (by omega)]
    rcases p6 with ⟨q1, q2, q3⟩ | ⟨q1, q2, q3, q4, q5, q6⟩
    · subst q1
      have n0 := fun w hw => c_nameIs (w := w) (e := e) hB (TB_c (a2.1 1 (by omega)) (a2.1 2 (by omega)) p1) hw a4 (by omega) a3 (fun y => by omega) (fun y => by omega)
      have rl : fX2_readLine ρ = some (0, sto (sto ρ 3 6 ((1 : Nat) : Int)) 3 7 (st : Int)) := by
        have m0 := n0 0 (by omega)
        have m1 := n0 1 (by omega)
        have m2 := n0 2 (by omega)
        rw [bI_f (fun q => absurd q.1 (by omega))] at m0 m1 m2
        unfold fX2_readLine
        rw [m0, bd_some, cr_ok (by omega), if_pos rfl, m1, bd_some, cr_ok (by omega), if_pos rfl, m2, bd_some, cr_ok (by omega), if_pos rfl, c_refuseToken a4 (by omega) a3, if_pos rfl, bd2_some, chb_0]
        rfl
      rw [if_neg (by omega), rl, bd2_some, cr_ok (by omega), if_pos rfl, q2, cr_ok (by omega), if_neg (by omega)]
      exact Or.inl ⟨_, τ, i, rfl, rfl, FL_c (c := 1) ⟨by omega, by omega, by omega⟩ q2 q3, frL_3 (fun c hc => by rw [sto_c hc, sto_c hc]; exact a2.1 c hc), frN_K (frK_r τ)⟩
    · by_cases z0 : k = 0
      · subst z0
        rw [if_pos (by omega), q2, cr_ok (by omega), if_pos rfl, q4, cr_ok (by omega), if_pos (by omega)]
        exact Or.inr ⟨ρ, τ, i, np, nr, P, rfl, rfl, q2, by rw [q3, (f6 rfl).1], DRX_c (fun c _ _ => a2.1 c (by omega)) rfl rfl hD, by rw [fr3_j a2 (by omega)]; exact h8, fr3_j a2 (by omega), frL_3 a2.1, frN_K (frK_r τ)⟩
      · have a5 := a5 q1
        have f5 := f5 q1 (by omega)
        have f4 := f4 q1
        have L := line_j (np := np) (nr := nr) (P := P) hB (TB_c (a2.1 1 (by omega)) (a2.1 2 (by omega)) p1) p2 hK (show 1 ≤ k ∧ k ≤ 3 by omega) ⟨by omega, f4⟩ a4 a5 a3 q2 q5 q3 q4 (DRX_c (fun c _ _ => a2.1 c (by omega)) rfl rfl hD)
        rw [if_neg (by omega), q2, cr_ok (x := 0) (by omega), if_pos rfl, q4, cr_ok (by omega), if_neg (by omega)]
        rcases L with ⟨σ', τ', o1, o2, o3, o4, o5⟩ | ⟨σ', τ', s', st', k', e', v', np', nr', P', o1, o2, o3, o4, o5, o6, o7, o8⟩
        · obtain ⟨c, p, c1, c2, c3, c4, c5⟩ := o3
          rw [o1, o2, bd2_some, bd_some, cr_ok (by omega), if_pos rfl, bindv_e, RB τ' c _ c4 (by omega)]
          exact Or.inl ⟨σ', τ', _, rfl, rfl, ⟨c, p, c1, c2, c3, c4, c5⟩, frL_t (frL_3 a2.1) o4, o5⟩
        · have x8 : σ' 3 8 = (i : Int) := by rw [o8 8 (by omega), fr3_j a2 (by omega)]; exact h8
          rw [o1, o2, bd2_some, bd_some, cr_ok (by omega), if_neg (by omega), x8, bindv_e, bindv_e, bindv_e]
          have hs' := o4.2.2.1
          have R := IH (sto σ' 3 8 ((i : Int) + 1)) τ' s' st' k' e' np' nr' P' v' (by omega) (by omega) ⟨TB_3 o4.1, o4.2.1, hs', by rw [sto_i (by omega)]; exact o4.2.2.2.1, o4.2.2.2.2⟩ (DRX_c (fun c _ _ => sto_c (by omega)) rfl rfl o5) (KC_c o7 hK) (sto_eq _ _ _ _)
          have fL : frL σ (sto σ' 3 8 ((i : Int) + 1)) := frL_t (frL_t (frL_3 a2.1) o6) (frL_3 (fun c hc => sto_c hc))
          rcases R with ⟨σ2, τ2, l, y1, y2, y3, y4, y5⟩ | ⟨σ2, τ2, l, np2, nr2, P2, y1, y2, y3, y4, y5, y6, y7, y8, y9⟩
          · exact Or.inl ⟨σ2, τ2, l, y1, y2, y3, frL_t fL y4, frN_t o7 y5⟩
          · refine Or.inr ⟨σ2, τ2, l, np2, nr2, P2, y1, y2, y3, y4, y5, y6, ?_, frL_t fL y8, frN_t o7 y9⟩
            rw [y7, sto_i (by omega), o8 6 (by omega), fr3_j a2 (by omega)]
