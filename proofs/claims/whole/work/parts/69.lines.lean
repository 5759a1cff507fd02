/-! rings' corners; lines, all lines -/
theorem m_rc_no {τ : Mm} {r i k : Nat} (hr : r < 6) (hi : i ≤ 10) (hc : τ 1 (552 + r) = (i : Int)) (h4 : τ 0 4 = 0) (h8 : τ 0 8 = (k : Int)) (hk : k ≤ 3) (hk2 : k ≠ 2) : fX8_readCorner r τ = some (flS τ 2) := by
  unfold fX8_readCorner
  rw [chk_ok (by omega), show (552 + (r : Int)).toNat = 552 + r by omega, bindv_e, hc, h8, cr_ok (by omega), if_neg (by omega)]
  unfold fX8_readCorner_30
  rw [h4, cr_ok (by omega), if_pos rfl, h8, cr_ok (by omega), if_neg (by omega), show (2 : Int) = ((2 : Nat) : Int) from rfl, m_failS h4, bd_some, m_50b hi (flS_4 τ 2) (by omega)]
theorem m_rc_5 {τ : Mm} {r : Nat} (hr : r < 6) (hc : τ 1 (552 + r) = 10) (h4 : τ 0 4 = 0) (h8 : τ 0 8 = 2) : fX8_readCorner r τ = some (flS τ 5) := by
  have q := m_30b (r := (r : Int)) (i := 10) (by omega) (flS_4 τ 5) (by omega)
  rw [show ((10 : Nat) : Int) = 10 from rfl] at q
  unfold fX8_readCorner
  rw [chk_ok (by omega), show (552 + (r : Int)).toNat = 552 + r by omega, bindv_e, hc, h8, cr_ok (by omega), if_pos rfl, cr_ok (by omega), if_pos rfl, show (5 : Int) = ((5 : Nat) : Int) from rfl, m_failS h4, bd_some, q]
theorem m_rc_50 {τ : Mm} {r i : Nat} (hr : r < 6) (hi : i < 10) (hc : τ 1 (552 + r) = (i : Int)) (h4 : τ 0 4 = 0) (h8 : τ 0 8 = 2) : fX8_readCorner r τ = fX8_readCorner_50 r i τ := by
  unfold fX8_readCorner
  rw [chk_ok (by omega), show (552 + (r : Int)).toNat = 552 + r by omega, bindv_e, hc, h8, cr_ok (by omega), if_pos rfl, cr_ok (by omega), if_neg (by omega)]
  unfold fX8_readCorner_30
  rw [h4, cr_ok (by omega), if_pos rfl, h8, cr_ok (by omega), if_pos rfl]
theorem m_rc_3 {τ : Mm} {r i : Nat} {v : Int} (hr : r < 6) (hi : i < 10) (hc : τ 1 (552 + r) = (i : Int)) (h4 : τ 0 4 = 0) (h8 : τ 0 8 = 2) (h9 : τ 0 9 = v) (hv : 24 ≤ v ∧ v ≤ 999) : fX8_readCorner r τ = some (flS τ 3) := by
  rw [m_rc_50 hr hi hc h4 h8]
  unfold fX8_readCorner_50
  rw [h4, cr_ok (by omega), if_pos rfl, h9, cr_ok (by omega), if_neg (by omega), show (3 : Int) = ((3 : Nat) : Int) from rfl, m_failS h4, bd_some, m_71b (by omega) (flS_4 τ 3) (by omega)]
theorem m_rc_71 {τ : Mm} {r i : Nat} {v : Int} (hr : r < 6) (hi : i < 10) (hc : τ 1 (552 + r) = (i : Int)) (h4 : τ 0 4 = 0) (h8 : τ 0 8 = 2) (h9 : τ 0 9 = v) (hv : 0 ≤ v ∧ v < 24) (hb : ∀ j, j < i → 0 ≤ τ 1 (492 + 10 * r + j) ∧ τ 1 (492 + 10 * r + j) < 24) : ((∃ z, z < i ∧ τ 1 (492 + 10 * r + z) = v) → fX8_readCorner r τ = some (flS τ 4)) ∧ ((∀ z, z < i → τ 1 (492 + 10 * r + z) ≠ v) → fX8_readCorner r τ = bd (fX8_readsOn (sto (sto τ 1 (492 + 10 * r + i) v) 1 (552 + r) ((i + 1 : Nat) : Int))) (fun s => some s)) := by
  have key := m_dup (e := fun s => fX8_readCorner_118 r i s) hr (by omega) h4 h9 (by omega) hb 400 0 (by omega) (by omega)
  have b1 : fX8_readCorner r τ = pI (∃ z, 0 ≤ z ∧ z < i ∧ τ 1 (492 + 10 * r + z) = v) (fX8_readCorner_118 r i (flS τ 4)) (fX8_readCorner_118 r i τ) := by
    rw [m_rc_50 hr hi hc h4 h8]
    unfold fX8_readCorner_50
    rw [h4, cr_ok (by omega), if_pos rfl, h9, cr_ok (by omega), if_pos (by omega)]
    unfold fX8_readCorner_71
    rw [bindv_e]
    unfold lX8_readCorner_73
    rw [Int.natCast_zero] at key
    rw [key]
  rw [b1]
  constructor
  · rintro ⟨z, z1, z2⟩
    rw [pI_t ⟨z, Nat.zero_le z, z1, z2⟩, m_118b (flS_4 τ 4) (by omega)]
  · intro hz
    rw [pI_f (fun ⟨z, _, z1, z2⟩ => hz z z1 z2)]
    unfold fX8_readCorner_118 fX8_readCorner_158
    rw [h4, cr_ok (by omega), if_pos rfl, chk_ok (by omega), show (492 + 10 * (r : Int) + (i : Int)).toNat = 492 + 10 * r + i by omega, h9, bindv_e, chk_ok (by omega), chk_ok (by omega), show (552 + (r : Int)).toNat = 552 + r by omega, sto_i (by omega), hc, bindv_e]
    rfl
theorem flS_5 {τ : Mm} {c st : Nat} (h : τ 0 7 = (st : Int)) : flS τ c 0 5 = (st : Int) := by
  show sto (sto τ 0 4 (c : Int)) 0 5 (τ 0 7) 0 5 = _
  rw [sto_eq, h]
theorem OUT_f {n : Nat} {b : Nat → Int} {s st c : Nat} {σ ρ τ τ' : Mm} (hc : 1 ≤ c ∧ c ≤ 6) (hs : st ≤ 320) (h1 : fr3 σ ρ) (h2 : frK τ τ') (h4 : τ' 0 4 = (c : Int)) (h5 : τ' 0 5 = (st : Int)) : OUT n b s σ τ (some (0, sto (sto ρ 3 6 (c : Int)) 3 7 (st : Int))) (some τ') := Or.inl ⟨_, τ', rfl, rfl, FL_c ⟨hc.1, hc.2, hs⟩ h4 h5, frL_3 (fun c hc => by rw [sto_c hc, sto_c hc]; exact h1.1 c hc), frN_K h2⟩
theorem ring_j {n : Nat} {b : Nat → Int} {np nr P : Nat} (hB : BT n b) (hr : nr < 6) : ∀ (d fu fv i : Nat) (σ τ : Mm) (s st k e : Nat) (v : Int), i + d = 10 → PD n b σ τ s st k e v → DRX σ τ np nr (nr + 1) P → RG σ τ nr i → OUT n b s σ τ (itN (fun _ _ => none) (fun c => fX2_readRing_31 (fun s => fX2_readRing_72 s) c) (fu + d + 1) i σ) (bd (itN (fun _ => none) (fun c => fX8_readRing_37 nr (fun s => fX8_readRing_74 s) c) (fv + d + 2) τ) (fun t => fX8_readLine_88 t)) := by
  intro d
  induction d with
  | zero =>
    intro fu fv i σ τ s st k e v hd hP hD hG
    have hi : i = 10 := by omega
    subst hi
    obtain ⟨p1, p2, p3, p4, p5, p6⟩ := hP
    obtain ⟨ρ, a1, a2, a3, a4, a5, a6⟩ := c_nextToken hB p5 p1 p4 p3
    obtain ⟨f1, f2, f3, f4, f5, f6, f7⟩ := tkn_f p5
    have hn := hB.1
    have g3 := hG.2.2.1
    rw [show fu + 0 + 1 = fu + 1 from rfl, show fv + 0 + 2 = (fv + 1) + 1 from rfl, itN_s _ (fun c => fX2_readRing_31 (fun s => fX2_readRing_72 s) c) fu, itN_s _ (fun c => fX8_readRing_37 nr (fun s => fX8_readRing_74 s) c) (fv + 1)]
    have RB := fun (t : Mm) (c : Nat) (h : t 0 4 = (c : Int)) (hc : 1 ≤ c ∧ c ≤ 6) => m_rrb (r := (nr : Int)) (fu := fv) h hc
    generalize itN (fun _ _ => none) (fun c => fX2_readRing_31 (fun s => fX2_readRing_72 s) c) fu = cc
    generalize itN (fun _ => none) (fun c => fX8_readRing_37 nr (fun s => fX8_readRing_74 s) c) (fv + 1) = rc at *
    show OUT n b s σ τ (fX2_readRing_31 (fun s => fX2_readRing_72 s) cc ((10 : Nat) : Int) σ) (bd (fX8_readRing_37 nr (fun s => fX8_readRing_74 s) rc τ) (fun t => fX8_readLine_88 t))
    unfold fX2_readRing_31
    rw [cr_ok (by omega), if_neg (by omega), a1, bd_some, a4, cr_ok (by omega)]
    by_cases z3 : k = 3
    · have a5 := a5 (by omega)
      have f5 := f5 (by omega) (by omega)
      have f4 := f4 (by omega)
      rcases p6 with ⟨q1, -⟩ | ⟨q1, q2, q3, q4, q5, q6⟩
      · omega
      obtain ⟨τ', st', k', e', v', b1, b2, b3⟩ := pd_next (σ := ρ) (τ := τ) (s := e) hB (TB_c (a2.1 1 (by omega)) (a2.1 2 (by omega)) p1) p2 f4 a5 q2 q5
      rw [if_pos (by omega), cr_ok (by omega), if_neg (by omega)]
      unfold fX8_readRing_37 fX8_readRing_74
      rw [q2, cr_ok (by omega), if_pos rfl, q4, cr_ok (by omega), if_neg (by omega), chk_ok (by omega), show (552 + (nr : Int)).toNat = 552 + nr by omega, g3, cr_ok (by omega), if_neg (by omega), bd_some]
      unfold fX8_readLine_88 fX8_readLine_108
      rw [q2, cr_ok (by omega), if_pos rfl, q4, cr_ok (by omega), if_pos (by omega), b1, bd_some]
      have D1 : DRX ρ τ' np nr (nr + 1) P := DRX_c (fun c _ _ => a2.1 c (by omega)) (b2.1 1 (by omega)) (b2.2 12 (by omega)) hD
      have G1 : RG ρ τ' nr 10 := RG_c hr (fun c _ _ => a2.1 c (by omega)) (b2.1 1 (by omega)) hG
      refine Or.inr ⟨ρ, τ', e, st', k', e', v', np, nr + 1, P, rfl, rfl, by omega, b3, ⟨⟨D1.1.1, by omega, by omega⟩, D1.2.1, D1.2.2.1, D1.2.2.2.1, fun r hr' => ?_, D1.2.2.2.2.2⟩, frL_3 a2.1, frN_K b2, fun j hj => fr3_j a2 hj⟩
      by_cases y : r = nr
      · exact ⟨10, y ▸ G1, by omega⟩
      · exact D1.2.2.2.2.1 r (by omega)
    · rw [if_neg (by omega)]
      unfold fX2_readRing_56
      by_cases z2 : k = 2
      · have tk : fX2_takeCorner ((10 : Nat) : Int) ρ = some (0, sto (sto ρ 3 6 ((5 : Nat) : Int)) 3 7 (st : Int)) := by
          unfold fX2_takeCorner
          rw [a4, cr_ok (by omega), if_pos (by omega), cr_ok (by omega), if_neg (by omega), c_refuse, bd2_some, chb_0, a3]
          rfl
        rcases p6 with ⟨q1, -⟩ | ⟨q1, q2, q3, q4, q5, q6⟩
        · omega
        rw [tk, bd2_some, cr_ok (by omega), if_pos rfl]
        unfold fX8_readRing_37 fX8_readRing_66
        rw [q2, cr_ok (by omega), if_pos rfl, q4, cr_ok (by omega), if_pos (by omega), m_rc_5 hr g3 q2 (by rw [q4]; omega), bd_some, RB _ 5 (flS_4 τ 5) (by omega), bd_some, m_88b (flS_4 τ 5) (by omega)]
        exact OUT_f (by omega) (by omega) a2 frK_f (flS_4 τ 5) (flS_5 q3)
      · have tk : fX2_takeCorner ((10 : Nat) : Int) ρ = some (0, sto (sto ρ 3 6 (if k = 4 then 1 else 2)) 3 7 (st : Int)) := by
          unfold fX2_takeCorner
          rw [a4, cr_ok (by omega), if_neg (by omega), c_refuseToken a4 f3 a3, bd2_some, chb_0]
        rw [tk, bd2_some, cr_ok (by omega), if_pos rfl]
        rcases p6 with ⟨q1, q2, q3⟩ | ⟨q1, q2, q3, q4, q5, q6⟩
        · unfold fX8_readRing_37 fX8_readRing_74
          rw [if_pos q1, q2, cr_ok (by omega), if_neg (by omega), bd_some, m_88b (c := 1) q2 (by omega)]
          exact OUT_f (c := 1) (by omega) (by omega) a2 (frK_r τ) q2 q3
        · unfold fX8_readRing_37 fX8_readRing_74
          rw [if_neg (show ¬ k = 4 by omega), q2, cr_ok (by omega), if_pos rfl, q4, cr_ok (by omega), if_neg (by omega), chk_ok (by omega), show (552 + (nr : Int)).toNat = 552 + nr by omega, g3, cr_ok (by omega), if_neg (by omega), bd_some]
          unfold fX8_readLine_88 fX8_readLine_108
          rw [q2, cr_ok (by omega), if_pos rfl, q4, cr_ok (by omega), if_neg (by omega), show (2 : Int) = ((2 : Nat) : Int) from rfl, m_failS q2, bd_some, m_ro_broken (flS_4 τ 2) (by omega), bd_some]
          exact OUT_f (c := 2) (by omega) (by omega) a2 frK_f (flS_4 τ 2) (flS_5 q3)
  | succ d ih =>
    intro fu fv i σ τ s st k e v hd hP hD hG
    obtain ⟨p1, p2, p3, p4, p5, p6⟩ := hP
    obtain ⟨ρ, a1, a2, a3, a4, a5, a6⟩ := c_nextToken hB p5 p1 p4 p3
    obtain ⟨f1, f2, f3, f4, f5, f6, f7⟩ := tkn_f p5
    have hn := hB.1
    have g3 := hG.2.2.1
    rw [show fu + (d + 1) + 1 = (fu + d + 1) + 1 by omega, show fv + (d + 1) + 2 = (fv + d + 2) + 1 by omega, itN_s _ (fun c => fX2_readRing_31 (fun s => fX2_readRing_72 s) c) (fu + d + 1), itN_s _ (fun c => fX8_readRing_37 nr (fun s => fX8_readRing_74 s) c) (fv + d + 2)]
    have RB := fun (t : Mm) (c : Nat) (h : t 0 4 = (c : Int)) (hc : 1 ≤ c ∧ c ≤ 6) => m_rrb (r := (nr : Int)) (fu := fv + d + 1) h hc
    have IH := fun σ τ s st k e v => ih fu fv (i + 1) σ τ s st k e v (by omega)
    clear ih
    generalize itN (fun _ _ => none) (fun c => fX2_readRing_31 (fun s => fX2_readRing_72 s) c) (fu + d + 1) = cc at *
    have RB' : ∀ (t : Mm) (c : Nat), t 0 4 = (c : Int) → (1 ≤ c ∧ c ≤ 6) → itN (fun _ => none) (fun c => fX8_readRing_37 nr (fun s => fX8_readRing_74 s) c) (fv + d + 2) t = some t := RB
    clear RB
    generalize itN (fun _ => none) (fun c => fX8_readRing_37 nr (fun s => fX8_readRing_74 s) c) (fv + d + 2) = rc at *
    show OUT n b s σ τ (fX2_readRing_31 (fun s => fX2_readRing_72 s) cc (i : Int) σ) (bd (fX8_readRing_37 nr (fun s => fX8_readRing_74 s) rc τ) (fun t => fX8_readLine_88 t))
    unfold fX2_readRing_31
    rw [cr_ok (by omega), if_neg (by omega), a1, bd_some, a4, cr_ok (by omega)]
    by_cases z2 : k = 2
    · rw [if_neg (by omega)]
      unfold fX2_readRing_56
      have a5 := a5 (by omega)
      have a6 := a6 z2
      have f7 := f7 z2
      have f5 := f5 (by omega) (by omega)
      have f4 := f4 (by omega)
      rcases p6 with ⟨q1, -⟩ | ⟨q1, q2, q3, q4, q5, q6⟩
      · omega
      have q6 := q6 z2
      have q4' : τ 0 8 = 2 := by rw [q4]; omega
      have D1 : DRX ρ τ np nr (nr + 1) P := DRX_c (fun c _ _ => a2.1 c (by omega)) rfl rfl hD
      have G1 : RG ρ τ nr i := RG_c hr (fun c _ _ => a2.1 c (by omega)) rfl hG
      unfold fX8_readRing_37 fX8_readRing_66
      rw [q2, cr_ok (by omega), if_pos rfl, q4, cr_ok (by omega), if_pos (by omega)]
      by_cases y : v < 24
      · have nw := c_newest (v := v) D1 G1 (by omega)
        obtain ⟨m1, m2⟩ := m_rc_71 (v := v) hr (show i < 10 by omega) g3 q2 q4' q6 ⟨f7.1, y⟩ (fun j hj => (hG.2.2.2.1 j hj).2)
        by_cases w : ∃ j, j < i ∧ τ 1 (492 + 10 * nr + j) = v
        · rw [bI_t w] at nw
          have tk : fX2_takeCorner (i : Int) ρ = some (0, sto (sto ρ 3 6 ((4 : Nat) : Int)) 3 7 (st : Int)) := by
            unfold fX2_takeCorner
            rw [a4, cr_ok (by omega), if_pos (by omega), cr_ok (by omega), if_pos (by omega), a6, cr_ok (by omega), if_pos y, nw, bd_some, cr_ok (by omega), if_neg (by omega), c_refuse, bd2_some, chb_0, a3]
            rfl
          rw [tk, bd2_some, cr_ok (by omega), if_pos rfl, m1 w, bd_some, RB' _ 4 (flS_4 τ 4) (by omega), bd_some, m_88b (flS_4 τ 4) (by omega)]
          exact OUT_f (by omega) (by omega) a2 frK_f (flS_4 τ 4) (flS_5 q3)
        · rw [bI_f w] at nw
          have hnd : ∀ j, j < i → τ 1 (492 + 10 * nr + j) ≠ v := fun j hj h => w ⟨j, hj, h⟩
          have ac := c_addCorner (v := v) D1 G1 (by omega)
          obtain ⟨D2, G2⟩ := DRX_co (v := v) D1 G1 (by omega) ⟨f7.1, y⟩ hnd
          have tk : fX2_takeCorner (i : Int) ρ = some (1, sto (sto ρ (121 + nr) i v) 116 nr ((i + 1 : Nat) : Int)) := by
            unfold fX2_takeCorner
            rw [a4, cr_ok (by omega), if_pos (by omega), cr_ok (by omega), if_pos (by omega), a6, cr_ok (by omega), if_pos y, nw, bd_some, cr_ok (by omega), if_pos rfl, ac, bd_some]
          have T1 : TB (sto (sto ρ (121 + nr) i v) 116 nr ((i + 1 : Nat) : Int)) n b := TB_c (by rw [sto_c (by omega), sto_c (by omega), a2.1 1 (by omega)]) (by rw [sto_c (by omega), sto_c (by omega), a2.1 2 (by omega)]) p1
          have M1 : TM (sto (sto τ 1 (492 + 10 * nr + i) v) 1 (552 + nr) ((i + 1 : Nat) : Int)) n b := TM_c (by rw [sto_k (by omega), sto_k (by omega)]) (by rw [sto_c (by omega), sto_c (by omega)]) p2
          obtain ⟨τ', st', k', e', v', b1, b2, b3⟩ := pd_next (s := e) hB T1 M1 f4 (by rw [sto_k (by omega), sto_k (by omega)]; exact a5) (by rw [sto_k (by omega), sto_k (by omega)]; exact q2) (by rw [sto_k (by omega), sto_k (by omega)]; exact q5)
          rw [tk, bd2_some, cr_ok (by omega), if_neg (by omega), bindv_e, m2 hnd, b1, bd_some, bd_some]
          have O := IH _ _ _ _ _ _ _ b3 (DRX_c (fun c _ _ => rfl) (b2.1 1 (by omega)) (b2.2 12 (by omega)) D2) (RG_c hr (fun c _ _ => rfl) (b2.1 1 (by omega)) G2)
          exact OUT_t (by omega) (fun c h1 h2 => by rw [sto_c (by omega), sto_c (by omega)]; exact a2.1 c h1) (frN_t (frN_t (frN_1 _ (by omega)) (frN_1 _ (by omega))) (frN_K b2)) (fun j hj => by rw [sto_k (by omega), sto_k (by omega)]; exact fr3_j a2 hj) O
      · have tk : fX2_takeCorner (i : Int) ρ = some (0, sto (sto ρ 3 6 ((3 : Nat) : Int)) 3 7 (st : Int)) := by
          unfold fX2_takeCorner
          rw [a4, cr_ok (by omega), if_pos (by omega), cr_ok (by omega), if_pos (by omega), a6, cr_ok (by omega), if_neg y, c_refuse, bd2_some, chb_0, a3]
          rfl
        rw [tk, bd2_some, cr_ok (by omega), if_pos rfl, m_rc_3 hr (show i < 10 by omega) g3 q2 q4' q6 (by omega), bd_some, RB' _ 3 (flS_4 τ 3) (by omega), bd_some, m_88b (flS_4 τ 3) (by omega)]
        exact OUT_f (by omega) (by omega) a2 frK_f (flS_4 τ 3) (flS_5 q3)
    · have tk : fX2_takeCorner (i : Int) ρ = some (0, sto (sto ρ 3 6 (if k = 4 then 1 else 2)) 3 7 (st : Int)) := by
        unfold fX2_takeCorner
        rw [a4, cr_ok (by omega), if_neg (by omega), c_refuseToken a4 f3 a3, bd2_some, chb_0]
      have r56 : fX2_readRing_56 cc (i : Int) ρ = some (0, sto (sto ρ 3 6 (if k = 4 then 1 else 2)) 3 7 (st : Int)) := by
        unfold fX2_readRing_56
        rw [tk, bd2_some, cr_ok (by omega), if_pos rfl]
      rcases p6 with ⟨q1, q2, q3⟩ | ⟨q1, q2, q3, q4, q5, q6⟩
      · unfold fX8_readRing_37 fX8_readRing_74
        rw [if_neg (show ¬ (k : Int) = 3 by omega), r56, if_pos q1, q2, cr_ok (by omega), if_neg (by omega), bd_some, m_88b (c := 1) q2 (by omega)]
        exact OUT_f (c := 1) (by omega) (by omega) a2 (frK_r τ) q2 q3
      · rw [if_neg (show ¬ k = 4 by omega)] at r56
        by_cases y : i < 3
        · have A : (if (k : Int) = 3 then cr (i : Int) (if (i : Int) < 3 then fX2_readRing_56 cc (i : Int) ρ else some (1, ρ)) else fX2_readRing_56 cc (i : Int) ρ) = some (0, sto (sto ρ 3 6 2) 3 7 (st : Int)) := by
            by_cases z3 : k = 3
            · rw [if_pos (by omega), cr_ok (by omega), if_pos (by omega), r56]
            · rw [if_neg (by omega), r56]
          rw [A]
          unfold fX8_readRing_37 fX8_readRing_66
          rw [q2, cr_ok (by omega), if_pos rfl, q4, cr_ok (by omega), if_neg (by omega), chk_ok (by omega), show (552 + (nr : Int)).toNat = 552 + nr by omega, g3, cr_ok (by omega), if_pos (by omega), m_rc_no hr (by omega) g3 q2 q4 q1 z2, bd_some, RB' _ 2 (flS_4 τ 2) (by omega), bd_some, m_88b (flS_4 τ 2) (by omega)]
          exact OUT_f (c := 2) (by omega) (by omega) a2 frK_f (flS_4 τ 2) (flS_5 q3)
        · unfold fX8_readRing_37 fX8_readRing_74
          rw [q2, cr_ok (x := 0) (by omega), if_pos rfl, q4, cr_ok (x := (k : Int)) (by omega), if_neg (show ¬ (k : Int) = 2 by omega), chk_ok (by omega), show (552 + (nr : Int)).toNat = 552 + nr by omega, g3, cr_ok (x := (i : Int)) (k := if (i : Int) < 3 then fX8_readRing_66 rc nr τ else some τ) (by omega), if_neg (show ¬ (i : Int) < 3 by omega), if_neg (show ¬ (i : Int) < 3 by omega), bd_some]
          by_cases z3 : k = 3
          · have a5 := a5 (by omega)
            have f5 := f5 (by omega) (by omega)
            have f4 := f4 (by omega)
            obtain ⟨τ', st', k', e', v', b1, b2, b3⟩ := pd_next (σ := ρ) (τ := τ) (s := e) hB (TB_c (a2.1 1 (by omega)) (a2.1 2 (by omega)) p1) p2 f4 a5 q2 q5
            have B : fX8_readLine_88 τ = some τ' := by
              unfold fX8_readLine_88 fX8_readLine_108
              rw [q2, cr_ok (by omega), if_pos rfl, q4, cr_ok (by omega), if_pos (by omega), b1, bd_some]
            rw [if_pos (by omega), cr_ok (by omega), B]
            have D1 : DRX ρ τ' np nr (nr + 1) P := DRX_c (fun c _ _ => a2.1 c (by omega)) (b2.1 1 (by omega)) (b2.2 12 (by omega)) hD
            have G1 : RG ρ τ' nr i := RG_c hr (fun c _ _ => a2.1 c (by omega)) (b2.1 1 (by omega)) hG
            refine Or.inr ⟨ρ, τ', e, st', k', e', v', np, nr + 1, P, rfl, rfl, by omega, b3, ⟨⟨D1.1.1, by omega, by omega⟩, D1.2.1, D1.2.2.1, D1.2.2.2.1, fun r hr' => ?_, D1.2.2.2.2.2⟩, frL_3 a2.1, frN_K b2, fun j hj => fr3_j a2 hj⟩
            by_cases y : r = nr
            · exact ⟨i, y ▸ G1, by omega⟩
            · exact D1.2.2.2.2.1 r (by omega)
          · have B : fX8_readLine_88 τ = some (flS τ 2) := by
              unfold fX8_readLine_88 fX8_readLine_108
              rw [q2, cr_ok (by omega), if_pos rfl, q4, cr_ok (by omega), if_neg (by omega), show (2 : Int) = ((2 : Nat) : Int) from rfl, m_failS q2, bd_some, m_ro_broken (flS_4 τ 2) (by omega), bd_some]
            rw [if_neg (by omega), r56, B]
            exact OUT_f (c := 2) (by omega) (by omega) a2 frK_f (flS_4 τ 2) (flS_5 q3)
