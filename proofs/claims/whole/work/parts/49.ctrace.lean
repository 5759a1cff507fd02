/-! the class's arcs: one traced, all traced -/
theorem TI_end {σ τ : Mm} {L : Ld} {ne : Nat} {A B : Nat → Nat} {as : List Ac} {r f m : Nat} {c : Bool} (hx : as.length < 60) (hC : CAM σ L as) (h : TI σ τ L ne A B as r f m (eN (r, f, m, c))) : CAM (sto τ 4 5 ((as.length : Int) + 1)) L (as ++ [(r, f, m, c)]) ∧ TKM (sto τ 4 5 ((as.length : Int) + 1)) L ne A B (as ++ [(r, f, m, c)]) ∧ frA σ (sto τ 4 5 ((as.length : Int) + 1)) := by
  obtain ⟨a1, a2, a3, a4, a5, a6, a7, a8, a9⟩ := h
  obtain ⟨c1, c2, c3, c4⟩ := hC
  have hl : (as ++ [((r, f, m, c) : Ac)]).length = as.length + 1 := by rw [List.length_append, List.length_singleton]
  refine ⟨⟨?_, fun x hx => ?_, fun x j hx hj => ?_, fun x p hx hin hno => ?_⟩, fun e he => ?_, fun k k1 k2 k3 k4 k5 => ?_⟩
  · rw [sto_eq, hl]; rfl
  · rw [hl] at hx
    rw [sto_k (by omega)]
    by_cases w : x < as.length
    · rw [ag_l w, a5 x (by omega)]; exact c2 x w
    · rw [show x = as.length by omega, ag_r]; exact a3
  · rw [hl] at hx
    rw [sto_k (by omega)]
    by_cases w : x < as.length
    · rw [ag_l w] at hj ⊢
      rw [a6 x (by omega) (by omega)]; exact c3 x j w hj
    · have hxe : x = as.length := by omega
      subst hxe
      rw [ag_r] at hj ⊢
      exact a4 j hj
  · rw [hl] at hx hno
    rw [sto_k (by omega)]
    by_cases w : x < as.length
    · rw [ag_l w] at hin
      have n1 := hno as.length w (by omega)
      rw [ag_r] at n1
      rw [a8 p (fun ⟨j, j1, j2⟩ => n1 ⟨j, j1, j2⟩)]
      refine c4 x p w hin (fun y h1 h2 h3 => ?_)
      have n2 := hno y h1 (by omega)
      rw [ag_l h2] at n2
      exact n2 h3
    · have hxe : x = as.length := by omega
      subst hxe
      rw [ag_r] at hin
      obtain ⟨j, j1, j2⟩ := hin
      exact a7 p ⟨j, j1, j2⟩
  · rw [sto_k (by omega), a9 e he]
    apply bI_c
    constructor
    · rintro (⟨a, z1, z2⟩ | ⟨j, z1, z2⟩)
      · exact ⟨a, List.mem_append_left _ z1, z2⟩
      · refine ⟨_, List.mem_append_right _ (List.mem_singleton.mpr rfl), j, z1, ?_⟩
        rcases z2 with ⟨y1, y2⟩ | ⟨y1, y2⟩
        · exact Or.inl ⟨y1.symm, y2.symm⟩
        · exact Or.inr ⟨y2.symm, y1.symm⟩
    · rintro ⟨a, z1, z2⟩
      rcases List.mem_append.mp z1 with q | q
      · exact Or.inl ⟨a, q, z2⟩
      · rw [List.mem_singleton] at q
        subst q
        obtain ⟨j, y1, y2⟩ := z2
        refine Or.inr ⟨j, y1, ?_⟩
        rcases y2 with ⟨y2, y3⟩ | ⟨y2, y3⟩
        · exact Or.inl ⟨y2.symm, y3.symm⟩
        · exact Or.inr ⟨y3.symm, y2.symm⟩
  · rw [sto_c k1]; exact a1 k k1 k2 k3 k4 k5
theorem c_trace72 {σ τ : Mm} {L : Ld} {ne r f : Nat} {A B : Nat → Nat} {as : List Ac} {cv : Int} {e : Mm → Option Mm} (hw : WF L) (h : CL σ 95 L) (hG : GI σ 95 L.np ne A B (us L)) (hr : r < L.nr) (hf : f < L.cn r) (hx : as.length < 60) (hc : (cv = 1 ∧ ∀ j, j < L.cn r → ¬ ND L (L.co r j)) ∨ (cv = 0 ∧ ND L (L.co r f))) (hT : TI σ τ L ne A B as r f 1 0) : ∃ τ' m k, lX0_traceArc_72 r (L.cn r) cv e 400 f 1 τ = e τ' ∧ TI σ τ' L ne A B as r f m k ∧ ((cv = 1 ∧ m = L.cn r ∧ k = L.cn r) ∨ (cv = 0 ∧ m = k + 1 ∧ 1 ≤ k ∧ k ≤ L.cn r ∧ ND L (L.co r ((f + k) % L.cn r)) ∧ ∀ j, 1 ≤ j → j < k → ¬ ND L (L.co r ((f + j) % L.cn r)))) := by
  have hnp := hw.1
  have hnr := hw.2.1
  have h3 := hw.2.2.1 r hr
  have h60 := hG.1.2.1
  have key := it_stop3 (f := fun c => fX0_traceArc_72 r (L.cn r) cv e c) (L.cn r + 1) (fun s v t => 1 ≤ s ∧ v = (((f + (s - 1)) % L.cn r : Nat) : Int) ∧ TI σ t L ne A B as r f s (s - 1) ∧ (cv = 1 → s ≤ L.cn r) ∧ (cv = 0 → ∀ j, 1 ≤ j → j < s → ¬ ND L (L.co r ((f + j) % L.cn r)))) (fun o => ∃ τ' m k, o = e τ' ∧ TI σ τ' L ne A B as r f m k ∧ ((cv = 1 ∧ m = L.cn r ∧ k = L.cn r) ∨ (cv = 0 ∧ m = k + 1 ∧ 1 ≤ k ∧ k ≤ L.cn r ∧ ND L (L.co r ((f + k) % L.cn r)) ∧ ∀ j, 1 ≤ j → j < k → ¬ ND L (L.co r ((f + j) % L.cn r))))) (fun c s v t hs hI => by
    obtain ⟨q0, q1, q2, q3, q4⟩ := hI
    have hsn : s ≤ L.cn r := by
      rcases hc with ⟨z, -⟩ | ⟨z, z2⟩
      · exact q3 z
      · rcases Nat.lt_or_ge (L.cn r) s with w | w
        · exfalso
          have := q4 z (L.cn r) (by omega) w
          rw [Nat.add_mod_right, Nat.mod_eq_of_lt hf] at this
          exact this z2
        · exact w
    subst q1
    have hCL := frA_CL q2.1 h
    have hGI := frA_GI q2.1 hG
    have m1 : (f + (s - 1)) % L.cn r < L.cn r := Nat.mod_lt _ (by omega)
    obtain ⟨e0, e1, e2, e3⟩ := c_edgeBehind hw hCL hGI hr m1
    have ecx : cx L r ((f + (s - 1)) % L.cn r) = L.co r ((f + (s - 1) + 1) % L.cn r) := by
      unfold cx
      rw [md_s (by omega)]
    rw [ecx] at e2
    have T1 := TI_tk (e0 := e0) hG.2.2.2.2.2.1 e1 e2 q2
    rw [show s - 1 + 1 = s by omega] at T1
    have hfo := c_following (sto t 8 e0 1) m1 (show L.cn r < 1000 by omega)
    rw [md_s (by omega), show f + (s - 1) + 1 = f + s by omega] at hfo
    have m2 : (f + s) % L.cn r < L.cn r := Nat.mod_lt _ (by omega)
    have cvb : cv = 0 ∨ cv = 1 := by rcases hc with ⟨z, -⟩ | ⟨z, -⟩ <;> omega
    have base : fX0_traceArc_72 r (L.cn r) cv e c (((f + (s - 1)) % L.cn r : Nat) : Int) (s : Int) t = (if cv = 0 then fX0_traceArc_122 c e r (L.cn r) cv (((f + s) % L.cn r : Nat) : Int) s (sto t 8 e0 1) else if (s : Int) = (L.cn r : Int) then e (sto t 8 e0 1) else fX0_traceArc_122 c e r (L.cn r) cv (((f + s) % L.cn r : Nat) : Int) s (sto t 8 e0 1)) := by
      simp (disch := omega) only [fX0_traceArc_72, fX0_traceArc_100, e3, hfo, if_neg, Int.reduceAdd, Int.reduceSub, Int.reduceMul, Int.zero_add, Int.add_zero, Nat.zero_add, na_0, ca_la, ca_al, ca_lm, ca_add, ca_mod, ca_lit, tn_c, Int.natCast_zero, bd_some, bd2_some, bindv_e, chk_ok, cr_ok, crl_ok, chd_ok, chb_0, chb_1, cr_bI, chb_bI, ite_bI0, if_true, if_false]
    by_cases wc : cv = 1 ∧ s = L.cn r
    · left
      refine ⟨sto t 8 e0 1, s, s, ?_, T1, Or.inl ⟨wc.1, wc.2, wc.2⟩⟩
      show fX0_traceArc_72 r (L.cn r) cv e c (((f + (s - 1)) % L.cn r : Nat) : Int) (s : Int) t = _
      rw [base, if_neg (by omega), if_pos (by omega)]
    · have T1f := T1.1
      have hCL1 := frA_CL T1f h
      have hGI1 := frA_GI T1f hG
      obtain ⟨t2, p1, p2⟩ := TI_app hw hr hx (show s < 11 by omega) T1
      have hCL2 := frA_CL p2.1 h
      have hE2 : EDG t2 95 L := ⟨ne, A, B, frA_GI p2.1 hG⟩
      have n1 := c_isNode (k := 95) hw hCL2 hE2 (hw.2.2.2.1 r _ hr m2)
      obtain ⟨-, -, -, -, -, -, hR1⟩ := CL95 hCL1
      obtain ⟨-, -, -, -, -, -, hR2⟩ := CL95 hCL2
      have d1 := hR1 r _ hr m2
      have d2 := hR2 r _ hr m2
      have b2 : fX0_traceArc_122 c e r (L.cn r) cv (((f + s) % L.cn r : Nat) : Int) s (sto t 8 e0 1) = pI (ND L (L.co r ((f + s) % L.cn r))) (e t2) (c (((f + s) % L.cn r : Nat) : Int) ((s + 1 : Nat) : Int) t2) := by
        simp (disch := omega) only [fX0_traceArc_122, d1, d2, p1, n1, Int.reduceAdd, Int.reduceSub, Int.reduceMul, Int.zero_add, Int.add_zero, Nat.zero_add, na_0, ca_la, ca_al, ca_lm, ca_add, ca_mod, ca_lit, tn_c, Int.natCast_zero, bd_some, bd2_some, bindv_e, chk_ok, cr_ok, crl_ok, chd_ok, chb_0, chb_1, cr_bI, chb_bI, ite_bI0, if_true, if_false]
      have b3 : fX0_traceArc_72 r (L.cn r) cv e c (((f + (s - 1)) % L.cn r : Nat) : Int) (s : Int) t = pI (ND L (L.co r ((f + s) % L.cn r))) (e t2) (c (((f + s) % L.cn r : Nat) : Int) ((s + 1 : Nat) : Int) t2) := by
        rw [base, b2]
        by_cases z : cv = 0
        · rw [if_pos z]
        · rw [if_neg z, if_neg (by omega)]
      by_cases wn : ND L (L.co r ((f + s) % L.cn r))
      · left
        have c0 : cv = 0 := by
          rcases hc with ⟨z, z2⟩ | ⟨z, -⟩
          · exact absurd wn (z2 _ m2)
          · exact z
        refine ⟨t2, s + 1, s, ?_, p2, Or.inr ⟨c0, rfl, q0, hsn, wn, q4 c0⟩⟩
        show fX0_traceArc_72 r (L.cn r) cv e c (((f + (s - 1)) % L.cn r : Nat) : Int) (s : Int) t = _
        rw [b3, pI_t wn]
      · right
        refine ⟨by omega, _, t2, ⟨by omega, rfl, by rw [show s + 1 - 1 = s by omega]; exact p2, fun z => by omega, fun z j j1 j2 => ?_⟩, ?_⟩
        · rcases Nat.lt_or_ge j s with y | y
          · exact q4 z j j1 y
          · rw [show j = s by omega]; exact wn
        · show fX0_traceArc_72 r (L.cn r) cv e c (((f + (s - 1)) % L.cn r : Nat) : Int) (s : Int) t = _
          rw [b3, pI_f wn, show s + 1 - 1 = s by omega]) 400 1 (f : Int) τ (by omega) (by omega) ⟨by omega, by rw [Nat.sub_self, Nat.add_zero, Nat.mod_eq_of_lt hf], hT, fun _ => by omega, fun _ j j1 j2 => by omega⟩
  rw [show ((1 : Nat) : Int) = 1 from rfl] at key
  unfold lX0_traceArc_72
  exact key
theorem c_trStart {σ : Mm} {L : Ld} {ne r f : Nat} {cv : Int} {A B : Nat → Nat} {as : List Ac} (hw : WF L) (h : CL σ 95 L) (hG : GI σ 95 L.np ne A B (us L)) (hr : r < L.nr) (hx : as.length < 60) (hC : CAM σ L as) (hK : TKM σ L ne A B as) (hf : f < L.cn r) (hc : (cv = 1 ∧ ∀ j, j < L.cn r → ¬ ND L (L.co r j)) ∨ (cv = 0 ∧ ND L (L.co r f))) : ∃ τ' m k, fX0_traceArc_41 r (L.cn r) cv f σ = fX0_traceArc_169 τ' ∧ TI σ τ' L ne A B as r f m k ∧ ((cv = 1 ∧ m = L.cn r ∧ k = L.cn r) ∨ (cv = 0 ∧ m = k + 1 ∧ 1 ≤ k ∧ k ≤ L.cn r ∧ ND L (L.co r ((f + k) % L.cn r)) ∧ ∀ j, 1 ≤ j → j < k → ¬ ND L (L.co r ((f + j) % L.cn r)))) := by
  have hnr := hw.2.1
  have h3 := hw.2.2.1 r hr
  obtain ⟨-, -, -, -, -, hCn, hR⟩ := CL95 h
  have T0 : TI σ (sto σ 6 as.length 0) L ne A B as r f 0 0 := by
    refine ⟨fun c c1 c2 c3 c4 c5 => sto_c c2, ?_, ?_, fun j hj => by omega, fun x hne => sto_i hne, fun x h1 hne => sto_c (by omega), fun p hp => ?_, fun p hp => sto_k (by omega), fun e he => ?_⟩
    · rw [sto_k (by omega)]; exact hC.1
    · rw [sto_eq]; rfl
    · obtain ⟨j, j1, -⟩ := hp; omega
    · rw [sto_k (by omega), hK e he]
      exact bI_c ⟨fun z => Or.inl z, fun z => z.elim id (fun ⟨j, j1, _⟩ => by omega)⟩
  obtain ⟨t1, p1, p2⟩ := TI_app hw hr hx (by omega) T0
  rw [Nat.add_zero, Nat.mod_eq_of_lt hf] at p1
  obtain ⟨τ', m, k, k1, k2, k3⟩ := c_trace72 (e := fun t => fX0_traceArc_169 t) hw h hG hr hf hx hc p2
  refine ⟨τ', m, k, ?_, k2, k3⟩
  have d0 : (sto σ 6 as.length 0) (105 + r) f = (L.co r f : Int) := by rw [sto_k (by omega)]; exact hR r f hr hf
  have d1 := hC.1
  have k0 : fX0_traceArc_41 r (L.cn r) cv f σ = bindv 1 (fun v => lX0_traceArc_72 r (L.cn r) cv (fun t => fX0_traceArc_169 t) 400 f v t1) := by
    unfold fX0_traceArc_41
    rw [bindv_e, d1, chk_ok (by omega), tn_c, bindv_e, chk_ok (by omega), chk_ok (by omega), tn_c, tn_c, d0, p1, bd_some]
  rw [k0, bindv_e, k1]
theorem c_trFin {σ τ' : Mm} {L : Ld} {ne r f m k : Nat} {c : Bool} {A B : Nat → Nat} {as : List Ac} (hx : as.length < 60) (hC : CAM σ L as) (hTI : TI σ τ' L ne A B as r f m k) (hk : eN (r, f, m, c) = k) : fX0_traceArc_169 τ' = some (sto τ' 4 5 ((as.length : Int) + 1)) ∧ CAM (sto τ' 4 5 ((as.length : Int) + 1)) L (as ++ [(r, f, m, c)]) ∧ TKM (sto τ' 4 5 ((as.length : Int) + 1)) L ne A B (as ++ [(r, f, m, c)]) ∧ frA σ (sto τ' 4 5 ((as.length : Int) + 1)) := by
  subst hk
  refine ⟨?_, TI_end hx hC hTI⟩
  have d1 := hTI.2.1
  unfold fX0_traceArc_169
  rw [d1, bindv_e]
theorem c_traceArc {σ : Mm} {L : Ld} {ne r i : Nat} {A B : Nat → Nat} {as : List Ac} (hw : WF L) (h : CL σ 95 L) (hG : GI σ 95 L.np ne A B (us L)) (hr : r < L.nr) (hi : i < L.cn r) (hx : as.length < 60) (hC : CAM σ L as) (hK : TKM σ L ne A B as) : ∃ σ' a, fX0_traceArc r i σ = some σ' ∧ ARC L r i a ∧ CAM σ' L (as ++ [a]) ∧ TKM σ' L ne A B (as ++ [a]) ∧ frA σ σ' := by
  have hnp := hw.1
  have hnr := hw.2.1
  have h3 := hw.2.2.1 r hr
  have hE : EDG σ 95 L := ⟨ne, A, B, hG⟩
  obtain ⟨-, -, -, -, -, hCn, hR⟩ := CL95 h
  have c1 := hCn r hr
  rcases c_nodeAhead hw h hE hr hi with ⟨b, b1, b2, b3, b4⟩ | ⟨b1, b2⟩
  · have hm : (i + L.cn r - b) % L.cn r < L.cn r := Nat.mod_lt _ (by omega)
    obtain ⟨τ', m, k, k1, k2, k3⟩ := c_trStart (cv := 0) hw h hG hr hx hC hK hm (Or.inr ⟨rfl, b2⟩)
    rcases k3 with ⟨z, -⟩ | ⟨-, k4, k5, k6, k7, k8⟩
    · omega
    · obtain ⟨f1, f2, f3, f4⟩ := c_trFin (c := false) hx hC k2 (by unfold eN; show m - 1 = k; omega)
      refine ⟨_, (r, (i + L.cn r - b) % L.cn r, m, false), ?_, ⟨rfl, Or.inr ⟨rfl, b, k, b1, rfl, b2, b3, k4, k5, k6, k7, k8⟩⟩, f2, f3, f4⟩
      have base : fX0_traceArc r i σ = fX0_traceArc_41 r (L.cn r) 0 (((i + L.cn r - b) % L.cn r : Nat) : Int) σ := by
        simp (disch := omega) only [fX0_traceArc, fX0_traceArc_28, c1, b4, if_pos, if_neg, Int.reduceAdd, Int.reduceSub, Int.reduceMul, Int.zero_add, Int.add_zero, Nat.zero_add, na_0, ca_la, ca_al, ca_lm, ca_add, ca_mod, ca_lit, tn_c, Int.natCast_zero, bd_some, bd2_some, bindv_e, chk_ok, cr_ok, crl_ok, chd_ok, chb_0, chb_1, cr_bI, chb_bI, ite_bI0, if_true, if_false]
      rw [base, k1, f1]
  · obtain ⟨τ', m, k, k1, k2, k3⟩ := c_trStart (f := 0) (cv := 1) hw h hG hr hx hC hK (by omega) (Or.inl ⟨rfl, b1⟩)
    rcases k3 with ⟨-, k4, k5⟩ | ⟨z, -⟩
    · obtain ⟨f1, f2, f3, f4⟩ := c_trFin (c := true) hx hC k2 (by unfold eN; show m = k; omega)
      refine ⟨_, (r, 0, m, true), ?_, ⟨rfl, Or.inl ⟨rfl, rfl, k4, b1⟩⟩, f2, f3, f4⟩
      have base : fX0_traceArc r i σ = fX0_traceArc_41 r (L.cn r) 1 0 σ := by
        simp (disch := omega) only [fX0_traceArc, fX0_traceArc_28, c1, b2, if_pos, if_neg, Int.reduceAdd, Int.reduceSub, Int.reduceMul, Int.zero_add, Int.add_zero, Nat.zero_add, na_0, ca_la, ca_al, ca_lm, ca_add, ca_mod, ca_lit, tn_c, Int.natCast_zero, bd_some, bd2_some, bindv_e, chk_ok, cr_ok, crl_ok, chd_ok, chb_0, chb_1, cr_bI, chb_bI, ite_bI0, if_true, if_false]
      rw [show ((0 : Nat) : Int) = 0 from rfl] at k1
      rw [base, k1, f1]
    · omega
/-- the class's arcs, all -/
def ARS (σ : Mm) (L : Ld) : Prop := CAM σ L (allA L L.nr)
theorem c_trace {σ : Mm} {L : Ld} (hw : WF L) (h : CL σ 95 L) (hE : EDG σ 95 L) : ∃ σ', fX0_trace σ = some σ' ∧ ARS σ' L ∧ ALL L (allA L L.nr) L.nr 0 ∧ frA σ σ' := by
  have hnp := hw.1
  have hnr := hw.2.1
  obtain ⟨ne, A, B, hG⟩ := hE
  have h60 := hG.1.2.1
  obtain ⟨σ1, ⟨i1, i2, i3⟩, e1⟩ := it_inv0 (f := fun c => fX0_trace_7 (fun s => fX0_trace_26 s) c) 60 (fun n s => frA σ s ∧ s 4 5 = 0 ∧ ∀ e, e < n → s 8 e = 0) (fun s => fX0_trace_26 s) (sto σ 4 5 0) (by omega) ⟨fun k a1 _ _ _ _ => sto_c a1, sto_eq _ _ _ _, fun p hp => by omega⟩ (fun c i s hi hI => by
    obtain ⟨q1, q2, q3⟩ := hI
    refine ⟨sto s 8 i 0, ⟨fun k a1 a2 a3 a4 a5 => by rw [sto_c a4]; exact q1 k a1 a2 a3 a4 a5, by rw [sto_k (by omega)]; exact q2, fun p hp => ?_⟩, ?_⟩
    · rw [sto_at]
      split
      · rfl
      · exact q3 p (by omega)
    · simp (disch := omega) only [fX0_trace_7, if_pos, Int.reduceAdd, Int.reduceSub, Int.reduceMul, Int.zero_add, Int.add_zero, Nat.zero_add, na_0, ca_la, ca_al, ca_lm, ca_add, ca_mod, ca_lit, tn_c, Int.natCast_zero, bd_some, bd2_some, bindv_e, chk_ok, cr_ok, crl_ok, chd_ok, chb_0, chb_1, cr_bI, chb_bI, ite_bI0, if_true, if_false]) (fun c s hI => by
    simp (disch := omega) only [fX0_trace_7, if_neg, Int.reduceAdd, Int.reduceSub, Int.reduceMul, Int.zero_add, Int.add_zero, Nat.zero_add, na_0, ca_la, ca_al, ca_lm, ca_add, ca_mod, ca_lit, tn_c, Int.natCast_zero, bd_some, bd2_some, bindv_e, chk_ok, cr_ok, crl_ok, chd_ok, chb_0, chb_1, cr_bI, chb_bI, ite_bI0, if_true, if_false])
  have inner : ∀ (e : Mm → Option Mm) (r : Nat) (s : Mm), r < L.nr → frA σ s → CAM s L (allA L r) → TKM s L ne A B (allA L r) → ALL L (allA L r) r 0 → ∃ s', (frA σ s' ∧ CAM s' L (rowA L (allA L r) r (L.cn r)) ∧ TKM s' L ne A B (rowA L (allA L r) r (L.cn r)) ∧ ALL L (rowA L (allA L r) r (L.cn r)) r (L.cn r)) ∧ lX0_trace_41 r e 400 0 s = e s' := by
    intro e r s hr hf hC hK hA
    have h3 := hw.2.2.1 r hr
    unfold lX0_trace_41
    refine it_inv0 (f := fun c => fX0_trace_41 r e c) (L.cn r) (fun i s => frA σ s ∧ CAM s L (rowA L (allA L r) r i) ∧ TKM s L ne A B (rowA L (allA L r) r i) ∧ ALL L (rowA L (allA L r) r i) r i) e s (by omega) ⟨hf, hC, hK, hA⟩ (fun c i s hi hI => ?_) (fun c s hI => ?_)
    · obtain ⟨q1, q2, q3, q4⟩ := hI
      have hCL := frA_CL q1 h
      have hGI := frA_GI q1 hG
      obtain ⟨-, -, -, -, -, hCn, -⟩ := CL95 hCL
      have c1 := hCn r hr
      obtain ⟨e0, g1, g2, g3⟩ := c_edgeBehind hw hCL hGI hr hi
      have t1 := q3 e0 g1
      have hlen := q4.2.2.2
      have d1 := q2.1
      have hTK : TK L (rowA L (allA L r) r i) (A e0) (B e0) ↔ TK L (rowA L (allA L r) r i) (L.co r i) (cx L r i) := by
        rcases g2 with ⟨x, y⟩ | ⟨x, y⟩
        · rw [x, y]
        · rw [x, y]; exact ⟨TK_sw, TK_sw⟩
      rw [bI_c hTK] at t1
      have eR : rowA L (allA L r) r (i + 1) = stepA L (rowA L (allA L r) r i) r i := rfl
      rw [eR]
      unfold stepA
      by_cases w : TK L (rowA L (allA L r) r i) (L.co r i) (cx L r i)
      · rw [pI_t w]
        refine ⟨s, ⟨q1, q2, q3, ALL_old q4 w⟩, ?_⟩
        rw [bI_t w] at t1
        simp (disch := omega) only [fX0_trace_41, fX0_trace_89, c1, g3, t1, if_pos, if_neg, Int.reduceAdd, Int.reduceSub, Int.reduceMul, Int.zero_add, Int.add_zero, Nat.zero_add, na_0, ca_la, ca_al, ca_lm, ca_add, ca_mod, ca_lit, tn_c, Int.natCast_zero, bd_some, bd2_some, bindv_e, chk_ok, cr_ok, crl_ok, chd_ok, chb_0, chb_1, cr_bI, chb_bI, ite_bI0, if_true, if_false]
      · rw [pI_f w]
        obtain ⟨s', a, n1, n2, n3, n4, n5⟩ := c_traceArc hw hCL hGI hr hi (by omega) q2 q3
        rw [mkArc_e n2]
        refine ⟨s', ⟨frA_t q1 n5, n3, n4, ALL_new hw hr hi q4 n2 w⟩, ?_⟩
        rw [bI_f w] at t1
        simp (disch := omega) only [fX0_trace_41, fX0_trace_89, c1, g3, t1, d1, n1, if_pos, if_neg, Int.reduceAdd, Int.reduceSub, Int.reduceMul, Int.zero_add, Int.add_zero, Nat.zero_add, na_0, ca_la, ca_al, ca_lm, ca_add, ca_mod, ca_lit, tn_c, Int.natCast_zero, bd_some, bd2_some, bindv_e, chk_ok, cr_ok, crl_ok, chd_ok, chb_0, chb_1, cr_bI, chb_bI, ite_bI0, if_true, if_false]
    · obtain ⟨-, -, -, -, -, hCn, -⟩ := CL95 (frA_CL hI.1 h)
      have c1 := hCn r hr
      simp (disch := omega) only [fX0_trace_41, c1, if_neg, Int.reduceAdd, Int.reduceSub, Int.reduceMul, Int.zero_add, Int.add_zero, Nat.zero_add, na_0, ca_la, ca_al, ca_lm, ca_add, ca_mod, ca_lit, tn_c, Int.natCast_zero, bd_some, bd2_some, bindv_e, chk_ok, cr_ok, crl_ok, chd_ok, chb_0, chb_1, cr_bI, chb_bI, ite_bI0, if_true, if_false]
  have hC0 : CAM σ1 L (allA L 0) := ⟨by rw [i2]; rfl, fun x hx => absurd hx (by simp [allA]), fun x j hx => absurd hx (by simp [allA]), fun x p hx => absurd hx (by simp [allA])⟩
  have hK0 : TKM σ1 L ne A B (allA L 0) := by
    intro e he
    rw [i3 e (by omega), bI_f]
    rintro ⟨a, z, -⟩
    cases z
  obtain ⟨σ2, ⟨j1, j2, j3, j4⟩, e2⟩ := it_inv0 (f := fun c => fX0_trace_28 (fun s => fX0_trace_101 s) c) L.nr (fun r s => frA σ s ∧ CAM s L (allA L r) ∧ TKM s L ne A B (allA L r) ∧ ALL L (allA L r) r 0) (fun s => some s) σ1 (by omega) ⟨i1, hC0, hK0, ALL_0 L⟩ (fun c r s hr hI => by
    obtain ⟨q1, q2, q3, q4⟩ := hI
    obtain ⟨-, hN, -⟩ := CL95 (frA_CL q1 h)
    obtain ⟨s', ⟨k1, k2, k3, k4⟩, k5⟩ := inner (fun s => fX0_trace_95 c r s) r s hr q1 q2 q3 q4
    refine ⟨s', ⟨k1, k2, k3, ALL_row hw hr k4⟩, ?_⟩
    have e1 : fX0_trace_28 (fun s => fX0_trace_101 s) c (r : Int) s = fX0_trace_95 c r s' := by
      rw [← k5]
      simp (disch := omega) only [fX0_trace_28, hN, if_pos, Int.reduceAdd, Int.reduceSub, Int.reduceMul, Int.zero_add, Int.add_zero, Nat.zero_add, na_0, ca_la, ca_al, ca_lm, ca_add, ca_mod, ca_lit, tn_c, Int.natCast_zero, bd_some, bd2_some, bindv_e, chk_ok, cr_ok, crl_ok, chd_ok, chb_0, chb_1, cr_bI, chb_bI, ite_bI0, if_true, if_false]
    show fX0_trace_28 (fun s => fX0_trace_101 s) c (r : Int) s = _
    rw [e1]
    simp (disch := omega) only [fX0_trace_95, Int.reduceAdd, Int.reduceSub, Int.reduceMul, Int.zero_add, Int.add_zero, Nat.zero_add, na_0, ca_la, ca_al, ca_lm, ca_add, ca_mod, ca_lit, tn_c, Int.natCast_zero, bd_some, bd2_some, bindv_e, chk_ok, cr_ok, crl_ok, chd_ok, chb_0, chb_1, cr_bI, chb_bI, ite_bI0, if_true, if_false]) (fun c s hI => by
    obtain ⟨-, hN, -⟩ := CL95 (frA_CL hI.1 h)
    simp (disch := omega) only [fX0_trace_28, fX0_trace_101, hN, if_neg, Int.reduceAdd, Int.reduceSub, Int.reduceMul, Int.zero_add, Int.add_zero, Nat.zero_add, na_0, ca_la, ca_al, ca_lm, ca_add, ca_mod, ca_lit, tn_c, Int.natCast_zero, bd_some, bd2_some, bindv_e, chk_ok, cr_ok, crl_ok, chd_ok, chb_0, chb_1, cr_bI, chb_bI, ite_bI0, if_true, if_false])
  refine ⟨σ2, ?_, j2, j4, j1⟩
  unfold fX0_trace
  rw [bindv_e, bindv_e]
  unfold lX0_trace_7
  rw [e1]
  unfold fX0_trace_26
  rw [bindv_e]
  unfold lX0_trace_28
  exact e2
