/-! the law: what holds at its entry -/
theorem tb_1 (i : Nat) {w : Cond} (h : tables_1_1[i]? = some w) : w ∈ lw_tbl := List.mem_append_right _ (List.mem_append_left _ (List.mem_of_getElem? h))
theorem tb_2 (i : Nat) {w : Cond} (h : tables_1_2[i]? = some w) : w ∈ lw_tbl := List.mem_append_right _ (List.mem_append_right _ (List.mem_append_left _ (List.mem_of_getElem? h)))
theorem tb_3 (i : Nat) {w : Cond} (h : tables_1_3[i]? = some w) : w ∈ lw_tbl := List.mem_append_right _ (List.mem_append_right _ (List.mem_append_right _ (List.mem_append_left _ (List.mem_of_getElem? h))))
theorem at_spec {args : Array Value} {U : State} {ty : FieldType} (h : (Cond.arrayClass ty).before args U = true) : ∃ c : ClassId, ArrOfT U c ty ∧ U.vm.findClass ("[" ++ ty.toString) = some c := by
  obtain ⟨c, k, comp, h1, h2, h3⟩ := Cond.arrayClass_spec h
  exact ⟨c, fun n z => ⟨fun k h => (by cases h), k, h2, comp, h3⟩, h1⟩
theorem ao_spec {C : String} {U : State} (h : va_AO C U) : ∃ c : ClassId, ArrOfT U c (.object C) ∧ va_RA U c (.object C) := by
  obtain ⟨comp, c, k, h1, h2, h3, h4, h5⟩ := Cond.arrayOver_spec h
  exact ⟨c, fun n z => ⟨fun k h => (by cases h), k, h3, comp, h4⟩, k, comp, h3, h4, h1, h5⟩
theorem AAi_spec {U : State} (h : AAi U) : ∃ c : ClassId, ArrOfT U c (.array .int) ∧ va_RA U c (.array .int) := by
  unfold AAi Cond.before Cond.holds at h
  simp only [Cond.value, beq_iff_eq] at h
  cases hc : U.vm.findClass (FieldType.array .int).toString with
  | none => simp [hc] at h
  | some comp =>
    simp only [hc, Option.bind_some, Option.bind_eq_some_iff, Option.map_eq_some_iff] at h
    obtain ⟨c, hi, k, hk, hb⟩ := h
    cases hkind : k.kind with
    | array cmp ty =>
      rw [hkind] at hb
      simp only [Bool.and_eq_true, decide_eq_true_eq] at hb
      exact ⟨c, fun n z => ⟨fun k h => (by cases h), k, hk, cmp, by rw [hkind, hb.1]⟩, hb.2⟩
    | _ => rw [hkind] at hb; cases hb
theorem e_XN {b : Nat} {s : State} (hts : ∀ w ∈ lw_tbl, w.before #[Value.ref b] s = true) : XN s := by
  refine ⟨fun w hw => ?_, va_AO.of (hts _ (tb_1 232 rfl)), va_AO.of (hts _ (tb_1 234 rfl)), hts _ (tb_1 49 rfl)⟩
  simp only [NT, List.mem_cons, List.not_mem_nil, or_false] at hw
  rcases hw with rfl | rfl | rfl | rfl | rfl | rfl | rfl | rfl | rfl | rfl | rfl
  · exact va_Nw.of rfl (hts _ (tb_1 27 rfl))
  · exact va_Nw.of rfl (hts _ (tb_1 44 rfl))
  · exact va_Nw.of rfl (hts _ (tb_1 236 rfl))
  · exact va_Nw.of rfl (hts _ (tb_3 46 rfl))
  · exact va_Nw.of rfl (hts _ (tb_3 60 rfl))
  · exact va_Nw.of rfl (hts _ (tb_3 232 rfl))
  · exact va_Nw.of rfl (hts _ (tb_2 207 rfl))
  · exact va_Nw.of rfl (hts _ (tb_2 194 rfl))
  · exact va_Nw.of rfl (hts _ (tb_3 111 rfl))
  · exact va_Nw.of rfl (hts _ (tb_3 97 rfl))
  · exact va_Nw.of rfl (hts _ (tb_3 92 rfl))
theorem e_K {args : Array Value} {s : State} (hts : ∀ w ∈ WT, w.before args s = true) (hN : XN s) : ∃ (D : va_G) (ac : Nat → ClassId), va_K D vwCl (tysC ac) s := by
  have hh : ∀ k : Nat, ∃ d : ClassId × (Nat → Nat), ∀ x : vw_C, vwCl[k]? = some x → u_Kn s x.1 x.2.1 x.2.2 d.1 d.2 := by
    intro k
    match k with
    | 0 => obtain ⟨a, i, h⟩ := u_known (C := RX0) (T := TX0) (N := 6) (n := 6) hts inX0 (hts _ ki_X0); exact ⟨(a, i), fun x hx => by cases hx; exact h⟩
    | 1 => obtain ⟨a, i, h⟩ := u_known (C := RX1) (T := TX1) (N := 12) (n := 12) hts inX1 (hts _ ki_X1); exact ⟨(a, i), fun x hx => by cases hx; exact h⟩
    | 2 => obtain ⟨a, i, h⟩ := u_known (C := RX2) (T := TX2) (N := 9) (n := 9) hts inX2 (hts _ ki_X2); exact ⟨(a, i), fun x hx => by cases hx; exact h⟩
    | 3 => obtain ⟨a, i, h⟩ := u_known (C := RX3) (T := TX3) (N := 5) (n := 5) hts inX3 (hts _ ki_X3); exact ⟨(a, i), fun x hx => by cases hx; exact h⟩
    | 4 => obtain ⟨a, i, h⟩ := u_known (C := RX4) (T := TX4) (N := 3) (n := 3) hts inX4 (hts _ ki_X4); exact ⟨(a, i), fun x hx => by cases hx; exact h⟩
    | 5 => obtain ⟨a, i, h⟩ := u_known (C := RX5) (T := TX5) (N := 6) (n := 6) hts inX5 (hts _ ki_X5); exact ⟨(a, i), fun x hx => by cases hx; exact h⟩
    | 6 => obtain ⟨a, i, h⟩ := u_known (C := RX6) (T := TX6) (N := 2) (n := 2) hts inX6 (hts _ ki_X6); exact ⟨(a, i), fun x hx => by cases hx; exact h⟩
    | 7 => obtain ⟨a, i, h⟩ := u_known (C := RX7) (T := TX7) (N := 12) (n := 12) hts inX7 (hts _ ki_X7); exact ⟨(a, i), fun x hx => by cases hx; exact h⟩
    | 8 => obtain ⟨a, i, h⟩ := u_known (C := RX8) (T := TX8) (N := 31) (n := 31) hts inX8 (hts _ ki_X8); exact ⟨(a, i), fun x hx => by cases hx; exact h⟩
    | k + 9 => exact ⟨(0, fun _ => 0), fun x hx => by cases hx⟩
  obtain ⟨f, hf⟩ := Classical.axiomOfChoice hh
  obtain ⟨a0, x0, y0⟩ := at_spec (hts _ at_int)
  obtain ⟨a1, x1, y1⟩ := at_spec (hts _ at_bool)
  obtain ⟨a2, x2, y2⟩ := at_spec (hts _ at_byte)
  obtain ⟨a3, x3, y3⟩ := AAi_spec hN.2.2.2
  obtain ⟨a4, x4, y4⟩ := ao_spec hN.2.1
  obtain ⟨a5, x5, y5⟩ := ao_spec hN.2.2.1
  refine ⟨(fun k => (f k).1, fun k => (f k).2), fun k => ([a0, a1, a2, a3, a4, a5] : List ClassId).getD k 0, fun k x hx => hf k x hx, fun k x hx => ?_⟩
  match k, hx with
  | 0, hx => cases hx; exact ⟨x0, y0⟩
  | 1, hx => cases hx; exact ⟨x1, y1⟩
  | 2, hx => cases hx; exact ⟨x2, y2⟩
  | 3, hx => cases hx; exact ⟨x3, y3⟩
  | 4, hx => cases hx; exact ⟨x4, y4⟩
  | 5, hx => cases hx; exact ⟨x5, y5⟩
  | k + 6, hx => cases hx
abbrev tmS (i : Nat) : Term := .string RX2 (([68, 77, 82] : List Nat).getD i 0)
set_option maxRecDepth 20000 in
theorem e_XC {b : Nat} {s : State} (hts : ∀ w ∈ lw_tbl, w.before #[Value.ref b] s = true) (hgv : (Jvm.Cond.and given_1 narrow_1).before #[Value.ref b] s = true) : ∃ xa xv : Nat → Nat, XC xa xv (A0f s) s := by
  have hf := flat_of_before _ hgv
  have hA : ∀ a : Nat, a < s.heap.size → ¬ A0f s a := fun a h h' => by
    have h' : s.heap.size ≤ a := h'
    omega
  have i3 : ∀ i : Nat, i < 3 → i = 0 ∨ i = 1 ∨ i = 2 := fun i h => by omega
  obtain ⟨xa, xv, hS, hE⟩ := vk_Sof (args := #[Value.ref b]) (s := s) (N := 3) (tm := tmS) (len := strL) (byt := strB) (A := A0f s)
    (fun i hi => by rcases i3 i hi with rfl | rfl | rfl <;> decide)
    (fun i hi => by rcases i3 i hi with rfl | rfl | rfl <;> exact hf _ (by decide +kernel))
    (fun i hi => by rcases i3 i hi with rfl | rfl | rfl <;> exact hf _ (by decide +kernel))
    (fun i hi => by rcases i3 i hi with rfl | rfl | rfl <;> exact hf _ (by decide +kernel))
    (fun i hi => by rcases i3 i hi with rfl | rfl | rfl <;> exact hf _ (by decide +kernel))
    (fun i hi j hj => by
      rcases i3 i hi with rfl | rfl | rfl
      · have hj : j < 5 := hj
        rcases (show j = 0 ∨ j = 1 ∨ j = 2 ∨ j = 3 ∨ j = 4 by omega) with rfl | rfl | rfl | rfl | rfl <;> exact hf _ (by decide +kernel)
      · have hj : j < 4 := hj
        rcases (show j = 0 ∨ j = 1 ∨ j = 2 ∨ j = 3 by omega) with rfl | rfl | rfl | rfl <;> exact hf _ (by decide +kernel)
      · have hj : j < 3 := hj
        rcases (show j = 0 ∨ j = 1 ∨ j = 2 by omega) with rfl | rfl | rfl <;> exact hf _ (by decide +kernel))
    (fun i j hi hj hij => by
      rcases i3 i hi with rfl | rfl | rfl <;> rcases i3 j hj with rfl | rfl | rfl
      · exact absurd rfl hij
      · exact Or.inl (hf _ (by decide +kernel))
      · exact Or.inl (hf _ (by decide +kernel))
      · exact Or.inr (hf _ (by decide +kernel))
      · exact absurd rfl hij
      · exact Or.inl (hf _ (by decide +kernel))
      · exact Or.inr (hf _ (by decide +kernel))
      · exact Or.inr (hf _ (by decide +kernel))
      · exact absurd rfl hij)
    hA
  refine ⟨xa, xv, (e_XN hts).1, vk_R.of (hts _ (tb_2 91 rfl)) (hE 0 (by omega)), vk_R.of (hts _ (tb_2 168 rfl)) (hE 1 (by omega)), vk_R.of (hts _ (tb_2 189 rfl)) (hE 2 (by omega)), hS, ?_, ?_⟩
  · exact va_Zof (hts _ (tb_2 105 rfl)) (hts _ (tb_1 10 rfl)) (va_eqt (hf (Cond.eq (.static "java/lang/String" "COMPACT_STRINGS" "Z") (.int 1)) (by decide +kernel))) hA
  · exact va_Zqof (hts _ (tb_2 121 rfl)) (hts _ (tb_1 12 rfl)) (hf (Cond.isRef (.static "jdk/internal/util/Preconditions" "SIOOBE_FORMATTER" "Ljava/util/function/BiFunction;")) (by decide +kernel)) hA
