/-! the law: its loop -/
section LAWL
variable {p : Program} {l : Launch} {e : Env} {s : State} {m : MethodId} {below : List Frame} {meth : Method} {c : Code} {b L : Nat} {xs : Nat → Int32} {D : va_G} {ac : Nat → ClassId} {q q' xa xv : Nat → Nat} {Q : State → Prop} {σ τ : Mm} {ls : Array Slot} {i : Nat}
/-- one turn, from the switch -/
theorem l_turn (C : Cl p s m meth c b L xs D ac q q' xa xv) (hl : lv_has ls 4 (LVl b q q' i)) (hi : i + 5 ≤ L) (hL : L ≤ 2560) (hI : Inv σ τ) (k : ∀ σ' τ', Inv σ' τ' → Lv p l e s m below meth c b D ac q q' Q σ' τ' (F0 m 1024 ls [])) {x : Int32} : Lv p l e s m below meth c b D ac q q' Q σ τ (F0 m 32 ls [.int x]) := fun H locs hP hP' hS => by
  by_cases h : x.toInt < 0 ∨ 27 < x.toInt
  · exact lv_tableOut (tgt := 1024) C.x C.bc dL_law_32 h rfl (k σ τ hI H locs hP hP' hS)
  · rcases (show x.toInt = 0 ∨ x.toInt = 1 ∨ x.toInt = 2 ∨ x.toInt = 3 ∨ x.toInt = 4 ∨ x.toInt = 5 ∨ x.toInt = 6 ∨ x.toInt = 7 ∨ x.toInt = 8 ∨ x.toInt = 9 ∨ x.toInt = 10 ∨ x.toInt = 11 ∨ x.toInt = 12 ∨ x.toInt = 13 ∨ x.toInt = 14 ∨ x.toInt = 15 ∨ x.toInt = 16 ∨ x.toInt = 17 ∨ x.toInt = 18 ∨ x.toInt = 19 ∨ x.toInt = 20 ∨ x.toInt = 21 ∨ x.toInt = 22 ∨ x.toInt = 23 ∨ x.toInt = 24 ∨ x.toInt = 25 ∨ x.toInt = 26 ∨ x.toInt = 27 by omega) with hx | hx | hx | hx | hx | hx | hx | hx | hx | hx | hx | hx | hx | hx | hx | hx | hx | hx | hx | hx | hx | hx | hx | hx | hx | hx | hx | hx
    · exact lv_tableIn (tgt := 160) (off := 128) C.x C.bc dL_law_32 (by omega) (by omega) (by rw [hx]; rfl) rfl (ls_feed C hl hi hL hI k H locs hP hP' hS)
    · exact lv_tableIn (tgt := 183) (off := 151) C.x C.bc dL_law_32 (by omega) (by omega) (by rw [hx]; rfl) rfl (ls_end C hl hi hL hI k H locs hP hP' hS)
    · exact lv_tableIn (tgt := 206) (off := 174) C.x C.bc dL_law_32 (by omega) (by omega) (by rw [hx]; rfl) rfl (ls_text C hl hi hL hI k H locs hP hP' hS)
    · exact lv_tableIn (tgt := 219) (off := 187) C.x C.bc dL_law_32 (by omega) (by omega) (by rw [hx]; rfl) rfl (ls_fault C hl hi hL hI k H locs hP hP' hS)
    · exact lv_tableIn (tgt := 232) (off := 200) C.x C.bc dL_law_32 (by omega) (by omega) (by rw [hx]; rfl) rfl (ls_rule C hl hi hL hI k H locs hP hP' hS)
    · exact lv_tableIn (tgt := 255) (off := 223) C.x C.bc dL_law_32 (by omega) (by omega) (by rw [hx]; rfl) rfl (ls_point C hl hi hL hI k H locs hP hP' hS)
    · exact lv_tableIn (tgt := 288) (off := 256) C.x C.bc dL_law_32 (by omega) (by omega) (by rw [hx]; rfl) rfl (ls_ring C hl hi hL hI k H locs hP hP' hS)
    · exact lv_tableIn (tgt := 331) (off := 299) C.x C.bc dL_law_32 (by omega) (by omega) (by rw [hx]; rfl) rfl (ls_corner C hl hi hL hI k H locs hP hP' hS)
    · exact lv_tableIn (tgt := 374) (off := 342) C.x C.bc dL_law_32 (by omega) (by omega) (by rw [hx]; rfl) rfl (ls_arc C hl hi hL hI k H locs hP hP' hS)
    · exact lv_tableIn (tgt := 407) (off := 375) C.x C.bc dL_law_32 (by omega) (by omega) (by rw [hx]; rfl) rfl (ls_along C hl hi hL hI k H locs hP hP' hS)
    · exact lv_tableIn (tgt := 450) (off := 418) C.x C.bc dL_law_32 (by omega) (by omega) (by rw [hx]; rfl) rfl (ls_gone C hl hi hL hI k H locs hP hP' hS)
    · exact lv_tableIn (tgt := 473) (off := 441) C.x C.bc dL_law_32 (by omega) (by omega) (by rw [hx]; rfl) rfl (ls_left C hl hi hL hI k H locs hP hP' hS)
    · exact lv_tableIn (tgt := 496) (off := 464) C.x C.bc dL_law_32 (by omega) (by omega) (by rw [hx]; rfl) rfl (ls_edge C hl hi hL hI k H locs hP hP' hS)
    · exact lv_tableIn (tgt := 539) (off := 507) C.x C.bc dL_law_32 (by omega) (by omega) (by rw [hx]; rfl) rfl (ls_why C hl hi hL hI k H locs hP hP' hS)
    · exact lv_tableIn (tgt := 572) (off := 540) C.x C.bc dL_law_32 (by omega) (by omega) (by rw [hx]; rfl) rfl (ls_size C hl hi hL hI k H locs hP hP' hS)
    · exact lv_tableIn (tgt := 605) (off := 573) C.x C.bc dL_law_32 (by omega) (by omega) (by rw [hx]; rfl) rfl (ls_keep C hl hi hL hI k H locs hP hP' hS)
    · exact lv_tableIn (tgt := 628) (off := 596) C.x C.bc dL_law_32 (by omega) (by omega) (by rw [hx]; rfl) rfl (ls_limit C hl hi hL hI k H locs hP hP' hS)
    · exact lv_tableIn (tgt := 651) (off := 619) C.x C.bc dL_law_32 (by omega) (by omega) (by rw [hx]; rfl) rfl (ls_within C hl hi hL hI k H locs hP hP' hS)
    · exact lv_tableIn (tgt := 694) (off := 662) C.x C.bc dL_law_32 (by omega) (by omega) (by rw [hx]; rfl) rfl (ls_move C hl hi hL hI k H locs hP hP' hS)
    · exact lv_tableIn (tgt := 737) (off := 705) C.x C.bc dL_law_32 (by omega) (by omega) (by rw [hx]; rfl) rfl (ls_pin C hl hi hL hI k H locs hP hP' hS)
    · exact lv_tableIn (tgt := 770) (off := 738) C.x C.bc dL_law_32 (by omega) (by omega) (by rw [hx]; rfl) rfl (ls_shake C hl hi hL hI k H locs hP hP' hS)
    · exact lv_tableIn (tgt := 803) (off := 771) C.x C.bc dL_law_32 (by omega) (by omega) (by rw [hx]; rfl) rfl (ls_store C hl hi hL hI k H locs hP hP' hS)
    · exact lv_tableIn (tgt := 826) (off := 794) C.x C.bc dL_law_32 (by omega) (by omega) (by rw [hx]; rfl) rfl (ls_back C hl hi hL hI k H locs hP hP' hS)
    · exact lv_tableIn (tgt := 849) (off := 817) C.x C.bc dL_law_32 (by omega) (by omega) (by rw [hx]; rfl) rfl (ls_sheet C hl hi hL hI k H locs hP hP' hS)
    · exact lv_tableIn (tgt := 892) (off := 860) C.x C.bc dL_law_32 (by omega) (by omega) (by rw [hx]; rfl) rfl (ls_lay C hl hi hL hI k H locs hP hP' hS)
    · exact lv_tableIn (tgt := 935) (off := 903) C.x C.bc dL_law_32 (by omega) (by omega) (by rw [hx]; rfl) rfl (ls_read C hl hi hL hI k H locs hP hP' hS)
    · exact lv_tableIn (tgt := 988) (off := 956) C.x C.bc dL_law_32 (by omega) (by omega) (by rw [hx]; rfl) rfl (ls_torn C hl hi hL hI k H locs hP hP' hS)
    · exact lv_tableIn (tgt := 1001) (off := 969) C.x C.bc dL_law_32 (by omega) (by omega) (by rw [hx]; rfl) rfl (ls_count C hl hi hL hI k H locs hP hP' hS)
theorem l_loop (C : Cl p s m meth c b L xs D ac q q' xa xv) (hL : L ≤ 2560) : ∀ (n i : Nat) (σ τ : Mm) (ls : Array Slot), i ≤ L + 5 → L + 6 ≤ i + n → Inv σ τ → lv_has ls 4 (LVl b q q' i) → Lv p l e s m below meth c b D ac q q' (lw_Z below #[Value.ref b] s) σ τ (F0 m 18 ls []) := by
  intro n
  induction n with
  | zero => intro i σ τ ls h1 h2; exact absurd h2 (by omega)
  | succ n ih =>
    intro i σ τ ls h1 h2 hI hl H locs hP hP' hS
    have hX := C.2.2.2.2.2.2.2.2.1
    have hbl := C.2.2.2.2.2.2.2.2.2.1
    refine lv_iload_n C.x C.bc dL_law_18 rfl (lv_at hl 3 rfl) ?_
    refine lv_aload_n C.x C.bc dL_law_19 rfl (lv_at hl 0 rfl) ?_
    refine va_slen C.x C.bc hX hbl C.bA hS dL_law_20 ?_
    refine lv_iconst (v := i32 5) C.x C.bc dL_law_21 rfl ?_
    refine lv_isub C.x C.bc dL_law_22 ?_
    have e5 : Int32.ofNat L - i32 5 = i32 ((L : Int) - 5) := by
      rw [← i32_sub]
      rfl
    rw [e5]
    refine lv_icmp_gt (tgt := 1030) C.x C.bc dL_law_23 rfl (fun c1 => ?_) (fun c1 => ?_)
    · refine lv_iconst (v := 1) C.x C.bc dL_law_1030 rfl ?_
      refine va_forget (fun z hz => hS.2.2 z hz) ?_
      refine W.widen (k := 600000) (n := 7302250) (Nat.le_of_ble_eq_true rfl) (Nat.le_of_ble_eq_true rfl) ?_
      exact lw_ret C.x C.bc C.2.2.2.2.2.2.2.2.2.2.2 C.2.2.2.2.2.2.2.2.2.2.1 dL_law_1031
    · have hi : i + 5 ≤ L := by
        have c2 : ¬ (i32 ((L : Int) - 5) < i32 (i : Int)) := c1
        rw [i32_lt (by omega) (by omega)] at c2
        omega
      refine lv_aload_n C.x C.bc dL_law_26 rfl (lv_at hl 0 rfl) ?_
      refine lv_iload_n C.x C.bc dL_law_27 rfl (lv_at hl 3 rfl) ?_
      refine va_sld C.x C.bc hX hbl C.bA hS (i := i32 (i : Int)) (vp_in_iff.mpr (by rw [i32_toInt (by omega)]; omega)) dL_law_28 ?_
      refine lv_bipush (v := 31) C.x C.bc dL_law_29 rfl ?_
      refine lv_iand C.x C.bc dL_law_31 ?_
      refine l_turn C hl hi hL hI (fun σ' τ' hI' H locs hP hP' hS => ?_) H locs hP hP' hS
      have ei : i32 (i : Int) + Int32.ofInt 5 = i32 ((i + 5 : Nat) : Int) := by
        show i32 (i : Int) + i32 5 = _
        rw [i32_add]
        rfl
      refine lv_iinc (v := i32 ((i + 5 : Nat) : Int)) (lv' := [(3, .int (i32 ((i + 5 : Nat) : Int))), (0, .ref b), (1, .ref (q 0)), (2, .ref (q' 0))]) C.x C.bc dL_law_1024 hl (k := 3) rfl ei (by decide) rfl (fun ls hl => ?_)
      refine lv_goto (tgt := 18) C.x C.bc dL_law_1027 rfl ?_
      exact ih (i + 5) σ' τ' ls (by omega) (by omega) hI' (lv_sub hl [1, 2, 3, 0] rfl) H locs hP hP' hS
end LAWL
