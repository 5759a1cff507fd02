/-! edges gathered -/
theorem sm_pos {t : Nat → Int} : ∀ {n : Nat}, (∀ j, j < n → 0 ≤ t j) → (0 < sm t n ↔ ∃ j, j < n ∧ 0 < t j)
  | 0, _ => by
    constructor
    · intro h; simp [sumR] at h
    · rintro ⟨j, h, -⟩; omega
  | n + 1, h => by
    have ih := sm_pos (n := n) (fun j hj => h j (by omega))
    have h1 := h n (by omega)
    have h2 := (sm_b (t := t) (a := 0) (b := sm t n + t n + 1) (n := 0) (fun j hj => by omega))
    rw [sm_s]
    constructor
    · intro q
      by_cases g : 0 < t n
      · exact ⟨n, by omega, g⟩
      · obtain ⟨j, a, b⟩ := ih.mp (by omega)
        exact ⟨j, by omega, b⟩
    · rintro ⟨j, a, b⟩
      by_cases g : j = n
      · subst g
        have : 0 ≤ sm t j := by
          have e := sm_b (t := fun z => - t z) (a := - (sm t j + t j) - 1) (b := 0) (n := 0) (fun z hz => by omega)
          by_cases w : 0 ≤ sm t j
          · exact w
          · exfalso
            have nn : ∀ m, m ≤ j → 0 ≤ sm t m := by
              intro m
              induction m with
              | zero => intro _; simp [sumR]
              | succ m ihm =>
                intro hm
                rw [sm_s]
                have := ihm (by omega)
                have := h m (by omega)
                omega
            exact w (nn j (Nat.le_refl j))
        omega
      · have := ih.mpr ⟨j, by omega, b⟩
        omega
theorem sm_add (f g : Nat → Int) : ∀ n : Nat, sm (fun j => f j + g j) n = sm f n + sm g n
  | 0 => by simp [sumR]
  | n + 1 => by
    rw [sm_s, sm_s, sm_s, sm_add f g n]
    omega
theorem sm_0 {t : Nat → Int} {n : Nat} (h : ∀ j, j < n → t j = 0) : sm t n = 0 := by
  have e := sm_b (t := t) (a := 0) (b := 0) (n := n) (fun j hj => by have := h j hj; omega)
  omega
theorem sm_one {a : Nat} : ∀ {n : Nat}, a < n → sm (fun j => bI (j = a)) n = 1
  | 0, h => by omega
  | n + 1, h => by
    rw [sm_s]
    by_cases e : n = a
    · rw [bI_t e, sm_0 (fun j hj => bI_f (by omega))]
      omega
    · rw [bI_f e, sm_one (n := n) (by omega)]
      omega
def upN (f : Nat → Nat) (i v : Nat) : Nat → Nat := fun j => if j = i then v else f j
theorem upN_eq (f : Nat → Nat) (i v : Nat) : upN f i v i = v := if_pos rfl
theorem upN_ne {f : Nat → Nat} {i v j : Nat} (h : j ≠ i) : upN f i v j = f j := if_neg h
abbrev prs (A B : Nat → Nat) (e p q : Nat) : Prop := (A e = p ∧ B e = q) ∨ (A e = q ∧ B e = p)
theorem c_edgeBetween {σ : Mm} {k np ne p q : Nat} {A B : Nat → Nat} (hE : EL σ k np ne A B) (hnp : np ≤ 24) (hp : p < 1000) (hq : q < 1000) : (∃ e, e < ne ∧ prs A B e p q ∧ fX1_edgeBetween k p q σ = some (e : Int)) ∨ ((∀ e, e < ne → ¬ prs A B e p q) ∧ fX1_edgeBetween k p q σ = some (-1)) := by
  obtain ⟨hNe, h60, hA, hB, hAl, hBl⟩ := hE
  have key := it_first (f := fun c => fX1_edgeBetween_2 k p q σ (fX1_edgeBetween_58 k σ) c) ne (fun e => prs A B e p q) (fun e => some (e : Int)) (some (-1)) (fun c e he => by
    have a1 := hAl e he
    have b1 := hBl e he
    simp (disch := omega) only [fX1_edgeBetween_2, fX1_edgeBetween_30, fX1_edgeBetween_50, fX1_edgeBetween_52, hNe, hA, hB, if_pos, Int.reduceAdd, Int.reduceSub, Int.reduceMul, Int.zero_add, Int.add_zero, Nat.zero_add, na_0, ca_la, ca_al, ca_lm, ca_add, ca_mod, ca_lit, tn_c, Int.natCast_zero, bd_some, bd2_some, bindv_e, chk_ok, cr_ok, crl_ok, chd_ok, chb_0, chb_1, cr_bI, chb_bI, ite_bI0, if_true, if_false]
    repeat' split
    all_goals first | (rw [pI_t (by omega)]; done) | rw [pI_f (by omega)]) (fun c => by
    simp (disch := omega) only [fX1_edgeBetween_2, fX1_edgeBetween_58, hNe, if_neg, Int.reduceAdd, Int.reduceSub, Int.reduceMul, Int.zero_add, Int.add_zero, Nat.zero_add, na_0, ca_la, ca_al, ca_lm, ca_add, ca_mod, ca_lit, tn_c, Int.natCast_zero, bd_some, bd2_some, bindv_e, chk_ok, cr_ok, crl_ok, chd_ok, chb_0, chb_1, cr_bI, chb_bI, ite_bI0, if_true, if_false]) 400 0 (Nat.zero_le _) (by omega)
  rw [show ((0 : Nat) : Int) = 0 from rfl] at key
  have hf : fX1_edgeBetween k p q σ = itN (fun _ => none) (fun c => fX1_edgeBetween_2 k p q σ (fX1_edgeBetween_58 k σ) c) 400 0 := by
    simp only [fX1_edgeBetween, lX1_edgeBetween_2, bindv_e]
  rw [hf]
  rcases key with ⟨j, -, h2, h3, -, h5⟩ | ⟨h1, h2⟩
  · exact Or.inl ⟨j, h2, h3, h5⟩
  · exact Or.inr ⟨fun e he => h1 e (Nat.zero_le e) he, h2⟩
noncomputable def dgU (U : Nat → Nat → Int) (np p : Nat) : Int := sm (fun q => bI (q ≠ p ∧ 0 < U p q)) np
/-- the edges so far: U says how often two points were one -/
def GI (σ : Mm) (k np ne : Nat) (A B : Nat → Nat) (U : Nat → Nat → Int) : Prop := EL σ k np ne A B ∧ (∀ e, e < ne → A e ≠ B e) ∧ (∀ e, e < ne → σ (k + 8) e = U (A e) (B e)) ∧ (∀ e, e < ne → 0 < U (A e) (B e)) ∧ (∀ p q, p < np → q < np → 0 < U p q → ∃ e, e < ne ∧ prs A B e p q) ∧ (∀ e e', e < ne → e' < ne → prs A B e (A e') (B e') → e = e') ∧ (∀ p, p < np → σ (k + 9) p = dgU U np p) ∧ sm (dgU U np) np = 2 * (ne : Int)
noncomputable def addU (U : Nat → Nat → Int) (a b : Nat) : Nat → Nat → Int := fun p q => U p q + bI ((p = a ∧ q = b) ∨ (p = b ∧ q = a))
theorem addU_ne {U : Nat → Nat → Int} {a b p q : Nat} (h : ¬ ((p = a ∧ q = b) ∨ (p = b ∧ q = a))) : addU U a b p q = U p q := by
  unfold addU
  rw [bI_f h, Int.add_zero]
theorem addU_eq {U : Nat → Nat → Int} {a b p q : Nat} (h : (p = a ∧ q = b) ∨ (p = b ∧ q = a)) : addU U a b p q = U p q + 1 := by
  unfold addU
  rw [bI_t h]
theorem c_noteEdge {σ : Mm} {k np ne a b : Nat} {A B : Nat → Nat} {U : Nat → Nat → Int} (hnp : np ≤ 24) (hG : GI σ k np ne A B U) (hU0 : ∀ p q, 0 ≤ U p q) (hUs : ∀ p q, U p q = U q p) (ha : a < np) (hb : b < np) (hab : a ≠ b) (hne : ne < 60) : ∃ σ' ne' A' B', fX1_noteEdge k a b σ = some σ' ∧ GI σ' k np ne' A' B' (addU U a b) ∧ ne' ≤ ne + 1 ∧ (∀ c, c ≠ k → c ≠ k + 6 → c ≠ k + 7 → c ≠ k + 8 → c ≠ k + 9 → σ' c = σ c) ∧ (∀ j, j ≠ 11 → σ' k j = σ k j) := by
  obtain ⟨hE, hAB, hV, hV0, hX, hDi, hDg, hSm⟩ := hG
  obtain ⟨hNe, h60, hA, hB, hAl, hBl⟩ := id hE
  rcases c_edgeBetween hE hnp (p := a) (q := b) (by omega) (by omega) with ⟨e, he, hpe, hf⟩ | ⟨hno, hf⟩
  · refine ⟨sto σ (k + 8) e (U (A e) (B e) + 1), ne, A, B, ?_, ?_, by omega, fun c h1 h2 h3 h4 h5 => sto_c h4, fun j hj => sto_k (by omega)⟩
    · simp (disch := omega) only [fX1_noteEdge, fX1_noteEdge_93, hf, hV, if_neg, Int.reduceAdd, Int.reduceSub, Int.reduceMul, Int.zero_add, Int.add_zero, Nat.zero_add, na_0, ca_la, ca_al, ca_lm, ca_add, ca_mod, ca_lit, tn_c, Int.natCast_zero, bd_some, bd2_some, bindv_e, chk_ok, cr_ok, crl_ok, chd_ok, chb_0, chb_1, cr_bI, chb_bI, ite_bI0, if_true, if_false]
    have hpos : ∀ p q, 0 < addU U a b p q ↔ 0 < U p q := by
      intro p q
      by_cases w : (p = a ∧ q = b) ∨ (p = b ∧ q = a)
      · rw [addU_eq w]
        have h1 := hV0 e he
        have h2 := hU0 p q
        have h3 : U p q = U (A e) (B e) := by
          rcases w with ⟨rfl, rfl⟩ | ⟨rfl, rfl⟩ <;> rcases hpe with ⟨r1, r2⟩ | ⟨r1, r2⟩ <;> rw [r1, r2]
          · exact hUs _ _
          · exact hUs _ _
        omega
      · rw [addU_ne w]
    have hdg : ∀ p, dgU (addU U a b) np p = dgU U np p := fun p => sm_c fun q _ => bI_c (by rw [hpos])
    refine ⟨⟨?_, h60, fun j hj => ?_, fun j hj => ?_, hAl, hBl⟩, hAB, fun j hj => ?_, fun j hj => (hpos _ _).mpr (hV0 j hj), fun p q h1 h2 h3 => hX p q h1 h2 ((hpos p q).mp h3), hDi, fun p hp => ?_, ?_⟩
    · rw [sto_k (by omega)]; exact hNe
    · rw [sto_k (by omega)]; exact hA j hj
    · rw [sto_k (by omega)]; exact hB j hj
    · rw [sto_at]
      by_cases w : j = e
      · subst w
        rw [if_pos ⟨rfl, rfl⟩, addU_eq (by omega)]
      · rw [if_neg (by omega), addU_ne]
        · exact hV j hj
        · intro z
          exact w (hDi j e hj he (by omega))
    · rw [sto_k (by omega), hdg]; exact hDg p hp
    · rw [sm_c (fun j _ => hdg j)]; exact hSm
  · have hU : U a b = 0 := by
      have h1 := hU0 a b
      by_cases w : 0 < U a b
      · obtain ⟨e, he, hpe⟩ := hX a b ha hb w
        exact absurd hpe (hno e he)
      · omega
    have hU' : U b a = 0 := by rw [hUs]; exact hU
    have hdg : ∀ p, p < np → dgU (addU U a b) np p = dgU U np p + (bI (p = a) + bI (p = b)) := by
      intro p hp
      unfold dgU
      by_cases w1 : p = a
      · subst w1
        rw [bI_t rfl, bI_f hab, ← sm_one (a := b) (n := np) hb, Int.add_zero, ← sm_add]
        refine sm_c fun q _ => ?_
        by_cases w : q = b
        · subst w
          rw [bI_t ⟨Ne.symm hab, by rw [addU_eq (Or.inl ⟨rfl, rfl⟩)]; omega⟩, bI_f (by omega), bI_t rfl]
          rfl
        · rw [addU_ne (by omega), bI_f w, Int.add_zero]
      · by_cases w2 : p = b
        · subst w2
          rw [bI_f w1, bI_t rfl, ← sm_one (a := a) (n := np) ha, Int.zero_add, ← sm_add]
          refine sm_c fun q _ => ?_
          by_cases w : q = a
          · subst w
            rw [bI_t ⟨hab, by rw [addU_eq (Or.inr ⟨rfl, rfl⟩)]; omega⟩, bI_f (by omega), bI_t rfl]
            rfl
          · rw [addU_ne (by omega), bI_f w, Int.add_zero]
        · rw [bI_f w1, bI_f w2, Int.add_zero, Int.add_zero]
          refine sm_c fun q _ => ?_
          rw [addU_ne (by omega)]
    refine ⟨sto (sto (sto (sto (sto (sto σ (k + 6) ne a) (k + 7) ne b) (k + 8) ne 1) k 11 ((ne : Int) + 1)) (k + 9) a (dgU U np a + 1)) (k + 9) b (dgU U np b + 1), ne + 1, upN A ne a, upN B ne b, ?_, ?_, by omega, fun c h1 h2 h3 h4 h5 => ?_, fun j hj => ?_⟩
    · have d1 := hDg a ha
      have d2 := hDg b hb
      simp (disch := omega) only [fX1_noteEdge, fX1_noteEdge_93, hf, hNe, sto_k, sto_i, d1, d2, if_pos, Int.reduceAdd, Int.reduceSub, Int.reduceMul, Int.zero_add, Int.add_zero, Nat.zero_add, na_0, ca_la, ca_al, ca_lm, ca_add, ca_mod, ca_lit, tn_c, Int.natCast_zero, bd_some, bd2_some, bindv_e, chk_ok, cr_ok, crl_ok, chd_ok, chb_0, chb_1, cr_bI, chb_bI, ite_bI0, if_true, if_false]
    · refine ⟨⟨?_, by omega, fun j hj => ?_, fun j hj => ?_, fun j hj => ?_, fun j hj => ?_⟩, fun j hj => ?_, fun j hj => ?_, fun j hj => ?_, fun p q h1 h2 h3 => ?_, fun e e' h1 h2 h3 => ?_, fun p hp => ?_, ?_⟩
      · rw [sto_k (by omega), sto_k (by omega), sto_eq]; rfl
      · rw [sto_k (by omega), sto_k (by omega), sto_k (by omega), sto_k (by omega), sto_k (by omega), sto_at]
        by_cases w : j = ne
        · subst w; rw [if_pos ⟨rfl, rfl⟩, upN_eq]
        · rw [if_neg (by omega), upN_ne w]; exact hA j (by omega)
      · rw [sto_k (by omega), sto_k (by omega), sto_k (by omega), sto_k (by omega), sto_at]
        by_cases w : j = ne
        · subst w; rw [if_pos ⟨rfl, rfl⟩, upN_eq]
        · rw [if_neg (by omega), upN_ne w, sto_k (by omega)]; exact hB j (by omega)
      · by_cases w : j = ne
        · subst w; rw [upN_eq]; exact ha
        · rw [upN_ne w]; exact hAl j (by omega)
      · by_cases w : j = ne
        · subst w; rw [upN_eq]; exact hb
        · rw [upN_ne w]; exact hBl j (by omega)
      · by_cases w : j = ne
        · subst w; rw [upN_eq, upN_eq]; exact hab
        · rw [upN_ne w, upN_ne w]; exact hAB j (by omega)
      · rw [sto_k (by omega), sto_k (by omega), sto_k (by omega), sto_at]
        by_cases w : j = ne
        · subst w; rw [if_pos ⟨rfl, rfl⟩, upN_eq, upN_eq, addU_eq (Or.inl ⟨rfl, rfl⟩), hU]; rfl
        · rw [if_neg (by omega), upN_ne w, upN_ne w, sto_k (by omega), sto_k (by omega), addU_ne (hno j (by omega))]; exact hV j (by omega)
      · by_cases w : j = ne
        · subst w; rw [upN_eq, upN_eq, addU_eq (Or.inl ⟨rfl, rfl⟩), hU]; decide
        · rw [upN_ne w, upN_ne w, addU_ne (hno j (by omega))]; exact hV0 j (by omega)
      · by_cases w : (p = a ∧ q = b) ∨ (p = b ∧ q = a)
        · refine ⟨ne, by omega, ?_⟩
          unfold prs
          rw [upN_eq, upN_eq]; omega
        · rw [addU_ne w] at h3
          obtain ⟨e, he, hpe⟩ := hX p q h1 h2 h3
          refine ⟨e, by omega, ?_⟩
          unfold prs
          rw [upN_ne (by omega), upN_ne (by omega)]; exact hpe
      · unfold prs at h3
        by_cases w : e = ne
        · by_cases w' : e' = ne
          · omega
          · rw [w, upN_eq, upN_eq, upN_ne w', upN_ne w'] at h3
            exact absurd (show prs A B e' a b by unfold prs; omega) (hno e' (by omega))
        · by_cases w' : e' = ne
          · rw [w', upN_eq, upN_eq, upN_ne w, upN_ne w] at h3
            exact absurd (show prs A B e a b by unfold prs; omega) (hno e (by omega))
          · rw [upN_ne w, upN_ne w, upN_ne w', upN_ne w'] at h3
            exact hDi e e' (by omega) (by omega) h3
      · rw [hdg p hp, sto_at, sto_at]
        by_cases w1 : p = b
        · subst w1
          rw [if_pos ⟨rfl, rfl⟩, bI_f (Ne.symm hab), bI_t rfl]; rfl
        · rw [if_neg (by omega)]
          by_cases w2 : p = a
          · subst w2
            rw [if_pos ⟨rfl, rfl⟩, bI_f w1, bI_t rfl]; rfl
          · rw [if_neg (by omega), sto_k (by omega), sto_k (by omega), sto_k (by omega), sto_k (by omega), bI_f w1, bI_f w2, hDg p hp]
            omega
      · rw [sm_c (fun j hj => hdg j hj), sm_add, sm_add, hSm, sm_one ha, sm_one hb]
        omega
    · rw [sto_c (by omega), sto_c (by omega), sto_c (by omega), sto_c (by omega), sto_c (by omega), sto_c (by omega)]
    · rw [sto_k (by omega), sto_k (by omega), sto_i hj, sto_k (by omega), sto_k (by omega), sto_k (by omega)]
