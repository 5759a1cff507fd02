/-! pure rows: words of the functions -/
theorem cr_ok {α : Type} {x : Int} {k : Option α} (h : -2147483648 ≤ x ∧ x < 2147483648) : cr x k = k := if_pos h
theorem crl_ok {α : Type} {x : Int} {k : Option α} (h : -9223372036854775808 ≤ x ∧ x < 9223372036854775808) : crl x k = k := if_pos h
theorem chk_ok {α : Type} {i : Int} {n : Nat} {k : Option α} (h : 0 ≤ i ∧ i < (n : Int)) : chk i n k = k := if_pos h
theorem chd_ok {α : Type} {x y : Int} {k : Option α} (h : 0 ≤ x ∧ x < 2147483648 ∧ 0 < y ∧ y < 2147483648) : chd x y k = k := if_pos h
theorem chb_0 {α : Type} {k : Option α} : chb 0 k = k := if_pos (Or.inl rfl)
theorem chb_1 {α : Type} {k : Option α} : chb 1 k = k := if_pos (Or.inr rfl)
theorem bd_some {α β : Type} {v : α} {k : α → Option β} : bd (some v) k = k v := Nat.rec (motive := fun _ => bd (some v) k = k v) rfl (fun _ _ => rfl) 0
theorem bindv_e {α β : Type} {x : α} {k : α → Option β} : bindv x k = k x := Nat.rec (motive := fun _ => bindv x k = k x) rfl (fun _ _ => rfl) 0
theorem bd2_some {α γ β : Type} {v : α} {w : γ} {k : α → γ → Option β} : bd2 (some (v, w)) k = k v w := Nat.rec (motive := fun _ => bd2 (some (v, w)) k = k v w) rfl (fun _ _ => rfl) 0
noncomputable def pI {α : Type} (P : Prop) (a b : α) : α := @ite α P (Classical.propDecidable P) a b
theorem pI_t {α : Type} {P : Prop} {a b : α} (h : P) : pI P a b = a := if_pos h
theorem pI_f {α : Type} {P : Prop} {a b : α} (h : ¬ P) : pI P a b = b := if_neg h
theorem pI_ite {α : Type} {P : Prop} {d : Decidable P} {a b : α} : @ite α P d a b = pI P a b := by
  by_cases h : P
  · rw [pI_t h, if_pos h]
  · rw [pI_f h, if_neg h]
theorem pI_c {α : Type} {P Q : Prop} {a b : α} (h : P ↔ Q) : pI P a b = pI Q a b := by rw [propext h]
noncomputable def bI (P : Prop) : Int := pI P 1 0
theorem bI_t {P : Prop} (h : P) : bI P = 1 := pI_t h
theorem bI_f {P : Prop} (h : ¬ P) : bI P = 0 := pI_f h
theorem bI_c {P Q : Prop} (h : P ↔ Q) : bI P = bI Q := by rw [propext h]
theorem bI_01 (P : Prop) : bI P = 0 ∨ bI P = 1 := by
  by_cases h : P
  · exact Or.inr (bI_t h)
  · exact Or.inl (bI_f h)
theorem bI_0 {P : Prop} : bI P = 0 ↔ ¬ P := by
  by_cases h : P
  · rw [bI_t h]; simp [h]
  · rw [bI_f h]; simp [h]
theorem bI_1 {P : Prop} : bI P = 1 ↔ P := by
  by_cases h : P
  · rw [bI_t h]; simp [h]
  · rw [bI_f h]; simp [h]
theorem cr_bI {α : Type} {P : Prop} {k : Option α} : cr (bI P) k = k := by
  rcases bI_01 P with h | h <;> rw [h] <;> rfl
theorem chb_bI {α : Type} {P : Prop} {k : Option α} : chb (bI P) k = k := by
  rcases bI_01 P with h | h <;> rw [h] <;> rfl
theorem ite_bI0 {α : Type} {P : Prop} {a b : α} : (if bI P = 0 then a else b) = pI P b a := by
  by_cases h : P
  · rw [bI_t h, pI_t h]; rfl
  · rw [bI_f h, pI_f h]; rfl
theorem pI_some (P : Prop) : (pI P (some 1) (some 0) : Option Int) = some (bI P) := by
  by_cases h : P
  · rw [pI_t h, bI_t h]
  · rw [pI_f h, bI_f h]
theorem pI_some' (P : Prop) : (pI P (some 0) (some 1) : Option Int) = some (bI (¬ P)) := by
  by_cases h : P
  · rw [pI_t h, bI_f (fun z => z h)]
  · rw [pI_f h, bI_t h]
theorem sto_at (σ : Mm) (k i : Nat) (v : Int) (k' j : Nat) : sto σ k i v k' j = if k' = k ∧ j = i then v else σ k' j := by
  unfold sto upS upZ
  by_cases h1 : k' = k
  · subst h1
    by_cases h2 : j = i <;> simp [h2]
  · simp [h1]
theorem sto_eq (σ : Mm) (k i : Nat) (v : Int) : sto σ k i v k i = v := by rw [sto_at]; simp
theorem sto_k {σ : Mm} {k i : Nat} {v : Int} {k' j : Nat} (h : k' ≠ k) : sto σ k i v k' j = σ k' j := by rw [sto_at]; simp [h]
theorem sto_c {σ : Mm} {k i : Nat} {v : Int} {k' : Nat} (h : k' ≠ k) : sto σ k i v k' = σ k' := funext fun j => sto_k h
theorem sto_i {σ : Mm} {k i : Nat} {v : Int} {k' j : Nat} (h : j ≠ i) : sto σ k i v k' j = σ k' j := by rw [sto_at]; simp [h]
theorem cpy_at (σ : Mm) (a b n k' j : Nat) : cpy σ a b n k' j = if k' = b ∧ j < n then σ a j else σ k' j := by
  unfold cpy upS
  by_cases h1 : k' = b
  · subst h1
    by_cases h2 : j < n <;> simp [h2]
  · simp [h1]
/-- sums -/
def sumR (t : Nat → Int) : Nat → Nat → Int
  | _, 0 => 0
  | i, m + 1 => t i + sumR t (i + 1) m
abbrev sm (t : Nat → Int) (n : Nat) : Int := sumR t 0 n
theorem sumR_c {t u : Nat → Int} : ∀ (m i : Nat), (∀ j, i ≤ j → j < i + m → t j = u j) → sumR t i m = sumR u i m
  | 0, _, _ => rfl
  | m + 1, i, h => by
    unfold sumR
    rw [h i (Nat.le_refl i) (by omega), sumR_c m (i + 1) (fun j h1 h2 => h j (by omega) (by omega))]
theorem sm_c {t u : Nat → Int} {n : Nat} (h : ∀ j, j < n → t j = u j) : sm t n = sm u n := sumR_c n 0 (fun j _ h2 => h j (by omega))
theorem sumR_s (t : Nat → Int) : ∀ (m i : Nat), sumR t i (m + 1) = sumR t i m + t (i + m)
  | 0, i => by simp [sumR]
  | m + 1, i => by
    have e := sumR_s t m (i + 1)
    have e2 : sumR t i (m + 1 + 1) = t i + sumR t (i + 1) (m + 1) := rfl
    have e3 : sumR t i (m + 1) = t i + sumR t (i + 1) m := rfl
    rw [e2, e, e3, show i + 1 + m = i + (m + 1) by omega]
    omega
theorem sm_s (t : Nat → Int) (n : Nat) : sm t (n + 1) = sm t n + t n := by
  have := sumR_s t n 0
  rw [Nat.zero_add] at this
  exact this
theorem sm_b {t : Nat → Int} {a b : Int} : ∀ {n : Nat}, (∀ j, j < n → a ≤ t j ∧ t j ≤ b) → n * a ≤ sm t n ∧ sm t n ≤ n * b
  | 0, _ => by simp [sumR]
  | n + 1, h => by
    have e := sm_b (n := n) (fun j hj => h j (by omega))
    have e2 := h n (by omega)
    rw [sm_s]
    have e3 : ((n + 1 : Nat) : Int) * a = n * a + a := by rw [Int.natCast_add, Int.add_mul]; simp
    have e4 : ((n + 1 : Nat) : Int) * b = n * b + b := by rw [Int.natCast_add, Int.add_mul]; simp
    rw [e3, e4]
    omega
/-- loops -/
theorem it_ex {β : Type} {f : (Int → Option β) → Int → Option β} (N : Nat) (P : Nat → Prop) (v w : Option β) (hs : ∀ (c : Int → Option β) (i : Nat), i < N → f c (i : Int) = pI (P i) v (c ((i + 1 : Nat) : Int))) (hx : ∀ c : Int → Option β, f c (N : Int) = w) : ∀ (fu i : Nat), i ≤ N → N - i < fu → itN (fun _ => none) f fu (i : Int) = pI (∃ j, i ≤ j ∧ j < N ∧ P j) v w
  | 0, i, _, h => by omega
  | fu + 1, i, h1, h2 => by
    rw [itN_s]
    by_cases he : i = N
    · subst he
      rw [hx, pI_f (fun ⟨j, a, b, _⟩ => by omega)]
    · rw [hs _ i (by omega)]
      have ih := it_ex N P v w hs hx fu (i + 1) (by omega) (by omega)
      rw [ih]
      by_cases hp : P i
      · rw [pI_t hp, pI_t ⟨i, Nat.le_refl i, by omega, hp⟩]
      · rw [pI_f hp]
        apply pI_c
        constructor
        · rintro ⟨j, a, b, d⟩; exact ⟨j, by omega, b, d⟩
        · rintro ⟨j, a, b, d⟩
          refine ⟨j, ?_, b, d⟩
          rcases Nat.lt_or_ge i j with q | q
          · exact q
          · exact absurd ((show j = i by omega) ▸ d) hp
theorem it_ex0 {β : Type} {f : (Int → Option β) → Int → Option β} (N : Nat) (P : Nat → Prop) (v w : Option β) (hN : N < 400) (hs : ∀ (c : Int → Option β) (i : Nat), i < N → f c (i : Int) = pI (P i) v (c ((i + 1 : Nat) : Int))) (hx : ∀ c : Int → Option β, f c (N : Int) = w) : itN (fun _ => none) f 400 0 = pI (∃ j, j < N ∧ P j) v w := by
  have h := it_ex N P v w hs hx 400 0 (Nat.zero_le _) (by omega)
  rw [show ((0 : Nat) : Int) = 0 from rfl] at h
  rw [h]
  apply pI_c
  constructor
  · rintro ⟨j, _, b, d⟩; exact ⟨j, b, d⟩
  · rintro ⟨j, b, d⟩; exact ⟨j, Nat.zero_le j, b, d⟩
/-- the first that P holds of -/
theorem it_first {β : Type} {f : (Int → Option β) → Int → Option β} (N : Nat) (P : Nat → Prop) (v : Nat → Option β) (w : Option β) (hs : ∀ (c : Int → Option β) (i : Nat), i < N → f c (i : Int) = pI (P i) (v i) (c ((i + 1 : Nat) : Int))) (hx : ∀ c : Int → Option β, f c (N : Int) = w) : ∀ (fu i : Nat), i ≤ N → N - i < fu → (∃ j, i ≤ j ∧ j < N ∧ P j ∧ (∀ z, i ≤ z → z < j → ¬ P z) ∧ itN (fun _ => none) f fu (i : Int) = v j) ∨ ((∀ z, i ≤ z → z < N → ¬ P z) ∧ itN (fun _ => none) f fu (i : Int) = w)
  | 0, i, _, h => by omega
  | fu + 1, i, h1, h2 => by
    rw [itN_s]
    by_cases he : i = N
    · subst he
      exact Or.inr ⟨fun z a b => by omega, hx _⟩
    · rw [hs _ i (by omega)]
      have ih := it_first N P v w hs hx fu (i + 1) (by omega) (by omega)
      by_cases hp : P i
      · rw [pI_t hp]
        exact Or.inl ⟨i, Nat.le_refl i, by omega, hp, fun z a b => by omega, rfl⟩
      · rw [pI_f hp]
        have step : ∀ z, i ≤ z → ¬ (i + 1 ≤ z) → ¬ P z := fun z a b => (show z = i by omega) ▸ hp
        rcases ih with ⟨j, a, b, d, q, r⟩ | ⟨q, r⟩
        · exact Or.inl ⟨j, by omega, b, d, fun z h1 h2 => if h : i + 1 ≤ z then q z h h2 else step z h1 h, r⟩
        · exact Or.inr ⟨fun z h1 h2 => if h : i + 1 ≤ z then q z h h2 else step z h1 h, r⟩
/-- a sum ahead of the counter -/
theorem it_sum {β : Type} {f : (Int → Int → Option β) → Int → Int → Option β} (N : Nat) (t : Nat → Int) (w : Int → Option β) (hs : ∀ (c : Int → Int → Option β) (a : Int) (i : Nat), i < N → f c a (i : Int) = c (a + t i) ((i + 1 : Nat) : Int)) (hx : ∀ (c : Int → Int → Option β) (a : Int), f c a (N : Int) = w a) : ∀ (fu i : Nat) (a : Int), i ≤ N → N - i < fu → itN (fun _ _ => none) f fu a (i : Int) = w (a + sumR t i (N - i))
  | 0, i, _, _, h => by omega
  | fu + 1, i, a, h1, h2 => by
    rw [itN_s]
    by_cases he : i = N
    · subst he
      rw [hx, Nat.sub_self]
      simp [sumR]
    · rw [hs _ a i (by omega)]
      have ih := it_sum N t w hs hx fu (i + 1) (a + t i) (by omega) (by omega)
      have e3 : sumR t i (N - (i + 1) + 1) = t i + sumR t (i + 1) (N - (i + 1)) := rfl
      rw [ih, show N - i = (N - (i + 1)) + 1 by omega, e3, Int.add_assoc]
theorem it_sum0 {β : Type} {f : (Int → Int → Option β) → Int → Int → Option β} (N : Nat) (t : Nat → Int) (w : Int → Option β) (a : Int) (hN : N < 400) (hs : ∀ (c : Int → Int → Option β) (a : Int) (i : Nat), i < N → f c a (i : Int) = c (a + t i) ((i + 1 : Nat) : Int)) (hx : ∀ (c : Int → Int → Option β) (a : Int), f c a (N : Int) = w a) : itN (fun _ _ => none) f 400 a 0 = w (a + sm t N) := it_sum N t w hs hx 400 0 a (Nat.zero_le _) (by omega)
/-- a state behind the counter, by an invariant -/
theorem it_inv {α β : Type} {f : (Int → α → Option β) → Int → α → Option β} (N : Nat) (I : Nat → α → Prop) (w : α → Option β) (hs : ∀ (c : Int → α → Option β) (i : Nat) (a : α), i < N → I i a → ∃ a', I (i + 1) a' ∧ f c (i : Int) a = c ((i + 1 : Nat) : Int) a') (hx : ∀ (c : Int → α → Option β) (a : α), I N a → f c (N : Int) a = w a) : ∀ (fu i : Nat) (a : α), i ≤ N → N - i < fu → I i a → ∃ a', I N a' ∧ itN (fun _ _ => none) f fu (i : Int) a = w a'
  | 0, i, _, _, h, _ => by omega
  | fu + 1, i, a, h1, h2, hi => by
    rw [itN_s]
    by_cases he : i = N
    · subst he
      exact ⟨a, hi, hx _ a hi⟩
    · obtain ⟨a', h3, h4⟩ := hs (itN (fun _ _ => none) f fu) i a (by omega) hi
      obtain ⟨b, h5, h6⟩ := it_inv N I w hs hx fu (i + 1) a' (by omega) (by omega) h3
      exact ⟨b, h5, by rw [h4]; exact h6⟩
theorem it_inv0 {α β : Type} {f : (Int → α → Option β) → Int → α → Option β} (N : Nat) (I : Nat → α → Prop) (w : α → Option β) (a : α) (hN : N < 400) (h0 : I 0 a) (hs : ∀ (c : Int → α → Option β) (i : Nat) (a : α), i < N → I i a → ∃ a', I (i + 1) a' ∧ f c (i : Int) a = c ((i + 1 : Nat) : Int) a') (hx : ∀ (c : Int → α → Option β) (a : α), I N a → f c (N : Int) a = w a) : ∃ a', I N a' ∧ itN (fun _ _ => none) f 400 0 a = w a' := it_inv N I w hs hx 400 0 a (Nat.zero_le _) (by omega) h0
/-- casts -/
theorem ca_add (a b : Nat) : (a : Int) + (b : Int) = ((a + b : Nat) : Int) := Nat.rec (motive := fun _ => (a : Int) + (b : Int) = ((a + b : Nat) : Int)) rfl (fun _ _ => rfl) 0
theorem ca_la (n r : Nat) : (no_index (OfNat.ofNat n) : Int) + (r : Int) = ((OfNat.ofNat n + r : Nat) : Int) := Nat.rec (motive := fun _ => (no_index (OfNat.ofNat n) : Int) + (r : Int) = ((OfNat.ofNat n + r : Nat) : Int)) rfl (fun _ _ => rfl) 0
theorem ca_al (n r : Nat) : (r : Int) + (no_index (OfNat.ofNat n) : Int) = ((r + OfNat.ofNat n : Nat) : Int) := Nat.rec (motive := fun _ => (r : Int) + (no_index (OfNat.ofNat n) : Int) = ((r + OfNat.ofNat n : Nat) : Int)) rfl (fun _ _ => rfl) 0
theorem ca_lm (n r : Nat) : (no_index (OfNat.ofNat n) : Int) * (r : Int) = ((OfNat.ofNat n * r : Nat) : Int) := Nat.rec (motive := fun _ => (no_index (OfNat.ofNat n) : Int) * (r : Int) = ((OfNat.ofNat n * r : Nat) : Int)) rfl (fun _ _ => rfl) 0
theorem ca_mod (a b : Nat) : (a : Int) % (b : Int) = ((a % b : Nat) : Int) := Nat.rec (motive := fun _ => (a : Int) % (b : Int) = ((a % b : Nat) : Int)) rfl (fun _ _ => rfl) 0
theorem ca_lit (n : Nat) : ((no_index (OfNat.ofNat n) : Nat) : Int) = OfNat.ofNat n := Nat.rec (motive := fun _ => ((no_index (OfNat.ofNat n) : Nat) : Int) = OfNat.ofNat n) rfl (fun _ _ => rfl) 0
theorem pI_and {α : Type} {P Q : Prop} {a b : α} : pI P (pI Q a b) b = pI (P ∧ Q) a b := by
  by_cases h : P <;> by_cases g : Q <;> simp [pI, h, g]
theorem pI_nor {α : Type} {P Q : Prop} {a b : α} : pI P b (pI Q a b) = pI (¬ P ∧ Q) a b := by
  by_cases h : P <;> by_cases g : Q <;> simp [pI, h, g]
theorem pI_or {α : Type} {P Q : Prop} {a b : α} : pI P a (pI Q a b) = pI (P ∨ Q) a b := by
  by_cases h : P <;> by_cases g : Q <;> simp [pI, h, g]
theorem pI_orn {α : Type} {P Q : Prop} {a b : α} : pI P (pI Q a b) a = pI (¬ P ∨ Q) a b := by
  by_cases h : P <;> by_cases g : Q <;> simp [pI, h, g]
theorem pI_n {α : Type} {P : Prop} {a b : α} : pI (¬ P) a b = pI P b a := by
  by_cases h : P <;> simp [pI, h]
theorem tn_c (n : Nat) : (n : Int).toNat = n := Nat.rec (motive := fun _ => (n : Int).toNat = n) rfl (fun _ _ => rfl) 0
theorem na_0 (n : Nat) : n + 0 = n := by omega
/-- a flag and a counter: it stays while Q holds -/
theorem it_flag {β : Type} {f : (Int → Int → Option β) → Int → Int → Option β} (N : Nat) (Q : Nat → Prop) (w : Int → Option β) (h0 : ∀ (c : Int → Int → Option β) (i : Nat), i < N → f c 0 (i : Int) = w 0) (hs : ∀ (c : Int → Int → Option β) (i : Nat), i < N → f c 1 (i : Int) = c (bI (Q i)) ((i + 1 : Nat) : Int)) (hx : ∀ (c : Int → Int → Option β) (v : Int), (v = 0 ∨ v = 1) → f c v (N : Int) = w v) : ∀ (fu i : Nat) (R : Prop), i ≤ N → N - i < fu → itN (fun _ _ => none) f fu (bI R) (i : Int) = w (bI (R ∧ ∀ j, i ≤ j → j < N → Q j))
  | 0, i, _, _, h => by omega
  | fu + 1, i, R, h1, h2 => by
    rw [itN_s]
    by_cases he : i = N
    · subst he
      rw [hx _ _ (bI_01 R)]
      exact congrArg w (bI_c ⟨fun a => ⟨a, fun j q1 q2 => by omega⟩, fun a => a.1⟩)
    · by_cases hR : R
      · rw [bI_t hR, hs _ i (by omega), it_flag N Q w h0 hs hx fu (i + 1) (Q i) (by omega) (by omega)]
        refine congrArg w (bI_c ⟨fun a => ⟨hR, fun j q1 q2 => ?_⟩, fun a => ⟨a.2 i (Nat.le_refl i) (by omega), fun j q1 q2 => a.2 j (by omega) q2⟩⟩)
        rcases Nat.lt_or_ge i j with q | q
        · exact a.2 j q q2
        · exact (show i = j by omega) ▸ a.1
      · rw [bI_f hR, h0 _ i (by omega), bI_f (fun z => hR z.1)]
theorem b_and {P Q : Prop} : (pI P (some (bI Q)) (some 0) : Option Int) = some (bI (P ∧ Q)) := by
  by_cases h : P <;> by_cases g : Q <;> simp [pI, bI, h, g]
theorem b_or {P Q : Prop} : (pI P (some 1) (some (bI Q)) : Option Int) = some (bI (P ∨ Q)) := by
  by_cases h : P <;> by_cases g : Q <;> simp [pI, bI, h, g]
theorem b_nand {P Q : Prop} : (pI P (some 0) (some (bI Q)) : Option Int) = some (bI (¬ P ∧ Q)) := by
  by_cases h : P <;> by_cases g : Q <;> simp [pI, bI, h, g]
theorem b_imp {P Q : Prop} : (pI P (some (bI Q)) (some 1) : Option Int) = some (bI (¬ P ∨ Q)) := by
  by_cases h : P <;> by_cases g : Q <;> simp [pI, bI, h, g]
theorem ob_c {P Q : Prop} (h : P ↔ Q) : (some (bI P) : Option Int) = some (bI Q) := by rw [propext h]
theorem nex_and {α : Type} {P Q : α → Prop} : (¬ ∃ x, P x ∧ Q x) ↔ ∀ x, P x → ¬ Q x := ⟨fun h x a b => h ⟨x, a, b⟩, fun h ⟨x, a, b⟩ => h x a b⟩
