/-! at the start: the empty land on both sides -/
def L00 : Ld := ((0, 0), fun _ => 0, fun _ _ => 0, fun _ => 0, fun _ => 0, fun _ => 0)
theorem n00 {p : Nat} : ¬ p < L00.np := Nat.not_lt_zero p
theorem r00 {r : Nat} : ¬ r < L00.nr := Nat.not_lt_zero r
theorem WF00 : WF L00 := ⟨Nat.zero_le _, Nat.zero_le _, fun r h => absurd h r00, fun r i h => absurd h r00, fun r i j h => absurd h r00, fun p h => absurd h n00, fun p h => absurd h n00, fun p h => absurd h n00⟩
theorem FAIR00 : FAIR L00 := ⟨fun p q h => absurd h n00, fun r h => absurd h r00⟩
theorem sg_z {k i : Nat} (h : kdC k ≠ 20) : sg0 k i = 0 := if_neg h
theorem LDC00 : LDC sg0 95 L00 := by
  refine ⟨WF00, FAIR00, ⟨rfl, rfl, fun p h => absurd h n00, fun p h => absurd h n00, fun p h => absurd h n00, fun r h => absurd h r00, fun r i h => absurd h r00⟩, ⟨0, fun _ => 0, fun _ => 0, ⟨rfl, by omega, fun e h => absurd h (Nat.not_lt_zero e), fun e h => absurd h (Nat.not_lt_zero e), fun e h => absurd h (Nat.not_lt_zero e), fun e h => absurd h (Nat.not_lt_zero e)⟩, fun e h => absurd h (Nat.not_lt_zero e), fun e h => absurd h (Nat.not_lt_zero e), fun e h => absurd h (Nat.not_lt_zero e), fun p q h => absurd h n00, fun e e' h => absurd h (Nat.not_lt_zero e), fun p h => absurd h n00, rfl⟩, fun p _ => Or.inl rfl⟩
theorem LK00 : LK sg0 L00 := by
  refine ⟨⟨fun _ => 0, fun _ => 0, 0, ⟨fun s h => absurd h (Nat.not_lt_zero s), fun p h => absurd h.1 n00⟩, rfl, fun s a b => absurd b (by omega), fun s a b => absurd b (by omega), fun p h => absurd h n00⟩, ⟨rfl, fun x h => absurd h (Nat.not_lt_zero x), fun x j h => absurd h (Nat.not_lt_zero x), fun x p h => absurd h (Nat.not_lt_zero x)⟩, ALL_0 L00⟩
theorem SH00 : ∀ k, k < 4 → SHk sg0 tau0 k
  | 0, _ => ⟨Or.inl ⟨rfl, rfl⟩, rfl, by decide, by decide, fun i _ => ⟨rfl, by show inR (0 : Int); decide⟩⟩
  | 1, _ => ⟨Or.inl ⟨rfl, rfl⟩, rfl, by decide, by decide, fun i _ => ⟨rfl, by show inR (0 : Int); decide⟩⟩
  | 2, _ => ⟨Or.inl ⟨rfl, rfl⟩, rfl, by decide, by decide, fun i _ => ⟨rfl, by show inR (0 : Int); decide⟩⟩
  | 3, _ => ⟨Or.inl ⟨rfl, rfl⟩, rfl, by decide, by decide, fun i _ => ⟨rfl, by show inR (0 : Int); decide⟩⟩
  | k + 4, h => absurd h (by omega)
theorem KC00 : KC tau0 := by
  refine ⟨fun w hw => ?_, fun w i hw hi => ?_⟩
  · rcases (show w = 0 ∨ w = 1 ∨ w = 2 ∨ w = 3 by omega) with rfl | rfl | rfl | rfl <;> rfl
  · have h5 : strLn w ≤ 5 := by
      rcases (show w = 0 ∨ w = 1 ∨ w = 2 by omega) with rfl | rfl | rfl <;> decide
    rcases (show w = 0 ∨ w = 1 ∨ w = 2 by omega) with rfl | rfl | rfl
    · have hi : i < 5 := hi
      rcases (show i = 0 ∨ i = 1 ∨ i = 2 ∨ i = 3 ∨ i = 4 by omega) with rfl | rfl | rfl | rfl | rfl <;> rfl
    · have hi : i < 4 := hi
      rcases (show i = 0 ∨ i = 1 ∨ i = 2 ∨ i = 3 by omega) with rfl | rfl | rfl | rfl <;> rfl
    · have hi : i < 3 := hi
      rcases (show i = 0 ∨ i = 1 ∨ i = 2 by omega) with rfl | rfl | rfl <;> rfl
theorem Inv00 : Inv sg0 tau0 := by
  refine ⟨L00, LDC00, LK00, ⟨rfl, rfl, fun p h => absurd h n00, fun p h => absurd h n00, fun p h => absurd h n00, fun r h => absurd h r00, fun r i h => absurd h r00⟩, Or.inl rfl, ⟨0, by omega, rfl, rfl, fun i h => absurd h (Nat.not_lt_zero i)⟩, ⟨rfl, rfl⟩, SH00, fun k hk => ?_, KC00⟩
  rcases (show k = 0 ∨ k = 1 by omega) with rfl | rfl <;> exact Or.inl ⟨rfl, rfl⟩
