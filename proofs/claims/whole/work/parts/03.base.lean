/-! the layer: a world is a fixed list of cells whose ints are a function to Int; a judgement Vv over it; machine ints are i32 of them -/
abbrev Mm : Type := Nat → Nat → Int
def WT : List Cond := lw_tbl.filter goodWord
theorem WT_mem {w : Cond} (h : w ∈ lw_tbl) (hg : goodWord w = true) : w ∈ WT := List.mem_filter.mpr ⟨h, hg⟩
theorem WT_good {w : Cond} (h : w ∈ WT) : goodWord w = true := (List.mem_filter.mp h).2
theorem WT_tbl {w : Cond} (h : w ∈ WT) : w ∈ lw_tbl := (List.mem_filter.mp h).1
theorem WT_1 (i : Nat) {w : Cond} (h : tables_1_1[i]? = some w) (hg : goodWord w = true) : w ∈ WT := WT_mem (List.mem_append_right _ (List.mem_append_left _ (List.mem_of_getElem? h))) hg
theorem WT_2 (i : Nat) {w : Cond} (h : tables_1_2[i]? = some w) (hg : goodWord w = true) : w ∈ WT := WT_mem (List.mem_append_right _ (List.mem_append_right _ (List.mem_append_left _ (List.mem_of_getElem? h)))) hg
theorem WT_3 (i : Nat) {w : Cond} (h : tables_1_3[i]? = some w) (hg : goodWord w = true) : w ∈ WT := WT_mem (List.mem_append_right _ (List.mem_append_right _ (List.mem_append_right _ (List.mem_append_left _ (List.mem_of_getElem? h))))) hg
theorem WT_4 (i : Nat) {w : Cond} (h : tables_1_4[i]? = some w) (hg : goodWord w = true) : w ∈ WT := WT_mem (List.mem_append_right _ (List.mem_append_right _ (List.mem_append_right _ (List.mem_append_right _ (List.mem_append_left _ (List.mem_of_getElem? h)))))) hg
theorem WT_5 (i : Nat) {w : Cond} (h : tables_1_5[i]? = some w) (hg : goodWord w = true) : w ∈ WT := WT_mem (List.mem_append_right _ (List.mem_append_right _ (List.mem_append_right _ (List.mem_append_right _ (List.mem_append_right _ (List.mem_append_left _ (List.mem_of_getElem? h))))))) hg
theorem WT_6 (i : Nat) {w : Cond} (h : tables_1_6[i]? = some w) (hg : goodWord w = true) : w ∈ WT := WT_mem (List.mem_append_right _ (List.mem_append_right _ (List.mem_append_right _ (List.mem_append_right _ (List.mem_append_right _ (List.mem_append_right _ (List.mem_of_getElem? h))))))) hg
theorem WT_p {y : MethodName} {n : Nat} (h : (y, n) ∈ lw_privs) : Cond.selects y.cls y y ∈ WT := WT_mem (List.mem_append_left _ (List.mem_map.mpr ⟨_, h, rfl⟩)) (by rfl)
theorem WT_in {c c' : Cond} (h : c' ∈ WT) : GoodIn (c :: WT) (c' :: WT) := fun w hw => by
  rcases List.mem_cons.mp hw with rfl | hw
  · exact ⟨List.mem_cons_of_mem _ h, good_of_word (WT_good h)⟩
  · exact ⟨List.mem_cons_of_mem _ hw, good_of_word (WT_good hw)⟩
theorem WT_inL {c' : Cond} (h : c' ∈ WT) : GoodIn lw_tbl (c' :: WT) := fun w hw => by
  rcases List.mem_cons.mp hw with rfl | hw
  · exact ⟨WT_tbl h, good_of_word (WT_good h)⟩
  · exact ⟨WT_tbl hw, good_of_word (WT_good hw)⟩
def i32 (x : Int) : Int32 := Int32.ofInt x
def i64 (x : Int) : Int64 := Int64.ofInt x
abbrev inR (x : Int) : Prop := -2147483648 ≤ x ∧ x < 2147483648
abbrev inL (x : Int) : Prop := -9223372036854775808 ≤ x ∧ x < 9223372036854775808
theorem i32_add (x y : Int) : i32 x + i32 y = i32 (x + y) := (Int32.ofInt_add x y).symm
theorem i32_sub (x y : Int) : i32 x - i32 y = i32 (x - y) := (Int32.ofInt_sub x y).symm
theorem i32_mul (x y : Int) : i32 x * i32 y = i32 (x * y) := (Int32.ofInt_mul x y).symm
theorem i32_neg (x : Int) : -i32 x = i32 (-x) := (Int32.ofInt_neg x).symm
theorem i64_add (x y : Int) : i64 x + i64 y = i64 (x + y) := (Int64.ofInt_add x y).symm
theorem i64_mul (x y : Int) : i64 x * i64 y = i64 (x * y) := (Int64.ofInt_mul x y).symm
theorem i32_toInt {x : Int} (h : inR x) : (i32 x).toInt = x := Int32.toInt_ofInt_of_le h.1 h.2
theorem i64_toInt {x : Int} (h : inL x) : (i64 x).toInt = x := Int64.toInt_ofInt_of_le h.1 h.2
theorem i32_of (z : Int32) : i32 z.toInt = z := Int32.ofInt_toInt z
theorem inR_toInt (z : Int32) : inR z.toInt := ⟨Int32.le_toInt z, Int32.toInt_lt z⟩
theorem i32_eq {x y : Int} (hx : inR x) (hy : inR y) : i32 x = i32 y ↔ x = y := by
  rw [← Int32.toInt_inj, i32_toInt hx, i32_toInt hy]
theorem i32_lt {x y : Int} (hx : inR x) (hy : inR y) : i32 x < i32 y ↔ x < y := by
  rw [Int32.lt_iff_toInt_lt, i32_toInt hx, i32_toInt hy]
theorem i32_le {x y : Int} (hx : inR x) (hy : inR y) : i32 x ≤ i32 y ↔ x ≤ y := by
  rw [Int32.le_iff_toInt_le, i32_toInt hx, i32_toInt hy]
theorem i64_eq {x y : Int} (hx : inL x) (hy : inL y) : i64 x = i64 y ↔ x = y := by
  rw [← Int64.toInt_inj, i64_toInt hx, i64_toInt hy]
theorem i64_lt {x y : Int} (hx : inL x) (hy : inL y) : i64 x < i64 y ↔ x < y := by
  rw [Int64.lt_iff_toInt_lt, i64_toInt hx, i64_toInt hy]
theorem i64_le {x y : Int} (hx : inL x) (hy : inL y) : i64 x ≤ i64 y ↔ x ≤ y := by
  rw [Int64.le_iff_toInt_le, i64_toInt hx, i64_toInt hy]
theorem i32_0 : i32 0 = 0 := rfl
theorem i32_long {x : Int} (h : inR x) : (i32 x).toInt64 = i64 x := by
  apply Int64.toInt_inj.mp
  rw [Int32.toInt_toInt64, i32_toInt h, i64_toInt (by omega)]
theorem i64_int (x : Int) : (i64 x).toInt32 = i32 x := by
  apply Int32.toInt_inj.mp
  show (Int64.ofInt x).toInt32.toInt = (Int32.ofInt x).toInt
  rw [Int64.toInt_toInt32, Int64.toInt_ofInt, Int32.toInt_ofInt]
  exact Int.bmod_bmod_of_dvd (by decide)
theorem lgc_lt (x y : Int64) : lg_cmp x y < 0 ↔ x < y := by
  have h := lg_cmp_ge x y
  rw [Int64.le_iff_toInt_le, Int32.le_iff_toInt_le] at h
  rw [Int64.lt_iff_toInt_lt, Int32.lt_iff_toInt_lt]
  have z : (0 : Int32).toInt = 0 := rfl
  rw [z] at h ⊢
  omega
theorem lgc_gt (x y : Int64) : 0 < lg_cmp x y ↔ y < x := by
  have h := lg_cmp_le x y
  rw [Int64.le_iff_toInt_le, Int32.le_iff_toInt_le] at h
  rw [Int64.lt_iff_toInt_lt, Int32.lt_iff_toInt_lt]
  have z : (0 : Int32).toInt = 0 := rfl
  rw [z] at h ⊢
  omega
/-- the words of the functions -/
def fz (f : Nat → Int) : Nat → Int32 := fun i => i32 (f i)
def upZ (f : Nat → Int) (i : Nat) (v : Int) : Nat → Int := fun j => if j = i then v else f j
def upS (σ : Mm) (k : Nat) (f : Nat → Int) : Mm := fun j => if j = k then f else σ j
def sto (σ : Mm) (k i : Nat) (v : Int) : Mm := upS σ k (upZ (σ k) i v)
theorem fz_up (f : Nat → Int) (i : Nat) (v : Int) : fz (upZ f i v) = upd (fz f) i (i32 v) := by
  funext j
  unfold fz upZ upd
  by_cases h : j = i <;> simp [h]
def bindv {α β : Type} (x : α) (k : α → Option β) : Option β := k x
def bd {α β : Type} (x : Option α) (k : α → Option β) : Option β := match x with
  | none => none
  | some v => k v
def bd2 {α γ β : Type} (x : Option (α × γ)) (k : α → γ → Option β) : Option β := match x with
  | none => none
  | some v => k v.1 v.2
def cr {α : Type} (x : Int) (k : Option α) : Option α := if -2147483648 ≤ x ∧ x < 2147483648 then k else none
def crl {α : Type} (x : Int) (k : Option α) : Option α := if -9223372036854775808 ≤ x ∧ x < 9223372036854775808 then k else none
def chk {α : Type} (i : Int) (n : Nat) (k : Option α) : Option α := if 0 ≤ i ∧ i < (n : Int) then k else none
/-- division of what is not below 0 by what is above 0 -/
def chd {α : Type} (x y : Int) (k : Option α) : Option α := if 0 ≤ x ∧ x < 2147483648 ∧ 0 < y ∧ y < 2147483648 then k else none
def chb {α : Type} (v : Int) (k : Option α) : Option α := if v = 0 ∨ v = 1 then k else none
def mxI (x y : Int) : Int := if x < y then y else x
def mnI (x y : Int) : Int := if y < x then y else x
def abI (x : Int) : Int := if 0 ≤ x then x else 0 - x
def andI (x y : Int) : Int := (i32 x &&& i32 y).toInt
def orI (x y : Int) : Int := (i32 x ||| i32 y).toInt
def shlI (x y : Int) : Int := (i32 x <<< (i32 y &&& 31)).toInt
def shrI (x y : Int) : Int := (i32 x >>> (i32 y &&& 31)).toInt
def ushrI (x y : Int) : Int := ((i32 x).toUInt32 >>> ((i32 y).toUInt32 &&& Int32.toUInt32 31)).toInt32.toInt
def byI (x : Int) : Int := (i32 x).toInt8.toInt32.toInt
def shI (x : Int) : Int := (i32 x).toInt16.toInt32.toInt
theorem cr_e {α : Type} {x : Int} {k : Option α} {r : α} (h : cr x k = some r) : inR x ∧ k = some r := by
  unfold cr at h
  by_cases hc : -2147483648 ≤ x ∧ x < 2147483648
  · rw [if_pos hc] at h; exact ⟨hc, h⟩
  · rw [if_neg hc] at h; cases h
theorem crl_e {α : Type} {x : Int} {k : Option α} {r : α} (h : crl x k = some r) : inL x ∧ k = some r := by
  unfold crl at h
  by_cases hc : -9223372036854775808 ≤ x ∧ x < 9223372036854775808
  · rw [if_pos hc] at h; exact ⟨hc, h⟩
  · rw [if_neg hc] at h; cases h
theorem chk_e {α : Type} {i : Int} {n : Nat} {k : Option α} {r : α} (h : chk i n k = some r) : (0 ≤ i ∧ i < (n : Int)) ∧ k = some r := by
  unfold chk at h
  by_cases hc : 0 ≤ i ∧ i < (n : Int)
  · rw [if_pos hc] at h; exact ⟨hc, h⟩
  · rw [if_neg hc] at h; cases h
theorem chd_e {α : Type} {x y : Int} {k : Option α} {r : α} (h : chd x y k = some r) : (0 ≤ x ∧ x < 2147483648 ∧ 0 < y ∧ y < 2147483648) ∧ k = some r := by
  unfold chd at h
  by_cases hc : 0 ≤ x ∧ x < 2147483648 ∧ 0 < y ∧ y < 2147483648
  · rw [if_pos hc] at h; exact ⟨hc, h⟩
  · rw [if_neg hc] at h; cases h
theorem chb_e {α : Type} {v : Int} {k : Option α} {r : α} (h : chb v k = some r) : (v = 0 ∨ v = 1) ∧ k = some r := by
  unfold chb at h
  by_cases hc : v = 0 ∨ v = 1
  · rw [if_pos hc] at h; exact ⟨hc, h⟩
  · rw [if_neg hc] at h; cases h
theorem bd_e {α β : Type} {x : Option α} {k : α → Option β} {r : β} (h : bd x k = some r) : ∃ v, x = some v ∧ k v = some r := by
  cases x with
  | none => cases h
  | some v => exact ⟨v, rfl, h⟩
theorem bd2_e {α γ β : Type} {x : Option (α × γ)} {k : α → γ → Option β} {r : β} (h : bd2 x k = some r) : ∃ v w, x = some (v, w) ∧ k v w = some r := by
  cases x with
  | none => cases h
  | some v => exact ⟨v.1, v.2, rfl, h⟩
theorem vp_inI {i : Int} {n : Nat} (hn : n < 2147483648) (h : 0 ≤ i ∧ i < (n : Int)) : vp_in (i32 i) n := by
  rw [vp_in_iff, i32_toInt (by omega)]
  exact h
theorem clampI {i : Int} {n : Nat} (hn : n < 2147483648) (h : 0 ≤ i ∧ i < (n : Int)) : (i32 i).toNatClampNeg = i.toNat := by
  show (i32 i).toInt.toNat = i.toNat
  rw [i32_toInt (by omega)]
theorem i32_div {x y : Int} (h : 0 ≤ x ∧ x < 2147483648 ∧ 0 < y ∧ y < 2147483648) : i32 x / i32 y = i32 (x / y) := by
  obtain ⟨a, rfl⟩ := Int.eq_ofNat_of_zero_le h.1
  obtain ⟨b, rfl⟩ := Int.eq_ofNat_of_zero_le (show 0 ≤ y by omega)
  exact pk_div (a := a) (d := b) (by omega) (by omega) (by omega)
theorem i32_rem {x y : Int} (h : 0 ≤ x ∧ x < 2147483648 ∧ 0 < y ∧ y < 2147483648) : i32 x - i32 x / i32 y * i32 y = i32 (x % y) := by
  obtain ⟨a, rfl⟩ := Int.eq_ofNat_of_zero_le h.1
  obtain ⟨b, rfl⟩ := Int.eq_ofNat_of_zero_le (show 0 ≤ y by omega)
  exact pk_rem (a := a) (d := b) (by omega) (by omega) (by omega)
def WS (N : Nat) (q : Nat → Nat) (cw : Nat → (Nat → Int32) → va_E) (σ : Mm) : va_W := (List.range N).map fun k => (q k, cw k (fz (σ k)))
def AQ (N : Nat) (q : Nat → Nat) : Nat → Prop := fun a => ∃ k, k < N ∧ q k = a
theorem WS_at {N : Nat} {q : Nat → Nat} {cw : Nat → (Nat → Int32) → va_E} {σ : Mm} {k : Nat} (h : k < N) : (WS N q cw σ)[k]? = some (q k, cw k (fz (σ k))) := by
  unfold WS
  rw [List.getElem?_map, List.getElem?_range h]
  rfl
theorem WS_no {N : Nat} {q : Nat → Nat} {cw : Nat → (Nat → Int32) → va_E} {σ : Mm} {k : Nat} (h : ¬ k < N) : (WS N q cw σ)[k]? = none := by
  unfold WS
  rw [List.getElem?_map, List.getElem?_eq_none (by rw [List.length_range]; omega)]
  rfl
theorem WS_set {N : Nat} {q : Nat → Nat} {cw : Nat → (Nat → Int32) → va_E} {σ : Mm} {k : Nat} {e : va_E} (f : Nat → Int) (h : k < N) (he : e = cw k (fz f)) : (WS N q cw σ).set k (q k, e) = WS N q cw (upS σ k f) := by
  subst he
  apply List.ext_getElem?
  intro j
  by_cases hj : j = k
  · subst hj
    rw [WS_at h, List.getElem?_set_self (by unfold WS; rw [List.length_map, List.length_range]; exact h)]
    simp [upS]
  · rw [List.getElem?_set_ne (Ne.symm hj)]
    by_cases hN : j < N
    · rw [WS_at hN, WS_at hN]
      simp [upS, hj]
    · rw [WS_no hN, WS_no hN]
theorem WS_D {N : Nat} {q : Nat → Nat} {cw : Nat → (Nat → Int32) → va_E} {σ : Mm} (hq : ∀ i j, i < N → j < N → q i = q j → i = j) : va_D (AQ N q) (WS N q cw σ) := by
  have key : ∀ (k : Nat) (x : Nat × va_E), (WS N q cw σ)[k]? = some x → k < N ∧ x.1 = q k := by
    intro k x hk
    by_cases h : k < N
    · rw [WS_at h] at hk
      cases hk
      exact ⟨h, rfl⟩
    · rw [WS_no h] at hk
      cases hk
  refine ⟨fun i j x y hi hj e => ?_, fun k x hk => ?_⟩
  · obtain ⟨a1, a2⟩ := key i x hi
    obtain ⟨b1, b2⟩ := key j y hj
    exact hq i j a1 b1 (by rw [← a2, ← b2]; exact e)
  · obtain ⟨a1, a2⟩ := key k x hk
    exact ⟨k, a1, a2.symm⟩
/-- what else of a state the methods use: it stays when the tables warm and the cells outside A stay -/
def XM (X : State → Prop) (A : Nat → Prop) : Prop := ∀ s t : State, X s → s.WarmedH t.vm → s.heap.size ≤ t.heap.size → (∀ a : Nat, a < s.heap.size → ¬ A a → t.heap[a]? = s.heap[a]?) → X t
/-- the world of a state -/
def Wo (D : va_G) (tys : List (ClassId × FieldType)) (N : Nat) (q : Nat → Nat) (cw : Nat → (Nat → Int32) → va_E) (X : State → Prop) (σ : Mm) (U : State) : Prop := va_P D vwCl (WS N q cw σ) U.heap ∧ va_K D vwCl tys U ∧ X U
abbrev CPre (D : va_G) (tys : List (ClassId × FieldType)) (N : Nat) (q : Nat → Nat) (cw : Nat → (Nat → Int32) → va_E) (X : State → Prop) (As : List Value) (σ : Mm) : Array Value → State → Prop := va_Pc As (Wo D tys N q cw X σ)
abbrev CQi (D : va_G) (tys : List (ClassId × FieldType)) (N : Nat) (q : Nat → Nat) (cw : Nat → (Nat → Int32) → va_E) (X : State → Prop) (r : Int × Mm) : Array Value → State → Outcome → State → Prop := va_Qi (fun v (u : Mm) => v = i32 r.1 ∧ u = r.2) (fun u t => Wo D tys N q cw X u t) (AQ N q)
abbrev CQv (D : va_G) (tys : List (ClassId × FieldType)) (N : Nat) (q : Nat → Nat) (cw : Nat → (Nat → Int32) → va_E) (X : State → Prop) (r : Mm) : Array Value → State → Outcome → State → Prop := va_Qv (fun (u : Mm) => u = r) (fun u t => Wo D tys N q cw X u t) (AQ N q)
abbrev CQr (D : va_G) (tys : List (ClassId × FieldType)) (N : Nat) (q : Nat → Nat) (cw : Nat → (Nat → Int32) → va_E) (X : State → Prop) (r : Nat × Mm) : Array Value → State → Outcome → State → Prop := va_Qr (fun (u : Mm) => u = r.2) (fun u a t => a = q r.1 ∧ Wo D tys N q cw X u t) (AQ N q)
/-- a method's contract: it answers what the function says, and leaves the world that the function says -/
def MI (l : Launch) (D : va_G) (tys : List (ClassId × FieldType)) (N : Nat) (q : Nat → Nat) (cw : Nat → (Nat → Int32) → va_E) (X : State → Prop) (y : MethodName) (cc : ByteArray) (mL : Nat) (ret : Option FieldType) (rm : Room) (As : List Value) (σ : Mm) (r : Int × Mm) : Prop := Met l y (Cond.code y cc mL ret :: WT) rm (CPre D tys N q cw X As σ) (CQi D tys N q cw X r) 0 0 (AQ N q)
def MV (l : Launch) (D : va_G) (tys : List (ClassId × FieldType)) (N : Nat) (q : Nat → Nat) (cw : Nat → (Nat → Int32) → va_E) (X : State → Prop) (y : MethodName) (cc : ByteArray) (mL : Nat) (ret : Option FieldType) (rm : Room) (As : List Value) (σ : Mm) (r : Mm) : Prop := Met l y (Cond.code y cc mL ret :: WT) rm (CPre D tys N q cw X As σ) (CQv D tys N q cw X r) 0 0 (AQ N q)
def MR (l : Launch) (D : va_G) (tys : List (ClassId × FieldType)) (N : Nat) (q : Nat → Nat) (cw : Nat → (Nat → Int32) → va_E) (X : State → Prop) (y : MethodName) (cc : ByteArray) (mL : Nat) (ret : Option FieldType) (rm : Room) (As : List Value) (σ : Mm) (r : Nat × Mm) : Prop := Met l y (Cond.code y cc mL ret :: WT) rm (CPre D tys N q cw X As σ) (CQr D tys N q cw X r) 0 0 (AQ N q)
/-- what holds all along a method's body -/
def Cx (p : Program) (R : Room) (s : State) (m : MethodId) (args : Array Value) (meth : Method) (c : Code) (D : va_G) (tys : List (ClassId × FieldType)) (N : Nat) (q : Nat → Nat) (cw : Nat → (Nat → Int32) → va_E) (X : State → Prop) (own : String) (cc : ByteArray) (nL : Nat) : Prop :=
  CallFix p m c cc nL s args WT own ∧ va_K D vwCl tys s ∧ X s ∧ XM X (AQ N q) ∧ (∀ i j, i < N → j < N → q i = q j → i = j) ∧ meth.locks = false
def Vv (p : Program) (l : Launch) (e : Env) (R : Room) (s : State) (m : MethodId) (args : Array Value) (below : List Frame) (meth : Method) (c : Code) (D : va_G) (N : Nat) (q : Nat → Nat) (cw : Nat → (Nat → Int32) → va_E) (Q : State → Prop) (σ : Mm) (g : JFrame) : Prop :=
  ∀ (H : Heap) (locs : List Loc), va_P D vwCl (WS N q cw σ) H → va_S (AQ N q) s.heap H locs → W p l e R s m args below meth c H locs 0 0 Q g
theorem blindI {D : va_G} {tys : List (ClassId × FieldType)} {N : Nat} {q : Nat → Nat} {cw : Nat → (Nat → Int32) → va_E} {X : State → Prop} (hX : XM X (AQ N q)) {As : List Value} {σ : Mm} : FrameBlind (CPre D tys N q cw X As σ) := by
  intro a U g mk h
  obtain ⟨h1, h2, h3, h4⟩ := h
  exact ⟨h1, h2, va_K.moved (u := U) (U := U.calling g mk a) (Vm.Alike.refl U.vm) h3, hX U (U.calling g mk a) h4 (State.WarmedH.refl U) (Nat.le_refl _) (fun _ _ _ => rfl)⟩
section BASE
variable {p : Program} {l : Launch} {e : Env} {R : Room} {s : State} {m : MethodId} {args : Array Value} {below : List Frame} {meth : Method} {c : Code} {D : va_G} {tys : List (ClassId × FieldType)} {N : Nat} {q : Nat → Nat} {cw : Nat → (Nat → Int32) → va_E} {X : State → Prop} {own : String} {cc : ByteArray} {nL : Nat} {Q : State → Prop} {σ : Mm} {pc : Nat} {ls : Array Slot} {rest : List Value} {lv : List (Nat × Value)}
theorem Cx.x (C : Cx p R s m args meth c D tys N q cw X own cc nL) : p.tables.exec = Jvm.exec := C.1.1
theorem Cx.b (C : Cx p R s m args meth c D tys N q cw X own cc nL) : c.code = cc := C.1.2.1
theorem Cx.ml (C : Cx p R s m args meth c D tys N q cw X own cc nL) : c.maxLocals = nL := C.1.2.2.1
theorem Cx.ow (C : Cx p R s m args meth c D tys N q cw X own cc nL) : s.vm.findClass own = some m.cls := C.1.2.2.2.1
theorem Cx.w (C : Cx p R s m args meth c D tys N q cw X own cc nL) {w : Cond} (h : w ∈ WT) : w.before args s = true := C.1.2.2.2.2 w h
theorem Cx.K (C : Cx p R s m args meth c D tys N q cw X own cc nL) : va_K D vwCl tys s := C.2.1
theorem Cx.dd (C : Cx p R s m args meth c D tys N q cw X own cc nL) {σ : Mm} : va_D (AQ N q) (WS N q cw σ) := WS_D C.2.2.2.2.1
theorem Cx.wo (C : Cx p R s m args meth c D tys N q cw X own cc nL) {σ : Mm} {H : Heap} {locs : List Loc} (hP : va_P D vwCl (WS N q cw σ) H) (hS : va_S (AQ N q) s.heap H locs) {U : State} (hU : U.heap = H) (hW : s.WarmedH U.vm) : Wo D tys N q cw X σ U :=
  ⟨by rw [hU]; exact hP, va_K.moved hW.alike C.K, C.2.2.2.1 s U C.2.2.1 hW (by rw [hU]; exact hS.1) (fun a h1 h2 => by rw [hU]; exact hS.2.1 a h1 h2)⟩
theorem v_iconst (C : Cx p R s m args meth c D tys N q cw X own cc nL) {n : Int} (hd : decode cc pc = .ok (.iconst n, 1)) (k : Vv p l e R s m args below meth c D N q cw Q σ (F0 m (pc + 1) ls (.int (i32 n) :: rest))) : Vv p l e R s m args below meth c D N q cw Q σ (F0 m pc ls rest) := fun H locs hP hS => lv_iconst C.x C.b hd rfl (k H locs hP hS)
theorem v_bipush (C : Cx p R s m args meth c D tys N q cw X own cc nL) {n : Int} (hd : decode cc pc = .ok (.bipush n, 2)) (hv : (Int8.ofInt n).toInt32 = i32 n) (k : Vv p l e R s m args below meth c D N q cw Q σ (F0 m (pc + 2) ls (.int (i32 n) :: rest))) : Vv p l e R s m args below meth c D N q cw Q σ (F0 m pc ls rest) := fun H locs hP hS => lv_bipush C.x C.b hd hv (k H locs hP hS)
theorem v_sipush (C : Cx p R s m args meth c D tys N q cw X own cc nL) {n : Int} (hd : decode cc pc = .ok (.sipush n, 3)) (hv : (Int16.ofInt n).toInt32 = i32 n) (k : Vv p l e R s m args below meth c D N q cw Q σ (F0 m (pc + 3) ls (.int (i32 n) :: rest))) : Vv p l e R s m args below meth c D N q cw Q σ (F0 m pc ls rest) := fun H locs hP hS => lv_sipush C.x C.b hd hv (k H locs hP hS)
theorem v_lconst (C : Cx p R s m args meth c D tys N q cw X own cc nL) {n : Fin 2} {v : Int} (hd : decode cc pc = .ok (.lconst n, 1)) (hv : Int64.ofNat (n : Nat) = i64 v) (k : Vv p l e R s m args below meth c D N q cw Q σ (F0 m (pc + 1) ls (.long (i64 v) :: rest))) : Vv p l e R s m args below meth c D N q cw Q σ (F0 m pc ls rest) := fun H locs hP hS => lv_lconst C.x C.b hd hv (k H locs hP hS)
theorem v_ldc (C : Cx p R s m args meth c D tys N q cw X own cc nL) {index : Nat} {v0 : Int32} {v : Int} (hw : Jvm.Cond.constant own index v0 ∈ WT) (hv : v0 = i32 v) (hd : decode cc pc = .ok (.ldc index, 2)) (k : Vv p l e R s m args below meth c D N q cw Q σ (F0 m (pc + 2) ls (.int (i32 v) :: rest))) : Vv p l e R s m args below meth c D N q cw Q σ (F0 m pc ls rest) := fun H locs hP hS => lv_ldc C.x C.b C.ow (by rw [← hv]; exact C.w hw) hd (k H locs hP hS)
theorem v_ldcw (C : Cx p R s m args meth c D tys N q cw X own cc nL) {index : Nat} {v0 : Int32} {v : Int} (hw : Jvm.Cond.constant own index v0 ∈ WT) (hv : v0 = i32 v) (hd : decode cc pc = .ok (.ldc_w index, 3)) (k : Vv p l e R s m args below meth c D N q cw Q σ (F0 m (pc + 3) ls (.int (i32 v) :: rest))) : Vv p l e R s m args below meth c D N q cw Q σ (F0 m pc ls rest) := fun H locs hP hS => lv_ldcw C.x C.b C.ow (by rw [← hv]; exact C.w hw) hd (k H locs hP hS)
theorem v_ldc2 (C : Cx p R s m args meth c D tys N q cw X own cc nL) {index : Nat} {v0 : Int64} {v : Int} (hw : Jvm.Cond.constantLong own index v0 ∈ WT) (hv : v0 = i64 v) (hd : decode cc pc = .ok (.ldc2_w index, 3)) (k : Vv p l e R s m args below meth c D N q cw Q σ (F0 m (pc + 3) ls (.long (i64 v) :: rest))) : Vv p l e R s m args below meth c D N q cw Q σ (F0 m pc ls rest) := fun H locs hP hS => lv_ldc2 C.x C.b C.ow (by rw [← hv]; exact C.w hw) hd (k H locs hP hS)
theorem v_iload_n (C : Cx p R s m args meth c D tys N q cw X own cc nL) (hl : lv_has ls nL lv) {kk : Fin 4} {i : Nat} {x : Int} (hd : decode cc pc = .ok (.iload_n kk, 1)) (hi : (kk : Nat) = i) (j : Nat) (hj : lv[j]? = some (i, .int (i32 x))) (k : Vv p l e R s m args below meth c D N q cw Q σ (F0 m (pc + 1) ls (.int (i32 x) :: rest))) : Vv p l e R s m args below meth c D N q cw Q σ (F0 m pc ls rest) := fun H locs hP hS => lv_iload_n C.x C.b hd hi (lv_at hl j hj) (k H locs hP hS)
theorem v_iload (C : Cx p R s m args meth c D tys N q cw X own cc nL) (hl : lv_has ls nL lv) {i : Nat} {x : Int} (hd : decode cc pc = .ok (.iload i, 2)) (j : Nat) (hj : lv[j]? = some (i, .int (i32 x))) (k : Vv p l e R s m args below meth c D N q cw Q σ (F0 m (pc + 2) ls (.int (i32 x) :: rest))) : Vv p l e R s m args below meth c D N q cw Q σ (F0 m pc ls rest) := fun H locs hP hS => lv_iload C.x C.b hd (lv_at hl j hj) (k H locs hP hS)
theorem v_lload_n (C : Cx p R s m args meth c D tys N q cw X own cc nL) (hl : lv_has ls nL lv) {kk : Fin 4} {i : Nat} {x : Int} (hd : decode cc pc = .ok (.lload_n kk, 1)) (hi : (kk : Nat) = i) (j : Nat) (hj : lv[j]? = some (i, .long (i64 x))) (k : Vv p l e R s m args below meth c D N q cw Q σ (F0 m (pc + 1) ls (.long (i64 x) :: rest))) : Vv p l e R s m args below meth c D N q cw Q σ (F0 m pc ls rest) := fun H locs hP hS => lv_lload_n C.x C.b hd hi (lv_at hl j hj) (k H locs hP hS)
theorem v_lload (C : Cx p R s m args meth c D tys N q cw X own cc nL) (hl : lv_has ls nL lv) {i : Nat} {x : Int} (hd : decode cc pc = .ok (.lload i, 2)) (j : Nat) (hj : lv[j]? = some (i, .long (i64 x))) (k : Vv p l e R s m args below meth c D N q cw Q σ (F0 m (pc + 2) ls (.long (i64 x) :: rest))) : Vv p l e R s m args below meth c D N q cw Q σ (F0 m pc ls rest) := fun H locs hP hS => lv_lload C.x C.b hd (lv_at hl j hj) (k H locs hP hS)
theorem v_aload_n (C : Cx p R s m args meth c D tys N q cw X own cc nL) (hl : lv_has ls nL lv) {kk : Fin 4} {i : Nat} {x : Nat} (hd : decode cc pc = .ok (.aload_n kk, 1)) (hi : (kk : Nat) = i) (j : Nat) (hj : lv[j]? = some (i, .ref x)) (k : Vv p l e R s m args below meth c D N q cw Q σ (F0 m (pc + 1) ls (.ref x :: rest))) : Vv p l e R s m args below meth c D N q cw Q σ (F0 m pc ls rest) := fun H locs hP hS => lv_aload_n C.x C.b hd hi (lv_at hl j hj) (k H locs hP hS)
theorem v_aload (C : Cx p R s m args meth c D tys N q cw X own cc nL) (hl : lv_has ls nL lv) {i : Nat} {x : Nat} (hd : decode cc pc = .ok (.aload i, 2)) (j : Nat) (hj : lv[j]? = some (i, .ref x)) (k : Vv p l e R s m args below meth c D N q cw Q σ (F0 m (pc + 2) ls (.ref x :: rest))) : Vv p l e R s m args below meth c D N q cw Q σ (F0 m pc ls rest) := fun H locs hP hS => lv_aload C.x C.b hd (lv_at hl j hj) (k H locs hP hS)
theorem v_istore_n (C : Cx p R s m args meth c D tys N q cw X own cc nL) (hl : lv_has ls nL lv) {β : Type} {f : Int → Option β} {r : β} {kk : Fin 4} {i : Nat} {x : Int} (lv' : Int → List (Nat × Value)) (hd : decode cc pc = .ok (.istore_n kk, 1)) (hi : (kk : Nat) = i) (hn : i < nL) (hlv : ∀ x : Int, (i, Value.int (i32 x)) :: lv.filter (fun q => !(q.1 == i) && !(q.1 + 1 == i && q.2.category == 2)) = lv' x) (h : bindv x f = some r) (k : ∀ (y : Int) (ls : Array Slot), lv_has ls nL (lv' y) → f y = some r → Vv p l e R s m args below meth c D N q cw Q σ (F0 m (pc + 1) ls rest)) : Vv p l e R s m args below meth c D N q cw Q σ (F0 m pc ls (.int (i32 x) :: rest)) := fun H locs hP hS => lv_istore_n C.x C.b hd hi hl hn (hlv x) (fun ls hl => k x ls hl h H locs hP hS)
theorem v_istore (C : Cx p R s m args meth c D tys N q cw X own cc nL) (hl : lv_has ls nL lv) {β : Type} {f : Int → Option β} {r : β} {i : Nat} {x : Int} (lv' : Int → List (Nat × Value)) (hd : decode cc pc = .ok (.istore i, 2)) (hn : i < nL) (hlv : ∀ x : Int, (i, Value.int (i32 x)) :: lv.filter (fun q => !(q.1 == i) && !(q.1 + 1 == i && q.2.category == 2)) = lv' x) (h : bindv x f = some r) (k : ∀ (y : Int) (ls : Array Slot), lv_has ls nL (lv' y) → f y = some r → Vv p l e R s m args below meth c D N q cw Q σ (F0 m (pc + 2) ls rest)) : Vv p l e R s m args below meth c D N q cw Q σ (F0 m pc ls (.int (i32 x) :: rest)) := fun H locs hP hS => lv_istore C.x C.b hd hl hn (hlv x) (fun ls hl => k x ls hl h H locs hP hS)
theorem v_lstore (C : Cx p R s m args meth c D tys N q cw X own cc nL) (hl : lv_has ls nL lv) {β : Type} {f : Int → Option β} {r : β} {i : Nat} {x : Int} (lv' : Int → List (Nat × Value)) (hd : decode cc pc = .ok (.lstore i, 2)) (hn : i + 1 < nL) (hlv : ∀ x : Int, (i, Value.long (i64 x)) :: lv.filter (fun q => !(q.1 == i) && (!(q.1 == i + 1) && !(q.1 + 1 == i && q.2.category == 2))) = lv' x) (h : bindv x f = some r) (k : ∀ (y : Int) (ls : Array Slot), lv_has ls nL (lv' y) → f y = some r → Vv p l e R s m args below meth c D N q cw Q σ (F0 m (pc + 2) ls rest)) : Vv p l e R s m args below meth c D N q cw Q σ (F0 m pc ls (.long (i64 x) :: rest)) := fun H locs hP hS => lv_lstore C.x C.b hd hl hn (hlv x) (fun ls hl => k x ls hl h H locs hP hS)
theorem v_astore_n (C : Cx p R s m args meth c D tys N q cw X own cc nL) (hl : lv_has ls nL lv) {kk : Fin 4} {i : Nat} {x : Nat} (lv' : List (Nat × Value)) (hd : decode cc pc = .ok (.astore_n kk, 1)) (hi : (kk : Nat) = i) (hn : i < nL) (hlv : (i, Value.ref x) :: lv.filter (fun q => !(q.1 == i) && !(q.1 + 1 == i && q.2.category == 2)) = lv') (k : ∀ (ls : Array Slot), lv_has ls nL lv' → Vv p l e R s m args below meth c D N q cw Q σ (F0 m (pc + 1) ls rest)) : Vv p l e R s m args below meth c D N q cw Q σ (F0 m pc ls (.ref x :: rest)) := fun H locs hP hS => lv_astore_n C.x C.b hd hi hl hn hlv (fun ls hl => k ls hl H locs hP hS)
theorem v_astore (C : Cx p R s m args meth c D tys N q cw X own cc nL) (hl : lv_has ls nL lv) {i : Nat} {x : Nat} (lv' : List (Nat × Value)) (hd : decode cc pc = .ok (.astore i, 2)) (hn : i < nL) (hlv : (i, Value.ref x) :: lv.filter (fun q => !(q.1 == i) && !(q.1 + 1 == i && q.2.category == 2)) = lv') (k : ∀ (ls : Array Slot), lv_has ls nL lv' → Vv p l e R s m args below meth c D N q cw Q σ (F0 m (pc + 2) ls rest)) : Vv p l e R s m args below meth c D N q cw Q σ (F0 m pc ls (.ref x :: rest)) := fun H locs hP hS => lv_astore C.x C.b hd hl hn hlv (fun ls hl => k ls hl H locs hP hS)
theorem v_iinc (C : Cx p R s m args meth c D tys N q cw X own cc nL) (hl : lv_has ls nL lv) {β : Type} {f : Int → Option β} {r : β} {i : Nat} {n : Int} {x : Int} (lv' : Int → List (Nat × Value)) (hd : decode cc pc = .ok (.iinc i n, 3)) (j : Nat) (hj : lv[j]? = some (i, .int (i32 x))) (hn : i < nL) (hlv : ∀ x : Int, (i, Value.int (i32 x)) :: lv.filter (fun q => !(q.1 == i) && !(q.1 + 1 == i && q.2.category == 2)) = lv' x) (h : bindv (x + n) f = some r) (k : ∀ (y : Int) (ls : Array Slot), lv_has ls nL (lv' y) → f y = some r → Vv p l e R s m args below meth c D N q cw Q σ (F0 m (pc + 3) ls rest)) : Vv p l e R s m args below meth c D N q cw Q σ (F0 m pc ls rest) := fun H locs hP hS => lv_iinc C.x C.b hd hl hj (v := i32 (x + n)) (i32_add x n) hn (hlv (x + n)) (fun ls hl => k (x + n) ls hl h H locs hP hS)
theorem v_dup (C : Cx p R s m args meth c D tys N q cw X own cc nL) {va : Value} (hd : decode cc pc = .ok (.dup, 1)) (hva : va.category = 1) (k : Vv p l e R s m args below meth c D N q cw Q σ (F0 m (pc + 1) ls (va :: va :: rest))) : Vv p l e R s m args below meth c D N q cw Q σ (F0 m pc ls (va :: rest)) := fun H locs hP hS => lv_dup C.x C.b hd hva (k H locs hP hS)
theorem v_dup2 (C : Cx p R s m args meth c D tys N q cw X own cc nL) {va vb : Value} (hd : decode cc pc = .ok (.dup2, 1)) (hva : va.category = 1) (hvb : vb.category = 1) (k : Vv p l e R s m args below meth c D N q cw Q σ (F0 m (pc + 1) ls (va :: vb :: va :: vb :: rest))) : Vv p l e R s m args below meth c D N q cw Q σ (F0 m pc ls (va :: vb :: rest)) := fun H locs hP hS => lv_dup2_11 C.x C.b hd hva hvb (k H locs hP hS)
theorem v_pop (C : Cx p R s m args meth c D tys N q cw X own cc nL) {va : Value} (hd : decode cc pc = .ok (.pop, 1)) (hva : va.category = 1) (k : Vv p l e R s m args below meth c D N q cw Q σ (F0 m (pc + 1) ls rest)) : Vv p l e R s m args below meth c D N q cw Q σ (F0 m pc ls (va :: rest)) := fun H locs hP hS => lv_pop C.x C.b hd hva (k H locs hP hS)
theorem v_iadd (C : Cx p R s m args meth c D tys N q cw X own cc nL) {x y : Int} (hd : decode cc pc = .ok (.iadd, 1)) (k : Vv p l e R s m args below meth c D N q cw Q σ (F0 m (pc + 1) ls (.int (i32 (x + y)) :: rest))) : Vv p l e R s m args below meth c D N q cw Q σ (F0 m pc ls (.int (i32 y) :: .int (i32 x) :: rest)) := fun H locs hP hS => lv_iadd C.x C.b hd (by rw [i32_add x y]; exact k H locs hP hS)
theorem v_isub (C : Cx p R s m args meth c D tys N q cw X own cc nL) {x y : Int} (hd : decode cc pc = .ok (.isub, 1)) (k : Vv p l e R s m args below meth c D N q cw Q σ (F0 m (pc + 1) ls (.int (i32 (x - y)) :: rest))) : Vv p l e R s m args below meth c D N q cw Q σ (F0 m pc ls (.int (i32 y) :: .int (i32 x) :: rest)) := fun H locs hP hS => lv_isub C.x C.b hd (by rw [i32_sub x y]; exact k H locs hP hS)
theorem v_imul (C : Cx p R s m args meth c D tys N q cw X own cc nL) {x y : Int} (hd : decode cc pc = .ok (.imul, 1)) (k : Vv p l e R s m args below meth c D N q cw Q σ (F0 m (pc + 1) ls (.int (i32 (x * y)) :: rest))) : Vv p l e R s m args below meth c D N q cw Q σ (F0 m pc ls (.int (i32 y) :: .int (i32 x) :: rest)) := fun H locs hP hS => lv_imul C.x C.b hd (by rw [i32_mul x y]; exact k H locs hP hS)
theorem v_iand (C : Cx p R s m args meth c D tys N q cw X own cc nL) {x y : Int} (hd : decode cc pc = .ok (.iand, 1)) (k : Vv p l e R s m args below meth c D N q cw Q σ (F0 m (pc + 1) ls (.int (i32 (andI x y)) :: rest))) : Vv p l e R s m args below meth c D N q cw Q σ (F0 m pc ls (.int (i32 y) :: .int (i32 x) :: rest)) := fun H locs hP hS => lv_iand C.x C.b hd (by have h := k H locs hP hS; unfold andI at h; rw [i32_of] at h; exact h)
theorem v_ior (C : Cx p R s m args meth c D tys N q cw X own cc nL) {x y : Int} (hd : decode cc pc = .ok (.ior, 1)) (k : Vv p l e R s m args below meth c D N q cw Q σ (F0 m (pc + 1) ls (.int (i32 (orI x y)) :: rest))) : Vv p l e R s m args below meth c D N q cw Q σ (F0 m pc ls (.int (i32 y) :: .int (i32 x) :: rest)) := fun H locs hP hS => lv_ior C.x C.b hd (by have h := k H locs hP hS; unfold orI at h; rw [i32_of] at h; exact h)
theorem v_ishl (C : Cx p R s m args meth c D tys N q cw X own cc nL) {x y : Int} (hd : decode cc pc = .ok (.ishl, 1)) (k : Vv p l e R s m args below meth c D N q cw Q σ (F0 m (pc + 1) ls (.int (i32 (shlI x y)) :: rest))) : Vv p l e R s m args below meth c D N q cw Q σ (F0 m pc ls (.int (i32 y) :: .int (i32 x) :: rest)) := fun H locs hP hS => lv_ishl C.x C.b hd (by have h := k H locs hP hS; unfold shlI at h; rw [i32_of] at h; exact h)
theorem v_ishr (C : Cx p R s m args meth c D tys N q cw X own cc nL) {x y : Int} (hd : decode cc pc = .ok (.ishr, 1)) (k : Vv p l e R s m args below meth c D N q cw Q σ (F0 m (pc + 1) ls (.int (i32 (shrI x y)) :: rest))) : Vv p l e R s m args below meth c D N q cw Q σ (F0 m pc ls (.int (i32 y) :: .int (i32 x) :: rest)) := fun H locs hP hS => lv_ishr C.x C.b hd (by have h := k H locs hP hS; unfold shrI at h; rw [i32_of] at h; exact h)
theorem v_iushr (C : Cx p R s m args meth c D tys N q cw X own cc nL) {x y : Int} (hd : decode cc pc = .ok (.iushr, 1)) (k : Vv p l e R s m args below meth c D N q cw Q σ (F0 m (pc + 1) ls (.int (i32 (ushrI x y)) :: rest))) : Vv p l e R s m args below meth c D N q cw Q σ (F0 m pc ls (.int (i32 y) :: .int (i32 x) :: rest)) := fun H locs hP hS => lv_iushr C.x C.b hd rfl (by have h := k H locs hP hS; unfold ushrI at h; rw [i32_of] at h; exact h)
theorem v_ineg (C : Cx p R s m args meth c D tys N q cw X own cc nL) {x : Int} (hd : decode cc pc = .ok (.ineg, 1)) (k : Vv p l e R s m args below meth c D N q cw Q σ (F0 m (pc + 1) ls (.int (i32 (-x)) :: rest))) : Vv p l e R s m args below meth c D N q cw Q σ (F0 m pc ls (.int (i32 x) :: rest)) := fun H locs hP hS => lv_ineg C.x C.b hd (by rw [i32_neg x]; exact k H locs hP hS)
theorem v_idiv (C : Cx p R s m args meth c D tys N q cw X own cc nL) {x y : Int} {β : Type} {kx : Option β} {r : β} (h : chd x y kx = some r) (hd : decode cc pc = .ok (.idiv, 1)) (k : kx = some r → Vv p l e R s m args below meth c D N q cw Q σ (F0 m (pc + 1) ls (.int (i32 (x / y)) :: rest))) : Vv p l e R s m args below meth c D N q cw Q σ (F0 m pc ls (.int (i32 y) :: .int (i32 x) :: rest)) := fun H locs hP hS => lv_idiv C.x C.b hd (fun z => by have h1 := (chd_e h).1; have h2 := (i32_eq (x := y) (y := 0) (by omega) (by omega)).mp z; omega) (by rw [i32_div (chd_e h).1]; exact k (chd_e h).2 H locs hP hS)
theorem v_irem (C : Cx p R s m args meth c D tys N q cw X own cc nL) {x y : Int} {β : Type} {kx : Option β} {r : β} (h : chd x y kx = some r) (hd : decode cc pc = .ok (.irem, 1)) (k : kx = some r → Vv p l e R s m args below meth c D N q cw Q σ (F0 m (pc + 1) ls (.int (i32 (x % y)) :: rest))) : Vv p l e R s m args below meth c D N q cw Q σ (F0 m pc ls (.int (i32 y) :: .int (i32 x) :: rest)) := fun H locs hP hS => lv_irem C.x C.b hd (fun z => by have h1 := (chd_e h).1; have h2 := (i32_eq (x := y) (y := 0) (by omega) (by omega)).mp z; omega) (by rw [i32_rem (chd_e h).1]; exact k (chd_e h).2 H locs hP hS)
theorem v_ladd (C : Cx p R s m args meth c D tys N q cw X own cc nL) {x y : Int} (hd : decode cc pc = .ok (.ladd, 1)) (k : Vv p l e R s m args below meth c D N q cw Q σ (F0 m (pc + 1) ls (.long (i64 (x + y)) :: rest))) : Vv p l e R s m args below meth c D N q cw Q σ (F0 m pc ls (.long (i64 y) :: .long (i64 x) :: rest)) := fun H locs hP hS => lv_ladd C.x C.b hd (by rw [i64_add x y]; exact k H locs hP hS)
theorem v_lmul (C : Cx p R s m args meth c D tys N q cw X own cc nL) {x y : Int} (hd : decode cc pc = .ok (.lmul, 1)) (k : Vv p l e R s m args below meth c D N q cw Q σ (F0 m (pc + 1) ls (.long (i64 (x * y)) :: rest))) : Vv p l e R s m args below meth c D N q cw Q σ (F0 m pc ls (.long (i64 y) :: .long (i64 x) :: rest)) := fun H locs hP hS => lv_lmul C.x C.b hd (by rw [i64_mul x y]; exact k H locs hP hS)
theorem v_i2l (C : Cx p R s m args meth c D tys N q cw X own cc nL) {x : Int} {β : Type} {kx : Option β} {r : β} (h : cr x kx = some r) (hd : decode cc pc = .ok (.i2l, 1)) (k : kx = some r → Vv p l e R s m args below meth c D N q cw Q σ (F0 m (pc + 1) ls (.long (i64 x) :: rest))) : Vv p l e R s m args below meth c D N q cw Q σ (F0 m pc ls (.int (i32 x) :: rest)) := fun H locs hP hS => lv_i2l C.x C.b hd rfl (by rw [i32_long (cr_e h).1]; exact k (cr_e h).2 H locs hP hS)
theorem v_l2i (C : Cx p R s m args meth c D tys N q cw X own cc nL) {x : Int} (hd : decode cc pc = .ok (.l2i, 1)) (k : Vv p l e R s m args below meth c D N q cw Q σ (F0 m (pc + 1) ls (.int (i32 x) :: rest))) : Vv p l e R s m args below meth c D N q cw Q σ (F0 m pc ls (.long (i64 x) :: rest)) := fun H locs hP hS => lv_l2i C.x C.b hd rfl (by rw [i64_int x]; exact k H locs hP hS)
theorem v_i2b (C : Cx p R s m args meth c D tys N q cw X own cc nL) {x : Int} (hd : decode cc pc = .ok (.i2b, 1)) (k : Vv p l e R s m args below meth c D N q cw Q σ (F0 m (pc + 1) ls (.int (i32 (byI x)) :: rest))) : Vv p l e R s m args below meth c D N q cw Q σ (F0 m pc ls (.int (i32 x) :: rest)) := fun H locs hP hS => lv_i2b C.x C.b hd rfl (by have h := k H locs hP hS; unfold byI at h; rw [i32_of] at h; exact h)
theorem v_i2s (C : Cx p R s m args meth c D tys N q cw X own cc nL) {x : Int} (hd : decode cc pc = .ok (.i2s, 1)) (k : Vv p l e R s m args below meth c D N q cw Q σ (F0 m (pc + 1) ls (.int (i32 (shI x)) :: rest))) : Vv p l e R s m args below meth c D N q cw Q σ (F0 m pc ls (.int (i32 x) :: rest)) := fun H locs hP hS => lv_i2s C.x C.b hd rfl (by have h := k H locs hP hS; unfold shI at h; rw [i32_of] at h; exact h)
theorem v_goto (C : Cx p R s m args meth c D tys N q cw X own cc nL) {off : Int} {tgt : Nat} (hd : decode cc pc = .ok (.goto off, 3)) (ht : (pc : Int) + off = (tgt : Int)) (k : Vv p l e R s m args below meth c D N q cw Q σ (F0 m tgt ls rest)) : Vv p l e R s m args below meth c D N q cw Q σ (F0 m pc ls rest) := fun H locs hP hS => lv_goto C.x C.b hd ht (k H locs hP hS)
theorem v_if_eq (C : Cx p R s m args meth c D tys N q cw X own cc nL) {x : Int} {off : Int} {tgt : Nat} {β : Type} {kt kf : Option β} {r : β} (hx : inR x) (h : (if x = 0 then kt else kf) = some r) (hd : decode cc pc = .ok (.ifCond .eq off, 3)) (ht : (pc : Int) + off = (tgt : Int)) (k1 : kt = some r → Vv p l e R s m args below meth c D N q cw Q σ (F0 m tgt ls rest)) (k2 : kf = some r → Vv p l e R s m args below meth c D N q cw Q σ (F0 m (pc + 3) ls rest)) : Vv p l e R s m args below meth c D N q cw Q σ (F0 m pc ls (.int (i32 x) :: rest)) := fun H locs hP hS => lv_if_eq C.x C.b hd ht (fun z => k1 ((if_pos ((i32_eq (x := x) (y := 0) hx (show inR 0 by omega)).mp z)).symm.trans h) H locs hP hS) (fun z => k2 ((if_neg (fun w => z ((i32_eq (x := x) (y := 0) hx (show inR 0 by omega)).mpr w))).symm.trans h) H locs hP hS)
theorem v_icmp_eq (C : Cx p R s m args meth c D tys N q cw X own cc nL) {x y : Int} {off : Int} {tgt : Nat} {β : Type} {kt kf : Option β} {r : β} (hx : inR x) (hy : inR y) (h : (if x = y then kt else kf) = some r) (hd : decode cc pc = .ok (.if_icmp .eq off, 3)) (ht : (pc : Int) + off = (tgt : Int)) (k1 : kt = some r → Vv p l e R s m args below meth c D N q cw Q σ (F0 m tgt ls rest)) (k2 : kf = some r → Vv p l e R s m args below meth c D N q cw Q σ (F0 m (pc + 3) ls rest)) : Vv p l e R s m args below meth c D N q cw Q σ (F0 m pc ls (.int (i32 y) :: .int (i32 x) :: rest)) := fun H locs hP hS => lv_icmp_eq C.x C.b hd ht (fun z => k1 ((if_pos ((i32_eq (x := x) (y := y) hx hy).mp z)).symm.trans h) H locs hP hS) (fun z => k2 ((if_neg (fun w => z ((i32_eq (x := x) (y := y) hx hy).mpr w))).symm.trans h) H locs hP hS)
theorem v_if_ne (C : Cx p R s m args meth c D tys N q cw X own cc nL) {x : Int} {off : Int} {tgt : Nat} {β : Type} {kt kf : Option β} {r : β} (hx : inR x) (h : (if x = 0 then kf else kt) = some r) (hd : decode cc pc = .ok (.ifCond .ne off, 3)) (ht : (pc : Int) + off = (tgt : Int)) (k1 : kt = some r → Vv p l e R s m args below meth c D N q cw Q σ (F0 m tgt ls rest)) (k2 : kf = some r → Vv p l e R s m args below meth c D N q cw Q σ (F0 m (pc + 3) ls rest)) : Vv p l e R s m args below meth c D N q cw Q σ (F0 m pc ls (.int (i32 x) :: rest)) := fun H locs hP hS => lv_if_ne C.x C.b hd ht (fun z => k1 ((if_neg (fun w => z ((i32_eq (x := x) (y := 0) hx (show inR 0 by omega)).mpr w))).symm.trans h) H locs hP hS) (fun z => k2 ((if_pos ((i32_eq (x := x) (y := 0) hx (show inR 0 by omega)).mp (id z))).symm.trans h) H locs hP hS)
theorem v_icmp_ne (C : Cx p R s m args meth c D tys N q cw X own cc nL) {x y : Int} {off : Int} {tgt : Nat} {β : Type} {kt kf : Option β} {r : β} (hx : inR x) (hy : inR y) (h : (if x = y then kf else kt) = some r) (hd : decode cc pc = .ok (.if_icmp .ne off, 3)) (ht : (pc : Int) + off = (tgt : Int)) (k1 : kt = some r → Vv p l e R s m args below meth c D N q cw Q σ (F0 m tgt ls rest)) (k2 : kf = some r → Vv p l e R s m args below meth c D N q cw Q σ (F0 m (pc + 3) ls rest)) : Vv p l e R s m args below meth c D N q cw Q σ (F0 m pc ls (.int (i32 y) :: .int (i32 x) :: rest)) := fun H locs hP hS => lv_icmp_ne C.x C.b hd ht (fun z => k1 ((if_neg (fun w => z ((i32_eq (x := x) (y := y) hx hy).mpr w))).symm.trans h) H locs hP hS) (fun z => k2 ((if_pos ((i32_eq (x := x) (y := y) hx hy).mp (id z))).symm.trans h) H locs hP hS)
theorem v_if_lt (C : Cx p R s m args meth c D tys N q cw X own cc nL) {x : Int} {off : Int} {tgt : Nat} {β : Type} {kt kf : Option β} {r : β} (hx : inR x) (h : (if x < 0 then kt else kf) = some r) (hd : decode cc pc = .ok (.ifCond .lt off, 3)) (ht : (pc : Int) + off = (tgt : Int)) (k1 : kt = some r → Vv p l e R s m args below meth c D N q cw Q σ (F0 m tgt ls rest)) (k2 : kf = some r → Vv p l e R s m args below meth c D N q cw Q σ (F0 m (pc + 3) ls rest)) : Vv p l e R s m args below meth c D N q cw Q σ (F0 m pc ls (.int (i32 x) :: rest)) := fun H locs hP hS => lv_if_lt C.x C.b hd ht (fun z => k1 ((if_pos ((i32_lt (x := x) (y := 0) hx (show inR 0 by omega)).mp z)).symm.trans h) H locs hP hS) (fun z => k2 ((if_neg (fun w => z ((i32_lt (x := x) (y := 0) hx (show inR 0 by omega)).mpr w))).symm.trans h) H locs hP hS)
theorem v_icmp_lt (C : Cx p R s m args meth c D tys N q cw X own cc nL) {x y : Int} {off : Int} {tgt : Nat} {β : Type} {kt kf : Option β} {r : β} (hx : inR x) (hy : inR y) (h : (if x < y then kt else kf) = some r) (hd : decode cc pc = .ok (.if_icmp .lt off, 3)) (ht : (pc : Int) + off = (tgt : Int)) (k1 : kt = some r → Vv p l e R s m args below meth c D N q cw Q σ (F0 m tgt ls rest)) (k2 : kf = some r → Vv p l e R s m args below meth c D N q cw Q σ (F0 m (pc + 3) ls rest)) : Vv p l e R s m args below meth c D N q cw Q σ (F0 m pc ls (.int (i32 y) :: .int (i32 x) :: rest)) := fun H locs hP hS => lv_icmp_lt C.x C.b hd ht (fun z => k1 ((if_pos ((i32_lt (x := x) (y := y) hx hy).mp z)).symm.trans h) H locs hP hS) (fun z => k2 ((if_neg (fun w => z ((i32_lt (x := x) (y := y) hx hy).mpr w))).symm.trans h) H locs hP hS)
theorem v_if_ge (C : Cx p R s m args meth c D tys N q cw X own cc nL) {x : Int} {off : Int} {tgt : Nat} {β : Type} {kt kf : Option β} {r : β} (hx : inR x) (h : (if x < 0 then kf else kt) = some r) (hd : decode cc pc = .ok (.ifCond .ge off, 3)) (ht : (pc : Int) + off = (tgt : Int)) (k1 : kt = some r → Vv p l e R s m args below meth c D N q cw Q σ (F0 m tgt ls rest)) (k2 : kf = some r → Vv p l e R s m args below meth c D N q cw Q σ (F0 m (pc + 3) ls rest)) : Vv p l e R s m args below meth c D N q cw Q σ (F0 m pc ls (.int (i32 x) :: rest)) := fun H locs hP hS => lv_if_ge C.x C.b hd ht (fun z => k1 ((if_neg (by have w := (i32_le (x := 0) (y := x) (show inR 0 by omega) hx).mp z; omega)).symm.trans h) H locs hP hS) (fun z => k2 ((if_pos (Int.not_le.mp (fun w => z ((i32_le (x := 0) (y := x) (show inR 0 by omega) hx).mpr w)))).symm.trans h) H locs hP hS)
theorem v_icmp_ge (C : Cx p R s m args meth c D tys N q cw X own cc nL) {x y : Int} {off : Int} {tgt : Nat} {β : Type} {kt kf : Option β} {r : β} (hx : inR x) (hy : inR y) (h : (if x < y then kf else kt) = some r) (hd : decode cc pc = .ok (.if_icmp .ge off, 3)) (ht : (pc : Int) + off = (tgt : Int)) (k1 : kt = some r → Vv p l e R s m args below meth c D N q cw Q σ (F0 m tgt ls rest)) (k2 : kf = some r → Vv p l e R s m args below meth c D N q cw Q σ (F0 m (pc + 3) ls rest)) : Vv p l e R s m args below meth c D N q cw Q σ (F0 m pc ls (.int (i32 y) :: .int (i32 x) :: rest)) := fun H locs hP hS => lv_icmp_ge C.x C.b hd ht (fun z => k1 ((if_neg (by have w := (i32_le (x := y) (y := x) hy hx).mp z; omega)).symm.trans h) H locs hP hS) (fun z => k2 ((if_pos (Int.not_le.mp (fun w => z ((i32_le (x := y) (y := x) hy hx).mpr w)))).symm.trans h) H locs hP hS)
theorem v_if_gt (C : Cx p R s m args meth c D tys N q cw X own cc nL) {x : Int} {off : Int} {tgt : Nat} {β : Type} {kt kf : Option β} {r : β} (hx : inR x) (h : (if 0 < x then kt else kf) = some r) (hd : decode cc pc = .ok (.ifCond .gt off, 3)) (ht : (pc : Int) + off = (tgt : Int)) (k1 : kt = some r → Vv p l e R s m args below meth c D N q cw Q σ (F0 m tgt ls rest)) (k2 : kf = some r → Vv p l e R s m args below meth c D N q cw Q σ (F0 m (pc + 3) ls rest)) : Vv p l e R s m args below meth c D N q cw Q σ (F0 m pc ls (.int (i32 x) :: rest)) := fun H locs hP hS => lv_if_gt C.x C.b hd ht (fun z => k1 ((if_pos ((i32_lt (x := 0) (y := x) (show inR 0 by omega) hx).mp z)).symm.trans h) H locs hP hS) (fun z => k2 ((if_neg (fun w => z ((i32_lt (x := 0) (y := x) (show inR 0 by omega) hx).mpr w))).symm.trans h) H locs hP hS)
theorem v_icmp_gt (C : Cx p R s m args meth c D tys N q cw X own cc nL) {x y : Int} {off : Int} {tgt : Nat} {β : Type} {kt kf : Option β} {r : β} (hx : inR x) (hy : inR y) (h : (if y < x then kt else kf) = some r) (hd : decode cc pc = .ok (.if_icmp .gt off, 3)) (ht : (pc : Int) + off = (tgt : Int)) (k1 : kt = some r → Vv p l e R s m args below meth c D N q cw Q σ (F0 m tgt ls rest)) (k2 : kf = some r → Vv p l e R s m args below meth c D N q cw Q σ (F0 m (pc + 3) ls rest)) : Vv p l e R s m args below meth c D N q cw Q σ (F0 m pc ls (.int (i32 y) :: .int (i32 x) :: rest)) := fun H locs hP hS => lv_icmp_gt C.x C.b hd ht (fun z => k1 ((if_pos ((i32_lt (x := y) (y := x) hy hx).mp z)).symm.trans h) H locs hP hS) (fun z => k2 ((if_neg (fun w => z ((i32_lt (x := y) (y := x) hy hx).mpr w))).symm.trans h) H locs hP hS)
theorem v_if_le (C : Cx p R s m args meth c D tys N q cw X own cc nL) {x : Int} {off : Int} {tgt : Nat} {β : Type} {kt kf : Option β} {r : β} (hx : inR x) (h : (if 0 < x then kf else kt) = some r) (hd : decode cc pc = .ok (.ifCond .le off, 3)) (ht : (pc : Int) + off = (tgt : Int)) (k1 : kt = some r → Vv p l e R s m args below meth c D N q cw Q σ (F0 m tgt ls rest)) (k2 : kf = some r → Vv p l e R s m args below meth c D N q cw Q σ (F0 m (pc + 3) ls rest)) : Vv p l e R s m args below meth c D N q cw Q σ (F0 m pc ls (.int (i32 x) :: rest)) := fun H locs hP hS => lv_if_le C.x C.b hd ht (fun z => k1 ((if_neg (by have w := (i32_le (x := x) (y := 0) hx (show inR 0 by omega)).mp z; omega)).symm.trans h) H locs hP hS) (fun z => k2 ((if_pos (Int.not_le.mp (fun w => z ((i32_le (x := x) (y := 0) hx (show inR 0 by omega)).mpr w)))).symm.trans h) H locs hP hS)
theorem v_icmp_le (C : Cx p R s m args meth c D tys N q cw X own cc nL) {x y : Int} {off : Int} {tgt : Nat} {β : Type} {kt kf : Option β} {r : β} (hx : inR x) (hy : inR y) (h : (if y < x then kf else kt) = some r) (hd : decode cc pc = .ok (.if_icmp .le off, 3)) (ht : (pc : Int) + off = (tgt : Int)) (k1 : kt = some r → Vv p l e R s m args below meth c D N q cw Q σ (F0 m tgt ls rest)) (k2 : kf = some r → Vv p l e R s m args below meth c D N q cw Q σ (F0 m (pc + 3) ls rest)) : Vv p l e R s m args below meth c D N q cw Q σ (F0 m pc ls (.int (i32 y) :: .int (i32 x) :: rest)) := fun H locs hP hS => lv_icmp_le C.x C.b hd ht (fun z => k1 ((if_neg (by have w := (i32_le (x := x) (y := y) hx hy).mp z; omega)).symm.trans h) H locs hP hS) (fun z => k2 ((if_pos (Int.not_le.mp (fun w => z ((i32_le (x := x) (y := y) hx hy).mpr w)))).symm.trans h) H locs hP hS)
theorem v_lcmp_lt (C : Cx p R s m args meth c D tys N q cw X own cc nL) {x y : Int} {off : Int} {tgt : Nat} {β : Type} {kt kf : Option β} {r : β} (hx : inL x) (hy : inL y) (h : (if x < y then kt else kf) = some r) (hd1 : decode cc pc = .ok (.lcmp, 1)) (hd : decode cc (pc + 1) = .ok (.ifCond .lt off, 3)) (ht : ((pc + 1 : Nat) : Int) + off = (tgt : Int)) (k1 : kt = some r → Vv p l e R s m args below meth c D N q cw Q σ (F0 m tgt ls rest)) (k2 : kf = some r → Vv p l e R s m args below meth c D N q cw Q σ (F0 m (pc + 1 + 3) ls rest)) : Vv p l e R s m args below meth c D N q cw Q σ (F0 m pc ls (.long (i64 y) :: .long (i64 x) :: rest)) := fun H locs hP hS => W.lcmp C.x C.b hd1 (lv_if_lt C.x C.b hd ht (fun z => k1 ((if_pos (((lgc_lt (i64 x) (i64 y)).trans (i64_lt (x := x) (y := y) hx hy)).mp z)).symm.trans h) H locs hP hS) (fun z => k2 ((if_neg (fun w => z (((lgc_lt (i64 x) (i64 y)).trans (i64_lt (x := x) (y := y) hx hy)).mpr w))).symm.trans h) H locs hP hS))
theorem v_lcmp_ge (C : Cx p R s m args meth c D tys N q cw X own cc nL) {x y : Int} {off : Int} {tgt : Nat} {β : Type} {kt kf : Option β} {r : β} (hx : inL x) (hy : inL y) (h : (if x < y then kf else kt) = some r) (hd1 : decode cc pc = .ok (.lcmp, 1)) (hd : decode cc (pc + 1) = .ok (.ifCond .ge off, 3)) (ht : ((pc + 1 : Nat) : Int) + off = (tgt : Int)) (k1 : kt = some r → Vv p l e R s m args below meth c D N q cw Q σ (F0 m tgt ls rest)) (k2 : kf = some r → Vv p l e R s m args below meth c D N q cw Q σ (F0 m (pc + 1 + 3) ls rest)) : Vv p l e R s m args below meth c D N q cw Q σ (F0 m pc ls (.long (i64 y) :: .long (i64 x) :: rest)) := fun H locs hP hS => W.lcmp C.x C.b hd1 (lv_if_ge C.x C.b hd ht (fun z => k1 ((if_neg (by have w := ((lg_cmp_ge (i64 x) (i64 y)).trans (i64_le (x := y) (y := x) hy hx)).mp z; omega)).symm.trans h) H locs hP hS) (fun z => k2 ((if_pos (Int.not_le.mp (fun w => z (((lg_cmp_ge (i64 x) (i64 y)).trans (i64_le (x := y) (y := x) hy hx)).mpr w)))).symm.trans h) H locs hP hS))
theorem v_lcmp_gt (C : Cx p R s m args meth c D tys N q cw X own cc nL) {x y : Int} {off : Int} {tgt : Nat} {β : Type} {kt kf : Option β} {r : β} (hx : inL x) (hy : inL y) (h : (if y < x then kt else kf) = some r) (hd1 : decode cc pc = .ok (.lcmp, 1)) (hd : decode cc (pc + 1) = .ok (.ifCond .gt off, 3)) (ht : ((pc + 1 : Nat) : Int) + off = (tgt : Int)) (k1 : kt = some r → Vv p l e R s m args below meth c D N q cw Q σ (F0 m tgt ls rest)) (k2 : kf = some r → Vv p l e R s m args below meth c D N q cw Q σ (F0 m (pc + 1 + 3) ls rest)) : Vv p l e R s m args below meth c D N q cw Q σ (F0 m pc ls (.long (i64 y) :: .long (i64 x) :: rest)) := fun H locs hP hS => W.lcmp C.x C.b hd1 (lv_if_gt C.x C.b hd ht (fun z => k1 ((if_pos (((lgc_gt (i64 x) (i64 y)).trans (i64_lt (x := y) (y := x) hy hx)).mp z)).symm.trans h) H locs hP hS) (fun z => k2 ((if_neg (fun w => z (((lgc_gt (i64 x) (i64 y)).trans (i64_lt (x := y) (y := x) hy hx)).mpr w))).symm.trans h) H locs hP hS))
theorem v_lcmp_le (C : Cx p R s m args meth c D tys N q cw X own cc nL) {x y : Int} {off : Int} {tgt : Nat} {β : Type} {kt kf : Option β} {r : β} (hx : inL x) (hy : inL y) (h : (if y < x then kf else kt) = some r) (hd1 : decode cc pc = .ok (.lcmp, 1)) (hd : decode cc (pc + 1) = .ok (.ifCond .le off, 3)) (ht : ((pc + 1 : Nat) : Int) + off = (tgt : Int)) (k1 : kt = some r → Vv p l e R s m args below meth c D N q cw Q σ (F0 m tgt ls rest)) (k2 : kf = some r → Vv p l e R s m args below meth c D N q cw Q σ (F0 m (pc + 1 + 3) ls rest)) : Vv p l e R s m args below meth c D N q cw Q σ (F0 m pc ls (.long (i64 y) :: .long (i64 x) :: rest)) := fun H locs hP hS => W.lcmp C.x C.b hd1 (lv_if_le C.x C.b hd ht (fun z => k1 ((if_neg (by have w := ((lg_cmp_le (i64 x) (i64 y)).trans (i64_le (x := x) (y := y) hx hy)).mp z; omega)).symm.trans h) H locs hP hS) (fun z => k2 ((if_pos (Int.not_le.mp (fun w => z (((lg_cmp_le (i64 x) (i64 y)).trans (i64_le (x := x) (y := y) hx hy)).mpr w)))).symm.trans h) H locs hP hS))
theorem v_tabOut (C : Cx p R s m args meth c D tys N q cw X own cc nL) {dflt lo hi : Int} {offs : Array Int} {len : Nat} {x : Int} {tgt : Nat} (hx : inR x) (hd : decode cc pc = .ok (.tableswitch dflt lo hi offs, len)) (h : x < lo ∨ hi < x) (ht : (pc : Int) + dflt = (tgt : Int)) (k : Vv p l e R s m args below meth c D N q cw Q σ (F0 m tgt ls rest)) : Vv p l e R s m args below meth c D N q cw Q σ (F0 m pc ls (.int (i32 x) :: rest)) := fun H locs hP hS => lv_tableOut C.x C.b hd (by rw [i32_toInt hx]; exact h) ht (k H locs hP hS)
theorem v_tabIn (C : Cx p R s m args meth c D tys N q cw X own cc nL) {dflt lo hi : Int} {offs : Array Int} {len : Nat} {x : Int} {n : Int} {off : Int} {tgt : Nat} (hx : inR x) (hn : x = n) (hd : decode cc pc = .ok (.tableswitch dflt lo hi offs, len)) (h1 : ¬ n < lo) (h2 : ¬ hi < n) (ho : offs[(n - lo).toNat]? = some off) (ht : (pc : Int) + off = (tgt : Int)) (k : Vv p l e R s m args below meth c D N q cw Q σ (F0 m tgt ls rest)) : Vv p l e R s m args below meth c D N q cw Q σ (F0 m pc ls (.int (i32 x) :: rest)) := fun H locs hP hS => by
  subst hn
  exact lv_tableIn C.x C.b hd (by rw [i32_toInt hx]; exact h1) (by rw [i32_toInt hx]; exact h2) (by rw [i32_toInt hx]; exact ho) ht (k H locs hP hS)
theorem v_lookup (C : Cx p R s m args meth c D tys N q cw X own cc nL) {dflt : Int} {ps : Array (Int × Int)} {len : Nat} {x : Int} {off : Int} {tgt : Nat} (hx : inR x) (hd : decode cc pc = .ok (.lookupswitch dflt ps, len)) (hp : (ps.toList.zip (ps.toList.drop 1)).all (fun (a, next) => a.1 < next.1) = true) (ho : Op.lookupswitch.offset ps.toList dflt x = off) (ht : (pc : Int) + off = (tgt : Int)) (k : Vv p l e R s m args below meth c D N q cw Q σ (F0 m tgt ls rest)) : Vv p l e R s m args below meth c D N q cw Q σ (F0 m pc ls (.int (i32 x) :: rest)) := fun H locs hP hS => lv_lookup C.x C.b hd hp (by rw [i32_toInt hx]; exact ho) ht (k H locs hP hS)
theorem sw_e {β : Type} {P : Prop} [Decidable P] {kt kf : Option β} {r : β} (h : (if P then kt else kf) = some r) : (P ∧ kt = some r) ∨ (¬ P ∧ kf = some r) := by
  by_cases z : P
  · rw [if_pos z] at h; exact Or.inl ⟨z, h⟩
  · rw [if_neg z] at h; exact Or.inr ⟨z, h⟩
/-- fields -/
theorem v_get (C : Cx p R s m args meth c D tys N q cw X own cc nL) {ref Cn : String} {T : u_T} {nf ci index a : Nat} (k0 : Nat) (hN : k0 < N) (ha : q k0 = a) {fs : List Value} (he : cw k0 (fz (σ k0)) = .inr (ci, fs)) (hc : vwCl[ci]? = some (Cn, T, nf)) (hin : ∀ w ∈ u_ws Cn T nf, w ∈ WT) (f : Nat) (hf : f < nf) (hlink : Cond.fieldLink own index ref (T f).2.1 (T f).2.2.1 ∈ WT) (hr : (T f).1 = ref) {v : Value} (hv : fs[f]? = some v) (hd : decode cc pc = .ok (.getfield index, 3)) (k : Vv p l e R s m args below meth c D N q cw Q σ (F0 m (pc + 3) ls (v :: rest))) : Vv p l e R s m args below meth c D N q cw Q σ (F0 m pc ls (.ref a :: rest)) := fun H locs hP hS => by
  subst ha
  exact va_get (Ts := WT) C.x C.b C.1.2.2.2.2 hin C.ow C.K hP k0 ((WS_at hN).trans (by rw [he])) hc f hf (C.w hlink) (fun x h => by rw [← hr]; exact h) hv hd (k H locs hP hS)
theorem v_put (C : Cx p R s m args meth c D tys N q cw X own cc nL) {β : Type} {ref Cn : String} {T : u_T} {nf ci index a : Nat} (k0 : Nat) (hN : k0 < N) (ha : q k0 = a) {fs : List Value} (he : cw k0 (fz (σ k0)) = .inr (ci, fs)) (hc : vwCl[ci]? = some (Cn, T, nf)) (hin : ∀ w ∈ u_ws Cn T nf, w ∈ WT) (ty0 : Nat → FieldType) (hty : ∀ k, k < nf → parseFieldDescriptor (T k).2.2.1 = some (ty0 k)) (hnm : ∀ a, a < nf → ∀ b, b < nf → a ≠ b → (T a).2.1 ≠ (T b).2.1) (f : Nat) (hf : f < nf) (hlink : Cond.fieldLink own index ref (T f).2.1 (T f).2.2.1 ∈ WT) (hr : (T f).1 = ref) (hfin : (T f).2.2.2 = false) {x : Int} (hn : narrow (ty0 f) (.int (i32 x)) = .int (i32 x)) (hfit : fits (ty0 f) (.int (i32 x)) = true) (hl : f < fs.length) (hset : (Sum.inr (ci, fs.set f (.int (i32 x))) : va_E) = cw k0 (fz (upZ (σ k0) f x))) {g : Mm → Option β} {r : β} (h : bindv (sto σ k0 f x) g = some r) (hd : decode cc pc = .ok (.putfield index, 3)) (k : ∀ σ1 : Mm, g σ1 = some r → Vv p l e R s m args below meth c D N q cw Q σ1 (F0 m (pc + 3) ls rest)) : Vv p l e R s m args below meth c D N q cw Q σ (F0 m pc ls (.int (i32 x) :: .ref a :: rest)) := fun H locs hP hS => by
  subst ha
  exact va_put (Ts := WT) C.x C.b C.1.2.2.2.2 hin ty0 hty hnm C.ow C.K hP C.dd hS k0 ((WS_at hN).trans (by rw [he])) hc f hf (C.w hlink) (fun x h => by rw [← hr]; exact h) hfin (hty f hf) hn hfit hl hd (fun H1 locs1 hP1 _ hS1 => k (sto σ k0 f x) h H1 locs1 (by rw [WS_set (upZ (σ k0) f x) hN hset] at hP1; exact hP1) hS1)
/-- arrays of ints, bytes, booleans: t0 the place of its type -/
theorem v_iald (C : Cx p R s m args meth c D tys N q cw X own cc nL) {a : Nat} (k0 : Nat) (hN : k0 < N) (ha : q k0 = a) (t0 : Nat) {cA : ClassId} {n : Nat} (he : cw k0 (fz (σ k0)) = .inl (cA, n, .inl (fz (σ k0)))) (ht : tys[t0]? = some (cA, .int)) {i : Int} {β : Type} {kk : Option β} {r : β} (hn : n < 2147483648) (h : chk i n kk = some r) (hd : decode cc pc = .ok (.iaload, 1)) (k : kk = some r → Vv p l e R s m args below meth c D N q cw Q σ (F0 m (pc + 1) ls (.int (i32 (σ k0 i.toNat)) :: rest))) : Vv p l e R s m args below meth c D N q cw Q σ (F0 m pc ls (.int (i32 i) :: .ref a :: rest)) := fun H locs hP hS => by
  subst ha
  have hc := clampI hn (chk_e h).1
  exact va_iald C.x C.b C.K hP k0 t0 ((WS_at hN).trans (by rw [he])) ht (vp_inI hn (chk_e h).1) hd (by rw [hc]; exact k (chk_e h).2 H locs hP hS)
theorem v_bald (C : Cx p R s m args meth c D tys N q cw X own cc nL) {a : Nat} (k0 : Nat) (hN : k0 < N) (ha : q k0 = a) (t0 : Nat) {cA : ClassId} {n : Nat} (he : cw k0 (fz (σ k0)) = .inl (cA, n, .inl (fz (σ k0)))) (ht : tys[t0]? = some (cA, .byte)) {i : Int} {β : Type} {kk : Option β} {r : β} (hn : n < 2147483648) (h : chk i n kk = some r) (hd : decode cc pc = .ok (.baload, 1)) (k : kk = some r → Vv p l e R s m args below meth c D N q cw Q σ (F0 m (pc + 1) ls (.int (i32 (σ k0 i.toNat)) :: rest))) : Vv p l e R s m args below meth c D N q cw Q σ (F0 m pc ls (.int (i32 i) :: .ref a :: rest)) := fun H locs hP hS => by
  subst ha
  have hc := clampI hn (chk_e h).1
  exact va_bald C.x C.b C.K hP k0 t0 ((WS_at hN).trans (by rw [he])) ht (vp_inI hn (chk_e h).1) hd (by rw [hc]; exact k (chk_e h).2 H locs hP hS)
theorem v_zald (C : Cx p R s m args meth c D tys N q cw X own cc nL) {a : Nat} (k0 : Nat) (hN : k0 < N) (ha : q k0 = a) (t0 : Nat) {cA : ClassId} {n : Nat} (he : cw k0 (fz (σ k0)) = .inl (cA, n, .inl (fz (σ k0)))) (ht : tys[t0]? = some (cA, .boolean)) {i : Int} {β : Type} {kk : Option β} {r : β} (hn : n < 2147483648) (h : chk i n kk = some r) (hd : decode cc pc = .ok (.baload, 1)) (k : kk = some r → Vv p l e R s m args below meth c D N q cw Q σ (F0 m (pc + 1) ls (.int (i32 (σ k0 i.toNat)) :: rest))) : Vv p l e R s m args below meth c D N q cw Q σ (F0 m pc ls (.int (i32 i) :: .ref a :: rest)) := fun H locs hP hS => by
  subst ha
  have hc := clampI hn (chk_e h).1
  exact va_zald C.x C.b C.K hP k0 t0 ((WS_at hN).trans (by rw [he])) ht (vp_inI hn (chk_e h).1) hd (by rw [hc]; exact k (chk_e h).2 H locs hP hS)
theorem v_iast (C : Cx p R s m args meth c D tys N q cw X own cc nL) {a : Nat} (k0 : Nat) (hN : k0 < N) (ha : q k0 = a) (t0 : Nat) {cA : ClassId} {n : Nat} (he : ∀ f : Nat → Int32, cw k0 f = .inl (cA, n, .inl f)) (ht : tys[t0]? = some (cA, .int)) {i x : Int} {β : Type} {g : Mm → Option β} {r : β} (hn : n < 2147483648) (h : chk i n (bindv (sto σ k0 i.toNat x) g) = some r) (hd : decode cc pc = .ok (.iastore, 1)) (k : ∀ σ1 : Mm, g σ1 = some r → Vv p l e R s m args below meth c D N q cw Q σ1 (F0 m (pc + 1) ls rest)) : Vv p l e R s m args below meth c D N q cw Q σ (F0 m pc ls (.int (i32 x) :: .int (i32 i) :: .ref a :: rest)) := fun H locs hP hS => by
  subst ha
  have hc := clampI hn (chk_e h).1
  exact va_iast C.x C.b C.K hP C.dd hS k0 t0 ((WS_at hN).trans (by rw [he])) ht (vp_inI hn (chk_e h).1) hd (fun H1 locs1 hP1 _ hS1 => k _ (chk_e h).2 H1 locs1 (by rw [hc, ← fz_up, WS_set (upZ (σ k0) i.toNat x) hN (he _).symm] at hP1; exact hP1) hS1)
theorem v_bast (C : Cx p R s m args meth c D tys N q cw X own cc nL) {a : Nat} (k0 : Nat) (hN : k0 < N) (ha : q k0 = a) (t0 : Nat) {cA : ClassId} {n : Nat} (he : ∀ f : Nat → Int32, cw k0 f = .inl (cA, n, .inl f)) (ht : tys[t0]? = some (cA, .byte)) {i x z : Int} {β : Type} {g : Mm → Option β} {r : β} (hn : n < 2147483648) (hz : vp_nar .byte (i32 x) = i32 z) (h : chk i n (bindv (sto σ k0 i.toNat z) g) = some r) (hd : decode cc pc = .ok (.bastore, 1)) (k : ∀ σ1 : Mm, g σ1 = some r → Vv p l e R s m args below meth c D N q cw Q σ1 (F0 m (pc + 1) ls rest)) : Vv p l e R s m args below meth c D N q cw Q σ (F0 m pc ls (.int (i32 x) :: .int (i32 i) :: .ref a :: rest)) := fun H locs hP hS => by
  subst ha
  have hc := clampI hn (chk_e h).1
  exact va_bast C.x C.b C.K hP C.dd hS k0 t0 ((WS_at hN).trans (by rw [he])) ht (vp_inI hn (chk_e h).1) hd (fun H1 locs1 hP1 _ hS1 => k _ (chk_e h).2 H1 locs1 (by rw [hc, hz, ← fz_up, WS_set (upZ (σ k0) i.toNat z) hN (he _).symm] at hP1; exact hP1) hS1)
theorem v_zast (C : Cx p R s m args meth c D tys N q cw X own cc nL) {a : Nat} (k0 : Nat) (hN : k0 < N) (ha : q k0 = a) (t0 : Nat) {cA : ClassId} {n : Nat} (he : ∀ f : Nat → Int32, cw k0 f = .inl (cA, n, .inl f)) (ht : tys[t0]? = some (cA, .boolean)) {i x z : Int} {β : Type} {g : Mm → Option β} {r : β} (hn : n < 2147483648) (hz : vp_nar .boolean (i32 x) = i32 z) (h : chk i n (bindv (sto σ k0 i.toNat z) g) = some r) (hd : decode cc pc = .ok (.bastore, 1)) (k : ∀ σ1 : Mm, g σ1 = some r → Vv p l e R s m args below meth c D N q cw Q σ1 (F0 m (pc + 1) ls rest)) : Vv p l e R s m args below meth c D N q cw Q σ (F0 m pc ls (.int (i32 x) :: .int (i32 i) :: .ref a :: rest)) := fun H locs hP hS => by
  subst ha
  have hc := clampI hn (chk_e h).1
  exact va_zast C.x C.b C.K hP C.dd hS k0 t0 ((WS_at hN).trans (by rw [he])) ht (vp_inI hn (chk_e h).1) hd (fun H1 locs1 hP1 _ hS1 => k _ (chk_e h).2 H1 locs1 (by rw [hc, hz, ← fz_up, WS_set (upZ (σ k0) i.toNat z) hN (he _).symm] at hP1; exact hP1) hS1)
/-- arrays of rows or objects -/
theorem v_aald (C : Cx p R s m args meth c D tys N q cw X own cc nL) {a : Nat} (k0 : Nat) (hN : k0 < N) (ha : q k0 = a) (t0 : Nat) {cA : ClassId} {n : Nat} {f : Nat → Option Nat} {ty : FieldType} (he : cw k0 (fz (σ k0)) = .inl (cA, n, .inr (.inr (.inr (.inr f))))) (ht : tys[t0]? = some (cA, ty)) (hty : ty.isReference = true) {i : Int} {β : Type} {kk : Option β} {r : β} (hn : n < 2147483648) (h : chk i n kk = some r) (v : Nat) (hv : i.toNat < n → f i.toNat = some v) (hd : decode cc pc = .ok (.aaload, 1)) (k : kk = some r → Vv p l e R s m args below meth c D N q cw Q σ (F0 m (pc + 1) ls (.ref v :: rest))) : Vv p l e R s m args below meth c D N q cw Q σ (F0 m pc ls (.int (i32 i) :: .ref a :: rest)) := fun H locs hP hS => by
  subst ha
  have hin := vp_inI hn (chk_e h).1
  have hc := clampI hn (chk_e h).1
  have hlt : i.toNat < n := by have := (chk_e h).1; omega
  have hcell := hP k0 _ ((WS_at hN).trans (by rw [he]))
  exact W.aald (v := .ref v) (ty := ty) C.x C.b hcell ((C.K.2 t0 _ ht).1 n (fun j => va_rf (f j))) hty (fun z => by cases z) (by show ¬ (i32 i < 0 ∨ (arrV _ _ _).slots.size ≤ _); rw [arrV_size]; exact hin) (by show (arrV _ _ _).slots[_]? = _; rw [hc, arrV_read _ _ hlt, hv hlt]; rfl) rfl rfl hd (k (chk_e h).2 H locs hP hS)
/-- returns -/
theorem v_iret (C : Cx p R s m args meth c D tys N q cw X own cc nL) (hr : meth.sig.returnType = some .int) {v : Int} {r : Int × Mm} (h : some (v, σ) = some r) (hd : decode cc pc = .ok (.ireturn, 1)) : Vv p l e R s m args below meth c D N q cw (MQ below (CQi D tys N q cw X r) args s 0 0 (AQ N q)) σ (F0 m pc ls [.int (i32 v)]) := fun H locs hP hS => by
  have hlocks := C.2.2.2.2.2
  cases h
  exact W.iret C.x C.b hr (fun t ht hW => ⟨⟨i32 v, σ, rfl, ⟨rfl, rfl⟩, C.wo hP hS ht hW⟩, hS.F ht⟩) hS.2.2 hd
theorem v_zret (C : Cx p R s m args meth c D tys N q cw X own cc nL) (hr : meth.sig.returnType = some .boolean) {v : Int} {r : Int × Mm} (hv : v = 0 ∨ v = 1) (h : some (v, σ) = some r) (hd : decode cc pc = .ok (.ireturn, 1)) : Vv p l e R s m args below meth c D N q cw (MQ below (CQi D tys N q cw X r) args s 0 0 (AQ N q)) σ (F0 m pc ls [.int (i32 v)]) := fun H locs hP hS => by
  have hlocks := C.2.2.2.2.2
  cases h
  exact W.zret (ty := .boolean) C.x C.b hr (by rcases hv with rfl | rfl <;> rfl) (fun t ht hW => ⟨⟨i32 v, σ, rfl, ⟨rfl, rfl⟩, C.wo hP hS ht hW⟩, hS.F ht⟩) hS.2.2 hd
theorem v_vret (C : Cx p R s m args meth c D tys N q cw X own cc nL) (hr : meth.sig.returnType = none) {r : Mm} (h : some σ = some r) (hd : decode cc pc = .ok (.return_, 1)) : Vv p l e R s m args below meth c D N q cw (MQ below (CQv D tys N q cw X r) args s 0 0 (AQ N q)) σ (F0 m pc ls []) := fun H locs hP hS => by
  have hlocks := C.2.2.2.2.2
  cases h
  exact W.vret C.x C.b hr (fun t ht hW => ⟨⟨σ, rfl, rfl, C.wo hP hS ht hW⟩, hS.F ht⟩) hS.2.2 hd
theorem v_aret (C : Cx p R s m args meth c D tys N q cw X own cc nL) {rt : FieldType} (hr : meth.sig.returnType = some rt) (hrt : (∃ n, rt = .object n) ∨ ∃ t, rt = .array t) {a : Nat} (k0 : Nat) (ha : q k0 = a) {r : Nat × Mm} (h : some (k0, σ) = some r) (hd : decode cc pc = .ok (.areturn, 1)) : Vv p l e R s m args below meth c D N q cw (MQ below (CQr D tys N q cw X r) args s 0 0 (AQ N q)) σ (F0 m pc ls [.ref a]) := fun H locs hP hS => by
  have hlocks := C.2.2.2.2.2
  subst ha
  cases h
  exact W.aret C.x C.b hr hrt (Or.inr ⟨_, rfl⟩) (fun t ht hW => ⟨⟨σ, q k0, rfl, rfl, rfl, C.wo hP hS ht hW⟩, hS.F ht⟩) hS.2.2 hd
/-- calls -/
abbrev yOk (y : MethodName) (n : Nat) : Prop := y.cls ≠ "java/lang/invoke/MethodHandle" ∧ y.cls ≠ "java/lang/invoke/VarHandle" ∧ (parseMethodDescriptor y.desc).map (fun d => d.parameters.length) = some n
theorem v_par {y : MethodName} {n : Nat} (h : yOk y n) : ∀ sig, parseMethodDescriptor y.desc = some sig → n = sig.parameters.length := fun sig hs => by
  have h2 := h.2.2
  rw [hs] at h2
  exact (Option.some.inj h2).symm
theorem v_cb (C : Cx p R s m args meth c D tys N q cw X own cc nL) {y : MethodName} {yc : ByteArray} {mL n index : Nat} {ret : Option FieldType} {rm : Room} (hcode : Cond.code y yc mL ret ∈ WT) (hini : Cond.initialized y.cls ∈ WT) (hlink : Cond.methodLink own index y ∈ WT) (hy : yOk y n) (hR : rm.cells = 0 ∧ rm.slots = 0 ∧ rm.frames + 1 ≤ R.frames ∧ 8 + (mL + 11) + rm.locals ≤ R.locals) : CallB R s args own index y yc mL ret (Cond.code y yc mL ret :: WT) rm 0 0 n :=
  ⟨hR.1, hR.2.1, hR.2.2.1, hR.2.2.2, fun w hw => by
    rcases List.mem_cons.mp hw with rfl | hw
    · exact fun a' U hW => word_at hW (good_of_word (WT_good hcode)) (C.w hcode)
    · exact fun a' U hW => word_at hW (good_of_word (WT_good hw)) (C.w hw), List.mem_cons_self, C.w hcode, C.w hini, ⟨hy.1, hy.2.1⟩, v_par hy, C.w hlink⟩
theorem v_recv (C : Cx p R s m args meth c D tys N q cw X own cc nL) {H : Heap} {σ : Mm} (hP : va_P D vwCl (WS N q cw σ) H) {k0 ci : Nat} (hN : k0 < N) {fs : List Value} (he : cw k0 (fz (σ k0)) = .inr (ci, fs)) {r : vw_C} (hc : vwCl[ci]? = some r) : ∃ cellB : Cell, H[q k0]? = some cellB ∧ cellB.vm.isStatics = false ∧ s.vm.findClass r.1 = some cellB.cls := va_recv C.K hP hc ((WS_at hN).trans (by rw [he]))
theorem v_callVI (C : Cx p R s m args meth c D tys N q cw X own cc nL) {y : MethodName} {yc : ByteArray} {mL n index : Nat} {ret : Option FieldType} {rm : Room} {Cn : String} {T : u_T} {nf ci a : Nat} (k0 : Nat) (hN : k0 < N) (ha : q k0 = a) {fs : List Value} (he : cw k0 (fz (σ k0)) = .inr (ci, fs)) (hc : vwCl[ci]? = some (Cn, T, nf)) {r1 : Int × Mm} (As : List Value) (hM : MI l D tys N q cw X y yc mL ret rm (.ref a :: As) σ r1) (hcode : Cond.code y yc mL ret ∈ WT) (hini : Cond.initialized y.cls ∈ WT) (hinst : Cond.instanceMethod y ∈ WT) (hsel : Cond.selects Cn y y ∈ WT) (hlink : Cond.methodLink own index y ∈ WT) (hy : yOk y n) (hR : rm.cells = 0 ∧ rm.slots = 0 ∧ rm.frames + 1 ≤ R.frames ∧ 8 + (mL + 11) + rm.locals ≤ R.locals) (hn : As.length = n) (hsz : ls.size = nL) {st : List Value} (hst : st = As.reverse ++ .ref a :: rest) (hrm : (rest.map fun v => v.category).sum ≤ 8) (hd : decode cc pc = .ok (.invokevirtual index, 3)) (k : Vv p l e R s m args below meth c D N q cw Q r1.2 (F0 m (pc + 3) ls (.int (i32 r1.1) :: rest))) : Vv p l e R s m args below meth c D N q cw Q σ (F0 m pc ls st) := fun H locs hP hS => by
  subst ha
  subst hst
  refine va_calli (va_runV C.1 hM ⟨v_cb C hcode hini hlink hy hR, C.w hinst, C.w hsel⟩ ⟨blindI C.2.2.2.1, v_recv C hP hN he hc, fun U hU hW => ⟨rfl, C.wo hP hS hU hW⟩⟩ rfl hn hsz rfl (lv_room hrm) hd ⟨Nat.zero_le _, Nat.zero_le _⟩) hS (fun _ _ h => h) (fun _ h => h) (fun r u t H1 locs1 ht hvm hw hB hz hk hS1 => ?_)
  obtain ⟨rfl, rfl⟩ := hw
  exact k H1 locs1 (by rw [← ht]; exact hB.1) hS1
theorem v_callVV (C : Cx p R s m args meth c D tys N q cw X own cc nL) {y : MethodName} {yc : ByteArray} {mL n index : Nat} {ret : Option FieldType} {rm : Room} {Cn : String} {T : u_T} {nf ci a : Nat} (k0 : Nat) (hN : k0 < N) (ha : q k0 = a) {fs : List Value} (he : cw k0 (fz (σ k0)) = .inr (ci, fs)) (hc : vwCl[ci]? = some (Cn, T, nf)) {r1 : Mm} (As : List Value) (hM : MV l D tys N q cw X y yc mL ret rm (.ref a :: As) σ r1) (hcode : Cond.code y yc mL ret ∈ WT) (hini : Cond.initialized y.cls ∈ WT) (hinst : Cond.instanceMethod y ∈ WT) (hsel : Cond.selects Cn y y ∈ WT) (hlink : Cond.methodLink own index y ∈ WT) (hy : yOk y n) (hR : rm.cells = 0 ∧ rm.slots = 0 ∧ rm.frames + 1 ≤ R.frames ∧ 8 + (mL + 11) + rm.locals ≤ R.locals) (hn : As.length = n) (hsz : ls.size = nL) {st : List Value} (hst : st = As.reverse ++ .ref a :: rest) (hrm : (rest.map fun v => v.category).sum ≤ 8) (hd : decode cc pc = .ok (.invokevirtual index, 3)) (k : Vv p l e R s m args below meth c D N q cw Q r1 (F0 m (pc + 3) ls rest)) : Vv p l e R s m args below meth c D N q cw Q σ (F0 m pc ls st) := fun H locs hP hS => by
  subst ha
  subst hst
  refine va_callv (va_runV C.1 hM ⟨v_cb C hcode hini hlink hy hR, C.w hinst, C.w hsel⟩ ⟨blindI C.2.2.2.1, v_recv C hP hN he hc, fun U hU hW => ⟨rfl, C.wo hP hS hU hW⟩⟩ rfl hn hsz rfl (lv_room hrm) hd ⟨Nat.zero_le _, Nat.zero_le _⟩) hS (fun _ _ h => h) (fun _ h => h) (fun u t H1 locs1 ht hvm hw hB hz hk hS1 => ?_)
  subst hw
  exact k H1 locs1 (by rw [← ht]; exact hB.1) hS1
theorem v_callVR (C : Cx p R s m args meth c D tys N q cw X own cc nL) {y : MethodName} {yc : ByteArray} {mL n index : Nat} {ret : Option FieldType} {rm : Room} {Cn : String} {T : u_T} {nf ci a : Nat} (k0 : Nat) (hN : k0 < N) (ha : q k0 = a) {fs : List Value} (he : cw k0 (fz (σ k0)) = .inr (ci, fs)) (hc : vwCl[ci]? = some (Cn, T, nf)) {r1 : Nat × Mm} (As : List Value) (hM : MR l D tys N q cw X y yc mL ret rm (.ref a :: As) σ r1) (hcode : Cond.code y yc mL ret ∈ WT) (hini : Cond.initialized y.cls ∈ WT) (hinst : Cond.instanceMethod y ∈ WT) (hsel : Cond.selects Cn y y ∈ WT) (hlink : Cond.methodLink own index y ∈ WT) (hy : yOk y n) (hR : rm.cells = 0 ∧ rm.slots = 0 ∧ rm.frames + 1 ≤ R.frames ∧ 8 + (mL + 11) + rm.locals ≤ R.locals) (hn : As.length = n) (hsz : ls.size = nL) {st : List Value} (hst : st = As.reverse ++ .ref a :: rest) (hrm : (rest.map fun v => v.category).sum ≤ 8) (hd : decode cc pc = .ok (.invokevirtual index, 3)) (k : Vv p l e R s m args below meth c D N q cw Q r1.2 (F0 m (pc + 3) ls (.ref (q r1.1) :: rest))) : Vv p l e R s m args below meth c D N q cw Q σ (F0 m pc ls st) := fun H locs hP hS => by
  subst ha
  subst hst
  refine va_callr (va_runV C.1 hM ⟨v_cb C hcode hini hlink hy hR, C.w hinst, C.w hsel⟩ ⟨blindI C.2.2.2.1, v_recv C hP hN he hc, fun U hU hW => ⟨rfl, C.wo hP hS hU hW⟩⟩ rfl hn hsz rfl (lv_room hrm) hd ⟨Nat.zero_le _, Nat.zero_le _⟩) hS (fun _ _ h => h) (fun _ h => h) (fun u ra t H1 locs1 ht hvm hw hB hz hk hS1 => ?_)
  subst hw
  obtain ⟨rfl, hB⟩ := hB
  exact k H1 locs1 (by rw [← ht]; exact hB.1) hS1
theorem v_callSI (C : Cx p R s m args meth c D tys N q cw X own cc nL) {y : MethodName} {yc : ByteArray} {mL n index : Nat} {ret : Option FieldType} {rm : Room} {r1 : Int × Mm} (As : List Value) (hM : MI l D tys N q cw X y yc mL ret rm As σ r1) (hcode : Cond.code y yc mL ret ∈ WT) (hini : Cond.initialized y.cls ∈ WT) (hstat : Cond.static y ∈ WT) (hlink : Cond.methodLink own index y ∈ WT) (hy : yOk y n) (hR : rm.cells = 0 ∧ rm.slots = 0 ∧ rm.frames + 1 ≤ R.frames ∧ 8 + (mL + 11) + rm.locals ≤ R.locals) (hn : As.length = n) (hsz : ls.size = nL) {st : List Value} (hst : st = As.reverse ++ rest) (hrm : (rest.map fun v => v.category).sum ≤ 8) (hd : decode cc pc = .ok (.invokestatic index, 3)) (k : Vv p l e R s m args below meth c D N q cw Q r1.2 (F0 m (pc + 3) ls (.int (i32 r1.1) :: rest))) : Vv p l e R s m args below meth c D N q cw Q σ (F0 m pc ls st) := fun H locs hP hS => by
  subst hst
  refine va_calli (va_runS C.1 hM ⟨v_cb C hcode hini hlink hy hR, C.w hstat⟩ ⟨blindI C.2.2.2.1, fun U hU hW => ⟨rfl, C.wo hP hS hU hW⟩⟩ rfl hn hsz rfl (lv_room hrm) hd ⟨Nat.zero_le _, Nat.zero_le _⟩) hS (fun _ _ h => h) (fun _ h => h) (fun r u t H1 locs1 ht hvm hw hB hz hk hS1 => ?_)
  obtain ⟨rfl, rfl⟩ := hw
  exact k H1 locs1 (by rw [← ht]; exact hB.1) hS1
/-- a nest mate's private static method -/
theorem v_callSN (C : Cx p R s m args meth c D tys N q cw X own cc nL) {y : MethodName} {yc : ByteArray} {mL n index : Nat} {ret : Option FieldType} {rm : Room} {host : String} {r1 : Int × Mm} (As : List Value) (hM : MI l D tys N q cw X y yc mL ret rm As σ r1) (hcode : Cond.code y yc mL ret ∈ WT) (hini : Cond.initialized y.cls ∈ WT) (hstat : Cond.static y ∈ WT) (hlink : va_Nw (.methodLinkNest own index y host) s) (hy : yOk y n) (hR : rm.cells = 0 ∧ rm.slots = 0 ∧ rm.frames + 1 ≤ R.frames ∧ 8 + (mL + 11) + rm.locals ≤ R.locals) (hn : As.length = n) (hsz : ls.size = nL) {st : List Value} (hst : st = As.reverse ++ rest) (hrm : (rest.map fun v => v.category).sum ≤ 8) (hd : decode cc pc = .ok (.invokestatic index, 3)) (k : Vv p l e R s m args below meth c D N q cw Q r1.2 (F0 m (pc + 3) ls (.int (i32 r1.1) :: rest))) : Vv p l e R s m args below meth c D N q cw Q σ (F0 m pc ls st) := fun H locs hP hS => by
  subst hst
  refine va_calli (va_runSN C.1 hM ⟨⟨⟨hR.1, hR.2.1, hR.2.2.1, hR.2.2.2, fun w hw => by
    rcases List.mem_cons.mp hw with rfl | hw
    · exact fun a' U hW => word_at hW (good_of_word (WT_good hcode)) (C.w hcode)
    · exact fun a' U hW => word_at hW (good_of_word (WT_good hw)) (C.w hw), List.mem_cons_self⟩, C.w hcode, C.w hini, ⟨hy.1, hy.2.1⟩, v_par hy, va_Nw.use rfl hlink⟩, C.w hstat, trivial⟩ ⟨blindI C.2.2.2.1, fun U hU hW => ⟨rfl, C.wo hP hS hU hW⟩⟩ rfl hn hsz rfl (lv_room hrm) hd ⟨Nat.zero_le _, Nat.zero_le _⟩) hS (fun _ _ h => h) (fun _ h => h) (fun r u t H1 locs1 ht hvm hw hB hz hk hS1 => ?_)
  obtain ⟨rfl, rfl⟩ := hw
  exact k H1 locs1 (by rw [← ht]; exact hB.1) hS1
/-- Math -/
theorem v_max (C : Cx p R s m args meth c D tys N q cw X own cc nL) {index : Nat} (hsz : ls.size = nL) (hlink : Cond.methodLink own index Lib.Math.max.name ∈ WT) (hstat : Cond.static Lib.Math.max.name ∈ WT) (hini : Cond.initialized "java/lang/Math" ∈ WT) (hcode : Cond.code Lib.Math.max.name Lib.Math.max.code 2 (some .int) ∈ WT) (hfr : 1 ≤ R.frames) (hlo : (rest.map fun v => v.category).sum + 13 ≤ R.locals) {x y : Int} {β : Type} {kx : Option β} {r : β} (h : cr x (cr y kx) = some r) (hd : decode cc pc = .ok (.invokestatic index, 3)) (k : kx = some r → Vv p l e R s m args below meth c D N q cw Q σ (F0 m (pc + 3) ls (.int (i32 (mxI x y)) :: rest))) : Vv p l e R s m args below meth c D N q cw Q σ (F0 m pc ls (.int (i32 y) :: .int (i32 x) :: rest)) := fun H locs hP hS => va_mmax C.x C.b (C.ml.trans hsz.symm) C.ow (C.w hlink) (C.w hstat) (C.w hini) (C.w hcode) hfr hlo (Nat.zero_le _) (Nat.zero_le _) hd (by
  have e : (if i32 x < i32 y then i32 y else i32 x) = i32 (mxI x y) := by
    unfold mxI
    by_cases z : x < y
    · rw [if_pos z, if_pos ((i32_lt (x := x) (y := y) (cr_e h).1 (cr_e (cr_e h).2).1).mpr z)]
    · rw [if_neg z, if_neg (fun w => z ((i32_lt (x := x) (y := y) (cr_e h).1 (cr_e (cr_e h).2).1).mp w))]
  rw [e]
  exact k (cr_e (cr_e h).2).2 H locs hP hS)
theorem v_min (C : Cx p R s m args meth c D tys N q cw X own cc nL) {index : Nat} (hsz : ls.size = nL) (hlink : Cond.methodLink own index Lib.Math.min.name ∈ WT) (hstat : Cond.static Lib.Math.min.name ∈ WT) (hini : Cond.initialized "java/lang/Math" ∈ WT) (hcode : Cond.code Lib.Math.min.name Lib.Math.min.code 2 (some .int) ∈ WT) (hfr : 1 ≤ R.frames) (hlo : (rest.map fun v => v.category).sum + 13 ≤ R.locals) {x y : Int} {β : Type} {kx : Option β} {r : β} (h : cr x (cr y kx) = some r) (hd : decode cc pc = .ok (.invokestatic index, 3)) (k : kx = some r → Vv p l e R s m args below meth c D N q cw Q σ (F0 m (pc + 3) ls (.int (i32 (mnI x y)) :: rest))) : Vv p l e R s m args below meth c D N q cw Q σ (F0 m pc ls (.int (i32 y) :: .int (i32 x) :: rest)) := fun H locs hP hS => va_mmin C.x C.b (C.ml.trans hsz.symm) C.ow (C.w hlink) (C.w hstat) (C.w hini) (C.w hcode) hfr hlo (Nat.zero_le _) (Nat.zero_le _) hd (by
  have e : (if i32 y < i32 x then i32 y else i32 x) = i32 (mnI x y) := by
    unfold mnI
    by_cases z : y < x
    · rw [if_pos z, if_pos ((i32_lt (x := y) (y := x) (cr_e (cr_e h).2).1 (cr_e h).1).mpr z)]
    · rw [if_neg z, if_neg (fun w => z ((i32_lt (x := y) (y := x) (cr_e (cr_e h).2).1 (cr_e h).1).mp w))]
  rw [e]
  exact k (cr_e (cr_e h).2).2 H locs hP hS)
theorem v_abs (C : Cx p R s m args meth c D tys N q cw X own cc nL) {index : Nat} (hsz : ls.size = nL) (hlink : Cond.methodLink own index Lib.Math.abs.name ∈ WT) (hstat : Cond.static Lib.Math.abs.name ∈ WT) (hini : Cond.initialized "java/lang/Math" ∈ WT) (hcode : Cond.code Lib.Math.abs.name Lib.Math.abs.code 1 (some .int) ∈ WT) (hfr : 1 ≤ R.frames) (hlo : (rest.map fun v => v.category).sum + 13 ≤ R.locals) {x : Int} {β : Type} {kx : Option β} {r : β} (h : cr x kx = some r) (hd : decode cc pc = .ok (.invokestatic index, 3)) (k : kx = some r → Vv p l e R s m args below meth c D N q cw Q σ (F0 m (pc + 3) ls (.int (i32 (abI x)) :: rest))) : Vv p l e R s m args below meth c D N q cw Q σ (F0 m pc ls (.int (i32 x) :: rest)) := fun H locs hP hS => va_mabs C.x C.b (C.ml.trans hsz.symm) C.ow (C.w hlink) (C.w hstat) (C.w hini) (C.w hcode) hfr hlo (Nat.zero_le _) (Nat.zero_le _) hd (by
  have e : (if 0 ≤ i32 x then i32 x else 0 - i32 x) = i32 (abI x) := by
    have qq : (0 : Int32) ≤ i32 x ↔ 0 ≤ x := i32_le (x := 0) (y := x) (by omega) (cr_e h).1
    unfold abI
    by_cases z : 0 ≤ x
    · rw [if_pos z, if_pos (qq.mpr z)]
    · rw [if_neg z, if_neg (fun w => z (qq.mp w)), ← i32_sub]; rfl
  rw [e]
  exact k (cr_e h).2 H locs hP hS)
/-- System.arraycopy over rows of ints, from 0 to 0 -/
def cpy (σ : Mm) (a b : Nat) (n : Nat) : Mm := upS σ b (fun i => if i < n then σ a i else σ b i)
theorem cpy_fz (f g : Nat → Int) (n : Nat) : va_cpy (fz f) (fz g) 0 0 n = fz (fun i => if i < n then f i else g i) := by
  funext j
  unfold va_cpy fz
  by_cases h : j < n
  · rw [if_pos ⟨Nat.zero_le j, by omega⟩]; simp [h]
  · rw [if_neg (fun z => h (by omega))]; simp [h]
theorem v_copyi (C : Cx p R s m args meth c D tys N q cw X own cc nL) {index a b : Nat} (hsz : ls.size = nL) (hlink : Cond.methodLink own index arraycopyName ∈ WT) (hnat : Cond.native arraycopyName ∈ WT) (hstat : Cond.static arraycopyName ∈ WT) (hini : Cond.initialized "java/lang/System" ∈ WT) (k0 k1 : Nat) (h0 : k0 < N) (h1 : k1 < N) (ha : q k0 = a) (hb : q k1 = b) (t0 : Nat) {cA : ClassId} {n0 n1 : Nat} (he0 : cw k0 (fz (σ k0)) = .inl (cA, n0, .inl (fz (σ k0)))) (he1 : ∀ f : Nat → Int32, cw k1 f = .inl (cA, n1, .inl f)) (ht : tys[t0]? = some (cA, .int)) (n : Nat) {z : Int} (hz : z = (n : Int)) (hn : n < 2147483648) (g4 : n ≤ n0) (g5 : n ≤ n1) (hfr : 1 ≤ R.frames) (hlo : (rest.map fun v => v.category).sum + (nativeFrameWords "java/lang/System" "arraycopy" 5 + 11) ≤ R.locals) {β : Type} {g : Mm → Option β} {r : β} (h : bindv (cpy σ k0 k1 n) g = some r) (hd : decode cc pc = .ok (.invokestatic index, 3)) (k : ∀ σ1 : Mm, g σ1 = some r → Vv p l e R s m args below meth c D N q cw Q σ1 (F0 m (pc + 3) ls rest)) : Vv p l e R s m args below meth c D N q cw Q σ (F0 m pc ls (.int (i32 z) :: .int (i32 0) :: .ref b :: .int (i32 0) :: .ref a :: rest)) := fun H locs hP hS => by
  subst ha
  subst hb
  subst hz
  have hcl : (i32 (n : Int)).toNatClampNeg = n := by
    show (i32 (n : Int)).toInt.toNat = n
    rw [i32_toInt (by omega)]; omega
  have h00 : (i32 0).toNatClampNeg = 0 := rfl
  exact va_copyi C.x C.b (C.ml.trans hsz.symm) C.ow (C.w hlink) (C.w hnat) (C.w hstat) (C.w hini) C.K hP C.dd hS k0 k1 t0 t0 ((WS_at h0).trans (by rw [he0])) ((WS_at h1).trans (by rw [he1])) ht ht rfl (by decide) (by decide) (fun w => by rw [← i32_0, i32_lt (by omega) (by omega)] at w; omega) (by rw [hcl, h00]; omega) (by rw [hcl, h00]; omega) (fun i hi => rfl) hfr hlo hd (fun H1 locs1 hP1 _ hS1 => k _ h H1 locs1 (by rw [hcl, h00, cpy_fz, WS_set _ h1 (he1 _).symm] at hP1; exact hP1) hS1)
theorem so1 {α β : Type} {x v : α} {z : β} (h : some x = some v) : some (x, z) = some (v, z) := congrArg (fun y => some (y, z)) (Option.some.inj h)
theorem so2 {α β : Type} {x v : α} {z : β} (h : some x = some v) : some (z, x) = some (z, v) := congrArg (fun y => some (z, y)) (Option.some.inj h)
def itN {T : Type} (z : T) (f : T → T) : Nat → T
  | 0 => z
  | n + 1 => f (itN z f n)
theorem itN_s {T : Type} (z : T) (f : T → T) (n : Nat) : itN z f (n + 1) = f (itN z f n) := rfl
end BASE
/-- a body's start -/
theorem MI.of {l : Launch} {D : va_G} {tys : List (ClassId × FieldType)} {N : Nat} {q : Nat → Nat} {cw : Nat → (Nat → Int32) → va_E} {X : State → Prop} {y : MethodName} {cc : ByteArray} {mL : Nat} {ret : Option FieldType} {rm : Room} {As : List Value} {σ : Mm} {r : Int × Mm} (hq : ∀ i j, i < N → j < N → q i = q j → i = j) (hX : XM X (AQ N q)) (hy : plainName y.cls = true) (hm : (lg_sl As).length ≤ mL) (body : ∀ (p : Program) (e : Env) (s : State) (m : MethodId) (below : List Frame) (meth : Method) (c : Code) (ls : Array Slot), Cx p rm s m As.toArray meth c D tys N q cw X y.cls cc mL → meth.sig.returnType = ret → lv_has ls mL (lv_args 0 As) → Vv p l e rm s m As.toArray below meth c D N q cw (MQ below (CQi D tys N q cw X r) As.toArray s 0 0 (AQ N q)) σ (F0 m 0 ls [])) : MI l D tys N q cw X y cc mL ret rm As σ r := by
  refine Met.ofW (cc := cc) (maxL := mL) (ret := ret) hy rfl ?_
  intro p e s m args below meth c s₁ B hml hv
  obtain ⟨rfl, hP, hK, hXs⟩ := hv
  have hts := atoms_spec (ws := Cond.code y cc mL ret :: WT) B.pre
  have hown : s.vm.findClass y.cls = some m.cls := findClass_of_methodNamed B.named
  have hlocks := B.notSynchronized
  have hl := lv_entry As (n := mL) hm
  rw [lg_entry_eq]
  generalize (lg_sl As ++ List.replicate (mL - (lg_sl As).length) Slot.unset).toArray = ls at hl ⊢
  exact body p e s m below meth c ls ⟨⟨B.exec, B.bytes, hml, hown, fun w h => hts w (List.mem_cons_of_mem _ h)⟩, hK, hXs, hX, hq, hlocks⟩ B.returns hl s.heap [] hP va_S.rf
theorem MV.of {l : Launch} {D : va_G} {tys : List (ClassId × FieldType)} {N : Nat} {q : Nat → Nat} {cw : Nat → (Nat → Int32) → va_E} {X : State → Prop} {y : MethodName} {cc : ByteArray} {mL : Nat} {ret : Option FieldType} {rm : Room} {As : List Value} {σ : Mm} {r : Mm} (hq : ∀ i j, i < N → j < N → q i = q j → i = j) (hX : XM X (AQ N q)) (hy : plainName y.cls = true) (hm : (lg_sl As).length ≤ mL) (body : ∀ (p : Program) (e : Env) (s : State) (m : MethodId) (below : List Frame) (meth : Method) (c : Code) (ls : Array Slot), Cx p rm s m As.toArray meth c D tys N q cw X y.cls cc mL → meth.sig.returnType = ret → lv_has ls mL (lv_args 0 As) → Vv p l e rm s m As.toArray below meth c D N q cw (MQ below (CQv D tys N q cw X r) As.toArray s 0 0 (AQ N q)) σ (F0 m 0 ls [])) : MV l D tys N q cw X y cc mL ret rm As σ r := by
  refine Met.ofW (cc := cc) (maxL := mL) (ret := ret) hy rfl ?_
  intro p e s m args below meth c s₁ B hml hv
  obtain ⟨rfl, hP, hK, hXs⟩ := hv
  have hts := atoms_spec (ws := Cond.code y cc mL ret :: WT) B.pre
  have hown : s.vm.findClass y.cls = some m.cls := findClass_of_methodNamed B.named
  have hlocks := B.notSynchronized
  have hl := lv_entry As (n := mL) hm
  rw [lg_entry_eq]
  generalize (lg_sl As ++ List.replicate (mL - (lg_sl As).length) Slot.unset).toArray = ls at hl ⊢
  exact body p e s m below meth c ls ⟨⟨B.exec, B.bytes, hml, hown, fun w h => hts w (List.mem_cons_of_mem _ h)⟩, hK, hXs, hX, hq, hlocks⟩ B.returns hl s.heap [] hP va_S.rf
theorem MR.of {l : Launch} {D : va_G} {tys : List (ClassId × FieldType)} {N : Nat} {q : Nat → Nat} {cw : Nat → (Nat → Int32) → va_E} {X : State → Prop} {y : MethodName} {cc : ByteArray} {mL : Nat} {ret : Option FieldType} {rm : Room} {As : List Value} {σ : Mm} {r : Nat × Mm} (hq : ∀ i j, i < N → j < N → q i = q j → i = j) (hX : XM X (AQ N q)) (hy : plainName y.cls = true) (hm : (lg_sl As).length ≤ mL) (body : ∀ (p : Program) (e : Env) (s : State) (m : MethodId) (below : List Frame) (meth : Method) (c : Code) (ls : Array Slot), Cx p rm s m As.toArray meth c D tys N q cw X y.cls cc mL → meth.sig.returnType = ret → lv_has ls mL (lv_args 0 As) → Vv p l e rm s m As.toArray below meth c D N q cw (MQ below (CQr D tys N q cw X r) As.toArray s 0 0 (AQ N q)) σ (F0 m 0 ls [])) : MR l D tys N q cw X y cc mL ret rm As σ r := by
  refine Met.ofW (cc := cc) (maxL := mL) (ret := ret) hy rfl ?_
  intro p e s m args below meth c s₁ B hml hv
  obtain ⟨rfl, hP, hK, hXs⟩ := hv
  have hts := atoms_spec (ws := Cond.code y cc mL ret :: WT) B.pre
  have hown : s.vm.findClass y.cls = some m.cls := findClass_of_methodNamed B.named
  have hlocks := B.notSynchronized
  have hl := lv_entry As (n := mL) hm
  rw [lg_entry_eq]
  generalize (lg_sl As ++ List.replicate (mL - (lg_sl As).length) Slot.unset).toArray = ls at hl ⊢
  exact body p e s m below meth c ls ⟨⟨B.exec, B.bytes, hml, hown, fun w h => hts w (List.mem_cons_of_mem _ h)⟩, hK, hXs, hX, hq, hlocks⟩ B.returns hl s.heap [] hP va_S.rf

