/-! the law: rows (2) -/
abbrev LVl (b : Nat) (q q' : Nat → Nat) (i : Nat) : List (Nat × Value) := [(0, .ref b), (1, .ref (q 0)), (2, .ref (q' 0)), (3, .int (i32 (i : Int)))]
section LAW
variable {p : Program} {l : Launch} {e : Env} {s : State} {m : MethodId} {below : List Frame} {meth : Method} {c : Code} {b L : Nat} {xs : Nat → Int32} {D : va_G} {ac : Nat → ClassId} {q q' xa xv : Nat → Nat} {Q : State → Prop} {σ τ : Mm} {pc : Nat} {ls : Array Slot} {rest : List Value}
theorem Cl.hq (C : Cl p s m meth c b L xs D ac q q' xa xv) : QI 175 q := C.2.2.2.1
theorem Cl.hq' (C : Cl p s m meth c b L xs D ac q q' xa xv) : QI 19 q' := C.2.2.2.2.1
theorem l_al (C : Cl p s m meth c b L xs D ac q q' xa xv) {lv : List (Nat × Value)} (hl : lv_has ls 4 lv) {x : Nat} {f : Fin 4} (j : Nat) (hj : lv[j]? = some ((f : Nat), .ref x)) (hd : decode code pc = .ok (.aload_n f, 1)) (k : Lv p l e s m below meth c b D ac q q' Q σ τ (F0 m (pc + 1) ls (.ref x :: rest))) : Lv p l e s m below meth c b D ac q q' Q σ τ (F0 m pc ls rest) := fun H locs hP hP' hS => lv_aload_n C.x C.bc hd (i := (f : Nat)) rfl (lv_at hl j hj) (k H locs hP hP' hS)
theorem l_eq (C : Cl p s m meth c b L xs D ac q q' xa xv) {r : Int} {off : Int} (hd : decode code pc = .ok (.if_icmp .eq off, 3)) (ht : (pc : Int) + off = ((1024 : Nat) : Int)) (k : Lv p l e s m below meth c b D ac q q' Q σ τ (F0 m 1024 ls rest)) : Lv p l e s m below meth c b D ac q q' Q σ τ (F0 m pc ls (.int (i32 r) :: .int (i32 r) :: rest)) := fun H locs hP hP' hS => lv_icmp_eq (tgt := 1024) C.x C.bc hd ht (fun _ => k H locs hP hP' hS) (fun h => absurd rfl h)
end LAW
