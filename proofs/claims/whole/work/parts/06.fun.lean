/-! the functions of the methods -/
def strLn (j : Nat) : Nat := ([5, 4, 3] : List Nat).getD j 0
def strCc (j i : Nat) : Int := (([[112, 111, 105, 110, 116], [114, 105, 110, 103], [112, 105, 110]] : List (List Int)).getD j []).getD i 0
abbrev rmJ6_signum_0f7a4 : Room := { frames := 0, cells := 0, slots := 0, locals := 0 }
def fJ6_signum_0f7a4 (v0 : Int) (σ : Mm) : Option (Int) := some (orI (shrI v0 31) (ushrI (-v0) 31))
abbrev rmX0_append : Room := { frames := 0, cells := 0, slots := 0, locals := 0 }
def fX0_append_57 (σ : Mm) : Option (Mm) := some σ
def fX0_append (v1 : Int) (σ : Mm) : Option (Mm) := chk (σ 4 5) 60 (cr (σ 6 (σ 4 5).toNat) ((if σ 6 (σ 4 5).toNat < 11 then chk (σ 4 5) 60 (chk (σ 4 5) 60 (chk (σ 6 (σ 4 5).toNat) 11 (bindv (sto σ (35 + (σ 4 5).toNat) (σ 6 (σ 4 5).toNat).toNat v1) (fun σ_3 => chk (σ_3 4 5) 60 (chk (σ_3 4 5) 60 (bindv (sto σ_3 6 (σ_3 4 5).toNat ((σ_3 6 (σ_3 4 5).toNat) + 1)) (fun σ_4 => chk v1 24 (bindv (sto σ_4 7 (v1).toNat (σ_4 4 5)) (fun σ_5 => fX0_append_57 σ_5))))))))) else fX0_append_57 σ)))
abbrev rmX7_following : Room := { frames := 0, cells := 0, slots := 0, locals := 0 }
def fX7_following_14 (t0 : Int) (σ : Mm) : Option (Int) := some t0
def fX7_following (v0 : Int) (v1 : Int) (σ : Mm) : Option (Int) := cr (v0 + 1) (cr v1 ((if v0 + 1 < v1 then fX7_following_14 (v0 + 1) σ else fX7_following_14 0 σ)))
abbrev rmX1_edgeBetween : Room := { frames := 0, cells := 0, slots := 0, locals := 0 }
def fX1_edgeBetween_58 (k : Nat) (σ : Mm) : Option (Int) := some (-1)
def fX1_edgeBetween_52 (k : Nat) (c2 : Int → Option (Int)) (v1 : Int) (v2 : Int) (v3 : Int) (σ : Mm) : Option (Int) := bindv (v3 + 1) (fun v3_1 => c2 v3_1)
def fX1_edgeBetween_50 (k : Nat) (v3 : Int) (σ : Mm) : Option (Int) := some v3
def fX1_edgeBetween_30 (k : Nat) (c2 : Int → Option (Int)) (v1 : Int) (v2 : Int) (v3 : Int) (σ : Mm) : Option (Int) := chk v3 60 (cr (σ (k + 6) (v3).toNat) (cr v2 ((if σ (k + 6) (v3).toNat = v2 then chk v3 60 (cr (σ (k + 7) (v3).toNat) (cr v1 ((if σ (k + 7) (v3).toNat = v1 then fX1_edgeBetween_50 k v3 σ else fX1_edgeBetween_52 k c2 v1 v2 v3 σ)))) else fX1_edgeBetween_52 k c2 v1 v2 v3 σ))))
def fX1_edgeBetween_2 (k : Nat) (v1 : Int) (v2 : Int) (σ : Mm) (e2 : Option (Int)) (c2 : Int → Option (Int)) (v3 : Int) : Option (Int) := cr v3 (cr (σ k 11) ((if v3 < σ k 11 then chk v3 60 (cr (σ (k + 6) (v3).toNat) (cr v1 ((if σ (k + 6) (v3).toNat = v1 then chk v3 60 (cr (σ (k + 7) (v3).toNat) (cr v2 ((if σ (k + 7) (v3).toNat = v2 then fX1_edgeBetween_50 k v3 σ else fX1_edgeBetween_30 k c2 v1 v2 v3 σ)))) else fX1_edgeBetween_30 k c2 v1 v2 v3 σ)))) else e2)))
def lX1_edgeBetween_2 (k : Nat) (v1 : Int) (v2 : Int) (σ : Mm) (e2 : Option (Int)) (fu : Nat) : Int → Option (Int) := itN (fun _ => none) (fun c2 => fX1_edgeBetween_2 k v1 v2 σ e2 c2) fu
def fX1_edgeBetween (k : Nat) (v1 : Int) (v2 : Int) (σ : Mm) : Option (Int) := bindv 0 (fun v3_1 => lX1_edgeBetween_2 k v1 v2 σ (fX1_edgeBetween_58 k σ) 400 v3_1)
abbrev rmX0_edgeBehind : Room := { frames := 1, cells := 0, slots := 0, locals := 23 }
def fX0_edgeBehind (v1 : Int) (v2 : Int) (σ : Mm) : Option (Int) := chk v1 6 (chk v2 10 (chk v1 6 (bd (fX7_following v2 (σ 100 (v1).toNat) σ) (fun x_2 => chk x_2 10 (bd (fX1_edgeBetween 95 (σ (105 + (v1).toNat) (v2).toNat) (σ (105 + (v1).toNat) (x_2).toNat) σ) (fun x_3 => some x_3))))))
abbrev rmX0_firstOf : Room := { frames := 0, cells := 0, slots := 0, locals := 0 }
def fX0_firstOf (v1 : Int) (σ : Mm) : Option (Int) := chk v1 60 (chk 0 11 (some (σ (35 + (v1).toNat) 0)))
abbrev rmX1_isNode : Room := { frames := 0, cells := 0, slots := 0, locals := 0 }
def fX1_isNode_24 (k : Nat) (t0 : Int) (σ : Mm) : Option (Int) := chb t0 (some t0)
def fX1_isNode_19 (k : Nat) (σ : Mm) : Option (Int) := fX1_isNode_24 k 1 σ
def fX1_isNode (k : Nat) (v1 : Int) (σ : Mm) : Option (Int) := chk v1 24 (cr (σ (k + 3) (v1).toNat) ((if σ (k + 3) (v1).toNat = 0 then chk v1 24 (cr (σ (k + 9) (v1).toNat) ((if σ (k + 9) (v1).toNat = 2 then fX1_isNode_24 k 0 σ else fX1_isNode_19 k σ))) else fX1_isNode_19 k σ)))
abbrev rmX0_lastOf : Room := { frames := 1, cells := 0, slots := 0, locals := 21 }
def fX0_lastOf_50 (t0 : Int) (σ : Mm) : Option (Int) := some t0
def fX0_lastOf_42 (v1 : Int) (σ : Mm) : Option (Int) := chk v1 60 (chk 0 11 (fX0_lastOf_50 (σ (35 + (v1).toNat) 0) σ))
def fX0_lastOf (v1 : Int) (σ : Mm) : Option (Int) := chk v1 60 (bindv ((σ 6 (v1).toNat) - 1) (fun v2_1 => cr v2_1 ((if 0 < v2_1 then chk v1 60 (chk v2_1 11 (bd (fX1_isNode 95 (σ (35 + (v1).toNat) (v2_1).toNat) σ) (fun x_4 => cr x_4 ((if x_4 = 0 then fX0_lastOf_42 v1 σ else chk v1 60 (chk v2_1 11 (fX0_lastOf_50 (σ (35 + (v1).toNat) (v2_1).toNat) σ))))))) else fX0_lastOf_42 v1 σ))))
abbrev rmX7_preceding : Room := { frames := 0, cells := 0, slots := 0, locals := 0 }
def fX7_preceding_13 (t0 : Int) (σ : Mm) : Option (Int) := some t0
def fX7_preceding (v0 : Int) (v1 : Int) (σ : Mm) : Option (Int) := cr v0 ((if 0 < v0 then fX7_preceding_13 (v0 - 1) σ else fX7_preceding_13 (v1 - 1) σ))
abbrev rmX0_nodeAhead : Room := { frames := 1, cells := 0, slots := 0, locals := 21 }
def fX0_nodeAhead_62 (σ : Mm) : Option (Int) := some (-1)
def fX0_nodeAhead_5 (v1 : Int) (σ : Mm) (e5 : Option (Int)) (c5 : Int → Int → Option (Int)) (v3 : Int) (v4 : Int) : Option (Int) := chk v1 6 (cr v4 (cr (σ 100 (v1).toNat) ((if v4 < σ 100 (v1).toNat then chk v1 6 (chk v3 10 (bd (fX1_isNode 95 (σ (105 + (v1).toNat) (v3).toNat) σ) (fun x_4 => cr x_4 ((if x_4 = 0 then chk v1 6 (bd (fX7_preceding v3 (σ 100 (v1).toNat) σ) (fun x_6 => bindv x_6 (fun v3_7 => bindv (v4 + 1) (fun v4_8 => c5 v3_7 v4_8)))) else some v3))))) else e5))))
def lX0_nodeAhead_5 (v1 : Int) (σ : Mm) (e5 : Option (Int)) (fu : Nat) : Int → Int → Option (Int) := itN (fun _ _ => none) (fun c5 => fX0_nodeAhead_5 v1 σ e5 c5) fu
def fX0_nodeAhead (v1 : Int) (v2 : Int) (σ : Mm) : Option (Int) := bindv v2 (fun v3_1 => bindv 0 (fun v4_2 => lX0_nodeAhead_5 v1 σ (fX0_nodeAhead_62 σ) 400 v3_1 v4_2))
abbrev rmX7_areNext : Room := { frames := 1, cells := 0, slots := 0, locals := 21 }
def fX7_areNext_55 (w0 : Nat) (σ : Mm) : Option (Int) := some 0
def fX7_areNext_49 (w0 : Nat) (c3 : Int → Option (Int)) (v1 : Int) (v2 : Int) (v3 : Int) (v4 : Int) (σ : Mm) : Option (Int) := bindv (v4 + 1) (fun v4_1 => c3 v4_1)
def fX7_areNext_47 (w0 : Nat) (σ : Mm) : Option (Int) := some 1
def fX7_areNext_33 (w0 : Nat) (c3 : Int → Option (Int)) (v1 : Int) (v2 : Int) (v3 : Int) (v4 : Int) (v5 : Int) (σ : Mm) : Option (Int) := chk v4 10 (cr (σ w0 (v4).toNat) (cr v3 ((if σ w0 (v4).toNat = v3 then cr v5 (cr v2 ((if v5 = v2 then fX7_areNext_47 w0 σ else fX7_areNext_49 w0 c3 v1 v2 v3 v4 σ))) else fX7_areNext_49 w0 c3 v1 v2 v3 v4 σ))))
def fX7_areNext_3 (w0 : Nat) (v1 : Int) (v2 : Int) (v3 : Int) (σ : Mm) (e3 : Option (Int)) (c3 : Int → Option (Int)) (v4 : Int) : Option (Int) := cr v4 (cr v1 ((if v4 < v1 then bd (fX7_following v4 v1 σ) (fun x_3 => chk x_3 10 (bindv (σ w0 (x_3).toNat) (fun v5_4 => chk v4 10 (cr (σ w0 (v4).toNat) (cr v2 ((if σ w0 (v4).toNat = v2 then cr v5_4 (cr v3 ((if v5_4 = v3 then fX7_areNext_47 w0 σ else fX7_areNext_33 w0 c3 v1 v2 v3 v4 v5_4 σ))) else fX7_areNext_33 w0 c3 v1 v2 v3 v4 v5_4 σ))))))) else e3)))
def lX7_areNext_3 (w0 : Nat) (v1 : Int) (v2 : Int) (v3 : Int) (σ : Mm) (e3 : Option (Int)) (fu : Nat) : Int → Option (Int) := itN (fun _ => none) (fun c3 => fX7_areNext_3 w0 v1 v2 v3 σ e3 c3) fu
def fX7_areNext (w0 : Nat) (v1 : Int) (v2 : Int) (v3 : Int) (σ : Mm) : Option (Int) := bindv 0 (fun v4_1 => lX7_areNext_3 w0 v1 v2 v3 σ (fX7_areNext_55 w0 σ) 400 v4_1)
abbrev rmX0_ringHas : Room := { frames := 2, cells := 0, slots := 0, locals := 46 }
def fX0_ringHas (v1 : Int) (v2 : Int) (v3 : Int) (σ : Mm) : Option (Int) := chk v1 6 (chk v1 6 (bd (fX7_areNext (105 + (v1).toNat) (σ 100 (v1).toNat) v2 v3 σ) (fun x_2 => chb x_2 (some x_2))))
abbrev rmX0_ringOf : Room := { frames := 3, cells := 0, slots := 0, locals := 69 }
def fX0_ringOf_59 (σ : Mm) : Option (Int) := some (-4)
def fX0_ringOf_53 (c5 : Int → Int → Option (Int)) (v1 : Int) (v2 : Int) (v3 : Int) (v4 : Int) (σ : Mm) : Option (Int) := bindv (v4 + 1) (fun v4_1 => c5 v3 v4_1)
def fX0_ringOf_5 (v1 : Int) (v2 : Int) (σ : Mm) (e5 : Option (Int)) (c5 : Int → Int → Option (Int)) (v3 : Int) (v4 : Int) : Option (Int) := cr v4 (cr (σ 95 10) ((if v4 < σ 95 10 then chk v1 60 (chk 0 11 (chk v1 60 (chk 1 11 (bd (fX0_ringHas v4 (σ (35 + (v1).toNat) 0) (σ (35 + (v1).toNat) 1) σ) (fun x_5 => cr x_5 ((if x_5 = 0 then fX0_ringOf_53 c5 v1 v2 v3 v4 σ else cr v3 (cr v2 ((if v3 = v2 then some v4 else bindv (v3 + 1) (fun v3_9 => fX0_ringOf_53 c5 v1 v2 v3_9 v4 σ))))))))))) else e5)))
def lX0_ringOf_5 (v1 : Int) (v2 : Int) (σ : Mm) (e5 : Option (Int)) (fu : Nat) : Int → Int → Option (Int) := itN (fun _ _ => none) (fun c5 => fX0_ringOf_5 v1 v2 σ e5 c5) fu
def fX0_ringOf (v1 : Int) (v2 : Int) (σ : Mm) : Option (Int) := bindv 0 (fun v3_1 => bindv 0 (fun v4_2 => lX0_ringOf_5 v1 v2 σ (fX0_ringOf_59 σ) 400 v3_1 v4_2))
abbrev rmX0_ringsOf : Room := { frames := 1, cells := 0, slots := 0, locals := 23 }
def fX0_ringsOf_41 (t0 : Int) (σ : Mm) : Option (Int) := some t0
def fX0_ringsOf (v1 : Int) (σ : Mm) : Option (Int) := chk v1 60 (chk 0 11 (chk v1 60 (chk 1 11 (bd (fX1_edgeBetween 95 (σ (35 + (v1).toNat) 0) (σ (35 + (v1).toNat) 1) σ) (fun x_3 => bindv x_3 (fun v2_4 => cr v2_4 ((if v2_4 < 0 then fX0_ringsOf_41 0 σ else chk v2_4 60 (fX0_ringsOf_41 (σ 103 (v2_4).toNat) σ)))))))))
abbrev rmX0_traceArc : Room := { frames := 2, cells := 0, slots := 0, locals := 46 }
def fX0_traceArc_169 (σ : Mm) : Option (Mm) := bindv (sto σ 4 5 ((σ 4 5) + 1)) (fun σ_1 => some σ_1)
def fX0_traceArc_122 (c72 : Int → Int → Mm → Option (Mm)) (e72 : Mm → Option (Mm)) (v1 : Int) (v3 : Int) (v5 : Int) (v6 : Int) (v7 : Int) (σ : Mm) : Option (Mm) := chk v1 6 (chk v6 10 (bd (fX0_append (σ (105 + (v1).toNat) (v6).toNat) σ) (fun σ_2 => chk v1 6 (chk v6 10 (bd (fX1_isNode 95 (σ_2 (105 + (v1).toNat) (v6).toNat) σ_2) (fun x_4 => cr x_4 ((if x_4 = 0 then bindv (v7 + 1) (fun v7_6 => c72 v6 v7_6 σ_2) else e72 σ_2))))))))
def fX0_traceArc_100 (c72 : Int → Int → Mm → Option (Mm)) (e72 : Mm → Option (Mm)) (v1 : Int) (v3 : Int) (v5 : Int) (v6 : Int) (v7 : Int) (σ : Mm) : Option (Mm) := bd (fX7_following v6 v3 σ) (fun x_1 => bindv x_1 (fun v6_2 => cr v5 ((if v5 = 0 then fX0_traceArc_122 c72 e72 v1 v3 v5 v6_2 v7 σ else cr v7 (cr v3 ((if v7 = v3 then e72 σ else fX0_traceArc_122 c72 e72 v1 v3 v5 v6_2 v7 σ)))))))
def fX0_traceArc_72 (v1 : Int) (v3 : Int) (v5 : Int) (e72 : Mm → Option (Mm)) (c72 : Int → Int → Mm → Option (Mm)) (v6 : Int) (v7 : Int) (σ : Mm) : Option (Mm) := cr v7 (cr v3 ((if v3 < v7 then e72 σ else bd (fX0_edgeBehind v1 v6 σ) (fun x_3 => bindv x_3 (fun v8_4 => cr v8_4 ((if v8_4 < 0 then fX0_traceArc_100 c72 e72 v1 v3 v5 v6 v7 σ else chb 1 (chk v8_4 60 (bindv (sto σ 8 (v8_4).toNat 1) (fun σ_6 => fX0_traceArc_100 c72 e72 v1 v3 v5 v6 v7 σ_6))))))))))
def lX0_traceArc_72 (v1 : Int) (v3 : Int) (v5 : Int) (e72 : Mm → Option (Mm)) (fu : Nat) : Int → Int → Mm → Option (Mm) := itN (fun _ _ _ => none) (fun c72 => fX0_traceArc_72 v1 v3 v5 e72 c72) fu
def fX0_traceArc_41 (v1 : Int) (v3 : Int) (v5 : Int) (t0 : Int) (σ : Mm) : Option (Mm) := bindv t0 (fun v6_1 => chk (σ 4 5) 60 (bindv (sto σ 6 (σ 4 5).toNat 0) (fun σ_2 => chk v1 6 (chk v6_1 10 (bd (fX0_append (σ_2 (105 + (v1).toNat) (v6_1).toNat) σ_2) (fun σ_4 => bindv 1 (fun v7_5 => lX0_traceArc_72 v1 v3 v5 (fun σ_6 => fX0_traceArc_169 σ_6) 400 v6_1 v7_5 σ_4)))))))
def fX0_traceArc_28 (v1 : Int) (v3 : Int) (v4 : Int) (t0 : Int) (σ : Mm) : Option (Mm) := bindv t0 (fun v5_1 => cr v5_1 ((if v5_1 = 0 then fX0_traceArc_41 v1 v3 v5_1 v4 σ else fX0_traceArc_41 v1 v3 v5_1 0 σ)))
def fX0_traceArc (v1 : Int) (v2 : Int) (σ : Mm) : Option (Mm) := chk v1 6 (bindv (σ 100 (v1).toNat) (fun v3_1 => bd (fX0_nodeAhead v1 v2 σ) (fun x_2 => bindv x_2 (fun v4_3 => cr v4_3 ((if v4_3 < 0 then fX0_traceArc_28 v1 v3_1 v4_3 1 σ else fX0_traceArc_28 v1 v3_1 v4_3 0 σ))))))
abbrev rmX0_trace : Room := { frames := 3, cells := 0, slots := 0, locals := 74 }
def fX0_trace_101 (σ : Mm) : Option (Mm) := some σ
def fX0_trace_95 (c28 : Int → Mm → Option (Mm)) (v1 : Int) (σ : Mm) : Option (Mm) := bindv (v1 + 1) (fun v1_1 => c28 v1_1 σ)
def fX0_trace_89 (c41 : Int → Mm → Option (Mm)) (v1 : Int) (v2 : Int) (σ : Mm) : Option (Mm) := bindv (v2 + 1) (fun v2_1 => c41 v2_1 σ)
def fX0_trace_41 (v1 : Int) (e41 : Mm → Option (Mm)) (c41 : Int → Mm → Option (Mm)) (v2 : Int) (σ : Mm) : Option (Mm) := chk v1 6 (cr v2 (cr (σ 100 (v1).toNat) ((if v2 < σ 100 (v1).toNat then bd (fX0_edgeBehind v1 v2 σ) (fun x_3 => bindv x_3 (fun v3_4 => cr v3_4 ((if v3_4 < 0 then fX0_trace_89 c41 v1 v2 σ else chk v3_4 60 (cr (σ 8 (v3_4).toNat) ((if σ 8 (v3_4).toNat = 0 then cr (σ 4 5) ((if σ 4 5 < 60 then bd (fX0_traceArc v1 v2 σ) (fun σ_8 => fX0_trace_89 c41 v1 v2 σ_8) else fX0_trace_89 c41 v1 v2 σ)) else fX0_trace_89 c41 v1 v2 σ))))))) else e41 σ))))
def lX0_trace_41 (v1 : Int) (e41 : Mm → Option (Mm)) (fu : Nat) : Int → Mm → Option (Mm) := itN (fun _ _ => none) (fun c41 => fX0_trace_41 v1 e41 c41) fu
def fX0_trace_28 (e28 : Mm → Option (Mm)) (c28 : Int → Mm → Option (Mm)) (v1 : Int) (σ : Mm) : Option (Mm) := cr v1 (cr (σ 95 10) ((if v1 < σ 95 10 then bindv 0 (fun v2_3 => lX0_trace_41 v1 (fun σ_4 => fX0_trace_95 c28 v1 σ_4) 400 v2_3 σ) else e28 σ)))
def lX0_trace_28 (e28 : Mm → Option (Mm)) (fu : Nat) : Int → Mm → Option (Mm) := itN (fun _ _ => none) (fun c28 => fX0_trace_28 e28 c28) fu
def fX0_trace_26 (σ : Mm) : Option (Mm) := bindv 0 (fun v1_1 => lX0_trace_28 (fun σ_2 => fX0_trace_101 σ_2) 400 v1_1 σ)
def fX0_trace_7 (e7 : Mm → Option (Mm)) (c7 : Int → Mm → Option (Mm)) (v1 : Int) (σ : Mm) : Option (Mm) := cr v1 ((if v1 < 60 then chb 0 (chk v1 60 (bindv (sto σ 8 (v1).toNat 0) (fun σ_2 => bindv (v1 + 1) (fun v1_3 => c7 v1_3 σ_2)))) else e7 σ))
def lX0_trace_7 (e7 : Mm → Option (Mm)) (fu : Nat) : Int → Mm → Option (Mm) := itN (fun _ _ => none) (fun c7 => fX0_trace_7 e7 c7) fu
def fX0_trace (σ : Mm) : Option (Mm) := bindv (sto σ 4 5 0) (fun σ_1 => bindv 0 (fun v1_2 => lX0_trace_7 (fun σ_3 => fX0_trace_26 σ_3) 400 v1_2 σ_1))
abbrev rmX1_addCorner : Room := { frames := 0, cells := 0, slots := 0, locals := 0 }
def fX1_addCorner_46 (k : Nat) (σ : Mm) : Option (Mm) := some σ
def fX1_addCorner (k : Nat) (v1 : Int) (σ : Mm) : Option (Mm) := bindv ((σ k 10) - 1) (fun v2_1 => cr v2_1 ((if v2_1 < 0 then fX1_addCorner_46 k σ else chk v2_1 6 (cr (σ (k + 5) (v2_1).toNat) ((if σ (k + 5) (v2_1).toNat < 10 then chk v2_1 6 (chk v2_1 6 (chk (σ (k + 5) (v2_1).toNat) 10 (bindv (sto σ (k + 10 + (v2_1).toNat) (σ (k + 5) (v2_1).toNat).toNat v1) (fun σ_5 => chk v2_1 6 (chk v2_1 6 (bindv (sto σ_5 (k + 5) (v2_1).toNat ((σ_5 (k + 5) (v2_1).toNat) + 1)) (fun σ_6 => fX1_addCorner_46 k σ_6))))))) else fX1_addCorner_46 k σ))))))
abbrev rmX1_addPoint : Room := { frames := 0, cells := 0, slots := 0, locals := 0 }
def fX1_addPoint_39 (k : Nat) (σ : Mm) : Option (Mm) := some σ
def fX1_addPoint (k : Nat) (v1 : Int) (v2 : Int) (σ : Mm) : Option (Mm) := cr (σ k 9) ((if σ k 9 < 24 then chk (σ k 9) 24 (bindv (sto σ (k + 1) (σ k 9).toNat v1) (fun σ_2 => chk (σ_2 k 9) 24 (bindv (sto σ_2 (k + 2) (σ_2 k 9).toNat v2) (fun σ_3 => bindv (sto σ_3 k 9 ((σ_3 k 9) + 1)) (fun σ_4 => fX1_addPoint_39 k σ_4))))) else fX1_addPoint_39 k σ))
abbrev rmX1_areOpposite : Room := { frames := 0, cells := 0, slots := 0, locals := 0 }
def fX1_areOpposite_21 (t0 : Int) (σ : Mm) : Option (Int) := chb t0 (some t0)
def fX1_areOpposite_20 (σ : Mm) : Option (Int) := fX1_areOpposite_21 0 σ
def fX1_areOpposite_16 (σ : Mm) : Option (Int) := fX1_areOpposite_21 1 σ
def fX1_areOpposite_8 (v0 : Int) (v1 : Int) (σ : Mm) : Option (Int) := cr v0 ((if 0 < v0 then cr v1 ((if v1 < 0 then fX1_areOpposite_16 σ else fX1_areOpposite_20 σ)) else fX1_areOpposite_20 σ))
def fX1_areOpposite (v0 : Int) (v1 : Int) (σ : Mm) : Option (Int) := cr v0 ((if v0 < 0 then cr v1 ((if 0 < v1 then fX1_areOpposite_16 σ else fX1_areOpposite_8 v0 v1 σ)) else fX1_areOpposite_8 v0 v1 σ))
abbrev rmX1_areaOf : Room := { frames := 1, cells := 0, slots := 0, locals := 21 }
def fX1_areaOf_67 (k : Nat) (w1 : Nat) (v3 : Int) (σ : Mm) : Option (Int) := some v3
def fX1_areaOf_5 (k : Nat) (w1 : Nat) (v2 : Int) (σ : Mm) (e5 : Int → Option (Int)) (c5 : Int → Int → Option (Int)) (v3 : Int) (v4 : Int) : Option (Int) := cr v4 (cr v2 ((if v4 < v2 then chk v4 10 (bindv (σ w1 (v4).toNat) (fun v5_3 => bd (fX7_following v4 v2 σ) (fun x_4 => chk x_4 10 (bindv (σ w1 (x_4).toNat) (fun v6_5 => chk v5_3 24 (chk v6_5 24 (chk v6_5 24 (chk v5_3 24 (bindv (v3 + (((σ (k + 1) (v5_3).toNat) * (σ (k + 2) (v6_5).toNat)) - ((σ (k + 1) (v6_5).toNat) * (σ (k + 2) (v5_3).toNat)))) (fun v3_6 => bindv (v4 + 1) (fun v4_7 => c5 v3_6 v4_7))))))))))) else e5 v3)))
def lX1_areaOf_5 (k : Nat) (w1 : Nat) (v2 : Int) (σ : Mm) (e5 : Int → Option (Int)) (fu : Nat) : Int → Int → Option (Int) := itN (fun _ _ => none) (fun c5 => fX1_areaOf_5 k w1 v2 σ e5 c5) fu
def fX1_areaOf (k : Nat) (w1 : Nat) (v2 : Int) (σ : Mm) : Option (Int) := bindv 0 (fun v3_1 => bindv 0 (fun v4_2 => lX1_areaOf_5 k w1 v2 σ (fun v3_3 => fX1_areaOf_67 k w1 v3_3 σ) 400 v3_1 v4_2))
abbrev rmX1_areasStand : Room := { frames := 2, cells := 0, slots := 0, locals := 47 }
def fX1_areasStand_37 (k : Nat) (σ : Mm) : Option (Int) := some 1
def fX1_areasStand_2 (k : Nat) (σ : Mm) (e2 : Option (Int)) (c2 : Int → Option (Int)) (v1 : Int) : Option (Int) := cr v1 (cr (σ k 10) ((if v1 < σ k 10 then chk v1 6 (chk v1 6 (bd (fX1_areaOf k (k + 10 + (v1).toNat) (σ (k + 5) (v1).toNat) σ) (fun x_4 => cr x_4 ((if x_4 = 0 then some 0 else bindv (v1 + 1) (fun v1_6 => c2 v1_6)))))) else e2)))
def lX1_areasStand_2 (k : Nat) (σ : Mm) (e2 : Option (Int)) (fu : Nat) : Int → Option (Int) := itN (fun _ => none) (fun c2 => fX1_areasStand_2 k σ e2 c2) fu
def fX1_areasStand (k : Nat) (σ : Mm) : Option (Int) := bindv 0 (fun v1_1 => lX1_areasStand_2 k σ (fX1_areasStand_37 k σ) 400 v1_1)
abbrev rmX1_clear : Room := { frames := 0, cells := 0, slots := 0, locals := 0 }
def fX1_clear_31 (k : Nat) (σ : Mm) : Option (Mm) := some σ
def fX1_clear_12 (k : Nat) (e12 : Mm → Option (Mm)) (c12 : Int → Mm → Option (Mm)) (v1 : Int) (σ : Mm) : Option (Mm) := cr v1 ((if v1 < 24 then chb 0 (chk v1 24 (bindv (sto σ (k + 3) (v1).toNat 0) (fun σ_2 => bindv (v1 + 1) (fun v1_3 => c12 v1_3 σ_2)))) else e12 σ))
def lX1_clear_12 (k : Nat) (e12 : Mm → Option (Mm)) (fu : Nat) : Int → Mm → Option (Mm) := itN (fun _ _ => none) (fun c12 => fX1_clear_12 k e12 c12) fu
def fX1_clear (k : Nat) (σ : Mm) : Option (Mm) := bindv (sto σ k 9 0) (fun σ_1 => bindv (sto σ_1 k 10 0) (fun σ_2 => bindv 0 (fun v1_3 => lX1_clear_12 k (fun σ_4 => fX1_clear_31 k σ_4) 400 v1_3 σ_2)))
abbrev rmX1_copyFrom : Room := { frames := 1, cells := 0, slots := 0, locals := 40 }
def fX1_copyFrom_143 (k : Nat) (w1 : Nat) (σ : Mm) : Option (Mm) := bindv (cpy σ (w1 + 6) (k + 6) 60) (fun σ_1 => bindv (cpy σ_1 (w1 + 7) (k + 7) 60) (fun σ_2 => bindv (cpy σ_2 (w1 + 8) (k + 8) 60) (fun σ_3 => some σ_3)))
def fX1_copyFrom_112 (k : Nat) (w1 : Nat) (e112 : Mm → Option (Mm)) (c112 : Int → Mm → Option (Mm)) (v2 : Int) (σ : Mm) : Option (Mm) := cr v2 ((if v2 < 6 then chk v2 6 (chk v2 6 (bindv (cpy σ ((w1 + 4) + 6 + (v2).toNat) (k + 10 + (v2).toNat) 10) (fun σ_4 => bindv (v2 + 1) (fun v2_5 => c112 v2_5 σ_4)))) else e112 σ))
def lX1_copyFrom_112 (k : Nat) (w1 : Nat) (e112 : Mm → Option (Mm)) (fu : Nat) : Int → Mm → Option (Mm) := itN (fun _ _ => none) (fun c112 => fX1_copyFrom_112 k w1 e112 c112) fu
def fX1_copyFrom_80 (k : Nat) (w1 : Nat) (σ : Mm) : Option (Mm) := bindv (cpy σ (w1 + 9) (k + 9) 24) (fun σ_1 => bindv (cpy σ_1 (w1 + 5) (k + 5) 6) (fun σ_2 => bindv 0 (fun v2_3 => lX1_copyFrom_112 k w1 (fun σ_4 => fX1_copyFrom_143 k w1 σ_4) 400 v2_3 σ_2)))
def fX1_copyFrom_56 (k : Nat) (w1 : Nat) (e56 : Mm → Option (Mm)) (c56 : Int → Mm → Option (Mm)) (v2 : Int) (σ : Mm) : Option (Mm) := cr v2 ((if v2 < 24 then chk v2 24 (chb (σ (w1 + 3) (v2).toNat) (chk v2 24 (bindv (sto σ (k + 3) (v2).toNat (σ (w1 + 3) (v2).toNat)) (fun σ_2 => bindv (v2 + 1) (fun v2_3 => c56 v2_3 σ_2))))) else e56 σ))
def lX1_copyFrom_56 (k : Nat) (w1 : Nat) (e56 : Mm → Option (Mm)) (fu : Nat) : Int → Mm → Option (Mm) := itN (fun _ _ => none) (fun c56 => fX1_copyFrom_56 k w1 e56 c56) fu
def fX1_copyFrom (k : Nat) (w1 : Nat) (σ : Mm) : Option (Mm) := bindv (sto σ k 9 (σ w1 9)) (fun σ_1 => bindv (sto σ_1 k 10 (σ_1 w1 10)) (fun σ_2 => bindv (sto σ_2 k 11 (σ_2 w1 11)) (fun σ_3 => bindv (cpy σ_3 (w1 + 1) (k + 1) 24) (fun σ_4 => bindv (cpy σ_4 (w1 + 2) (k + 2) 24) (fun σ_5 => bindv 0 (fun v2_6 => lX1_copyFrom_56 k w1 (fun σ_7 => fX1_copyFrom_80 k w1 σ_7) 400 v2_6 σ_5))))))
abbrev rmX1_sideOf : Room := { frames := 0, cells := 0, slots := 0, locals := 0 }
def fX1_sideOf (k : Nat) (v1 : Int) (v2 : Int) (v3 : Int) (v4 : Int) (σ : Mm) : Option (Int) := chk v2 24 (chk v1 24 (chk v1 24 (chk v2 24 (chk v1 24 (chk v1 24 (some ((((σ (k + 1) (v2).toNat) - (σ (k + 1) (v1).toNat)) * (v4 - (σ (k + 2) (v1).toNat))) - (((σ (k + 2) (v2).toNat) - (σ (k + 2) (v1).toNat)) * (v3 - (σ (k + 1) (v1).toNat))))))))))
abbrev rmX1_cross : Room := { frames := 1, cells := 0, slots := 0, locals := 24 }
def fX1_cross_93 (k : Nat) (t0 : Int) (σ : Mm) : Option (Int) := chb t0 (some t0)
def fX1_cross_92 (k : Nat) (σ : Mm) : Option (Int) := fX1_cross_93 k 0 σ
def fX1_cross (k : Nat) (v1 : Int) (v2 : Int) (v3 : Int) (v4 : Int) (σ : Mm) : Option (Int) := chk v3 24 (chk v3 24 (bd (fX1_sideOf k v1 v2 (σ (k + 1) (v3).toNat) (σ (k + 2) (v3).toNat) σ) (fun x_1 => chk v4 24 (chk v4 24 (bd (fX1_sideOf k v1 v2 (σ (k + 1) (v4).toNat) (σ (k + 2) (v4).toNat) σ) (fun x_2 => bd (fX1_areOpposite x_1 x_2 σ) (fun x_3 => cr x_3 ((if x_3 = 0 then fX1_cross_92 k σ else chk v1 24 (chk v1 24 (bd (fX1_sideOf k v3 v4 (σ (k + 1) (v1).toNat) (σ (k + 2) (v1).toNat) σ) (fun x_5 => chk v2 24 (chk v2 24 (bd (fX1_sideOf k v3 v4 (σ (k + 1) (v2).toNat) (σ (k + 2) (v2).toNat) σ) (fun x_6 => bd (fX1_areOpposite x_5 x_6 σ) (fun x_7 => cr x_7 ((if x_7 = 0 then fX1_cross_92 k σ else fX1_cross_93 k 1 σ))))))))))))))))))
abbrev rmX1_ends : Room := { frames := 0, cells := 0, slots := 0, locals := 0 }
def fX1_ends_25 (k : Nat) (t0 : Int) (σ : Mm) : Option (Int) := chb t0 (some t0)
def fX1_ends_20 (k : Nat) (σ : Mm) : Option (Int) := fX1_ends_25 k 1 σ
def fX1_ends (k : Nat) (v1 : Int) (v2 : Int) (σ : Mm) : Option (Int) := chk v1 60 (cr (σ (k + 6) (v1).toNat) (cr v2 ((if σ (k + 6) (v1).toNat = v2 then fX1_ends_20 k σ else chk v1 60 (cr (σ (k + 7) (v1).toNat) (cr v2 ((if σ (k + 7) (v1).toNat = v2 then fX1_ends_20 k σ else fX1_ends_25 k 0 σ))))))))
abbrev rmX1_noteEdge : Room := { frames := 1, cells := 0, slots := 0, locals := 23 }
def fX1_noteEdge_93 (k : Nat) (σ : Mm) : Option (Mm) := some σ
def fX1_noteEdge (k : Nat) (v1 : Int) (v2 : Int) (σ : Mm) : Option (Mm) := bd (fX1_edgeBetween k v1 v2 σ) (fun x_1 => bindv x_1 (fun v3_2 => cr v3_2 ((if v3_2 < 0 then cr (σ k 11) ((if σ k 11 < 60 then chk (σ k 11) 60 (bindv (sto σ (k + 6) (σ k 11).toNat v1) (fun σ_5 => chk (σ_5 k 11) 60 (bindv (sto σ_5 (k + 7) (σ_5 k 11).toNat v2) (fun σ_6 => chk (σ_6 k 11) 60 (bindv (sto σ_6 (k + 8) (σ_6 k 11).toNat 1) (fun σ_7 => bindv (sto σ_7 k 11 ((σ_7 k 11) + 1)) (fun σ_8 => chk v1 24 (chk v1 24 (bindv (sto σ_8 (k + 9) (v1).toNat ((σ_8 (k + 9) (v1).toNat) + 1)) (fun σ_9 => chk v2 24 (chk v2 24 (bindv (sto σ_9 (k + 9) (v2).toNat ((σ_9 (k + 9) (v2).toNat) + 1)) (fun σ_10 => fX1_noteEdge_93 k σ_10))))))))))))) else fX1_noteEdge_93 k σ)) else chk v3_2 60 (chk v3_2 60 (bindv (sto σ (k + 8) (v3_2).toNat ((σ (k + 8) (v3_2).toNat) + 1)) (fun σ_11 => fX1_noteEdge_93 k σ_11)))))))
abbrev rmX1_gatherEdges : Room := { frames := 2, cells := 0, slots := 0, locals := 46 }
def fX1_gatherEdges_89 (k : Nat) (σ : Mm) : Option (Mm) := some σ
def fX1_gatherEdges_83 (k : Nat) (c28 : Int → Mm → Option (Mm)) (v1 : Int) (σ : Mm) : Option (Mm) := bindv (v1 + 1) (fun v1_1 => c28 v1_1 σ)
def fX1_gatherEdges_38 (k : Nat) (v1 : Int) (e38 : Mm → Option (Mm)) (c38 : Int → Mm → Option (Mm)) (v2 : Int) (σ : Mm) : Option (Mm) := chk v1 6 (cr v2 (cr (σ (k + 5) (v1).toNat) ((if v2 < σ (k + 5) (v1).toNat then chk v1 6 (chk v2 10 (chk v1 6 (chk v1 6 (bd (fX7_following v2 (σ (k + 5) (v1).toNat) σ) (fun x_5 => chk x_5 10 (bd (fX1_noteEdge k (σ (k + 10 + (v1).toNat) (v2).toNat) (σ (k + 10 + (v1).toNat) (x_5).toNat) σ) (fun σ_6 => bindv (v2 + 1) (fun v2_7 => c38 v2_7 σ_6)))))))) else e38 σ))))
def lX1_gatherEdges_38 (k : Nat) (v1 : Int) (e38 : Mm → Option (Mm)) (fu : Nat) : Int → Mm → Option (Mm) := itN (fun _ _ => none) (fun c38 => fX1_gatherEdges_38 k v1 e38 c38) fu
def fX1_gatherEdges_28 (k : Nat) (e28 : Mm → Option (Mm)) (c28 : Int → Mm → Option (Mm)) (v1 : Int) (σ : Mm) : Option (Mm) := cr v1 (cr (σ k 10) ((if v1 < σ k 10 then bindv 0 (fun v2_3 => lX1_gatherEdges_38 k v1 (fun σ_4 => fX1_gatherEdges_83 k c28 v1 σ_4) 400 v2_3 σ) else e28 σ)))
def lX1_gatherEdges_28 (k : Nat) (e28 : Mm → Option (Mm)) (fu : Nat) : Int → Mm → Option (Mm) := itN (fun _ _ => none) (fun c28 => fX1_gatherEdges_28 k e28 c28) fu
def fX1_gatherEdges_26 (k : Nat) (σ : Mm) : Option (Mm) := bindv 0 (fun v1_1 => lX1_gatherEdges_28 k (fun σ_2 => fX1_gatherEdges_89 k σ_2) 400 v1_1 σ)
def fX1_gatherEdges_7 (k : Nat) (e7 : Mm → Option (Mm)) (c7 : Int → Mm → Option (Mm)) (v1 : Int) (σ : Mm) : Option (Mm) := cr v1 ((if v1 < 24 then chk v1 24 (bindv (sto σ (k + 9) (v1).toNat 0) (fun σ_2 => bindv (v1 + 1) (fun v1_3 => c7 v1_3 σ_2))) else e7 σ))
def lX1_gatherEdges_7 (k : Nat) (e7 : Mm → Option (Mm)) (fu : Nat) : Int → Mm → Option (Mm) := itN (fun _ _ => none) (fun c7 => fX1_gatherEdges_7 k e7 c7) fu
def fX1_gatherEdges (k : Nat) (σ : Mm) : Option (Mm) := bindv (sto σ k 11 0) (fun σ_1 => bindv 0 (fun v1_2 => lX1_gatherEdges_7 k (fun σ_3 => fX1_gatherEdges_26 k σ_3) 400 v1_2 σ_1))
abbrev rmX1_isOn : Room := { frames := 1, cells := 0, slots := 0, locals := 24 }
def fX1_isOn_95 (k : Nat) (t0 : Int) (σ : Mm) : Option (Int) := chb t0 (some t0)
def fX1_isOn_94 (k : Nat) (σ : Mm) : Option (Int) := fX1_isOn_95 k 0 σ
def fX1_isOn (k : Nat) (v1 : Int) (v2 : Int) (v3 : Int) (v4 : Int) (σ : Mm) : Option (Int) := bd (fX1_sideOf k v1 v2 v3 v4 σ) (fun x_1 => cr x_1 ((if x_1 = 0 then chk v1 24 (chk v2 24 (cr (σ (k + 1) (v1).toNat) (cr (σ (k + 1) (v2).toNat) (cr v3 (cr (mnI (σ (k + 1) (v1).toNat) (σ (k + 1) (v2).toNat)) ((if v3 < mnI (σ (k + 1) (v1).toNat) (σ (k + 1) (v2).toNat) then fX1_isOn_94 k σ else chk v1 24 (chk v2 24 (cr (σ (k + 1) (v1).toNat) (cr (σ (k + 1) (v2).toNat) (cr v3 (cr (mxI (σ (k + 1) (v1).toNat) (σ (k + 1) (v2).toNat)) ((if mxI (σ (k + 1) (v1).toNat) (σ (k + 1) (v2).toNat) < v3 then fX1_isOn_94 k σ else chk v1 24 (chk v2 24 (cr (σ (k + 2) (v1).toNat) (cr (σ (k + 2) (v2).toNat) (cr v4 (cr (mnI (σ (k + 2) (v1).toNat) (σ (k + 2) (v2).toNat)) ((if v4 < mnI (σ (k + 2) (v1).toNat) (σ (k + 2) (v2).toNat) then fX1_isOn_94 k σ else chk v1 24 (chk v2 24 (cr (σ (k + 2) (v1).toNat) (cr (σ (k + 2) (v2).toNat) (cr v4 (cr (mxI (σ (k + 2) (v1).toNat) (σ (k + 2) (v2).toNat)) ((if mxI (σ (k + 2) (v1).toNat) (σ (k + 2) (v2).toNat) < v4 then fX1_isOn_94 k σ else fX1_isOn_95 k 1 σ)))))))))))))))))))))))))))) else fX1_isOn_94 k σ)))
abbrev rmX1_isClear : Room := { frames := 2, cells := 0, slots := 0, locals := 48 }
def fX1_isClear_132 (k : Nat) (σ : Mm) : Option (Int) := some 1
def fX1_isClear_126 (k : Nat) (c72 : Int → Option (Int)) (v2 : Int) (v3 : Int) (v4 : Int) (σ : Mm) : Option (Int) := bindv (v4 + 1) (fun v4_1 => c72 v4_1)
def fX1_isClear_72 (k : Nat) (v2 : Int) (v3 : Int) (σ : Mm) (e72 : Option (Int)) (c72 : Int → Option (Int)) (v4 : Int) : Option (Int) := cr v4 (cr (σ k 11) ((if v4 < σ k 11 then bd (fX1_ends k v4 v2 σ) (fun x_3 => cr x_3 ((if x_3 = 0 then bd (fX1_ends k v4 v3 σ) (fun x_5 => cr x_5 ((if x_5 = 0 then chk v4 60 (chk v4 60 (bd (fX1_cross k v2 v3 (σ (k + 6) (v4).toNat) (σ (k + 7) (v4).toNat) σ) (fun x_7 => cr x_7 ((if x_7 = 0 then fX1_isClear_126 k c72 v2 v3 v4 σ else some 0))))) else fX1_isClear_126 k c72 v2 v3 v4 σ))) else fX1_isClear_126 k c72 v2 v3 v4 σ))) else e72)))
def lX1_isClear_72 (k : Nat) (v2 : Int) (v3 : Int) (σ : Mm) (e72 : Option (Int)) (fu : Nat) : Int → Option (Int) := itN (fun _ => none) (fun c72 => fX1_isClear_72 k v2 v3 σ e72 c72) fu
def fX1_isClear_69 (k : Nat) (v2 : Int) (v3 : Int) (σ : Mm) : Option (Int) := bindv 0 (fun v4_1 => lX1_isClear_72 k v2 v3 σ (fX1_isClear_132 k σ) 400 v4_1)
def fX1_isClear_63 (k : Nat) (c17 : Int → Option (Int)) (v2 : Int) (v3 : Int) (v4 : Int) (σ : Mm) : Option (Int) := bindv (v4 + 1) (fun v4_1 => c17 v4_1)
def fX1_isClear_17 (k : Nat) (v2 : Int) (v3 : Int) (σ : Mm) (e17 : Option (Int)) (c17 : Int → Option (Int)) (v4 : Int) : Option (Int) := cr v4 (cr (σ k 9) ((if v4 < σ k 9 then cr v4 (cr v2 ((if v4 = v2 then fX1_isClear_63 k c17 v2 v3 v4 σ else cr v4 (cr v3 ((if v4 = v3 then fX1_isClear_63 k c17 v2 v3 v4 σ else chk v4 24 (chk v4 24 (bd (fX1_isOn k v2 v3 (σ (k + 1) (v4).toNat) (σ (k + 2) (v4).toNat) σ) (fun x_7 => cr x_7 ((if x_7 = 0 then fX1_isClear_63 k c17 v2 v3 v4 σ else some 0))))))))))) else e17)))
def lX1_isClear_17 (k : Nat) (v2 : Int) (v3 : Int) (σ : Mm) (e17 : Option (Int)) (fu : Nat) : Int → Option (Int) := itN (fun _ => none) (fun c17 => fX1_isClear_17 k v2 v3 σ e17 c17) fu
def fX1_isClear (k : Nat) (v1 : Int) (σ : Mm) : Option (Int) := chk v1 60 (bindv (σ (k + 6) (v1).toNat) (fun v2_1 => chk v1 60 (bindv (σ (k + 7) (v1).toNat) (fun v3_2 => bindv 0 (fun v4_3 => lX1_isClear_17 k v2_1 v3_2 σ (fX1_isClear_69 k v2_1 v3_2 σ) 400 v4_3)))))
abbrev rmX1_isFairAround : Room := { frames := 3, cells := 0, slots := 0, locals := 72 }
def fX1_isFairAround_122 (k : Nat) (σ : Mm) : Option (Int) := some 1
def fX1_isFairAround_116 (k : Nat) (c55 : Int → Option (Int)) (v1 : Int) (v2 : Int) (σ : Mm) : Option (Int) := bindv (v2 + 1) (fun v2_1 => c55 v2_1)
def fX1_isFairAround_114 (k : Nat) (σ : Mm) : Option (Int) := some 0
def fX1_isFairAround_55 (k : Nat) (v1 : Int) (σ : Mm) (e55 : Option (Int)) (c55 : Int → Option (Int)) (v2 : Int) : Option (Int) := cr v2 (cr (σ k 11) ((if v2 < σ k 11 then bd (fX1_ends k v2 v1 σ) (fun x_3 => cr x_3 ((if x_3 = 0 then chk v2 60 (chk v2 60 (chk v1 24 (chk v1 24 (bd (fX1_isOn k (σ (k + 6) (v2).toNat) (σ (k + 7) (v2).toNat) (σ (k + 1) (v1).toNat) (σ (k + 2) (v1).toNat) σ) (fun x_5 => cr x_5 ((if x_5 = 0 then fX1_isFairAround_116 k c55 v1 v2 σ else fX1_isFairAround_114 k σ))))))) else bd (fX1_isClear k v2 σ) (fun x_7 => cr x_7 ((if x_7 = 0 then fX1_isFairAround_114 k σ else fX1_isFairAround_116 k c55 v1 v2 σ)))))) else e55)))
def lX1_isFairAround_55 (k : Nat) (v1 : Int) (σ : Mm) (e55 : Option (Int)) (fu : Nat) : Int → Option (Int) := itN (fun _ => none) (fun c55 => fX1_isFairAround_55 k v1 σ e55 c55) fu
def fX1_isFairAround_53 (k : Nat) (v1 : Int) (σ : Mm) : Option (Int) := bindv 0 (fun v2_1 => lX1_isFairAround_55 k v1 σ (fX1_isFairAround_122 k σ) 400 v2_1)
def fX1_isFairAround_47 (k : Nat) (c2 : Int → Option (Int)) (v1 : Int) (v2 : Int) (σ : Mm) : Option (Int) := bindv (v2 + 1) (fun v2_1 => c2 v2_1)
def fX1_isFairAround_2 (k : Nat) (v1 : Int) (σ : Mm) (e2 : Option (Int)) (c2 : Int → Option (Int)) (v2 : Int) : Option (Int) := cr v2 (cr (σ k 9) ((if v2 < σ k 9 then cr v2 (cr v1 ((if v2 = v1 then fX1_isFairAround_47 k c2 v1 v2 σ else chk v2 24 (chk v1 24 (cr (σ (k + 1) (v2).toNat) (cr (σ (k + 1) (v1).toNat) ((if σ (k + 1) (v2).toNat = σ (k + 1) (v1).toNat then chk v2 24 (chk v1 24 (cr (σ (k + 2) (v2).toNat) (cr (σ (k + 2) (v1).toNat) ((if σ (k + 2) (v2).toNat = σ (k + 2) (v1).toNat then some 0 else fX1_isFairAround_47 k c2 v1 v2 σ))))) else fX1_isFairAround_47 k c2 v1 v2 σ)))))))) else e2)))
def lX1_isFairAround_2 (k : Nat) (v1 : Int) (σ : Mm) (e2 : Option (Int)) (fu : Nat) : Int → Option (Int) := itN (fun _ => none) (fun c2 => fX1_isFairAround_2 k v1 σ e2 c2) fu
def fX1_isFairAround (k : Nat) (v1 : Int) (σ : Mm) : Option (Int) := bindv 0 (fun v2_1 => lX1_isFairAround_2 k v1 σ (fX1_isFairAround_53 k v1 σ) 400 v2_1)
abbrev rmX1_isFair : Room := { frames := 4, cells := 0, slots := 0, locals := 94 }
def fX1_isFair_54 (k : Nat) (σ : Mm) : Option (Int) := bd (fX1_areasStand k σ) (fun x_1 => chb x_1 (some x_1))
def fX1_isFair_30 (k : Nat) (σ : Mm) (e30 : Option (Int)) (c30 : Int → Option (Int)) (v1 : Int) : Option (Int) := cr v1 (cr (σ k 9) ((if v1 < σ k 9 then bd (fX1_isFairAround k v1 σ) (fun x_3 => cr x_3 ((if x_3 = 0 then some 0 else bindv (v1 + 1) (fun v1_5 => c30 v1_5)))) else e30)))
def lX1_isFair_30 (k : Nat) (σ : Mm) (e30 : Option (Int)) (fu : Nat) : Int → Option (Int) := itN (fun _ => none) (fun c30 => fX1_isFair_30 k σ e30 c30) fu
def fX1_isFair_28 (k : Nat) (σ : Mm) : Option (Int) := bindv 0 (fun v1_1 => lX1_isFair_30 k σ (fX1_isFair_54 k σ) 400 v1_1)
def fX1_isFair_2 (k : Nat) (σ : Mm) (e2 : Option (Int)) (c2 : Int → Option (Int)) (v1 : Int) : Option (Int) := cr v1 (cr (σ k 11) ((if v1 < σ k 11 then chk v1 60 (cr (σ (k + 8) (v1).toNat) ((if 2 < σ (k + 8) (v1).toNat then some 0 else bindv (v1 + 1) (fun v1_4 => c2 v1_4)))) else e2)))
def lX1_isFair_2 (k : Nat) (σ : Mm) (e2 : Option (Int)) (fu : Nat) : Int → Option (Int) := itN (fun _ => none) (fun c2 => fX1_isFair_2 k σ e2 c2) fu
def fX1_isFair (k : Nat) (σ : Mm) : Option (Int) := bindv 0 (fun v1_1 => lX1_isFair_2 k σ (fX1_isFair_28 k σ) 400 v1_1)
abbrev rmX1_isInFrame : Room := { frames := 0, cells := 0, slots := 0, locals := 0 }
def fX1_isInFrame_35 (t0 : Int) (σ : Mm) : Option (Int) := chb t0 (some t0)
def fX1_isInFrame_34 (σ : Mm) : Option (Int) := fX1_isInFrame_35 0 σ
def fX1_isInFrame_30 (σ : Mm) : Option (Int) := fX1_isInFrame_35 1 σ
def fX1_isInFrame_15 (v0 : Int) (v1 : Int) (v2 : Int) (v3 : Int) (σ : Mm) : Option (Int) := cr v3 (cr v0 ((if v0 < v3 then cr v3 (cr v1 ((if v1 < v3 then cr v3 (cr v2 ((if v2 < v3 then fX1_isInFrame_34 σ else fX1_isInFrame_30 σ))) else fX1_isInFrame_30 σ))) else fX1_isInFrame_30 σ)))
def fX1_isInFrame (v0 : Int) (v1 : Int) (v2 : Int) (v3 : Int) (σ : Mm) : Option (Int) := cr v3 (cr v0 ((if v3 < v0 then cr v3 (cr v1 ((if v3 < v1 then cr v3 (cr v2 ((if v3 < v2 then fX1_isInFrame_34 σ else fX1_isInFrame_15 v0 v1 v2 v3 σ))) else fX1_isInFrame_15 v0 v1 v2 v3 σ))) else fX1_isInFrame_15 v0 v1 v2 v3 σ)))
abbrev rmX1_isInTriangle : Room := { frames := 1, cells := 0, slots := 0, locals := 24 }
def fX1_isInTriangle_135 (k : Nat) (t0 : Int) (σ : Mm) : Option (Int) := chb t0 (some t0)
def fX1_isInTriangle_134 (k : Nat) (σ : Mm) : Option (Int) := fX1_isInTriangle_135 k 0 σ
def fX1_isInTriangle_71 (k : Nat) (v1 : Int) (v2 : Int) (v3 : Int) (v4 : Int) (v5 : Int) (t0 : Int) (σ : Mm) : Option (Int) := bindv t0 (fun v9_1 => cr v9_1 ((if v9_1 = 0 then chk v1 24 (chk v2 24 (chk v3 24 (bd (fX1_isInFrame (σ (k + 1) (v1).toNat) (σ (k + 1) (v2).toNat) (σ (k + 1) (v3).toNat) v4 σ) (fun x_3 => cr x_3 ((if x_3 = 0 then fX1_isInTriangle_134 k σ else chk v1 24 (chk v2 24 (chk v3 24 (bd (fX1_isInFrame (σ (k + 2) (v1).toNat) (σ (k + 2) (v2).toNat) (σ (k + 2) (v3).toNat) v5 σ) (fun x_5 => cr x_5 ((if x_5 = 0 then fX1_isInTriangle_134 k σ else fX1_isInTriangle_135 k 1 σ)))))))))))) else fX1_isInTriangle_134 k σ)))
def fX1_isInTriangle_70 (k : Nat) (v1 : Int) (v2 : Int) (v3 : Int) (v4 : Int) (v5 : Int) (σ : Mm) : Option (Int) := fX1_isInTriangle_71 k v1 v2 v3 v4 v5 0 σ
def fX1_isInTriangle_66 (k : Nat) (v1 : Int) (v2 : Int) (v3 : Int) (v4 : Int) (v5 : Int) (σ : Mm) : Option (Int) := fX1_isInTriangle_71 k v1 v2 v3 v4 v5 1 σ
def fX1_isInTriangle_51 (k : Nat) (v1 : Int) (v2 : Int) (v3 : Int) (v4 : Int) (v5 : Int) (v6 : Int) (v7 : Int) (v8 : Int) (σ : Mm) : Option (Int) := cr v6 ((if 0 < v6 then fX1_isInTriangle_66 k v1 v2 v3 v4 v5 σ else cr v7 ((if 0 < v7 then fX1_isInTriangle_66 k v1 v2 v3 v4 v5 σ else cr v8 ((if 0 < v8 then fX1_isInTriangle_66 k v1 v2 v3 v4 v5 σ else fX1_isInTriangle_70 k v1 v2 v3 v4 v5 σ))))))
def fX1_isInTriangle (k : Nat) (v1 : Int) (v2 : Int) (v3 : Int) (v4 : Int) (v5 : Int) (σ : Mm) : Option (Int) := bd (fX1_sideOf k v1 v2 v4 v5 σ) (fun x_1 => bindv x_1 (fun v6_2 => bd (fX1_sideOf k v2 v3 v4 v5 σ) (fun x_3 => bindv x_3 (fun v7_4 => bd (fX1_sideOf k v3 v1 v4 v5 σ) (fun x_5 => bindv x_5 (fun v8_6 => cr v6_2 ((if v6_2 < 0 then fX1_isInTriangle_51 k v1 v2 v3 v4 v5 v6_2 v7_4 v8_6 σ else cr v7_4 ((if v7_4 < 0 then fX1_isInTriangle_51 k v1 v2 v3 v4 v5 v6_2 v7_4 v8_6 σ else cr v8_6 ((if v8_6 < 0 then fX1_isInTriangle_51 k v1 v2 v3 v4 v5 v6_2 v7_4 v8_6 σ else fX1_isInTriangle_70 k v1 v2 v3 v4 v5 σ))))))))))))
abbrev rmX1_isWhole : Room := { frames := 0, cells := 0, slots := 0, locals := 0 }
def fX1_isWhole_79 (k : Nat) (σ : Mm) : Option (Int) := some 1
def fX1_isWhole_73 (k : Nat) (c30 : Int → Option (Int)) (v1 : Int) (σ : Mm) : Option (Int) := bindv (v1 + 1) (fun v1_1 => c30 v1_1)
def fX1_isWhole_40 (k : Nat) (v1 : Int) (σ : Mm) (e40 : Option (Int)) (c40 : Int → Option (Int)) (v2 : Int) : Option (Int) := chk v1 6 (cr v2 (cr (σ (k + 5) (v1).toNat) ((if v2 < σ (k + 5) (v1).toNat then chk v1 6 (chk v2 10 (cr (σ (k + 10 + (v1).toNat) (v2).toNat) (cr (σ k 9) ((if σ (k + 10 + (v1).toNat) (v2).toNat < σ k 9 then bindv (v2 + 1) (fun v2_6 => c40 v2_6) else some 0))))) else e40))))
def lX1_isWhole_40 (k : Nat) (v1 : Int) (σ : Mm) (e40 : Option (Int)) (fu : Nat) : Int → Option (Int) := itN (fun _ => none) (fun c40 => fX1_isWhole_40 k v1 σ e40 c40) fu
def fX1_isWhole_30 (k : Nat) (σ : Mm) (e30 : Option (Int)) (c30 : Int → Option (Int)) (v1 : Int) : Option (Int) := cr v1 (cr (σ k 10) ((if v1 < σ k 10 then bindv 0 (fun v2_3 => lX1_isWhole_40 k v1 σ (fX1_isWhole_73 k c30 v1 σ) 400 v2_3) else e30)))
def lX1_isWhole_30 (k : Nat) (σ : Mm) (e30 : Option (Int)) (fu : Nat) : Int → Option (Int) := itN (fun _ => none) (fun c30 => fX1_isWhole_30 k σ e30 c30) fu
def fX1_isWhole_28 (k : Nat) (σ : Mm) : Option (Int) := bindv 0 (fun v1_1 => lX1_isWhole_30 k σ (fX1_isWhole_79 k σ) 400 v1_1)
def fX1_isWhole_5 (k : Nat) (σ : Mm) (e5 : Option (Int)) (c5 : Int → Option (Int)) (v1 : Int) : Option (Int) := cr v1 ((if v1 < 24 then chk v1 24 (cr (σ (k + 3) (v1).toNat) ((if σ (k + 3) (v1).toNat = 0 then bindv (v1 + 1) (fun v1_3 => c5 v1_3) else some 0))) else e5))
def lX1_isWhole_5 (k : Nat) (σ : Mm) (e5 : Option (Int)) (fu : Nat) : Int → Option (Int) := itN (fun _ => none) (fun c5 => fX1_isWhole_5 k σ e5 c5) fu
def fX1_isWhole (k : Nat) (σ : Mm) : Option (Int) := bindv (σ k 9) (fun v1_1 => lX1_isWhole_5 k σ (fX1_isWhole_28 k σ) 400 v1_1)
abbrev rmX1_newestRingHas : Room := { frames := 0, cells := 0, slots := 0, locals := 0 }
def fX1_newestRingHas_43 (k : Nat) (σ : Mm) : Option (Int) := some 0
def fX1_newestRingHas_9 (k : Nat) (v1 : Int) (v2 : Int) (σ : Mm) (e9 : Option (Int)) (c9 : Int → Option (Int)) (v3 : Int) : Option (Int) := cr v2 ((if v2 < 0 then e9 else chk v2 6 (cr v3 (cr (σ (k + 5) (v2).toNat) ((if v3 < σ (k + 5) (v2).toNat then chk v2 6 (chk v3 10 (cr (σ (k + 10 + (v2).toNat) (v3).toNat) (cr v1 ((if σ (k + 10 + (v2).toNat) (v3).toNat = v1 then some 1 else bindv (v3 + 1) (fun v3_7 => c9 v3_7)))))) else e9))))))
def lX1_newestRingHas_9 (k : Nat) (v1 : Int) (v2 : Int) (σ : Mm) (e9 : Option (Int)) (fu : Nat) : Int → Option (Int) := itN (fun _ => none) (fun c9 => fX1_newestRingHas_9 k v1 v2 σ e9 c9) fu
def fX1_newestRingHas (k : Nat) (v1 : Int) (σ : Mm) : Option (Int) := bindv ((σ k 10) - 1) (fun v2_1 => bindv 0 (fun v3_2 => lX1_newestRingHas_9 k v1 v2_1 σ (fX1_newestRingHas_43 k σ) 400 v3_2))
abbrev rmX1_nodesWithEdges : Room := { frames := 1, cells := 0, slots := 0, locals := 21 }
def fX1_nodesWithEdges_38 (k : Nat) (v1 : Int) (σ : Mm) : Option (Int) := some v1
def fX1_nodesWithEdges_32 (k : Nat) (c4 : Int → Int → Option (Int)) (v1 : Int) (v2 : Int) (σ : Mm) : Option (Int) := bindv (v2 + 1) (fun v2_1 => c4 v1 v2_1)
def fX1_nodesWithEdges_4 (k : Nat) (σ : Mm) (e4 : Int → Option (Int)) (c4 : Int → Int → Option (Int)) (v1 : Int) (v2 : Int) : Option (Int) := cr v2 (cr (σ k 9) ((if v2 < σ k 9 then chk v2 24 (cr (σ (k + 9) (v2).toNat) ((if 0 < σ (k + 9) (v2).toNat then bd (fX1_isNode k v2 σ) (fun x_4 => cr x_4 ((if x_4 = 0 then fX1_nodesWithEdges_32 k c4 v1 v2 σ else bindv (v1 + 1) (fun v1_6 => fX1_nodesWithEdges_32 k c4 v1_6 v2 σ)))) else fX1_nodesWithEdges_32 k c4 v1 v2 σ))) else e4 v1)))
def lX1_nodesWithEdges_4 (k : Nat) (σ : Mm) (e4 : Int → Option (Int)) (fu : Nat) : Int → Int → Option (Int) := itN (fun _ _ => none) (fun c4 => fX1_nodesWithEdges_4 k σ e4 c4) fu
def fX1_nodesWithEdges (k : Nat) (σ : Mm) : Option (Int) := bindv 0 (fun v1_1 => bindv 0 (fun v2_2 => lX1_nodesWithEdges_4 k σ (fun v1_3 => fX1_nodesWithEdges_38 k v1_3 σ) 400 v1_1 v2_2))
abbrev rmX1_openRing : Room := { frames := 0, cells := 0, slots := 0, locals := 0 }
def fX1_openRing_29 (k : Nat) (σ : Mm) : Option (Mm) := some σ
def fX1_openRing (k : Nat) (σ : Mm) : Option (Mm) := cr (σ k 10) ((if σ k 10 < 6 then chk (σ k 10) 6 (bindv (sto σ (k + 5) (σ k 10).toNat 0) (fun σ_2 => bindv (sto σ_2 k 10 ((σ_2 k 10) + 1)) (fun σ_3 => fX1_openRing_29 k σ_3))) else fX1_openRing_29 k σ))
abbrev rmX1_pinned : Room := { frames := 0, cells := 0, slots := 0, locals := 0 }
def fX1_pinned_30 (k : Nat) (v1 : Int) (σ : Mm) : Option (Int) := some v1
def fX1_pinned_24 (k : Nat) (c4 : Int → Int → Option (Int)) (v1 : Int) (v2 : Int) (σ : Mm) : Option (Int) := bindv (v2 + 1) (fun v2_1 => c4 v1 v2_1)
def fX1_pinned_4 (k : Nat) (σ : Mm) (e4 : Int → Option (Int)) (c4 : Int → Int → Option (Int)) (v1 : Int) (v2 : Int) : Option (Int) := cr v2 (cr (σ k 9) ((if v2 < σ k 9 then chk v2 24 (cr (σ (k + 3) (v2).toNat) ((if σ (k + 3) (v2).toNat = 0 then fX1_pinned_24 k c4 v1 v2 σ else bindv (v1 + 1) (fun v1_4 => fX1_pinned_24 k c4 v1_4 v2 σ)))) else e4 v1)))
def lX1_pinned_4 (k : Nat) (σ : Mm) (e4 : Int → Option (Int)) (fu : Nat) : Int → Int → Option (Int) := itN (fun _ _ => none) (fun c4 => fX1_pinned_4 k σ e4 c4) fu
def fX1_pinned (k : Nat) (σ : Mm) : Option (Int) := bindv 0 (fun v1_1 => bindv 0 (fun v2_2 => lX1_pinned_4 k σ (fun v1_3 => fX1_pinned_30 k v1_3 σ) 400 v1_1 v2_2))
abbrev rmX1_pointsWithEdges : Room := { frames := 0, cells := 0, slots := 0, locals := 0 }
def fX1_pointsWithEdges_30 (k : Nat) (v1 : Int) (σ : Mm) : Option (Int) := some v1
def fX1_pointsWithEdges_24 (k : Nat) (c4 : Int → Int → Option (Int)) (v1 : Int) (v2 : Int) (σ : Mm) : Option (Int) := bindv (v2 + 1) (fun v2_1 => c4 v1 v2_1)
def fX1_pointsWithEdges_4 (k : Nat) (σ : Mm) (e4 : Int → Option (Int)) (c4 : Int → Int → Option (Int)) (v1 : Int) (v2 : Int) : Option (Int) := cr v2 (cr (σ k 9) ((if v2 < σ k 9 then chk v2 24 (cr (σ (k + 9) (v2).toNat) ((if 0 < σ (k + 9) (v2).toNat then bindv (v1 + 1) (fun v1_4 => fX1_pointsWithEdges_24 k c4 v1_4 v2 σ) else fX1_pointsWithEdges_24 k c4 v1 v2 σ))) else e4 v1)))
def lX1_pointsWithEdges_4 (k : Nat) (σ : Mm) (e4 : Int → Option (Int)) (fu : Nat) : Int → Int → Option (Int) := itN (fun _ _ => none) (fun c4 => fX1_pointsWithEdges_4 k σ e4 c4) fu
def fX1_pointsWithEdges (k : Nat) (σ : Mm) : Option (Int) := bindv 0 (fun v1_1 => bindv 0 (fun v2_2 => lX1_pointsWithEdges_4 k σ (fun v1_3 => fX1_pointsWithEdges_30 k v1_3 σ) 400 v1_1 v2_2))
abbrev rmX1_shiftIfFair : Room := { frames := 4, cells := 0, slots := 0, locals := 94 }
def fX1_shiftIfFair_47 (k : Nat) (v1 : Int) (v4 : Int) (v5 : Int) (σ : Mm) : Option (Int × Mm) := chk v1 24 (bindv (sto σ (k + 1) (v1).toNat v4) (fun σ_1 => chk v1 24 (bindv (sto σ_1 (k + 2) (v1).toNat v5) (fun σ_2 => some (0, σ_2)))))
def fX1_shiftIfFair (k : Nat) (v1 : Int) (v2 : Int) (v3 : Int) (σ : Mm) : Option (Int × Mm) := chk v1 24 (bindv (σ (k + 1) (v1).toNat) (fun v4_1 => chk v1 24 (bindv (σ (k + 2) (v1).toNat) (fun v5_2 => chk v1 24 (bindv (sto σ (k + 1) (v1).toNat v2) (fun σ_3 => chk v1 24 (bindv (sto σ_3 (k + 2) (v1).toNat v3) (fun σ_4 => bd (fX1_isFairAround k v1 σ_4) (fun x_5 => cr x_5 ((if x_5 = 0 then fX1_shiftIfFair_47 k v1 v4_1 v5_2 σ_4 else bd (fX1_areasStand k σ_4) (fun x_7 => cr x_7 ((if x_7 = 0 then fX1_shiftIfFair_47 k v1 v4_1 v5_2 σ_4 else some (1, σ_4)))))))))))))))
abbrev rmX1_sumOf : Room := { frames := 0, cells := 0, slots := 0, locals := 0 }
def fX1_sumOf_24 (k : Nat) (w1 : Nat) (v2 : Int) (σ : Mm) : Option (Int) := some v2
def fX1_sumOf_4 (k : Nat) (w1 : Nat) (σ : Mm) (e4 : Int → Option (Int)) (c4 : Int → Int → Option (Int)) (v2 : Int) (v3 : Int) : Option (Int) := cr v3 (cr (σ k 9) ((if v3 < σ k 9 then chk v3 24 (bindv (v2 + (σ w1 (v3).toNat)) (fun v2_3 => bindv (v3 + 1) (fun v3_4 => c4 v2_3 v3_4))) else e4 v2)))
def lX1_sumOf_4 (k : Nat) (w1 : Nat) (σ : Mm) (e4 : Int → Option (Int)) (fu : Nat) : Int → Int → Option (Int) := itN (fun _ _ => none) (fun c4 => fX1_sumOf_4 k w1 σ e4 c4) fu
def fX1_sumOf (k : Nat) (w1 : Nat) (σ : Mm) : Option (Int) := bindv 0 (fun v2_1 => bindv 0 (fun v3_2 => lX1_sumOf_4 k w1 σ (fun v2_3 => fX1_sumOf_24 k w1 v2_3 σ) 400 v2_1 v3_2))
abbrev rmX2_refuse : Room := { frames := 0, cells := 0, slots := 0, locals := 0 }
def fX2_refuse (v1 : Int) (v2 : Int) (σ : Mm) : Option (Int × Mm) := bindv (sto σ 3 6 v1) (fun σ_1 => bindv (sto σ_1 3 7 v2) (fun σ_2 => some (0, σ_2)))
abbrev rmX2_judgeAll : Room := { frames := 5, cells := 0, slots := 0, locals := 115 }
def fX2_judgeAll_62 (t0 : Int) (σ : Mm) : Option (Int × Mm) := chb t0 (some (t0, σ))
def fX2_judgeAll_57 (σ : Mm) : Option (Int × Mm) := fX2_judgeAll_62 1 σ
def fX2_judgeAll (σ : Mm) : Option (Int × Mm) := bd (fX1_isWhole 111 σ) (fun x_1 => cr x_1 ((if x_1 = 0 then bd2 (fX2_refuse 6 (σ 1 1) σ) (fun x_8 σ_8 => chb x_8 (some (x_8, σ_8))) else bd (fX1_gatherEdges 111 σ) (fun σ_3 => bd (fX1_isFair 111 σ_3) (fun x_4 => cr x_4 ((if x_4 = 0 then bd2 (fX2_refuse 6 (σ_3 1 1) σ_3) (fun x_6 σ_6 => cr x_6 ((if x_6 = 0 then fX2_judgeAll_62 0 σ_6 else fX2_judgeAll_57 σ_6))) else fX2_judgeAll_57 σ_3)))))))
abbrev rmX2_kindOf : Room := { frames := 0, cells := 0, slots := 0, locals := 0 }
def fX2_kindOf_39 (t0 : Int) (σ : Mm) : Option (Int) := some t0
def fX2_kindOf_28 (v0 : Int) (σ : Mm) : Option (Int) := cr v0 ((if v0 = 59 then fX2_kindOf_39 3 σ else fX2_kindOf_39 4 σ))
def fX2_kindOf_14 (v0 : Int) (σ : Mm) : Option (Int) := cr v0 ((if v0 < 48 then fX2_kindOf_28 v0 σ else cr v0 ((if 57 < v0 then fX2_kindOf_28 v0 σ else some 2))))
def fX2_kindOf (v0 : Int) (σ : Mm) : Option (Int) := cr v0 ((if v0 < 97 then fX2_kindOf_14 v0 σ else cr v0 ((if 122 < v0 then fX2_kindOf_14 v0 σ else some 1))))
abbrev rmX2_nameIs : Room := { frames := 4, cells := 0, slots := 0, locals := 110 }
def fX2_nameIs_66 (w1 : Nat) (σ : Mm) : Option (Int) := some 1
def fX2_nameIs_28 (w1 : Nat) (σ : Mm) (e28 : Option (Int)) (c28 : Int → Option (Int)) (v2 : Int) : Option (Int) := cr v2 (cr (strLn w1 : Int) ((if v2 < (strLn w1 : Int) then chk ((σ 3 4) + v2) 320 (chk v2 (strLn w1) (cr (σ 2 ((σ 3 4) + v2).toNat) (cr (strCc w1 (v2).toNat) ((if σ 2 ((σ 3 4) + v2).toNat = strCc w1 (v2).toNat then bindv (v2 + 1) (fun v2_5 => c28 v2_5) else some 0))))) else e28)))
def lX2_nameIs_28 (w1 : Nat) (σ : Mm) (e28 : Option (Int)) (fu : Nat) : Int → Option (Int) := itN (fun _ => none) (fun c28 => fX2_nameIs_28 w1 σ e28 c28) fu
def fX2_nameIs_24 (w1 : Nat) (σ : Mm) : Option (Int) := some 0
def fX2_nameIs (w1 : Nat) (σ : Mm) : Option (Int) := cr (σ 3 3) ((if σ 3 3 = 1 then cr ((σ 3 2) - (σ 3 4)) (cr (strLn w1 : Int) ((if (σ 3 2) - (σ 3 4) = (strLn w1 : Int) then bindv 0 (fun v2_4 => lX2_nameIs_28 w1 σ (fX2_nameIs_66 w1 σ) 400 v2_4) else fX2_nameIs_24 w1 σ))) else fX2_nameIs_24 w1 σ))
abbrev rmX2_weighNumber : Room := { frames := 0, cells := 0, slots := 0, locals := 0 }
def fX2_weighNumber_67 (σ : Mm) : Option (Mm) := some σ
def fX2_weighNumber_29 (e29 : Mm → Option (Mm)) (c29 : Int → Mm → Option (Mm)) (v1 : Int) (σ : Mm) : Option (Mm) := cr v1 (cr (σ 3 2) ((if v1 < σ 3 2 then chk v1 320 (bindv (sto σ 3 5 ((((σ 3 5) * 10) + (σ 2 (v1).toNat)) - 48)) (fun σ_3 => bindv (v1 + 1) (fun v1_4 => c29 v1_4 σ_3))) else e29 σ)))
def lX2_weighNumber_29 (e29 : Mm → Option (Mm)) (fu : Nat) : Int → Mm → Option (Mm) := itN (fun _ _ => none) (fun c29 => fX2_weighNumber_29 e29 c29) fu
def fX2_weighNumber (σ : Mm) : Option (Mm) := cr ((σ 3 2) - (σ 3 4)) ((if 3 < (σ 3 2) - (σ 3 4) then bindv (sto σ 3 3 4) (fun σ_5 => some σ_5) else bindv (sto σ 3 5 0) (fun σ_2 => bindv (σ_2 3 4) (fun v1_3 => lX2_weighNumber_29 (fun σ_4 => fX2_weighNumber_67 σ_4) 400 v1_3 σ_2))))
abbrev rmX2_nextToken : Room := { frames := 1, cells := 0, slots := 0, locals := 21 }
def fX2_nextToken_184 (σ : Mm) : Option (Mm) := some σ
def fX2_nextToken_172 (σ : Mm) : Option (Mm) := cr (σ 3 3) ((if σ 3 3 = 2 then bd (fX2_weighNumber σ) (fun σ_2 => fX2_nextToken_184 σ_2) else fX2_nextToken_184 σ))
def fX2_nextToken_105 (c105 : Mm → Option (Mm)) (σ : Mm) : Option (Mm) := cr (σ 3 2) (cr (σ 1 1) ((if σ 3 2 < σ 1 1 then chk (σ 3 2) 320 (bd (fX2_kindOf (σ 2 (σ 3 2).toNat) σ) (fun x_3 => cr x_3 (cr (σ 3 3) ((if x_3 = σ 3 3 then bindv (sto σ 3 2 ((σ 3 2) + 1)) (fun σ_6 => c105 σ_6) else fX2_nextToken_172 σ))))) else fX2_nextToken_172 σ)))
def lX2_nextToken_105 (fu : Nat) : Mm → Option (Mm) := itN (fun _ => none) (fun c105 => fX2_nextToken_105 c105) fu
def fX2_nextToken_86 (t1 : Int) (σ : Mm) : Option (Mm) := bindv (sto σ 3 3 t1) (fun σ_1 => cr (σ_1 3 3) ((if σ_1 3 3 = 1 then lX2_nextToken_105 400 σ_1 else cr (σ_1 3 3) ((if σ_1 3 3 = 2 then lX2_nextToken_105 400 σ_1 else cr (σ_1 3 3) ((if σ_1 3 3 = 3 then bindv (sto σ_1 3 2 ((σ_1 3 2) + 1)) (fun σ_5 => fX2_nextToken_172 σ_5) else fX2_nextToken_172 σ_1)))))))
def fX2_nextToken_44 (σ : Mm) : Option (Mm) := bindv (sto σ 3 4 (σ 3 2)) (fun σ_1 => cr (σ_1 3 2) (cr (σ_1 1 1) ((if σ_1 3 2 < σ_1 1 1 then chk (σ_1 3 2) 320 (bd (fX2_kindOf (σ_1 2 (σ_1 3 2).toNat) σ_1) (fun x_4 => fX2_nextToken_86 x_4 σ_1)) else fX2_nextToken_86 0 σ_1))))
def fX2_nextToken_0 (e0 : Mm → Option (Mm)) (c0 : Mm → Option (Mm)) (σ : Mm) : Option (Mm) := cr (σ 3 2) (cr (σ 1 1) ((if σ 3 2 < σ 1 1 then chk (σ 3 2) 320 (cr (σ 2 (σ 3 2).toNat) ((if σ 2 (σ 3 2).toNat = 32 then bindv (sto σ 3 2 ((σ 3 2) + 1)) (fun σ_4 => c0 σ_4) else e0 σ))) else e0 σ)))
def lX2_nextToken_0 (e0 : Mm → Option (Mm)) (fu : Nat) : Mm → Option (Mm) := itN (fun _ => none) (fun c0 => fX2_nextToken_0 e0 c0) fu
def fX2_nextToken (σ : Mm) : Option (Mm) := lX2_nextToken_0 (fun σ_5 => fX2_nextToken_44 σ_5) 400 σ
abbrev rmX2_refuseToken : Room := { frames := 1, cells := 0, slots := 0, locals := 22 }
def fX2_refuseToken_14 (t1 : Int) (σ : Mm) : Option (Int × Mm) := bd2 (fX2_refuse t1 (σ 3 4) σ) (fun x_1 σ_1 => chb x_1 (some (x_1, σ_1)))
def fX2_refuseToken (σ : Mm) : Option (Int × Mm) := cr (σ 3 3) ((if σ 3 3 = 4 then fX2_refuseToken_14 1 σ else fX2_refuseToken_14 2 σ))
abbrev rmX2_readNumber : Room := { frames := 2, cells := 0, slots := 0, locals := 42 }
def fX2_readNumber_42 (t0 : Int) (σ : Mm) : Option (Int × Mm) := chb t0 (some (t0, σ))
def fX2_readNumber_37 (σ : Mm) : Option (Int × Mm) := fX2_readNumber_42 1 σ
def fX2_readNumber (v1 : Int) (σ : Mm) : Option (Int × Mm) := bd (fX2_nextToken σ) (fun σ_1 => cr (σ_1 3 3) ((if σ_1 3 3 = 2 then cr (σ_1 3 5) (cr v1 ((if σ_1 3 5 < v1 then fX2_readNumber_37 σ_1 else bd2 (fX2_refuse 3 (σ_1 3 4) σ_1) (fun x_5 σ_5 => cr x_5 ((if x_5 = 0 then fX2_readNumber_42 0 σ_5 else fX2_readNumber_37 σ_5)))))) else bd2 (fX2_refuseToken σ_1) (fun x_7 σ_7 => chb x_7 (some (x_7, σ_7))))))
abbrev rmX2_readSemicolon : Room := { frames := 2, cells := 0, slots := 0, locals := 42 }
def fX2_readSemicolon_24 (t0 : Int) (σ : Mm) : Option (Int × Mm) := chb t0 (some (t0, σ))
def fX2_readSemicolon_19 (σ : Mm) : Option (Int × Mm) := fX2_readSemicolon_24 1 σ
def fX2_readSemicolon (σ : Mm) : Option (Int × Mm) := bd (fX2_nextToken σ) (fun σ_1 => cr (σ_1 3 3) ((if σ_1 3 3 = 3 then fX2_readSemicolon_19 σ_1 else bd2 (fX2_refuseToken σ_1) (fun x_3 σ_3 => cr x_3 ((if x_3 = 0 then fX2_readSemicolon_24 0 σ_3 else fX2_readSemicolon_19 σ_3))))))
abbrev rmX2_readPoint : Room := { frames := 3, cells := 0, slots := 0, locals := 63 }
def fX2_readPoint (σ : Mm) : Option (Int × Mm) := cr (σ 111 9) ((if σ 111 9 < 24 then bd2 (fX2_readNumber 200 σ) (fun x_2 σ_2 => cr x_2 ((if x_2 = 0 then some (0, σ_2) else bindv (σ_2 3 5) (fun v1_4 => bd2 (fX2_readNumber 200 σ_2) (fun x_5 σ_5 => cr x_5 ((if x_5 = 0 then some (0, σ_5) else bd (fX1_addPoint 111 v1_4 (σ_5 3 5) σ_5) (fun σ_7 => bd2 (fX2_readSemicolon σ_7) (fun x_8 σ_8 => chb x_8 (some (x_8, σ_8))))))))))) else bd2 (fX2_refuse 5 (σ 3 4) σ) (fun x_10 σ_10 => chb x_10 (some (x_10, σ_10)))))
abbrev rmX2_takeCorner : Room := { frames := 2, cells := 0, slots := 0, locals := 42 }
def fX2_takeCorner (v1 : Int) (σ : Mm) : Option (Int × Mm) := cr (σ 3 3) ((if σ 3 3 = 2 then cr v1 ((if v1 < 10 then cr (σ 3 5) ((if σ 3 5 < 24 then bd (fX1_newestRingHas 111 (σ 3 5) σ) (fun x_4 => cr x_4 ((if x_4 = 0 then bd (fX1_addCorner 111 (σ 3 5) σ) (fun σ_6 => some (1, σ_6)) else bd2 (fX2_refuse 4 (σ 3 4) σ) (fun x_7 σ_7 => chb x_7 (some (x_7, σ_7)))))) else bd2 (fX2_refuse 3 (σ 3 4) σ) (fun x_9 σ_9 => chb x_9 (some (x_9, σ_9))))) else bd2 (fX2_refuse 5 (σ 3 4) σ) (fun x_11 σ_11 => chb x_11 (some (x_11, σ_11))))) else bd2 (fX2_refuseToken σ) (fun x_13 σ_13 => chb x_13 (some (x_13, σ_13)))))
abbrev rmX2_readRing : Room := { frames := 3, cells := 0, slots := 0, locals := 63 }
def fX2_readRing_72 (σ : Mm) : Option (Int × Mm) := some (0, σ)
def fX2_readRing_56 (c31 : Int → Mm → Option (Int × Mm)) (v1 : Int) (σ : Mm) : Option (Int × Mm) := bd2 (fX2_takeCorner v1 σ) (fun x_1 σ_1 => cr x_1 ((if x_1 = 0 then some (0, σ_1) else bindv (v1 + 1) (fun v1_3 => c31 v1_3 σ_1))))
def fX2_readRing_31 (e31 : Mm → Option (Int × Mm)) (c31 : Int → Mm → Option (Int × Mm)) (v1 : Int) (σ : Mm) : Option (Int × Mm) := cr v1 ((if 10 < v1 then e31 σ else bd (fX2_nextToken σ) (fun σ_2 => cr (σ_2 3 3) ((if σ_2 3 3 = 3 then cr v1 ((if v1 < 3 then fX2_readRing_56 c31 v1 σ_2 else some (1, σ_2))) else fX2_readRing_56 c31 v1 σ_2)))))
def lX2_readRing_31 (e31 : Mm → Option (Int × Mm)) (fu : Nat) : Int → Mm → Option (Int × Mm) := itN (fun _ _ => none) (fun c31 => fX2_readRing_31 e31 c31) fu
def fX2_readRing (σ : Mm) : Option (Int × Mm) := cr (σ 111 10) ((if σ 111 10 < 6 then bd (fX1_openRing 111 σ) (fun σ_2 => bindv 0 (fun v1_3 => lX2_readRing_31 (fun σ_4 => fX2_readRing_72 σ_4) 400 v1_3 σ_2)) else bd2 (fX2_refuse 5 (σ 3 4) σ) (fun x_5 σ_5 => chb x_5 (some (x_5, σ_5)))))
abbrev rmX7_isBelow : Room := { frames := 0, cells := 0, slots := 0, locals := 0 }
def fX7_isBelow_14 (t0 : Int) (σ : Mm) : Option (Int) := chb t0 (some t0)
def fX7_isBelow_13 (σ : Mm) : Option (Int) := fX7_isBelow_14 0 σ
def fX7_isBelow (v0 : Int) (v1 : Int) (σ : Mm) : Option (Int) := cr v0 ((if v0 < 0 then fX7_isBelow_13 σ else cr v0 (cr v1 ((if v0 < v1 then fX7_isBelow_14 1 σ else fX7_isBelow_13 σ)))))
abbrev rmX2_readPin : Room := { frames := 3, cells := 0, slots := 0, locals := 63 }
def fX2_readPin_36 (σ : Mm) : Option (Int × Mm) := bd2 (fX2_readSemicolon σ) (fun x_1 σ_1 => chb x_1 (some (x_1, σ_1)))
def fX2_readPin (σ : Mm) : Option (Int × Mm) := bd2 (fX2_readNumber 24 σ) (fun x_1 σ_1 => cr x_1 ((if x_1 = 0 then some (0, σ_1) else bd (fX7_isBelow (σ_1 3 5) 24 σ_1) (fun x_3 => cr x_3 ((if x_3 = 0 then fX2_readPin_36 σ_1 else chb 1 (chk (σ_1 3 5) 24 (bindv (sto σ_1 114 (σ_1 3 5).toNat 1) (fun σ_5 => fX2_readPin_36 σ_5)))))))))
abbrev rmX2_readLine : Room := { frames := 5, cells := 0, slots := 0, locals := 132 }
def fX2_readLine (σ : Mm) : Option (Int × Mm) := bd (fX2_nameIs 0 σ) (fun x_1 => cr x_1 ((if x_1 = 0 then bd (fX2_nameIs 1 σ) (fun x_3 => cr x_3 ((if x_3 = 0 then bd (fX2_nameIs 2 σ) (fun x_5 => cr x_5 ((if x_5 = 0 then bd2 (fX2_refuseToken σ) (fun x_7 σ_7 => chb x_7 (some (x_7, σ_7))) else bd2 (fX2_readPin σ) (fun x_9 σ_9 => chb x_9 (some (x_9, σ_9)))))) else bd2 (fX2_readRing σ) (fun x_11 σ_11 => chb x_11 (some (x_11, σ_11)))))) else bd2 (fX2_readPoint σ) (fun x_13 σ_13 => chb x_13 (some (x_13, σ_13))))))
abbrev rmX2_readAll : Room := { frames := 6, cells := 0, slots := 0, locals := 152 }
def fX2_readAll_74 (σ : Mm) : Option (Int × Mm) := some (0, σ)
def fX2_readAll_29 (e29 : Mm → Option (Int × Mm)) (c29 : Int → Mm → Option (Int × Mm)) (v1 : Int) (σ : Mm) : Option (Int × Mm) := cr v1 ((if 320 < v1 then e29 σ else bd (fX2_nextToken σ) (fun σ_2 => cr (σ_2 3 3) ((if σ_2 3 3 = 0 then some (1, σ_2) else bd2 (fX2_readLine σ_2) (fun x_4 σ_4 => cr x_4 ((if x_4 = 0 then some (0, σ_4) else bindv (sto σ_4 3 8 ((σ_4 3 8) + 1)) (fun σ_6 => bindv (v1 + 1) (fun v1_7 => c29 v1_7 σ_6))))))))))
def lX2_readAll_29 (e29 : Mm → Option (Int × Mm)) (fu : Nat) : Int → Mm → Option (Int × Mm) := itN (fun _ _ => none) (fun c29 => fX2_readAll_29 e29 c29) fu
def fX2_readAll (σ : Mm) : Option (Int × Mm) := bd (fX1_clear 111 σ) (fun σ_1 => bindv (sto σ_1 3 2 0) (fun σ_2 => bindv (sto σ_2 3 6 0) (fun σ_3 => bindv (sto σ_3 3 7 0) (fun σ_4 => bindv (sto σ_4 3 8 0) (fun σ_5 => bindv 0 (fun v1_6 => lX2_readAll_29 (fun σ_7 => fX2_readAll_74 σ_7) 400 v1_6 σ_5))))))
abbrev rmX3_indexIn : Room := { frames := 0, cells := 0, slots := 0, locals := 0 }
def fX3_indexIn_32 (σ : Mm) : Option (Int) := some (-1)
def fX3_indexIn_2 (v1 : Int) (v2 : Int) (σ : Mm) (e2 : Option (Int)) (c2 : Int → Option (Int)) (v3 : Int) : Option (Int) := chk v1 6 (cr v3 (cr (σ 15 (v1).toNat) ((if v3 < σ 15 (v1).toNat then chk v1 6 (chk v3 10 (cr (σ (29 + (v1).toNat) (v3).toNat) (cr v2 ((if σ (29 + (v1).toNat) (v3).toNat = v2 then some v3 else bindv (v3 + 1) (fun v3_6 => c2 v3_6)))))) else e2))))
def lX3_indexIn_2 (v1 : Int) (v2 : Int) (σ : Mm) (e2 : Option (Int)) (fu : Nat) : Int → Option (Int) := itN (fun _ => none) (fun c2 => fX3_indexIn_2 v1 v2 σ e2 c2) fu
def fX3_indexIn (v1 : Int) (v2 : Int) (σ : Mm) : Option (Int) := bindv 0 (fun v3_1 => lX3_indexIn_2 v1 v2 σ (fX3_indexIn_32 σ) 400 v3_1)
abbrev rmX3_ringWith : Room := { frames := 1, cells := 0, slots := 0, locals := 23 }
def fX3_ringWith_30 (σ : Mm) : Option (Int) := some (-1)
def fX3_ringWith_2 (v1 : Int) (σ : Mm) (e2 : Option (Int)) (c2 : Int → Option (Int)) (v2 : Int) : Option (Int) := cr v2 (cr (σ 95 10) ((if v2 < σ 95 10 then bd (fX3_indexIn v2 v1 σ) (fun x_3 => cr x_3 ((if x_3 < 0 then bindv (v2 + 1) (fun v2_5 => c2 v2_5) else some v2))) else e2)))
def lX3_ringWith_2 (v1 : Int) (σ : Mm) (e2 : Option (Int)) (fu : Nat) : Int → Option (Int) := itN (fun _ => none) (fun c2 => fX3_ringWith_2 v1 σ e2 c2) fu
def fX3_ringWith (v1 : Int) (σ : Mm) : Option (Int) := bindv 0 (fun v2_1 => lX3_ringWith_2 v1 σ (fX3_ringWith_30 σ) 400 v2_1)
abbrev rmX3_ahead : Room := { frames := 2, cells := 0, slots := 0, locals := 45 }
def fX3_ahead_36 (t0 : Int) (σ : Mm) : Option (Int) := some t0
def fX3_ahead (v1 : Int) (σ : Mm) : Option (Int) := bd (fX3_ringWith v1 σ) (fun x_1 => bindv x_1 (fun v2_2 => cr v2_2 ((if v2_2 < 0 then fX3_ahead_36 (-1) σ else chk v2_2 6 (bd (fX3_indexIn v2_2 v1 σ) (fun x_5 => chk v2_2 6 (bd (fX7_preceding x_5 (σ 15 (v2_2).toNat) σ) (fun x_6 => chk x_6 10 (fX3_ahead_36 (σ (29 + (v2_2).toNat) (x_6).toNat) σ)))))))))
abbrev rmX3_areaOf : Room := { frames := 2, cells := 0, slots := 0, locals := 47 }
def fX3_areaOf (v1 : Int) (σ : Mm) : Option (Int) := chk v1 6 (chk v1 6 (bd (fX1_areaOf 95 (29 + (v1).toNat) (σ 15 (v1).toNat) σ) (fun x_2 => some x_2)))
abbrev rmX3_behind : Room := { frames := 2, cells := 0, slots := 0, locals := 45 }
def fX3_behind_36 (t0 : Int) (σ : Mm) : Option (Int) := some t0
def fX3_behind (v1 : Int) (σ : Mm) : Option (Int) := bd (fX3_ringWith v1 σ) (fun x_1 => bindv x_1 (fun v2_2 => cr v2_2 ((if v2_2 < 0 then fX3_behind_36 (-1) σ else chk v2_2 6 (bd (fX3_indexIn v2_2 v1 σ) (fun x_5 => chk v2_2 6 (bd (fX7_following x_5 (σ 15 (v2_2).toNat) σ) (fun x_6 => chk x_6 10 (fX3_behind_36 (σ (29 + (v2_2).toNat) (x_6).toNat) σ)))))))))
abbrev rmX3_copyWithout : Room := { frames := 0, cells := 0, slots := 0, locals := 0 }
def fX3_copyWithout_52 (w3 : Nat) (v4 : Int) (σ : Mm) : Option (Int × Mm) := some (v4, σ)
def fX3_copyWithout_46 (w3 : Nat) (c6 : Int → Int → Mm → Option (Int × Mm)) (v1 : Int) (v2 : Int) (v4 : Int) (v5 : Int) (σ : Mm) : Option (Int × Mm) := bindv (v5 + 1) (fun v5_1 => c6 v4 v5_1 σ)
def fX3_copyWithout_6 (w3 : Nat) (v1 : Int) (v2 : Int) (e6 : Int → Mm → Option (Int × Mm)) (c6 : Int → Int → Mm → Option (Int × Mm)) (v4 : Int) (v5 : Int) (σ : Mm) : Option (Int × Mm) := chk v1 6 (cr v5 (cr (σ 15 (v1).toNat) ((if v5 < σ 15 (v1).toNat then chk v1 6 (chk v5 10 (cr (σ (29 + (v1).toNat) (v5).toNat) (cr v2 ((if σ (29 + (v1).toNat) (v5).toNat = v2 then fX3_copyWithout_46 w3 c6 v1 v2 v4 v5 σ else chk v1 6 (chk v5 10 (chk v4 10 (bindv (sto σ w3 (v4).toNat (σ (29 + (v1).toNat) (v5).toNat)) (fun σ_7 => bindv (v4 + 1) (fun v4_8 => fX3_copyWithout_46 w3 c6 v1 v2 v4_8 v5 σ_7)))))))))) else e6 v4 σ))))
def lX3_copyWithout_6 (w3 : Nat) (v1 : Int) (v2 : Int) (e6 : Int → Mm → Option (Int × Mm)) (fu : Nat) : Int → Int → Mm → Option (Int × Mm) := itN (fun _ _ _ => none) (fun c6 => fX3_copyWithout_6 w3 v1 v2 e6 c6) fu
def fX3_copyWithout (w3 : Nat) (v1 : Int) (v2 : Int) (σ : Mm) : Option (Int × Mm) := bindv 0 (fun v4_1 => bindv 0 (fun v5_2 => lX3_copyWithout_6 w3 v1 v2 (fun v4_3 σ_4 => fX3_copyWithout_52 w3 v4_3 σ_4) 400 v4_1 v5_2 σ))
abbrev rmX3_dropPoint : Room := { frames := 1, cells := 0, slots := 0, locals := 25 }
def fX3_dropPoint_44 (σ : Mm) : Option (Mm) := some σ
def fX3_dropPoint_9 (v1 : Int) (e9 : Mm → Option (Mm)) (c9 : Int → Mm → Option (Mm)) (v2 : Int) (σ : Mm) : Option (Mm) := cr v2 (cr (σ 95 10) ((if v2 < σ 95 10 then chk v2 6 (bd2 (fX3_copyWithout (29 + (v2).toNat) v2 v1 σ) (fun x_4 σ_4 => chk v2 6 (bindv (sto σ_4 15 (v2).toNat x_4) (fun σ_5 => bindv (v2 + 1) (fun v2_6 => c9 v2_6 σ_5))))) else e9 σ)))
def lX3_dropPoint_9 (v1 : Int) (e9 : Mm → Option (Mm)) (fu : Nat) : Int → Mm → Option (Mm) := itN (fun _ _ => none) (fun c9 => fX3_dropPoint_9 v1 e9 c9) fu
def fX3_dropPoint (v1 : Int) (σ : Mm) : Option (Mm) := chb 0 (chk v1 24 (bindv (sto σ 16 (v1).toNat 0) (fun σ_1 => bindv 0 (fun v2_2 => lX3_dropPoint_9 v1 (fun σ_3 => fX3_dropPoint_44 σ_3) 400 v2_2 σ_1))))
abbrev rmX3_holds : Room := { frames := 1, cells := 0, slots := 0, locals := 24 }
def fX3_holds_171 (v4 : Int) (σ : Mm) : Option (Int) := chb v4 (some v4)
def fX3_holds_165 (c6 : Int → Int → Option (Int)) (v1 : Int) (v2 : Int) (v3 : Int) (v4 : Int) (v5 : Int) (σ : Mm) : Option (Int) := bindv (v5 + 1) (fun v5_1 => c6 v4 v5_1)
def fX3_holds_163 (c6 : Int → Int → Option (Int)) (v1 : Int) (v2 : Int) (v3 : Int) (v5 : Int) (t0 : Int) (σ : Mm) : Option (Int) := bindv t0 (fun v4_1 => fX3_holds_165 c6 v1 v2 v3 v4_1 v5 σ)
def fX3_holds_153 (c6 : Int → Int → Option (Int)) (v1 : Int) (v2 : Int) (v3 : Int) (v4 : Int) (v5 : Int) (σ : Mm) : Option (Int) := cr v4 ((if v4 = 0 then fX3_holds_163 c6 v1 v2 v3 v5 1 σ else fX3_holds_163 c6 v1 v2 v3 v5 0 σ))
def fX3_holds_143 (c6 : Int → Int → Option (Int)) (v1 : Int) (v2 : Int) (v3 : Int) (v4 : Int) (v5 : Int) (v9 : Int) (v10 : Int) (σ : Mm) : Option (Int) := cr v9 ((if v9 = 0 then fX3_holds_165 c6 v1 v2 v3 v4 v5 σ else cr v10 ((if v10 < 0 then fX3_holds_153 c6 v1 v2 v3 v4 v5 σ else fX3_holds_165 c6 v1 v2 v3 v4 v5 σ))))
def fX3_holds_116 (c6 : Int → Int → Option (Int)) (v1 : Int) (v2 : Int) (v3 : Int) (v4 : Int) (v5 : Int) (v6 : Int) (v7 : Int) (v8 : Int) (t0 : Int) (σ : Mm) : Option (Int) := bindv t0 (fun v9_1 => bd (fX1_sideOf 95 v6 v7 v2 v3 σ) (fun x_2 => bindv x_2 (fun v10_3 => cr v8 ((if v8 = 0 then fX3_holds_143 c6 v1 v2 v3 v4 v5 v9_1 v10_3 σ else cr v10_3 ((if 0 < v10_3 then fX3_holds_153 c6 v1 v2 v3 v4 v5 σ else fX3_holds_143 c6 v1 v2 v3 v4 v5 v9_1 v10_3 σ)))))))
def fX3_holds_115 (c6 : Int → Int → Option (Int)) (v1 : Int) (v2 : Int) (v3 : Int) (v4 : Int) (v5 : Int) (v6 : Int) (v7 : Int) (v8 : Int) (σ : Mm) : Option (Int) := fX3_holds_116 c6 v1 v2 v3 v4 v5 v6 v7 v8 0 σ
def fX3_holds_81 (c6 : Int → Int → Option (Int)) (v1 : Int) (v2 : Int) (v3 : Int) (v4 : Int) (v5 : Int) (v6 : Int) (v7 : Int) (t0 : Int) (σ : Mm) : Option (Int) := bindv t0 (fun v8_1 => chk v7 24 (cr (σ 97 (v7).toNat) (cr v3 ((if v3 < σ 97 (v7).toNat then fX3_holds_115 c6 v1 v2 v3 v4 v5 v6 v7 v8_1 σ else chk v6 24 (cr (σ 97 (v6).toNat) (cr v3 ((if v3 < σ 97 (v6).toNat then fX3_holds_116 c6 v1 v2 v3 v4 v5 v6 v7 v8_1 1 σ else fX3_holds_115 c6 v1 v2 v3 v4 v5 v6 v7 v8_1 σ)))))))))
def fX3_holds_80 (c6 : Int → Int → Option (Int)) (v1 : Int) (v2 : Int) (v3 : Int) (v4 : Int) (v5 : Int) (v6 : Int) (v7 : Int) (σ : Mm) : Option (Int) := fX3_holds_81 c6 v1 v2 v3 v4 v5 v6 v7 0 σ
def fX3_holds_6 (v1 : Int) (v2 : Int) (v3 : Int) (σ : Mm) (e6 : Int → Option (Int)) (c6 : Int → Int → Option (Int)) (v4 : Int) (v5 : Int) : Option (Int) := chk v1 6 (cr v5 (cr (σ 15 (v1).toNat) ((if v5 < σ 15 (v1).toNat then chk v1 6 (chk v5 10 (bindv (σ (29 + (v1).toNat) (v5).toNat) (fun v6_4 => chk v1 6 (chk v1 6 (bd (fX7_following v5 (σ 15 (v1).toNat) σ) (fun x_6 => chk x_6 10 (bindv (σ (29 + (v1).toNat) (x_6).toNat) (fun v7_7 => chk v6_4 24 (cr (σ 97 (v6_4).toNat) (cr v3 ((if v3 < σ 97 (v6_4).toNat then fX3_holds_80 c6 v1 v2 v3 v4 v5 v6_4 v7_7 σ else chk v7_7 24 (cr (σ 97 (v7_7).toNat) (cr v3 ((if v3 < σ 97 (v7_7).toNat then fX3_holds_81 c6 v1 v2 v3 v4 v5 v6_4 v7_7 1 σ else fX3_holds_80 c6 v1 v2 v3 v4 v5 v6_4 v7_7 σ)))))))))))))))) else e6 v4))))
def lX3_holds_6 (v1 : Int) (v2 : Int) (v3 : Int) (σ : Mm) (e6 : Int → Option (Int)) (fu : Nat) : Int → Int → Option (Int) := itN (fun _ _ => none) (fun c6 => fX3_holds_6 v1 v2 v3 σ e6 c6) fu
def fX3_holds (v1 : Int) (v2 : Int) (v3 : Int) (σ : Mm) : Option (Int) := bindv 0 (fun v4_1 => bindv 0 (fun v5_2 => lX3_holds_6 v1 v2 v3 σ (fun v4_3 => fX3_holds_171 v4_3 σ) 400 v4_1 v5_2))
abbrev rmX3_isInLeastRing : Room := { frames := 1, cells := 0, slots := 0, locals := 23 }
def fX3_isInLeastRing_40 (σ : Mm) : Option (Int) := some 0
def fX3_isInLeastRing_34 (c2 : Int → Option (Int)) (v1 : Int) (v2 : Int) (σ : Mm) : Option (Int) := bindv (v2 + 1) (fun v2_1 => c2 v2_1)
def fX3_isInLeastRing_2 (v1 : Int) (σ : Mm) (e2 : Option (Int)) (c2 : Int → Option (Int)) (v2 : Int) : Option (Int) := cr v2 (cr (σ 95 10) ((if v2 < σ 95 10 then chk v2 6 (cr (σ 15 (v2).toNat) ((if 3 < σ 15 (v2).toNat then fX3_isInLeastRing_34 c2 v1 v2 σ else bd (fX3_indexIn v2 v1 σ) (fun x_4 => cr x_4 ((if x_4 < 0 then fX3_isInLeastRing_34 c2 v1 v2 σ else some 1)))))) else e2)))
def lX3_isInLeastRing_2 (v1 : Int) (σ : Mm) (e2 : Option (Int)) (fu : Nat) : Int → Option (Int) := itN (fun _ => none) (fun c2 => fX3_isInLeastRing_2 v1 σ e2 c2) fu
def fX3_isInLeastRing (v1 : Int) (σ : Mm) : Option (Int) := bindv 0 (fun v2_1 => lX3_isInLeastRing_2 v1 σ (fX3_isInLeastRing_40 σ) 400 v2_1)
abbrev rmX3_isOnBorder : Room := { frames := 2, cells := 0, slots := 0, locals := 48 }
def fX3_isOnBorder_61 (σ : Mm) : Option (Int) := some 0
def fX3_isOnBorder_3 (v1 : Int) (v2 : Int) (v3 : Int) (σ : Mm) (e3 : Option (Int)) (c3 : Int → Option (Int)) (v4 : Int) : Option (Int) := chk v1 6 (cr v4 (cr (σ 15 (v1).toNat) ((if v4 < σ 15 (v1).toNat then chk v1 6 (chk v4 10 (chk v1 6 (chk v1 6 (bd (fX7_following v4 (σ 15 (v1).toNat) σ) (fun x_5 => chk x_5 10 (bd (fX1_isOn 95 (σ (29 + (v1).toNat) (v4).toNat) (σ (29 + (v1).toNat) (x_5).toNat) v2 v3 σ) (fun x_6 => cr x_6 ((if x_6 = 0 then bindv (v4 + 1) (fun v4_8 => c3 v4_8) else some 1))))))))) else e3))))
def lX3_isOnBorder_3 (v1 : Int) (v2 : Int) (v3 : Int) (σ : Mm) (e3 : Option (Int)) (fu : Nat) : Int → Option (Int) := itN (fun _ => none) (fun c3 => fX3_isOnBorder_3 v1 v2 v3 σ e3 c3) fu
def fX3_isOnBorder (v1 : Int) (v2 : Int) (v3 : Int) (σ : Mm) : Option (Int) := bindv 0 (fun v4_1 => lX3_isOnBorder_3 v1 v2 v3 σ (fX3_isOnBorder_61 σ) 400 v4_1)
abbrev rmX3_shareEdge : Room := { frames := 2, cells := 0, slots := 0, locals := 46 }
def fX3_shareEdge_67 (σ : Mm) : Option (Int) := some 0
def fX3_shareEdge_2 (v1 : Int) (v2 : Int) (σ : Mm) (e2 : Option (Int)) (c2 : Int → Option (Int)) (v3 : Int) : Option (Int) := chk v1 6 (cr v3 (cr (σ 15 (v1).toNat) ((if v3 < σ 15 (v1).toNat then chk v1 6 (chk v1 6 (bd (fX7_following v3 (σ 15 (v1).toNat) σ) (fun x_4 => chk x_4 10 (bindv (σ (29 + (v1).toNat) (x_4).toNat) (fun v4_5 => chk v2 6 (chk v2 6 (chk v1 6 (chk v3 10 (bd (fX7_areNext (29 + (v2).toNat) (σ 15 (v2).toNat) (σ (29 + (v1).toNat) (v3).toNat) v4_5 σ) (fun x_8 => cr x_8 ((if x_8 = 0 then bindv (v3 + 1) (fun v3_10 => c2 v3_10) else some 1)))))))))))) else e2))))
def lX3_shareEdge_2 (v1 : Int) (v2 : Int) (σ : Mm) (e2 : Option (Int)) (fu : Nat) : Int → Option (Int) := itN (fun _ => none) (fun c2 => fX3_shareEdge_2 v1 v2 σ e2 c2) fu
def fX3_shareEdge (v1 : Int) (v2 : Int) (σ : Mm) : Option (Int) := bindv 0 (fun v3_1 => lX3_shareEdge_2 v1 v2 σ (fX3_shareEdge_67 σ) 400 v3_1)
abbrev rmX3_neighboursOf : Room := { frames := 3, cells := 0, slots := 0, locals := 70 }
def fX3_neighboursOf_38 (v2 : Int) (σ : Mm) : Option (Int) := some v2
def fX3_neighboursOf_32 (c4 : Int → Int → Option (Int)) (v1 : Int) (v2 : Int) (v3 : Int) (σ : Mm) : Option (Int) := bindv (v3 + 1) (fun v3_1 => c4 v2 v3_1)
def fX3_neighboursOf_4 (v1 : Int) (σ : Mm) (e4 : Int → Option (Int)) (c4 : Int → Int → Option (Int)) (v2 : Int) (v3 : Int) : Option (Int) := cr v3 (cr (σ 95 10) ((if v3 < σ 95 10 then cr v3 (cr v1 ((if v3 = v1 then fX3_neighboursOf_32 c4 v1 v2 v3 σ else bd (fX3_shareEdge v1 v3 σ) (fun x_5 => cr x_5 ((if x_5 = 0 then fX3_neighboursOf_32 c4 v1 v2 v3 σ else bindv (v2 + 1) (fun v2_7 => fX3_neighboursOf_32 c4 v1 v2_7 v3 σ))))))) else e4 v2)))
def lX3_neighboursOf_4 (v1 : Int) (σ : Mm) (e4 : Int → Option (Int)) (fu : Nat) : Int → Int → Option (Int) := itN (fun _ _ => none) (fun c4 => fX3_neighboursOf_4 v1 σ e4 c4) fu
def fX3_neighboursOf (v1 : Int) (σ : Mm) : Option (Int) := bindv 0 (fun v2_1 => bindv 0 (fun v3_2 => lX3_neighboursOf_4 v1 σ (fun v2_3 => fX3_neighboursOf_38 v2_3 σ) 400 v2_1 v3_2))
abbrev rmX3_usesOf : Room := { frames := 2, cells := 0, slots := 0, locals := 46 }
def fX3_usesOf_48 (v3 : Int) (σ : Mm) : Option (Int) := some v3
def fX3_usesOf_42 (c5 : Int → Int → Option (Int)) (v1 : Int) (v2 : Int) (v3 : Int) (v4 : Int) (σ : Mm) : Option (Int) := bindv (v4 + 1) (fun v4_1 => c5 v3 v4_1)
def fX3_usesOf_5 (v1 : Int) (v2 : Int) (σ : Mm) (e5 : Int → Option (Int)) (c5 : Int → Int → Option (Int)) (v3 : Int) (v4 : Int) : Option (Int) := cr v4 (cr (σ 95 10) ((if v4 < σ 95 10 then chk v4 6 (chk v4 6 (bd (fX7_areNext (29 + (v4).toNat) (σ 15 (v4).toNat) v1 v2 σ) (fun x_4 => cr x_4 ((if x_4 = 0 then fX3_usesOf_42 c5 v1 v2 v3 v4 σ else bindv (v3 + 1) (fun v3_6 => fX3_usesOf_42 c5 v1 v2 v3_6 v4 σ)))))) else e5 v3)))
def lX3_usesOf_5 (v1 : Int) (v2 : Int) (σ : Mm) (e5 : Int → Option (Int)) (fu : Nat) : Int → Int → Option (Int) := itN (fun _ _ => none) (fun c5 => fX3_usesOf_5 v1 v2 σ e5 c5) fu
def fX3_usesOf (v1 : Int) (v2 : Int) (σ : Mm) : Option (Int) := bindv 0 (fun v3_1 => bindv 0 (fun v4_2 => lX3_usesOf_5 v1 v2 σ (fun v3_3 => fX3_usesOf_48 v3_3 σ) 400 v3_1 v4_2))
abbrev rmX3_someoneLiesIn : Room := { frames := 2, cells := 0, slots := 0, locals := 53 }
def fX3_someoneLiesIn_84 (σ : Mm) : Option (Int) := some 0
def fX3_someoneLiesIn_78 (c3 : Int → Option (Int)) (v1 : Int) (v2 : Int) (v3 : Int) (v4 : Int) (σ : Mm) : Option (Int) := bindv (v4 + 1) (fun v4_1 => c3 v4_1)
def fX3_someoneLiesIn_3 (v1 : Int) (v2 : Int) (v3 : Int) (σ : Mm) (e3 : Option (Int)) (c3 : Int → Option (Int)) (v4 : Int) : Option (Int) := cr v4 (cr (σ 95 9) ((if v4 < σ 95 9 then chk v4 24 (cr (σ 16 (v4).toNat) ((if σ 16 (v4).toNat = 0 then fX3_someoneLiesIn_78 c3 v1 v2 v3 v4 σ else cr v4 (cr v1 ((if v4 = v1 then fX3_someoneLiesIn_78 c3 v1 v2 v3 v4 σ else cr v4 (cr v2 ((if v4 = v2 then fX3_someoneLiesIn_78 c3 v1 v2 v3 v4 σ else cr v4 (cr v3 ((if v4 = v3 then fX3_someoneLiesIn_78 c3 v1 v2 v3 v4 σ else chk v4 24 (chk v4 24 (bd (fX1_isInTriangle 95 v1 v2 v3 (σ 96 (v4).toNat) (σ 97 (v4).toNat) σ) (fun x_10 => cr x_10 ((if x_10 = 0 then fX3_someoneLiesIn_78 c3 v1 v2 v3 v4 σ else some 1))))))))))))))))) else e3)))
def lX3_someoneLiesIn_3 (v1 : Int) (v2 : Int) (v3 : Int) (σ : Mm) (e3 : Option (Int)) (fu : Nat) : Int → Option (Int) := itN (fun _ => none) (fun c3 => fX3_someoneLiesIn_3 v1 v2 v3 σ e3 c3) fu
def fX3_someoneLiesIn (v1 : Int) (v2 : Int) (v3 : Int) (σ : Mm) : Option (Int) := bindv 0 (fun v4_1 => lX3_someoneLiesIn_3 v1 v2 v3 σ (fX3_someoneLiesIn_84 σ) 400 v4_1)
abbrev rmX3_wouldTurnOver : Room := { frames := 2, cells := 0, slots := 0, locals := 47 }
def fX3_wouldTurnOver_82 (σ : Mm) : Option (Int × Mm) := some (0, σ)
def fX3_wouldTurnOver_76 (c2 : Int → Mm → Option (Int × Mm)) (v1 : Int) (v2 : Int) (σ : Mm) : Option (Int × Mm) := bindv (v2 + 1) (fun v2_1 => c2 v2_1 σ)
def fX3_wouldTurnOver_2 (v1 : Int) (e2 : Mm → Option (Int × Mm)) (c2 : Int → Mm → Option (Int × Mm)) (v2 : Int) (σ : Mm) : Option (Int × Mm) := cr v2 (cr (σ 95 10) ((if v2 < σ 95 10 then bd2 (fX3_copyWithout 17 v2 v1 σ) (fun x_3 σ_3 => bindv x_3 (fun v3_4 => chk v2 6 (cr v3_4 (cr (σ_3 15 (v2).toNat) ((if v3_4 < σ_3 15 (v2).toNat then bd (fX1_areaOf 95 17 v3_4 σ_3) (fun x_7 => bd (fJ6_signum_0f7a4 x_7 σ_3) (fun x_8 => chk v2 6 (chk v2 6 (bd (fX1_areaOf 95 (29 + (v2).toNat) (σ_3 15 (v2).toNat) σ_3) (fun x_10 => bd (fJ6_signum_0f7a4 x_10 σ_3) (fun x_11 => cr x_8 (cr x_11 ((if x_8 = x_11 then fX3_wouldTurnOver_76 c2 v1 v2 σ_3 else some (1, σ_3)))))))))) else fX3_wouldTurnOver_76 c2 v1 v2 σ_3)))))) else e2 σ)))
def lX3_wouldTurnOver_2 (v1 : Int) (e2 : Mm → Option (Int × Mm)) (fu : Nat) : Int → Mm → Option (Int × Mm) := itN (fun _ _ => none) (fun c2 => fX3_wouldTurnOver_2 v1 e2 c2) fu
def fX3_wouldTurnOver (v1 : Int) (σ : Mm) : Option (Int × Mm) := bindv 0 (fun v2_1 => lX3_wouldTurnOver_2 v1 (fun σ_2 => fX3_wouldTurnOver_82 σ_2) 400 v2_1 σ)
abbrev rmX3_reasonOf : Room := { frames := 3, cells := 0, slots := 0, locals := 77 }
def fX3_reasonOf_90 (t0 : Int) (σ : Mm) : Option (Int × Mm) := some (t0, σ)
def fX3_reasonOf_42 (σ : Mm) : Option (Int × Mm) := some (1, σ)
def fX3_reasonOf_20 (σ : Mm) : Option (Int × Mm) := some (1, σ)
def fX3_reasonOf (v1 : Int) (σ : Mm) : Option (Int × Mm) := bd (fX1_isNode 95 v1 σ) (fun x_1 => cr x_1 ((if x_1 = 0 then chk v1 24 (cr (σ 16 (v1).toNat) ((if σ 16 (v1).toNat = 0 then fX3_reasonOf_20 σ else bd (fX3_ahead v1 σ) (fun x_4 => bindv x_4 (fun v2_5 => bd (fX3_behind v1 σ) (fun x_6 => bindv x_6 (fun v3_7 => cr v2_5 ((if v2_5 < 0 then fX3_reasonOf_42 σ else cr v3_7 ((if v3_7 < 0 then fX3_reasonOf_42 σ else bd (fX3_usesOf v2_5 v3_7 σ) (fun x_10 => cr x_10 ((if 0 < x_10 then some (2, σ) else bd (fX3_isInLeastRing v1 σ) (fun x_12 => cr x_12 ((if x_12 = 0 then bd (fX3_someoneLiesIn v2_5 v1 v3_7 σ) (fun x_14 => cr x_14 ((if x_14 = 0 then bd2 (fX3_wouldTurnOver v1 σ) (fun x_16 σ_16 => cr x_16 ((if x_16 = 0 then fX3_reasonOf_90 0 σ_16 else fX3_reasonOf_90 5 σ_16))) else some (4, σ)))) else some (3, σ)))))))))))))))))) else fX3_reasonOf_20 σ)))
abbrev rmX3_showAll : Room := { frames := 1, cells := 0, slots := 0, locals := 40 }
def fX3_showAll_92 (σ : Mm) : Option (Mm) := some σ
def fX3_showAll_85 (c58 : Int → Mm → Option (Mm)) (v1 : Int) (t1 : Int) (t2 : Int) (σ : Mm) : Option (Mm) := chb t2 (chk t1 24 (bindv (sto σ 16 (t1).toNat t2) (fun σ_1 => bindv (v1 + 1) (fun v1_2 => c58 v1_2 σ_1))))
def fX3_showAll_58 (e58 : Mm → Option (Mm)) (c58 : Int → Mm → Option (Mm)) (v1 : Int) (σ : Mm) : Option (Mm) := cr v1 ((if v1 < 24 then cr v1 (cr (σ 95 9) ((if v1 < σ 95 9 then fX3_showAll_85 c58 v1 v1 1 σ else fX3_showAll_85 c58 v1 v1 0 σ))) else e58 σ))
def lX3_showAll_58 (e58 : Mm → Option (Mm)) (fu : Nat) : Int → Mm → Option (Mm) := itN (fun _ _ => none) (fun c58 => fX3_showAll_58 e58 c58) fu
def fX3_showAll_56 (σ : Mm) : Option (Mm) := bindv 0 (fun v1_1 => lX3_showAll_58 (fun σ_2 => fX3_showAll_92 σ_2) 400 v1_1 σ)
def fX3_showAll_2 (e2 : Mm → Option (Mm)) (c2 : Int → Mm → Option (Mm)) (v1 : Int) (σ : Mm) : Option (Mm) := cr v1 (cr (σ 95 10) ((if v1 < σ 95 10 then chk v1 6 (chk v1 6 (bindv (sto σ 15 (v1).toNat (σ 100 (v1).toNat)) (fun σ_3 => chk v1 6 (chk v1 6 (bindv (cpy σ_3 (105 + (v1).toNat) (29 + (v1).toNat) 10) (fun σ_6 => bindv (v1 + 1) (fun v1_7 => c2 v1_7 σ_6))))))) else e2 σ)))
def lX3_showAll_2 (e2 : Mm → Option (Mm)) (fu : Nat) : Int → Mm → Option (Mm) := itN (fun _ _ => none) (fun c2 => fX3_showAll_2 e2 c2) fu
def fX3_showAll (σ : Mm) : Option (Mm) := bindv 0 (fun v1_1 => lX3_showAll_2 (fun σ_2 => fX3_showAll_56 σ_2) 400 v1_1 σ)
abbrev rmX3_triangleOf : Room := { frames := 3, cells := 0, slots := 0, locals := 67 }
def fX3_triangleOf_54 (t0 : Int) (σ : Mm) : Option (Int) := some t0
def fX3_triangleOf_20 (σ : Mm) : Option (Int) := fX3_triangleOf_54 0 σ
def fX3_triangleOf (v1 : Int) (σ : Mm) : Option (Int) := bd (fX3_ahead v1 σ) (fun x_1 => bindv x_1 (fun v2_2 => bd (fX3_behind v1 σ) (fun x_3 => bindv x_3 (fun v3_4 => cr v2_2 ((if v2_2 < 0 then fX3_triangleOf_20 σ else cr v3_4 ((if v3_4 < 0 then fX3_triangleOf_20 σ else chk v1 24 (chk v1 24 (bd (fX1_sideOf 95 v2_2 v3_4 (σ 96 (v1).toNat) (σ 97 (v1).toNat) σ) (fun x_7 => cr x_7 (fX3_triangleOf_54 (abI x_7) σ))))))))))))
abbrev rmX4_isNothing : Room := { frames := 0, cells := 0, slots := 0, locals := 0 }
def fX4_isNothing_13 (k : Nat) (t0 : Int) (σ : Mm) : Option (Int) := chb t0 (some t0)
def fX4_isNothing (k : Nat) (σ : Mm) : Option (Int) := cr (σ k 1) ((if σ k 1 = (-1) then fX4_isNothing_13 k 1 σ else fX4_isNothing_13 k 0 σ))
abbrev rmX4_faultOfThree : Room := { frames := 1, cells := 0, slots := 0, locals := 20 }
def fX4_faultOfThree_44 (k : Nat) (t0 : Int) (σ : Mm) : Option (Int) := some t0
def fX4_faultOfThree_39 (k : Nat) (σ : Mm) : Option (Int) := fX4_faultOfThree_44 k 2 σ
def fX4_faultOfThree (k : Nat) (v1 : Int) (v2 : Int) (σ : Mm) : Option (Int) := bd (fX4_isNothing k σ) (fun x_1 => cr x_1 ((if x_1 = 0 then cr (σ k 1) (cr v1 ((if σ k 1 = v1 then crl v2 ((if v2 < 0 then fX4_faultOfThree_39 k σ else cr (σ k 2) (crl (v2 + 2) (crl (σ k 2) ((if v2 + 2 < σ k 2 then fX4_faultOfThree_44 k 0 σ else fX4_faultOfThree_39 k σ)))))) else some 3))) else some 1)))
abbrev rmX4_put : Room := { frames := 0, cells := 0, slots := 0, locals := 0 }
def fX4_put_61 (k : Nat) (σ : Mm) : Option (Mm) := some σ
def fX4_put (k : Nat) (v1 : Int) (v2 : Int) (σ : Mm) : Option (Mm) := cr (σ k 1) ((if σ k 1 = 0 then chk v1 40 (bindv (sto σ (k + 1) (v1).toNat (byI v2)) (fun σ_3 => fX4_put_61 k σ_3)) else (if σ k 1 = 1 then chk v1 40 (bindv (sto σ (k + 1) (v1).toNat (shI v2)) (fun σ_5 => fX4_put_61 k σ_5)) else chk v1 40 (bindv (sto σ (k + 1) (v1).toNat v2) (fun σ_6 => fX4_put_61 k σ_6)))))
abbrev rmX4_renew : Room := { frames := 0, cells := 0, slots := 0, locals := 0 }
def fX4_renew_31 (k : Nat) (σ : Mm) : Option (Mm) := some σ
def fX4_renew_12 (k : Nat) (e12 : Mm → Option (Mm)) (c12 : Int → Mm → Option (Mm)) (v3 : Int) (σ : Mm) : Option (Mm) := cr v3 ((if v3 < 40 then chk v3 40 (bindv (sto σ (k + 1) (v3).toNat 0) (fun σ_2 => bindv (v3 + 1) (fun v3_3 => c12 v3_3 σ_2))) else e12 σ))
def lX4_renew_12 (k : Nat) (e12 : Mm → Option (Mm)) (fu : Nat) : Int → Mm → Option (Mm) := itN (fun _ _ => none) (fun c12 => fX4_renew_12 k e12 c12) fu
def fX4_renew (k : Nat) (v1 : Int) (v2 : Int) (σ : Mm) : Option (Mm) := bindv (sto σ k 1 v1) (fun σ_1 => bindv (sto σ_1 k 2 v2) (fun σ_2 => bindv 0 (fun v3_3 => lX4_renew_12 k (fun σ_4 => fX4_renew_31 k σ_4) 400 v3_3 σ_2)))
abbrev rmX5_noteGone : Room := { frames := 2, cells := 0, slots := 0, locals := 47 }
def fX5_noteGone (v1 : Int) (v2 : Int) (v3 : Int) (σ : Mm) : Option (Mm) := bindv (sto σ 9 4 v2) (fun σ_1 => chk v2 25 (bindv (sto σ_1 10 (v2).toNat v1) (fun σ_2 => chk v2 25 (bindv (sto σ_2 11 (v2).toNat v3) (fun σ_3 => chk v1 24 (bindv (sto σ_3 12 (v1).toNat v2) (fun σ_4 => bd (fX3_dropPoint v1 σ_4) (fun σ_5 => some σ_5))))))))
abbrev rmX5_sceneAt : Room := { frames := 2, cells := 0, slots := 0, locals := 61 }
def fX5_sceneAt_41 (σ : Mm) : Option (Mm) := some σ
def fX5_sceneAt_9 (v1 : Int) (e9 : Mm → Option (Mm)) (c9 : Int → Mm → Option (Mm)) (v2 : Int) (σ : Mm) : Option (Mm) := cr v2 (cr v1 ((if v1 < v2 then e9 σ else cr v2 (cr (σ 9 4) ((if σ 9 4 < v2 then e9 σ else chk v2 25 (bd (fX3_dropPoint (σ 10 (v2).toNat) σ) (fun σ_5 => bindv (v2 + 1) (fun v2_6 => c9 v2_6 σ_5)))))))))
def lX5_sceneAt_9 (v1 : Int) (e9 : Mm → Option (Mm)) (fu : Nat) : Int → Mm → Option (Mm) := itN (fun _ _ => none) (fun c9 => fX5_sceneAt_9 v1 e9 c9) fu
def fX5_sceneAt (v1 : Int) (σ : Mm) : Option (Mm) := bd (fX3_showAll σ) (fun σ_1 => bindv 1 (fun v2_2 => lX5_sceneAt_9 v1 (fun σ_3 => fX5_sceneAt_41 σ_3) 400 v2_2 σ_1))
abbrev rmX5_thin : Room := { frames := 4, cells := 0, slots := 0, locals := 100 }
def fX5_thin_125 (σ : Mm) : Option (Mm) := some σ
def fX5_thin_105 (c35 : Int → Mm → Option (Mm)) (e35 : Mm → Option (Mm)) (v1 : Int) (v2 : Int) (v3 : Int) (σ : Mm) : Option (Mm) := cr v2 ((if v2 < 0 then e35 σ else bd (fX5_noteGone v2 v1 v3 σ) (fun σ_2 => bindv (v1 + 1) (fun v1_3 => c35 v1_3 σ_2))))
def fX5_thin_99 (c48 : Int → Int → Int → Mm → Option (Mm)) (v1 : Int) (v2 : Int) (v3 : Int) (v4 : Int) (σ : Mm) : Option (Mm) := bindv (v4 + 1) (fun v4_1 => c48 v2 v3 v4_1 σ)
def fX5_thin_81 (c48 : Int → Int → Int → Mm → Option (Mm)) (v1 : Int) (v2 : Int) (v3 : Int) (v4 : Int) (v5 : Int) (σ : Mm) : Option (Mm) := bd2 (fX3_reasonOf v4 σ) (fun x_1 σ_1 => cr x_1 ((if x_1 = 0 then bindv v4 (fun v2_3 => bindv v5 (fun v3_4 => fX5_thin_99 c48 v1 v2_3 v3_4 v4 σ_1)) else fX5_thin_99 c48 v1 v2 v3 v4 σ_1)))
def fX5_thin_48 (v1 : Int) (e48 : Int → Int → Mm → Option (Mm)) (c48 : Int → Int → Int → Mm → Option (Mm)) (v2 : Int) (v3 : Int) (v4 : Int) (σ : Mm) : Option (Mm) := cr v4 (cr (σ 95 9) ((if v4 < σ 95 9 then bd (fX3_triangleOf v4 σ) (fun x_3 => bindv x_3 (fun v5_4 => cr v2 ((if v2 < 0 then fX5_thin_81 c48 v1 v2 v3 v4 v5_4 σ else cr v5_4 (cr v3 ((if v5_4 < v3 then fX5_thin_81 c48 v1 v2 v3 v4 v5_4 σ else fX5_thin_99 c48 v1 v2 v3 v4 σ))))))) else e48 v2 v3 σ)))
def lX5_thin_48 (v1 : Int) (e48 : Int → Int → Mm → Option (Mm)) (fu : Nat) : Int → Int → Int → Mm → Option (Mm) := itN (fun _ _ _ _ => none) (fun c48 => fX5_thin_48 v1 e48 c48) fu
def fX5_thin_35 (e35 : Mm → Option (Mm)) (c35 : Int → Mm → Option (Mm)) (v1 : Int) (σ : Mm) : Option (Mm) := cr v1 ((if 24 < v1 then e35 σ else bindv (-1) (fun v2_2 => bindv 0 (fun v3_3 => bindv 0 (fun v4_4 => lX5_thin_48 v1 (fun v2_5 v3_6 σ_7 => fX5_thin_105 c35 e35 v1 v2_5 v3_6 σ_7) 400 v2_2 v3_3 v4_4 σ)))))
def lX5_thin_35 (e35 : Mm → Option (Mm)) (fu : Nat) : Int → Mm → Option (Mm) := itN (fun _ _ => none) (fun c35 => fX5_thin_35 e35 c35) fu
def fX5_thin_26 (σ : Mm) : Option (Mm) := bd (fX3_showAll σ) (fun σ_1 => bindv 1 (fun v1_2 => lX5_thin_35 (fun σ_3 => fX5_thin_125 σ_3) 400 v1_2 σ_1))
def fX5_thin_7 (e7 : Mm → Option (Mm)) (c7 : Int → Mm → Option (Mm)) (v1 : Int) (σ : Mm) : Option (Mm) := cr v1 ((if v1 < 24 then chk v1 24 (bindv (sto σ 12 (v1).toNat 0) (fun σ_2 => bindv (v1 + 1) (fun v1_3 => c7 v1_3 σ_2))) else e7 σ))
def lX5_thin_7 (e7 : Mm → Option (Mm)) (fu : Nat) : Int → Mm → Option (Mm) := itN (fun _ _ => none) (fun c7 => fX5_thin_7 e7 c7) fu
def fX5_thin (σ : Mm) : Option (Mm) := bindv (sto σ 9 4 0) (fun σ_1 => bindv 0 (fun v1_2 => lX5_thin_7 (fun σ_3 => fX5_thin_26 σ_3) 400 v1_2 σ_1))
abbrev rmX6_append : Room := { frames := 0, cells := 0, slots := 0, locals := 0 }
def fX6_append_31 (σ : Mm) : Option (Mm) := some σ
def fX6_append (v1 : Int) (σ : Mm) : Option (Mm) := cr (σ 1 1) ((if σ 1 1 < 320 then chk (σ 1 1) 320 (bindv (sto σ 2 (σ 1 1).toNat (byI (byI v1))) (fun σ_2 => bindv (sto σ_2 1 1 ((σ_2 1 1) + 1)) (fun σ_3 => fX6_append_31 σ_3))) else fX6_append_31 σ))
abbrev rmX7_along : Room := { frames := 4, cells := 0, slots := 0, locals := 93 }
def fX7_along_72 (t0 : Int) (σ : Mm) : Option (Int) := some t0
def fX7_along_26 (σ : Mm) : Option (Int) := some (-1)
def fX7_along (v1 : Int) (v2 : Int) (v3 : Int) (σ : Mm) : Option (Int) := bd (fX7_isBelow v1 (σ 4 5) σ) (fun x_1 => cr x_1 ((if x_1 = 0 then fX7_along_26 σ else cr v2 ((if v2 < 0 then fX7_along_26 σ else bd (fX7_isBelow v3 2 σ) (fun x_4 => cr x_4 ((if x_4 = 0 then fX7_along_26 σ else cr v3 ((if v3 = 1 then bd (fX0_ringOf v1 v2 σ) (fun x_10 => some x_10) else chk v1 60 (cr v2 (cr (σ 6 (v1).toNat) ((if v2 < σ 6 (v1).toNat then chk v1 60 (chk v2 11 (fX7_along_72 (σ (35 + (v1).toNat) (v2).toNat) σ)) else fX7_along_72 (-4) σ))))))))))))))
abbrev rmX7_arc : Room := { frames := 2, cells := 0, slots := 0, locals := 45 }
def fX7_arc (v1 : Int) (v2 : Int) (σ : Mm) : Option (Int) := bd (fX7_isBelow v1 (σ 4 5) σ) (fun x_1 => cr x_1 ((if x_1 = 0 then some (-1) else cr v2 ((if v2 = 0 then chk v1 60 (some (σ 6 (v1).toNat)) else (if v2 = 1 then bd (fX0_firstOf v1 σ) (fun x_6 => some x_6) else (if v2 = 2 then bd (fX0_lastOf v1 σ) (fun x_8 => some x_8) else (if v2 = 3 then bd (fX0_ringsOf v1 σ) (fun x_10 => some x_10) else some (-1)))))))))
abbrev rmX7_refresh : Room := { frames := 5, cells := 0, slots := 0, locals := 125 }
def fX7_refresh (σ : Mm) : Option (Mm) := bd (fX0_trace σ) (fun σ_1 => bd (fX5_thin σ_1) (fun σ_2 => some σ_2))
abbrev rmX7_back : Room := { frames := 6, cells := 0, slots := 0, locals := 145 }
def fX7_back (v1 : Int) (σ : Mm) : Option (Int × Mm) := bd (fX7_isBelow v1 2 σ) (fun x_1 => cr x_1 ((if x_1 = 0 then some ((-1), σ) else chk v1 2 (cr (σ 19 (v1).toNat) ((if σ 19 (v1).toNat = 0 then some ((-2), σ) else chk v1 2 (bd (fX1_copyFrom 95 (143 + 16 * (v1).toNat) σ) (fun σ_5 => bd (fX7_refresh σ_5) (fun σ_6 => some (σ_6 95 9, σ_6))))))))))
abbrev rmX7_isStage : Room := { frames := 0, cells := 0, slots := 0, locals := 0 }
def fX7_isStage_20 (t0 : Int) (σ : Mm) : Option (Int) := chb t0 (some t0)
def fX7_isStage_19 (σ : Mm) : Option (Int) := fX7_isStage_20 0 σ
def fX7_isStage (v1 : Int) (σ : Mm) : Option (Int) := cr v1 ((if v1 < 0 then fX7_isStage_19 σ else cr v1 (cr (σ 9 4) ((if σ 9 4 < v1 then fX7_isStage_19 σ else fX7_isStage_20 1 σ)))))
abbrev rmX7_corner : Room := { frames := 3, cells := 0, slots := 0, locals := 83 }
def fX7_corner_61 (t0 : Int) (σ : Mm) : Option (Int × Mm) := some (t0, σ)
def fX7_corner_22 (σ : Mm) : Option (Int × Mm) := some ((-1), σ)
def fX7_corner (v1 : Int) (v2 : Int) (v3 : Int) (σ : Mm) : Option (Int × Mm) := bd (fX7_isBelow v1 (σ 95 10) σ) (fun x_1 => cr x_1 ((if x_1 = 0 then fX7_corner_22 σ else bd (fX7_isStage v2 σ) (fun x_3 => cr x_3 ((if x_3 = 0 then fX7_corner_22 σ else bd (fX5_sceneAt v2 σ) (fun σ_5 => chk v1 6 (bd (fX7_isBelow v3 (σ_5 15 (v1).toNat) σ_5) (fun x_6 => cr x_6 ((if x_6 = 0 then fX7_corner_61 (-1) σ_5 else chk v1 6 (chk v3 10 (fX7_corner_61 (σ_5 (29 + (v1).toNat) (v3).toNat) σ_5)))))))))))))
abbrev rmX7_count : Room := { frames := 1, cells := 0, slots := 0, locals := 23 }
def fX7_count_100 (t0 : Int) (σ : Mm) : Option (Int) := some t0
def fX7_count_64 (t0 : Int) (t1 : Int) (σ : Mm) : Option (Int) := some (t0 + t1)
def fX7_count_50 (t0 : Int) (σ : Mm) : Option (Int) := chk 1 2 (cr (σ 19 1) ((if σ 19 1 = 0 then fX7_count_64 t0 0 σ else fX7_count_64 t0 1 σ)))
def fX7_count (v1 : Int) (σ : Mm) : Option (Int) := cr v1 ((if v1 = 0 then chk 0 2 (cr (σ 19 0) ((if σ 19 0 = 0 then fX7_count_50 0 σ else fX7_count_50 1 σ))) else (if v1 = 1 then some (σ 1 1) else (if v1 = 2 then chk 0 4 (bd (fX4_isNothing (21 + 2 * 0) σ) (fun x_7 => cr x_7 ((if x_7 = 0 then chk 0 4 (fX7_count_100 (σ (21 + 2 * 0) 2) σ) else fX7_count_100 (-4) σ)))) else (if v1 = 3 then bd (fX1_sumOf 95 96 σ) (fun x_11 => some x_11) else (if v1 = 4 then bd (fX1_sumOf 95 97 σ) (fun x_13 => some x_13) else some (-1)))))))
abbrev rmX7_edge : Room := { frames := 3, cells := 0, slots := 0, locals := 83 }
def fX7_edge_36 (σ : Mm) : Option (Int × Mm) := some ((-1), σ)
def fX7_edge (v1 : Int) (v2 : Int) (v3 : Int) (σ : Mm) : Option (Int × Mm) := bd (fX7_isBelow v1 (σ 95 9) σ) (fun x_1 => cr x_1 ((if x_1 = 0 then fX7_edge_36 σ else bd (fX7_isBelow v2 (σ 95 9) σ) (fun x_3 => cr x_3 ((if x_3 = 0 then fX7_edge_36 σ else bd (fX7_isStage v3 σ) (fun x_5 => cr x_5 ((if x_5 = 0 then fX7_edge_36 σ else bd (fX5_sceneAt v3 σ) (fun σ_7 => bd (fX3_usesOf v1 v2 σ_7) (fun x_8 => some (x_8, σ_7))))))))))))
abbrev rmX7_end : Room := { frames := 0, cells := 0, slots := 0, locals := 0 }
def fX7_end_15 (σ : Mm) : Option (Int × Mm) := some ((-1), σ)
def fX7_end (v1 : Int) (σ : Mm) : Option (Int × Mm) := cr v1 ((if v1 < 0 then fX7_end_15 σ else cr v1 (cr (σ 1 1) ((if σ 1 1 < v1 then fX7_end_15 σ else bindv (σ 1 1) (fun v2_4 => bindv (sto σ 1 1 v1) (fun σ_5 => some (v2_4, σ_5))))))))
abbrev rmX7_fault : Room := { frames := 0, cells := 0, slots := 0, locals := 0 }
def fX7_fault (σ : Mm) : Option (Int) := some (σ 0 10)
abbrev rmX7_feed : Room := { frames := 1, cells := 0, slots := 0, locals := 21 }
def fX7_feed (v1 : Int) (σ : Mm) : Option (Int × Mm) := bd (fX7_isBelow v1 128 σ) (fun x_1 => cr x_1 ((if x_1 = 0 then some ((-1), σ) else cr (σ 1 1) ((if σ 1 1 < 320 then bd (fX6_append v1 σ) (fun σ_4 => some (σ_4 1 1, σ_4)) else some ((-3), σ))))))
abbrev rmX7_forgetImages : Room := { frames := 0, cells := 0, slots := 0, locals := 0 }
def fX7_forgetImages_20 (σ : Mm) : Option (Mm) := some σ
def fX7_forgetImages_2 (e2 : Mm → Option (Mm)) (c2 : Int → Mm → Option (Mm)) (v1 : Int) (σ : Mm) : Option (Mm) := cr v1 ((if v1 < 2 then chb 0 (chk v1 2 (bindv (sto σ 19 (v1).toNat 0) (fun σ_2 => bindv (v1 + 1) (fun v1_3 => c2 v1_3 σ_2)))) else e2 σ))
def lX7_forgetImages_2 (e2 : Mm → Option (Mm)) (fu : Nat) : Int → Mm → Option (Mm) := itN (fun _ _ => none) (fun c2 => fX7_forgetImages_2 e2 c2) fu
def fX7_forgetImages (σ : Mm) : Option (Mm) := bindv 0 (fun v1_1 => lX7_forgetImages_2 (fun σ_2 => fX7_forgetImages_20 σ_2) 400 v1_1 σ)
abbrev rmX7_gone : Room := { frames := 1, cells := 0, slots := 0, locals := 21 }
def fX7_gone_25 (t0 : Int) (σ : Mm) : Option (Int) := some t0
def fX7_gone_12 (σ : Mm) : Option (Int) := fX7_gone_25 (-1) σ
def fX7_gone (v1 : Int) (σ : Mm) : Option (Int) := cr v1 ((if v1 = 0 then fX7_gone_12 σ else bd (fX7_isStage v1 σ) (fun x_2 => cr x_2 ((if x_2 = 0 then fX7_gone_12 σ else chk v1 25 (fX7_gone_25 (σ 10 (v1).toNat) σ))))))
abbrev rmX7_isPlace : Room := { frames := 1, cells := 0, slots := 0, locals := 21 }
def fX7_isPlace_25 (t0 : Int) (σ : Mm) : Option (Int) := chb t0 (some t0)
def fX7_isPlace_24 (σ : Mm) : Option (Int) := fX7_isPlace_25 0 σ
def fX7_isPlace (v0 : Int) (v1 : Int) (σ : Mm) : Option (Int) := bd (fX7_isBelow v0 200 σ) (fun x_1 => cr x_1 ((if x_1 = 0 then fX7_isPlace_24 σ else bd (fX7_isBelow v1 200 σ) (fun x_3 => cr x_3 ((if x_3 = 0 then fX7_isPlace_24 σ else fX7_isPlace_25 1 σ))))))
abbrev rmX7_keep : Room := { frames := 1, cells := 0, slots := 0, locals := 24 }
def fX7_keep_37 (t0 : Int) (σ : Mm) : Option (Int) := some t0
def fX7_keep (v1 : Int) (σ : Mm) : Option (Int) := cr v1 ((if v1 < 0 then some (-1) else bd (fX1_pointsWithEdges 95 σ) (fun x_2 => cr 0 (cr (x_2 - v1) (bindv (mxI 0 (x_2 - v1)) (fun v2_3 => cr v2_3 (cr (σ 9 4) ((if σ 9 4 < v2_3 then fX7_keep_37 (-4) σ else fX7_keep_37 v2_3 σ)))))))))
abbrev rmX7_lay : Room := { frames := 1, cells := 0, slots := 0, locals := 22 }
def fX7_lay (v1 : Int) (v2 : Int) (v3 : Int) (σ : Mm) : Option (Int × Mm) := bd (fX7_isBelow v1 4 σ) (fun x_1 => cr x_1 ((if x_1 = 0 then some ((-1), σ) else chk v1 4 (bd (fX4_isNothing (21 + 2 * (v1).toNat) σ) (fun x_4 => cr x_4 ((if x_4 = 0 then bd (fX7_isBelow v2 (σ (21 + 2 * (v1).toNat) 2) σ) (fun x_6 => cr x_6 ((if x_6 = 0 then some ((-12), σ) else bd (fX4_put (21 + 2 * (v1).toNat) v2 v3 σ) (fun σ_8 => some (1, σ_8))))) else some ((-11), σ))))))))
abbrev rmX7_left : Room := { frames := 1, cells := 0, slots := 0, locals := 22 }
def fX7_left_21 (t0 : Int) (σ : Mm) : Option (Int) := some t0
def fX7_left (v1 : Int) (σ : Mm) : Option (Int) := bd (fX7_isStage v1 σ) (fun x_1 => cr x_1 ((if x_1 = 0 then fX7_left_21 (-1) σ else bd (fX1_pointsWithEdges 95 σ) (fun x_3 => fX7_left_21 (x_3 - v1) σ))))
abbrev rmX7_limit : Room := { frames := 0, cells := 0, slots := 0, locals := 0 }
def fX7_limit_42 (σ : Mm) : Option (Int) := some (σ 9 4)
def fX7_limit_8 (v1 : Int) (σ : Mm) (e8 : Option (Int)) (c8 : Int → Option (Int)) (v2 : Int) : Option (Int) := cr v2 (cr (σ 9 4) ((if σ 9 4 < v2 then e8 else chk v2 25 (cr (σ 11 (v2).toNat) (cr v1 ((if v1 < σ 11 (v2).toNat then some (v2 - 1) else bindv (v2 + 1) (fun v2_5 => c8 v2_5))))))))
def lX7_limit_8 (v1 : Int) (σ : Mm) (e8 : Option (Int)) (fu : Nat) : Int → Option (Int) := itN (fun _ => none) (fun c8 => fX7_limit_8 v1 σ e8 c8) fu
def fX7_limit (v1 : Int) (σ : Mm) : Option (Int) := cr v1 ((if v1 < 0 then some (-1) else bindv 1 (fun v2_2 => lX7_limit_8 v1 σ (fX7_limit_42 σ) 400 v2_2)))
abbrev rmX7_shift : Room := { frames := 5, cells := 0, slots := 0, locals := 119 }
def fX7_shift_43 (t0 : Int) (σ : Mm) : Option (Int × Mm) := some (t0, σ)
def fX7_shift_22 (σ : Mm) : Option (Int × Mm) := some ((-1), σ)
def fX7_shift (v1 : Int) (v2 : Int) (v3 : Int) (σ : Mm) : Option (Int × Mm) := bd (fX7_isBelow v1 (σ 95 9) σ) (fun x_1 => cr x_1 ((if x_1 = 0 then fX7_shift_22 σ else bd (fX7_isPlace v2 v3 σ) (fun x_3 => cr x_3 ((if x_3 = 0 then fX7_shift_22 σ else bd2 (fX1_shiftIfFair 95 v1 v2 v3 σ) (fun x_5 σ_5 => cr x_5 ((if x_5 = 0 then fX7_shift_43 (-2) σ_5 else fX7_shift_43 1 σ_5)))))))))
abbrev rmX7_move : Room := { frames := 6, cells := 0, slots := 0, locals := 145 }
def fX7_move_19 (v4 : Int) (σ : Mm) : Option (Int × Mm) := some (v4, σ)
def fX7_move (v1 : Int) (v2 : Int) (v3 : Int) (σ : Mm) : Option (Int × Mm) := bd2 (fX7_shift v1 v2 v3 σ) (fun x_1 σ_1 => bindv x_1 (fun v4_2 => cr v4_2 ((if v4_2 = 1 then bd (fX7_refresh σ_1) (fun σ_4 => fX7_move_19 v4_2 σ_4) else fX7_move_19 v4_2 σ_1))))
abbrev rmX7_pin : Room := { frames := 6, cells := 0, slots := 0, locals := 145 }
def fX7_pin_60 (v3 : Int) (t1 : Int) (t2 : Int) (σ : Mm) : Option (Int × Mm) := chb t2 (chk t1 24 (bindv (sto σ 98 (t1).toNat t2) (fun σ_1 => bd (fX7_refresh σ_1) (fun σ_2 => some (v3, σ_2)))))
def fX7_pin_41 (v1 : Int) (v2 : Int) (t0 : Int) (σ : Mm) : Option (Int × Mm) := bindv t0 (fun v3_1 => cr v2 ((if v2 = 1 then fX7_pin_60 v3_1 v1 1 σ else fX7_pin_60 v3_1 v1 0 σ)))
def fX7_pin_22 (σ : Mm) : Option (Int × Mm) := some ((-1), σ)
def fX7_pin (v1 : Int) (v2 : Int) (σ : Mm) : Option (Int × Mm) := bd (fX7_isBelow v1 (σ 95 9) σ) (fun x_1 => cr x_1 ((if x_1 = 0 then fX7_pin_22 σ else bd (fX7_isBelow v2 2 σ) (fun x_3 => cr x_3 ((if x_3 = 0 then fX7_pin_22 σ else chk v1 24 (cr (σ 98 (v1).toNat) ((if σ 98 (v1).toNat = 0 then fX7_pin_41 v1 v2 0 σ else fX7_pin_41 v1 v2 1 σ)))))))))
abbrev rmX7_point : Room := { frames := 1, cells := 0, slots := 0, locals := 21 }
def fX7_point_216 (t0 : Int) (σ : Mm) : Option (Int) := some t0
def fX7_point_198 (t0 : Int) (σ : Mm) : Option (Int) := some t0
def fX7_point_163 (t0 : Int) (σ : Mm) : Option (Int) := some t0
def fX7_point_136 (t0 : Int) (σ : Mm) : Option (Int) := some t0
def fX7_point_110 (t0 : Int) (σ : Mm) : Option (Int) := some t0
def fX7_point (v1 : Int) (v2 : Int) (σ : Mm) : Option (Int) := bd (fX7_isBelow v1 (σ 95 9) σ) (fun x_1 => cr x_1 ((if x_1 = 0 then some (-1) else cr v2 ((if v2 = 0 then chk v1 24 (some (σ 96 (v1).toNat)) else (if v2 = 1 then chk v1 24 (some (σ 97 (v1).toNat)) else (if v2 = 2 then chk v1 24 (some (σ 104 (v1).toNat)) else (if v2 = 3 then bd (fX1_isNode 95 v1 σ) (fun x_8 => cr x_8 ((if x_8 = 0 then fX7_point_110 0 σ else fX7_point_110 1 σ))) else (if v2 = 4 then bd (fX1_isNode 95 v1 σ) (fun x_11 => cr x_11 ((if x_11 = 0 then chk v1 24 (fX7_point_136 (σ 7 (v1).toNat) σ) else fX7_point_136 (-4) σ))) else (if v2 = 5 then chk v1 24 (cr (σ 12 (v1).toNat) ((if 0 < σ 12 (v1).toNat then chk v1 24 (fX7_point_163 (σ 12 (v1).toNat) σ) else fX7_point_163 (-4) σ))) else (if v2 = 6 then chk v1 24 (cr (σ 12 (v1).toNat) ((if 0 < σ 12 (v1).toNat then chk v1 24 (chk (σ 12 (v1).toNat) 25 (fX7_point_198 (σ 11 (σ 12 (v1).toNat).toNat) σ)) else fX7_point_198 (-4) σ))) else (if v2 = 7 then chk v1 24 (cr (σ 98 (v1).toNat) ((if σ 98 (v1).toNat = 0 then fX7_point_216 0 σ else fX7_point_216 1 σ))) else some (-1)))))))))))))
abbrev rmX7_read : Room := { frames := 6, cells := 0, slots := 0, locals := 145 }
def fX7_read_162 (v6 : Int) (v7 : Int) (σ : Mm) : Option (Int × Mm) := bindv (sto σ 0 11 v6) (fun σ_1 => bd (fX7_refresh σ_1) (fun σ_2 => some (v7, σ_2)))
def fX7_read_58 (v2 : Int) (v3 : Int) (v4 : Int) (w5 : Nat) (e58 : Int → Int → Mm → Option (Int × Mm)) (c58 : Int → Int → Int → Mm → Option (Int × Mm)) (v6 : Int) (v7 : Int) (v8 : Int) (σ : Mm) : Option (Int × Mm) := cr v8 (cr v4 ((if v8 < v4 then cr v3 (cr v8 (bindv (v3 + (3 * v8)) (fun v9_3 => bd (fX4_faultOfThree w5 v2 v9_3 σ) (fun x_4 => bindv x_4 (fun v6_5 => cr v6_5 ((if v6_5 = 0 then bindv v9_3 (fun v11_7 => chk v11_7 40 (chk (v11_7 + 1) 40 (chk (v11_7 + 2) 40 (bd2 (fX7_shift (σ (w5 + 1) (v11_7).toNat) (σ (w5 + 1) (v11_7 + 1).toNat) (σ (w5 + 1) (v11_7 + 2).toNat) σ) (fun x_8 σ_8 => cr x_8 ((if x_8 = 1 then bindv (v7 + 1) (fun v7_10 => bindv (v8 + 1) (fun v8_11 => c58 v6_5 v7_10 v8_11 σ_8)) else bd (fX1_copyFrom 95 127 σ_8) (fun σ_12 => some ((-20) - v8, σ_12))))))))) else e58 v6_5 v7 σ))))))) else e58 v6 v7 σ)))
def lX7_read_58 (v2 : Int) (v3 : Int) (v4 : Int) (w5 : Nat) (e58 : Int → Int → Mm → Option (Int × Mm)) (fu : Nat) : Int → Int → Int → Mm → Option (Int × Mm) := itN (fun _ _ _ _ => none) (fun c58 => fX7_read_58 v2 v3 v4 w5 e58 c58) fu
def fX7_read_28 (σ : Mm) : Option (Int × Mm) := some ((-1), σ)
def fX7_read (v1 : Int) (v2 : Int) (v3 : Int) (v4 : Int) (σ : Mm) : Option (Int × Mm) := bd (fX7_isBelow v1 4 σ) (fun x_1 => cr x_1 ((if x_1 = 0 then fX7_read_28 σ else bd (fX7_isBelow v2 3 σ) (fun x_3 => cr x_3 ((if x_3 = 0 then fX7_read_28 σ else cr v4 ((if v4 < 0 then fX7_read_28 σ else cr v4 ((if 13 < v4 then fX7_read_28 σ else chk v1 4 (bd (fX1_copyFrom 127 95 σ) (fun σ_8 => bindv 0 (fun v6_9 => bindv 0 (fun v7_10 => bindv 0 (fun v8_11 => lX7_read_58 v2 v3 v4 (21 + 2 * (v1).toNat) (fun v6_12 v7_13 σ_14 => fX7_read_162 v6_12 v7_13 σ_14) 400 v6_9 v7_10 v8_11 σ_8)))))))))))))))
abbrev rmX7_ring : Room := { frames := 4, cells := 0, slots := 0, locals := 93 }
def fX7_ring_22 (σ : Mm) : Option (Int × Mm) := some ((-1), σ)
def fX7_ring (v1 : Int) (v2 : Int) (v3 : Int) (σ : Mm) : Option (Int × Mm) := bd (fX7_isBelow v1 (σ 95 10) σ) (fun x_1 => cr x_1 ((if x_1 = 0 then fX7_ring_22 σ else bd (fX7_isStage v2 σ) (fun x_3 => cr x_3 ((if x_3 = 0 then fX7_ring_22 σ else bd (fX5_sceneAt v2 σ) (fun σ_5 => cr v3 ((if v3 = 0 then chk v1 6 (some (σ_5 15 (v1).toNat, σ_5)) else (if v3 = 1 then bd (fX3_areaOf v1 σ_5) (fun x_9 => some (x_9, σ_5)) else (if v3 = 2 then bd (fX3_neighboursOf v1 σ_5) (fun x_11 => some (x_11, σ_5)) else some ((-1), σ_5))))))))))))
abbrev rmX7_rule : Room := { frames := 2, cells := 0, slots := 0, locals := 43 }
def fX7_rule (v1 : Int) (σ : Mm) : Option (Int) := cr v1 ((if v1 = 0 then some (σ 95 9) else (if v1 = 1 then some (σ 95 10) else (if v1 = 2 then some (σ 95 11) else (if v1 = 3 then bd (fX1_nodesWithEdges 95 σ) (fun x_6 => some x_6) else (if v1 = 4 then some (σ 4 5) else (if v1 = 5 then some (σ 9 4) else (if v1 = 6 then bd (fX1_pointsWithEdges 95 σ) (fun x_10 => some x_10) else (if v1 = 7 then bd (fX1_pinned 95 σ) (fun x_12 => some x_12) else some (-1))))))))))
abbrev rmX7_shake : Room := { frames := 6, cells := 0, slots := 0, locals := 145 }
def fX7_shake_139 (v4 : Int) (σ : Mm) : Option (Int × Mm) := bd (fX7_refresh σ) (fun σ_1 => some (v4, σ_1))
def fX7_shake_133 (c34 : Int → Int → Int → Mm → Option (Int × Mm)) (v2 : Int) (v3 : Int) (v4 : Int) (v5 : Int) (σ : Mm) : Option (Int × Mm) := bindv (v5 + 1) (fun v5_1 => c34 v3 v4 v5_1 σ)
def fX7_shake_34 (v2 : Int) (e34 : Int → Mm → Option (Int × Mm)) (c34 : Int → Int → Int → Mm → Option (Int × Mm)) (v3 : Int) (v4 : Int) (v5 : Int) (σ : Mm) : Option (Int × Mm) := cr v5 (cr v2 ((if v5 < v2 then bindv ((v3 * 1103515245) + 12345) (fun v3_3 => bindv (andI (ushrI v3_3 16) 32767) (fun v6_4 => chd v6_4 (σ 95 9) (bindv (v6_4 % (σ 95 9)) (fun v7_5 => chk v7_5 24 (chd v6_4 32 (chd (v6_4 / 32) 5 (bindv (((σ 96 (v7_5).toNat) + ((v6_4 / 32) % 5)) - 2) (fun v8_6 => chk v7_5 24 (chd v6_4 256 (chd (v6_4 / 256) 5 (bindv (((σ 97 (v7_5).toNat) + ((v6_4 / 256) % 5)) - 2) (fun v9_7 => bd2 (fX7_shift v7_5 v8_6 v9_7 σ) (fun x_8 σ_8 => cr x_8 ((if x_8 = 1 then bindv (v4 + 1) (fun v4_10 => fX7_shake_133 c34 v2 v3_3 v4_10 v5 σ_8) else fX7_shake_133 c34 v2 v3_3 v4 v5 σ_8))))))))))))))) else e34 v4 σ)))
def lX7_shake_34 (v2 : Int) (e34 : Int → Mm → Option (Int × Mm)) (fu : Nat) : Int → Int → Int → Mm → Option (Int × Mm) := itN (fun _ _ _ _ => none) (fun c34 => fX7_shake_34 v2 e34 c34) fu
def fX7_shake_11 (σ : Mm) : Option (Int × Mm) := some ((-1), σ)
def fX7_shake (v1 : Int) (v2 : Int) (σ : Mm) : Option (Int × Mm) := cr v2 ((if v2 < 1 then fX7_shake_11 σ else cr v2 ((if 40 < v2 then fX7_shake_11 σ else cr (σ 95 9) ((if 0 < σ 95 9 then bindv v1 (fun v3_4 => bindv 0 (fun v4_5 => bindv 0 (fun v5_6 => lX7_shake_34 v2 (fun v4_7 σ_8 => fX7_shake_139 v4_7 σ_8) 400 v3_4 v4_5 v5_6 σ))) else some ((-2), σ)))))))
abbrev rmX7_sheet : Room := { frames := 1, cells := 0, slots := 0, locals := 23 }
def fX7_sheet_22 (σ : Mm) : Option (Int × Mm) := some ((-1), σ)
def fX7_sheet (v1 : Int) (v2 : Int) (v3 : Int) (σ : Mm) : Option (Int × Mm) := bd (fX7_isBelow v1 4 σ) (fun x_1 => cr x_1 ((if x_1 = 0 then fX7_sheet_22 σ else bd (fX7_isBelow v2 3 σ) (fun x_3 => cr x_3 ((if x_3 = 0 then fX7_sheet_22 σ else cr v3 ((if 40 < v3 then fX7_sheet_22 σ else cr v3 ((if v3 < 0 then some ((-14), σ) else chk v1 4 (bd (fX4_renew (21 + 2 * (v1).toNat) v2 v3 σ) (fun σ_8 => some (1, σ_8)))))))))))))
abbrev rmX7_size : Room := { frames := 4, cells := 0, slots := 0, locals := 90 }
def fX7_size_63 (t0 : Int) (σ : Mm) : Option (Int × Mm) := some (t0, σ)
def fX7_size_53 (σ : Mm) : Option (Int × Mm) := fX7_size_63 (-4) σ
def fX7_size_22 (σ : Mm) : Option (Int × Mm) := some ((-1), σ)
def fX7_size (v1 : Int) (v2 : Int) (σ : Mm) : Option (Int × Mm) := bd (fX7_isBelow v1 (σ 95 9) σ) (fun x_1 => cr x_1 ((if x_1 = 0 then fX7_size_22 σ else bd (fX7_isStage v2 σ) (fun x_3 => cr x_3 ((if x_3 = 0 then fX7_size_22 σ else bd (fX5_sceneAt v2 σ) (fun σ_5 => bd (fX1_isNode 95 v1 σ_5) (fun x_6 => cr x_6 ((if x_6 = 0 then chk v1 24 (cr (σ_5 16 (v1).toNat) ((if σ_5 16 (v1).toNat = 0 then fX7_size_53 σ_5 else bd (fX3_triangleOf v1 σ_5) (fun x_9 => fX7_size_63 x_9 σ_5)))) else fX7_size_53 σ_5))))))))))
abbrev rmX7_store : Room := { frames := 2, cells := 0, slots := 0, locals := 62 }
def fX7_store_24 (v1 : Int) (t0 : Int) (σ : Mm) : Option (Int × Mm) := bindv t0 (fun v2_1 => chk v1 2 (bd (fX1_copyFrom (143 + 16 * (v1).toNat) 95 σ) (fun σ_3 => chb 1 (chk v1 2 (bindv (sto σ_3 19 (v1).toNat 1) (fun σ_4 => some (v2_1, σ_4)))))))
def fX7_store (v1 : Int) (σ : Mm) : Option (Int × Mm) := bd (fX7_isBelow v1 2 σ) (fun x_1 => cr x_1 ((if x_1 = 0 then some ((-1), σ) else chk v1 2 (cr (σ 19 (v1).toNat) ((if σ 19 (v1).toNat = 0 then fX7_store_24 v1 0 σ else fX7_store_24 v1 1 σ))))))
abbrev rmX7_text : Room := { frames := 7, cells := 0, slots := 0, locals := 173 }
def fX7_text_25 (t0 : Int) (σ : Mm) : Option (Int × Mm) := bindv t0 (fun v1_1 => bindv (sto σ 1 1 0) (fun σ_2 => bindv (sto σ_2 0 10 (σ_2 3 6)) (fun σ_3 => cr v1_1 ((if v1_1 = 0 then some ((-10) - (σ_3 3 7), σ_3) else bd (fX1_copyFrom 95 111 σ_3) (fun σ_5 => bd (fX7_forgetImages σ_5) (fun σ_6 => bd (fX7_refresh σ_6) (fun σ_7 => some (σ_7 3 8, σ_7)))))))))
def fX7_text_24 (σ : Mm) : Option (Int × Mm) := fX7_text_25 0 σ
def fX7_text (σ : Mm) : Option (Int × Mm) := bd2 (fX2_readAll σ) (fun x_1 σ_1 => cr x_1 ((if x_1 = 0 then fX7_text_24 σ_1 else bd2 (fX2_judgeAll σ_1) (fun x_3 σ_3 => cr x_3 ((if x_3 = 0 then fX7_text_24 σ_3 else fX7_text_25 1 σ_3))))))
abbrev rmX7_torn : Room := { frames := 0, cells := 0, slots := 0, locals := 0 }
def fX7_torn (σ : Mm) : Option (Int) := some (σ 0 11)
abbrev rmX7_why : Room := { frames := 4, cells := 0, slots := 0, locals := 100 }
def fX7_why_22 (σ : Mm) : Option (Int × Mm) := some ((-1), σ)
def fX7_why (v1 : Int) (v2 : Int) (σ : Mm) : Option (Int × Mm) := bd (fX7_isBelow v1 (σ 95 9) σ) (fun x_1 => cr x_1 ((if x_1 = 0 then fX7_why_22 σ else bd (fX7_isStage v2 σ) (fun x_3 => cr x_3 ((if x_3 = 0 then fX7_why_22 σ else bd (fX5_sceneAt v2 σ) (fun σ_5 => bd2 (fX3_reasonOf v1 σ_5) (fun x_6 σ_6 => some (x_6, σ_6)))))))))
abbrev rmX7_within : Room := { frames := 3, cells := 0, slots := 0, locals := 83 }
def fX7_within_100 (σ : Mm) : Option (Int × Mm) := some ((-4), σ)
def fX7_within_67 (v1 : Int) (v2 : Int) (σ : Mm) (e67 : Option (Int × Mm)) (c67 : Int → Option (Int × Mm)) (v5 : Int) : Option (Int × Mm) := cr v5 (cr (σ 95 10) ((if v5 < σ 95 10 then bd (fX3_holds v5 v1 v2 σ) (fun x_3 => cr x_3 ((if x_3 = 0 then bindv (v5 + 1) (fun v5_5 => c67 v5_5) else some (v5, σ)))) else e67)))
def lX7_within_67 (v1 : Int) (v2 : Int) (σ : Mm) (e67 : Option (Int × Mm)) (fu : Nat) : Int → Option (Int × Mm) := itN (fun _ => none) (fun c67 => fX7_within_67 v1 v2 σ e67 c67) fu
def fX7_within_64 (v1 : Int) (v2 : Int) (σ : Mm) : Option (Int × Mm) := bindv 0 (fun v5_1 => lX7_within_67 v1 v2 σ (fX7_within_100 σ) 400 v5_1)
def fX7_within_31 (v1 : Int) (v2 : Int) (σ : Mm) (e31 : Option (Int × Mm)) (c31 : Int → Option (Int × Mm)) (v5 : Int) : Option (Int × Mm) := cr v5 (cr (σ 95 10) ((if v5 < σ 95 10 then bd (fX3_isOnBorder v5 v1 v2 σ) (fun x_3 => cr x_3 ((if x_3 = 0 then bindv (v5 + 1) (fun v5_5 => c31 v5_5) else some ((-2), σ)))) else e31)))
def lX7_within_31 (v1 : Int) (v2 : Int) (σ : Mm) (e31 : Option (Int × Mm)) (fu : Nat) : Int → Option (Int × Mm) := itN (fun _ => none) (fun c31 => fX7_within_31 v1 v2 σ e31 c31) fu
def fX7_within_16 (σ : Mm) : Option (Int × Mm) := some ((-1), σ)
def fX7_within (v1 : Int) (v2 : Int) (v3 : Int) (σ : Mm) : Option (Int × Mm) := bd (fX7_isPlace v1 v2 σ) (fun x_1 => cr x_1 ((if x_1 = 0 then fX7_within_16 σ else bd (fX7_isStage v3 σ) (fun x_3 => cr x_3 ((if x_3 = 0 then fX7_within_16 σ else bd (fX5_sceneAt v3 σ) (fun σ_5 => bindv 0 (fun v5_6 => lX7_within_31 v1 v2 σ_5 (fX7_within_64 v1 v2 σ_5) 400 v5_6))))))))
abbrev rmX8_points : Room := { frames := 0, cells := 0, slots := 0, locals := 0 }
def fX8_points (σ : Mm) : Option (Int) := chk 138 700 (some (σ 1 138))
abbrev rmX8_cornerOf : Room := { frames := 0, cells := 0, slots := 0, locals := 0 }
def fX8_cornerOf (v1 : Int) (v2 : Int) (v3 : Int) (σ : Mm) : Option (Int) := chk ((v1 + 132) + v2) 700 (chd v3 (σ 1 ((v1 + 132) + v2).toNat) (chk (((v1 + 72) + (10 * v2)) + (v3 % (σ 1 ((v1 + 132) + v2).toNat))) 700 (some (σ 1 (((v1 + 72) + (10 * v2)) + (v3 % (σ 1 ((v1 + 132) + v2).toNat))).toNat))))
abbrev rmX8_edgesOf : Room := { frames := 1, cells := 0, slots := 0, locals := 23 }
def fX8_edgesOf_112 (v4 : Int) (σ : Mm) : Option (Int) := some v4
def fX8_edgesOf_106 (c6 : Int → Int → Option (Int)) (v1 : Int) (v2 : Int) (v3 : Int) (v4 : Int) (v5 : Int) (σ : Mm) : Option (Int) := bindv (v5 + 1) (fun v5_1 => c6 v4 v5_1)
def fX8_edgesOf_97 (c24 : Int → Int → Option (Int)) (v1 : Int) (v2 : Int) (v3 : Int) (v5 : Int) (v6 : Int) (t0 : Int) (t1 : Int) (σ : Mm) : Option (Int) := bindv (t0 + t1) (fun v4_1 => bindv (v6 + 1) (fun v6_2 => c24 v4_1 v6_2))
def fX8_edgesOf_96 (c24 : Int → Int → Option (Int)) (v1 : Int) (v2 : Int) (v3 : Int) (v5 : Int) (v6 : Int) (t0 : Int) (σ : Mm) : Option (Int) := fX8_edgesOf_97 c24 v1 v2 v3 v5 v6 t0 0 σ
def fX8_edgesOf_92 (c24 : Int → Int → Option (Int)) (v1 : Int) (v2 : Int) (v3 : Int) (v5 : Int) (v6 : Int) (t0 : Int) (σ : Mm) : Option (Int) := fX8_edgesOf_97 c24 v1 v2 v3 v5 v6 t0 1 σ
def fX8_edgesOf_80 (c24 : Int → Int → Option (Int)) (v1 : Int) (v2 : Int) (v3 : Int) (v5 : Int) (v6 : Int) (v7 : Int) (v8 : Int) (t0 : Int) (σ : Mm) : Option (Int) := cr v7 (cr v3 ((if v7 = v3 then cr v8 (cr v2 ((if v8 = v2 then fX8_edgesOf_92 c24 v1 v2 v3 v5 v6 t0 σ else fX8_edgesOf_96 c24 v1 v2 v3 v5 v6 t0 σ))) else fX8_edgesOf_96 c24 v1 v2 v3 v5 v6 t0 σ)))
def fX8_edgesOf_24 (v1 : Int) (v2 : Int) (v3 : Int) (v5 : Int) (σ : Mm) (e24 : Int → Option (Int)) (c24 : Int → Int → Option (Int)) (v4 : Int) (v6 : Int) : Option (Int) := chk ((v1 + 132) + v5) 700 (cr v6 (cr (σ 1 ((v1 + 132) + v5).toNat) ((if v6 < σ 1 ((v1 + 132) + v5).toNat then bd (fX8_cornerOf v1 v5 v6 σ) (fun x_3 => bindv x_3 (fun v7_4 => bd (fX8_cornerOf v1 v5 (v6 + 1) σ) (fun x_5 => bindv x_5 (fun v8_6 => cr v7_4 (cr v2 ((if v7_4 = v2 then cr v8_6 (cr v3 ((if v8_6 = v3 then fX8_edgesOf_92 c24 v1 v2 v3 v5 v6 v4 σ else fX8_edgesOf_80 c24 v1 v2 v3 v5 v6 v7_4 v8_6 v4 σ))) else fX8_edgesOf_80 c24 v1 v2 v3 v5 v6 v7_4 v8_6 v4 σ))))))) else e24 v4))))
def lX8_edgesOf_24 (v1 : Int) (v2 : Int) (v3 : Int) (v5 : Int) (σ : Mm) (e24 : Int → Option (Int)) (fu : Nat) : Int → Int → Option (Int) := itN (fun _ _ => none) (fun c24 => fX8_edgesOf_24 v1 v2 v3 v5 σ e24 c24) fu
def fX8_edgesOf_6 (v1 : Int) (v2 : Int) (v3 : Int) (σ : Mm) (e6 : Int → Option (Int)) (c6 : Int → Int → Option (Int)) (v4 : Int) (v5 : Int) : Option (Int) := chk (v1 + 139) 700 (cr v5 (cr (σ 1 (v1 + 139).toNat) ((if v5 < σ 1 (v1 + 139).toNat then bindv 0 (fun v6_3 => lX8_edgesOf_24 v1 v2 v3 v5 σ (fun v4_4 => fX8_edgesOf_106 c6 v1 v2 v3 v4_4 v5 σ) 400 v4 v6_3) else e6 v4))))
def lX8_edgesOf_6 (v1 : Int) (v2 : Int) (v3 : Int) (σ : Mm) (e6 : Int → Option (Int)) (fu : Nat) : Int → Int → Option (Int) := itN (fun _ _ => none) (fun c6 => fX8_edgesOf_6 v1 v2 v3 σ e6 c6) fu
def fX8_edgesOf (v1 : Int) (v2 : Int) (v3 : Int) (σ : Mm) : Option (Int) := bindv 0 (fun v4_1 => bindv 0 (fun v5_2 => lX8_edgesOf_6 v1 v2 v3 σ (fun v4_3 => fX8_edgesOf_112 v4_3 σ) 400 v4_1 v5_2))
abbrev rmX8_degreeOf : Room := { frames := 2, cells := 0, slots := 0, locals := 51 }
def fX8_degreeOf_41 (v2 : Int) (σ : Mm) : Option (Int) := some v2
def fX8_degreeOf_33 (c4 : Int → Int → Option (Int)) (v1 : Int) (v3 : Int) (t0 : Int) (t1 : Int) (σ : Mm) : Option (Int) := bindv (t0 + t1) (fun v2_1 => bindv (v3 + 1) (fun v3_2 => c4 v2_1 v3_2))
def fX8_degreeOf_32 (c4 : Int → Int → Option (Int)) (v1 : Int) (v3 : Int) (t0 : Int) (σ : Mm) : Option (Int) := fX8_degreeOf_33 c4 v1 v3 t0 0 σ
def fX8_degreeOf_4 (v1 : Int) (σ : Mm) (e4 : Int → Option (Int)) (c4 : Int → Int → Option (Int)) (v2 : Int) (v3 : Int) : Option (Int) := bd (fX8_points σ) (fun x_1 => cr v3 (cr x_1 ((if v3 < x_1 then cr v3 (cr v1 ((if v3 = v1 then fX8_degreeOf_32 c4 v1 v3 v2 σ else bd (fX8_edgesOf 0 v1 v3 σ) (fun x_6 => cr x_6 ((if 0 < x_6 then fX8_degreeOf_33 c4 v1 v3 v2 1 σ else fX8_degreeOf_32 c4 v1 v3 v2 σ)))))) else e4 v2))))
def lX8_degreeOf_4 (v1 : Int) (σ : Mm) (e4 : Int → Option (Int)) (fu : Nat) : Int → Int → Option (Int) := itN (fun _ _ => none) (fun c4 => fX8_degreeOf_4 v1 σ e4 c4) fu
def fX8_degreeOf (v1 : Int) (σ : Mm) : Option (Int) := bindv 0 (fun v2_1 => bindv 0 (fun v3_2 => lX8_degreeOf_4 v1 σ (fun v2_3 => fX8_degreeOf_41 v2_3 σ) 400 v2_1 v3_2))
abbrev rmX8_isNode : Room := { frames := 0, cells := 0, slots := 0, locals := 0 }
def fX8_isNode_28 (t0 : Int) (σ : Mm) : Option (Int) := chb t0 (some t0)
def fX8_isNode_23 (σ : Mm) : Option (Int) := fX8_isNode_28 1 σ
def fX8_isNode (v1 : Int) (σ : Mm) : Option (Int) := chk (48 + v1) 700 (cr (σ 1 (48 + v1).toNat) ((if σ 1 (48 + v1).toNat = 1 then fX8_isNode_23 σ else chk v1 24 (cr (σ 8 (v1).toNat) ((if σ 8 (v1).toNat = 2 then fX8_isNode_28 0 σ else fX8_isNode_23 σ))))))
abbrev rmX8_isThere : Room := { frames := 0, cells := 0, slots := 0, locals := 0 }
def fX8_isThere_24 (t0 : Int) (σ : Mm) : Option (Int) := chb t0 (some t0)
def fX8_isThere_19 (σ : Mm) : Option (Int) := fX8_isThere_24 1 σ
def fX8_isThere (v1 : Int) (v2 : Int) (σ : Mm) : Option (Int) := chk v1 24 (cr (σ 5 (v1).toNat) ((if σ 5 (v1).toNat = 0 then fX8_isThere_19 σ else chk v1 24 (cr (σ 5 (v1).toNat) (cr v2 ((if v2 < σ 5 (v1).toNat then fX8_isThere_19 σ else fX8_isThere_24 0 σ)))))))
abbrev rmX8_rings : Room := { frames := 0, cells := 0, slots := 0, locals := 0 }
def fX8_rings (σ : Mm) : Option (Int) := chk 139 700 (some (σ 1 139))
abbrev rmX8_ringAt : Room := { frames := 1, cells := 0, slots := 0, locals := 22 }
def fX8_ringAt_64 (v3 : Int) (σ : Mm) : Option (Int × Mm) := some (v3, σ)
def fX8_ringAt_58 (c5 : Int → Int → Mm → Option (Int × Mm)) (v1 : Int) (v2 : Int) (v3 : Int) (v4 : Int) (σ : Mm) : Option (Int × Mm) := bindv (v4 + 1) (fun v4_1 => c5 v3 v4_1 σ)
def fX8_ringAt_5 (v1 : Int) (v2 : Int) (e5 : Int → Mm → Option (Int × Mm)) (c5 : Int → Int → Mm → Option (Int × Mm)) (v3 : Int) (v4 : Int) (σ : Mm) : Option (Int × Mm) := chk (132 + v1) 700 (cr v4 (cr (σ 1 (132 + v1).toNat) ((if v4 < σ 1 (132 + v1).toNat then chk ((72 + (10 * v1)) + v4) 700 (bindv (σ 1 ((72 + (10 * v1)) + v4).toNat) (fun v5_3 => bd (fX8_isThere v5_3 v2 σ) (fun x_4 => cr x_4 ((if x_4 = 0 then fX8_ringAt_58 c5 v1 v2 v3 v4 σ else chk v3 10 (bindv (sto σ 9 (v3).toNat v5_3) (fun σ_6 => bindv (v3 + 1) (fun v3_7 => fX8_ringAt_58 c5 v1 v2 v3_7 v4 σ_6)))))))) else e5 v3 σ))))
def lX8_ringAt_5 (v1 : Int) (v2 : Int) (e5 : Int → Mm → Option (Int × Mm)) (fu : Nat) : Int → Int → Mm → Option (Int × Mm) := itN (fun _ _ _ => none) (fun c5 => fX8_ringAt_5 v1 v2 e5 c5) fu
def fX8_ringAt (v1 : Int) (v2 : Int) (σ : Mm) : Option (Int × Mm) := bindv 0 (fun v3_1 => bindv 0 (fun v4_2 => lX8_ringAt_5 v1 v2 (fun v3_3 σ_4 => fX8_ringAt_64 v3_3 σ_4) 400 v3_1 v4_2 σ))
abbrev rmX8_placeIn : Room := { frames := 0, cells := 0, slots := 0, locals := 0 }
def fX8_placeIn_36 (v3 : Int) (σ : Mm) : Option (Int) := some v3
def fX8_placeIn_29 (c6 : Int → Int → Option (Int)) (v1 : Int) (v2 : Int) (v4 : Int) (t0 : Int) (σ : Mm) : Option (Int) := bindv t0 (fun v3_1 => bindv (v4 + 1) (fun v4_2 => c6 v3_1 v4_2))
def fX8_placeIn_6 (v1 : Int) (v2 : Int) (σ : Mm) (e6 : Int → Option (Int)) (c6 : Int → Int → Option (Int)) (v3 : Int) (v4 : Int) : Option (Int) := cr v4 (cr v1 ((if v4 < v1 then chk v4 10 (cr (σ 9 (v4).toNat) (cr v2 ((if σ 9 (v4).toNat = v2 then fX8_placeIn_29 c6 v1 v2 v4 v4 σ else fX8_placeIn_29 c6 v1 v2 v4 v3 σ)))) else e6 v3)))
def lX8_placeIn_6 (v1 : Int) (v2 : Int) (σ : Mm) (e6 : Int → Option (Int)) (fu : Nat) : Int → Int → Option (Int) := itN (fun _ _ => none) (fun c6 => fX8_placeIn_6 v1 v2 σ e6 c6) fu
def fX8_placeIn (v1 : Int) (v2 : Int) (σ : Mm) : Option (Int) := bindv (-4) (fun v3_1 => bindv 0 (fun v4_2 => lX8_placeIn_6 v1 v2 σ (fun v3_3 => fX8_placeIn_36 v3_3 σ) 400 v3_1 v4_2))
abbrev rmX8_neighbour : Room := { frames := 2, cells := 0, slots := 0, locals := 47 }
def fX8_neighbour_59 (σ : Mm) : Option (Int × Mm) := some ((-4), σ)
def fX8_neighbour_3 (v1 : Int) (v2 : Int) (v3 : Int) (e3 : Mm → Option (Int × Mm)) (c3 : Int → Mm → Option (Int × Mm)) (v4 : Int) (σ : Mm) : Option (Int × Mm) := bd (fX8_rings σ) (fun x_1 => cr v4 (cr x_1 ((if v4 < x_1 then bd2 (fX8_ringAt v4 v2 σ) (fun x_4 σ_4 => bindv x_4 (fun v5_5 => bd (fX8_placeIn v5_5 v1 σ_4) (fun x_6 => bindv x_6 (fun v6_7 => cr v6_7 ((if v6_7 = (-4) then bindv (v4 + 1) (fun v4_9 => c3 v4_9 σ_4) else chd ((v6_7 + v5_5) + v3) v5_5 (chk (((v6_7 + v5_5) + v3) % v5_5) 10 (some (σ_4 9 (((v6_7 + v5_5) + v3) % v5_5).toNat, σ_4))))))))) else e3 σ))))
def lX8_neighbour_3 (v1 : Int) (v2 : Int) (v3 : Int) (e3 : Mm → Option (Int × Mm)) (fu : Nat) : Int → Mm → Option (Int × Mm) := itN (fun _ _ => none) (fun c3 => fX8_neighbour_3 v1 v2 v3 e3 c3) fu
def fX8_neighbour (v1 : Int) (v2 : Int) (v3 : Int) (σ : Mm) : Option (Int × Mm) := bindv 0 (fun v4_1 => lX8_neighbour_3 v1 v2 v3 (fun σ_2 => fX8_neighbour_59 σ_2) 400 v4_1 σ)
abbrev rmX8_edgesAt : Room := { frames := 2, cells := 0, slots := 0, locals := 47 }
def fX8_edgesAt_103 (v4 : Int) (σ : Mm) : Option (Int × Mm) := some (v4, σ)
def fX8_edgesAt_97 (c6 : Int → Int → Mm → Option (Int × Mm)) (v1 : Int) (v2 : Int) (v3 : Int) (v4 : Int) (v5 : Int) (σ : Mm) : Option (Int × Mm) := bindv (v5 + 1) (fun v5_1 => c6 v4 v5_1 σ)
def fX8_edgesAt_88 (c27 : Int → Int → Option (Int × Mm)) (v1 : Int) (v2 : Int) (v3 : Int) (v5 : Int) (v6 : Int) (v7 : Int) (t0 : Int) (t1 : Int) (σ : Mm) : Option (Int × Mm) := bindv (t0 + t1) (fun v4_1 => bindv (v7 + 1) (fun v7_2 => c27 v4_1 v7_2))
def fX8_edgesAt_87 (c27 : Int → Int → Option (Int × Mm)) (v1 : Int) (v2 : Int) (v3 : Int) (v5 : Int) (v6 : Int) (v7 : Int) (t0 : Int) (σ : Mm) : Option (Int × Mm) := fX8_edgesAt_88 c27 v1 v2 v3 v5 v6 v7 t0 0 σ
def fX8_edgesAt_83 (c27 : Int → Int → Option (Int × Mm)) (v1 : Int) (v2 : Int) (v3 : Int) (v5 : Int) (v6 : Int) (v7 : Int) (t0 : Int) (σ : Mm) : Option (Int × Mm) := fX8_edgesAt_88 c27 v1 v2 v3 v5 v6 v7 t0 1 σ
def fX8_edgesAt_71 (c27 : Int → Int → Option (Int × Mm)) (v1 : Int) (v2 : Int) (v3 : Int) (v5 : Int) (v6 : Int) (v7 : Int) (v8 : Int) (v9 : Int) (t0 : Int) (σ : Mm) : Option (Int × Mm) := cr v8 (cr v2 ((if v8 = v2 then cr v9 (cr v1 ((if v9 = v1 then fX8_edgesAt_83 c27 v1 v2 v3 v5 v6 v7 t0 σ else fX8_edgesAt_87 c27 v1 v2 v3 v5 v6 v7 t0 σ))) else fX8_edgesAt_87 c27 v1 v2 v3 v5 v6 v7 t0 σ)))
def fX8_edgesAt_27 (v1 : Int) (v2 : Int) (v3 : Int) (v5 : Int) (v6 : Int) (σ : Mm) (e27 : Int → Option (Int × Mm)) (c27 : Int → Int → Option (Int × Mm)) (v4 : Int) (v7 : Int) : Option (Int × Mm) := cr v7 (cr v6 ((if v7 < v6 then chk v7 10 (bindv (σ 9 (v7).toNat) (fun v8_3 => chd (v7 + 1) v6 (chk ((v7 + 1) % v6) 10 (bindv (σ 9 ((v7 + 1) % v6).toNat) (fun v9_4 => cr v8_3 (cr v1 ((if v8_3 = v1 then cr v9_4 (cr v2 ((if v9_4 = v2 then fX8_edgesAt_83 c27 v1 v2 v3 v5 v6 v7 v4 σ else fX8_edgesAt_71 c27 v1 v2 v3 v5 v6 v7 v8_3 v9_4 v4 σ))) else fX8_edgesAt_71 c27 v1 v2 v3 v5 v6 v7 v8_3 v9_4 v4 σ)))))))) else e27 v4)))
def lX8_edgesAt_27 (v1 : Int) (v2 : Int) (v3 : Int) (v5 : Int) (v6 : Int) (σ : Mm) (e27 : Int → Option (Int × Mm)) (fu : Nat) : Int → Int → Option (Int × Mm) := itN (fun _ _ => none) (fun c27 => fX8_edgesAt_27 v1 v2 v3 v5 v6 σ e27 c27) fu
def fX8_edgesAt_6 (v1 : Int) (v2 : Int) (v3 : Int) (e6 : Int → Mm → Option (Int × Mm)) (c6 : Int → Int → Mm → Option (Int × Mm)) (v4 : Int) (v5 : Int) (σ : Mm) : Option (Int × Mm) := bd (fX8_rings σ) (fun x_1 => cr v5 (cr x_1 ((if v5 < x_1 then bd2 (fX8_ringAt v5 v3 σ) (fun x_4 σ_4 => bindv x_4 (fun v6_5 => bindv 0 (fun v7_6 => lX8_edgesAt_27 v1 v2 v3 v5 v6_5 σ_4 (fun v4_7 => fX8_edgesAt_97 c6 v1 v2 v3 v4_7 v5 σ_4) 400 v4 v7_6))) else e6 v4 σ))))
def lX8_edgesAt_6 (v1 : Int) (v2 : Int) (v3 : Int) (e6 : Int → Mm → Option (Int × Mm)) (fu : Nat) : Int → Int → Mm → Option (Int × Mm) := itN (fun _ _ _ => none) (fun c6 => fX8_edgesAt_6 v1 v2 v3 e6 c6) fu
def fX8_edgesAt (v1 : Int) (v2 : Int) (v3 : Int) (σ : Mm) : Option (Int × Mm) := bindv 0 (fun v4_1 => bindv 0 (fun v5_2 => lX8_edgesAt_6 v1 v2 v3 (fun v4_3 σ_4 => fX8_edgesAt_103 v4_3 σ_4) 400 v4_1 v5_2 σ))
abbrev rmX8_ringArea : Room := { frames := 0, cells := 0, slots := 0, locals := 0 }
def fX8_ringArea_75 (v2 : Int) (σ : Mm) : Option (Int) := some v2
def fX8_ringArea_4 (v1 : Int) (σ : Mm) (e4 : Int → Option (Int)) (c4 : Int → Int → Option (Int)) (v2 : Int) (v3 : Int) : Option (Int) := cr v3 (cr v1 ((if v3 < v1 then chk v3 10 (bindv (σ 9 (v3).toNat) (fun v4_3 => chd (v3 + 1) v1 (chk ((v3 + 1) % v1) 10 (bindv (σ 9 ((v3 + 1) % v1).toNat) (fun v5_4 => chk v4_3 700 (chk (24 + v5_4) 700 (chk v5_4 700 (chk (24 + v4_3) 700 (bindv (v2 + (((σ 1 (v4_3).toNat) * (σ 1 (24 + v5_4).toNat)) - ((σ 1 (v5_4).toNat) * (σ 1 (24 + v4_3).toNat)))) (fun v2_5 => bindv (v3 + 1) (fun v3_6 => c4 v2_5 v3_6))))))))))) else e4 v2)))
def lX8_ringArea_4 (v1 : Int) (σ : Mm) (e4 : Int → Option (Int)) (fu : Nat) : Int → Int → Option (Int) := itN (fun _ _ => none) (fun c4 => fX8_ringArea_4 v1 σ e4 c4) fu
def fX8_ringArea (v1 : Int) (σ : Mm) : Option (Int) := bindv 0 (fun v2_1 => bindv 0 (fun v3_2 => lX8_ringArea_4 v1 σ (fun v2_3 => fX8_ringArea_75 v2_3 σ) 400 v2_1 v3_2))
abbrev rmX8_signOf : Room := { frames := 0, cells := 0, slots := 0, locals := 0 }
def fX8_signOf_17 (t0 : Int) (σ : Mm) : Option (Int) := some t0
def fX8_signOf (v0 : Int) (σ : Mm) : Option (Int) := cr v0 ((if 0 < v0 then fX8_signOf_17 1 σ else cr v0 ((if v0 < 0 then fX8_signOf_17 (-1) σ else fX8_signOf_17 0 σ))))
abbrev rmX8_ringsWhy : Room := { frames := 2, cells := 0, slots := 0, locals := 47 }
def fX8_ringsWhy_133 (σ : Mm) : Option (Int × Mm) := some (0, σ)
def fX8_ringsWhy_127 (c3 : Int → Mm → Option (Int × Mm)) (v1 : Int) (v2 : Int) (v3 : Int) (v4 : Int) (σ : Mm) : Option (Int × Mm) := bindv (v4 + 1) (fun v4_1 => c3 v4_1 σ)
def fX8_ringsWhy_125 (v3 : Int) (σ : Mm) : Option (Int × Mm) := some (v3, σ)
def fX8_ringsWhy_80 (c3 : Int → Mm → Option (Int × Mm)) (v1 : Int) (v2 : Int) (v3 : Int) (v4 : Int) (v5 : Int) (v7 : Int) (σ : Mm) : Option (Int × Mm) := bd (fX8_ringArea (v5 - 1) σ) (fun x_1 => bindv x_1 (fun v8_2 => cr v3 ((if v3 = 3 then cr v5 ((if 3 < v5 then fX8_ringsWhy_127 c3 v1 v2 v3 v4 σ else fX8_ringsWhy_125 v3 σ)) else bd (fX8_signOf v8_2 σ) (fun x_4 => cr x_4 ((if x_4 = 0 then fX8_ringsWhy_125 v3 σ else bd (fX8_signOf v8_2 σ) (fun x_6 => bd (fX8_signOf v7 σ) (fun x_7 => cr x_6 (cr x_7 ((if x_6 = x_7 then fX8_ringsWhy_127 c3 v1 v2 v3 v4 σ else fX8_ringsWhy_125 v3 σ))))))))))))
def fX8_ringsWhy_49 (v1 : Int) (v2 : Int) (v3 : Int) (v4 : Int) (v5 : Int) (v7 : Int) (e49 : Mm → Option (Int × Mm)) (c49 : Int → Mm → Option (Int × Mm)) (v8 : Int) (σ : Mm) : Option (Int × Mm) := cr (v8 + 1) (cr v5 ((if v8 + 1 < v5 then chk (v8 + 1) 10 (chk v8 10 (bindv (sto σ 9 (v8).toNat (σ 9 (v8 + 1).toNat)) (fun σ_3 => bindv (v8 + 1) (fun v8_4 => c49 v8_4 σ_3)))) else e49 σ)))
def lX8_ringsWhy_49 (v1 : Int) (v2 : Int) (v3 : Int) (v4 : Int) (v5 : Int) (v7 : Int) (e49 : Mm → Option (Int × Mm)) (fu : Nat) : Int → Mm → Option (Int × Mm) := itN (fun _ _ => none) (fun c49 => fX8_ringsWhy_49 v1 v2 v3 v4 v5 v7 e49 c49) fu
def fX8_ringsWhy_3 (v1 : Int) (v2 : Int) (v3 : Int) (e3 : Mm → Option (Int × Mm)) (c3 : Int → Mm → Option (Int × Mm)) (v4 : Int) (σ : Mm) : Option (Int × Mm) := bd (fX8_rings σ) (fun x_1 => cr v4 (cr x_1 ((if v4 < x_1 then bd2 (fX8_ringAt v4 v2 σ) (fun x_4 σ_4 => bindv x_4 (fun v5_5 => bd (fX8_placeIn v5_5 v1 σ_4) (fun x_6 => bindv x_6 (fun v6_7 => cr v6_7 ((if v6_7 = (-4) then fX8_ringsWhy_127 c3 v1 v2 v3 v4 σ_4 else bd (fX8_ringArea v5_5 σ_4) (fun x_9 => bindv x_9 (fun v7_10 => bindv v6_7 (fun v8_11 => lX8_ringsWhy_49 v1 v2 v3 v4 v5_5 v7_10 (fun σ_12 => fX8_ringsWhy_80 c3 v1 v2 v3 v4 v5_5 v7_10 σ_12) 400 v8_11 σ_4))))))))) else e3 σ))))
def lX8_ringsWhy_3 (v1 : Int) (v2 : Int) (v3 : Int) (e3 : Mm → Option (Int × Mm)) (fu : Nat) : Int → Mm → Option (Int × Mm) := itN (fun _ _ => none) (fun c3 => fX8_ringsWhy_3 v1 v2 v3 e3 c3) fu
def fX8_ringsWhy (v1 : Int) (v2 : Int) (v3 : Int) (σ : Mm) : Option (Int × Mm) := bindv 0 (fun v4_1 => lX8_ringsWhy_3 v1 v2 v3 (fun σ_2 => fX8_ringsWhy_133 σ_2) 400 v4_1 σ)
abbrev rmX8_cross : Room := { frames := 0, cells := 0, slots := 0, locals := 0 }
def fX8_cross (v0 : Int) (v1 : Int) (v2 : Int) (v3 : Int) (v4 : Int) (v5 : Int) (σ : Mm) : Option (Int) := some (((v2 - v0) * (v5 - v1)) - ((v3 - v1) * (v4 - v0)))
abbrev rmX8_turned : Room := { frames := 1, cells := 0, slots := 0, locals := 25 }
def fX8_turned (v1 : Int) (v2 : Int) (v3 : Int) (v4 : Int) (σ : Mm) : Option (Int) := chk (v1 + v2) 700 (chk ((v1 + 24) + v2) 700 (chk (v1 + v3) 700 (chk ((v1 + 24) + v3) 700 (chk (v1 + v4) 700 (chk ((v1 + 24) + v4) 700 (bd (fX8_cross (σ 1 (v1 + v2).toNat) (σ 1 ((v1 + 24) + v2).toNat) (σ 1 (v1 + v3).toNat) (σ 1 ((v1 + 24) + v3).toNat) (σ 1 (v1 + v4).toNat) (σ 1 ((v1 + 24) + v4).toNat) σ) (fun x_1 => some x_1)))))))
abbrev rmX8_isBetween : Room := { frames := 0, cells := 0, slots := 0, locals := 0 }
def fX8_isBetween_25 (t0 : Int) (σ : Mm) : Option (Int) := chb t0 (some t0)
def fX8_isBetween_24 (σ : Mm) : Option (Int) := fX8_isBetween_25 0 σ
def fX8_isBetween_20 (σ : Mm) : Option (Int) := fX8_isBetween_25 1 σ
def fX8_isBetween_10 (v0 : Int) (v1 : Int) (v2 : Int) (σ : Mm) : Option (Int) := cr v0 (cr v2 ((if v0 < v2 then fX8_isBetween_24 σ else cr v0 (cr v1 ((if v1 < v0 then fX8_isBetween_24 σ else fX8_isBetween_20 σ))))))
def fX8_isBetween (v0 : Int) (v1 : Int) (v2 : Int) (σ : Mm) : Option (Int) := cr v0 (cr v1 ((if v0 < v1 then fX8_isBetween_10 v0 v1 v2 σ else cr v0 (cr v2 ((if v2 < v0 then fX8_isBetween_10 v0 v1 v2 σ else fX8_isBetween_20 σ))))))
abbrev rmX8_isOn : Room := { frames := 2, cells := 0, slots := 0, locals := 49 }
def fX8_isOn_88 (t0 : Int) (σ : Mm) : Option (Int) := chb t0 (some t0)
def fX8_isOn_87 (σ : Mm) : Option (Int) := fX8_isOn_88 0 σ
def fX8_isOn (v1 : Int) (v2 : Int) (v3 : Int) (v4 : Int) (σ : Mm) : Option (Int) := bd (fX8_turned v1 v3 v4 v2 σ) (fun x_1 => cr x_1 ((if x_1 = 0 then chk (v1 + v2) 700 (chk (v1 + v3) 700 (chk (v1 + v4) 700 (bd (fX8_isBetween (σ 1 (v1 + v2).toNat) (σ 1 (v1 + v3).toNat) (σ 1 (v1 + v4).toNat) σ) (fun x_3 => cr x_3 ((if x_3 = 0 then fX8_isOn_87 σ else chk ((v1 + 24) + v2) 700 (chk ((v1 + 24) + v3) 700 (chk ((v1 + 24) + v4) 700 (bd (fX8_isBetween (σ 1 ((v1 + 24) + v2).toNat) (σ 1 ((v1 + 24) + v3).toNat) (σ 1 ((v1 + 24) + v4).toNat) σ) (fun x_5 => cr x_5 ((if x_5 = 0 then fX8_isOn_87 σ else fX8_isOn_88 1 σ)))))))))))) else fX8_isOn_87 σ)))
abbrev rmX8_isInTriangle : Room := { frames := 3, cells := 0, slots := 0, locals := 73 }
def fX8_isInTriangle_112 (t0 : Int) (σ : Mm) : Option (Int) := chb t0 (some t0)
def fX8_isInTriangle_107 (σ : Mm) : Option (Int) := fX8_isInTriangle_112 1 σ
def fX8_isInTriangle_65 (v1 : Int) (v2 : Int) (v3 : Int) (v4 : Int) (t0 : Int) (σ : Mm) : Option (Int) := bindv t0 (fun v8_1 => cr v8_1 ((if v8_1 = 0 then bd (fX8_isOn 0 v1 v2 v3 σ) (fun x_3 => cr x_3 ((if x_3 = 0 then bd (fX8_isOn 0 v1 v3 v4 σ) (fun x_5 => cr x_5 ((if x_5 = 0 then bd (fX8_isOn 0 v1 v4 v2 σ) (fun x_7 => cr x_7 ((if x_7 = 0 then fX8_isInTriangle_112 0 σ else fX8_isInTriangle_107 σ))) else fX8_isInTriangle_107 σ))) else fX8_isInTriangle_107 σ))) else fX8_isInTriangle_107 σ)))
def fX8_isInTriangle_64 (v1 : Int) (v2 : Int) (v3 : Int) (v4 : Int) (σ : Mm) : Option (Int) := fX8_isInTriangle_65 v1 v2 v3 v4 0 σ
def fX8_isInTriangle (v1 : Int) (v2 : Int) (v3 : Int) (v4 : Int) (σ : Mm) : Option (Int) := bd (fX8_turned 0 v2 v3 v1 σ) (fun x_1 => bd (fX8_signOf x_1 σ) (fun x_2 => bindv x_2 (fun v5_3 => bd (fX8_turned 0 v3 v4 v1 σ) (fun x_4 => bd (fX8_signOf x_4 σ) (fun x_5 => bindv x_5 (fun v6_6 => bd (fX8_turned 0 v4 v2 v1 σ) (fun x_7 => bd (fX8_signOf x_7 σ) (fun x_8 => bindv x_8 (fun v7_9 => cr v5_3 (cr v6_6 ((if v5_3 = v6_6 then cr v6_6 (cr v7_9 ((if v6_6 = v7_9 then cr v5_3 ((if v5_3 = 0 then fX8_isInTriangle_64 v1 v2 v3 v4 σ else fX8_isInTriangle_65 v1 v2 v3 v4 1 σ)) else fX8_isInTriangle_64 v1 v2 v3 v4 σ))) else fX8_isInTriangle_64 v1 v2 v3 v4 σ))))))))))))
abbrev rmX8_isEmpty : Room := { frames := 4, cells := 0, slots := 0, locals := 101 }
def fX8_isEmpty_62 (σ : Mm) : Option (Int) := some 1
def fX8_isEmpty_56 (c3 : Int → Option (Int)) (v1 : Int) (v2 : Int) (v3 : Int) (v4 : Int) (v5 : Int) (σ : Mm) : Option (Int) := bindv (v5 + 1) (fun v5_1 => c3 v5_1)
def fX8_isEmpty_3 (v1 : Int) (v2 : Int) (v3 : Int) (v4 : Int) (σ : Mm) (e3 : Option (Int)) (c3 : Int → Option (Int)) (v5 : Int) : Option (Int) := bd (fX8_points σ) (fun x_1 => cr v5 (cr x_1 ((if v5 < x_1 then cr v5 (cr v1 ((if v5 = v1 then fX8_isEmpty_56 c3 v1 v2 v3 v4 v5 σ else cr v5 (cr v3 ((if v5 = v3 then fX8_isEmpty_56 c3 v1 v2 v3 v4 v5 σ else cr v5 (cr v4 ((if v5 = v4 then fX8_isEmpty_56 c3 v1 v2 v3 v4 v5 σ else bd (fX8_isThere v5 v2 σ) (fun x_10 => cr x_10 ((if x_10 = 0 then fX8_isEmpty_56 c3 v1 v2 v3 v4 v5 σ else bd (fX8_isInTriangle v5 v3 v1 v4 σ) (fun x_12 => cr x_12 ((if x_12 = 0 then fX8_isEmpty_56 c3 v1 v2 v3 v4 v5 σ else some 0))))))))))))))) else e3))))
def lX8_isEmpty_3 (v1 : Int) (v2 : Int) (v3 : Int) (v4 : Int) (σ : Mm) (e3 : Option (Int)) (fu : Nat) : Int → Option (Int) := itN (fun _ => none) (fun c3 => fX8_isEmpty_3 v1 v2 v3 v4 σ e3 c3) fu
def fX8_isEmpty (v1 : Int) (v2 : Int) (v3 : Int) (v4 : Int) (σ : Mm) : Option (Int) := bindv 0 (fun v5_1 => lX8_isEmpty_3 v1 v2 v3 v4 σ (fX8_isEmpty_62 σ) 400 v5_1)
abbrev rmX8_whyNot : Room := { frames := 5, cells := 0, slots := 0, locals := 126 }
def fX8_whyNot_84 (t0 : Int) (σ : Mm) : Option (Int × Mm) := some (t0, σ)
def fX8_whyNot_17 (σ : Mm) : Option (Int × Mm) := some (1, σ)
def fX8_whyNot (v1 : Int) (v2 : Int) (σ : Mm) : Option (Int × Mm) := bd (fX8_isNode v1 σ) (fun x_1 => cr x_1 ((if x_1 = 0 then bd (fX8_isThere v1 v2 σ) (fun x_3 => cr x_3 ((if x_3 = 0 then fX8_whyNot_17 σ else bd2 (fX8_neighbour v1 v2 (-1) σ) (fun x_5 σ_5 => bindv x_5 (fun v3_6 => bd2 (fX8_neighbour v1 v2 1 σ_5) (fun x_7 σ_7 => bindv x_7 (fun v4_8 => bd2 (fX8_edgesAt v3_6 v4_8 v2 σ_7) (fun x_9 σ_9 => cr x_9 ((if 0 < x_9 then some (2, σ_9) else bd2 (fX8_ringsWhy v1 v2 3 σ_9) (fun x_11 σ_11 => cr x_11 ((if x_11 = 0 then bd (fX8_isEmpty v1 v2 v3_6 v4_8 σ_11) (fun x_13 => cr x_13 ((if x_13 = 0 then fX8_whyNot_84 4 σ_11 else bd2 (fX8_ringsWhy v1 v2 5 σ_11) (fun x_15 σ_15 => fX8_whyNot_84 x_15 σ_15)))) else some (3, σ_11)))))))))))))) else fX8_whyNot_17 σ)))
abbrev rmX8_sizeOf : Room := { frames := 3, cells := 0, slots := 0, locals := 73 }
def fX8_sizeOf_31 (t0 : Int) (σ : Mm) : Option (Int × Mm) := some (t0, σ)
def fX8_sizeOf (v1 : Int) (v2 : Int) (σ : Mm) : Option (Int × Mm) := bd2 (fX8_neighbour v1 v2 (-1) σ) (fun x_1 σ_1 => bd2 (fX8_neighbour v1 v2 1 σ_1) (fun x_2 σ_2 => bd (fX8_turned 0 x_1 v1 x_2 σ_2) (fun x_3 => bindv x_3 (fun v3_4 => cr v3_4 ((if v3_4 < 0 then fX8_sizeOf_31 (-v3_4) σ_2 else fX8_sizeOf_31 v3_4 σ_2))))))
abbrev rmX8_least : Room := { frames := 6, cells := 0, slots := 0, locals := 150 }
def fX8_least_85 (v2 : Int) (σ : Mm) : Option (Int × Mm) := some (v2, σ)
def fX8_least_79 (c8 : Int → Int → Int → Mm → Option (Int × Mm)) (v1 : Int) (v2 : Int) (v3 : Int) (v4 : Int) (σ : Mm) : Option (Int × Mm) := bindv (v4 + 1) (fun v4_1 => c8 v2 v3 v4_1 σ)
def fX8_least_78 (c8 : Int → Int → Int → Mm → Option (Int × Mm)) (v1 : Int) (v2 : Int) (v4 : Int) (t0 : Int) (σ : Mm) : Option (Int × Mm) := bindv t0 (fun v3_1 => fX8_least_79 c8 v1 v2 v3_1 v4 σ)
def fX8_least_66 (c8 : Int → Int → Int → Mm → Option (Int × Mm)) (v1 : Int) (v3 : Int) (v4 : Int) (v5 : Int) (v6 : Int) (t0 : Int) (σ : Mm) : Option (Int × Mm) := bindv t0 (fun v2_1 => cr v6 ((if v6 = 0 then fX8_least_78 c8 v1 v2_1 v4 v3 σ else fX8_least_78 c8 v1 v2_1 v4 v5 σ)))
def fX8_least_53 (c8 : Int → Int → Int → Mm → Option (Int × Mm)) (v1 : Int) (v2 : Int) (v3 : Int) (v4 : Int) (v5 : Int) (t0 : Int) (σ : Mm) : Option (Int × Mm) := bindv t0 (fun v6_1 => cr v6_1 ((if v6_1 = 0 then fX8_least_66 c8 v1 v3 v4 v5 v6_1 v2 σ else fX8_least_66 c8 v1 v3 v4 v5 v6_1 v4 σ)))
def fX8_least_48 (c8 : Int → Int → Int → Mm → Option (Int × Mm)) (v1 : Int) (v2 : Int) (v3 : Int) (v4 : Int) (v5 : Int) (σ : Mm) : Option (Int × Mm) := fX8_least_53 c8 v1 v2 v3 v4 v5 1 σ
def fX8_least_8 (v1 : Int) (e8 : Int → Mm → Option (Int × Mm)) (c8 : Int → Int → Int → Mm → Option (Int × Mm)) (v2 : Int) (v3 : Int) (v4 : Int) (σ : Mm) : Option (Int × Mm) := bd (fX8_points σ) (fun x_1 => cr v4 (cr x_1 ((if v4 < x_1 then bd2 (fX8_whyNot v4 v1 σ) (fun x_4 σ_4 => cr x_4 ((if x_4 = 0 then bd2 (fX8_sizeOf v4 v1 σ_4) (fun x_6 σ_6 => bindv x_6 (fun v5_7 => cr v2 ((if v2 = (-4) then fX8_least_48 c8 v1 v2 v3 v4 v5_7 σ_6 else cr v5_7 (cr v3 ((if v5_7 < v3 then fX8_least_48 c8 v1 v2 v3 v4 v5_7 σ_6 else fX8_least_53 c8 v1 v2 v3 v4 v5_7 0 σ_6))))))) else fX8_least_79 c8 v1 v2 v3 v4 σ_4))) else e8 v2 σ))))
def lX8_least_8 (v1 : Int) (e8 : Int → Mm → Option (Int × Mm)) (fu : Nat) : Int → Int → Int → Mm → Option (Int × Mm) := itN (fun _ _ _ _ => none) (fun c8 => fX8_least_8 v1 e8 c8) fu
def fX8_least (v1 : Int) (σ : Mm) : Option (Int × Mm) := bindv (-4) (fun v2_1 => bindv 0 (fun v3_2 => bindv 0 (fun v4_3 => lX8_least_8 v1 (fun v2_4 σ_5 => fX8_least_85 v2_4 σ_5) 400 v2_1 v3_2 v4_3 σ)))
abbrev rmX8_arcPoint : Room := { frames := 1, cells := 0, slots := 0, locals := 23 }
def fX8_arcPoint (v1 : Int) (v2 : Int) (σ : Mm) : Option (Int) := chk v1 60 (chk v1 60 (bd (fX8_cornerOf 0 (σ 10 (v1).toNat) ((σ 11 (v1).toNat) + v2) σ) (fun x_1 => some x_1)))
abbrev rmX8_isInArc : Room := { frames := 2, cells := 0, slots := 0, locals := 45 }
def fX8_isInArc_106 (σ : Mm) : Option (Int) := some 0
def fX8_isInArc_100 (c2 : Int → Option (Int)) (v1 : Int) (v2 : Int) (v3 : Int) (σ : Mm) : Option (Int) := bindv (v3 + 1) (fun v3_1 => c2 v3_1)
def fX8_isInArc_94 (c41 : Int → Option (Int)) (v1 : Int) (v2 : Int) (v3 : Int) (v4 : Int) (v5 : Int) (σ : Mm) : Option (Int) := bindv (v5 + 1) (fun v5_1 => c41 v5_1)
def fX8_isInArc_92 (σ : Mm) : Option (Int) := some 1
def fX8_isInArc_80 (c41 : Int → Option (Int)) (v1 : Int) (v2 : Int) (v3 : Int) (v4 : Int) (v5 : Int) (v6 : Int) (v7 : Int) (σ : Mm) : Option (Int) := cr v6 (cr v2 ((if v6 = v2 then cr v7 (cr v1 ((if v7 = v1 then fX8_isInArc_92 σ else fX8_isInArc_94 c41 v1 v2 v3 v4 v5 σ))) else fX8_isInArc_94 c41 v1 v2 v3 v4 v5 σ)))
def fX8_isInArc_41 (v1 : Int) (v2 : Int) (v3 : Int) (v4 : Int) (σ : Mm) (e41 : Option (Int)) (c41 : Int → Option (Int)) (v5 : Int) : Option (Int) := cr v5 (cr v4 ((if v5 < v4 then bd (fX8_arcPoint v3 v5 σ) (fun x_3 => bindv x_3 (fun v6_4 => bd (fX8_arcPoint v3 (v5 + 1) σ) (fun x_5 => bindv x_5 (fun v7_6 => cr v6_4 (cr v1 ((if v6_4 = v1 then cr v7_6 (cr v2 ((if v7_6 = v2 then fX8_isInArc_92 σ else fX8_isInArc_80 c41 v1 v2 v3 v4 v5 v6_4 v7_6 σ))) else fX8_isInArc_80 c41 v1 v2 v3 v4 v5 v6_4 v7_6 σ))))))) else e41)))
def lX8_isInArc_41 (v1 : Int) (v2 : Int) (v3 : Int) (v4 : Int) (σ : Mm) (e41 : Option (Int)) (fu : Nat) : Int → Option (Int) := itN (fun _ => none) (fun c41 => fX8_isInArc_41 v1 v2 v3 v4 σ e41 c41) fu
def fX8_isInArc_36 (c2 : Int → Option (Int)) (v1 : Int) (v2 : Int) (v3 : Int) (t0 : Int) (σ : Mm) : Option (Int) := bindv t0 (fun v4_1 => bindv 0 (fun v5_2 => lX8_isInArc_41 v1 v2 v3 v4_1 σ (fX8_isInArc_100 c2 v1 v2 v3 σ) 400 v5_2))
def fX8_isInArc_2 (v1 : Int) (v2 : Int) (σ : Mm) (e2 : Option (Int)) (c2 : Int → Option (Int)) (v3 : Int) : Option (Int) := cr v3 (cr (σ 0 24) ((if v3 < σ 0 24 then chk v3 60 (cr (σ 13 (v3).toNat) ((if σ 13 (v3).toNat = 0 then chk v3 60 (fX8_isInArc_36 c2 v1 v2 v3 ((σ 12 (v3).toNat) - 1) σ) else chk v3 60 (fX8_isInArc_36 c2 v1 v2 v3 (σ 12 (v3).toNat) σ)))) else e2)))
def lX8_isInArc_2 (v1 : Int) (v2 : Int) (σ : Mm) (e2 : Option (Int)) (fu : Nat) : Int → Option (Int) := itN (fun _ => none) (fun c2 => fX8_isInArc_2 v1 v2 σ e2 c2) fu
def fX8_isInArc (v1 : Int) (v2 : Int) (σ : Mm) : Option (Int) := bindv 0 (fun v3_1 => lX8_isInArc_2 v1 v2 σ (fX8_isInArc_106 σ) 400 v3_1)
abbrev rmX8_arcOf : Room := { frames := 1, cells := 0, slots := 0, locals := 23 }
def fX8_arcOf_160 (t1 : Int) (t2 : Int) (σ : Mm) : Option (Mm) := chk t1 60 (bindv (sto σ 12 (t1).toNat t2) (fun σ_1 => bindv (sto σ_1 0 24 ((σ_1 0 24) + 1)) (fun σ_2 => some σ_2)))
def fX8_arcOf_138 (v3 : Int) (v5 : Int) (v6 : Int) (σ : Mm) : Option (Mm) := cr v5 (cr v3 ((if v5 = v3 then fX8_arcOf_160 (σ 0 24) v3 σ else fX8_arcOf_160 (σ 0 24) (v6 + 1) σ)))
def fX8_arcOf_108 (v1 : Int) (v3 : Int) (v4 : Int) (v5 : Int) (σ : Mm) (e108 : Int → Option (Mm)) (c108 : Int → Option (Mm)) (v6 : Int) : Option (Mm) := cr v5 (cr v3 ((if v5 < v3 then bd (fX8_cornerOf 0 v1 (v4 + v6) σ) (fun x_3 => bd (fX8_isNode x_3 σ) (fun x_4 => cr x_4 ((if x_4 = 0 then bindv (v6 + 1) (fun v6_6 => c108 v6_6) else e108 v6)))) else e108 v6)))
def lX8_arcOf_108 (v1 : Int) (v3 : Int) (v4 : Int) (v5 : Int) (σ : Mm) (e108 : Int → Option (Mm)) (fu : Nat) : Int → Option (Mm) := itN (fun _ => none) (fun c108 => fX8_arcOf_108 v1 v3 v4 v5 σ e108 c108) fu
def fX8_arcOf_104 (v1 : Int) (v3 : Int) (v4 : Int) (v5 : Int) (t1 : Int) (t2 : Int) (σ : Mm) : Option (Mm) := chk t1 60 (bindv (sto σ 11 (t1).toNat t2) (fun σ_1 => bindv 1 (fun v6_2 => lX8_arcOf_108 v1 v3 v4 v5 σ_1 (fun v6_3 => fX8_arcOf_138 v3 v5 v6_3 σ_1) 400 v6_2)))
def fX8_arcOf_83 (v1 : Int) (v3 : Int) (v4 : Int) (v5 : Int) (t1 : Int) (t2 : Int) (σ : Mm) : Option (Mm) := chb t2 (chk t1 60 (bindv (sto σ 13 (t1).toNat t2) (fun σ_1 => cr v5 (cr v3 ((if v5 = v3 then fX8_arcOf_104 v1 v3 v4 v5 (σ_1 0 24) 0 σ_1 else fX8_arcOf_104 v1 v3 v4 v5 (σ_1 0 24) v4 σ_1))))))
def fX8_arcOf_54 (v1 : Int) (v3 : Int) (v4 : Int) (v5 : Int) (σ : Mm) : Option (Mm) := chk (σ 0 24) 60 (bindv (sto σ 10 (σ 0 24).toNat v1) (fun σ_1 => cr v5 (cr v3 ((if v5 = v3 then fX8_arcOf_83 v1 v3 v4 v5 (σ_1 0 24) 1 σ_1 else fX8_arcOf_83 v1 v3 v4 v5 (σ_1 0 24) 0 σ_1)))))
def fX8_arcOf_17 (v1 : Int) (v3 : Int) (σ : Mm) (e17 : Int → Int → Option (Mm)) (c17 : Int → Int → Option (Mm)) (v4 : Int) (v5 : Int) : Option (Mm) := cr v5 (cr v3 ((if v5 < v3 then bd (fX8_cornerOf 0 v1 v4 σ) (fun x_3 => bd (fX8_isNode x_3 σ) (fun x_4 => cr x_4 ((if x_4 = 0 then chd ((v4 + v3) - 1) v3 (bindv (((v4 + v3) - 1) % v3) (fun v4_6 => bindv (v5 + 1) (fun v5_7 => c17 v4_6 v5_7))) else e17 v4 v5)))) else e17 v4 v5)))
def lX8_arcOf_17 (v1 : Int) (v3 : Int) (σ : Mm) (e17 : Int → Int → Option (Mm)) (fu : Nat) : Int → Int → Option (Mm) := itN (fun _ _ => none) (fun c17 => fX8_arcOf_17 v1 v3 σ e17 c17) fu
def fX8_arcOf (v1 : Int) (v2 : Int) (σ : Mm) : Option (Mm) := chk (132 + v1) 700 (bindv (σ 1 (132 + v1).toNat) (fun v3_1 => bindv v2 (fun v4_2 => bindv 0 (fun v5_3 => lX8_arcOf_17 v1 v3_1 σ (fun v4_4 v5_5 => fX8_arcOf_54 v1 v3_1 v4_4 v5_5 σ) 400 v4_2 v5_3))))
abbrev rmX8_arcs : Room := { frames := 3, cells := 0, slots := 0, locals := 72 }
def fX8_arcs_72 (σ : Mm) : Option (Mm) := some σ
def fX8_arcs_66 (c7 : Int → Mm → Option (Mm)) (v1 : Int) (σ : Mm) : Option (Mm) := bindv (v1 + 1) (fun v1_1 => c7 v1_1 σ)
def fX8_arcs_60 (c17 : Int → Mm → Option (Mm)) (v1 : Int) (v2 : Int) (σ : Mm) : Option (Mm) := bindv (v2 + 1) (fun v2_1 => c17 v2_1 σ)
def fX8_arcs_17 (v1 : Int) (e17 : Mm → Option (Mm)) (c17 : Int → Mm → Option (Mm)) (v2 : Int) (σ : Mm) : Option (Mm) := chk (132 + v1) 700 (cr v2 (cr (σ 1 (132 + v1).toNat) ((if v2 < σ 1 (132 + v1).toNat then bd (fX8_cornerOf 0 v1 v2 σ) (fun x_3 => bd (fX8_cornerOf 0 v1 (v2 + 1) σ) (fun x_4 => bd (fX8_isInArc x_3 x_4 σ) (fun x_5 => cr x_5 ((if x_5 = 0 then bd (fX8_arcOf v1 v2 σ) (fun σ_7 => fX8_arcs_60 c17 v1 v2 σ_7) else fX8_arcs_60 c17 v1 v2 σ))))) else e17 σ))))
def lX8_arcs_17 (v1 : Int) (e17 : Mm → Option (Mm)) (fu : Nat) : Int → Mm → Option (Mm) := itN (fun _ _ => none) (fun c17 => fX8_arcs_17 v1 e17 c17) fu
def fX8_arcs_7 (e7 : Mm → Option (Mm)) (c7 : Int → Mm → Option (Mm)) (v1 : Int) (σ : Mm) : Option (Mm) := bd (fX8_rings σ) (fun x_1 => cr v1 (cr x_1 ((if v1 < x_1 then bindv 0 (fun v2_4 => lX8_arcs_17 v1 (fun σ_5 => fX8_arcs_66 c7 v1 σ_5) 400 v2_4 σ) else e7 σ))))
def lX8_arcs_7 (e7 : Mm → Option (Mm)) (fu : Nat) : Int → Mm → Option (Mm) := itN (fun _ _ => none) (fun c7 => fX8_arcs_7 e7 c7) fu
def fX8_arcs (σ : Mm) : Option (Mm) := bindv (sto σ 0 24 0) (fun σ_1 => bindv 0 (fun v1_2 => lX8_arcs_7 (fun σ_3 => fX8_arcs_72 σ_3) 400 v1_2 σ_1))
abbrev rmX8_makes : Room := { frames := 7, cells := 0, slots := 0, locals := 176 }
def fX8_makes_139 (σ : Mm) : Option (Mm) := bd (fX8_arcs σ) (fun σ_1 => some σ_1)
def fX8_makes_76 (e76 : Mm → Option (Mm)) (c76 : Int → Mm → Option (Mm)) (v1 : Int) (σ : Mm) : Option (Mm) := cr v1 ((if v1 = (-4) then e76 σ else bd2 (fX8_sizeOf v1 (σ 0 16) σ) (fun x_2 σ_2 => chk v1 24 (bindv (sto σ_2 6 (v1).toNat x_2) (fun σ_3 => bindv (sto σ_3 0 16 ((σ_3 0 16) + 1)) (fun σ_4 => chk v1 24 (bindv (sto σ_4 5 (v1).toNat (σ_4 0 16)) (fun σ_5 => chk (σ_5 0 16) 25 (bindv (sto σ_5 7 (σ_5 0 16).toNat v1) (fun σ_6 => bd2 (fX8_least (σ_6 0 16) σ_6) (fun x_7 σ_7 => bindv x_7 (fun v1_8 => c76 v1_8 σ_7))))))))))))
def lX8_makes_76 (e76 : Mm → Option (Mm)) (fu : Nat) : Int → Mm → Option (Mm) := itN (fun _ _ => none) (fun c76 => fX8_makes_76 e76 c76) fu
def fX8_makes_70 (σ : Mm) : Option (Mm) := bd2 (fX8_least 0 σ) (fun x_1 σ_1 => bindv x_1 (fun v1_2 => lX8_makes_76 (fun σ_3 => fX8_makes_139 σ_3) 400 v1_2 σ_1))
def fX8_makes_63 (c20 : Int → Mm → Option (Mm)) (v1 : Int) (t1 : Int) (t2 : Int) (σ : Mm) : Option (Mm) := chk t1 24 (bindv (sto σ 8 (t1).toNat t2) (fun σ_1 => bindv (v1 + 1) (fun v1_2 => c20 v1_2 σ_1)))
def fX8_makes_20 (e20 : Mm → Option (Mm)) (c20 : Int → Mm → Option (Mm)) (v1 : Int) (σ : Mm) : Option (Mm) := cr v1 ((if v1 < 24 then chk v1 24 (bindv (sto σ 5 (v1).toNat 0) (fun σ_2 => chk v1 24 (bindv (sto σ_2 6 (v1).toNat (-4)) (fun σ_3 => bd (fX8_points σ_3) (fun x_4 => cr v1 (cr x_4 ((if v1 < x_4 then bd (fX8_degreeOf v1 σ_3) (fun x_7 => fX8_makes_63 c20 v1 v1 x_7 σ_3) else fX8_makes_63 c20 v1 v1 0 σ_3)))))))) else e20 σ))
def lX8_makes_20 (e20 : Mm → Option (Mm)) (fu : Nat) : Int → Mm → Option (Mm) := itN (fun _ _ => none) (fun c20 => fX8_makes_20 e20 c20) fu
def fX8_makes (σ : Mm) : Option (Mm) := cr (σ 0 17) ((if σ 0 17 = 0 then bindv (sto σ 0 17 1) (fun σ_2 => bindv (sto σ_2 0 16 0) (fun σ_3 => bindv 0 (fun v1_4 => lX8_makes_20 (fun σ_5 => fX8_makes_70 σ_5) 400 v1_4 σ_3))) else some σ))
abbrev rmX8_in : Room := { frames := 0, cells := 0, slots := 0, locals := 0 }
def fX8_in_18 (t0 : Int) (σ : Mm) : Option (Int) := chb t0 (some t0)
def fX8_in_17 (σ : Mm) : Option (Int) := fX8_in_18 0 σ
def fX8_in (v0 : Int) (v2 : Int) (v4 : Int) (σ : Mm) : Option (Int) := crl v0 (crl v2 ((if v0 < v2 then fX8_in_17 σ else crl v0 (crl v4 ((if v4 < v0 then fX8_in_17 σ else fX8_in_18 1 σ))))))
abbrev rmX8_isArc : Room := { frames := 8, cells := 0, slots := 0, locals := 197 }
def fX8_isArc (v1 : Int) (σ : Mm) : Option (Int × Mm) := bd (fX8_makes σ) (fun σ_1 => cr v1 (cr ((σ_1 0 24) - 1) (bd (fX8_in v1 0 ((σ_1 0 24) - 1) σ_1) (fun x_2 => chb x_2 (some (x_2, σ_1))))))
abbrev rmX8_ringsOfArc : Room := { frames := 2, cells := 0, slots := 0, locals := 45 }
def fX8_ringsOfArc_164 (t0 : Int) (σ : Mm) : Option (Int) := some t0
def fX8_ringsOfArc_154 (v2 : Int) (v3 : Int) (σ : Mm) : Option (Int) := cr v2 ((if v2 < 0 then fX8_ringsOfArc_164 v3 σ else fX8_ringsOfArc_164 (-4) σ))
def fX8_ringsOfArc_146 (c5 : Int → Int → Option (Int)) (v1 : Int) (v2 : Int) (v4 : Int) (t0 : Int) (t1 : Int) (σ : Mm) : Option (Int) := bindv (t0 + t1) (fun v3_1 => bindv (v4 + 1) (fun v4_2 => c5 v3_1 v4_2))
def fX8_ringsOfArc_135 (c5 : Int → Int → Option (Int)) (v1 : Int) (v2 : Int) (v3 : Int) (v4 : Int) (v5 : Int) (σ : Mm) : Option (Int) := cr v5 ((if v5 = 0 then fX8_ringsOfArc_146 c5 v1 v2 v4 v3 0 σ else fX8_ringsOfArc_146 c5 v1 v2 v4 v3 1 σ))
def fX8_ringsOfArc_122 (c5 : Int → Int → Option (Int)) (v1 : Int) (v2 : Int) (v3 : Int) (v4 : Int) (v5 : Int) (σ : Mm) : Option (Int) := cr v5 ((if v5 = 0 then fX8_ringsOfArc_135 c5 v1 v2 v3 v4 v5 σ else cr v3 (cr v2 ((if v3 = v2 then some v4 else fX8_ringsOfArc_135 c5 v1 v2 v3 v4 v5 σ)))))
def fX8_ringsOfArc_114 (c20 : Int → Int → Option (Int)) (v1 : Int) (v2 : Int) (v3 : Int) (v4 : Int) (v6 : Int) (t0 : Int) (σ : Mm) : Option (Int) := bindv t0 (fun v5_1 => bindv (v6 + 1) (fun v6_2 => c20 v5_1 v6_2))
def fX8_ringsOfArc_113 (c20 : Int → Int → Option (Int)) (v1 : Int) (v2 : Int) (v3 : Int) (v4 : Int) (v6 : Int) (σ : Mm) : Option (Int) := fX8_ringsOfArc_114 c20 v1 v2 v3 v4 v6 0 σ
def fX8_ringsOfArc_109 (c20 : Int → Int → Option (Int)) (v1 : Int) (v2 : Int) (v3 : Int) (v4 : Int) (v6 : Int) (σ : Mm) : Option (Int) := fX8_ringsOfArc_114 c20 v1 v2 v3 v4 v6 1 σ
def fX8_ringsOfArc_87 (c20 : Int → Int → Option (Int)) (v1 : Int) (v2 : Int) (v3 : Int) (v4 : Int) (v6 : Int) (v7 : Int) (v8 : Int) (σ : Mm) : Option (Int) := bd (fX8_arcPoint v1 1 σ) (fun x_1 => cr v7 (cr x_1 ((if v7 = x_1 then bd (fX8_arcPoint v1 0 σ) (fun x_4 => cr v8 (cr x_4 ((if v8 = x_4 then fX8_ringsOfArc_109 c20 v1 v2 v3 v4 v6 σ else fX8_ringsOfArc_113 c20 v1 v2 v3 v4 v6 σ)))) else fX8_ringsOfArc_113 c20 v1 v2 v3 v4 v6 σ))))
def fX8_ringsOfArc_20 (v1 : Int) (v2 : Int) (v3 : Int) (v4 : Int) (σ : Mm) (e20 : Int → Option (Int)) (c20 : Int → Int → Option (Int)) (v5 : Int) (v6 : Int) : Option (Int) := chk (132 + v4) 700 (cr v6 (cr (σ 1 (132 + v4).toNat) ((if v6 < σ 1 (132 + v4).toNat then bd (fX8_cornerOf 0 v4 v6 σ) (fun x_3 => bindv x_3 (fun v7_4 => bd (fX8_cornerOf 0 v4 (v6 + 1) σ) (fun x_5 => bindv x_5 (fun v8_6 => cr v5 ((if v5 = 0 then bd (fX8_arcPoint v1 0 σ) (fun x_8 => cr v7_4 (cr x_8 ((if v7_4 = x_8 then bd (fX8_arcPoint v1 1 σ) (fun x_11 => cr v8_6 (cr x_11 ((if v8_6 = x_11 then fX8_ringsOfArc_109 c20 v1 v2 v3 v4 v6 σ else fX8_ringsOfArc_87 c20 v1 v2 v3 v4 v6 v7_4 v8_6 σ)))) else fX8_ringsOfArc_87 c20 v1 v2 v3 v4 v6 v7_4 v8_6 σ)))) else fX8_ringsOfArc_109 c20 v1 v2 v3 v4 v6 σ)))))) else e20 v5))))
def lX8_ringsOfArc_20 (v1 : Int) (v2 : Int) (v3 : Int) (v4 : Int) (σ : Mm) (e20 : Int → Option (Int)) (fu : Nat) : Int → Int → Option (Int) := itN (fun _ _ => none) (fun c20 => fX8_ringsOfArc_20 v1 v2 v3 v4 σ e20 c20) fu
def fX8_ringsOfArc_5 (v1 : Int) (v2 : Int) (σ : Mm) (e5 : Int → Option (Int)) (c5 : Int → Int → Option (Int)) (v3 : Int) (v4 : Int) : Option (Int) := bd (fX8_rings σ) (fun x_1 => cr v4 (cr x_1 ((if v4 < x_1 then bindv 0 (fun v5_4 => bindv 0 (fun v6_5 => lX8_ringsOfArc_20 v1 v2 v3 v4 σ (fun v5_6 => fX8_ringsOfArc_122 c5 v1 v2 v3 v4 v5_6 σ) 400 v5_4 v6_5)) else e5 v3))))
def lX8_ringsOfArc_5 (v1 : Int) (v2 : Int) (σ : Mm) (e5 : Int → Option (Int)) (fu : Nat) : Int → Int → Option (Int) := itN (fun _ _ => none) (fun c5 => fX8_ringsOfArc_5 v1 v2 σ e5 c5) fu
def fX8_ringsOfArc (v1 : Int) (v2 : Int) (σ : Mm) : Option (Int) := bindv 0 (fun v3_1 => bindv 0 (fun v4_2 => lX8_ringsOfArc_5 v1 v2 σ (fun v3_3 => fX8_ringsOfArc_154 v2 v3_3 σ) 400 v3_1 v4_2))
abbrev rmX8_along : Room := { frames := 9, cells := 0, slots := 0, locals := 218 }
def fX8_along_59 (t0 : Int) (σ : Mm) : Option (Int × Mm) := some (t0, σ)
def fX8_along_22 (σ : Mm) : Option (Int × Mm) := some ((-1), σ)
def fX8_along (v1 : Int) (v2 : Int) (v3 : Int) (σ : Mm) : Option (Int × Mm) := bd2 (fX8_isArc v1 σ) (fun x_1 σ_1 => cr x_1 ((if x_1 = 0 then fX8_along_22 σ_1 else cr v2 ((if v2 < 0 then fX8_along_22 σ_1 else cr v3 (bd (fX8_in v3 0 1 σ_1) (fun x_4 => cr x_4 ((if x_4 = 0 then fX8_along_22 σ_1 else cr v3 ((if v3 = 1 then bd (fX8_ringsOfArc v1 v2 σ_1) (fun x_10 => fX8_along_59 x_10 σ_1) else chk v1 60 (cr v2 (cr (σ_1 12 (v1).toNat) ((if v2 < σ_1 12 (v1).toNat then bd (fX8_arcPoint v1 v2 σ_1) (fun x_9 => fX8_along_59 x_9 σ_1) else fX8_along_59 (-4) σ_1)))))))))))))))
abbrev rmX8_arc : Room := { frames := 9, cells := 0, slots := 0, locals := 218 }
def fX8_arc_85 (t0 : Int) (σ : Mm) : Option (Int × Mm) := some (t0, σ)
def fX8_arc (v1 : Int) (v2 : Int) (σ : Mm) : Option (Int × Mm) := bd2 (fX8_isArc v1 σ) (fun x_1 σ_1 => cr x_1 ((if x_1 = 0 then some ((-1), σ_1) else cr v2 ((if v2 = 0 then chk v1 60 (some (σ_1 12 (v1).toNat, σ_1)) else (if v2 = 1 then bd (fX8_arcPoint v1 0 σ_1) (fun x_6 => some (x_6, σ_1)) else (if v2 = 2 then chk v1 60 (cr (σ_1 13 (v1).toNat) ((if σ_1 13 (v1).toNat = 0 then chk v1 60 (bd (fX8_arcPoint v1 ((σ_1 12 (v1).toNat) - 1) σ_1) (fun x_9 => fX8_arc_85 x_9 σ_1)) else bd (fX8_arcPoint v1 0 σ_1) (fun x_10 => fX8_arc_85 x_10 σ_1)))) else (if v2 = 3 then bd (fX8_ringsOfArc v1 (-1) σ_1) (fun x_12 => some (x_12, σ_1)) else some ((-1), σ_1)))))))))
abbrev rmX8_arcOfPoint : Room := { frames := 2, cells := 0, slots := 0, locals := 45 }
def fX8_arcOfPoint_54 (σ : Mm) : Option (Int) := some (-4)
def fX8_arcOfPoint_48 (c2 : Int → Option (Int)) (v1 : Int) (v2 : Int) (σ : Mm) : Option (Int) := bindv (v2 + 1) (fun v2_1 => c2 v2_1)
def fX8_arcOfPoint_20 (v1 : Int) (v2 : Int) (σ : Mm) (e20 : Option (Int)) (c20 : Int → Option (Int)) (v3 : Int) : Option (Int) := chk v2 60 (cr v3 (cr (σ 12 (v2).toNat) ((if v3 < σ 12 (v2).toNat then bd (fX8_arcPoint v2 v3 σ) (fun x_3 => cr x_3 (cr v1 ((if x_3 = v1 then some v2 else bindv (v3 + 1) (fun v3_6 => c20 v3_6))))) else e20))))
def lX8_arcOfPoint_20 (v1 : Int) (v2 : Int) (σ : Mm) (e20 : Option (Int)) (fu : Nat) : Int → Option (Int) := itN (fun _ => none) (fun c20 => fX8_arcOfPoint_20 v1 v2 σ e20 c20) fu
def fX8_arcOfPoint_2 (v1 : Int) (σ : Mm) (e2 : Option (Int)) (c2 : Int → Option (Int)) (v2 : Int) : Option (Int) := cr v2 (cr (σ 0 24) ((if v2 < σ 0 24 then bd (fX8_isNode v1 σ) (fun x_3 => cr x_3 ((if x_3 = 0 then bindv 0 (fun v3_5 => lX8_arcOfPoint_20 v1 v2 σ (fX8_arcOfPoint_48 c2 v1 v2 σ) 400 v3_5) else e2))) else e2)))
def lX8_arcOfPoint_2 (v1 : Int) (σ : Mm) (e2 : Option (Int)) (fu : Nat) : Int → Option (Int) := itN (fun _ => none) (fun c2 => fX8_arcOfPoint_2 v1 σ e2 c2) fu
def fX8_arcOfPoint (v1 : Int) (σ : Mm) : Option (Int) := bindv 0 (fun v2_1 => lX8_arcOfPoint_2 v1 σ (fX8_arcOfPoint_54 σ) 400 v2_1)
abbrev rmX8_areaOf : Room := { frames := 1, cells := 0, slots := 0, locals := 23 }
def fX8_areaOf_98 (v3 : Int) (σ : Mm) : Option (Int) := some v3
def fX8_areaOf_5 (v1 : Int) (v2 : Int) (σ : Mm) (e5 : Int → Option (Int)) (c5 : Int → Int → Option (Int)) (v3 : Int) (v4 : Int) : Option (Int) := chk ((v1 + 132) + v2) 700 (cr v4 (cr (σ 1 ((v1 + 132) + v2).toNat) ((if v4 < σ 1 ((v1 + 132) + v2).toNat then bd (fX8_cornerOf v1 v2 v4 σ) (fun x_3 => bindv x_3 (fun v5_4 => bd (fX8_cornerOf v1 v2 (v4 + 1) σ) (fun x_5 => bindv x_5 (fun v6_6 => chk (v1 + v5_4) 700 (chk ((v1 + 24) + v6_6) 700 (chk (v1 + v6_6) 700 (chk ((v1 + 24) + v5_4) 700 (bindv (v3 + (((σ 1 (v1 + v5_4).toNat) * (σ 1 ((v1 + 24) + v6_6).toNat)) - ((σ 1 (v1 + v6_6).toNat) * (σ 1 ((v1 + 24) + v5_4).toNat)))) (fun v3_7 => bindv (v4 + 1) (fun v4_8 => c5 v3_7 v4_8)))))))))) else e5 v3))))
def lX8_areaOf_5 (v1 : Int) (v2 : Int) (σ : Mm) (e5 : Int → Option (Int)) (fu : Nat) : Int → Int → Option (Int) := itN (fun _ _ => none) (fun c5 => fX8_areaOf_5 v1 v2 σ e5 c5) fu
def fX8_areaOf (v1 : Int) (v2 : Int) (σ : Mm) : Option (Int) := bindv 0 (fun v3_1 => bindv 0 (fun v4_2 => lX8_areaOf_5 v1 v2 σ (fun v3_3 => fX8_areaOf_98 v3_3 σ) 400 v3_1 v4_2))
abbrev rmX8_copies : Room := { frames := 0, cells := 0, slots := 0, locals := 0 }
def fX8_copies_31 (σ : Mm) : Option (Mm) := some σ
def fX8_copies_2 (v1 : Int) (v2 : Int) (e2 : Mm → Option (Mm)) (c2 : Int → Mm → Option (Mm)) (v3 : Int) (σ : Mm) : Option (Mm) := cr v3 ((if v3 < 140 then chk (v1 + v3) 700 (chk (v2 + v3) 700 (bindv (sto σ 1 (v2 + v3).toNat (σ 1 (v1 + v3).toNat)) (fun σ_2 => bindv (v3 + 1) (fun v3_3 => c2 v3_3 σ_2)))) else e2 σ))
def lX8_copies_2 (v1 : Int) (v2 : Int) (e2 : Mm → Option (Mm)) (fu : Nat) : Int → Mm → Option (Mm) := itN (fun _ _ => none) (fun c2 => fX8_copies_2 v1 v2 e2 c2) fu
def fX8_copies (v1 : Int) (v2 : Int) (σ : Mm) : Option (Mm) := bindv 0 (fun v3_1 => lX8_copies_2 v1 v2 (fun σ_2 => fX8_copies_31 σ_2) 400 v3_1 σ)
abbrev rmX8_back : Room := { frames := 1, cells := 0, slots := 0, locals := 25 }
def fX8_back (v1 : Int) (σ : Mm) : Option (Int × Mm) := cr v1 (bd (fX8_in v1 0 1 σ) (fun x_1 => cr x_1 ((if x_1 = 0 then some ((-1), σ) else chk v1 2 (cr (σ 15 (v1).toNat) ((if σ 15 (v1).toNat = 0 then some ((-2), σ) else bd (fX8_copies ((140 * v1) + 140) 0 σ) (fun σ_4 => bindv (sto σ_4 0 17 0) (fun σ_5 => bd (fX8_points σ_5) (fun x_6 => some (x_6, σ_5)))))))))))
abbrev rmX8_byteAt : Room := { frames := 0, cells := 0, slots := 0, locals := 0 }
def fX8_byteAt_19 (t0 : Int) (σ : Mm) : Option (Int) := some t0
def fX8_byteAt (v1 : Int) (σ : Mm) : Option (Int) := cr v1 (cr (σ 0 2) ((if v1 < σ 0 2 then chk v1 320 (fX8_byteAt_19 (σ 2 (v1).toNat) σ) else fX8_byteAt_19 (-4) σ)))
abbrev rmX8_isRing : Room := { frames := 1, cells := 0, slots := 0, locals := 25 }
def fX8_isRing (v1 : Int) (σ : Mm) : Option (Int) := cr v1 (bd (fX8_rings σ) (fun x_1 => cr (x_1 - 1) (bd (fX8_in v1 0 (x_1 - 1) σ) (fun x_2 => chb x_2 (some x_2)))))
abbrev rmX8_isStage : Room := { frames := 8, cells := 0, slots := 0, locals := 197 }
def fX8_isStage (v1 : Int) (σ : Mm) : Option (Int × Mm) := bd (fX8_makes σ) (fun σ_1 => cr v1 (cr (σ_1 0 16) (bd (fX8_in v1 0 (σ_1 0 16) σ_1) (fun x_2 => chb x_2 (some (x_2, σ_1))))))
abbrev rmX8_corner : Room := { frames := 9, cells := 0, slots := 0, locals := 218 }
def fX8_corner_50 (t0 : Int) (σ : Mm) : Option (Int × Mm) := some (t0, σ)
def fX8_corner_16 (σ : Mm) : Option (Int × Mm) := some ((-1), σ)
def fX8_corner (v1 : Int) (v2 : Int) (v3 : Int) (σ : Mm) : Option (Int × Mm) := bd (fX8_isRing v1 σ) (fun x_1 => cr x_1 ((if x_1 = 0 then fX8_corner_16 σ else bd2 (fX8_isStage v2 σ) (fun x_3 σ_3 => cr x_3 ((if x_3 = 0 then fX8_corner_16 σ_3 else bd2 (fX8_ringAt v1 v2 σ_3) (fun x_5 σ_5 => bindv x_5 (fun v4_6 => cr v3 (cr (v4_6 - 1) (bd (fX8_in v3 0 (v4_6 - 1) σ_5) (fun x_7 => cr x_7 ((if x_7 = 0 then fX8_corner_50 (-1) σ_5 else chk v3 10 (fX8_corner_50 (σ_5 9 (v3).toNat) σ_5))))))))))))))
abbrev rmX8_count : Room := { frames := 1, cells := 0, slots := 0, locals := 20 }
def fX8_count_137 (t0 : Int) (σ : Mm) : Option (Int) := some t0
def fX8_count_108 (t0 : Int) (t1 : Int) (σ : Mm) : Option (Int) := some (t0 + t1)
def fX8_count_94 (t0 : Int) (σ : Mm) : Option (Int) := chk 1 2 (cr (σ 15 1) ((if σ 15 1 = 0 then fX8_count_108 t0 0 σ else fX8_count_108 t0 1 σ)))
def fX8_count_45 (v1 : Int) (v2 : Int) (v3 : Int) (σ : Mm) : Option (Int) := cr v1 ((if v1 = 0 then chk 0 2 (cr (σ 15 0) ((if σ 15 0 = 0 then fX8_count_94 0 σ else fX8_count_94 1 σ))) else (if v1 = 1 then some (σ 0 2) else (if v1 = 2 then chk 0 4 (cr (σ 16 0) ((if σ 16 0 = (-4) then fX8_count_137 (-4) σ else chk 0 4 (fX8_count_137 (σ 17 0) σ)))) else (if v1 = 3 then some v2 else (if v1 = 4 then some v3 else some (-1)))))))
def fX8_count_7 (v1 : Int) (σ : Mm) (e7 : Int → Int → Option (Int)) (c7 : Int → Int → Int → Option (Int)) (v2 : Int) (v3 : Int) (v4 : Int) : Option (Int) := bd (fX8_points σ) (fun x_1 => cr v4 (cr x_1 ((if v4 < x_1 then chk v4 700 (bindv (v2 + (σ 1 (v4).toNat)) (fun v2_4 => chk (24 + v4) 700 (bindv (v3 + (σ 1 (24 + v4).toNat)) (fun v3_5 => bindv (v4 + 1) (fun v4_6 => c7 v2_4 v3_5 v4_6))))) else e7 v2 v3))))
def lX8_count_7 (v1 : Int) (σ : Mm) (e7 : Int → Int → Option (Int)) (fu : Nat) : Int → Int → Int → Option (Int) := itN (fun _ _ _ => none) (fun c7 => fX8_count_7 v1 σ e7 c7) fu
def fX8_count (v1 : Int) (σ : Mm) : Option (Int) := bindv 0 (fun v2_1 => bindv 0 (fun v3_2 => bindv 0 (fun v4_3 => lX8_count_7 v1 σ (fun v2_4 v3_5 => fX8_count_45 v1 v2_4 v3_5 σ) 400 v2_1 v3_2 v4_3)))
abbrev rmX8_isPoint : Room := { frames := 1, cells := 0, slots := 0, locals := 25 }
def fX8_isPoint (v1 : Int) (σ : Mm) : Option (Int) := cr v1 (bd (fX8_points σ) (fun x_1 => cr (x_1 - 1) (bd (fX8_in v1 0 (x_1 - 1) σ) (fun x_2 => chb x_2 (some x_2)))))
abbrev rmX8_edge : Room := { frames := 9, cells := 0, slots := 0, locals := 218 }
def fX8_edge_35 (t0 : Int) (σ : Mm) : Option (Int × Mm) := some (t0, σ)
def fX8_edge_34 (σ : Mm) : Option (Int × Mm) := fX8_edge_35 (-1) σ
def fX8_edge (v1 : Int) (v2 : Int) (v3 : Int) (σ : Mm) : Option (Int × Mm) := bd (fX8_isPoint v1 σ) (fun x_1 => cr x_1 ((if x_1 = 0 then fX8_edge_34 σ else bd (fX8_isPoint v2 σ) (fun x_3 => cr x_3 ((if x_3 = 0 then fX8_edge_34 σ else bd2 (fX8_isStage v3 σ) (fun x_5 σ_5 => cr x_5 ((if x_5 = 0 then fX8_edge_34 σ_5 else bd2 (fX8_edgesAt v1 v2 v3 σ_5) (fun x_7 σ_7 => fX8_edge_35 x_7 σ_7))))))))))
abbrev rmX8_edges : Room := { frames := 1, cells := 0, slots := 0, locals := 20 }
def fX8_edges_27 (v1 : Int) (σ : Mm) : Option (Int) := chd v1 2 (some (v1 / 2))
def fX8_edges_4 (σ : Mm) (e4 : Int → Option (Int)) (c4 : Int → Int → Option (Int)) (v1 : Int) (v2 : Int) : Option (Int) := bd (fX8_points σ) (fun x_1 => cr v2 (cr x_1 ((if v2 < x_1 then chk v2 24 (bindv (v1 + (σ 8 (v2).toNat)) (fun v1_4 => bindv (v2 + 1) (fun v2_5 => c4 v1_4 v2_5))) else e4 v1))))
def lX8_edges_4 (σ : Mm) (e4 : Int → Option (Int)) (fu : Nat) : Int → Int → Option (Int) := itN (fun _ _ => none) (fun c4 => fX8_edges_4 σ e4 c4) fu
def fX8_edges (σ : Mm) : Option (Int) := bindv 0 (fun v1_1 => bindv 0 (fun v2_2 => lX8_edges_4 σ (fun v1_3 => fX8_edges_27 v1_3 σ) 400 v1_1 v2_2))
abbrev rmX8_end : Room := { frames := 1, cells := 0, slots := 0, locals := 25 }
def fX8_end (v1 : Int) (σ : Mm) : Option (Int × Mm) := cr v1 (cr (σ 0 2) (bd (fX8_in v1 0 (σ 0 2) σ) (fun x_1 => cr x_1 ((if x_1 = 0 then some ((-1), σ) else bindv (σ 0 2) (fun v2_3 => bindv (sto σ 0 2 v1) (fun σ_4 => some (v2_3, σ_4))))))))
abbrev rmX8_fails : Room := { frames := 0, cells := 0, slots := 0, locals := 0 }
def fX8_fails_20 (σ : Mm) : Option (Mm) := some σ
def fX8_fails (v1 : Int) (σ : Mm) : Option (Mm) := cr (σ 0 4) ((if σ 0 4 = 0 then bindv (sto σ 0 4 v1) (fun σ_2 => bindv (sto σ_2 0 5 (σ_2 0 7)) (fun σ_3 => fX8_fails_20 σ_3)) else fX8_fails_20 σ))
abbrev rmX8_fault : Room := { frames := 0, cells := 0, slots := 0, locals := 0 }
def fX8_fault (σ : Mm) : Option (Int) := some (σ 0 3)
abbrev rmX8_feed : Room := { frames := 1, cells := 0, slots := 0, locals := 25 }
def fX8_feed (v1 : Int) (σ : Mm) : Option (Int × Mm) := cr v1 (bd (fX8_in v1 0 127 σ) (fun x_1 => cr x_1 ((if x_1 = 0 then some ((-1), σ) else cr (σ 0 2) ((if σ 0 2 = 320 then some ((-3), σ) else chk (σ 0 2) 320 (bindv (sto σ 2 (σ 0 2).toNat v1) (fun σ_4 => bindv (sto σ_4 0 2 ((σ_4 0 2) + 1)) (fun σ_5 => some (σ_5 0 2, σ_5))))))))))
abbrev rmX8_gone : Room := { frames := 9, cells := 0, slots := 0, locals := 218 }
def fX8_gone_22 (t0 : Int) (σ : Mm) : Option (Int × Mm) := some (t0, σ)
def fX8_gone_21 (σ : Mm) : Option (Int × Mm) := fX8_gone_22 (-1) σ
def fX8_gone (v1 : Int) (σ : Mm) : Option (Int × Mm) := bd2 (fX8_isStage v1 σ) (fun x_1 σ_1 => cr x_1 ((if x_1 = 0 then fX8_gone_21 σ_1 else cr v1 ((if 0 < v1 then chk v1 25 (fX8_gone_22 (σ_1 7 (v1).toNat) σ_1) else fX8_gone_21 σ_1)))))
abbrev rmX8_isCrossing : Room := { frames := 2, cells := 0, slots := 0, locals := 49 }
def fX8_isCrossing_89 (t0 : Int) (σ : Mm) : Option (Int) := chb t0 (some t0)
def fX8_isCrossing_88 (σ : Mm) : Option (Int) := fX8_isCrossing_89 0 σ
def fX8_isCrossing_24 (σ : Mm) : Option (Int) := some 0
def fX8_isCrossing (v1 : Int) (v2 : Int) (v3 : Int) (v4 : Int) (v5 : Int) (σ : Mm) : Option (Int) := cr v2 (cr v4 ((if v2 = v4 then fX8_isCrossing_24 σ else cr v2 (cr v5 ((if v2 = v5 then fX8_isCrossing_24 σ else cr v3 (cr v4 ((if v3 = v4 then fX8_isCrossing_24 σ else cr v3 (cr v5 ((if v3 = v5 then fX8_isCrossing_24 σ else bd (fX8_turned v1 v2 v3 v4 σ) (fun x_9 => bd (fX8_signOf x_9 σ) (fun x_10 => bd (fX8_turned v1 v2 v3 v5 σ) (fun x_11 => bd (fX8_signOf x_11 σ) (fun x_12 => cr (x_10 * x_12) ((if x_10 * x_12 < 0 then bd (fX8_turned v1 v4 v5 v2 σ) (fun x_14 => bd (fX8_signOf x_14 σ) (fun x_15 => bd (fX8_turned v1 v4 v5 v3 σ) (fun x_16 => bd (fX8_signOf x_16 σ) (fun x_17 => cr (x_15 * x_17) ((if x_15 * x_17 < 0 then fX8_isCrossing_89 1 σ else fX8_isCrossing_88 σ)))))) else fX8_isCrossing_88 σ))))))))))))))))))
abbrev rmX8_isEdgeFair : Room := { frames := 3, cells := 0, slots := 0, locals := 74 }
def fX8_isEdgeFair_146 (σ : Mm) : Option (Int) := some 1
def fX8_isEdgeFair_140 (c66 : Int → Option (Int)) (v1 : Int) (v2 : Int) (v3 : Int) (v4 : Int) (σ : Mm) : Option (Int) := bindv (v4 + 1) (fun v4_1 => c66 v4_1)
def fX8_isEdgeFair_84 (v1 : Int) (v2 : Int) (v3 : Int) (v4 : Int) (σ : Mm) (e84 : Option (Int)) (c84 : Int → Option (Int)) (v5 : Int) : Option (Int) := chk ((v1 + 132) + v4) 700 (cr v5 (cr (σ 1 ((v1 + 132) + v4).toNat) ((if v5 < σ 1 ((v1 + 132) + v4).toNat then bd (fX8_cornerOf v1 v4 v5 σ) (fun x_3 => bd (fX8_cornerOf v1 v4 (v5 + 1) σ) (fun x_4 => bd (fX8_isCrossing v1 v2 v3 x_3 x_4 σ) (fun x_5 => cr x_5 ((if x_5 = 0 then bindv (v5 + 1) (fun v5_7 => c84 v5_7) else some 0))))) else e84))))
def lX8_isEdgeFair_84 (v1 : Int) (v2 : Int) (v3 : Int) (v4 : Int) (σ : Mm) (e84 : Option (Int)) (fu : Nat) : Int → Option (Int) := itN (fun _ => none) (fun c84 => fX8_isEdgeFair_84 v1 v2 v3 v4 σ e84 c84) fu
def fX8_isEdgeFair_66 (v1 : Int) (v2 : Int) (v3 : Int) (σ : Mm) (e66 : Option (Int)) (c66 : Int → Option (Int)) (v4 : Int) : Option (Int) := chk (v1 + 139) 700 (cr v4 (cr (σ 1 (v1 + 139).toNat) ((if v4 < σ 1 (v1 + 139).toNat then bindv 0 (fun v5_3 => lX8_isEdgeFair_84 v1 v2 v3 v4 σ (fX8_isEdgeFair_140 c66 v1 v2 v3 v4 σ) 400 v5_3) else e66))))
def lX8_isEdgeFair_66 (v1 : Int) (v2 : Int) (v3 : Int) (σ : Mm) (e66 : Option (Int)) (fu : Nat) : Int → Option (Int) := itN (fun _ => none) (fun c66 => fX8_isEdgeFair_66 v1 v2 v3 σ e66 c66) fu
def fX8_isEdgeFair_63 (v1 : Int) (v2 : Int) (v3 : Int) (σ : Mm) : Option (Int) := bindv 0 (fun v4_1 => lX8_isEdgeFair_66 v1 v2 v3 σ (fX8_isEdgeFair_146 σ) 400 v4_1)
def fX8_isEdgeFair_57 (c16 : Int → Option (Int)) (v1 : Int) (v2 : Int) (v3 : Int) (v4 : Int) (σ : Mm) : Option (Int) := bindv (v4 + 1) (fun v4_1 => c16 v4_1)
def fX8_isEdgeFair_16 (v1 : Int) (v2 : Int) (v3 : Int) (σ : Mm) (e16 : Option (Int)) (c16 : Int → Option (Int)) (v4 : Int) : Option (Int) := chk (v1 + 138) 700 (cr v4 (cr (σ 1 (v1 + 138).toNat) ((if v4 < σ 1 (v1 + 138).toNat then cr v4 (cr v2 ((if v4 = v2 then fX8_isEdgeFair_57 c16 v1 v2 v3 v4 σ else cr v4 (cr v3 ((if v4 = v3 then fX8_isEdgeFair_57 c16 v1 v2 v3 v4 σ else bd (fX8_isOn v1 v4 v2 v3 σ) (fun x_7 => cr x_7 ((if x_7 = 0 then fX8_isEdgeFair_57 c16 v1 v2 v3 v4 σ else some 0))))))))) else e16))))
def lX8_isEdgeFair_16 (v1 : Int) (v2 : Int) (v3 : Int) (σ : Mm) (e16 : Option (Int)) (fu : Nat) : Int → Option (Int) := itN (fun _ => none) (fun c16 => fX8_isEdgeFair_16 v1 v2 v3 σ e16 c16) fu
def fX8_isEdgeFair (v1 : Int) (v2 : Int) (v3 : Int) (σ : Mm) : Option (Int) := bd (fX8_edgesOf v1 v2 v3 σ) (fun x_1 => cr x_1 ((if 2 < x_1 then some 0 else bindv 0 (fun v4_3 => lX8_isEdgeFair_16 v1 v2 v3 σ (fX8_isEdgeFair_63 v1 v2 v3 σ) 400 v4_3))))
abbrev rmX8_isFair : Room := { frames := 4, cells := 0, slots := 0, locals := 99 }
def fX8_isFair_178 (σ : Mm) : Option (Int) := some 1
def fX8_isFair_166 (c83 : Int → Option (Int)) (v1 : Int) (v2 : Int) (v3 : Int) (σ : Mm) : Option (Int) := cr v3 ((if v3 = 0 then some 0 else bindv (v2 + 1) (fun v2_2 => c83 v2_2)))
def fX8_isFair_115 (v1 : Int) (v2 : Int) (σ : Mm) (e115 : Int → Option (Int)) (c115 : Int → Int → Option (Int)) (v3 : Int) (v4 : Int) : Option (Int) := chk ((v1 + 132) + v2) 700 (cr v4 (cr (σ 1 ((v1 + 132) + v2).toNat) ((if v4 < σ 1 ((v1 + 132) + v2).toNat then cr v3 ((if v3 = 0 then e115 v3 else bd (fX8_cornerOf v1 v2 v4 σ) (fun x_4 => bd (fX8_cornerOf v1 v2 (v4 + 1) σ) (fun x_5 => bd (fX8_isEdgeFair v1 x_4 x_5 σ) (fun x_6 => bindv x_6 (fun v3_7 => bindv (v4 + 1) (fun v4_8 => c115 v3_7 v4_8))))))) else e115 v3))))
def lX8_isFair_115 (v1 : Int) (v2 : Int) (σ : Mm) (e115 : Int → Option (Int)) (fu : Nat) : Int → Int → Option (Int) := itN (fun _ _ => none) (fun c115 => fX8_isFair_115 v1 v2 σ e115 c115) fu
def fX8_isFair_111 (c83 : Int → Option (Int)) (v1 : Int) (v2 : Int) (t0 : Int) (σ : Mm) : Option (Int) := bindv t0 (fun v3_1 => bindv 0 (fun v4_2 => lX8_isFair_115 v1 v2 σ (fun v3_3 => fX8_isFair_166 c83 v1 v2 v3_3 σ) 400 v3_1 v4_2))
def fX8_isFair_83 (v1 : Int) (σ : Mm) (e83 : Option (Int)) (c83 : Int → Option (Int)) (v2 : Int) : Option (Int) := chk (v1 + 139) 700 (cr v2 (cr (σ 1 (v1 + 139).toNat) ((if v2 < σ 1 (v1 + 139).toNat then bd (fX8_areaOf v1 v2 σ) (fun x_3 => cr x_3 ((if x_3 = 0 then fX8_isFair_111 c83 v1 v2 0 σ else fX8_isFair_111 c83 v1 v2 1 σ))) else e83))))
def lX8_isFair_83 (v1 : Int) (σ : Mm) (e83 : Option (Int)) (fu : Nat) : Int → Option (Int) := itN (fun _ => none) (fun c83 => fX8_isFair_83 v1 σ e83 c83) fu
def fX8_isFair_81 (v1 : Int) (σ : Mm) : Option (Int) := bindv 0 (fun v2_1 => lX8_isFair_83 v1 σ (fX8_isFair_178 σ) 400 v2_1)
def fX8_isFair_75 (c2 : Int → Option (Int)) (v1 : Int) (v2 : Int) (σ : Mm) : Option (Int) := bindv (v2 + 1) (fun v2_1 => c2 v2_1)
def fX8_isFair_69 (c18 : Int → Option (Int)) (v1 : Int) (v2 : Int) (v3 : Int) (σ : Mm) : Option (Int) := bindv (v3 + 1) (fun v3_1 => c18 v3_1)
def fX8_isFair_18 (v1 : Int) (v2 : Int) (σ : Mm) (e18 : Option (Int)) (c18 : Int → Option (Int)) (v3 : Int) : Option (Int) := cr v3 (cr v2 ((if v3 < v2 then chk (v1 + v2) 700 (chk (v1 + v3) 700 (cr (σ 1 (v1 + v2).toNat) (cr (σ 1 (v1 + v3).toNat) ((if σ 1 (v1 + v2).toNat = σ 1 (v1 + v3).toNat then chk ((v1 + 24) + v2) 700 (chk ((v1 + 24) + v3) 700 (cr (σ 1 ((v1 + 24) + v2).toNat) (cr (σ 1 ((v1 + 24) + v3).toNat) ((if σ 1 ((v1 + 24) + v2).toNat = σ 1 ((v1 + 24) + v3).toNat then some 0 else fX8_isFair_69 c18 v1 v2 v3 σ))))) else fX8_isFair_69 c18 v1 v2 v3 σ))))) else e18)))
def lX8_isFair_18 (v1 : Int) (v2 : Int) (σ : Mm) (e18 : Option (Int)) (fu : Nat) : Int → Option (Int) := itN (fun _ => none) (fun c18 => fX8_isFair_18 v1 v2 σ e18 c18) fu
def fX8_isFair_2 (v1 : Int) (σ : Mm) (e2 : Option (Int)) (c2 : Int → Option (Int)) (v2 : Int) : Option (Int) := chk (v1 + 138) 700 (cr v2 (cr (σ 1 (v1 + 138).toNat) ((if v2 < σ 1 (v1 + 138).toNat then bindv 0 (fun v3_3 => lX8_isFair_18 v1 v2 σ (fX8_isFair_75 c2 v1 v2 σ) 400 v3_3) else e2))))
def lX8_isFair_2 (v1 : Int) (σ : Mm) (e2 : Option (Int)) (fu : Nat) : Int → Option (Int) := itN (fun _ => none) (fun c2 => fX8_isFair_2 v1 σ e2 c2) fu
def fX8_isFair (v1 : Int) (σ : Mm) : Option (Int) := bindv 0 (fun v2_1 => lX8_isFair_2 v1 σ (fX8_isFair_81 v1 σ) 400 v2_1)
abbrev rmX8_isOnPlace : Room := { frames := 1, cells := 0, slots := 0, locals := 25 }
def fX8_isOnPlace_91 (t0 : Int) (σ : Mm) : Option (Int) := chb t0 (some t0)
def fX8_isOnPlace_90 (σ : Mm) : Option (Int) := fX8_isOnPlace_91 0 σ
def fX8_isOnPlace (v1 : Int) (v2 : Int) (v3 : Int) (v4 : Int) (σ : Mm) : Option (Int) := chk v3 700 (chk (24 + v3) 700 (chk v4 700 (chk (24 + v4) 700 (bd (fX8_cross (σ 1 (v3).toNat) (σ 1 (24 + v3).toNat) (σ 1 (v4).toNat) (σ 1 (24 + v4).toNat) v1 v2 σ) (fun x_1 => cr x_1 ((if x_1 = 0 then chk v3 700 (chk v4 700 (bd (fX8_isBetween v1 (σ 1 (v3).toNat) (σ 1 (v4).toNat) σ) (fun x_3 => cr x_3 ((if x_3 = 0 then fX8_isOnPlace_90 σ else chk (24 + v3) 700 (chk (24 + v4) 700 (bd (fX8_isBetween v2 (σ 1 (24 + v3).toNat) (σ 1 (24 + v4).toNat) σ) (fun x_5 => cr x_5 ((if x_5 = 0 then fX8_isOnPlace_90 σ else fX8_isOnPlace_91 1 σ)))))))))) else fX8_isOnPlace_90 σ)))))))
abbrev rmX8_isSharing : Room := { frames := 2, cells := 0, slots := 0, locals := 47 }
def fX8_isSharing_167 (v7 : Int) (σ : Mm) : Option (Int × Mm) := chb v7 (some (v7, σ))
def fX8_isSharing_161 (c56 : Int → Int → Option (Int × Mm)) (v4 : Int) (v6 : Int) (v7 : Int) (v8 : Int) (σ : Mm) : Option (Int × Mm) := bindv (v8 + 1) (fun v8_1 => c56 v7 v8_1)
def fX8_isSharing_153 (c66 : Int → Int → Option (Int × Mm)) (v4 : Int) (v6 : Int) (v8 : Int) (v9 : Int) (t0 : Int) (σ : Mm) : Option (Int × Mm) := bindv t0 (fun v7_1 => bindv (v9 + 1) (fun v9_2 => c66 v7_1 v9_2))
def fX8_isSharing_152 (c66 : Int → Int → Option (Int × Mm)) (v4 : Int) (v6 : Int) (v8 : Int) (v9 : Int) (σ : Mm) : Option (Int × Mm) := fX8_isSharing_153 c66 v4 v6 v8 v9 0 σ
def fX8_isSharing_148 (c66 : Int → Int → Option (Int × Mm)) (v4 : Int) (v6 : Int) (v8 : Int) (v9 : Int) (σ : Mm) : Option (Int × Mm) := fX8_isSharing_153 c66 v4 v6 v8 v9 1 σ
def fX8_isSharing_134 (c66 : Int → Int → Option (Int × Mm)) (v4 : Int) (v6 : Int) (v8 : Int) (v9 : Int) (v10 : Int) (v11 : Int) (v12 : Int) (v13 : Int) (σ : Mm) : Option (Int × Mm) := cr v10 (cr v13 ((if v10 = v13 then cr v11 (cr v12 ((if v11 = v12 then fX8_isSharing_148 c66 v4 v6 v8 v9 σ else fX8_isSharing_152 c66 v4 v6 v8 v9 σ))) else fX8_isSharing_152 c66 v4 v6 v8 v9 σ)))
def fX8_isSharing_66 (v4 : Int) (v6 : Int) (v8 : Int) (σ : Mm) (e66 : Int → Option (Int × Mm)) (c66 : Int → Int → Option (Int × Mm)) (v7 : Int) (v9 : Int) : Option (Int × Mm) := cr v9 (cr v6 ((if v9 < v6 then chk v8 10 (bindv (σ 14 (v8).toNat) (fun v10_3 => chd (v8 + 1) v4 (chk ((v8 + 1) % v4) 10 (bindv (σ 14 ((v8 + 1) % v4).toNat) (fun v11_4 => chk v9 10 (bindv (σ 9 (v9).toNat) (fun v12_5 => chd (v9 + 1) v6 (chk ((v9 + 1) % v6) 10 (bindv (σ 9 ((v9 + 1) % v6).toNat) (fun v13_6 => cr v7 ((if v7 = 0 then cr v10_3 (cr v12_5 ((if v10_3 = v12_5 then cr v11_4 (cr v13_6 ((if v11_4 = v13_6 then fX8_isSharing_148 c66 v4 v6 v8 v9 σ else fX8_isSharing_134 c66 v4 v6 v8 v9 v10_3 v11_4 v12_5 v13_6 σ))) else fX8_isSharing_134 c66 v4 v6 v8 v9 v10_3 v11_4 v12_5 v13_6 σ))) else fX8_isSharing_148 c66 v4 v6 v8 v9 σ)))))))))))) else e66 v7)))
def lX8_isSharing_66 (v4 : Int) (v6 : Int) (v8 : Int) (σ : Mm) (e66 : Int → Option (Int × Mm)) (fu : Nat) : Int → Int → Option (Int × Mm) := itN (fun _ _ => none) (fun c66 => fX8_isSharing_66 v4 v6 v8 σ e66 c66) fu
def fX8_isSharing_56 (v4 : Int) (v6 : Int) (σ : Mm) (e56 : Int → Option (Int × Mm)) (c56 : Int → Int → Option (Int × Mm)) (v7 : Int) (v8 : Int) : Option (Int × Mm) := cr v8 (cr v4 ((if v8 < v4 then bindv 0 (fun v9_3 => lX8_isSharing_66 v4 v6 v8 σ (fun v7_4 => fX8_isSharing_161 c56 v4 v6 v7_4 v8 σ) 400 v7 v9_3) else e56 v7)))
def lX8_isSharing_56 (v4 : Int) (v6 : Int) (σ : Mm) (e56 : Int → Option (Int × Mm)) (fu : Nat) : Int → Int → Option (Int × Mm) := itN (fun _ _ => none) (fun c56 => fX8_isSharing_56 v4 v6 σ e56 c56) fu
def fX8_isSharing_42 (v2 : Int) (v3 : Int) (v4 : Int) (σ : Mm) : Option (Int × Mm) := bd2 (fX8_ringAt v2 v3 σ) (fun x_1 σ_1 => bindv x_1 (fun v6_2 => bindv 0 (fun v7_3 => bindv 0 (fun v8_4 => lX8_isSharing_56 v4 v6_2 σ_1 (fun v7_5 => fX8_isSharing_167 v7_5 σ_1) 400 v7_3 v8_4))))
def fX8_isSharing_17 (v2 : Int) (v3 : Int) (v4 : Int) (e17 : Mm → Option (Int × Mm)) (c17 : Int → Mm → Option (Int × Mm)) (v6 : Int) (σ : Mm) : Option (Int × Mm) := cr v6 (cr v4 ((if v6 < v4 then chk v6 10 (chk v6 10 (bindv (sto σ 14 (v6).toNat (σ 9 (v6).toNat)) (fun σ_3 => bindv (v6 + 1) (fun v6_4 => c17 v6_4 σ_3)))) else e17 σ)))
def lX8_isSharing_17 (v2 : Int) (v3 : Int) (v4 : Int) (e17 : Mm → Option (Int × Mm)) (fu : Nat) : Int → Mm → Option (Int × Mm) := itN (fun _ _ => none) (fun c17 => fX8_isSharing_17 v2 v3 v4 e17 c17) fu
def fX8_isSharing (v1 : Int) (v2 : Int) (v3 : Int) (σ : Mm) : Option (Int × Mm) := bd2 (fX8_ringAt v1 v3 σ) (fun x_1 σ_1 => bindv x_1 (fun v4_2 => bindv 0 (fun v6_3 => lX8_isSharing_17 v2 v3 v4_2 (fun σ_4 => fX8_isSharing_42 v2 v3 v4_2 σ_4) 400 v6_3 σ_1)))
abbrev rmX8_isWhole : Room := { frames := 5, cells := 0, slots := 0, locals := 123 }
def fX8_isWhole_116 (t0 : Int) (σ : Mm) : Option (Int) := chb t0 (some t0)
def fX8_isWhole_115 (σ : Mm) : Option (Int) := fX8_isWhole_116 0 σ
def fX8_isWhole_97 (v2 : Int) (σ : Mm) : Option (Int) := cr v2 ((if v2 = 0 then fX8_isWhole_115 σ else bd (fX8_isFair 420 σ) (fun x_2 => cr x_2 ((if x_2 = 0 then fX8_isWhole_115 σ else fX8_isWhole_116 1 σ)))))
def fX8_isWhole_91 (c25 : Int → Int → Option (Int)) (v1 : Int) (v2 : Int) (v3 : Int) (σ : Mm) : Option (Int) := bindv (v3 + 1) (fun v3_1 => c25 v2 v3_1)
def fX8_isWhole_84 (c40 : Int → Int → Option (Int)) (v1 : Int) (v3 : Int) (v4 : Int) (t0 : Int) (σ : Mm) : Option (Int) := bindv t0 (fun v2_1 => bindv (v4 + 1) (fun v4_2 => c40 v2_1 v4_2))
def fX8_isWhole_83 (c40 : Int → Int → Option (Int)) (v1 : Int) (v3 : Int) (v4 : Int) (σ : Mm) : Option (Int) := fX8_isWhole_84 c40 v1 v3 v4 0 σ
def fX8_isWhole_40 (v1 : Int) (v3 : Int) (σ : Mm) (e40 : Int → Option (Int)) (c40 : Int → Int → Option (Int)) (v2 : Int) (v4 : Int) : Option (Int) := chk (552 + v3) 700 (cr v4 (cr (σ 1 (552 + v3).toNat) ((if v4 < σ 1 (552 + v3).toNat then cr v2 ((if v2 = 0 then fX8_isWhole_83 c40 v1 v3 v4 σ else chk ((492 + (10 * v3)) + v4) 700 (cr (σ 1 ((492 + (10 * v3)) + v4).toNat) (cr v1 ((if σ 1 ((492 + (10 * v3)) + v4).toNat < v1 then fX8_isWhole_84 c40 v1 v3 v4 1 σ else fX8_isWhole_83 c40 v1 v3 v4 σ)))))) else e40 v2))))
def lX8_isWhole_40 (v1 : Int) (v3 : Int) (σ : Mm) (e40 : Int → Option (Int)) (fu : Nat) : Int → Int → Option (Int) := itN (fun _ _ => none) (fun c40 => fX8_isWhole_40 v1 v3 σ e40 c40) fu
def fX8_isWhole_25 (v1 : Int) (σ : Mm) (e25 : Int → Option (Int)) (c25 : Int → Int → Option (Int)) (v2 : Int) (v3 : Int) : Option (Int) := chk 559 700 (cr v3 (cr (σ 1 559) ((if v3 < σ 1 559 then bindv 0 (fun v4_3 => lX8_isWhole_40 v1 v3 σ (fun v2_4 => fX8_isWhole_91 c25 v1 v2_4 v3 σ) 400 v2 v4_3) else e25 v2))))
def lX8_isWhole_25 (v1 : Int) (σ : Mm) (e25 : Int → Option (Int)) (fu : Nat) : Int → Int → Option (Int) := itN (fun _ _ => none) (fun c25 => fX8_isWhole_25 v1 σ e25 c25) fu
def fX8_isWhole_22 (v1 : Int) (t0 : Int) (σ : Mm) : Option (Int) := bindv t0 (fun v2_1 => bindv 0 (fun v3_2 => lX8_isWhole_25 v1 σ (fun v2_3 => fX8_isWhole_97 v2_3 σ) 400 v2_1 v3_2))
def fX8_isWhole (σ : Mm) : Option (Int) := chk 558 700 (bindv (σ 1 558) (fun v1_1 => cr (σ 0 12) (cr v1_1 ((if v1_1 < σ 0 12 then fX8_isWhole_22 v1_1 0 σ else fX8_isWhole_22 v1_1 1 σ)))))
abbrev rmX8_leftAt : Room := { frames := 1, cells := 0, slots := 0, locals := 22 }
def fX8_leftAt_44 (v2 : Int) (σ : Mm) : Option (Int) := some v2
def fX8_leftAt_36 (c4 : Int → Int → Option (Int)) (v1 : Int) (v3 : Int) (t0 : Int) (t1 : Int) (σ : Mm) : Option (Int) := bindv (t0 + t1) (fun v2_1 => bindv (v3 + 1) (fun v3_2 => c4 v2_1 v3_2))
def fX8_leftAt_35 (c4 : Int → Int → Option (Int)) (v1 : Int) (v3 : Int) (t0 : Int) (σ : Mm) : Option (Int) := fX8_leftAt_36 c4 v1 v3 t0 0 σ
def fX8_leftAt_4 (v1 : Int) (σ : Mm) (e4 : Int → Option (Int)) (c4 : Int → Int → Option (Int)) (v2 : Int) (v3 : Int) : Option (Int) := bd (fX8_points σ) (fun x_1 => cr v3 (cr x_1 ((if v3 < x_1 then chk v3 24 (cr (σ 8 (v3).toNat) ((if 0 < σ 8 (v3).toNat then bd (fX8_isThere v3 v1 σ) (fun x_5 => cr x_5 ((if x_5 = 0 then fX8_leftAt_35 c4 v1 v3 v2 σ else fX8_leftAt_36 c4 v1 v3 v2 1 σ))) else fX8_leftAt_35 c4 v1 v3 v2 σ))) else e4 v2))))
def lX8_leftAt_4 (v1 : Int) (σ : Mm) (e4 : Int → Option (Int)) (fu : Nat) : Int → Int → Option (Int) := itN (fun _ _ => none) (fun c4 => fX8_leftAt_4 v1 σ e4 c4) fu
def fX8_leftAt (v1 : Int) (σ : Mm) : Option (Int) := bindv 0 (fun v2_1 => bindv 0 (fun v3_2 => lX8_leftAt_4 v1 σ (fun v2_3 => fX8_leftAt_44 v2_3 σ) 400 v2_1 v3_2))
abbrev rmX8_keep : Room := { frames := 8, cells := 0, slots := 0, locals := 197 }
def fX8_keep_37 (σ : Mm) : Option (Int × Mm) := some ((-4), σ)
def fX8_keep_12 (v1 : Int) (σ : Mm) (e12 : Option (Int × Mm)) (c12 : Int → Option (Int × Mm)) (v2 : Int) : Option (Int × Mm) := cr v2 (cr (σ 0 16) ((if σ 0 16 < v2 then e12 else bd (fX8_leftAt v2 σ) (fun x_3 => cr x_3 (cr v1 ((if v1 < x_3 then bindv (v2 + 1) (fun v2_6 => c12 v2_6) else some (v2, σ))))))))
def lX8_keep_12 (v1 : Int) (σ : Mm) (e12 : Option (Int × Mm)) (fu : Nat) : Int → Option (Int × Mm) := itN (fun _ => none) (fun c12 => fX8_keep_12 v1 σ e12 c12) fu
def fX8_keep (v1 : Int) (σ : Mm) : Option (Int × Mm) := cr v1 ((if v1 < 0 then some ((-1), σ) else bd (fX8_makes σ) (fun σ_2 => bindv 0 (fun v2_3 => lX8_keep_12 v1 σ_2 (fX8_keep_37 σ_2) 400 v2_3))))
abbrev rmX8_lay : Room := { frames := 1, cells := 0, slots := 0, locals := 25 }
def fX8_lay_99 (t1 : Int) (t2 : Int) (σ : Mm) : Option (Int × Mm) := chk t1 160 (bindv (sto σ 18 (t1).toNat t2) (fun σ_1 => some (1, σ_1)))
def fX8_lay (v1 : Int) (v2 : Int) (v3 : Int) (σ : Mm) : Option (Int × Mm) := cr v1 (bd (fX8_in v1 0 3 σ) (fun x_1 => cr x_1 ((if x_1 = 0 then some ((-1), σ) else chk v1 4 (cr (σ 16 (v1).toNat) ((if σ 16 (v1).toNat = (-4) then some ((-11), σ) else cr v2 (chk v1 4 (cr ((σ 17 (v1).toNat) - 1) (bd (fX8_in v2 0 ((σ 17 (v1).toNat) - 1) σ) (fun x_4 => cr x_4 ((if x_4 = 0 then some ((-12), σ) else chk v1 4 (cr (σ 16 (v1).toNat) ((if σ 16 (v1).toNat = 0 then fX8_lay_99 ((40 * v1) + v2) (shrI (shlI v3 24) 24) σ else chk v1 4 (cr (σ 16 (v1).toNat) ((if σ 16 (v1).toNat = 1 then fX8_lay_99 ((40 * v1) + v2) (shrI (shlI v3 16) 16) σ else fX8_lay_99 ((40 * v1) + v2) v3 σ)))))))))))))))))))
abbrev rmX8_left : Room := { frames := 9, cells := 0, slots := 0, locals := 218 }
def fX8_left_17 (t0 : Int) (σ : Mm) : Option (Int × Mm) := some (t0, σ)
def fX8_left (v1 : Int) (σ : Mm) : Option (Int × Mm) := bd2 (fX8_isStage v1 σ) (fun x_1 σ_1 => cr x_1 ((if x_1 = 0 then fX8_left_17 (-1) σ_1 else bd (fX8_leftAt v1 σ_1) (fun x_3 => fX8_left_17 x_3 σ_1))))
abbrev rmX8_lies : Room := { frames := 2, cells := 0, slots := 0, locals := 49 }
def fX8_lies_213 (t0 : Int) (σ : Mm) : Option (Int) := some t0
def fX8_lies_203 (v4 : Int) (σ : Mm) : Option (Int) := cr v4 ((if v4 = 0 then fX8_lies_213 0 σ else fX8_lies_213 1 σ))
def fX8_lies_197 (c6 : Int → Int → Option (Int)) (v1 : Int) (v2 : Int) (v3 : Int) (v4 : Int) (v5 : Int) (σ : Mm) : Option (Int) := bindv (v5 + 1) (fun v5_1 => c6 v4 v5_1)
def fX8_lies_195 (c6 : Int → Int → Option (Int)) (v1 : Int) (v2 : Int) (v3 : Int) (v5 : Int) (t0 : Int) (σ : Mm) : Option (Int) := bindv t0 (fun v4_1 => fX8_lies_197 c6 v1 v2 v3 v4_1 v5 σ)
def fX8_lies_185 (c6 : Int → Int → Option (Int)) (v1 : Int) (v2 : Int) (v3 : Int) (v4 : Int) (v5 : Int) (t0 : Int) (σ : Mm) : Option (Int) := cr t0 (cr v4 ((if t0 = v4 then fX8_lies_195 c6 v1 v2 v3 v5 0 σ else fX8_lies_195 c6 v1 v2 v3 v5 1 σ)))
def fX8_lies_89 (c6 : Int → Int → Option (Int)) (v1 : Int) (v2 : Int) (v3 : Int) (v4 : Int) (v5 : Int) (v6 : Int) (v7 : Int) (v8 : Int) (t0 : Int) (σ : Mm) : Option (Int) := bindv t0 (fun v9_1 => cr v8 (cr v9_1 ((if v8 = v9_1 then fX8_lies_197 c6 v1 v2 v3 v4 v5 σ else chk v6 700 (chk (24 + v6) 700 (chk v7 700 (chk (24 + v7) 700 (bd (fX8_cross (σ 1 (v6).toNat) (σ 1 (24 + v6).toNat) (σ 1 (v7).toNat) (σ 1 (24 + v7).toNat) v1 v2 σ) (fun x_4 => bindv x_4 (fun v10_5 => chk (24 + v7) 700 (chk (24 + v6) 700 (cr (σ 1 (24 + v7).toNat) (cr (σ 1 (24 + v6).toNat) ((if σ 1 (24 + v6).toNat < σ 1 (24 + v7).toNat then cr v10_5 ((if 0 < v10_5 then fX8_lies_185 c6 v1 v2 v3 v4 v5 1 σ else fX8_lies_185 c6 v1 v2 v3 v4 v5 0 σ)) else cr v10_5 ((if v10_5 < 0 then fX8_lies_185 c6 v1 v2 v3 v4 v5 1 σ else fX8_lies_185 c6 v1 v2 v3 v4 v5 0 σ)))))))))))))))))
def fX8_lies_68 (c6 : Int → Int → Option (Int)) (v1 : Int) (v2 : Int) (v3 : Int) (v4 : Int) (v5 : Int) (v6 : Int) (v7 : Int) (t0 : Int) (σ : Mm) : Option (Int) := bindv t0 (fun v8_1 => chk (24 + v7) 700 (cr (σ 1 (24 + v7).toNat) (cr v2 ((if v2 < σ 1 (24 + v7).toNat then fX8_lies_89 c6 v1 v2 v3 v4 v5 v6 v7 v8_1 1 σ else fX8_lies_89 c6 v1 v2 v3 v4 v5 v6 v7 v8_1 0 σ)))))
def fX8_lies_6 (v1 : Int) (v2 : Int) (v3 : Int) (σ : Mm) (e6 : Int → Option (Int)) (c6 : Int → Int → Option (Int)) (v4 : Int) (v5 : Int) : Option (Int) := cr v5 (cr v3 ((if v5 < v3 then chk v5 10 (bindv (σ 9 (v5).toNat) (fun v6_3 => chd (v5 + 1) v3 (chk ((v5 + 1) % v3) 10 (bindv (σ 9 ((v5 + 1) % v3).toNat) (fun v7_4 => bd (fX8_isOnPlace v1 v2 v6_3 v7_4 σ) (fun x_5 => cr x_5 ((if x_5 = 0 then chk (24 + v6_3) 700 (cr (σ 1 (24 + v6_3).toNat) (cr v2 ((if v2 < σ 1 (24 + v6_3).toNat then fX8_lies_68 c6 v1 v2 v3 v4 v5 v6_3 v7_4 1 σ else fX8_lies_68 c6 v1 v2 v3 v4 v5 v6_3 v7_4 0 σ)))) else some 2)))))))) else e6 v4)))
def lX8_lies_6 (v1 : Int) (v2 : Int) (v3 : Int) (σ : Mm) (e6 : Int → Option (Int)) (fu : Nat) : Int → Int → Option (Int) := itN (fun _ _ => none) (fun c6 => fX8_lies_6 v1 v2 v3 σ e6 c6) fu
def fX8_lies (v1 : Int) (v2 : Int) (v3 : Int) (σ : Mm) : Option (Int) := bindv 0 (fun v4_1 => bindv 0 (fun v5_2 => lX8_lies_6 v1 v2 v3 σ (fun v4_3 => fX8_lies_203 v4_3 σ) 400 v4_1 v5_2))
abbrev rmX8_limit : Room := { frames := 8, cells := 0, slots := 0, locals := 197 }
def fX8_limit_43 (v2 : Int) (σ : Mm) : Option (Int × Mm) := some (v2, σ)
def fX8_limit_12 (v1 : Int) (σ : Mm) (e12 : Int → Option (Int × Mm)) (c12 : Int → Option (Int × Mm)) (v2 : Int) : Option (Int × Mm) := cr v2 (cr (σ 0 16) ((if v2 < σ 0 16 then chk (v2 + 1) 25 (chk (σ 7 (v2 + 1).toNat) 24 (cr (σ 6 (σ 7 (v2 + 1).toNat).toNat) (cr v1 ((if v1 < σ 6 (σ 7 (v2 + 1).toNat).toNat then e12 v2 else bindv (v2 + 1) (fun v2_5 => c12 v2_5)))))) else e12 v2)))
def lX8_limit_12 (v1 : Int) (σ : Mm) (e12 : Int → Option (Int × Mm)) (fu : Nat) : Int → Option (Int × Mm) := itN (fun _ => none) (fun c12 => fX8_limit_12 v1 σ e12 c12) fu
def fX8_limit (v1 : Int) (σ : Mm) : Option (Int × Mm) := cr v1 ((if v1 < 0 then some ((-1), σ) else bd (fX8_makes σ) (fun σ_2 => bindv 0 (fun v2_3 => lX8_limit_12 v1 σ_2 (fun v2_4 => fX8_limit_43 v2_4 σ_2) 400 v2_3))))
abbrev rmX8_moves : Room := { frames := 5, cells := 0, slots := 0, locals := 123 }
def fX8_moves_32 (σ : Mm) : Option (Int × Mm) := some ((-1), σ)
def fX8_moves (v1 : Int) (v2 : Int) (v3 : Int) (σ : Mm) : Option (Int × Mm) := bd (fX8_isPoint v1 σ) (fun x_1 => cr x_1 ((if x_1 = 0 then fX8_moves_32 σ else cr v2 (bd (fX8_in v2 0 199 σ) (fun x_3 => cr x_3 ((if x_3 = 0 then fX8_moves_32 σ else cr v3 (bd (fX8_in v3 0 199 σ) (fun x_5 => cr x_5 ((if x_5 = 0 then fX8_moves_32 σ else chk v1 700 (bindv (σ 1 (v1).toNat) (fun v4_7 => chk (24 + v1) 700 (bindv (σ 1 (24 + v1).toNat) (fun v5_8 => chk v1 700 (bindv (sto σ 1 (v1).toNat v2) (fun σ_9 => chk (24 + v1) 700 (bindv (sto σ_9 1 (24 + v1).toNat v3) (fun σ_10 => bd (fX8_isFair 0 σ_10) (fun x_11 => cr x_11 ((if x_11 = 0 then chk v1 700 (bindv (sto σ_10 1 (v1).toNat v4_7) (fun σ_14 => chk (24 + v1) 700 (bindv (sto σ_14 1 (24 + v1).toNat v5_8) (fun σ_15 => some ((-2), σ_15))))) else bindv (sto σ_10 0 17 0) (fun σ_13 => some (1, σ_13))))))))))))))))))))))))
abbrev rmX8_move : Room := { frames := 6, cells := 0, slots := 0, locals := 148 }
def fX8_move (v1 : Int) (v2 : Int) (v3 : Int) (σ : Mm) : Option (Int × Mm) := bd2 (fX8_moves v1 v2 v3 σ) (fun x_1 σ_1 => some (x_1, σ_1))
abbrev rmX8_nameHere : Room := { frames := 1, cells := 0, slots := 0, locals := 21 }
def fX8_nameHere_117 (σ : Mm) : Option (Int) := some (-4)
def fX8_nameHere_105 (c2 : Int → Option (Int)) (v1 : Int) (v2 : Int) (σ : Mm) : Option (Int) := cr v2 ((if v2 = 0 then bindv (v1 + 1) (fun v1_2 => c2 v1_2) else some v1))
def fX8_nameHere_98 (c50 : Int → Int → Option (Int)) (v1 : Int) (v3 : Int) (t0 : Int) (σ : Mm) : Option (Int) := bindv t0 (fun v2_1 => bindv (v3 + 1) (fun v3_2 => c50 v2_1 v3_2))
def fX8_nameHere_50 (v1 : Int) (σ : Mm) (e50 : Int → Option (Int)) (c50 : Int → Int → Option (Int)) (v2 : Int) (v3 : Int) : Option (Int) := cr v2 ((if v2 = 0 then e50 v2 else cr v3 (cr ((σ 0 6) - (σ 0 7)) ((if v3 < (σ 0 6) - (σ 0 7) then bd (fX8_byteAt ((σ 0 7) + v3) σ) (fun x_4 => chk v1 4 (chk ((σ 3 (v1).toNat) + v3) 12 (cr x_4 (cr (σ 4 ((σ 3 (v1).toNat) + v3).toNat) ((if x_4 = σ 4 ((σ 3 (v1).toNat) + v3).toNat then fX8_nameHere_98 c50 v1 v3 1 σ else fX8_nameHere_98 c50 v1 v3 0 σ)))))) else e50 v2)))))
def lX8_nameHere_50 (v1 : Int) (σ : Mm) (e50 : Int → Option (Int)) (fu : Nat) : Int → Int → Option (Int) := itN (fun _ _ => none) (fun c50 => fX8_nameHere_50 v1 σ e50 c50) fu
def fX8_nameHere_47 (c2 : Int → Option (Int)) (v1 : Int) (t0 : Int) (σ : Mm) : Option (Int) := bindv t0 (fun v2_1 => bindv 0 (fun v3_2 => lX8_nameHere_50 v1 σ (fun v2_3 => fX8_nameHere_105 c2 v1 v2_3 σ) 400 v2_1 v3_2))
def fX8_nameHere_2 (σ : Mm) (e2 : Option (Int)) (c2 : Int → Option (Int)) (v1 : Int) : Option (Int) := cr v1 ((if v1 < 3 then cr (σ 0 8) ((if σ 0 8 = 1 then chk (v1 + 1) 4 (chk v1 4 (cr ((σ 0 6) - (σ 0 7)) (cr ((σ 3 (v1 + 1).toNat) - (σ 3 (v1).toNat)) ((if (σ 0 6) - (σ 0 7) = (σ 3 (v1 + 1).toNat) - (σ 3 (v1).toNat) then fX8_nameHere_47 c2 v1 1 σ else fX8_nameHere_47 c2 v1 0 σ))))) else e2)) else e2))
def lX8_nameHere_2 (σ : Mm) (e2 : Option (Int)) (fu : Nat) : Int → Option (Int) := itN (fun _ => none) (fun c2 => fX8_nameHere_2 σ e2 c2) fu
def fX8_nameHere (σ : Mm) : Option (Int) := bindv 0 (fun v1_1 => lX8_nameHere_2 σ (fX8_nameHere_117 σ) 400 v1_1)
abbrev rmX8_readsOn : Room := { frames := 1, cells := 0, slots := 0, locals := 25 }
def fX8_readsOn_269 (σ : Mm) : Option (Mm) := some σ
def fX8_readsOn_217 (σ : Mm) : Option (Mm) := bindv (sto σ 0 8 2) (fun σ_1 => cr ((σ_1 0 6) - (σ_1 0 7)) ((if 3 < (σ_1 0 6) - (σ_1 0 7) then bd (fX8_fails 1 σ_1) (fun σ_3 => fX8_readsOn_269 σ_3) else fX8_readsOn_269 σ_1)))
def fX8_readsOn_201 (c140 : Mm → Option (Mm)) (t1 : Int) (σ : Mm) : Option (Mm) := bindv (sto σ 0 9 t1) (fun σ_1 => bindv (sto σ_1 0 6 ((σ_1 0 6) + 1)) (fun σ_2 => c140 σ_2))
def fX8_readsOn_140 (e140 : Mm → Option (Mm)) (c140 : Mm → Option (Mm)) (σ : Mm) : Option (Mm) := bd (fX8_byteAt (σ 0 6) σ) (fun x_1 => cr x_1 (bd (fX8_in x_1 48 57 σ) (fun x_2 => cr x_2 ((if x_2 = 0 then e140 σ else cr ((σ 0 6) - (σ 0 7)) ((if (σ 0 6) - (σ 0 7) < 3 then bd (fX8_byteAt (σ 0 6) σ) (fun x_5 => fX8_readsOn_201 c140 (((10 * (σ 0 9)) + x_5) - 48) σ) else fX8_readsOn_201 c140 (σ 0 9) σ)))))))
def lX8_readsOn_140 (e140 : Mm → Option (Mm)) (fu : Nat) : Mm → Option (Mm) := itN (fun _ => none) (fun c140 => fX8_readsOn_140 e140 c140) fu
def fX8_readsOn_118 (σ : Mm) : Option (Mm) := bindv (sto σ 0 8 1) (fun σ_1 => fX8_readsOn_269 σ_1)
def fX8_readsOn_84 (e84 : Mm → Option (Mm)) (c84 : Mm → Option (Mm)) (σ : Mm) : Option (Mm) := bd (fX8_byteAt (σ 0 6) σ) (fun x_1 => cr x_1 (bd (fX8_in x_1 97 122 σ) (fun x_2 => cr x_2 ((if x_2 = 0 then e84 σ else bindv (sto σ 0 6 ((σ 0 6) + 1)) (fun σ_4 => c84 σ_4))))))
def lX8_readsOn_84 (e84 : Mm → Option (Mm)) (fu : Nat) : Mm → Option (Mm) := itN (fun _ => none) (fun c84 => fX8_readsOn_84 e84 c84) fu
def fX8_readsOn_34 (σ : Mm) : Option (Mm) := bindv (sto σ 0 7 (σ 0 6)) (fun σ_1 => bd (fX8_byteAt (σ_1 0 6) σ_1) (fun x_2 => bindv x_2 (fun v1_3 => bindv (sto σ_1 0 9 0) (fun σ_4 => cr v1_3 ((if v1_3 = (-4) then bindv (sto σ_4 0 8 0) (fun σ_16 => fX8_readsOn_269 σ_16) else cr v1_3 (bd (fX8_in v1_3 97 122 σ_4) (fun x_6 => cr x_6 ((if x_6 = 0 then cr v1_3 (bd (fX8_in v1_3 48 57 σ_4) (fun x_8 => cr x_8 ((if x_8 = 0 then bindv (sto σ_4 0 8 3) (fun σ_10 => bindv (sto σ_10 0 6 ((σ_10 0 6) + 1)) (fun σ_11 => cr v1_3 ((if v1_3 = 59 then fX8_readsOn_269 σ_11 else bd (fX8_fails 1 σ_11) (fun σ_13 => fX8_readsOn_269 σ_13))))) else lX8_readsOn_140 (fun σ_14 => fX8_readsOn_217 σ_14) 400 σ_4)))) else lX8_readsOn_84 (fun σ_15 => fX8_readsOn_118 σ_15) 400 σ_4))))))))))
def fX8_readsOn_8 (e8 : Mm → Option (Mm)) (c8 : Mm → Option (Mm)) (σ : Mm) : Option (Mm) := bd (fX8_byteAt (σ 0 6) σ) (fun x_1 => cr x_1 ((if x_1 = 32 then bindv (sto σ 0 6 ((σ 0 6) + 1)) (fun σ_3 => c8 σ_3) else e8 σ)))
def lX8_readsOn_8 (e8 : Mm → Option (Mm)) (fu : Nat) : Mm → Option (Mm) := itN (fun _ => none) (fun c8 => fX8_readsOn_8 e8 c8) fu
def fX8_readsOn (σ : Mm) : Option (Mm) := cr (σ 0 4) ((if 0 < σ 0 4 then some σ else lX8_readsOn_8 (fun σ_2 => fX8_readsOn_34 σ_2) 400 σ))
abbrev rmX8_numberRead : Room := { frames := 2, cells := 0, slots := 0, locals := 46 }
def fX8_numberRead_55 (t0 : Int) (σ : Mm) : Option (Int × Mm) := bindv t0 (fun v2_1 => bd (fX8_readsOn σ) (fun σ_2 => some (v2_1, σ_2)))
def fX8_numberRead_40 (σ : Mm) : Option (Int × Mm) := cr (σ 0 4) ((if σ 0 4 = 0 then fX8_numberRead_55 (σ 0 9) σ else fX8_numberRead_55 0 σ))
def fX8_numberRead_20 (v1 : Int) (σ : Mm) : Option (Int × Mm) := cr (σ 0 4) ((if σ 0 4 = 0 then cr (σ 0 9) (cr v1 ((if v1 < σ 0 9 then bd (fX8_fails 3 σ) (fun σ_4 => fX8_numberRead_40 σ_4) else fX8_numberRead_40 σ))) else fX8_numberRead_40 σ))
def fX8_numberRead (v1 : Int) (σ : Mm) : Option (Int × Mm) := cr (σ 0 4) ((if σ 0 4 = 0 then cr (σ 0 8) ((if σ 0 8 = 2 then fX8_numberRead_20 v1 σ else bd (fX8_fails 2 σ) (fun σ_3 => fX8_numberRead_20 v1 σ_3))) else fX8_numberRead_20 v1 σ))
abbrev rmX8_ofPoints : Room := { frames := 1, cells := 0, slots := 0, locals := 21 }
def fX8_ofPoints_104 (v2 : Int) (σ : Mm) : Option (Int) := some v2
def fX8_ofPoints_96 (c4 : Int → Int → Option (Int)) (v1 : Int) (v3 : Int) (t0 : Int) (t1 : Int) (σ : Mm) : Option (Int) := bindv (t0 + t1) (fun v2_1 => bindv (v3 + 1) (fun v3_2 => c4 v2_1 v3_2))
def fX8_ofPoints_83 (c4 : Int → Int → Option (Int)) (v1 : Int) (v2 : Int) (v3 : Int) (t0 : Int) (σ : Mm) : Option (Int) := bindv t0 (fun v4_1 => cr v4_1 ((if v4_1 = 0 then fX8_ofPoints_96 c4 v1 v3 v2 0 σ else fX8_ofPoints_96 c4 v1 v3 v2 1 σ)))
def fX8_ofPoints_38 (c4 : Int → Int → Option (Int)) (v1 : Int) (v2 : Int) (v3 : Int) (σ : Mm) : Option (Int) := fX8_ofPoints_83 c4 v1 v2 v3 0 σ
def fX8_ofPoints_4 (v1 : Int) (σ : Mm) (e4 : Int → Option (Int)) (c4 : Int → Int → Option (Int)) (v2 : Int) (v3 : Int) : Option (Int) := bd (fX8_points σ) (fun x_1 => cr v3 (cr x_1 ((if v3 < x_1 then cr v1 ((if v1 = 3 then chk v3 24 (cr (σ 8 (v3).toNat) ((if 0 < σ 8 (v3).toNat then bd (fX8_isNode v3 σ) (fun x_9 => cr x_9 ((if x_9 = 0 then fX8_ofPoints_38 c4 v1 v2 v3 σ else fX8_ofPoints_83 c4 v1 v2 v3 1 σ))) else fX8_ofPoints_38 c4 v1 v2 v3 σ))) else cr v1 ((if v1 = 6 then chk v3 24 (cr (σ 8 (v3).toNat) ((if 0 < σ 8 (v3).toNat then fX8_ofPoints_83 c4 v1 v2 v3 1 σ else fX8_ofPoints_83 c4 v1 v2 v3 0 σ))) else chk (48 + v3) 700 (cr (σ 1 (48 + v3).toNat) ((if σ 1 (48 + v3).toNat = 1 then fX8_ofPoints_83 c4 v1 v2 v3 1 σ else fX8_ofPoints_83 c4 v1 v2 v3 0 σ))))))) else e4 v2))))
def lX8_ofPoints_4 (v1 : Int) (σ : Mm) (e4 : Int → Option (Int)) (fu : Nat) : Int → Int → Option (Int) := itN (fun _ _ => none) (fun c4 => fX8_ofPoints_4 v1 σ e4 c4) fu
def fX8_ofPoints (v1 : Int) (σ : Mm) : Option (Int) := bindv 0 (fun v2_1 => bindv 0 (fun v3_2 => lX8_ofPoints_4 v1 σ (fun v2_3 => fX8_ofPoints_104 v2_3 σ) 400 v2_1 v3_2))
abbrev rmX8_pin : Room := { frames := 2, cells := 0, slots := 0, locals := 46 }
def fX8_pin_18 (σ : Mm) : Option (Int × Mm) := some ((-1), σ)
def fX8_pin (v1 : Int) (v2 : Int) (σ : Mm) : Option (Int × Mm) := bd (fX8_isPoint v1 σ) (fun x_1 => cr x_1 ((if x_1 = 0 then fX8_pin_18 σ else cr v2 (bd (fX8_in v2 0 1 σ) (fun x_3 => cr x_3 ((if x_3 = 0 then fX8_pin_18 σ else chk (48 + v1) 700 (bindv (σ 1 (48 + v1).toNat) (fun v3_5 => chk (48 + v1) 700 (bindv (sto σ 1 (48 + v1).toNat v2) (fun σ_6 => bindv (sto σ_6 0 17 0) (fun σ_7 => some (v3_5, σ_7)))))))))))))
abbrev rmX8_point : Room := { frames := 8, cells := 0, slots := 0, locals := 197 }
def fX8_point_124 (t0 : Int) (σ : Mm) : Option (Int × Mm) := some (t0, σ)
def fX8_point_97 (t0 : Int) (σ : Mm) : Option (Int × Mm) := some (t0, σ)
def fX8_point (v1 : Int) (v2 : Int) (σ : Mm) : Option (Int × Mm) := bd (fX8_isPoint v1 σ) (fun x_1 => cr x_1 ((if x_1 = 0 then some ((-1), σ) else bd (fX8_makes σ) (fun σ_3 => cr v2 ((if v2 = 0 then chk v1 700 (some (σ_3 1 (v1).toNat, σ_3)) else (if v2 = 1 then chk (24 + v1) 700 (some (σ_3 1 (24 + v1).toNat, σ_3)) else (if v2 = 2 then chk v1 24 (some (σ_3 8 (v1).toNat, σ_3)) else (if v2 = 3 then bd (fX8_isNode v1 σ_3) (fun x_9 => cr x_9 ((if x_9 = 0 then fX8_point_97 0 σ_3 else fX8_point_97 1 σ_3))) else (if v2 = 4 then bd (fX8_arcOfPoint v1 σ_3) (fun x_12 => some (x_12, σ_3)) else (if v2 = 5 then chk v1 24 (cr (σ_3 5 (v1).toNat) ((if σ_3 5 (v1).toNat = 0 then fX8_point_124 (-4) σ_3 else chk v1 24 (fX8_point_124 (σ_3 5 (v1).toNat) σ_3)))) else (if v2 = 6 then chk v1 24 (some (σ_3 6 (v1).toNat, σ_3)) else (if v2 = 7 then chk (48 + v1) 700 (some (σ_3 1 (48 + v1).toNat, σ_3)) else some ((-1), σ_3))))))))))))))
abbrev rmX8_read : Room := { frames := 6, cells := 0, slots := 0, locals := 148 }
def fX8_read_215 (v5 : Int) (v6 : Int) (σ : Mm) : Option (Int × Mm) := bindv (sto σ 0 30 v5) (fun σ_1 => some (v6, σ_1))
def fX8_read_209 (c56 : Int → Int → Int → Mm → Option (Int × Mm)) (v1 : Int) (v2 : Int) (v3 : Int) (v4 : Int) (v5 : Int) (v6 : Int) (v7 : Int) (σ : Mm) : Option (Int × Mm) := bindv (v7 + 1) (fun v7_1 => c56 v5 v6 v7_1 σ)
def fX8_read_130 (c56 : Int → Int → Int → Mm → Option (Int × Mm)) (v1 : Int) (v2 : Int) (v3 : Int) (v4 : Int) (v6 : Int) (v7 : Int) (v8 : Int) (t0 : Int) (σ : Mm) : Option (Int × Mm) := bindv t0 (fun v5_1 => cr v5_1 ((if v5_1 = 0 then chd v7 3 (cr (v7 % 3) ((if v7 % 3 = 2 then bindv ((40 * v1) + v8) (fun v10_4 => chk (v10_4 - 2) 160 (chk (v10_4 - 1) 160 (chk v10_4 160 (bd2 (fX8_moves (σ 18 (v10_4 - 2).toNat) (σ 18 (v10_4 - 1).toNat) (σ 18 (v10_4).toNat) σ) (fun x_5 σ_5 => cr x_5 ((if x_5 < 0 then bd (fX8_copies 560 0 σ_5) (fun σ_8 => bindv (sto σ_8 0 17 0) (fun σ_9 => some ((-20) - v6, σ_9))) else bindv (v6 + 1) (fun v6_7 => fX8_read_209 c56 v1 v2 v3 v4 v5_1 v6_7 v7 σ_5)))))))) else fX8_read_209 c56 v1 v2 v3 v4 v5_1 v6 v7 σ))) else fX8_read_209 c56 v1 v2 v3 v4 v5_1 v6 v7 σ)))
def fX8_read_56 (v1 : Int) (v2 : Int) (v3 : Int) (v4 : Int) (e56 : Int → Int → Mm → Option (Int × Mm)) (c56 : Int → Int → Int → Mm → Option (Int × Mm)) (v5 : Int) (v6 : Int) (v7 : Int) (σ : Mm) : Option (Int × Mm) := cr v7 (cr (3 * v4) ((if v7 < 3 * v4 then cr v5 ((if v5 = 0 then cr v3 (cr v7 (bindv (v3 + v7) (fun v8_4 => chk v1 4 (cr (σ 16 (v1).toNat) ((if σ 16 (v1).toNat = (-4) then fX8_read_130 c56 v1 v2 v3 v4 v6 v7 v8_4 1 σ else chk v1 4 (cr (σ 16 (v1).toNat) (cr v2 ((if σ 16 (v1).toNat = v2 then chk v1 4 (cr ((σ 17 (v1).toNat) - 1) (bd (fX8_in v8_4 0 ((σ 17 (v1).toNat) - 1) σ) (fun x_8 => cr x_8 ((if x_8 = 0 then fX8_read_130 c56 v1 v2 v3 v4 v6 v7 v8_4 2 σ else fX8_read_130 c56 v1 v2 v3 v4 v6 v7 v8_4 0 σ))))) else fX8_read_130 c56 v1 v2 v3 v4 v6 v7 v8_4 3 σ)))))))))) else e56 v5 v6 σ)) else e56 v5 v6 σ)))
def lX8_read_56 (v1 : Int) (v2 : Int) (v3 : Int) (v4 : Int) (e56 : Int → Int → Mm → Option (Int × Mm)) (fu : Nat) : Int → Int → Int → Mm → Option (Int × Mm) := itN (fun _ _ _ _ => none) (fun c56 => fX8_read_56 v1 v2 v3 v4 e56 c56) fu
def fX8_read_37 (σ : Mm) : Option (Int × Mm) := some ((-1), σ)
def fX8_read (v1 : Int) (v2 : Int) (v3 : Int) (v4 : Int) (σ : Mm) : Option (Int × Mm) := cr v1 (bd (fX8_in v1 0 3 σ) (fun x_1 => cr x_1 ((if x_1 = 0 then fX8_read_37 σ else cr v2 (bd (fX8_in v2 0 2 σ) (fun x_3 => cr x_3 ((if x_3 = 0 then fX8_read_37 σ else cr v4 (bd (fX8_in v4 0 13 σ) (fun x_5 => cr x_5 ((if x_5 = 0 then fX8_read_37 σ else bd (fX8_copies 0 560 σ) (fun σ_7 => bindv 0 (fun v5_8 => bindv 0 (fun v6_9 => bindv 0 (fun v7_10 => lX8_read_56 v1 v2 v3 v4 (fun v5_11 v6_12 σ_13 => fX8_read_215 v5_11 v6_12 σ_13) 400 v5_8 v6_9 v7_10 σ_7))))))))))))))))
abbrev rmX8_readCorner : Room := { frames := 2, cells := 0, slots := 0, locals := 46 }
def fX8_readCorner_158 (σ : Mm) : Option (Mm) := bd (fX8_readsOn σ) (fun σ_1 => some σ_1)
def fX8_readCorner_118 (v1 : Int) (v2 : Int) (σ : Mm) : Option (Mm) := cr (σ 0 4) ((if σ 0 4 = 0 then chk ((492 + (10 * v1)) + v2) 700 (bindv (sto σ 1 ((492 + (10 * v1)) + v2).toNat (σ 0 9)) (fun σ_2 => chk (552 + v1) 700 (chk (552 + v1) 700 (bindv (sto σ_2 1 (552 + v1).toNat ((σ_2 1 (552 + v1).toNat) + 1)) (fun σ_3 => fX8_readCorner_158 σ_3))))) else fX8_readCorner_158 σ))
def fX8_readCorner_112 (c73 : Int → Mm → Option (Mm)) (v1 : Int) (v2 : Int) (v3 : Int) (σ : Mm) : Option (Mm) := bindv (v3 + 1) (fun v3_1 => c73 v3_1 σ)
def fX8_readCorner_73 (v1 : Int) (v2 : Int) (e73 : Mm → Option (Mm)) (c73 : Int → Mm → Option (Mm)) (v3 : Int) (σ : Mm) : Option (Mm) := cr v3 (cr v2 ((if v3 < v2 then cr (σ 0 4) ((if σ 0 4 = 0 then chk ((492 + (10 * v1)) + v3) 700 (cr (σ 1 ((492 + (10 * v1)) + v3).toNat) (cr (σ 0 9) ((if σ 1 ((492 + (10 * v1)) + v3).toNat = σ 0 9 then bd (fX8_fails 4 σ) (fun σ_6 => fX8_readCorner_112 c73 v1 v2 v3 σ_6) else fX8_readCorner_112 c73 v1 v2 v3 σ)))) else e73 σ)) else e73 σ)))
def lX8_readCorner_73 (v1 : Int) (v2 : Int) (e73 : Mm → Option (Mm)) (fu : Nat) : Int → Mm → Option (Mm) := itN (fun _ _ => none) (fun c73 => fX8_readCorner_73 v1 v2 e73 c73) fu
def fX8_readCorner_71 (v1 : Int) (v2 : Int) (σ : Mm) : Option (Mm) := bindv 0 (fun v3_1 => lX8_readCorner_73 v1 v2 (fun σ_2 => fX8_readCorner_118 v1 v2 σ_2) 400 v3_1 σ)
def fX8_readCorner_50 (v1 : Int) (v2 : Int) (σ : Mm) : Option (Mm) := cr (σ 0 4) ((if σ 0 4 = 0 then cr (σ 0 9) ((if σ 0 9 < 24 then fX8_readCorner_71 v1 v2 σ else bd (fX8_fails 3 σ) (fun σ_3 => fX8_readCorner_71 v1 v2 σ_3))) else fX8_readCorner_71 v1 v2 σ))
def fX8_readCorner_30 (v1 : Int) (v2 : Int) (σ : Mm) : Option (Mm) := cr (σ 0 4) ((if σ 0 4 = 0 then cr (σ 0 8) ((if σ 0 8 = 2 then fX8_readCorner_50 v1 v2 σ else bd (fX8_fails 2 σ) (fun σ_3 => fX8_readCorner_50 v1 v2 σ_3))) else fX8_readCorner_50 v1 v2 σ))
def fX8_readCorner (v1 : Int) (σ : Mm) : Option (Mm) := chk (552 + v1) 700 (bindv (σ 1 (552 + v1).toNat) (fun v2_1 => cr (σ 0 8) ((if σ 0 8 = 2 then cr v2_1 ((if v2_1 = 10 then bd (fX8_fails 5 σ) (fun σ_4 => fX8_readCorner_30 v1 v2_1 σ_4) else fX8_readCorner_30 v1 v2_1 σ)) else fX8_readCorner_30 v1 v2_1 σ))))
abbrev rmX8_readPoint : Room := { frames := 3, cells := 0, slots := 0, locals := 68 }
def fX8_readPoint (σ : Mm) : Option (Mm) := chk 558 700 (bindv (σ 1 558) (fun v1_1 => cr v1_1 ((if v1_1 = 24 then bd (fX8_fails 5 σ) (fun σ_9 => some σ_9) else bd (fX8_readsOn σ) (fun σ_3 => bd2 (fX8_numberRead 199 σ_3) (fun x_4 σ_4 => chk (420 + v1_1) 700 (bindv (sto σ_4 1 (420 + v1_1).toNat x_4) (fun σ_5 => bd2 (fX8_numberRead 199 σ_5) (fun x_6 σ_6 => chk (444 + v1_1) 700 (bindv (sto σ_6 1 (444 + v1_1).toNat x_6) (fun σ_7 => chk 558 700 (chk 558 700 (bindv (sto σ_7 1 558 ((σ_7 1 558) + 1)) (fun σ_8 => some σ_8))))))))))))))
abbrev rmX8_readRing : Room := { frames := 3, cells := 0, slots := 0, locals := 69 }
def fX8_readRing_74 (σ : Mm) : Option (Mm) := some σ
def fX8_readRing_66 (c37 : Mm → Option (Mm)) (v1 : Int) (σ : Mm) : Option (Mm) := bd (fX8_readCorner v1 σ) (fun σ_1 => c37 σ_1)
def fX8_readRing_37 (v1 : Int) (e37 : Mm → Option (Mm)) (c37 : Mm → Option (Mm)) (σ : Mm) : Option (Mm) := cr (σ 0 4) ((if σ 0 4 = 0 then cr (σ 0 8) ((if σ 0 8 = 2 then fX8_readRing_66 c37 v1 σ else chk (552 + v1) 700 (cr (σ 1 (552 + v1).toNat) ((if σ 1 (552 + v1).toNat < 3 then fX8_readRing_66 c37 v1 σ else e37 σ))))) else e37 σ))
def lX8_readRing_37 (v1 : Int) (e37 : Mm → Option (Mm)) (fu : Nat) : Mm → Option (Mm) := itN (fun _ => none) (fun c37 => fX8_readRing_37 v1 e37 c37) fu
def fX8_readRing (σ : Mm) : Option (Mm) := chk 559 700 (bindv (σ 1 559) (fun v1_1 => cr v1_1 ((if v1_1 = 6 then bd (fX8_fails 5 σ) (fun σ_6 => some σ_6) else bd (fX8_readsOn σ) (fun σ_3 => chk 559 700 (chk 559 700 (bindv (sto σ_3 1 559 ((σ_3 1 559) + 1)) (fun σ_4 => lX8_readRing_37 v1_1 (fun σ_5 => fX8_readRing_74 σ_5) 400 σ_4))))))))
abbrev rmX8_readLine : Room := { frames := 4, cells := 0, slots := 0, locals := 90 }
def fX8_readLine_108 (σ : Mm) : Option (Mm) := bd (fX8_readsOn σ) (fun σ_1 => some σ_1)
def fX8_readLine_88 (σ : Mm) : Option (Mm) := cr (σ 0 4) ((if σ 0 4 = 0 then cr (σ 0 8) ((if σ 0 8 = 3 then fX8_readLine_108 σ else bd (fX8_fails 2 σ) (fun σ_3 => fX8_readLine_108 σ_3))) else fX8_readLine_108 σ))
def fX8_readLine_85 (t1 : Int) (σ : Mm) : Option (Mm) := bindv (sto σ 0 12 t1) (fun σ_1 => fX8_readLine_88 σ_1)
def fX8_readLine (σ : Mm) : Option (Mm) := bd (fX8_nameHere σ) (fun x_1 => bindv x_1 (fun v1_2 => cr v1_2 ((if v1_2 = (-4) then bd (fX8_fails 2 σ) (fun σ_14 => fX8_readLine_88 σ_14) else cr v1_2 ((if v1_2 = 0 then bd (fX8_readPoint σ) (fun σ_13 => fX8_readLine_88 σ_13) else cr v1_2 ((if v1_2 = 1 then bd (fX8_readRing σ) (fun σ_12 => fX8_readLine_88 σ_12) else bd (fX8_readsOn σ) (fun σ_6 => bd2 (fX8_numberRead 23 σ_6) (fun x_7 σ_7 => bindv x_7 (fun v2_8 => chk (468 + v2_8) 700 (bindv (sto σ_7 1 (468 + v2_8).toNat 1) (fun σ_9 => cr (v2_8 + 1) (cr (σ_9 0 12) ((if σ_9 0 12 < v2_8 + 1 then fX8_readLine_85 (v2_8 + 1) σ_9 else fX8_readLine_85 (σ_9 0 12) σ_9))))))))))))))))
abbrev rmX8_sharing : Room := { frames := 3, cells := 0, slots := 0, locals := 80 }
def fX8_sharing_45 (v3 : Int) (σ : Mm) : Option (Int × Mm) := some (v3, σ)
def fX8_sharing_37 (c5 : Int → Int → Mm → Option (Int × Mm)) (v1 : Int) (v2 : Int) (v4 : Int) (t0 : Int) (t1 : Int) (σ : Mm) : Option (Int × Mm) := bindv (t0 + t1) (fun v3_1 => bindv (v4 + 1) (fun v4_2 => c5 v3_1 v4_2 σ))
def fX8_sharing_36 (c5 : Int → Int → Mm → Option (Int × Mm)) (v1 : Int) (v2 : Int) (v4 : Int) (t0 : Int) (σ : Mm) : Option (Int × Mm) := fX8_sharing_37 c5 v1 v2 v4 t0 0 σ
def fX8_sharing_5 (v1 : Int) (v2 : Int) (e5 : Int → Mm → Option (Int × Mm)) (c5 : Int → Int → Mm → Option (Int × Mm)) (v3 : Int) (v4 : Int) (σ : Mm) : Option (Int × Mm) := bd (fX8_rings σ) (fun x_1 => cr v4 (cr x_1 ((if v4 < x_1 then cr v4 (cr v1 ((if v4 = v1 then fX8_sharing_36 c5 v1 v2 v4 v3 σ else bd2 (fX8_isSharing v1 v4 v2 σ) (fun x_6 σ_6 => cr x_6 ((if x_6 = 0 then fX8_sharing_36 c5 v1 v2 v4 v3 σ_6 else fX8_sharing_37 c5 v1 v2 v4 v3 1 σ_6)))))) else e5 v3 σ))))
def lX8_sharing_5 (v1 : Int) (v2 : Int) (e5 : Int → Mm → Option (Int × Mm)) (fu : Nat) : Int → Int → Mm → Option (Int × Mm) := itN (fun _ _ _ => none) (fun c5 => fX8_sharing_5 v1 v2 e5 c5) fu
def fX8_sharing (v1 : Int) (v2 : Int) (σ : Mm) : Option (Int × Mm) := bindv 0 (fun v3_1 => bindv 0 (fun v4_2 => lX8_sharing_5 v1 v2 (fun v3_3 σ_4 => fX8_sharing_45 v3_3 σ_4) 400 v3_1 v4_2 σ))
abbrev rmX8_ring : Room := { frames := 9, cells := 0, slots := 0, locals := 218 }
def fX8_ring_67 (t0 : Int) (σ : Mm) : Option (Int × Mm) := some (t0, σ)
def fX8_ring_28 (σ : Mm) : Option (Int × Mm) := some ((-1), σ)
def fX8_ring (v1 : Int) (v2 : Int) (v3 : Int) (σ : Mm) : Option (Int × Mm) := bd (fX8_isRing v1 σ) (fun x_1 => cr x_1 ((if x_1 = 0 then fX8_ring_28 σ else bd2 (fX8_isStage v2 σ) (fun x_3 σ_3 => cr x_3 ((if x_3 = 0 then fX8_ring_28 σ_3 else cr v3 (bd (fX8_in v3 0 2 σ_3) (fun x_5 => cr x_5 ((if x_5 = 0 then fX8_ring_28 σ_3 else bd2 (fX8_ringAt v1 v2 σ_3) (fun x_7 σ_7 => bindv x_7 (fun v4_8 => cr v3 ((if v3 = 0 then fX8_ring_67 v4_8 σ_7 else cr v3 ((if v3 = 1 then bd (fX8_ringArea v4_8 σ_7) (fun x_12 => fX8_ring_67 x_12 σ_7) else bd2 (fX8_sharing v1 v2 σ_7) (fun x_11 σ_11 => fX8_ring_67 x_11 σ_11)))))))))))))))))
abbrev rmX8_rule : Room := { frames := 8, cells := 0, slots := 0, locals := 197 }
def fX8_rule_67 (v1 : Int) (σ : Mm) : Option (Int × Mm) := bd (fX8_ofPoints v1 σ) (fun x_1 => some (x_1, σ))
def fX8_rule (v1 : Int) (σ : Mm) : Option (Int × Mm) := bd (fX8_makes σ) (fun σ_1 => cr v1 ((if v1 = 0 then bd (fX8_points σ_1) (fun x_4 => some (x_4, σ_1)) else (if v1 = 1 then bd (fX8_rings σ_1) (fun x_6 => some (x_6, σ_1)) else (if v1 = 2 then bd (fX8_edges σ_1) (fun x_8 => some (x_8, σ_1)) else (if v1 = 3 then fX8_rule_67 v1 σ_1 else (if v1 = 4 then some (σ_1 0 24, σ_1) else (if v1 = 5 then some (σ_1 0 16, σ_1) else (if v1 = 6 then fX8_rule_67 v1 σ_1 else (if v1 = 7 then fX8_rule_67 v1 σ_1 else some ((-1), σ_1)))))))))))
abbrev rmX8_shake : Room := { frames := 6, cells := 0, slots := 0, locals := 148 }
def fX8_shake_131 (v4 : Int) (σ : Mm) : Option (Int × Mm) := some (v4, σ)
def fX8_shake_122 (c32 : Int → Int → Int → Mm → Option (Int × Mm)) (v2 : Int) (v3 : Int) (v5 : Int) (t0 : Int) (t1 : Int) (σ : Mm) : Option (Int × Mm) := bindv (t0 + t1) (fun v4_1 => bindv (v5 + 1) (fun v5_2 => c32 v3 v4_1 v5_2 σ))
def fX8_shake_32 (v2 : Int) (e32 : Int → Mm → Option (Int × Mm)) (c32 : Int → Int → Int → Mm → Option (Int × Mm)) (v3 : Int) (v4 : Int) (v5 : Int) (σ : Mm) : Option (Int × Mm) := cr v5 (cr v2 ((if v5 < v2 then bindv ((v3 * 1103515245) + 12345) (fun v3_3 => bindv (andI (shrI v3_3 16) 32767) (fun v6_4 => bd (fX8_points σ) (fun x_5 => chd v6_4 x_5 (bindv (v6_4 % x_5) (fun v7_6 => chk v7_6 700 (chd v6_4 32 (chd (v6_4 / 32) 5 (chk (24 + v7_6) 700 (chd v6_4 256 (chd (v6_4 / 256) 5 (bd2 (fX8_moves v7_6 (((σ 1 (v7_6).toNat) + ((v6_4 / 32) % 5)) - 2) (((σ 1 (24 + v7_6).toNat) + ((v6_4 / 256) % 5)) - 2) σ) (fun x_7 σ_7 => cr x_7 ((if x_7 = 1 then fX8_shake_122 c32 v2 v3_3 v5 v4 1 σ_7 else fX8_shake_122 c32 v2 v3_3 v5 v4 0 σ_7)))))))))))))) else e32 v4 σ)))
def lX8_shake_32 (v2 : Int) (e32 : Int → Mm → Option (Int × Mm)) (fu : Nat) : Int → Int → Int → Mm → Option (Int × Mm) := itN (fun _ _ _ _ => none) (fun c32 => fX8_shake_32 v2 e32 c32) fu
def fX8_shake (v1 : Int) (v2 : Int) (σ : Mm) : Option (Int × Mm) := cr v2 (bd (fX8_in v2 1 40 σ) (fun x_1 => cr x_1 ((if x_1 = 0 then some ((-1), σ) else bd (fX8_points σ) (fun x_3 => cr x_3 ((if x_3 = 0 then some ((-2), σ) else bindv v1 (fun v3_5 => bindv 0 (fun v4_6 => bindv 0 (fun v5_7 => lX8_shake_32 v2 (fun v4_8 σ_9 => fX8_shake_131 v4_8 σ_9) 400 v3_5 v4_6 v5_7 σ))))))))))
abbrev rmX8_sheet : Room := { frames := 1, cells := 0, slots := 0, locals := 25 }
def fX8_sheet_82 (σ : Mm) : Option (Int × Mm) := some (1, σ)
def fX8_sheet_56 (v1 : Int) (e56 : Mm → Option (Int × Mm)) (c56 : Int → Mm → Option (Int × Mm)) (v4 : Int) (σ : Mm) : Option (Int × Mm) := cr v4 ((if v4 < 40 then chk ((40 * v1) + v4) 160 (bindv (sto σ 18 ((40 * v1) + v4).toNat 0) (fun σ_2 => bindv (v4 + 1) (fun v4_3 => c56 v4_3 σ_2))) else e56 σ))
def lX8_sheet_56 (v1 : Int) (e56 : Mm → Option (Int × Mm)) (fu : Nat) : Int → Mm → Option (Int × Mm) := itN (fun _ _ => none) (fun c56 => fX8_sheet_56 v1 e56 c56) fu
def fX8_sheet_30 (σ : Mm) : Option (Int × Mm) := some ((-1), σ)
def fX8_sheet (v1 : Int) (v2 : Int) (v3 : Int) (σ : Mm) : Option (Int × Mm) := cr v1 (bd (fX8_in v1 0 3 σ) (fun x_1 => cr x_1 ((if x_1 = 0 then fX8_sheet_30 σ else cr v2 (bd (fX8_in v2 0 2 σ) (fun x_3 => cr x_3 ((if x_3 = 0 then fX8_sheet_30 σ else cr v3 ((if 40 < v3 then fX8_sheet_30 σ else cr v3 ((if v3 < 0 then some ((-14), σ) else chk v1 4 (bindv (sto σ 16 (v1).toNat v2) (fun σ_7 => chk v1 4 (bindv (sto σ_7 17 (v1).toNat v3) (fun σ_8 => bindv 0 (fun v4_9 => lX8_sheet_56 v1 (fun σ_10 => fX8_sheet_82 σ_10) 400 v4_9 σ_8)))))))))))))))))
abbrev rmX8_size : Room := { frames := 9, cells := 0, slots := 0, locals := 218 }
def fX8_size_46 (t0 : Int) (σ : Mm) : Option (Int × Mm) := some (t0, σ)
def fX8_size_35 (σ : Mm) : Option (Int × Mm) := fX8_size_46 (-4) σ
def fX8_size_16 (σ : Mm) : Option (Int × Mm) := some ((-1), σ)
def fX8_size (v1 : Int) (v2 : Int) (σ : Mm) : Option (Int × Mm) := bd (fX8_isPoint v1 σ) (fun x_1 => cr x_1 ((if x_1 = 0 then fX8_size_16 σ else bd2 (fX8_isStage v2 σ) (fun x_3 σ_3 => cr x_3 ((if x_3 = 0 then fX8_size_16 σ_3 else bd (fX8_isNode v1 σ_3) (fun x_5 => cr x_5 ((if x_5 = 0 then bd (fX8_isThere v1 v2 σ_3) (fun x_7 => cr x_7 ((if x_7 = 0 then fX8_size_35 σ_3 else bd2 (fX8_sizeOf v1 v2 σ_3) (fun x_9 σ_9 => fX8_size_46 x_9 σ_9)))) else fX8_size_35 σ_3)))))))))
abbrev rmX8_store : Room := { frames := 1, cells := 0, slots := 0, locals := 25 }
def fX8_store_26 (v1 : Int) (t0 : Int) (σ : Mm) : Option (Int × Mm) := bindv t0 (fun v2_1 => bd (fX8_copies 0 ((140 * v1) + 140) σ) (fun σ_2 => chb 1 (chk v1 2 (bindv (sto σ_2 15 (v1).toNat 1) (fun σ_3 => some (v2_1, σ_3))))))
def fX8_store (v1 : Int) (σ : Mm) : Option (Int × Mm) := cr v1 (bd (fX8_in v1 0 1 σ) (fun x_1 => cr x_1 ((if x_1 = 0 then some ((-1), σ) else chk v1 2 (cr (σ 15 (v1).toNat) ((if σ 15 (v1).toNat = 0 then fX8_store_26 v1 0 σ else fX8_store_26 v1 1 σ)))))))
abbrev rmX8_text : Room := { frames := 6, cells := 0, slots := 0, locals := 147 }
def fX8_text_91 (v1 : Int) (σ : Mm) : Option (Int × Mm) := bindv (sto σ 0 2 0) (fun σ_1 => bindv (sto σ_1 0 3 (σ_1 0 4)) (fun σ_2 => cr (σ_2 0 4) ((if 0 < σ_2 0 4 then some ((-10) - (σ_2 0 5), σ_2) else bd (fX8_copies 420 0 σ_2) (fun σ_4 => bindv (sto σ_4 0 17 0) (fun σ_5 => chb 0 (chk 0 2 (bindv (sto σ_5 15 0 0) (fun σ_6 => chb 0 (chk 1 2 (bindv (sto σ_6 15 1 0) (fun σ_7 => some (v1, σ_7)))))))))))))
def fX8_text_71 (v1 : Int) (σ : Mm) : Option (Int × Mm) := cr (σ 0 4) ((if σ 0 4 = 0 then bd (fX8_isWhole σ) (fun x_2 => cr x_2 ((if x_2 = 0 then bd (fX8_fails 6 σ) (fun σ_4 => fX8_text_91 v1 σ_4) else fX8_text_91 v1 σ))) else fX8_text_91 v1 σ))
def fX8_text_47 (e47 : Int → Mm → Option (Int × Mm)) (c47 : Int → Mm → Option (Int × Mm)) (v1 : Int) (σ : Mm) : Option (Int × Mm) := cr (σ 0 4) ((if σ 0 4 = 0 then cr (σ 0 8) ((if σ 0 8 = 0 then e47 v1 σ else bd (fX8_readLine σ) (fun σ_3 => bindv (v1 + 1) (fun v1_4 => c47 v1_4 σ_3)))) else e47 v1 σ))
def lX8_text_47 (e47 : Int → Mm → Option (Int × Mm)) (fu : Nat) : Int → Mm → Option (Int × Mm) := itN (fun _ _ => none) (fun c47 => fX8_text_47 e47 c47) fu
def fX8_text_43 (v1 : Int) (σ : Mm) : Option (Int × Mm) := bd (fX8_readsOn σ) (fun σ_1 => lX8_text_47 (fun v1_2 σ_3 => fX8_text_71 v1_2 σ_3) 400 v1 σ_1)
def fX8_text_19 (v1 : Int) (e19 : Mm → Option (Int × Mm)) (c19 : Int → Mm → Option (Int × Mm)) (v2 : Int) (σ : Mm) : Option (Int × Mm) := cr v2 ((if v2 < 140 then chk (420 + v2) 700 (bindv (sto σ 1 (420 + v2).toNat 0) (fun σ_2 => bindv (v2 + 1) (fun v2_3 => c19 v2_3 σ_2))) else e19 σ))
def lX8_text_19 (v1 : Int) (e19 : Mm → Option (Int × Mm)) (fu : Nat) : Int → Mm → Option (Int × Mm) := itN (fun _ _ => none) (fun c19 => fX8_text_19 v1 e19 c19) fu
def fX8_text (σ : Mm) : Option (Int × Mm) := bindv (sto σ 0 4 0) (fun σ_1 => bindv (sto σ_1 0 6 0) (fun σ_2 => bindv (sto σ_2 0 12 0) (fun σ_3 => bindv 0 (fun v1_4 => bindv 0 (fun v2_5 => lX8_text_19 v1_4 (fun σ_6 => fX8_text_43 v1_4 σ_6) 400 v2_5 σ_3)))))
abbrev rmX8_torn : Room := { frames := 0, cells := 0, slots := 0, locals := 0 }
def fX8_torn (σ : Mm) : Option (Int) := some (σ 0 30)
abbrev rmX8_why : Room := { frames := 9, cells := 0, slots := 0, locals := 218 }
def fX8_why_26 (t0 : Int) (σ : Mm) : Option (Int × Mm) := some (t0, σ)
def fX8_why_25 (σ : Mm) : Option (Int × Mm) := fX8_why_26 (-1) σ
def fX8_why (v1 : Int) (v2 : Int) (σ : Mm) : Option (Int × Mm) := bd (fX8_isPoint v1 σ) (fun x_1 => cr x_1 ((if x_1 = 0 then fX8_why_25 σ else bd2 (fX8_isStage v2 σ) (fun x_3 σ_3 => cr x_3 ((if x_3 = 0 then fX8_why_25 σ_3 else bd2 (fX8_whyNot v1 v2 σ_3) (fun x_5 σ_5 => fX8_why_26 x_5 σ_5)))))))
abbrev rmX8_within : Room := { frames := 9, cells := 0, slots := 0, locals := 218 }
def fX8_within_126 (t0 : Int) (σ : Mm) : Option (Int × Mm) := some (t0, σ)
def fX8_within_114 (v4 : Int) (v5 : Int) (σ : Mm) : Option (Int × Mm) := cr v5 ((if v5 = 0 then fX8_within_126 v4 σ else fX8_within_126 (-2) σ))
def fX8_within_106 (c44 : Int → Int → Int → Mm → Option (Int × Mm)) (v1 : Int) (v2 : Int) (v3 : Int) (v5 : Int) (v6 : Int) (t0 : Int) (σ : Mm) : Option (Int × Mm) := bindv t0 (fun v4_1 => bindv (v6 + 1) (fun v6_2 => c44 v4_1 v5 v6_2 σ))
def fX8_within_104 (c44 : Int → Int → Int → Mm → Option (Int × Mm)) (v1 : Int) (v2 : Int) (v3 : Int) (v4 : Int) (v5 : Int) (v6 : Int) (σ : Mm) : Option (Int × Mm) := fX8_within_106 c44 v1 v2 v3 v5 v6 v4 σ
def fX8_within_84 (c44 : Int → Int → Int → Mm → Option (Int × Mm)) (v1 : Int) (v2 : Int) (v3 : Int) (v4 : Int) (v6 : Int) (v7 : Int) (t0 : Int) (σ : Mm) : Option (Int × Mm) := bindv t0 (fun v5_1 => cr v7 ((if v7 = 1 then cr v4 ((if v4 = (-4) then fX8_within_106 c44 v1 v2 v3 v5_1 v6 v6 σ else fX8_within_104 c44 v1 v2 v3 v4 v5_1 v6 σ)) else fX8_within_104 c44 v1 v2 v3 v4 v5_1 v6 σ)))
def fX8_within_79 (c44 : Int → Int → Int → Mm → Option (Int × Mm)) (v1 : Int) (v2 : Int) (v3 : Int) (v4 : Int) (v6 : Int) (v7 : Int) (σ : Mm) : Option (Int × Mm) := fX8_within_84 c44 v1 v2 v3 v4 v6 v7 1 σ
def fX8_within_44 (v1 : Int) (v2 : Int) (v3 : Int) (e44 : Int → Int → Mm → Option (Int × Mm)) (c44 : Int → Int → Int → Mm → Option (Int × Mm)) (v4 : Int) (v5 : Int) (v6 : Int) (σ : Mm) : Option (Int × Mm) := bd (fX8_rings σ) (fun x_1 => cr v6 (cr x_1 ((if v6 < x_1 then bd2 (fX8_ringAt v6 v3 σ) (fun x_4 σ_4 => bd (fX8_lies v1 v2 x_4 σ_4) (fun x_5 => bindv x_5 (fun v7_6 => cr v5 ((if v5 = 0 then cr v7_6 ((if v7_6 = 2 then fX8_within_79 c44 v1 v2 v3 v4 v6 v7_6 σ_4 else fX8_within_84 c44 v1 v2 v3 v4 v6 v7_6 0 σ_4)) else fX8_within_79 c44 v1 v2 v3 v4 v6 v7_6 σ_4))))) else e44 v4 v5 σ))))
def lX8_within_44 (v1 : Int) (v2 : Int) (v3 : Int) (e44 : Int → Int → Mm → Option (Int × Mm)) (fu : Nat) : Int → Int → Int → Mm → Option (Int × Mm) := itN (fun _ _ _ _ => none) (fun c44 => fX8_within_44 v1 v2 v3 e44 c44) fu
def fX8_within_32 (σ : Mm) : Option (Int × Mm) := some ((-1), σ)
def fX8_within (v1 : Int) (v2 : Int) (v3 : Int) (σ : Mm) : Option (Int × Mm) := cr v1 (bd (fX8_in v1 0 199 σ) (fun x_1 => cr x_1 ((if x_1 = 0 then fX8_within_32 σ else cr v2 (bd (fX8_in v2 0 199 σ) (fun x_3 => cr x_3 ((if x_3 = 0 then fX8_within_32 σ else bd2 (fX8_isStage v3 σ) (fun x_5 σ_5 => cr x_5 ((if x_5 = 0 then fX8_within_32 σ_5 else bindv (-4) (fun v4_7 => bindv 0 (fun v5_8 => bindv 0 (fun v6_9 => lX8_within_44 v1 v2 v3 (fun v4_10 v5_11 σ_12 => fX8_within_114 v4_10 v5_11 σ_12) 400 v4_7 v5_8 v6_9 σ_5))))))))))))))
