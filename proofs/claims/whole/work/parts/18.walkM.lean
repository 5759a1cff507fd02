section
variable {l : Launch} {D : va_G} {ac : Nat → ClassId} {q : Nat → Nat} {p : Program} {e : Env} {s : State} {m : MethodId} {args : Array Value} {below : List Frame} {meth : Method} {c : Code} {ls : Array Slot}
theorem dX8_readsOn_0 : decode cX8_readsOn 0 = .ok (.aload_n 0, 1) := by decide +kernel
theorem dX8_readsOn_1 : decode cX8_readsOn 1 = .ok (.getfield 75, 3) := by decide +kernel
theorem dX8_readsOn_4 : decode cX8_readsOn 4 = .ok (.ifCond .le 4, 3) := by decide +kernel
theorem dX8_readsOn_7 : decode cX8_readsOn 7 = .ok (.return_, 1) := by decide +kernel
theorem dX8_readsOn_8 : decode cX8_readsOn 8 = .ok (.aload_n 0, 1) := by decide +kernel
theorem dX8_readsOn_9 : decode cX8_readsOn 9 = .ok (.aload_n 0, 1) := by decide +kernel
theorem dX8_readsOn_10 : decode cX8_readsOn 10 = .ok (.getfield 87, 3) := by decide +kernel
theorem dX8_readsOn_13 : decode cX8_readsOn 13 = .ok (.invokevirtual 90, 3) := by decide +kernel
theorem dX8_readsOn_16 : decode cX8_readsOn 16 = .ok (.bipush 32, 2) := by decide +kernel
theorem dX8_readsOn_18 : decode cX8_readsOn 18 = .ok (.if_icmp .ne 16, 3) := by decide +kernel
theorem dX8_readsOn_21 : decode cX8_readsOn 21 = .ok (.aload_n 0, 1) := by decide +kernel
theorem dX8_readsOn_22 : decode cX8_readsOn 22 = .ok (.dup, 1) := by decide +kernel
theorem dX8_readsOn_23 : decode cX8_readsOn 23 = .ok (.getfield 87, 3) := by decide +kernel
theorem dX8_readsOn_26 : decode cX8_readsOn 26 = .ok (.iconst 1, 1) := by decide +kernel
theorem dX8_readsOn_27 : decode cX8_readsOn 27 = .ok (.iadd, 1) := by decide +kernel
theorem dX8_readsOn_28 : decode cX8_readsOn 28 = .ok (.putfield 87, 3) := by decide +kernel
theorem dX8_readsOn_31 : decode cX8_readsOn 31 = .ok (.goto (-23), 3) := by decide +kernel
theorem dX8_readsOn_34 : decode cX8_readsOn 34 = .ok (.aload_n 0, 1) := by decide +kernel
theorem dX8_readsOn_35 : decode cX8_readsOn 35 = .ok (.aload_n 0, 1) := by decide +kernel
theorem dX8_readsOn_36 : decode cX8_readsOn 36 = .ok (.getfield 87, 3) := by decide +kernel
theorem dX8_readsOn_39 : decode cX8_readsOn 39 = .ok (.putfield 78, 3) := by decide +kernel
theorem dX8_readsOn_42 : decode cX8_readsOn 42 = .ok (.aload_n 0, 1) := by decide +kernel
theorem dX8_readsOn_43 : decode cX8_readsOn 43 = .ok (.aload_n 0, 1) := by decide +kernel
theorem dX8_readsOn_44 : decode cX8_readsOn 44 = .ok (.getfield 87, 3) := by decide +kernel
theorem dX8_readsOn_47 : decode cX8_readsOn 47 = .ok (.invokevirtual 90, 3) := by decide +kernel
theorem dX8_readsOn_50 : decode cX8_readsOn 50 = .ok (.istore_n 1, 1) := by decide +kernel
theorem dX8_readsOn_51 : decode cX8_readsOn 51 = .ok (.aload_n 0, 1) := by decide +kernel
theorem dX8_readsOn_52 : decode cX8_readsOn 52 = .ok (.iconst 0, 1) := by decide +kernel
theorem dX8_readsOn_53 : decode cX8_readsOn 53 = .ok (.putfield 94, 3) := by decide +kernel
theorem dX8_readsOn_56 : decode cX8_readsOn 56 = .ok (.iload_n 1, 1) := by decide +kernel
theorem dX8_readsOn_57 : decode cX8_readsOn 57 = .ok (.bipush (-4), 2) := by decide +kernel
theorem dX8_readsOn_59 : decode cX8_readsOn 59 = .ok (.if_icmp .ne 11, 3) := by decide +kernel
theorem dX8_readsOn_62 : decode cX8_readsOn 62 = .ok (.aload_n 0, 1) := by decide +kernel
theorem dX8_readsOn_63 : decode cX8_readsOn 63 = .ok (.iconst 0, 1) := by decide +kernel
theorem dX8_readsOn_64 : decode cX8_readsOn 64 = .ok (.putfield 84, 3) := by decide +kernel
theorem dX8_readsOn_67 : decode cX8_readsOn 67 = .ok (.goto 202, 3) := by decide +kernel
theorem dX8_readsOn_70 : decode cX8_readsOn 70 = .ok (.iload_n 1, 1) := by decide +kernel
theorem dX8_readsOn_71 : decode cX8_readsOn 71 = .ok (.i2l, 1) := by decide +kernel
theorem dX8_readsOn_72 : decode cX8_readsOn 72 = .ok (.ldc2_w 97, 3) := by decide +kernel
theorem dX8_readsOn_75 : decode cX8_readsOn 75 = .ok (.ldc2_w 99, 3) := by decide +kernel
theorem dX8_readsOn_78 : decode cX8_readsOn 78 = .ok (.invokestatic 67, 3) := by decide +kernel
theorem dX8_readsOn_81 : decode cX8_readsOn 81 = .ok (.ifCond .eq 45, 3) := by decide +kernel
theorem dX8_readsOn_84 : decode cX8_readsOn 84 = .ok (.aload_n 0, 1) := by decide +kernel
theorem dX8_readsOn_85 : decode cX8_readsOn 85 = .ok (.aload_n 0, 1) := by decide +kernel
theorem dX8_readsOn_86 : decode cX8_readsOn 86 = .ok (.getfield 87, 3) := by decide +kernel
theorem dX8_readsOn_89 : decode cX8_readsOn 89 = .ok (.invokevirtual 90, 3) := by decide +kernel
theorem dX8_readsOn_92 : decode cX8_readsOn 92 = .ok (.i2l, 1) := by decide +kernel
theorem dX8_readsOn_93 : decode cX8_readsOn 93 = .ok (.ldc2_w 97, 3) := by decide +kernel
theorem dX8_readsOn_96 : decode cX8_readsOn 96 = .ok (.ldc2_w 99, 3) := by decide +kernel
theorem dX8_readsOn_99 : decode cX8_readsOn 99 = .ok (.invokestatic 67, 3) := by decide +kernel
theorem dX8_readsOn_102 : decode cX8_readsOn 102 = .ok (.ifCond .eq 16, 3) := by decide +kernel
theorem dX8_readsOn_105 : decode cX8_readsOn 105 = .ok (.aload_n 0, 1) := by decide +kernel
theorem dX8_readsOn_106 : decode cX8_readsOn 106 = .ok (.dup, 1) := by decide +kernel
theorem dX8_readsOn_107 : decode cX8_readsOn 107 = .ok (.getfield 87, 3) := by decide +kernel
theorem dX8_readsOn_110 : decode cX8_readsOn 110 = .ok (.iconst 1, 1) := by decide +kernel
theorem dX8_readsOn_111 : decode cX8_readsOn 111 = .ok (.iadd, 1) := by decide +kernel
theorem dX8_readsOn_112 : decode cX8_readsOn 112 = .ok (.putfield 87, 3) := by decide +kernel
theorem dX8_readsOn_115 : decode cX8_readsOn 115 = .ok (.goto (-31), 3) := by decide +kernel
theorem dX8_readsOn_118 : decode cX8_readsOn 118 = .ok (.aload_n 0, 1) := by decide +kernel
theorem dX8_readsOn_119 : decode cX8_readsOn 119 = .ok (.iconst 1, 1) := by decide +kernel
theorem dX8_readsOn_120 : decode cX8_readsOn 120 = .ok (.putfield 84, 3) := by decide +kernel
theorem dX8_readsOn_123 : decode cX8_readsOn 123 = .ok (.goto 146, 3) := by decide +kernel
theorem dX8_readsOn_126 : decode cX8_readsOn 126 = .ok (.iload_n 1, 1) := by decide +kernel
theorem dX8_readsOn_127 : decode cX8_readsOn 127 = .ok (.i2l, 1) := by decide +kernel
theorem dX8_readsOn_128 : decode cX8_readsOn 128 = .ok (.ldc2_w 101, 3) := by decide +kernel
theorem dX8_readsOn_131 : decode cX8_readsOn 131 = .ok (.ldc2_w 103, 3) := by decide +kernel
theorem dX8_readsOn_134 : decode cX8_readsOn 134 = .ok (.invokestatic 67, 3) := by decide +kernel
theorem dX8_readsOn_137 : decode cX8_readsOn 137 = .ok (.ifCond .eq 106, 3) := by decide +kernel
theorem dX8_readsOn_140 : decode cX8_readsOn 140 = .ok (.aload_n 0, 1) := by decide +kernel
theorem dX8_readsOn_141 : decode cX8_readsOn 141 = .ok (.aload_n 0, 1) := by decide +kernel
theorem dX8_readsOn_142 : decode cX8_readsOn 142 = .ok (.getfield 87, 3) := by decide +kernel
theorem dX8_readsOn_145 : decode cX8_readsOn 145 = .ok (.invokevirtual 90, 3) := by decide +kernel
theorem dX8_readsOn_148 : decode cX8_readsOn 148 = .ok (.i2l, 1) := by decide +kernel
theorem dX8_readsOn_149 : decode cX8_readsOn 149 = .ok (.ldc2_w 101, 3) := by decide +kernel
theorem dX8_readsOn_152 : decode cX8_readsOn 152 = .ok (.ldc2_w 103, 3) := by decide +kernel
theorem dX8_readsOn_155 : decode cX8_readsOn 155 = .ok (.invokestatic 67, 3) := by decide +kernel
theorem dX8_readsOn_158 : decode cX8_readsOn 158 = .ok (.ifCond .eq 59, 3) := by decide +kernel
theorem dX8_readsOn_161 : decode cX8_readsOn 161 = .ok (.aload_n 0, 1) := by decide +kernel
theorem dX8_readsOn_162 : decode cX8_readsOn 162 = .ok (.aload_n 0, 1) := by decide +kernel
theorem dX8_readsOn_163 : decode cX8_readsOn 163 = .ok (.getfield 87, 3) := by decide +kernel
theorem dX8_readsOn_166 : decode cX8_readsOn 166 = .ok (.aload_n 0, 1) := by decide +kernel
theorem dX8_readsOn_167 : decode cX8_readsOn 167 = .ok (.getfield 78, 3) := by decide +kernel
theorem dX8_readsOn_170 : decode cX8_readsOn 170 = .ok (.isub, 1) := by decide +kernel
theorem dX8_readsOn_171 : decode cX8_readsOn 171 = .ok (.iconst 3, 1) := by decide +kernel
theorem dX8_readsOn_172 : decode cX8_readsOn 172 = .ok (.if_icmp .ge 25, 3) := by decide +kernel
theorem dX8_readsOn_175 : decode cX8_readsOn 175 = .ok (.bipush 10, 2) := by decide +kernel
theorem dX8_readsOn_177 : decode cX8_readsOn 177 = .ok (.aload_n 0, 1) := by decide +kernel
theorem dX8_readsOn_178 : decode cX8_readsOn 178 = .ok (.getfield 94, 3) := by decide +kernel
theorem dX8_readsOn_181 : decode cX8_readsOn 181 = .ok (.imul, 1) := by decide +kernel
theorem dX8_readsOn_182 : decode cX8_readsOn 182 = .ok (.aload_n 0, 1) := by decide +kernel
theorem dX8_readsOn_183 : decode cX8_readsOn 183 = .ok (.aload_n 0, 1) := by decide +kernel
theorem dX8_readsOn_184 : decode cX8_readsOn 184 = .ok (.getfield 87, 3) := by decide +kernel
theorem dX8_readsOn_187 : decode cX8_readsOn 187 = .ok (.invokevirtual 90, 3) := by decide +kernel
theorem dX8_readsOn_190 : decode cX8_readsOn 190 = .ok (.iadd, 1) := by decide +kernel
theorem dX8_readsOn_191 : decode cX8_readsOn 191 = .ok (.bipush 48, 2) := by decide +kernel
theorem dX8_readsOn_193 : decode cX8_readsOn 193 = .ok (.isub, 1) := by decide +kernel
theorem dX8_readsOn_194 : decode cX8_readsOn 194 = .ok (.goto 7, 3) := by decide +kernel
theorem dX8_readsOn_197 : decode cX8_readsOn 197 = .ok (.aload_n 0, 1) := by decide +kernel
theorem dX8_readsOn_198 : decode cX8_readsOn 198 = .ok (.getfield 94, 3) := by decide +kernel
theorem dX8_readsOn_201 : decode cX8_readsOn 201 = .ok (.putfield 94, 3) := by decide +kernel
theorem dX8_readsOn_204 : decode cX8_readsOn 204 = .ok (.aload_n 0, 1) := by decide +kernel
theorem dX8_readsOn_205 : decode cX8_readsOn 205 = .ok (.dup, 1) := by decide +kernel
theorem dX8_readsOn_206 : decode cX8_readsOn 206 = .ok (.getfield 87, 3) := by decide +kernel
theorem dX8_readsOn_209 : decode cX8_readsOn 209 = .ok (.iconst 1, 1) := by decide +kernel
theorem dX8_readsOn_210 : decode cX8_readsOn 210 = .ok (.iadd, 1) := by decide +kernel
theorem dX8_readsOn_211 : decode cX8_readsOn 211 = .ok (.putfield 87, 3) := by decide +kernel
theorem dX8_readsOn_214 : decode cX8_readsOn 214 = .ok (.goto (-74), 3) := by decide +kernel
theorem dX8_readsOn_217 : decode cX8_readsOn 217 = .ok (.aload_n 0, 1) := by decide +kernel
theorem dX8_readsOn_218 : decode cX8_readsOn 218 = .ok (.iconst 2, 1) := by decide +kernel
theorem dX8_readsOn_219 : decode cX8_readsOn 219 = .ok (.putfield 84, 3) := by decide +kernel
theorem dX8_readsOn_222 : decode cX8_readsOn 222 = .ok (.aload_n 0, 1) := by decide +kernel
theorem dX8_readsOn_223 : decode cX8_readsOn 223 = .ok (.getfield 87, 3) := by decide +kernel
theorem dX8_readsOn_226 : decode cX8_readsOn 226 = .ok (.aload_n 0, 1) := by decide +kernel
theorem dX8_readsOn_227 : decode cX8_readsOn 227 = .ok (.getfield 78, 3) := by decide +kernel
theorem dX8_readsOn_230 : decode cX8_readsOn 230 = .ok (.isub, 1) := by decide +kernel
theorem dX8_readsOn_231 : decode cX8_readsOn 231 = .ok (.iconst 3, 1) := by decide +kernel
theorem dX8_readsOn_232 : decode cX8_readsOn 232 = .ok (.if_icmp .le 37, 3) := by decide +kernel
theorem dX8_readsOn_235 : decode cX8_readsOn 235 = .ok (.aload_n 0, 1) := by decide +kernel
theorem dX8_readsOn_236 : decode cX8_readsOn 236 = .ok (.iconst 1, 1) := by decide +kernel
theorem dX8_readsOn_237 : decode cX8_readsOn 237 = .ok (.invokevirtual 105, 3) := by decide +kernel
theorem dX8_readsOn_240 : decode cX8_readsOn 240 = .ok (.goto 29, 3) := by decide +kernel
theorem dX8_readsOn_243 : decode cX8_readsOn 243 = .ok (.aload_n 0, 1) := by decide +kernel
theorem dX8_readsOn_244 : decode cX8_readsOn 244 = .ok (.iconst 3, 1) := by decide +kernel
theorem dX8_readsOn_245 : decode cX8_readsOn 245 = .ok (.putfield 84, 3) := by decide +kernel
theorem dX8_readsOn_248 : decode cX8_readsOn 248 = .ok (.aload_n 0, 1) := by decide +kernel
theorem dX8_readsOn_249 : decode cX8_readsOn 249 = .ok (.dup, 1) := by decide +kernel
theorem dX8_readsOn_250 : decode cX8_readsOn 250 = .ok (.getfield 87, 3) := by decide +kernel
theorem dX8_readsOn_253 : decode cX8_readsOn 253 = .ok (.iconst 1, 1) := by decide +kernel
theorem dX8_readsOn_254 : decode cX8_readsOn 254 = .ok (.iadd, 1) := by decide +kernel
theorem dX8_readsOn_255 : decode cX8_readsOn 255 = .ok (.putfield 87, 3) := by decide +kernel
theorem dX8_readsOn_258 : decode cX8_readsOn 258 = .ok (.iload_n 1, 1) := by decide +kernel
theorem dX8_readsOn_259 : decode cX8_readsOn 259 = .ok (.bipush 59, 2) := by decide +kernel
theorem dX8_readsOn_261 : decode cX8_readsOn 261 = .ok (.if_icmp .eq 8, 3) := by decide +kernel
theorem dX8_readsOn_264 : decode cX8_readsOn 264 = .ok (.aload_n 0, 1) := by decide +kernel
theorem dX8_readsOn_265 : decode cX8_readsOn 265 = .ok (.iconst 1, 1) := by decide +kernel
theorem dX8_readsOn_266 : decode cX8_readsOn 266 = .ok (.invokevirtual 105, 3) := by decide +kernel
theorem dX8_readsOn_269 : decode cX8_readsOn 269 = .ok (.return_, 1) := by decide +kernel
theorem wX8_readsOn_269 (C : CxM p rmX8_readsOn s m args meth c D ac q RX8 cX8_readsOn 2) (hr : meth.sig.returnType = none) {σ : Mm} {r : Mm} (hl : lv_has ls 2 [(0, .ref (q 0))]) (h : fX8_readsOn_269 σ = some r) : VM p l e rmX8_readsOn s m args below meth c D ac q (QVM D ac q below args s r) σ (F0 m 269 ls []) := by
  have h : some σ = some r := h
  exact v_vret C hr h dX8_readsOn_269
theorem wX8_readsOn_217 (C : CxM p rmX8_readsOn s m args meth c D ac q RX8 cX8_readsOn 2) (hr : meth.sig.returnType = none) {σ : Mm} {r : Mm} (hl : lv_has ls 2 [(0, .ref (q 0))]) (h : fX8_readsOn_217 σ = some r) : VM p l e rmX8_readsOn s m args below meth c D ac q (QVM D ac q below args s r) σ (F0 m 217 ls []) := by
  have h : bindv (sto σ 0 8 2) (fun σ_1 => cr ((σ_1 0 6) - (σ_1 0 7)) ((if 3 < (σ_1 0 6) - (σ_1 0 7) then bd (fX8_fails 1 σ_1) (fun σ_3 => fX8_readsOn_269 σ_3) else fX8_readsOn_269 σ_1))) = some r := h
  refine v_aload_n C hl dX8_readsOn_217 rfl 0 rfl ?_
  refine v_iconst C dX8_readsOn_218 ?_
  refine s_X8_8 C kdM_0 fl_X8_84 h dX8_readsOn_219 (fun σ_1 h => ?_)
  refine v_aload_n C hl dX8_readsOn_222 rfl 0 rfl ?_
  refine g_X8_6 C kdM_0 fl_X8_87 dX8_readsOn_223 ?_
  refine v_aload_n C hl dX8_readsOn_226 rfl 0 rfl ?_
  refine g_X8_7 C kdM_0 fl_X8_78 dX8_readsOn_227 ?_
  refine v_isub C dX8_readsOn_230 ?_
  refine v_iconst C dX8_readsOn_231 ?_
  have hz2 := (cr_e h).1
  have h := (cr_e h).2
  refine v_icmp_le C (tgt := 269) hz2 (by decide) h dX8_readsOn_232 rfl (fun h => ?_) (fun h => ?_)
  · exact wX8_readsOn_269 C hr (lv_sub hl [0] rfl) h
  · refine v_aload_n C hl dX8_readsOn_235 rfl 0 rfl ?_
    refine v_iconst C dX8_readsOn_236 ?_
    obtain ⟨σ_3, hv3, h⟩ := bd_e h
    refine v_callVV C 0 (klM kdM_0) rfl (ckM1 kdM_0 _) rfl [.int (i32 1)] (mX8_fails C.2.2.2.2.1 hv3) cd_X8_fails ic_X8 im_X8_fails se_X8_fails ml_X8_105 yk_X8_fails ⟨rfl, rfl, by decide, by decide⟩ rfl hl.1 (rest := []) rfl (Nat.le_of_ble_eq_true rfl) dX8_readsOn_237 ?_
    refine v_goto C (tgt := 269) dX8_readsOn_240 rfl ?_
    exact wX8_readsOn_269 C hr (lv_sub hl [0] rfl) h
theorem wX8_readsOn_201 (C : CxM p rmX8_readsOn s m args meth c D ac q RX8 cX8_readsOn 2) (hr : meth.sig.returnType = none) {t1 : Int} {c140 : Mm → Option (Mm)} {σ : Mm} {r : Mm} (hc140 : ∀ (σ : Mm) (ls : Array Slot), lv_has ls 2 [(0, .ref (q 0))] → c140 σ = some r → VM p l e rmX8_readsOn s m args below meth c D ac q (QVM D ac q below args s r) σ (F0 m 140 ls [])) (hl : lv_has ls 2 [(0, .ref (q 0))]) (h : fX8_readsOn_201 c140 t1 σ = some r) : VM p l e rmX8_readsOn s m args below meth c D ac q (QVM D ac q below args s r) σ (F0 m 201 ls [.int (i32 t1), .ref (q 0)]) := by
  have h : bindv (sto σ 0 9 t1) (fun σ_1 => bindv (sto σ_1 0 6 ((σ_1 0 6) + 1)) (fun σ_2 => c140 σ_2)) = some r := h
  refine s_X8_9 C kdM_0 fl_X8_94 h dX8_readsOn_201 (fun σ_1 h => ?_)
  refine v_aload_n C hl dX8_readsOn_204 rfl 0 rfl ?_
  refine v_dup C dX8_readsOn_205 rfl ?_
  refine g_X8_6 C kdM_0 fl_X8_87 dX8_readsOn_206 ?_
  refine v_iconst C dX8_readsOn_209 ?_
  refine v_iadd C dX8_readsOn_210 ?_
  refine s_X8_6 C kdM_0 fl_X8_87 h dX8_readsOn_211 (fun σ_2 h => ?_)
  refine v_goto C (tgt := 140) dX8_readsOn_214 rfl ?_
  exact hc140 _ _ (lv_sub hl [0] rfl) h
theorem wX8_readsOn_140 (C : CxM p rmX8_readsOn s m args meth c D ac q RX8 cX8_readsOn 2) (hr : meth.sig.returnType = none) {σ : Mm} {e140 : Mm → Option (Mm)} {c140 : Mm → Option (Mm)} {r : Mm} (he140 : ∀ (σ : Mm) (ls : Array Slot), lv_has ls 2 [(0, .ref (q 0))] → e140 σ = some r → VM p l e rmX8_readsOn s m args below meth c D ac q (QVM D ac q below args s r) σ (F0 m 217 ls [])) (hc140 : ∀ (σ : Mm) (ls : Array Slot), lv_has ls 2 [(0, .ref (q 0))] → c140 σ = some r → VM p l e rmX8_readsOn s m args below meth c D ac q (QVM D ac q below args s r) σ (F0 m 140 ls [])) (hl : lv_has ls 2 [(0, .ref (q 0))]) (h : fX8_readsOn_140 e140 c140 σ = some r) : VM p l e rmX8_readsOn s m args below meth c D ac q (QVM D ac q below args s r) σ (F0 m 140 ls []) := by
  have h : bd (fX8_byteAt (σ 0 6) σ) (fun x_1 => cr x_1 (bd (fX8_in x_1 48 57 σ) (fun x_2 => cr x_2 ((if x_2 = 0 then e140 σ else cr ((σ 0 6) - (σ 0 7)) ((if (σ 0 6) - (σ 0 7) < 3 then bd (fX8_byteAt (σ 0 6) σ) (fun x_5 => fX8_readsOn_201 c140 (((10 * (σ 0 9)) + x_5) - 48) σ) else fX8_readsOn_201 c140 (σ 0 9) σ))))))) = some r := h
  refine v_aload_n C hl dX8_readsOn_140 rfl 0 rfl ?_
  refine v_aload_n C hl dX8_readsOn_141 rfl 0 rfl ?_
  refine g_X8_6 C kdM_0 fl_X8_87 dX8_readsOn_142 ?_
  obtain ⟨x_1, hv1, h⟩ := bd_e h
  refine v_callVI C 0 (klM kdM_0) rfl (ckM1 kdM_0 _) rfl [.int (i32 (σ 0 6))] (mX8_byteAt C.2.2.2.2.1 hv1) cd_X8_byteAt ic_X8 im_X8_byteAt se_X8_byteAt ml_X8_90 yk_X8_byteAt ⟨rfl, rfl, by decide, by decide⟩ rfl hl.1 (rest := []) rfl (Nat.le_of_ble_eq_true rfl) dX8_readsOn_145 ?_
  refine v_i2l C h dX8_readsOn_148 (fun h => ?_)
  refine v_ldc2 C (v := 48) kc_X8_101 rfl dX8_readsOn_149 ?_
  refine v_ldc2 C (v := 57) kc_X8_103 rfl dX8_readsOn_152 ?_
  obtain ⟨x_2, hv2, h⟩ := bd_e h
  refine v_callSI C [.long (i64 x_1), .long (i64 48), .long (i64 57)] (mX8_in C.2.2.2.2.1 hv2) cd_X8_in ic_X8 sm_X8_in ml_X8_67 yk_X8_in ⟨rfl, rfl, by decide, by decide⟩ rfl hl.1 (rest := []) rfl (Nat.le_of_ble_eq_true rfl) dX8_readsOn_155 ?_
  have hz3 := (cr_e h).1
  have h := (cr_e h).2
  refine v_if_eq C (tgt := 217) hz3 h dX8_readsOn_158 rfl (fun h => ?_) (fun h => ?_)
  · exact he140 _ _ (lv_sub hl [0] rfl) h
  · refine v_aload_n C hl dX8_readsOn_161 rfl 0 rfl ?_
    refine v_aload_n C hl dX8_readsOn_162 rfl 0 rfl ?_
    refine g_X8_6 C kdM_0 fl_X8_87 dX8_readsOn_163 ?_
    refine v_aload_n C hl dX8_readsOn_166 rfl 0 rfl ?_
    refine g_X8_7 C kdM_0 fl_X8_78 dX8_readsOn_167 ?_
    refine v_isub C dX8_readsOn_170 ?_
    refine v_iconst C dX8_readsOn_171 ?_
    have hz4 := (cr_e h).1
    have h := (cr_e h).2
    refine v_icmp_ge C (tgt := 197) hz4 (by decide) h dX8_readsOn_172 rfl (fun h => ?_) (fun h => ?_)
    · refine v_aload_n C hl dX8_readsOn_197 rfl 0 rfl ?_
      refine g_X8_9 C kdM_0 fl_X8_94 dX8_readsOn_198 ?_
      exact wX8_readsOn_201 C hr hc140 (lv_sub hl [0] rfl) h
    · refine v_bipush C dX8_readsOn_175 rfl ?_
      refine v_aload_n C hl dX8_readsOn_177 rfl 0 rfl ?_
      refine g_X8_9 C kdM_0 fl_X8_94 dX8_readsOn_178 ?_
      refine v_imul C dX8_readsOn_181 ?_
      refine v_aload_n C hl dX8_readsOn_182 rfl 0 rfl ?_
      refine v_aload_n C hl dX8_readsOn_183 rfl 0 rfl ?_
      refine g_X8_6 C kdM_0 fl_X8_87 dX8_readsOn_184 ?_
      obtain ⟨x_5, hv5, h⟩ := bd_e h
      refine v_callVI C 0 (klM kdM_0) rfl (ckM1 kdM_0 _) rfl [.int (i32 (σ 0 6))] (mX8_byteAt C.2.2.2.2.1 hv5) cd_X8_byteAt ic_X8 im_X8_byteAt se_X8_byteAt ml_X8_90 yk_X8_byteAt ⟨rfl, rfl, by decide, by decide⟩ rfl hl.1 (rest := [.int (i32 (10 * (σ 0 9))), .ref (q 0)]) rfl (Nat.le_of_ble_eq_true rfl) dX8_readsOn_187 ?_
      refine v_iadd C dX8_readsOn_190 ?_
      refine v_bipush C dX8_readsOn_191 rfl ?_
      refine v_isub C dX8_readsOn_193 ?_
      refine v_goto C (tgt := 201) dX8_readsOn_194 rfl ?_
      exact wX8_readsOn_201 C hr hc140 (lv_sub hl [0] rfl) h
theorem wlX8_readsOn_140 (C : CxM p rmX8_readsOn s m args meth c D ac q RX8 cX8_readsOn 2) (hr : meth.sig.returnType = none) {e140 : Mm → Option (Mm)} {r : Mm} (he140 : ∀ (σ : Mm) (ls : Array Slot), lv_has ls 2 [(0, .ref (q 0))] → e140 σ = some r → VM p l e rmX8_readsOn s m args below meth c D ac q (QVM D ac q below args s r) σ (F0 m 217 ls [])) : ∀ (fu : Nat) (σ : Mm) (ls : Array Slot) (hl : lv_has ls 2 [(0, .ref (q 0))]) (h : lX8_readsOn_140 e140 fu σ = some r), VM p l e rmX8_readsOn s m args below meth c D ac q (QVM D ac q below args s r) σ (F0 m 140 ls []) := by
  intro fu
  induction fu with
  | zero =>
    intro σ ls hl h
    have h : none = some r := h
    cases h
  | succ fu ih =>
    intro σ ls hl h
    exact wX8_readsOn_140 C hr he140 (fun σ ls hl h => ih σ ls hl h) hl h
theorem wX8_readsOn_118 (C : CxM p rmX8_readsOn s m args meth c D ac q RX8 cX8_readsOn 2) (hr : meth.sig.returnType = none) {σ : Mm} {r : Mm} (hl : lv_has ls 2 [(0, .ref (q 0))]) (h : fX8_readsOn_118 σ = some r) : VM p l e rmX8_readsOn s m args below meth c D ac q (QVM D ac q below args s r) σ (F0 m 118 ls []) := by
  have h : bindv (sto σ 0 8 1) (fun σ_1 => fX8_readsOn_269 σ_1) = some r := h
  refine v_aload_n C hl dX8_readsOn_118 rfl 0 rfl ?_
  refine v_iconst C dX8_readsOn_119 ?_
  refine s_X8_8 C kdM_0 fl_X8_84 h dX8_readsOn_120 (fun σ_1 h => ?_)
  refine v_goto C (tgt := 269) dX8_readsOn_123 rfl ?_
  exact wX8_readsOn_269 C hr (lv_sub hl [0] rfl) h
theorem wX8_readsOn_84 (C : CxM p rmX8_readsOn s m args meth c D ac q RX8 cX8_readsOn 2) (hr : meth.sig.returnType = none) {σ : Mm} {e84 : Mm → Option (Mm)} {c84 : Mm → Option (Mm)} {r : Mm} (he84 : ∀ (σ : Mm) (ls : Array Slot), lv_has ls 2 [(0, .ref (q 0))] → e84 σ = some r → VM p l e rmX8_readsOn s m args below meth c D ac q (QVM D ac q below args s r) σ (F0 m 118 ls [])) (hc84 : ∀ (σ : Mm) (ls : Array Slot), lv_has ls 2 [(0, .ref (q 0))] → c84 σ = some r → VM p l e rmX8_readsOn s m args below meth c D ac q (QVM D ac q below args s r) σ (F0 m 84 ls [])) (hl : lv_has ls 2 [(0, .ref (q 0))]) (h : fX8_readsOn_84 e84 c84 σ = some r) : VM p l e rmX8_readsOn s m args below meth c D ac q (QVM D ac q below args s r) σ (F0 m 84 ls []) := by
  have h : bd (fX8_byteAt (σ 0 6) σ) (fun x_1 => cr x_1 (bd (fX8_in x_1 97 122 σ) (fun x_2 => cr x_2 ((if x_2 = 0 then e84 σ else bindv (sto σ 0 6 ((σ 0 6) + 1)) (fun σ_4 => c84 σ_4)))))) = some r := h
  refine v_aload_n C hl dX8_readsOn_84 rfl 0 rfl ?_
  refine v_aload_n C hl dX8_readsOn_85 rfl 0 rfl ?_
  refine g_X8_6 C kdM_0 fl_X8_87 dX8_readsOn_86 ?_
  obtain ⟨x_1, hv1, h⟩ := bd_e h
  refine v_callVI C 0 (klM kdM_0) rfl (ckM1 kdM_0 _) rfl [.int (i32 (σ 0 6))] (mX8_byteAt C.2.2.2.2.1 hv1) cd_X8_byteAt ic_X8 im_X8_byteAt se_X8_byteAt ml_X8_90 yk_X8_byteAt ⟨rfl, rfl, by decide, by decide⟩ rfl hl.1 (rest := []) rfl (Nat.le_of_ble_eq_true rfl) dX8_readsOn_89 ?_
  refine v_i2l C h dX8_readsOn_92 (fun h => ?_)
  refine v_ldc2 C (v := 97) kc_X8_97 rfl dX8_readsOn_93 ?_
  refine v_ldc2 C (v := 122) kc_X8_99 rfl dX8_readsOn_96 ?_
  obtain ⟨x_2, hv2, h⟩ := bd_e h
  refine v_callSI C [.long (i64 x_1), .long (i64 97), .long (i64 122)] (mX8_in C.2.2.2.2.1 hv2) cd_X8_in ic_X8 sm_X8_in ml_X8_67 yk_X8_in ⟨rfl, rfl, by decide, by decide⟩ rfl hl.1 (rest := []) rfl (Nat.le_of_ble_eq_true rfl) dX8_readsOn_99 ?_
  have hz3 := (cr_e h).1
  have h := (cr_e h).2
  refine v_if_eq C (tgt := 118) hz3 h dX8_readsOn_102 rfl (fun h => ?_) (fun h => ?_)
  · exact he84 _ _ (lv_sub hl [0] rfl) h
  · refine v_aload_n C hl dX8_readsOn_105 rfl 0 rfl ?_
    refine v_dup C dX8_readsOn_106 rfl ?_
    refine g_X8_6 C kdM_0 fl_X8_87 dX8_readsOn_107 ?_
    refine v_iconst C dX8_readsOn_110 ?_
    refine v_iadd C dX8_readsOn_111 ?_
    refine s_X8_6 C kdM_0 fl_X8_87 h dX8_readsOn_112 (fun σ_4 h => ?_)
    refine v_goto C (tgt := 84) dX8_readsOn_115 rfl ?_
    exact hc84 _ _ (lv_sub hl [0] rfl) h
theorem wlX8_readsOn_84 (C : CxM p rmX8_readsOn s m args meth c D ac q RX8 cX8_readsOn 2) (hr : meth.sig.returnType = none) {e84 : Mm → Option (Mm)} {r : Mm} (he84 : ∀ (σ : Mm) (ls : Array Slot), lv_has ls 2 [(0, .ref (q 0))] → e84 σ = some r → VM p l e rmX8_readsOn s m args below meth c D ac q (QVM D ac q below args s r) σ (F0 m 118 ls [])) : ∀ (fu : Nat) (σ : Mm) (ls : Array Slot) (hl : lv_has ls 2 [(0, .ref (q 0))]) (h : lX8_readsOn_84 e84 fu σ = some r), VM p l e rmX8_readsOn s m args below meth c D ac q (QVM D ac q below args s r) σ (F0 m 84 ls []) := by
  intro fu
  induction fu with
  | zero =>
    intro σ ls hl h
    have h : none = some r := h
    cases h
  | succ fu ih =>
    intro σ ls hl h
    exact wX8_readsOn_84 C hr he84 (fun σ ls hl h => ih σ ls hl h) hl h
theorem wX8_readsOn_34 (C : CxM p rmX8_readsOn s m args meth c D ac q RX8 cX8_readsOn 2) (hr : meth.sig.returnType = none) {σ : Mm} {r : Mm} (hl : lv_has ls 2 [(0, .ref (q 0))]) (h : fX8_readsOn_34 σ = some r) : VM p l e rmX8_readsOn s m args below meth c D ac q (QVM D ac q below args s r) σ (F0 m 34 ls []) := by
  have h : bindv (sto σ 0 7 (σ 0 6)) (fun σ_1 => bd (fX8_byteAt (σ_1 0 6) σ_1) (fun x_2 => bindv x_2 (fun v1_3 => bindv (sto σ_1 0 9 0) (fun σ_4 => cr v1_3 ((if v1_3 = (-4) then bindv (sto σ_4 0 8 0) (fun σ_16 => fX8_readsOn_269 σ_16) else cr v1_3 (bd (fX8_in v1_3 97 122 σ_4) (fun x_6 => cr x_6 ((if x_6 = 0 then cr v1_3 (bd (fX8_in v1_3 48 57 σ_4) (fun x_8 => cr x_8 ((if x_8 = 0 then bindv (sto σ_4 0 8 3) (fun σ_10 => bindv (sto σ_10 0 6 ((σ_10 0 6) + 1)) (fun σ_11 => cr v1_3 ((if v1_3 = 59 then fX8_readsOn_269 σ_11 else bd (fX8_fails 1 σ_11) (fun σ_13 => fX8_readsOn_269 σ_13))))) else lX8_readsOn_140 (fun σ_14 => fX8_readsOn_217 σ_14) 400 σ_4)))) else lX8_readsOn_84 (fun σ_15 => fX8_readsOn_118 σ_15) 400 σ_4)))))))))) = some r := h
  refine v_aload_n C hl dX8_readsOn_34 rfl 0 rfl ?_
  refine v_aload_n C hl dX8_readsOn_35 rfl 0 rfl ?_
  refine g_X8_6 C kdM_0 fl_X8_87 dX8_readsOn_36 ?_
  refine s_X8_7 C kdM_0 fl_X8_78 h dX8_readsOn_39 (fun σ_1 h => ?_)
  refine v_aload_n C hl dX8_readsOn_42 rfl 0 rfl ?_
  refine v_aload_n C hl dX8_readsOn_43 rfl 0 rfl ?_
  refine g_X8_6 C kdM_0 fl_X8_87 dX8_readsOn_44 ?_
  obtain ⟨x_2, hv2, h⟩ := bd_e h
  refine v_callVI C 0 (klM kdM_0) rfl (ckM1 kdM_0 _) rfl [.int (i32 (σ_1 0 6))] (mX8_byteAt C.2.2.2.2.1 hv2) cd_X8_byteAt ic_X8 im_X8_byteAt se_X8_byteAt ml_X8_90 yk_X8_byteAt ⟨rfl, rfl, by decide, by decide⟩ rfl hl.1 (rest := []) rfl (Nat.le_of_ble_eq_true rfl) dX8_readsOn_47 ?_
  refine v_istore_n C hl (fun x => [(1, .int (i32 x)), (0, .ref (q 0))]) dX8_readsOn_50 rfl (by decide) (fun _ => rfl) h (fun v1_3 ls hl h => ?_)
  refine v_aload_n C hl dX8_readsOn_51 rfl 1 rfl ?_
  refine v_iconst C dX8_readsOn_52 ?_
  refine s_X8_9 C kdM_0 fl_X8_94 h dX8_readsOn_53 (fun σ_4 h => ?_)
  refine v_iload_n C hl dX8_readsOn_56 rfl 0 rfl ?_
  refine v_bipush C dX8_readsOn_57 rfl ?_
  have hz5 := (cr_e h).1
  have h := (cr_e h).2
  refine v_icmp_ne C (tgt := 70) hz5 (by decide) h dX8_readsOn_59 rfl (fun h => ?_) (fun h => ?_)
  · refine v_iload_n C hl dX8_readsOn_70 rfl 0 rfl ?_
    refine v_i2l C h dX8_readsOn_71 (fun h => ?_)
    refine v_ldc2 C (v := 97) kc_X8_97 rfl dX8_readsOn_72 ?_
    refine v_ldc2 C (v := 122) kc_X8_99 rfl dX8_readsOn_75 ?_
    obtain ⟨x_6, hv6, h⟩ := bd_e h
    refine v_callSI C [.long (i64 v1_3), .long (i64 97), .long (i64 122)] (mX8_in C.2.2.2.2.1 hv6) cd_X8_in ic_X8 sm_X8_in ml_X8_67 yk_X8_in ⟨rfl, rfl, by decide, by decide⟩ rfl hl.1 (rest := []) rfl (Nat.le_of_ble_eq_true rfl) dX8_readsOn_78 ?_
    have hz7 := (cr_e h).1
    have h := (cr_e h).2
    refine v_if_eq C (tgt := 126) hz7 h dX8_readsOn_81 rfl (fun h => ?_) (fun h => ?_)
    · refine v_iload_n C hl dX8_readsOn_126 rfl 0 rfl ?_
      refine v_i2l C h dX8_readsOn_127 (fun h => ?_)
      refine v_ldc2 C (v := 48) kc_X8_101 rfl dX8_readsOn_128 ?_
      refine v_ldc2 C (v := 57) kc_X8_103 rfl dX8_readsOn_131 ?_
      obtain ⟨x_8, hv8, h⟩ := bd_e h
      refine v_callSI C [.long (i64 v1_3), .long (i64 48), .long (i64 57)] (mX8_in C.2.2.2.2.1 hv8) cd_X8_in ic_X8 sm_X8_in ml_X8_67 yk_X8_in ⟨rfl, rfl, by decide, by decide⟩ rfl hl.1 (rest := []) rfl (Nat.le_of_ble_eq_true rfl) dX8_readsOn_134 ?_
      have hz9 := (cr_e h).1
      have h := (cr_e h).2
      refine v_if_eq C (tgt := 243) hz9 h dX8_readsOn_137 rfl (fun h => ?_) (fun h => ?_)
      · refine v_aload_n C hl dX8_readsOn_243 rfl 1 rfl ?_
        refine v_iconst C dX8_readsOn_244 ?_
        refine s_X8_8 C kdM_0 fl_X8_84 h dX8_readsOn_245 (fun σ_10 h => ?_)
        refine v_aload_n C hl dX8_readsOn_248 rfl 1 rfl ?_
        refine v_dup C dX8_readsOn_249 rfl ?_
        refine g_X8_6 C kdM_0 fl_X8_87 dX8_readsOn_250 ?_
        refine v_iconst C dX8_readsOn_253 ?_
        refine v_iadd C dX8_readsOn_254 ?_
        refine s_X8_6 C kdM_0 fl_X8_87 h dX8_readsOn_255 (fun σ_11 h => ?_)
        refine v_iload_n C hl dX8_readsOn_258 rfl 0 rfl ?_
        refine v_bipush C dX8_readsOn_259 rfl ?_
        have hz12 := (cr_e h).1
        have h := (cr_e h).2
        refine v_icmp_eq C (tgt := 269) hz12 (by decide) h dX8_readsOn_261 rfl (fun h => ?_) (fun h => ?_)
        · exact wX8_readsOn_269 C hr (lv_sub hl [1] rfl) h
        · refine v_aload_n C hl dX8_readsOn_264 rfl 1 rfl ?_
          refine v_iconst C dX8_readsOn_265 ?_
          obtain ⟨σ_13, hv13, h⟩ := bd_e h
          refine v_callVV C 0 (klM kdM_0) rfl (ckM1 kdM_0 _) rfl [.int (i32 1)] (mX8_fails C.2.2.2.2.1 hv13) cd_X8_fails ic_X8 im_X8_fails se_X8_fails ml_X8_105 yk_X8_fails ⟨rfl, rfl, by decide, by decide⟩ rfl hl.1 (rest := []) rfl (Nat.le_of_ble_eq_true rfl) dX8_readsOn_266 ?_
          exact wX8_readsOn_269 C hr (lv_sub hl [1] rfl) h
      · exact wlX8_readsOn_140 C hr (fun σ_14 ls hl h => wX8_readsOn_217 C hr (lv_sub hl [0] rfl) h) _ _ _ (lv_sub hl [1] rfl) h
    · exact wlX8_readsOn_84 C hr (fun σ_15 ls hl h => wX8_readsOn_118 C hr (lv_sub hl [0] rfl) h) _ _ _ (lv_sub hl [1] rfl) h
  · refine v_aload_n C hl dX8_readsOn_62 rfl 1 rfl ?_
    refine v_iconst C dX8_readsOn_63 ?_
    refine s_X8_8 C kdM_0 fl_X8_84 h dX8_readsOn_64 (fun σ_16 h => ?_)
    refine v_goto C (tgt := 269) dX8_readsOn_67 rfl ?_
    exact wX8_readsOn_269 C hr (lv_sub hl [1] rfl) h
theorem wX8_readsOn_8 (C : CxM p rmX8_readsOn s m args meth c D ac q RX8 cX8_readsOn 2) (hr : meth.sig.returnType = none) {σ : Mm} {e8 : Mm → Option (Mm)} {c8 : Mm → Option (Mm)} {r : Mm} (he8 : ∀ (σ : Mm) (ls : Array Slot), lv_has ls 2 [(0, .ref (q 0))] → e8 σ = some r → VM p l e rmX8_readsOn s m args below meth c D ac q (QVM D ac q below args s r) σ (F0 m 34 ls [])) (hc8 : ∀ (σ : Mm) (ls : Array Slot), lv_has ls 2 [(0, .ref (q 0))] → c8 σ = some r → VM p l e rmX8_readsOn s m args below meth c D ac q (QVM D ac q below args s r) σ (F0 m 8 ls [])) (hl : lv_has ls 2 [(0, .ref (q 0))]) (h : fX8_readsOn_8 e8 c8 σ = some r) : VM p l e rmX8_readsOn s m args below meth c D ac q (QVM D ac q below args s r) σ (F0 m 8 ls []) := by
  have h : bd (fX8_byteAt (σ 0 6) σ) (fun x_1 => cr x_1 ((if x_1 = 32 then bindv (sto σ 0 6 ((σ 0 6) + 1)) (fun σ_3 => c8 σ_3) else e8 σ))) = some r := h
  refine v_aload_n C hl dX8_readsOn_8 rfl 0 rfl ?_
  refine v_aload_n C hl dX8_readsOn_9 rfl 0 rfl ?_
  refine g_X8_6 C kdM_0 fl_X8_87 dX8_readsOn_10 ?_
  obtain ⟨x_1, hv1, h⟩ := bd_e h
  refine v_callVI C 0 (klM kdM_0) rfl (ckM1 kdM_0 _) rfl [.int (i32 (σ 0 6))] (mX8_byteAt C.2.2.2.2.1 hv1) cd_X8_byteAt ic_X8 im_X8_byteAt se_X8_byteAt ml_X8_90 yk_X8_byteAt ⟨rfl, rfl, by decide, by decide⟩ rfl hl.1 (rest := []) rfl (Nat.le_of_ble_eq_true rfl) dX8_readsOn_13 ?_
  refine v_bipush C dX8_readsOn_16 rfl ?_
  have hz2 := (cr_e h).1
  have h := (cr_e h).2
  refine v_icmp_ne C (tgt := 34) hz2 (by decide) h dX8_readsOn_18 rfl (fun h => ?_) (fun h => ?_)
  · exact he8 _ _ (lv_sub hl [0] rfl) h
  · refine v_aload_n C hl dX8_readsOn_21 rfl 0 rfl ?_
    refine v_dup C dX8_readsOn_22 rfl ?_
    refine g_X8_6 C kdM_0 fl_X8_87 dX8_readsOn_23 ?_
    refine v_iconst C dX8_readsOn_26 ?_
    refine v_iadd C dX8_readsOn_27 ?_
    refine s_X8_6 C kdM_0 fl_X8_87 h dX8_readsOn_28 (fun σ_3 h => ?_)
    refine v_goto C (tgt := 8) dX8_readsOn_31 rfl ?_
    exact hc8 _ _ (lv_sub hl [0] rfl) h
theorem wlX8_readsOn_8 (C : CxM p rmX8_readsOn s m args meth c D ac q RX8 cX8_readsOn 2) (hr : meth.sig.returnType = none) {e8 : Mm → Option (Mm)} {r : Mm} (he8 : ∀ (σ : Mm) (ls : Array Slot), lv_has ls 2 [(0, .ref (q 0))] → e8 σ = some r → VM p l e rmX8_readsOn s m args below meth c D ac q (QVM D ac q below args s r) σ (F0 m 34 ls [])) : ∀ (fu : Nat) (σ : Mm) (ls : Array Slot) (hl : lv_has ls 2 [(0, .ref (q 0))]) (h : lX8_readsOn_8 e8 fu σ = some r), VM p l e rmX8_readsOn s m args below meth c D ac q (QVM D ac q below args s r) σ (F0 m 8 ls []) := by
  intro fu
  induction fu with
  | zero =>
    intro σ ls hl h
    have h : none = some r := h
    cases h
  | succ fu ih =>
    intro σ ls hl h
    exact wX8_readsOn_8 C hr he8 (fun σ ls hl h => ih σ ls hl h) hl h
theorem mX8_readsOn (hq : QI 19 q)  {σ : Mm} {r : Mm} (h : fX8_readsOn σ = some r) : MVM l D ac q yX8_readsOn cX8_readsOn 2 none rmX8_readsOn [.ref (q 0)] σ r := by
  refine MV.of hq XT_M (by decide) (Nat.le_of_ble_eq_true rfl) (fun p e s m below meth c ls C hr hl => ?_)
  have hl : lv_has ls 2 [(0, .ref (q 0))] := hl
  have h : cr (σ 0 4) ((if 0 < σ 0 4 then some σ else lX8_readsOn_8 (fun σ_2 => fX8_readsOn_34 σ_2) 400 σ)) = some r := h
  refine v_aload_n C hl dX8_readsOn_0 rfl 0 rfl ?_
  refine g_X8_4 C kdM_0 fl_X8_75 dX8_readsOn_1 ?_
  have hz1 := (cr_e h).1
  have h := (cr_e h).2
  refine v_if_le C (tgt := 8) hz1 h dX8_readsOn_4 rfl (fun h => ?_) (fun h => ?_)
  · exact wlX8_readsOn_8 C hr (fun σ_2 ls hl h => wX8_readsOn_34 C hr (lv_sub hl [0] rfl) h) _ _ _ (lv_sub hl [0] rfl) h
  · exact v_vret C hr h dX8_readsOn_7
end
section
variable {l : Launch} {D : va_G} {ac : Nat → ClassId} {q : Nat → Nat} {p : Program} {e : Env} {s : State} {m : MethodId} {args : Array Value} {below : List Frame} {meth : Method} {c : Code} {ls : Array Slot}
theorem dX8_numberRead_0 : decode cX8_numberRead 0 = .ok (.aload_n 0, 1) := by decide +kernel
theorem dX8_numberRead_1 : decode cX8_numberRead 1 = .ok (.getfield 75, 3) := by decide +kernel
theorem dX8_numberRead_4 : decode cX8_numberRead 4 = .ok (.ifCond .ne 16, 3) := by decide +kernel
theorem dX8_numberRead_7 : decode cX8_numberRead 7 = .ok (.aload_n 0, 1) := by decide +kernel
theorem dX8_numberRead_8 : decode cX8_numberRead 8 = .ok (.getfield 84, 3) := by decide +kernel
theorem dX8_numberRead_11 : decode cX8_numberRead 11 = .ok (.iconst 2, 1) := by decide +kernel
theorem dX8_numberRead_12 : decode cX8_numberRead 12 = .ok (.if_icmp .eq 8, 3) := by decide +kernel
theorem dX8_numberRead_15 : decode cX8_numberRead 15 = .ok (.aload_n 0, 1) := by decide +kernel
theorem dX8_numberRead_16 : decode cX8_numberRead 16 = .ok (.iconst 2, 1) := by decide +kernel
theorem dX8_numberRead_17 : decode cX8_numberRead 17 = .ok (.invokevirtual 105, 3) := by decide +kernel
theorem dX8_numberRead_20 : decode cX8_numberRead 20 = .ok (.aload_n 0, 1) := by decide +kernel
theorem dX8_numberRead_21 : decode cX8_numberRead 21 = .ok (.getfield 75, 3) := by decide +kernel
theorem dX8_numberRead_24 : decode cX8_numberRead 24 = .ok (.ifCond .ne 16, 3) := by decide +kernel
theorem dX8_numberRead_27 : decode cX8_numberRead 27 = .ok (.aload_n 0, 1) := by decide +kernel
theorem dX8_numberRead_28 : decode cX8_numberRead 28 = .ok (.getfield 94, 3) := by decide +kernel
theorem dX8_numberRead_31 : decode cX8_numberRead 31 = .ok (.iload_n 1, 1) := by decide +kernel
theorem dX8_numberRead_32 : decode cX8_numberRead 32 = .ok (.if_icmp .le 8, 3) := by decide +kernel
theorem dX8_numberRead_35 : decode cX8_numberRead 35 = .ok (.aload_n 0, 1) := by decide +kernel
theorem dX8_numberRead_36 : decode cX8_numberRead 36 = .ok (.iconst 3, 1) := by decide +kernel
theorem dX8_numberRead_37 : decode cX8_numberRead 37 = .ok (.invokevirtual 105, 3) := by decide +kernel
theorem dX8_numberRead_40 : decode cX8_numberRead 40 = .ok (.aload_n 0, 1) := by decide +kernel
theorem dX8_numberRead_41 : decode cX8_numberRead 41 = .ok (.getfield 75, 3) := by decide +kernel
theorem dX8_numberRead_44 : decode cX8_numberRead 44 = .ok (.ifCond .ne 10, 3) := by decide +kernel
theorem dX8_numberRead_47 : decode cX8_numberRead 47 = .ok (.aload_n 0, 1) := by decide +kernel
theorem dX8_numberRead_48 : decode cX8_numberRead 48 = .ok (.getfield 94, 3) := by decide +kernel
theorem dX8_numberRead_51 : decode cX8_numberRead 51 = .ok (.goto 4, 3) := by decide +kernel
theorem dX8_numberRead_54 : decode cX8_numberRead 54 = .ok (.iconst 0, 1) := by decide +kernel
theorem dX8_numberRead_55 : decode cX8_numberRead 55 = .ok (.istore_n 2, 1) := by decide +kernel
theorem dX8_numberRead_56 : decode cX8_numberRead 56 = .ok (.aload_n 0, 1) := by decide +kernel
theorem dX8_numberRead_57 : decode cX8_numberRead 57 = .ok (.invokevirtual 109, 3) := by decide +kernel
theorem dX8_numberRead_60 : decode cX8_numberRead 60 = .ok (.iload_n 2, 1) := by decide +kernel
theorem dX8_numberRead_61 : decode cX8_numberRead 61 = .ok (.ireturn, 1) := by decide +kernel
theorem wX8_numberRead_55 (C : CxM p rmX8_numberRead s m args meth c D ac q RX8 cX8_numberRead 3) (hr : meth.sig.returnType = (some .int)) {t0 : Int} {σ : Mm} {r : Int × Mm} (hl : lv_has ls 3 [(0, .ref (q 0))]) (h : fX8_numberRead_55 t0 σ = some r) : VM p l e rmX8_numberRead s m args below meth c D ac q (QIM D ac q below args s r) σ (F0 m 55 ls [.int (i32 t0)]) := by
  have h : bindv t0 (fun v2_1 => bd (fX8_readsOn σ) (fun σ_2 => some (v2_1, σ_2))) = some r := h
  refine v_istore_n C hl (fun x => [(2, .int (i32 x)), (0, .ref (q 0))]) dX8_numberRead_55 rfl (by decide) (fun _ => rfl) h (fun v2_1 ls hl h => ?_)
  refine v_aload_n C hl dX8_numberRead_56 rfl 1 rfl ?_
  obtain ⟨σ_2, hv2, h⟩ := bd_e h
  refine v_callVV C 0 (klM kdM_0) rfl (ckM1 kdM_0 _) rfl [] (mX8_readsOn C.2.2.2.2.1 hv2) cd_X8_readsOn ic_X8 im_X8_readsOn se_X8_readsOn ml_X8_109 yk_X8_readsOn ⟨rfl, rfl, by decide, by decide⟩ rfl hl.1 (rest := []) rfl (Nat.le_of_ble_eq_true rfl) dX8_numberRead_57 ?_
  refine v_iload_n C hl dX8_numberRead_60 rfl 0 rfl ?_
  exact v_iret C hr h dX8_numberRead_61
theorem wX8_numberRead_40 (C : CxM p rmX8_numberRead s m args meth c D ac q RX8 cX8_numberRead 3) (hr : meth.sig.returnType = (some .int)) {σ : Mm} {r : Int × Mm} (hl : lv_has ls 3 [(0, .ref (q 0))]) (h : fX8_numberRead_40 σ = some r) : VM p l e rmX8_numberRead s m args below meth c D ac q (QIM D ac q below args s r) σ (F0 m 40 ls []) := by
  have h : cr (σ 0 4) ((if σ 0 4 = 0 then fX8_numberRead_55 (σ 0 9) σ else fX8_numberRead_55 0 σ)) = some r := h
  refine v_aload_n C hl dX8_numberRead_40 rfl 0 rfl ?_
  refine g_X8_4 C kdM_0 fl_X8_75 dX8_numberRead_41 ?_
  have hz1 := (cr_e h).1
  have h := (cr_e h).2
  refine v_if_ne C (tgt := 54) hz1 h dX8_numberRead_44 rfl (fun h => ?_) (fun h => ?_)
  · refine v_iconst C dX8_numberRead_54 ?_
    exact wX8_numberRead_55 C hr (lv_sub hl [0] rfl) h
  · refine v_aload_n C hl dX8_numberRead_47 rfl 0 rfl ?_
    refine g_X8_9 C kdM_0 fl_X8_94 dX8_numberRead_48 ?_
    refine v_goto C (tgt := 55) dX8_numberRead_51 rfl ?_
    exact wX8_numberRead_55 C hr (lv_sub hl [0] rfl) h
theorem wX8_numberRead_20 (C : CxM p rmX8_numberRead s m args meth c D ac q RX8 cX8_numberRead 3) (hr : meth.sig.returnType = (some .int)) {v1 : Int} {σ : Mm} {r : Int × Mm} (hl : lv_has ls 3 [(0, .ref (q 0)), (1, .int (i32 v1))]) (h : fX8_numberRead_20 v1 σ = some r) : VM p l e rmX8_numberRead s m args below meth c D ac q (QIM D ac q below args s r) σ (F0 m 20 ls []) := by
  have h : cr (σ 0 4) ((if σ 0 4 = 0 then cr (σ 0 9) (cr v1 ((if v1 < σ 0 9 then bd (fX8_fails 3 σ) (fun σ_4 => fX8_numberRead_40 σ_4) else fX8_numberRead_40 σ))) else fX8_numberRead_40 σ)) = some r := h
  refine v_aload_n C hl dX8_numberRead_20 rfl 0 rfl ?_
  refine g_X8_4 C kdM_0 fl_X8_75 dX8_numberRead_21 ?_
  have hz1 := (cr_e h).1
  have h := (cr_e h).2
  refine v_if_ne C (tgt := 40) hz1 h dX8_numberRead_24 rfl (fun h => ?_) (fun h => ?_)
  · exact wX8_numberRead_40 C hr (lv_sub hl [0] rfl) h
  · refine v_aload_n C hl dX8_numberRead_27 rfl 0 rfl ?_
    refine g_X8_9 C kdM_0 fl_X8_94 dX8_numberRead_28 ?_
    refine v_iload_n C hl dX8_numberRead_31 rfl 1 rfl ?_
    have hz2 := (cr_e h).1
    have h := (cr_e h).2
    have hz3 := (cr_e h).1
    have h := (cr_e h).2
    refine v_icmp_le C (tgt := 40) hz2 hz3 h dX8_numberRead_32 rfl (fun h => ?_) (fun h => ?_)
    · exact wX8_numberRead_40 C hr (lv_sub hl [0] rfl) h
    · refine v_aload_n C hl dX8_numberRead_35 rfl 0 rfl ?_
      refine v_iconst C dX8_numberRead_36 ?_
      obtain ⟨σ_4, hv4, h⟩ := bd_e h
      refine v_callVV C 0 (klM kdM_0) rfl (ckM1 kdM_0 _) rfl [.int (i32 3)] (mX8_fails C.2.2.2.2.1 hv4) cd_X8_fails ic_X8 im_X8_fails se_X8_fails ml_X8_105 yk_X8_fails ⟨rfl, rfl, by decide, by decide⟩ rfl hl.1 (rest := []) rfl (Nat.le_of_ble_eq_true rfl) dX8_numberRead_37 ?_
      exact wX8_numberRead_40 C hr (lv_sub hl [0] rfl) h
theorem mX8_numberRead (hq : QI 19 q) {v1 : Int} {σ : Mm} {r : Int × Mm} (h : fX8_numberRead v1 σ = some r) : MIM l D ac q yX8_numberRead cX8_numberRead 3 (some .int) rmX8_numberRead [.ref (q 0), .int (i32 v1)] σ r := by
  refine MI.of hq XT_M (by decide) (Nat.le_of_ble_eq_true rfl) (fun p e s m below meth c ls C hr hl => ?_)
  have hl : lv_has ls 3 [(0, .ref (q 0)), (1, .int (i32 v1))] := hl
  have h : cr (σ 0 4) ((if σ 0 4 = 0 then cr (σ 0 8) ((if σ 0 8 = 2 then fX8_numberRead_20 v1 σ else bd (fX8_fails 2 σ) (fun σ_3 => fX8_numberRead_20 v1 σ_3))) else fX8_numberRead_20 v1 σ)) = some r := h
  refine v_aload_n C hl dX8_numberRead_0 rfl 0 rfl ?_
  refine g_X8_4 C kdM_0 fl_X8_75 dX8_numberRead_1 ?_
  have hz1 := (cr_e h).1
  have h := (cr_e h).2
  refine v_if_ne C (tgt := 20) hz1 h dX8_numberRead_4 rfl (fun h => ?_) (fun h => ?_)
  · exact wX8_numberRead_20 C hr (lv_sub hl [0, 1] rfl) h
  · refine v_aload_n C hl dX8_numberRead_7 rfl 0 rfl ?_
    refine g_X8_8 C kdM_0 fl_X8_84 dX8_numberRead_8 ?_
    refine v_iconst C dX8_numberRead_11 ?_
    have hz2 := (cr_e h).1
    have h := (cr_e h).2
    refine v_icmp_eq C (tgt := 20) hz2 (by decide) h dX8_numberRead_12 rfl (fun h => ?_) (fun h => ?_)
    · exact wX8_numberRead_20 C hr (lv_sub hl [0, 1] rfl) h
    · refine v_aload_n C hl dX8_numberRead_15 rfl 0 rfl ?_
      refine v_iconst C dX8_numberRead_16 ?_
      obtain ⟨σ_3, hv3, h⟩ := bd_e h
      refine v_callVV C 0 (klM kdM_0) rfl (ckM1 kdM_0 _) rfl [.int (i32 2)] (mX8_fails C.2.2.2.2.1 hv3) cd_X8_fails ic_X8 im_X8_fails se_X8_fails ml_X8_105 yk_X8_fails ⟨rfl, rfl, by decide, by decide⟩ rfl hl.1 (rest := []) rfl (Nat.le_of_ble_eq_true rfl) dX8_numberRead_17 ?_
      exact wX8_numberRead_20 C hr (lv_sub hl [0, 1] rfl) h
end
section
variable {l : Launch} {D : va_G} {ac : Nat → ClassId} {q : Nat → Nat} {p : Program} {e : Env} {s : State} {m : MethodId} {args : Array Value} {below : List Frame} {meth : Method} {c : Code} {ls : Array Slot}
theorem dX8_ofPoints_0 : decode cX8_ofPoints 0 = .ok (.iconst 0, 1) := by decide +kernel
theorem dX8_ofPoints_1 : decode cX8_ofPoints 1 = .ok (.istore_n 2, 1) := by decide +kernel
theorem dX8_ofPoints_2 : decode cX8_ofPoints 2 = .ok (.iconst 0, 1) := by decide +kernel
theorem dX8_ofPoints_3 : decode cX8_ofPoints 3 = .ok (.istore_n 3, 1) := by decide +kernel
theorem dX8_ofPoints_4 : decode cX8_ofPoints 4 = .ok (.iload_n 3, 1) := by decide +kernel
theorem dX8_ofPoints_5 : decode cX8_ofPoints 5 = .ok (.aload_n 0, 1) := by decide +kernel
theorem dX8_ofPoints_6 : decode cX8_ofPoints 6 = .ok (.invokevirtual 206, 3) := by decide +kernel
theorem dX8_ofPoints_9 : decode cX8_ofPoints 9 = .ok (.if_icmp .ge 95, 3) := by decide +kernel
theorem dX8_ofPoints_12 : decode cX8_ofPoints 12 = .ok (.iload_n 1, 1) := by decide +kernel
theorem dX8_ofPoints_13 : decode cX8_ofPoints 13 = .ok (.iconst 3, 1) := by decide +kernel
theorem dX8_ofPoints_14 : decode cX8_ofPoints 14 = .ok (.if_icmp .ne 28, 3) := by decide +kernel
theorem dX8_ofPoints_17 : decode cX8_ofPoints 17 = .ok (.aload_n 0, 1) := by decide +kernel
theorem dX8_ofPoints_18 : decode cX8_ofPoints 18 = .ok (.getfield 31, 3) := by decide +kernel
theorem dX8_ofPoints_21 : decode cX8_ofPoints 21 = .ok (.iload_n 3, 1) := by decide +kernel
theorem dX8_ofPoints_22 : decode cX8_ofPoints 22 = .ok (.iaload, 1) := by decide +kernel
theorem dX8_ofPoints_23 : decode cX8_ofPoints 23 = .ok (.ifCond .le 15, 3) := by decide +kernel
theorem dX8_ofPoints_26 : decode cX8_ofPoints 26 = .ok (.aload_n 0, 1) := by decide +kernel
theorem dX8_ofPoints_27 : decode cX8_ofPoints 27 = .ok (.iload_n 3, 1) := by decide +kernel
theorem dX8_ofPoints_28 : decode cX8_ofPoints 28 = .ok (.invokevirtual 215, 3) := by decide +kernel
theorem dX8_ofPoints_31 : decode cX8_ofPoints 31 = .ok (.ifCond .eq 7, 3) := by decide +kernel
theorem dX8_ofPoints_34 : decode cX8_ofPoints 34 = .ok (.iconst 1, 1) := by decide +kernel
theorem dX8_ofPoints_35 : decode cX8_ofPoints 35 = .ok (.goto 48, 3) := by decide +kernel
theorem dX8_ofPoints_38 : decode cX8_ofPoints 38 = .ok (.iconst 0, 1) := by decide +kernel
theorem dX8_ofPoints_39 : decode cX8_ofPoints 39 = .ok (.goto 44, 3) := by decide +kernel
theorem dX8_ofPoints_42 : decode cX8_ofPoints 42 = .ok (.iload_n 1, 1) := by decide +kernel
theorem dX8_ofPoints_43 : decode cX8_ofPoints 43 = .ok (.bipush 6, 2) := by decide +kernel
theorem dX8_ofPoints_45 : decode cX8_ofPoints 45 = .ok (.if_icmp .ne 20, 3) := by decide +kernel
theorem dX8_ofPoints_48 : decode cX8_ofPoints 48 = .ok (.aload_n 0, 1) := by decide +kernel
theorem dX8_ofPoints_49 : decode cX8_ofPoints 49 = .ok (.getfield 31, 3) := by decide +kernel
theorem dX8_ofPoints_52 : decode cX8_ofPoints 52 = .ok (.iload_n 3, 1) := by decide +kernel
theorem dX8_ofPoints_53 : decode cX8_ofPoints 53 = .ok (.iaload, 1) := by decide +kernel
theorem dX8_ofPoints_54 : decode cX8_ofPoints 54 = .ok (.ifCond .le 7, 3) := by decide +kernel
theorem dX8_ofPoints_57 : decode cX8_ofPoints 57 = .ok (.iconst 1, 1) := by decide +kernel
theorem dX8_ofPoints_58 : decode cX8_ofPoints 58 = .ok (.goto 25, 3) := by decide +kernel
theorem dX8_ofPoints_61 : decode cX8_ofPoints 61 = .ok (.iconst 0, 1) := by decide +kernel
theorem dX8_ofPoints_62 : decode cX8_ofPoints 62 = .ok (.goto 21, 3) := by decide +kernel
theorem dX8_ofPoints_65 : decode cX8_ofPoints 65 = .ok (.aload_n 0, 1) := by decide +kernel
theorem dX8_ofPoints_66 : decode cX8_ofPoints 66 = .ok (.getfield 7, 3) := by decide +kernel
theorem dX8_ofPoints_69 : decode cX8_ofPoints 69 = .ok (.bipush 48, 2) := by decide +kernel
theorem dX8_ofPoints_71 : decode cX8_ofPoints 71 = .ok (.iload_n 3, 1) := by decide +kernel
theorem dX8_ofPoints_72 : decode cX8_ofPoints 72 = .ok (.iadd, 1) := by decide +kernel
theorem dX8_ofPoints_73 : decode cX8_ofPoints 73 = .ok (.iaload, 1) := by decide +kernel
theorem dX8_ofPoints_74 : decode cX8_ofPoints 74 = .ok (.iconst 1, 1) := by decide +kernel
theorem dX8_ofPoints_75 : decode cX8_ofPoints 75 = .ok (.if_icmp .ne 7, 3) := by decide +kernel
theorem dX8_ofPoints_78 : decode cX8_ofPoints 78 = .ok (.iconst 1, 1) := by decide +kernel
theorem dX8_ofPoints_79 : decode cX8_ofPoints 79 = .ok (.goto 4, 3) := by decide +kernel
theorem dX8_ofPoints_82 : decode cX8_ofPoints 82 = .ok (.iconst 0, 1) := by decide +kernel
theorem dX8_ofPoints_83 : decode cX8_ofPoints 83 = .ok (.istore 4, 2) := by decide +kernel
theorem dX8_ofPoints_85 : decode cX8_ofPoints 85 = .ok (.iload_n 2, 1) := by decide +kernel
theorem dX8_ofPoints_86 : decode cX8_ofPoints 86 = .ok (.iload 4, 2) := by decide +kernel
theorem dX8_ofPoints_88 : decode cX8_ofPoints 88 = .ok (.ifCond .eq 7, 3) := by decide +kernel
theorem dX8_ofPoints_91 : decode cX8_ofPoints 91 = .ok (.iconst 1, 1) := by decide +kernel
theorem dX8_ofPoints_92 : decode cX8_ofPoints 92 = .ok (.goto 4, 3) := by decide +kernel
theorem dX8_ofPoints_95 : decode cX8_ofPoints 95 = .ok (.iconst 0, 1) := by decide +kernel
theorem dX8_ofPoints_96 : decode cX8_ofPoints 96 = .ok (.iadd, 1) := by decide +kernel
theorem dX8_ofPoints_97 : decode cX8_ofPoints 97 = .ok (.istore_n 2, 1) := by decide +kernel
theorem dX8_ofPoints_98 : decode cX8_ofPoints 98 = .ok (.iinc 3 1, 3) := by decide +kernel
theorem dX8_ofPoints_101 : decode cX8_ofPoints 101 = .ok (.goto (-97), 3) := by decide +kernel
theorem dX8_ofPoints_104 : decode cX8_ofPoints 104 = .ok (.iload_n 2, 1) := by decide +kernel
theorem dX8_ofPoints_105 : decode cX8_ofPoints 105 = .ok (.ireturn, 1) := by decide +kernel
theorem wX8_ofPoints_104 (C : CxM p rmX8_ofPoints s m args meth c D ac q RX8 cX8_ofPoints 5) (hr : meth.sig.returnType = (some .int)) {v2 : Int} {σ : Mm} {r : Int} (hl : lv_has ls 5 [(0, .ref (q 0)), (2, .int (i32 v2))]) (h : fX8_ofPoints_104 v2 σ = some r) : VM p l e rmX8_ofPoints s m args below meth c D ac q (QIM D ac q below args s (r, σ)) σ (F0 m 104 ls []) := by
  have h : some v2 = some r := h
  refine v_iload_n C hl dX8_ofPoints_104 rfl 1 rfl ?_
  exact v_iret C hr (so1 h) dX8_ofPoints_105
theorem wX8_ofPoints_96 (C : CxM p rmX8_ofPoints s m args meth c D ac q RX8 cX8_ofPoints 5) (hr : meth.sig.returnType = (some .int)) {v1 : Int} {v3 : Int} {t0 : Int} {t1 : Int} {c4 : Int → Int → Option (Int)} {σ : Mm} {r : Int} (hc4 : ∀ (v2x : Int) (v3x : Int) (ls : Array Slot), lv_has ls 5 [(0, .ref (q 0)), (1, .int (i32 v1)), (2, .int (i32 v2x)), (3, .int (i32 v3x))] → c4 v2x v3x = some r → VM p l e rmX8_ofPoints s m args below meth c D ac q (QIM D ac q below args s (r, σ)) σ (F0 m 4 ls [])) (hl : lv_has ls 5 [(0, .ref (q 0)), (1, .int (i32 v1)), (3, .int (i32 v3))]) (h : fX8_ofPoints_96 c4 v1 v3 t0 t1 σ = some r) : VM p l e rmX8_ofPoints s m args below meth c D ac q (QIM D ac q below args s (r, σ)) σ (F0 m 96 ls [.int (i32 t1), .int (i32 t0)]) := by
  have h : bindv (t0 + t1) (fun v2_1 => bindv (v3 + 1) (fun v3_2 => c4 v2_1 v3_2)) = some r := h
  refine v_iadd C dX8_ofPoints_96 ?_
  refine v_istore_n C hl (fun x => [(2, .int (i32 x)), (0, .ref (q 0)), (1, .int (i32 v1)), (3, .int (i32 v3))]) dX8_ofPoints_97 rfl (by decide) (fun _ => rfl) h (fun v2_1 ls hl h => ?_)
  refine v_iinc C hl (fun x => [(3, .int (i32 x)), (2, .int (i32 v2_1)), (0, .ref (q 0)), (1, .int (i32 v1))]) dX8_ofPoints_98 3 rfl (by decide) (fun _ => rfl) h (fun v3_2 ls hl h => ?_)
  refine v_goto C (tgt := 4) dX8_ofPoints_101 rfl ?_
  exact hc4 _ _ _ (lv_sub hl [2, 3, 1, 0] rfl) h
theorem wX8_ofPoints_83 (C : CxM p rmX8_ofPoints s m args meth c D ac q RX8 cX8_ofPoints 5) (hr : meth.sig.returnType = (some .int)) {v1 : Int} {v2 : Int} {v3 : Int} {t0 : Int} {c4 : Int → Int → Option (Int)} {σ : Mm} {r : Int} (hc4 : ∀ (v2x : Int) (v3x : Int) (ls : Array Slot), lv_has ls 5 [(0, .ref (q 0)), (1, .int (i32 v1)), (2, .int (i32 v2x)), (3, .int (i32 v3x))] → c4 v2x v3x = some r → VM p l e rmX8_ofPoints s m args below meth c D ac q (QIM D ac q below args s (r, σ)) σ (F0 m 4 ls [])) (hl : lv_has ls 5 [(0, .ref (q 0)), (1, .int (i32 v1)), (2, .int (i32 v2)), (3, .int (i32 v3))]) (h : fX8_ofPoints_83 c4 v1 v2 v3 t0 σ = some r) : VM p l e rmX8_ofPoints s m args below meth c D ac q (QIM D ac q below args s (r, σ)) σ (F0 m 83 ls [.int (i32 t0)]) := by
  have h : bindv t0 (fun v4_1 => cr v4_1 ((if v4_1 = 0 then fX8_ofPoints_96 c4 v1 v3 v2 0 σ else fX8_ofPoints_96 c4 v1 v3 v2 1 σ))) = some r := h
  refine v_istore C hl (fun x => [(4, .int (i32 x)), (0, .ref (q 0)), (1, .int (i32 v1)), (2, .int (i32 v2)), (3, .int (i32 v3))]) dX8_ofPoints_83 (by decide) (fun _ => rfl) h (fun v4_1 ls hl h => ?_)
  refine v_iload_n C hl dX8_ofPoints_85 rfl 3 rfl ?_
  refine v_iload C hl dX8_ofPoints_86 0 rfl ?_
  have hz2 := (cr_e h).1
  have h := (cr_e h).2
  refine v_if_eq C (tgt := 95) hz2 h dX8_ofPoints_88 rfl (fun h => ?_) (fun h => ?_)
  · refine v_iconst C dX8_ofPoints_95 ?_
    exact wX8_ofPoints_96 C hr hc4 (lv_sub hl [1, 2, 4] rfl) h
  · refine v_iconst C dX8_ofPoints_91 ?_
    refine v_goto C (tgt := 96) dX8_ofPoints_92 rfl ?_
    exact wX8_ofPoints_96 C hr hc4 (lv_sub hl [1, 2, 4] rfl) h
theorem wX8_ofPoints_38 (C : CxM p rmX8_ofPoints s m args meth c D ac q RX8 cX8_ofPoints 5) (hr : meth.sig.returnType = (some .int)) {v1 : Int} {v2 : Int} {v3 : Int} {c4 : Int → Int → Option (Int)} {σ : Mm} {r : Int} (hc4 : ∀ (v2x : Int) (v3x : Int) (ls : Array Slot), lv_has ls 5 [(0, .ref (q 0)), (1, .int (i32 v1)), (2, .int (i32 v2x)), (3, .int (i32 v3x))] → c4 v2x v3x = some r → VM p l e rmX8_ofPoints s m args below meth c D ac q (QIM D ac q below args s (r, σ)) σ (F0 m 4 ls [])) (hl : lv_has ls 5 [(0, .ref (q 0)), (1, .int (i32 v1)), (2, .int (i32 v2)), (3, .int (i32 v3))]) (h : fX8_ofPoints_38 c4 v1 v2 v3 σ = some r) : VM p l e rmX8_ofPoints s m args below meth c D ac q (QIM D ac q below args s (r, σ)) σ (F0 m 38 ls []) := by
  have h : fX8_ofPoints_83 c4 v1 v2 v3 0 σ = some r := h
  refine v_iconst C dX8_ofPoints_38 ?_
  refine v_goto C (tgt := 83) dX8_ofPoints_39 rfl ?_
  exact wX8_ofPoints_83 C hr hc4 (lv_sub hl [0, 1, 2, 3] rfl) h
theorem wX8_ofPoints_4 (C : CxM p rmX8_ofPoints s m args meth c D ac q RX8 cX8_ofPoints 5) (hr : meth.sig.returnType = (some .int)) {v1 : Int} {σ : Mm} {v2 : Int} {v3 : Int} {e4 : Int → Option (Int)} {c4 : Int → Int → Option (Int)} {r : Int} (he4 : ∀ (v2x : Int) (ls : Array Slot), lv_has ls 5 [(0, .ref (q 0)), (2, .int (i32 v2x))] → e4 v2x = some r → VM p l e rmX8_ofPoints s m args below meth c D ac q (QIM D ac q below args s (r, σ)) σ (F0 m 104 ls [])) (hc4 : ∀ (v2x : Int) (v3x : Int) (ls : Array Slot), lv_has ls 5 [(0, .ref (q 0)), (1, .int (i32 v1)), (2, .int (i32 v2x)), (3, .int (i32 v3x))] → c4 v2x v3x = some r → VM p l e rmX8_ofPoints s m args below meth c D ac q (QIM D ac q below args s (r, σ)) σ (F0 m 4 ls [])) (hl : lv_has ls 5 [(0, .ref (q 0)), (1, .int (i32 v1)), (2, .int (i32 v2)), (3, .int (i32 v3))]) (h : fX8_ofPoints_4 v1 σ e4 c4 v2 v3 = some r) : VM p l e rmX8_ofPoints s m args below meth c D ac q (QIM D ac q below args s (r, σ)) σ (F0 m 4 ls []) := by
  have h : bd (fX8_points σ) (fun x_1 => cr v3 (cr x_1 ((if v3 < x_1 then cr v1 ((if v1 = 3 then chk v3 24 (cr (σ 8 (v3).toNat) ((if 0 < σ 8 (v3).toNat then bd (fX8_isNode v3 σ) (fun x_9 => cr x_9 ((if x_9 = 0 then fX8_ofPoints_38 c4 v1 v2 v3 σ else fX8_ofPoints_83 c4 v1 v2 v3 1 σ))) else fX8_ofPoints_38 c4 v1 v2 v3 σ))) else cr v1 ((if v1 = 6 then chk v3 24 (cr (σ 8 (v3).toNat) ((if 0 < σ 8 (v3).toNat then fX8_ofPoints_83 c4 v1 v2 v3 1 σ else fX8_ofPoints_83 c4 v1 v2 v3 0 σ))) else chk (48 + v3) 700 (cr (σ 1 (48 + v3).toNat) ((if σ 1 (48 + v3).toNat = 1 then fX8_ofPoints_83 c4 v1 v2 v3 1 σ else fX8_ofPoints_83 c4 v1 v2 v3 0 σ))))))) else e4 v2)))) = some r := h
  refine v_iload_n C hl dX8_ofPoints_4 rfl 3 rfl ?_
  refine v_aload_n C hl dX8_ofPoints_5 rfl 0 rfl ?_
  obtain ⟨x_1, hv1, h⟩ := bd_e h
  refine v_callVI C 0 (klM kdM_0) rfl (ckM1 kdM_0 _) rfl [] (mX8_points C.2.2.2.2.1 hv1) cd_X8_points ic_X8 im_X8_points se_X8_points ml_X8_206 yk_X8_points ⟨rfl, rfl, by decide, by decide⟩ rfl hl.1 (rest := [.int (i32 v3)]) rfl (Nat.le_of_ble_eq_true rfl) dX8_ofPoints_6 ?_
  have hz2 := (cr_e h).1
  have h := (cr_e h).2
  have hz3 := (cr_e h).1
  have h := (cr_e h).2
  refine v_icmp_ge C (tgt := 104) hz2 hz3 h dX8_ofPoints_9 rfl (fun h => ?_) (fun h => ?_)
  · exact he4 _ _ (lv_sub hl [0, 2] rfl) h
  · refine v_iload_n C hl dX8_ofPoints_12 rfl 1 rfl ?_
    refine v_iconst C dX8_ofPoints_13 ?_
    have hz4 := (cr_e h).1
    have h := (cr_e h).2
    refine v_icmp_ne C (tgt := 42) hz4 (by decide) h dX8_ofPoints_14 rfl (fun h => ?_) (fun h => ?_)
    · refine v_iload_n C hl dX8_ofPoints_42 rfl 1 rfl ?_
      refine v_bipush C dX8_ofPoints_43 rfl ?_
      have hz5 := (cr_e h).1
      have h := (cr_e h).2
      refine v_icmp_ne C (tgt := 65) hz5 (by decide) h dX8_ofPoints_45 rfl (fun h => ?_) (fun h => ?_)
      · refine v_aload_n C hl dX8_ofPoints_65 rfl 0 rfl ?_
        refine g_X8_0 C kdM_0 fl_X8_7 dX8_ofPoints_66 ?_
        refine v_bipush C dX8_ofPoints_69 rfl ?_
        refine v_iload_n C hl dX8_ofPoints_71 rfl 3 rfl ?_
        refine v_iadd C dX8_ofPoints_72 ?_
        refine alM2 C kdM_1 h dX8_ofPoints_73 (fun h => ?_)
        refine v_iconst C dX8_ofPoints_74 ?_
        have hz6 := (cr_e h).1
        have h := (cr_e h).2
        refine v_icmp_ne C (tgt := 82) hz6 (by decide) h dX8_ofPoints_75 rfl (fun h => ?_) (fun h => ?_)
        · refine v_iconst C dX8_ofPoints_82 ?_
          exact wX8_ofPoints_83 C hr hc4 (lv_sub hl [0, 1, 2, 3] rfl) h
        · refine v_iconst C dX8_ofPoints_78 ?_
          refine v_goto C (tgt := 83) dX8_ofPoints_79 rfl ?_
          exact wX8_ofPoints_83 C hr hc4 (lv_sub hl [0, 1, 2, 3] rfl) h
      · refine v_aload_n C hl dX8_ofPoints_48 rfl 0 rfl ?_
        refine g_X8_18 C kdM_0 fl_X8_31 dX8_ofPoints_49 ?_
        refine v_iload_n C hl dX8_ofPoints_52 rfl 3 rfl ?_
        refine alM6 C kdM_8 h dX8_ofPoints_53 (fun h => ?_)
        have hz7 := (cr_e h).1
        have h := (cr_e h).2
        refine v_if_le C (tgt := 61) hz7 h dX8_ofPoints_54 rfl (fun h => ?_) (fun h => ?_)
        · refine v_iconst C dX8_ofPoints_61 ?_
          refine v_goto C (tgt := 83) dX8_ofPoints_62 rfl ?_
          exact wX8_ofPoints_83 C hr hc4 (lv_sub hl [0, 1, 2, 3] rfl) h
        · refine v_iconst C dX8_ofPoints_57 ?_
          refine v_goto C (tgt := 83) dX8_ofPoints_58 rfl ?_
          exact wX8_ofPoints_83 C hr hc4 (lv_sub hl [0, 1, 2, 3] rfl) h
    · refine v_aload_n C hl dX8_ofPoints_17 rfl 0 rfl ?_
      refine g_X8_18 C kdM_0 fl_X8_31 dX8_ofPoints_18 ?_
      refine v_iload_n C hl dX8_ofPoints_21 rfl 3 rfl ?_
      refine alM6 C kdM_8 h dX8_ofPoints_22 (fun h => ?_)
      have hz8 := (cr_e h).1
      have h := (cr_e h).2
      refine v_if_le C (tgt := 38) hz8 h dX8_ofPoints_23 rfl (fun h => ?_) (fun h => ?_)
      · exact wX8_ofPoints_38 C hr hc4 (lv_sub hl [0, 1, 2, 3] rfl) h
      · refine v_aload_n C hl dX8_ofPoints_26 rfl 0 rfl ?_
        refine v_iload_n C hl dX8_ofPoints_27 rfl 3 rfl ?_
        obtain ⟨x_9, hv9, h⟩ := bd_e h
        refine v_callVI C 0 (klM kdM_0) rfl (ckM1 kdM_0 _) rfl [.int (i32 v3)] (mX8_isNode C.2.2.2.2.1 hv9) cd_X8_isNode ic_X8 im_X8_isNode se_X8_isNode ml_X8_215 yk_X8_isNode ⟨rfl, rfl, by decide, by decide⟩ rfl hl.1 (rest := []) rfl (Nat.le_of_ble_eq_true rfl) dX8_ofPoints_28 ?_
        have hz10 := (cr_e h).1
        have h := (cr_e h).2
        refine v_if_eq C (tgt := 38) hz10 h dX8_ofPoints_31 rfl (fun h => ?_) (fun h => ?_)
        · exact wX8_ofPoints_38 C hr hc4 (lv_sub hl [0, 1, 2, 3] rfl) h
        · refine v_iconst C dX8_ofPoints_34 ?_
          refine v_goto C (tgt := 83) dX8_ofPoints_35 rfl ?_
          exact wX8_ofPoints_83 C hr hc4 (lv_sub hl [0, 1, 2, 3] rfl) h
theorem wlX8_ofPoints_4 (C : CxM p rmX8_ofPoints s m args meth c D ac q RX8 cX8_ofPoints 5) (hr : meth.sig.returnType = (some .int)) {v1 : Int} {σ : Mm} {e4 : Int → Option (Int)} {r : Int} (he4 : ∀ (v2x : Int) (ls : Array Slot), lv_has ls 5 [(0, .ref (q 0)), (2, .int (i32 v2x))] → e4 v2x = some r → VM p l e rmX8_ofPoints s m args below meth c D ac q (QIM D ac q below args s (r, σ)) σ (F0 m 104 ls [])) : ∀ (fu : Nat) (v2 : Int) (v3 : Int) (ls : Array Slot) (hl : lv_has ls 5 [(0, .ref (q 0)), (1, .int (i32 v1)), (2, .int (i32 v2)), (3, .int (i32 v3))]) (h : lX8_ofPoints_4 v1 σ e4 fu v2 v3 = some r), VM p l e rmX8_ofPoints s m args below meth c D ac q (QIM D ac q below args s (r, σ)) σ (F0 m 4 ls []) := by
  intro fu
  induction fu with
  | zero =>
    intro v2 v3 ls hl h
    have h : none = some r := h
    cases h
  | succ fu ih =>
    intro v2 v3 ls hl h
    exact wX8_ofPoints_4 C hr he4 (fun v2 v3 ls hl h => ih v2 v3 ls hl h) hl h
theorem mX8_ofPoints (hq : QI 19 q) {v1 : Int} {σ : Mm} {r : Int} (h : fX8_ofPoints v1 σ = some r) : MIM l D ac q yX8_ofPoints cX8_ofPoints 5 (some .int) rmX8_ofPoints [.ref (q 0), .int (i32 v1)] σ (r, σ) := by
  refine MI.of hq XT_M (by decide) (Nat.le_of_ble_eq_true rfl) (fun p e s m below meth c ls C hr hl => ?_)
  have hl : lv_has ls 5 [(0, .ref (q 0)), (1, .int (i32 v1))] := hl
  have h : bindv 0 (fun v2_1 => bindv 0 (fun v3_2 => lX8_ofPoints_4 v1 σ (fun v2_3 => fX8_ofPoints_104 v2_3 σ) 400 v2_1 v3_2)) = some r := h
  refine v_iconst C dX8_ofPoints_0 ?_
  refine v_istore_n C hl (fun x => [(2, .int (i32 x)), (0, .ref (q 0)), (1, .int (i32 v1))]) dX8_ofPoints_1 rfl (by decide) (fun _ => rfl) h (fun v2_1 ls hl h => ?_)
  refine v_iconst C dX8_ofPoints_2 ?_
  refine v_istore_n C hl (fun x => [(3, .int (i32 x)), (2, .int (i32 v2_1)), (0, .ref (q 0)), (1, .int (i32 v1))]) dX8_ofPoints_3 rfl (by decide) (fun _ => rfl) h (fun v3_2 ls hl h => ?_)
  exact wlX8_ofPoints_4 C hr (fun v2_3 ls hl h => wX8_ofPoints_104 C hr (lv_sub hl [0, 1] rfl) h) _ _ _ _ (lv_sub hl [2, 3, 1, 0] rfl) h
end
section
variable {l : Launch} {D : va_G} {ac : Nat → ClassId} {q : Nat → Nat} {p : Program} {e : Env} {s : State} {m : MethodId} {args : Array Value} {below : List Frame} {meth : Method} {c : Code} {ls : Array Slot}
theorem dX8_pin_0 : decode cX8_pin 0 = .ok (.aload_n 0, 1) := by decide +kernel
theorem dX8_pin_1 : decode cX8_pin 1 = .ok (.iload_n 1, 1) := by decide +kernel
theorem dX8_pin_2 : decode cX8_pin 2 = .ok (.invokevirtual 266, 3) := by decide +kernel
theorem dX8_pin_5 : decode cX8_pin 5 = .ok (.ifCond .eq 13, 3) := by decide +kernel
theorem dX8_pin_8 : decode cX8_pin 8 = .ok (.iload_n 2, 1) := by decide +kernel
theorem dX8_pin_9 : decode cX8_pin 9 = .ok (.i2l, 1) := by decide +kernel
theorem dX8_pin_10 : decode cX8_pin 10 = .ok (.lconst 0, 1) := by decide +kernel
theorem dX8_pin_11 : decode cX8_pin 11 = .ok (.lconst 1, 1) := by decide +kernel
theorem dX8_pin_12 : decode cX8_pin 12 = .ok (.invokestatic 67, 3) := by decide +kernel
theorem dX8_pin_15 : decode cX8_pin 15 = .ok (.ifCond .ne 5, 3) := by decide +kernel
theorem dX8_pin_18 : decode cX8_pin 18 = .ok (.iconst (-1), 1) := by decide +kernel
theorem dX8_pin_19 : decode cX8_pin 19 = .ok (.ireturn, 1) := by decide +kernel
theorem dX8_pin_20 : decode cX8_pin 20 = .ok (.aload_n 0, 1) := by decide +kernel
theorem dX8_pin_21 : decode cX8_pin 21 = .ok (.getfield 7, 3) := by decide +kernel
theorem dX8_pin_24 : decode cX8_pin 24 = .ok (.bipush 48, 2) := by decide +kernel
theorem dX8_pin_26 : decode cX8_pin 26 = .ok (.iload_n 1, 1) := by decide +kernel
theorem dX8_pin_27 : decode cX8_pin 27 = .ok (.iadd, 1) := by decide +kernel
theorem dX8_pin_28 : decode cX8_pin 28 = .ok (.iaload, 1) := by decide +kernel
theorem dX8_pin_29 : decode cX8_pin 29 = .ok (.istore_n 3, 1) := by decide +kernel
theorem dX8_pin_30 : decode cX8_pin 30 = .ok (.aload_n 0, 1) := by decide +kernel
theorem dX8_pin_31 : decode cX8_pin 31 = .ok (.getfield 7, 3) := by decide +kernel
theorem dX8_pin_34 : decode cX8_pin 34 = .ok (.bipush 48, 2) := by decide +kernel
theorem dX8_pin_36 : decode cX8_pin 36 = .ok (.iload_n 1, 1) := by decide +kernel
theorem dX8_pin_37 : decode cX8_pin 37 = .ok (.iadd, 1) := by decide +kernel
theorem dX8_pin_38 : decode cX8_pin 38 = .ok (.iload_n 2, 1) := by decide +kernel
theorem dX8_pin_39 : decode cX8_pin 39 = .ok (.iastore, 1) := by decide +kernel
theorem dX8_pin_40 : decode cX8_pin 40 = .ok (.aload_n 0, 1) := by decide +kernel
theorem dX8_pin_41 : decode cX8_pin 41 = .ok (.iconst 0, 1) := by decide +kernel
theorem dX8_pin_42 : decode cX8_pin 42 = .ok (.putfield 149, 3) := by decide +kernel
theorem dX8_pin_45 : decode cX8_pin 45 = .ok (.iload_n 3, 1) := by decide +kernel
theorem dX8_pin_46 : decode cX8_pin 46 = .ok (.ireturn, 1) := by decide +kernel
theorem wX8_pin_18 (C : CxM p rmX8_pin s m args meth c D ac q RX8 cX8_pin 4) (hr : meth.sig.returnType = (some .int)) {σ : Mm} {r : Int × Mm} (hl : lv_has ls 4 [(0, .ref (q 0))]) (h : fX8_pin_18 σ = some r) : VM p l e rmX8_pin s m args below meth c D ac q (QIM D ac q below args s r) σ (F0 m 18 ls []) := by
  have h : some ((-1), σ) = some r := h
  refine v_iconst C dX8_pin_18 ?_
  exact v_iret C hr h dX8_pin_19
theorem mX8_pin (hq : QI 19 q) {v1 : Int} {v2 : Int} {σ : Mm} {r : Int × Mm} (h : fX8_pin v1 v2 σ = some r) : MIM l D ac q yX8_pin cX8_pin 4 (some .int) rmX8_pin [.ref (q 0), .int (i32 v1), .int (i32 v2)] σ r := by
  refine MI.of hq XT_M (by decide) (Nat.le_of_ble_eq_true rfl) (fun p e s m below meth c ls C hr hl => ?_)
  have hl : lv_has ls 4 [(0, .ref (q 0)), (1, .int (i32 v1)), (2, .int (i32 v2))] := hl
  have h : bd (fX8_isPoint v1 σ) (fun x_1 => cr x_1 ((if x_1 = 0 then fX8_pin_18 σ else cr v2 (bd (fX8_in v2 0 1 σ) (fun x_3 => cr x_3 ((if x_3 = 0 then fX8_pin_18 σ else chk (48 + v1) 700 (bindv (σ 1 (48 + v1).toNat) (fun v3_5 => chk (48 + v1) 700 (bindv (sto σ 1 (48 + v1).toNat v2) (fun σ_6 => bindv (sto σ_6 0 17 0) (fun σ_7 => some (v3_5, σ_7))))))))))))) = some r := h
  refine v_aload_n C hl dX8_pin_0 rfl 0 rfl ?_
  refine v_iload_n C hl dX8_pin_1 rfl 1 rfl ?_
  obtain ⟨x_1, hv1, h⟩ := bd_e h
  refine v_callVI C 0 (klM kdM_0) rfl (ckM1 kdM_0 _) rfl [.int (i32 v1)] (mX8_isPoint C.2.2.2.2.1 hv1) cd_X8_isPoint ic_X8 im_X8_isPoint se_X8_isPoint ml_X8_266 yk_X8_isPoint ⟨rfl, rfl, by decide, by decide⟩ rfl hl.1 (rest := []) rfl (Nat.le_of_ble_eq_true rfl) dX8_pin_2 ?_
  have hz2 := (cr_e h).1
  have h := (cr_e h).2
  refine v_if_eq C (tgt := 18) hz2 h dX8_pin_5 rfl (fun h => ?_) (fun h => ?_)
  · exact wX8_pin_18 C hr (lv_sub hl [0] rfl) h
  · refine v_iload_n C hl dX8_pin_8 rfl 2 rfl ?_
    refine v_i2l C h dX8_pin_9 (fun h => ?_)
    refine v_lconst C (v := 0) dX8_pin_10 rfl ?_
    refine v_lconst C (v := 1) dX8_pin_11 rfl ?_
    obtain ⟨x_3, hv3, h⟩ := bd_e h
    refine v_callSI C [.long (i64 v2), .long (i64 0), .long (i64 1)] (mX8_in C.2.2.2.2.1 hv3) cd_X8_in ic_X8 sm_X8_in ml_X8_67 yk_X8_in ⟨rfl, rfl, by decide, by decide⟩ rfl hl.1 (rest := []) rfl (Nat.le_of_ble_eq_true rfl) dX8_pin_12 ?_
    have hz4 := (cr_e h).1
    have h := (cr_e h).2
    refine v_if_ne C (tgt := 20) hz4 h dX8_pin_15 rfl (fun h => ?_) (fun h => ?_)
    · refine v_aload_n C hl dX8_pin_20 rfl 0 rfl ?_
      refine g_X8_0 C kdM_0 fl_X8_7 dX8_pin_21 ?_
      refine v_bipush C dX8_pin_24 rfl ?_
      refine v_iload_n C hl dX8_pin_26 rfl 1 rfl ?_
      refine v_iadd C dX8_pin_27 ?_
      refine alM2 C kdM_1 h dX8_pin_28 (fun h => ?_)
      refine v_istore_n C hl (fun x => [(3, .int (i32 x)), (0, .ref (q 0)), (1, .int (i32 v1)), (2, .int (i32 v2))]) dX8_pin_29 rfl (by decide) (fun _ => rfl) h (fun v3_5 ls hl h => ?_)
      refine v_aload_n C hl dX8_pin_30 rfl 1 rfl ?_
      refine g_X8_0 C kdM_0 fl_X8_7 dX8_pin_31 ?_
      refine v_bipush C dX8_pin_34 rfl ?_
      refine v_iload_n C hl dX8_pin_36 rfl 2 rfl ?_
      refine v_iadd C dX8_pin_37 ?_
      refine v_iload_n C hl dX8_pin_38 rfl 3 rfl ?_
      refine asM2 C kdM_1 h dX8_pin_39 (fun σ_6 h => ?_)
      refine v_aload_n C hl dX8_pin_40 rfl 1 rfl ?_
      refine v_iconst C dX8_pin_41 ?_
      refine s_X8_17 C kdM_0 fl_X8_149 (Or.inl rfl) h dX8_pin_42 (fun σ_7 h => ?_)
      refine v_iload_n C hl dX8_pin_45 rfl 0 rfl ?_
      exact v_iret C hr h dX8_pin_46
    · exact wX8_pin_18 C hr (lv_sub hl [0] rfl) h
end
section
variable {l : Launch} {D : va_G} {ac : Nat → ClassId} {q : Nat → Nat} {p : Program} {e : Env} {s : State} {m : MethodId} {args : Array Value} {below : List Frame} {meth : Method} {c : Code} {ls : Array Slot}
theorem dX8_point_0 : decode cX8_point 0 = .ok (.aload_n 0, 1) := by decide +kernel
theorem dX8_point_1 : decode cX8_point 1 = .ok (.iload_n 1, 1) := by decide +kernel
theorem dX8_point_2 : decode cX8_point 2 = .ok (.invokevirtual 266, 3) := by decide +kernel
theorem dX8_point_5 : decode cX8_point 5 = .ok (.ifCond .ne 5, 3) := by decide +kernel
theorem dX8_point_8 : decode cX8_point 8 = .ok (.iconst (-1), 1) := by decide +kernel
theorem dX8_point_9 : decode cX8_point 9 = .ok (.ireturn, 1) := by decide +kernel
theorem dX8_point_10 : decode cX8_point 10 = .ok (.aload_n 0, 1) := by decide +kernel
theorem dX8_point_11 : decode cX8_point 11 = .ok (.invokevirtual 257, 3) := by decide +kernel
theorem dX8_point_14 : decode cX8_point 14 = .ok (.iload_n 2, 1) := by decide +kernel
theorem dX8_point_15 : decode cX8_point 15 = .ok (.tableswitch 127 0 7 #[45, 52, 62, 69, 83, 89, 110, 117], 45) := by decide +kernel
theorem dX8_point_60 : decode cX8_point 60 = .ok (.aload_n 0, 1) := by decide +kernel
theorem dX8_point_61 : decode cX8_point 61 = .ok (.getfield 7, 3) := by decide +kernel
theorem dX8_point_64 : decode cX8_point 64 = .ok (.iload_n 1, 1) := by decide +kernel
theorem dX8_point_65 : decode cX8_point 65 = .ok (.iaload, 1) := by decide +kernel
theorem dX8_point_66 : decode cX8_point 66 = .ok (.ireturn, 1) := by decide +kernel
theorem dX8_point_67 : decode cX8_point 67 = .ok (.aload_n 0, 1) := by decide +kernel
theorem dX8_point_68 : decode cX8_point 68 = .ok (.getfield 7, 3) := by decide +kernel
theorem dX8_point_71 : decode cX8_point 71 = .ok (.bipush 24, 2) := by decide +kernel
theorem dX8_point_73 : decode cX8_point 73 = .ok (.iload_n 1, 1) := by decide +kernel
theorem dX8_point_74 : decode cX8_point 74 = .ok (.iadd, 1) := by decide +kernel
theorem dX8_point_75 : decode cX8_point 75 = .ok (.iaload, 1) := by decide +kernel
theorem dX8_point_76 : decode cX8_point 76 = .ok (.ireturn, 1) := by decide +kernel
theorem dX8_point_77 : decode cX8_point 77 = .ok (.aload_n 0, 1) := by decide +kernel
theorem dX8_point_78 : decode cX8_point 78 = .ok (.getfield 31, 3) := by decide +kernel
theorem dX8_point_81 : decode cX8_point 81 = .ok (.iload_n 1, 1) := by decide +kernel
theorem dX8_point_82 : decode cX8_point 82 = .ok (.iaload, 1) := by decide +kernel
theorem dX8_point_83 : decode cX8_point 83 = .ok (.ireturn, 1) := by decide +kernel
theorem dX8_point_84 : decode cX8_point 84 = .ok (.aload_n 0, 1) := by decide +kernel
theorem dX8_point_85 : decode cX8_point 85 = .ok (.iload_n 1, 1) := by decide +kernel
theorem dX8_point_86 : decode cX8_point 86 = .ok (.invokevirtual 215, 3) := by decide +kernel
theorem dX8_point_89 : decode cX8_point 89 = .ok (.ifCond .eq 7, 3) := by decide +kernel
theorem dX8_point_92 : decode cX8_point 92 = .ok (.iconst 1, 1) := by decide +kernel
theorem dX8_point_93 : decode cX8_point 93 = .ok (.goto 4, 3) := by decide +kernel
theorem dX8_point_96 : decode cX8_point 96 = .ok (.iconst 0, 1) := by decide +kernel
theorem dX8_point_97 : decode cX8_point 97 = .ok (.ireturn, 1) := by decide +kernel
theorem dX8_point_98 : decode cX8_point 98 = .ok (.aload_n 0, 1) := by decide +kernel
theorem dX8_point_99 : decode cX8_point 99 = .ok (.iload_n 1, 1) := by decide +kernel
theorem dX8_point_100 : decode cX8_point 100 = .ok (.invokevirtual 269, 3) := by decide +kernel
theorem dX8_point_103 : decode cX8_point 103 = .ok (.ireturn, 1) := by decide +kernel
theorem dX8_point_104 : decode cX8_point 104 = .ok (.aload_n 0, 1) := by decide +kernel
theorem dX8_point_105 : decode cX8_point 105 = .ok (.getfield 22, 3) := by decide +kernel
theorem dX8_point_108 : decode cX8_point 108 = .ok (.iload_n 1, 1) := by decide +kernel
theorem dX8_point_109 : decode cX8_point 109 = .ok (.iaload, 1) := by decide +kernel
theorem dX8_point_110 : decode cX8_point 110 = .ok (.ifCond .ne 8, 3) := by decide +kernel
theorem dX8_point_113 : decode cX8_point 113 = .ok (.bipush (-4), 2) := by decide +kernel
theorem dX8_point_115 : decode cX8_point 115 = .ok (.goto 9, 3) := by decide +kernel
theorem dX8_point_118 : decode cX8_point 118 = .ok (.aload_n 0, 1) := by decide +kernel
theorem dX8_point_119 : decode cX8_point 119 = .ok (.getfield 22, 3) := by decide +kernel
theorem dX8_point_122 : decode cX8_point 122 = .ok (.iload_n 1, 1) := by decide +kernel
theorem dX8_point_123 : decode cX8_point 123 = .ok (.iaload, 1) := by decide +kernel
theorem dX8_point_124 : decode cX8_point 124 = .ok (.ireturn, 1) := by decide +kernel
theorem dX8_point_125 : decode cX8_point 125 = .ok (.aload_n 0, 1) := by decide +kernel
theorem dX8_point_126 : decode cX8_point 126 = .ok (.getfield 25, 3) := by decide +kernel
theorem dX8_point_129 : decode cX8_point 129 = .ok (.iload_n 1, 1) := by decide +kernel
theorem dX8_point_130 : decode cX8_point 130 = .ok (.iaload, 1) := by decide +kernel
theorem dX8_point_131 : decode cX8_point 131 = .ok (.ireturn, 1) := by decide +kernel
theorem dX8_point_132 : decode cX8_point 132 = .ok (.aload_n 0, 1) := by decide +kernel
theorem dX8_point_133 : decode cX8_point 133 = .ok (.getfield 7, 3) := by decide +kernel
theorem dX8_point_136 : decode cX8_point 136 = .ok (.bipush 48, 2) := by decide +kernel
theorem dX8_point_138 : decode cX8_point 138 = .ok (.iload_n 1, 1) := by decide +kernel
theorem dX8_point_139 : decode cX8_point 139 = .ok (.iadd, 1) := by decide +kernel
theorem dX8_point_140 : decode cX8_point 140 = .ok (.iaload, 1) := by decide +kernel
theorem dX8_point_141 : decode cX8_point 141 = .ok (.ireturn, 1) := by decide +kernel
theorem dX8_point_142 : decode cX8_point 142 = .ok (.iconst (-1), 1) := by decide +kernel
theorem dX8_point_143 : decode cX8_point 143 = .ok (.ireturn, 1) := by decide +kernel
theorem wX8_point_124 (C : CxM p rmX8_point s m args meth c D ac q RX8 cX8_point 3) (hr : meth.sig.returnType = (some .int)) {t0 : Int} {σ : Mm} {r : Int × Mm} (hl : lv_has ls 3 [(0, .ref (q 0))]) (h : fX8_point_124 t0 σ = some r) : VM p l e rmX8_point s m args below meth c D ac q (QIM D ac q below args s r) σ (F0 m 124 ls [.int (i32 t0)]) := by
  have h : some (t0, σ) = some r := h
  exact v_iret C hr h dX8_point_124
theorem wX8_point_97 (C : CxM p rmX8_point s m args meth c D ac q RX8 cX8_point 3) (hr : meth.sig.returnType = (some .int)) {t0 : Int} {σ : Mm} {r : Int × Mm} (hl : lv_has ls 3 [(0, .ref (q 0))]) (h : fX8_point_97 t0 σ = some r) : VM p l e rmX8_point s m args below meth c D ac q (QIM D ac q below args s r) σ (F0 m 97 ls [.int (i32 t0)]) := by
  have h : some (t0, σ) = some r := h
  exact v_iret C hr h dX8_point_97
theorem mX8_point (hq : QI 19 q) {v1 : Int} {v2 : Int} {σ : Mm} {r : Int × Mm} (h : fX8_point v1 v2 σ = some r) : MIM l D ac q yX8_point cX8_point 3 (some .int) rmX8_point [.ref (q 0), .int (i32 v1), .int (i32 v2)] σ r := by
  refine MI.of hq XT_M (by decide) (Nat.le_of_ble_eq_true rfl) (fun p e s m below meth c ls C hr hl => ?_)
  have hl : lv_has ls 3 [(0, .ref (q 0)), (1, .int (i32 v1)), (2, .int (i32 v2))] := hl
  have h : bd (fX8_isPoint v1 σ) (fun x_1 => cr x_1 ((if x_1 = 0 then some ((-1), σ) else bd (fX8_makes σ) (fun σ_3 => cr v2 ((if v2 = 0 then chk v1 700 (some (σ_3 1 (v1).toNat, σ_3)) else (if v2 = 1 then chk (24 + v1) 700 (some (σ_3 1 (24 + v1).toNat, σ_3)) else (if v2 = 2 then chk v1 24 (some (σ_3 8 (v1).toNat, σ_3)) else (if v2 = 3 then bd (fX8_isNode v1 σ_3) (fun x_9 => cr x_9 ((if x_9 = 0 then fX8_point_97 0 σ_3 else fX8_point_97 1 σ_3))) else (if v2 = 4 then bd (fX8_arcOfPoint v1 σ_3) (fun x_12 => some (x_12, σ_3)) else (if v2 = 5 then chk v1 24 (cr (σ_3 5 (v1).toNat) ((if σ_3 5 (v1).toNat = 0 then fX8_point_124 (-4) σ_3 else chk v1 24 (fX8_point_124 (σ_3 5 (v1).toNat) σ_3)))) else (if v2 = 6 then chk v1 24 (some (σ_3 6 (v1).toNat, σ_3)) else (if v2 = 7 then chk (48 + v1) 700 (some (σ_3 1 (48 + v1).toNat, σ_3)) else some ((-1), σ_3)))))))))))))) = some r := h
  refine v_aload_n C hl dX8_point_0 rfl 0 rfl ?_
  refine v_iload_n C hl dX8_point_1 rfl 1 rfl ?_
  obtain ⟨x_1, hv1, h⟩ := bd_e h
  refine v_callVI C 0 (klM kdM_0) rfl (ckM1 kdM_0 _) rfl [.int (i32 v1)] (mX8_isPoint C.2.2.2.2.1 hv1) cd_X8_isPoint ic_X8 im_X8_isPoint se_X8_isPoint ml_X8_266 yk_X8_isPoint ⟨rfl, rfl, by decide, by decide⟩ rfl hl.1 (rest := []) rfl (Nat.le_of_ble_eq_true rfl) dX8_point_2 ?_
  have hz2 := (cr_e h).1
  have h := (cr_e h).2
  refine v_if_ne C (tgt := 10) hz2 h dX8_point_5 rfl (fun h => ?_) (fun h => ?_)
  · refine v_aload_n C hl dX8_point_10 rfl 0 rfl ?_
    obtain ⟨σ_3, hv3, h⟩ := bd_e h
    refine v_callVV C 0 (klM kdM_0) rfl (ckM1 kdM_0 _) rfl [] (mX8_makes C.2.2.2.2.1 hv3) cd_X8_makes ic_X8 im_X8_makes se_X8_makes ml_X8_257 yk_X8_makes ⟨rfl, rfl, by decide, by decide⟩ rfl hl.1 (rest := []) rfl (Nat.le_of_ble_eq_true rfl) dX8_point_11 ?_
    refine v_iload_n C hl dX8_point_14 rfl 2 rfl ?_
    have hz4 := (cr_e h).1
    have h := (cr_e h).2
    rcases sw_e h with ⟨hc5, h⟩ | ⟨hc5, h⟩
    · refine v_tabIn C (tgt := 60) hz4 hc5 dX8_point_15 (by decide) (by decide) rfl rfl ?_
      refine v_aload_n C hl dX8_point_60 rfl 0 rfl ?_
      refine g_X8_0 C kdM_0 fl_X8_7 dX8_point_61 ?_
      refine v_iload_n C hl dX8_point_64 rfl 1 rfl ?_
      refine alM2 C kdM_1 h dX8_point_65 (fun h => ?_)
      exact v_iret C hr h dX8_point_66
    · skip
      rcases sw_e h with ⟨hc6, h⟩ | ⟨hc6, h⟩
      · refine v_tabIn C (tgt := 67) hz4 hc6 dX8_point_15 (by decide) (by decide) rfl rfl ?_
        refine v_aload_n C hl dX8_point_67 rfl 0 rfl ?_
        refine g_X8_0 C kdM_0 fl_X8_7 dX8_point_68 ?_
        refine v_bipush C dX8_point_71 rfl ?_
        refine v_iload_n C hl dX8_point_73 rfl 1 rfl ?_
        refine v_iadd C dX8_point_74 ?_
        refine alM2 C kdM_1 h dX8_point_75 (fun h => ?_)
        exact v_iret C hr h dX8_point_76
      · skip
        rcases sw_e h with ⟨hc7, h⟩ | ⟨hc7, h⟩
        · refine v_tabIn C (tgt := 77) hz4 hc7 dX8_point_15 (by decide) (by decide) rfl rfl ?_
          refine v_aload_n C hl dX8_point_77 rfl 0 rfl ?_
          refine g_X8_18 C kdM_0 fl_X8_31 dX8_point_78 ?_
          refine v_iload_n C hl dX8_point_81 rfl 1 rfl ?_
          refine alM6 C kdM_8 h dX8_point_82 (fun h => ?_)
          exact v_iret C hr h dX8_point_83
        · skip
          rcases sw_e h with ⟨hc8, h⟩ | ⟨hc8, h⟩
          · refine v_tabIn C (tgt := 84) hz4 hc8 dX8_point_15 (by decide) (by decide) rfl rfl ?_
            refine v_aload_n C hl dX8_point_84 rfl 0 rfl ?_
            refine v_iload_n C hl dX8_point_85 rfl 1 rfl ?_
            obtain ⟨x_9, hv9, h⟩ := bd_e h
            refine v_callVI C 0 (klM kdM_0) rfl (ckM1 kdM_0 _) rfl [.int (i32 v1)] (mX8_isNode C.2.2.2.2.1 hv9) cd_X8_isNode ic_X8 im_X8_isNode se_X8_isNode ml_X8_215 yk_X8_isNode ⟨rfl, rfl, by decide, by decide⟩ rfl hl.1 (rest := []) rfl (Nat.le_of_ble_eq_true rfl) dX8_point_86 ?_
            have hz10 := (cr_e h).1
            have h := (cr_e h).2
            refine v_if_eq C (tgt := 96) hz10 h dX8_point_89 rfl (fun h => ?_) (fun h => ?_)
            · refine v_iconst C dX8_point_96 ?_
              exact wX8_point_97 C hr (lv_sub hl [0] rfl) h
            · refine v_iconst C dX8_point_92 ?_
              refine v_goto C (tgt := 97) dX8_point_93 rfl ?_
              exact wX8_point_97 C hr (lv_sub hl [0] rfl) h
          · skip
            rcases sw_e h with ⟨hc11, h⟩ | ⟨hc11, h⟩
            · refine v_tabIn C (tgt := 98) hz4 hc11 dX8_point_15 (by decide) (by decide) rfl rfl ?_
              refine v_aload_n C hl dX8_point_98 rfl 0 rfl ?_
              refine v_iload_n C hl dX8_point_99 rfl 1 rfl ?_
              obtain ⟨x_12, hv12, h⟩ := bd_e h
              refine v_callVI C 0 (klM kdM_0) rfl (ckM1 kdM_0 _) rfl [.int (i32 v1)] (mX8_arcOfPoint C.2.2.2.2.1 hv12) cd_X8_arcOfPoint ic_X8 im_X8_arcOfPoint se_X8_arcOfPoint ml_X8_269 yk_X8_arcOfPoint ⟨rfl, rfl, by decide, by decide⟩ rfl hl.1 (rest := []) rfl (Nat.le_of_ble_eq_true rfl) dX8_point_100 ?_
              exact v_iret C hr h dX8_point_103
            · skip
              rcases sw_e h with ⟨hc13, h⟩ | ⟨hc13, h⟩
              · refine v_tabIn C (tgt := 104) hz4 hc13 dX8_point_15 (by decide) (by decide) rfl rfl ?_
                refine v_aload_n C hl dX8_point_104 rfl 0 rfl ?_
                refine g_X8_13 C kdM_0 fl_X8_22 dX8_point_105 ?_
                refine v_iload_n C hl dX8_point_108 rfl 1 rfl ?_
                refine alM6 C kdM_5 h dX8_point_109 (fun h => ?_)
                have hz14 := (cr_e h).1
                have h := (cr_e h).2
                refine v_if_ne C (tgt := 118) hz14 h dX8_point_110 rfl (fun h => ?_) (fun h => ?_)
                · refine v_aload_n C hl dX8_point_118 rfl 0 rfl ?_
                  refine g_X8_13 C kdM_0 fl_X8_22 dX8_point_119 ?_
                  refine v_iload_n C hl dX8_point_122 rfl 1 rfl ?_
                  refine alM6 C kdM_5 h dX8_point_123 (fun h => ?_)
                  exact wX8_point_124 C hr (lv_sub hl [0] rfl) h
                · refine v_bipush C dX8_point_113 rfl ?_
                  refine v_goto C (tgt := 124) dX8_point_115 rfl ?_
                  exact wX8_point_124 C hr (lv_sub hl [0] rfl) h
              · skip
                rcases sw_e h with ⟨hc15, h⟩ | ⟨hc15, h⟩
                · refine v_tabIn C (tgt := 125) hz4 hc15 dX8_point_15 (by decide) (by decide) rfl rfl ?_
                  refine v_aload_n C hl dX8_point_125 rfl 0 rfl ?_
                  refine g_X8_14 C kdM_0 fl_X8_25 dX8_point_126 ?_
                  refine v_iload_n C hl dX8_point_129 rfl 1 rfl ?_
                  refine alM6 C kdM_6 h dX8_point_130 (fun h => ?_)
                  exact v_iret C hr h dX8_point_131
                · skip
                  rcases sw_e h with ⟨hc16, h⟩ | ⟨hc16, h⟩
                  · refine v_tabIn C (tgt := 132) hz4 hc16 dX8_point_15 (by decide) (by decide) rfl rfl ?_
                    refine v_aload_n C hl dX8_point_132 rfl 0 rfl ?_
                    refine g_X8_0 C kdM_0 fl_X8_7 dX8_point_133 ?_
                    refine v_bipush C dX8_point_136 rfl ?_
                    refine v_iload_n C hl dX8_point_138 rfl 1 rfl ?_
                    refine v_iadd C dX8_point_139 ?_
                    refine alM2 C kdM_1 h dX8_point_140 (fun h => ?_)
                    exact v_iret C hr h dX8_point_141
                  · skip
                    refine v_tabOut C (tgt := 142) hz4 dX8_point_15 (by omega) rfl ?_
                    refine v_iconst C dX8_point_142 ?_
                    exact v_iret C hr h dX8_point_143
  · refine v_iconst C dX8_point_8 ?_
    exact v_iret C hr h dX8_point_9
end
section
variable {l : Launch} {D : va_G} {ac : Nat → ClassId} {q : Nat → Nat} {p : Program} {e : Env} {s : State} {m : MethodId} {args : Array Value} {below : List Frame} {meth : Method} {c : Code} {ls : Array Slot}
theorem dX8_read_0 : decode cX8_read 0 = .ok (.iload_n 1, 1) := by decide +kernel
theorem dX8_read_1 : decode cX8_read 1 = .ok (.i2l, 1) := by decide +kernel
theorem dX8_read_2 : decode cX8_read 2 = .ok (.lconst 0, 1) := by decide +kernel
theorem dX8_read_3 : decode cX8_read 3 = .ok (.ldc2_w 309, 3) := by decide +kernel
theorem dX8_read_6 : decode cX8_read 6 = .ok (.invokestatic 67, 3) := by decide +kernel
theorem dX8_read_9 : decode cX8_read 9 = .ok (.ifCond .eq 28, 3) := by decide +kernel
theorem dX8_read_12 : decode cX8_read 12 = .ok (.iload_n 2, 1) := by decide +kernel
theorem dX8_read_13 : decode cX8_read 13 = .ok (.i2l, 1) := by decide +kernel
theorem dX8_read_14 : decode cX8_read 14 = .ok (.lconst 0, 1) := by decide +kernel
theorem dX8_read_15 : decode cX8_read 15 = .ok (.ldc2_w 281, 3) := by decide +kernel
theorem dX8_read_18 : decode cX8_read 18 = .ok (.invokestatic 67, 3) := by decide +kernel
theorem dX8_read_21 : decode cX8_read 21 = .ok (.ifCond .eq 16, 3) := by decide +kernel
theorem dX8_read_24 : decode cX8_read 24 = .ok (.iload 4, 2) := by decide +kernel
theorem dX8_read_26 : decode cX8_read 26 = .ok (.i2l, 1) := by decide +kernel
theorem dX8_read_27 : decode cX8_read 27 = .ok (.lconst 0, 1) := by decide +kernel
theorem dX8_read_28 : decode cX8_read 28 = .ok (.ldc2_w 311, 3) := by decide +kernel
theorem dX8_read_31 : decode cX8_read 31 = .ok (.invokestatic 67, 3) := by decide +kernel
theorem dX8_read_34 : decode cX8_read 34 = .ok (.ifCond .ne 5, 3) := by decide +kernel
theorem dX8_read_37 : decode cX8_read 37 = .ok (.iconst (-1), 1) := by decide +kernel
theorem dX8_read_38 : decode cX8_read 38 = .ok (.ireturn, 1) := by decide +kernel
theorem dX8_read_39 : decode cX8_read 39 = .ok (.aload_n 0, 1) := by decide +kernel
theorem dX8_read_40 : decode cX8_read 40 = .ok (.iconst 0, 1) := by decide +kernel
theorem dX8_read_41 : decode cX8_read 41 = .ok (.sipush 560, 3) := by decide +kernel
theorem dX8_read_44 : decode cX8_read 44 = .ok (.invokevirtual 145, 3) := by decide +kernel
theorem dX8_read_47 : decode cX8_read 47 = .ok (.iconst 0, 1) := by decide +kernel
theorem dX8_read_48 : decode cX8_read 48 = .ok (.istore 5, 2) := by decide +kernel
theorem dX8_read_50 : decode cX8_read 50 = .ok (.iconst 0, 1) := by decide +kernel
theorem dX8_read_51 : decode cX8_read 51 = .ok (.istore 6, 2) := by decide +kernel
theorem dX8_read_53 : decode cX8_read 53 = .ok (.iconst 0, 1) := by decide +kernel
theorem dX8_read_54 : decode cX8_read 54 = .ok (.istore 7, 2) := by decide +kernel
theorem dX8_read_56 : decode cX8_read 56 = .ok (.iload 7, 2) := by decide +kernel
theorem dX8_read_58 : decode cX8_read 58 = .ok (.iconst 3, 1) := by decide +kernel
theorem dX8_read_59 : decode cX8_read 59 = .ok (.iload 4, 2) := by decide +kernel
theorem dX8_read_61 : decode cX8_read 61 = .ok (.imul, 1) := by decide +kernel
theorem dX8_read_62 : decode cX8_read 62 = .ok (.if_icmp .ge 153, 3) := by decide +kernel
theorem dX8_read_65 : decode cX8_read 65 = .ok (.iload 5, 2) := by decide +kernel
theorem dX8_read_67 : decode cX8_read 67 = .ok (.ifCond .ne 148, 3) := by decide +kernel
theorem dX8_read_70 : decode cX8_read 70 = .ok (.iload_n 3, 1) := by decide +kernel
theorem dX8_read_71 : decode cX8_read 71 = .ok (.i2l, 1) := by decide +kernel
theorem dX8_read_72 : decode cX8_read 72 = .ok (.iload 7, 2) := by decide +kernel
theorem dX8_read_74 : decode cX8_read 74 = .ok (.i2l, 1) := by decide +kernel
theorem dX8_read_75 : decode cX8_read 75 = .ok (.ladd, 1) := by decide +kernel
theorem dX8_read_76 : decode cX8_read 76 = .ok (.lstore 8, 2) := by decide +kernel
theorem dX8_read_78 : decode cX8_read 78 = .ok (.aload_n 0, 1) := by decide +kernel
theorem dX8_read_79 : decode cX8_read 79 = .ok (.getfield 56, 3) := by decide +kernel
theorem dX8_read_82 : decode cX8_read 82 = .ok (.iload_n 1, 1) := by decide +kernel
theorem dX8_read_83 : decode cX8_read 83 = .ok (.iaload, 1) := by decide +kernel
theorem dX8_read_84 : decode cX8_read 84 = .ok (.bipush (-4), 2) := by decide +kernel
theorem dX8_read_86 : decode cX8_read 86 = .ok (.if_icmp .ne 7, 3) := by decide +kernel
theorem dX8_read_89 : decode cX8_read 89 = .ok (.iconst 1, 1) := by decide +kernel
theorem dX8_read_90 : decode cX8_read 90 = .ok (.goto 40, 3) := by decide +kernel
theorem dX8_read_93 : decode cX8_read 93 = .ok (.aload_n 0, 1) := by decide +kernel
theorem dX8_read_94 : decode cX8_read 94 = .ok (.getfield 56, 3) := by decide +kernel
theorem dX8_read_97 : decode cX8_read 97 = .ok (.iload_n 1, 1) := by decide +kernel
theorem dX8_read_98 : decode cX8_read 98 = .ok (.iaload, 1) := by decide +kernel
theorem dX8_read_99 : decode cX8_read 99 = .ok (.iload_n 2, 1) := by decide +kernel
theorem dX8_read_100 : decode cX8_read 100 = .ok (.if_icmp .eq 7, 3) := by decide +kernel
theorem dX8_read_103 : decode cX8_read 103 = .ok (.iconst 3, 1) := by decide +kernel
theorem dX8_read_104 : decode cX8_read 104 = .ok (.goto 26, 3) := by decide +kernel
theorem dX8_read_107 : decode cX8_read 107 = .ok (.lload 8, 2) := by decide +kernel
theorem dX8_read_109 : decode cX8_read 109 = .ok (.lconst 0, 1) := by decide +kernel
theorem dX8_read_110 : decode cX8_read 110 = .ok (.aload_n 0, 1) := by decide +kernel
theorem dX8_read_111 : decode cX8_read 111 = .ok (.getfield 59, 3) := by decide +kernel
theorem dX8_read_114 : decode cX8_read 114 = .ok (.iload_n 1, 1) := by decide +kernel
theorem dX8_read_115 : decode cX8_read 115 = .ok (.iaload, 1) := by decide +kernel
theorem dX8_read_116 : decode cX8_read 116 = .ok (.iconst 1, 1) := by decide +kernel
theorem dX8_read_117 : decode cX8_read 117 = .ok (.isub, 1) := by decide +kernel
theorem dX8_read_118 : decode cX8_read 118 = .ok (.i2l, 1) := by decide +kernel
theorem dX8_read_119 : decode cX8_read 119 = .ok (.invokestatic 67, 3) := by decide +kernel
theorem dX8_read_122 : decode cX8_read 122 = .ok (.ifCond .ne 7, 3) := by decide +kernel
theorem dX8_read_125 : decode cX8_read 125 = .ok (.iconst 2, 1) := by decide +kernel
theorem dX8_read_126 : decode cX8_read 126 = .ok (.goto 4, 3) := by decide +kernel
theorem dX8_read_129 : decode cX8_read 129 = .ok (.iconst 0, 1) := by decide +kernel
theorem dX8_read_130 : decode cX8_read 130 = .ok (.istore 5, 2) := by decide +kernel
theorem dX8_read_132 : decode cX8_read 132 = .ok (.iload 5, 2) := by decide +kernel
theorem dX8_read_134 : decode cX8_read 134 = .ok (.ifCond .ne 75, 3) := by decide +kernel
theorem dX8_read_137 : decode cX8_read 137 = .ok (.iload 7, 2) := by decide +kernel
theorem dX8_read_139 : decode cX8_read 139 = .ok (.iconst 3, 1) := by decide +kernel
theorem dX8_read_140 : decode cX8_read 140 = .ok (.irem, 1) := by decide +kernel
theorem dX8_read_141 : decode cX8_read 141 = .ok (.iconst 2, 1) := by decide +kernel
theorem dX8_read_142 : decode cX8_read 142 = .ok (.if_icmp .ne 67, 3) := by decide +kernel
theorem dX8_read_145 : decode cX8_read 145 = .ok (.bipush 40, 2) := by decide +kernel
theorem dX8_read_147 : decode cX8_read 147 = .ok (.iload_n 1, 1) := by decide +kernel
theorem dX8_read_148 : decode cX8_read 148 = .ok (.imul, 1) := by decide +kernel
theorem dX8_read_149 : decode cX8_read 149 = .ok (.lload 8, 2) := by decide +kernel
theorem dX8_read_151 : decode cX8_read 151 = .ok (.l2i, 1) := by decide +kernel
theorem dX8_read_152 : decode cX8_read 152 = .ok (.iadd, 1) := by decide +kernel
theorem dX8_read_153 : decode cX8_read 153 = .ok (.istore 10, 2) := by decide +kernel
theorem dX8_read_155 : decode cX8_read 155 = .ok (.aload_n 0, 1) := by decide +kernel
theorem dX8_read_156 : decode cX8_read 156 = .ok (.aload_n 0, 1) := by decide +kernel
theorem dX8_read_157 : decode cX8_read 157 = .ok (.getfield 62, 3) := by decide +kernel
theorem dX8_read_160 : decode cX8_read 160 = .ok (.iload 10, 2) := by decide +kernel
theorem dX8_read_162 : decode cX8_read 162 = .ok (.iconst 2, 1) := by decide +kernel
theorem dX8_read_163 : decode cX8_read 163 = .ok (.isub, 1) := by decide +kernel
theorem dX8_read_164 : decode cX8_read 164 = .ok (.iaload, 1) := by decide +kernel
theorem dX8_read_165 : decode cX8_read 165 = .ok (.aload_n 0, 1) := by decide +kernel
theorem dX8_read_166 : decode cX8_read 166 = .ok (.getfield 62, 3) := by decide +kernel
theorem dX8_read_169 : decode cX8_read 169 = .ok (.iload 10, 2) := by decide +kernel
theorem dX8_read_171 : decode cX8_read 171 = .ok (.iconst 1, 1) := by decide +kernel
theorem dX8_read_172 : decode cX8_read 172 = .ok (.isub, 1) := by decide +kernel
theorem dX8_read_173 : decode cX8_read 173 = .ok (.iaload, 1) := by decide +kernel
theorem dX8_read_174 : decode cX8_read 174 = .ok (.aload_n 0, 1) := by decide +kernel
theorem dX8_read_175 : decode cX8_read 175 = .ok (.getfield 62, 3) := by decide +kernel
theorem dX8_read_178 : decode cX8_read 178 = .ok (.iload 10, 2) := by decide +kernel
theorem dX8_read_180 : decode cX8_read 180 = .ok (.iaload, 1) := by decide +kernel
theorem dX8_read_181 : decode cX8_read 181 = .ok (.invokevirtual 303, 3) := by decide +kernel
theorem dX8_read_184 : decode cX8_read 184 = .ok (.ifCond .ge 22, 3) := by decide +kernel
theorem dX8_read_187 : decode cX8_read 187 = .ok (.aload_n 0, 1) := by decide +kernel
theorem dX8_read_188 : decode cX8_read 188 = .ok (.sipush 560, 3) := by decide +kernel
theorem dX8_read_191 : decode cX8_read 191 = .ok (.iconst 0, 1) := by decide +kernel
theorem dX8_read_192 : decode cX8_read 192 = .ok (.invokevirtual 145, 3) := by decide +kernel
theorem dX8_read_195 : decode cX8_read 195 = .ok (.aload_n 0, 1) := by decide +kernel
theorem dX8_read_196 : decode cX8_read 196 = .ok (.iconst 0, 1) := by decide +kernel
theorem dX8_read_197 : decode cX8_read 197 = .ok (.putfield 149, 3) := by decide +kernel
theorem dX8_read_200 : decode cX8_read 200 = .ok (.bipush (-20), 2) := by decide +kernel
theorem dX8_read_202 : decode cX8_read 202 = .ok (.iload 6, 2) := by decide +kernel
theorem dX8_read_204 : decode cX8_read 204 = .ok (.isub, 1) := by decide +kernel
theorem dX8_read_205 : decode cX8_read 205 = .ok (.ireturn, 1) := by decide +kernel
theorem dX8_read_206 : decode cX8_read 206 = .ok (.iinc 6 1, 3) := by decide +kernel
theorem dX8_read_209 : decode cX8_read 209 = .ok (.iinc 7 1, 3) := by decide +kernel
theorem dX8_read_212 : decode cX8_read 212 = .ok (.goto (-156), 3) := by decide +kernel
theorem dX8_read_215 : decode cX8_read 215 = .ok (.aload_n 0, 1) := by decide +kernel
theorem dX8_read_216 : decode cX8_read 216 = .ok (.iload 5, 2) := by decide +kernel
theorem dX8_read_218 : decode cX8_read 218 = .ok (.putfield 313, 3) := by decide +kernel
theorem dX8_read_221 : decode cX8_read 221 = .ok (.iload 6, 2) := by decide +kernel
theorem dX8_read_223 : decode cX8_read 223 = .ok (.ireturn, 1) := by decide +kernel
theorem wX8_read_215 (C : CxM p rmX8_read s m args meth c D ac q RX8 cX8_read 11) (hr : meth.sig.returnType = (some .int)) {v5 : Int} {v6 : Int} {σ : Mm} {r : Int × Mm} (hl : lv_has ls 11 [(0, .ref (q 0)), (5, .int (i32 v5)), (6, .int (i32 v6))]) (h : fX8_read_215 v5 v6 σ = some r) : VM p l e rmX8_read s m args below meth c D ac q (QIM D ac q below args s r) σ (F0 m 215 ls []) := by
  have h : bindv (sto σ 0 30 v5) (fun σ_1 => some (v6, σ_1)) = some r := h
  refine v_aload_n C hl dX8_read_215 rfl 0 rfl ?_
  refine v_iload C hl dX8_read_216 1 rfl ?_
  refine s_X8_30 C kdM_0 fl_X8_313 h dX8_read_218 (fun σ_1 h => ?_)
  refine v_iload C hl dX8_read_221 2 rfl ?_
  exact v_iret C hr h dX8_read_223
theorem wX8_read_209 (C : CxM p rmX8_read s m args meth c D ac q RX8 cX8_read 11) (hr : meth.sig.returnType = (some .int)) {v1 : Int} {v2 : Int} {v3 : Int} {v4 : Int} {v5 : Int} {v6 : Int} {v7 : Int} {c56 : Int → Int → Int → Mm → Option (Int × Mm)} {σ : Mm} {r : Int × Mm} (hc56 : ∀ (v5x : Int) (v6x : Int) (v7x : Int) (σ : Mm) (ls : Array Slot), lv_has ls 11 [(0, .ref (q 0)), (1, .int (i32 v1)), (2, .int (i32 v2)), (3, .int (i32 v3)), (4, .int (i32 v4)), (5, .int (i32 v5x)), (6, .int (i32 v6x)), (7, .int (i32 v7x))] → c56 v5x v6x v7x σ = some r → VM p l e rmX8_read s m args below meth c D ac q (QIM D ac q below args s r) σ (F0 m 56 ls [])) (hl : lv_has ls 11 [(0, .ref (q 0)), (1, .int (i32 v1)), (2, .int (i32 v2)), (3, .int (i32 v3)), (4, .int (i32 v4)), (5, .int (i32 v5)), (6, .int (i32 v6)), (7, .int (i32 v7))]) (h : fX8_read_209 c56 v1 v2 v3 v4 v5 v6 v7 σ = some r) : VM p l e rmX8_read s m args below meth c D ac q (QIM D ac q below args s r) σ (F0 m 209 ls []) := by
  have h : bindv (v7 + 1) (fun v7_1 => c56 v5 v6 v7_1 σ) = some r := h
  refine v_iinc C hl (fun x => [(7, .int (i32 x)), (0, .ref (q 0)), (1, .int (i32 v1)), (2, .int (i32 v2)), (3, .int (i32 v3)), (4, .int (i32 v4)), (5, .int (i32 v5)), (6, .int (i32 v6))]) dX8_read_209 7 rfl (by decide) (fun _ => rfl) h (fun v7_1 ls hl h => ?_)
  refine v_goto C (tgt := 56) dX8_read_212 rfl ?_
  exact hc56 _ _ _ _ _ (lv_sub hl [1, 2, 3, 4, 5, 6, 7, 0] rfl) h
theorem wX8_read_130 (C : CxM p rmX8_read s m args meth c D ac q RX8 cX8_read 11) (hr : meth.sig.returnType = (some .int)) {v1 : Int} {v2 : Int} {v3 : Int} {v4 : Int} {v6 : Int} {v7 : Int} {v8 : Int} {t0 : Int} {c56 : Int → Int → Int → Mm → Option (Int × Mm)} {σ : Mm} {r : Int × Mm} (hc56 : ∀ (v5x : Int) (v6x : Int) (v7x : Int) (σ : Mm) (ls : Array Slot), lv_has ls 11 [(0, .ref (q 0)), (1, .int (i32 v1)), (2, .int (i32 v2)), (3, .int (i32 v3)), (4, .int (i32 v4)), (5, .int (i32 v5x)), (6, .int (i32 v6x)), (7, .int (i32 v7x))] → c56 v5x v6x v7x σ = some r → VM p l e rmX8_read s m args below meth c D ac q (QIM D ac q below args s r) σ (F0 m 56 ls [])) (hl : lv_has ls 11 [(0, .ref (q 0)), (1, .int (i32 v1)), (2, .int (i32 v2)), (3, .int (i32 v3)), (4, .int (i32 v4)), (6, .int (i32 v6)), (7, .int (i32 v7)), (8, .long (i64 v8))]) (h : fX8_read_130 c56 v1 v2 v3 v4 v6 v7 v8 t0 σ = some r) : VM p l e rmX8_read s m args below meth c D ac q (QIM D ac q below args s r) σ (F0 m 130 ls [.int (i32 t0)]) := by
  have h : bindv t0 (fun v5_1 => cr v5_1 ((if v5_1 = 0 then chd v7 3 (cr (v7 % 3) ((if v7 % 3 = 2 then bindv ((40 * v1) + v8) (fun v10_4 => chk (v10_4 - 2) 160 (chk (v10_4 - 1) 160 (chk v10_4 160 (bd2 (fX8_moves (σ 18 (v10_4 - 2).toNat) (σ 18 (v10_4 - 1).toNat) (σ 18 (v10_4).toNat) σ) (fun x_5 σ_5 => cr x_5 ((if x_5 < 0 then bd (fX8_copies 560 0 σ_5) (fun σ_8 => bindv (sto σ_8 0 17 0) (fun σ_9 => some ((-20) - v6, σ_9))) else bindv (v6 + 1) (fun v6_7 => fX8_read_209 c56 v1 v2 v3 v4 v5_1 v6_7 v7 σ_5)))))))) else fX8_read_209 c56 v1 v2 v3 v4 v5_1 v6 v7 σ))) else fX8_read_209 c56 v1 v2 v3 v4 v5_1 v6 v7 σ))) = some r := h
  refine v_istore C hl (fun x => [(5, .int (i32 x)), (0, .ref (q 0)), (1, .int (i32 v1)), (2, .int (i32 v2)), (3, .int (i32 v3)), (4, .int (i32 v4)), (6, .int (i32 v6)), (7, .int (i32 v7)), (8, .long (i64 v8))]) dX8_read_130 (by decide) (fun _ => rfl) h (fun v5_1 ls hl h => ?_)
  refine v_iload C hl dX8_read_132 0 rfl ?_
  have hz2 := (cr_e h).1
  have h := (cr_e h).2
  refine v_if_ne C (tgt := 209) hz2 h dX8_read_134 rfl (fun h => ?_) (fun h => ?_)
  · exact wX8_read_209 C hr hc56 (lv_sub hl [1, 2, 3, 4, 5, 0, 6, 7] rfl) h
  · refine v_iload C hl dX8_read_137 7 rfl ?_
    refine v_iconst C dX8_read_139 ?_
    refine v_irem C h dX8_read_140 (fun h => ?_)
    refine v_iconst C dX8_read_141 ?_
    have hz3 := (cr_e h).1
    have h := (cr_e h).2
    refine v_icmp_ne C (tgt := 209) hz3 (by decide) h dX8_read_142 rfl (fun h => ?_) (fun h => ?_)
    · exact wX8_read_209 C hr hc56 (lv_sub hl [1, 2, 3, 4, 5, 0, 6, 7] rfl) h
    · refine v_bipush C dX8_read_145 rfl ?_
      refine v_iload_n C hl dX8_read_147 rfl 2 rfl ?_
      refine v_imul C dX8_read_148 ?_
      refine v_lload C hl dX8_read_149 8 rfl ?_
      refine v_l2i C dX8_read_151 ?_
      refine v_iadd C dX8_read_152 ?_
      refine v_istore C hl (fun x => [(10, .int (i32 x)), (5, .int (i32 v5_1)), (0, .ref (q 0)), (1, .int (i32 v1)), (2, .int (i32 v2)), (3, .int (i32 v3)), (4, .int (i32 v4)), (6, .int (i32 v6)), (7, .int (i32 v7)), (8, .long (i64 v8))]) dX8_read_153 (by decide) (fun _ => rfl) h (fun v10_4 ls hl h => ?_)
      refine v_aload_n C hl dX8_read_155 rfl 2 rfl ?_
      refine v_aload_n C hl dX8_read_156 rfl 2 rfl ?_
      refine g_X8_29 C kdM_0 fl_X8_62 dX8_read_157 ?_
      refine v_iload C hl dX8_read_160 0 rfl ?_
      refine v_iconst C dX8_read_162 ?_
      refine v_isub C dX8_read_163 ?_
      refine alM12 C kdM_18 h dX8_read_164 (fun h => ?_)
      refine v_aload_n C hl dX8_read_165 rfl 2 rfl ?_
      refine g_X8_29 C kdM_0 fl_X8_62 dX8_read_166 ?_
      refine v_iload C hl dX8_read_169 0 rfl ?_
      refine v_iconst C dX8_read_171 ?_
      refine v_isub C dX8_read_172 ?_
      refine alM12 C kdM_18 h dX8_read_173 (fun h => ?_)
      refine v_aload_n C hl dX8_read_174 rfl 2 rfl ?_
      refine g_X8_29 C kdM_0 fl_X8_62 dX8_read_175 ?_
      refine v_iload C hl dX8_read_178 0 rfl ?_
      refine alM12 C kdM_18 h dX8_read_180 (fun h => ?_)
      obtain ⟨x_5, σ_5, hv5, h⟩ := bd2_e h
      refine v_callVI C 0 (klM kdM_0) rfl (ckM1 kdM_0 _) rfl [.int (i32 (σ 18 (v10_4 - 2).toNat)), .int (i32 (σ 18 (v10_4 - 1).toNat)), .int (i32 (σ 18 (v10_4).toNat))] (mX8_moves C.2.2.2.2.1 hv5) cd_X8_moves ic_X8 im_X8_moves se_X8_moves ml_X8_303 yk_X8_moves ⟨rfl, rfl, by decide, by decide⟩ rfl hl.1 (rest := []) rfl (Nat.le_of_ble_eq_true rfl) dX8_read_181 ?_
      have hz6 := (cr_e h).1
      have h := (cr_e h).2
      refine v_if_ge C (tgt := 206) hz6 h dX8_read_184 rfl (fun h => ?_) (fun h => ?_)
      · refine v_iinc C hl (fun x => [(6, .int (i32 x)), (10, .int (i32 v10_4)), (5, .int (i32 v5_1)), (0, .ref (q 0)), (1, .int (i32 v1)), (2, .int (i32 v2)), (3, .int (i32 v3)), (4, .int (i32 v4)), (7, .int (i32 v7)), (8, .long (i64 v8))]) dX8_read_206 7 rfl (by decide) (fun _ => rfl) h (fun v6_7 ls hl h => ?_)
        exact wX8_read_209 C hr hc56 (lv_sub hl [3, 4, 5, 6, 7, 2, 0, 8] rfl) h
      · refine v_aload_n C hl dX8_read_187 rfl 2 rfl ?_
        refine v_sipush C dX8_read_188 rfl ?_
        refine v_iconst C dX8_read_191 ?_
        obtain ⟨σ_8, hv8, h⟩ := bd_e h
        refine v_callVV C 0 (klM kdM_0) rfl (ckM1 kdM_0 _) rfl [.int (i32 560), .int (i32 0)] (mX8_copies C.2.2.2.2.1 hv8) cd_X8_copies ic_X8 im_X8_copies se_X8_copies ml_X8_145 yk_X8_copies ⟨rfl, rfl, by decide, by decide⟩ rfl hl.1 (rest := []) rfl (Nat.le_of_ble_eq_true rfl) dX8_read_192 ?_
        refine v_aload_n C hl dX8_read_195 rfl 2 rfl ?_
        refine v_iconst C dX8_read_196 ?_
        refine s_X8_17 C kdM_0 fl_X8_149 (Or.inl rfl) h dX8_read_197 (fun σ_9 h => ?_)
        refine v_bipush C dX8_read_200 rfl ?_
        refine v_iload C hl dX8_read_202 7 rfl ?_
        refine v_isub C dX8_read_204 ?_
        exact v_iret C hr h dX8_read_205
theorem wX8_read_56 (C : CxM p rmX8_read s m args meth c D ac q RX8 cX8_read 11) (hr : meth.sig.returnType = (some .int)) {v1 : Int} {v2 : Int} {v3 : Int} {v4 : Int} {v5 : Int} {v6 : Int} {v7 : Int} {σ : Mm} {e56 : Int → Int → Mm → Option (Int × Mm)} {c56 : Int → Int → Int → Mm → Option (Int × Mm)} {r : Int × Mm} (he56 : ∀ (v5x : Int) (v6x : Int) (σ : Mm) (ls : Array Slot), lv_has ls 11 [(0, .ref (q 0)), (5, .int (i32 v5x)), (6, .int (i32 v6x))] → e56 v5x v6x σ = some r → VM p l e rmX8_read s m args below meth c D ac q (QIM D ac q below args s r) σ (F0 m 215 ls [])) (hc56 : ∀ (v5x : Int) (v6x : Int) (v7x : Int) (σ : Mm) (ls : Array Slot), lv_has ls 11 [(0, .ref (q 0)), (1, .int (i32 v1)), (2, .int (i32 v2)), (3, .int (i32 v3)), (4, .int (i32 v4)), (5, .int (i32 v5x)), (6, .int (i32 v6x)), (7, .int (i32 v7x))] → c56 v5x v6x v7x σ = some r → VM p l e rmX8_read s m args below meth c D ac q (QIM D ac q below args s r) σ (F0 m 56 ls [])) (hl : lv_has ls 11 [(0, .ref (q 0)), (1, .int (i32 v1)), (2, .int (i32 v2)), (3, .int (i32 v3)), (4, .int (i32 v4)), (5, .int (i32 v5)), (6, .int (i32 v6)), (7, .int (i32 v7))]) (h : fX8_read_56 v1 v2 v3 v4 e56 c56 v5 v6 v7 σ = some r) : VM p l e rmX8_read s m args below meth c D ac q (QIM D ac q below args s r) σ (F0 m 56 ls []) := by
  have h : cr v7 (cr (3 * v4) ((if v7 < 3 * v4 then cr v5 ((if v5 = 0 then cr v3 (cr v7 (bindv (v3 + v7) (fun v8_4 => chk v1 4 (cr (σ 16 (v1).toNat) ((if σ 16 (v1).toNat = (-4) then fX8_read_130 c56 v1 v2 v3 v4 v6 v7 v8_4 1 σ else chk v1 4 (cr (σ 16 (v1).toNat) (cr v2 ((if σ 16 (v1).toNat = v2 then chk v1 4 (cr ((σ 17 (v1).toNat) - 1) (bd (fX8_in v8_4 0 ((σ 17 (v1).toNat) - 1) σ) (fun x_8 => cr x_8 ((if x_8 = 0 then fX8_read_130 c56 v1 v2 v3 v4 v6 v7 v8_4 2 σ else fX8_read_130 c56 v1 v2 v3 v4 v6 v7 v8_4 0 σ))))) else fX8_read_130 c56 v1 v2 v3 v4 v6 v7 v8_4 3 σ)))))))))) else e56 v5 v6 σ)) else e56 v5 v6 σ))) = some r := h
  refine v_iload C hl dX8_read_56 7 rfl ?_
  refine v_iconst C dX8_read_58 ?_
  refine v_iload C hl dX8_read_59 4 rfl ?_
  refine v_imul C dX8_read_61 ?_
  have hz1 := (cr_e h).1
  have h := (cr_e h).2
  have hz2 := (cr_e h).1
  have h := (cr_e h).2
  refine v_icmp_ge C (tgt := 215) hz1 hz2 h dX8_read_62 rfl (fun h => ?_) (fun h => ?_)
  · exact he56 _ _ _ _ (lv_sub hl [0, 5, 6] rfl) h
  · refine v_iload C hl dX8_read_65 5 rfl ?_
    have hz3 := (cr_e h).1
    have h := (cr_e h).2
    refine v_if_ne C (tgt := 215) hz3 h dX8_read_67 rfl (fun h => ?_) (fun h => ?_)
    · exact he56 _ _ _ _ (lv_sub hl [0, 5, 6] rfl) h
    · refine v_iload_n C hl dX8_read_70 rfl 3 rfl ?_
      refine v_i2l C h dX8_read_71 (fun h => ?_)
      refine v_iload C hl dX8_read_72 7 rfl ?_
      refine v_i2l C h dX8_read_74 (fun h => ?_)
      refine v_ladd C dX8_read_75 ?_
      refine v_lstore C hl (fun x => [(8, .long (i64 x)), (0, .ref (q 0)), (1, .int (i32 v1)), (2, .int (i32 v2)), (3, .int (i32 v3)), (4, .int (i32 v4)), (5, .int (i32 v5)), (6, .int (i32 v6)), (7, .int (i32 v7))]) dX8_read_76 (by decide) (fun _ => rfl) h (fun v8_4 ls hl h => ?_)
      refine v_aload_n C hl dX8_read_78 rfl 1 rfl ?_
      refine g_X8_27 C kdM_0 fl_X8_56 dX8_read_79 ?_
      refine v_iload_n C hl dX8_read_82 rfl 2 rfl ?_
      refine alM4 C kdM_16 h dX8_read_83 (fun h => ?_)
      refine v_bipush C dX8_read_84 rfl ?_
      have hz5 := (cr_e h).1
      have h := (cr_e h).2
      refine v_icmp_ne C (tgt := 93) hz5 (by decide) h dX8_read_86 rfl (fun h => ?_) (fun h => ?_)
      · refine v_aload_n C hl dX8_read_93 rfl 1 rfl ?_
        refine g_X8_27 C kdM_0 fl_X8_56 dX8_read_94 ?_
        refine v_iload_n C hl dX8_read_97 rfl 2 rfl ?_
        refine alM4 C kdM_16 h dX8_read_98 (fun h => ?_)
        refine v_iload_n C hl dX8_read_99 rfl 3 rfl ?_
        have hz6 := (cr_e h).1
        have h := (cr_e h).2
        have hz7 := (cr_e h).1
        have h := (cr_e h).2
        refine v_icmp_eq C (tgt := 107) hz6 hz7 h dX8_read_100 rfl (fun h => ?_) (fun h => ?_)
        · refine v_lload C hl dX8_read_107 0 rfl ?_
          refine v_lconst C (v := 0) dX8_read_109 rfl ?_
          refine v_aload_n C hl dX8_read_110 rfl 1 rfl ?_
          refine g_X8_28 C kdM_0 fl_X8_59 dX8_read_111 ?_
          refine v_iload_n C hl dX8_read_114 rfl 2 rfl ?_
          refine alM4 C kdM_17 h dX8_read_115 (fun h => ?_)
          refine v_iconst C dX8_read_116 ?_
          refine v_isub C dX8_read_117 ?_
          refine v_i2l C h dX8_read_118 (fun h => ?_)
          obtain ⟨x_8, hv8, h⟩ := bd_e h
          refine v_callSI C [.long (i64 v8_4), .long (i64 0), .long (i64 ((σ 17 (v1).toNat) - 1))] (mX8_in C.2.2.2.2.1 hv8) cd_X8_in ic_X8 sm_X8_in ml_X8_67 yk_X8_in ⟨rfl, rfl, by decide, by decide⟩ rfl hl.1 (rest := []) rfl (Nat.le_of_ble_eq_true rfl) dX8_read_119 ?_
          have hz9 := (cr_e h).1
          have h := (cr_e h).2
          refine v_if_ne C (tgt := 129) hz9 h dX8_read_122 rfl (fun h => ?_) (fun h => ?_)
          · refine v_iconst C dX8_read_129 ?_
            exact wX8_read_130 C hr hc56 (lv_sub hl [1, 2, 3, 4, 5, 7, 8, 0] rfl) h
          · refine v_iconst C dX8_read_125 ?_
            refine v_goto C (tgt := 130) dX8_read_126 rfl ?_
            exact wX8_read_130 C hr hc56 (lv_sub hl [1, 2, 3, 4, 5, 7, 8, 0] rfl) h
        · refine v_iconst C dX8_read_103 ?_
          refine v_goto C (tgt := 130) dX8_read_104 rfl ?_
          exact wX8_read_130 C hr hc56 (lv_sub hl [1, 2, 3, 4, 5, 7, 8, 0] rfl) h
      · refine v_iconst C dX8_read_89 ?_
        refine v_goto C (tgt := 130) dX8_read_90 rfl ?_
        exact wX8_read_130 C hr hc56 (lv_sub hl [1, 2, 3, 4, 5, 7, 8, 0] rfl) h
theorem wlX8_read_56 (C : CxM p rmX8_read s m args meth c D ac q RX8 cX8_read 11) (hr : meth.sig.returnType = (some .int)) {v1 : Int} {v2 : Int} {v3 : Int} {v4 : Int} {e56 : Int → Int → Mm → Option (Int × Mm)} {r : Int × Mm} (he56 : ∀ (v5x : Int) (v6x : Int) (σ : Mm) (ls : Array Slot), lv_has ls 11 [(0, .ref (q 0)), (5, .int (i32 v5x)), (6, .int (i32 v6x))] → e56 v5x v6x σ = some r → VM p l e rmX8_read s m args below meth c D ac q (QIM D ac q below args s r) σ (F0 m 215 ls [])) : ∀ (fu : Nat) (v5 : Int) (v6 : Int) (v7 : Int) (σ : Mm) (ls : Array Slot) (hl : lv_has ls 11 [(0, .ref (q 0)), (1, .int (i32 v1)), (2, .int (i32 v2)), (3, .int (i32 v3)), (4, .int (i32 v4)), (5, .int (i32 v5)), (6, .int (i32 v6)), (7, .int (i32 v7))]) (h : lX8_read_56 v1 v2 v3 v4 e56 fu v5 v6 v7 σ = some r), VM p l e rmX8_read s m args below meth c D ac q (QIM D ac q below args s r) σ (F0 m 56 ls []) := by
  intro fu
  induction fu with
  | zero =>
    intro v5 v6 v7 σ ls hl h
    have h : none = some r := h
    cases h
  | succ fu ih =>
    intro v5 v6 v7 σ ls hl h
    exact wX8_read_56 C hr he56 (fun v5 v6 v7 σ ls hl h => ih v5 v6 v7 σ ls hl h) hl h
theorem wX8_read_37 (C : CxM p rmX8_read s m args meth c D ac q RX8 cX8_read 11) (hr : meth.sig.returnType = (some .int)) {σ : Mm} {r : Int × Mm} (hl : lv_has ls 11 [(0, .ref (q 0))]) (h : fX8_read_37 σ = some r) : VM p l e rmX8_read s m args below meth c D ac q (QIM D ac q below args s r) σ (F0 m 37 ls []) := by
  have h : some ((-1), σ) = some r := h
  refine v_iconst C dX8_read_37 ?_
  exact v_iret C hr h dX8_read_38
theorem mX8_read (hq : QI 19 q) {v1 : Int} {v2 : Int} {v3 : Int} {v4 : Int} {σ : Mm} {r : Int × Mm} (h : fX8_read v1 v2 v3 v4 σ = some r) : MIM l D ac q yX8_read cX8_read 11 (some .int) rmX8_read [.ref (q 0), .int (i32 v1), .int (i32 v2), .int (i32 v3), .int (i32 v4)] σ r := by
  refine MI.of hq XT_M (by decide) (Nat.le_of_ble_eq_true rfl) (fun p e s m below meth c ls C hr hl => ?_)
  have hl : lv_has ls 11 [(0, .ref (q 0)), (1, .int (i32 v1)), (2, .int (i32 v2)), (3, .int (i32 v3)), (4, .int (i32 v4))] := hl
  have h : cr v1 (bd (fX8_in v1 0 3 σ) (fun x_1 => cr x_1 ((if x_1 = 0 then fX8_read_37 σ else cr v2 (bd (fX8_in v2 0 2 σ) (fun x_3 => cr x_3 ((if x_3 = 0 then fX8_read_37 σ else cr v4 (bd (fX8_in v4 0 13 σ) (fun x_5 => cr x_5 ((if x_5 = 0 then fX8_read_37 σ else bd (fX8_copies 0 560 σ) (fun σ_7 => bindv 0 (fun v5_8 => bindv 0 (fun v6_9 => bindv 0 (fun v7_10 => lX8_read_56 v1 v2 v3 v4 (fun v5_11 v6_12 σ_13 => fX8_read_215 v5_11 v6_12 σ_13) 400 v5_8 v6_9 v7_10 σ_7)))))))))))))))) = some r := h
  refine v_iload_n C hl dX8_read_0 rfl 1 rfl ?_
  refine v_i2l C h dX8_read_1 (fun h => ?_)
  refine v_lconst C (v := 0) dX8_read_2 rfl ?_
  refine v_ldc2 C (v := 3) kc_X8_309 rfl dX8_read_3 ?_
  obtain ⟨x_1, hv1, h⟩ := bd_e h
  refine v_callSI C [.long (i64 v1), .long (i64 0), .long (i64 3)] (mX8_in C.2.2.2.2.1 hv1) cd_X8_in ic_X8 sm_X8_in ml_X8_67 yk_X8_in ⟨rfl, rfl, by decide, by decide⟩ rfl hl.1 (rest := []) rfl (Nat.le_of_ble_eq_true rfl) dX8_read_6 ?_
  have hz2 := (cr_e h).1
  have h := (cr_e h).2
  refine v_if_eq C (tgt := 37) hz2 h dX8_read_9 rfl (fun h => ?_) (fun h => ?_)
  · exact wX8_read_37 C hr (lv_sub hl [0] rfl) h
  · refine v_iload_n C hl dX8_read_12 rfl 2 rfl ?_
    refine v_i2l C h dX8_read_13 (fun h => ?_)
    refine v_lconst C (v := 0) dX8_read_14 rfl ?_
    refine v_ldc2 C (v := 2) kc_X8_281 rfl dX8_read_15 ?_
    obtain ⟨x_3, hv3, h⟩ := bd_e h
    refine v_callSI C [.long (i64 v2), .long (i64 0), .long (i64 2)] (mX8_in C.2.2.2.2.1 hv3) cd_X8_in ic_X8 sm_X8_in ml_X8_67 yk_X8_in ⟨rfl, rfl, by decide, by decide⟩ rfl hl.1 (rest := []) rfl (Nat.le_of_ble_eq_true rfl) dX8_read_18 ?_
    have hz4 := (cr_e h).1
    have h := (cr_e h).2
    refine v_if_eq C (tgt := 37) hz4 h dX8_read_21 rfl (fun h => ?_) (fun h => ?_)
    · exact wX8_read_37 C hr (lv_sub hl [0] rfl) h
    · refine v_iload C hl dX8_read_24 4 rfl ?_
      refine v_i2l C h dX8_read_26 (fun h => ?_)
      refine v_lconst C (v := 0) dX8_read_27 rfl ?_
      refine v_ldc2 C (v := 13) kc_X8_311 rfl dX8_read_28 ?_
      obtain ⟨x_5, hv5, h⟩ := bd_e h
      refine v_callSI C [.long (i64 v4), .long (i64 0), .long (i64 13)] (mX8_in C.2.2.2.2.1 hv5) cd_X8_in ic_X8 sm_X8_in ml_X8_67 yk_X8_in ⟨rfl, rfl, by decide, by decide⟩ rfl hl.1 (rest := []) rfl (Nat.le_of_ble_eq_true rfl) dX8_read_31 ?_
      have hz6 := (cr_e h).1
      have h := (cr_e h).2
      refine v_if_ne C (tgt := 39) hz6 h dX8_read_34 rfl (fun h => ?_) (fun h => ?_)
      · refine v_aload_n C hl dX8_read_39 rfl 0 rfl ?_
        refine v_iconst C dX8_read_40 ?_
        refine v_sipush C dX8_read_41 rfl ?_
        obtain ⟨σ_7, hv7, h⟩ := bd_e h
        refine v_callVV C 0 (klM kdM_0) rfl (ckM1 kdM_0 _) rfl [.int (i32 0), .int (i32 560)] (mX8_copies C.2.2.2.2.1 hv7) cd_X8_copies ic_X8 im_X8_copies se_X8_copies ml_X8_145 yk_X8_copies ⟨rfl, rfl, by decide, by decide⟩ rfl hl.1 (rest := []) rfl (Nat.le_of_ble_eq_true rfl) dX8_read_44 ?_
        refine v_iconst C dX8_read_47 ?_
        refine v_istore C hl (fun x => [(5, .int (i32 x)), (0, .ref (q 0)), (1, .int (i32 v1)), (2, .int (i32 v2)), (3, .int (i32 v3)), (4, .int (i32 v4))]) dX8_read_48 (by decide) (fun _ => rfl) h (fun v5_8 ls hl h => ?_)
        refine v_iconst C dX8_read_50 ?_
        refine v_istore C hl (fun x => [(6, .int (i32 x)), (5, .int (i32 v5_8)), (0, .ref (q 0)), (1, .int (i32 v1)), (2, .int (i32 v2)), (3, .int (i32 v3)), (4, .int (i32 v4))]) dX8_read_51 (by decide) (fun _ => rfl) h (fun v6_9 ls hl h => ?_)
        refine v_iconst C dX8_read_53 ?_
        refine v_istore C hl (fun x => [(7, .int (i32 x)), (6, .int (i32 v6_9)), (5, .int (i32 v5_8)), (0, .ref (q 0)), (1, .int (i32 v1)), (2, .int (i32 v2)), (3, .int (i32 v3)), (4, .int (i32 v4))]) dX8_read_54 (by decide) (fun _ => rfl) h (fun v7_10 ls hl h => ?_)
        exact wlX8_read_56 C hr (fun v5_11 v6_12 σ_13 ls hl h => wX8_read_215 C hr (lv_sub hl [0, 1, 2] rfl) h) _ _ _ _ _ _ (lv_sub hl [3, 4, 5, 6, 7, 2, 1, 0] rfl) h
      · exact wX8_read_37 C hr (lv_sub hl [0] rfl) h
end
section
variable {l : Launch} {D : va_G} {ac : Nat → ClassId} {q : Nat → Nat} {p : Program} {e : Env} {s : State} {m : MethodId} {args : Array Value} {below : List Frame} {meth : Method} {c : Code} {ls : Array Slot}
theorem dX8_readCorner_0 : decode cX8_readCorner 0 = .ok (.aload_n 0, 1) := by decide +kernel
theorem dX8_readCorner_1 : decode cX8_readCorner 1 = .ok (.getfield 7, 3) := by decide +kernel
theorem dX8_readCorner_4 : decode cX8_readCorner 4 = .ok (.sipush 552, 3) := by decide +kernel
theorem dX8_readCorner_7 : decode cX8_readCorner 7 = .ok (.iload_n 1, 1) := by decide +kernel
theorem dX8_readCorner_8 : decode cX8_readCorner 8 = .ok (.iadd, 1) := by decide +kernel
theorem dX8_readCorner_9 : decode cX8_readCorner 9 = .ok (.iaload, 1) := by decide +kernel
theorem dX8_readCorner_10 : decode cX8_readCorner 10 = .ok (.istore_n 2, 1) := by decide +kernel
theorem dX8_readCorner_11 : decode cX8_readCorner 11 = .ok (.aload_n 0, 1) := by decide +kernel
theorem dX8_readCorner_12 : decode cX8_readCorner 12 = .ok (.getfield 84, 3) := by decide +kernel
theorem dX8_readCorner_15 : decode cX8_readCorner 15 = .ok (.iconst 2, 1) := by decide +kernel
theorem dX8_readCorner_16 : decode cX8_readCorner 16 = .ok (.if_icmp .ne 14, 3) := by decide +kernel
theorem dX8_readCorner_19 : decode cX8_readCorner 19 = .ok (.iload_n 2, 1) := by decide +kernel
theorem dX8_readCorner_20 : decode cX8_readCorner 20 = .ok (.bipush 10, 2) := by decide +kernel
theorem dX8_readCorner_22 : decode cX8_readCorner 22 = .ok (.if_icmp .ne 8, 3) := by decide +kernel
theorem dX8_readCorner_25 : decode cX8_readCorner 25 = .ok (.aload_n 0, 1) := by decide +kernel
theorem dX8_readCorner_26 : decode cX8_readCorner 26 = .ok (.iconst 5, 1) := by decide +kernel
theorem dX8_readCorner_27 : decode cX8_readCorner 27 = .ok (.invokevirtual 105, 3) := by decide +kernel
theorem dX8_readCorner_30 : decode cX8_readCorner 30 = .ok (.aload_n 0, 1) := by decide +kernel
theorem dX8_readCorner_31 : decode cX8_readCorner 31 = .ok (.getfield 75, 3) := by decide +kernel
theorem dX8_readCorner_34 : decode cX8_readCorner 34 = .ok (.ifCond .ne 16, 3) := by decide +kernel
theorem dX8_readCorner_37 : decode cX8_readCorner 37 = .ok (.aload_n 0, 1) := by decide +kernel
theorem dX8_readCorner_38 : decode cX8_readCorner 38 = .ok (.getfield 84, 3) := by decide +kernel
theorem dX8_readCorner_41 : decode cX8_readCorner 41 = .ok (.iconst 2, 1) := by decide +kernel
theorem dX8_readCorner_42 : decode cX8_readCorner 42 = .ok (.if_icmp .eq 8, 3) := by decide +kernel
theorem dX8_readCorner_45 : decode cX8_readCorner 45 = .ok (.aload_n 0, 1) := by decide +kernel
theorem dX8_readCorner_46 : decode cX8_readCorner 46 = .ok (.iconst 2, 1) := by decide +kernel
theorem dX8_readCorner_47 : decode cX8_readCorner 47 = .ok (.invokevirtual 105, 3) := by decide +kernel
theorem dX8_readCorner_50 : decode cX8_readCorner 50 = .ok (.aload_n 0, 1) := by decide +kernel
theorem dX8_readCorner_51 : decode cX8_readCorner 51 = .ok (.getfield 75, 3) := by decide +kernel
theorem dX8_readCorner_54 : decode cX8_readCorner 54 = .ok (.ifCond .ne 17, 3) := by decide +kernel
theorem dX8_readCorner_57 : decode cX8_readCorner 57 = .ok (.aload_n 0, 1) := by decide +kernel
theorem dX8_readCorner_58 : decode cX8_readCorner 58 = .ok (.getfield 94, 3) := by decide +kernel
theorem dX8_readCorner_61 : decode cX8_readCorner 61 = .ok (.bipush 24, 2) := by decide +kernel
theorem dX8_readCorner_63 : decode cX8_readCorner 63 = .ok (.if_icmp .lt 8, 3) := by decide +kernel
theorem dX8_readCorner_66 : decode cX8_readCorner 66 = .ok (.aload_n 0, 1) := by decide +kernel
theorem dX8_readCorner_67 : decode cX8_readCorner 67 = .ok (.iconst 3, 1) := by decide +kernel
theorem dX8_readCorner_68 : decode cX8_readCorner 68 = .ok (.invokevirtual 105, 3) := by decide +kernel
theorem dX8_readCorner_71 : decode cX8_readCorner 71 = .ok (.iconst 0, 1) := by decide +kernel
theorem dX8_readCorner_72 : decode cX8_readCorner 72 = .ok (.istore_n 3, 1) := by decide +kernel
theorem dX8_readCorner_73 : decode cX8_readCorner 73 = .ok (.iload_n 3, 1) := by decide +kernel
theorem dX8_readCorner_74 : decode cX8_readCorner 74 = .ok (.iload_n 2, 1) := by decide +kernel
theorem dX8_readCorner_75 : decode cX8_readCorner 75 = .ok (.if_icmp .ge 43, 3) := by decide +kernel
theorem dX8_readCorner_78 : decode cX8_readCorner 78 = .ok (.aload_n 0, 1) := by decide +kernel
theorem dX8_readCorner_79 : decode cX8_readCorner 79 = .ok (.getfield 75, 3) := by decide +kernel
theorem dX8_readCorner_82 : decode cX8_readCorner 82 = .ok (.ifCond .ne 36, 3) := by decide +kernel
theorem dX8_readCorner_85 : decode cX8_readCorner 85 = .ok (.aload_n 0, 1) := by decide +kernel
theorem dX8_readCorner_86 : decode cX8_readCorner 86 = .ok (.getfield 7, 3) := by decide +kernel
theorem dX8_readCorner_89 : decode cX8_readCorner 89 = .ok (.sipush 492, 3) := by decide +kernel
theorem dX8_readCorner_92 : decode cX8_readCorner 92 = .ok (.bipush 10, 2) := by decide +kernel
theorem dX8_readCorner_94 : decode cX8_readCorner 94 = .ok (.iload_n 1, 1) := by decide +kernel
theorem dX8_readCorner_95 : decode cX8_readCorner 95 = .ok (.imul, 1) := by decide +kernel
theorem dX8_readCorner_96 : decode cX8_readCorner 96 = .ok (.iadd, 1) := by decide +kernel
theorem dX8_readCorner_97 : decode cX8_readCorner 97 = .ok (.iload_n 3, 1) := by decide +kernel
theorem dX8_readCorner_98 : decode cX8_readCorner 98 = .ok (.iadd, 1) := by decide +kernel
theorem dX8_readCorner_99 : decode cX8_readCorner 99 = .ok (.iaload, 1) := by decide +kernel
theorem dX8_readCorner_100 : decode cX8_readCorner 100 = .ok (.aload_n 0, 1) := by decide +kernel
theorem dX8_readCorner_101 : decode cX8_readCorner 101 = .ok (.getfield 94, 3) := by decide +kernel
theorem dX8_readCorner_104 : decode cX8_readCorner 104 = .ok (.if_icmp .ne 8, 3) := by decide +kernel
theorem dX8_readCorner_107 : decode cX8_readCorner 107 = .ok (.aload_n 0, 1) := by decide +kernel
theorem dX8_readCorner_108 : decode cX8_readCorner 108 = .ok (.iconst 4, 1) := by decide +kernel
theorem dX8_readCorner_109 : decode cX8_readCorner 109 = .ok (.invokevirtual 105, 3) := by decide +kernel
theorem dX8_readCorner_112 : decode cX8_readCorner 112 = .ok (.iinc 3 1, 3) := by decide +kernel
theorem dX8_readCorner_115 : decode cX8_readCorner 115 = .ok (.goto (-42), 3) := by decide +kernel
theorem dX8_readCorner_118 : decode cX8_readCorner 118 = .ok (.aload_n 0, 1) := by decide +kernel
theorem dX8_readCorner_119 : decode cX8_readCorner 119 = .ok (.getfield 75, 3) := by decide +kernel
theorem dX8_readCorner_122 : decode cX8_readCorner 122 = .ok (.ifCond .ne 36, 3) := by decide +kernel
theorem dX8_readCorner_125 : decode cX8_readCorner 125 = .ok (.aload_n 0, 1) := by decide +kernel
theorem dX8_readCorner_126 : decode cX8_readCorner 126 = .ok (.getfield 7, 3) := by decide +kernel
theorem dX8_readCorner_129 : decode cX8_readCorner 129 = .ok (.sipush 492, 3) := by decide +kernel
theorem dX8_readCorner_132 : decode cX8_readCorner 132 = .ok (.bipush 10, 2) := by decide +kernel
theorem dX8_readCorner_134 : decode cX8_readCorner 134 = .ok (.iload_n 1, 1) := by decide +kernel
theorem dX8_readCorner_135 : decode cX8_readCorner 135 = .ok (.imul, 1) := by decide +kernel
theorem dX8_readCorner_136 : decode cX8_readCorner 136 = .ok (.iadd, 1) := by decide +kernel
theorem dX8_readCorner_137 : decode cX8_readCorner 137 = .ok (.iload_n 2, 1) := by decide +kernel
theorem dX8_readCorner_138 : decode cX8_readCorner 138 = .ok (.iadd, 1) := by decide +kernel
theorem dX8_readCorner_139 : decode cX8_readCorner 139 = .ok (.aload_n 0, 1) := by decide +kernel
theorem dX8_readCorner_140 : decode cX8_readCorner 140 = .ok (.getfield 94, 3) := by decide +kernel
theorem dX8_readCorner_143 : decode cX8_readCorner 143 = .ok (.iastore, 1) := by decide +kernel
theorem dX8_readCorner_144 : decode cX8_readCorner 144 = .ok (.aload_n 0, 1) := by decide +kernel
theorem dX8_readCorner_145 : decode cX8_readCorner 145 = .ok (.getfield 7, 3) := by decide +kernel
theorem dX8_readCorner_148 : decode cX8_readCorner 148 = .ok (.sipush 552, 3) := by decide +kernel
theorem dX8_readCorner_151 : decode cX8_readCorner 151 = .ok (.iload_n 1, 1) := by decide +kernel
theorem dX8_readCorner_152 : decode cX8_readCorner 152 = .ok (.iadd, 1) := by decide +kernel
theorem dX8_readCorner_153 : decode cX8_readCorner 153 = .ok (.dup2, 1) := by decide +kernel
theorem dX8_readCorner_154 : decode cX8_readCorner 154 = .ok (.iaload, 1) := by decide +kernel
theorem dX8_readCorner_155 : decode cX8_readCorner 155 = .ok (.iconst 1, 1) := by decide +kernel
theorem dX8_readCorner_156 : decode cX8_readCorner 156 = .ok (.iadd, 1) := by decide +kernel
theorem dX8_readCorner_157 : decode cX8_readCorner 157 = .ok (.iastore, 1) := by decide +kernel
theorem dX8_readCorner_158 : decode cX8_readCorner 158 = .ok (.aload_n 0, 1) := by decide +kernel
theorem dX8_readCorner_159 : decode cX8_readCorner 159 = .ok (.invokevirtual 109, 3) := by decide +kernel
theorem dX8_readCorner_162 : decode cX8_readCorner 162 = .ok (.return_, 1) := by decide +kernel
theorem wX8_readCorner_158 (C : CxM p rmX8_readCorner s m args meth c D ac q RX8 cX8_readCorner 4) (hr : meth.sig.returnType = none) {σ : Mm} {r : Mm} (hl : lv_has ls 4 [(0, .ref (q 0))]) (h : fX8_readCorner_158 σ = some r) : VM p l e rmX8_readCorner s m args below meth c D ac q (QVM D ac q below args s r) σ (F0 m 158 ls []) := by
  have h : bd (fX8_readsOn σ) (fun σ_1 => some σ_1) = some r := h
  refine v_aload_n C hl dX8_readCorner_158 rfl 0 rfl ?_
  obtain ⟨σ_1, hv1, h⟩ := bd_e h
  refine v_callVV C 0 (klM kdM_0) rfl (ckM1 kdM_0 _) rfl [] (mX8_readsOn C.2.2.2.2.1 hv1) cd_X8_readsOn ic_X8 im_X8_readsOn se_X8_readsOn ml_X8_109 yk_X8_readsOn ⟨rfl, rfl, by decide, by decide⟩ rfl hl.1 (rest := []) rfl (Nat.le_of_ble_eq_true rfl) dX8_readCorner_159 ?_
  exact v_vret C hr h dX8_readCorner_162
theorem wX8_readCorner_118 (C : CxM p rmX8_readCorner s m args meth c D ac q RX8 cX8_readCorner 4) (hr : meth.sig.returnType = none) {v1 : Int} {v2 : Int} {σ : Mm} {r : Mm} (hl : lv_has ls 4 [(0, .ref (q 0)), (1, .int (i32 v1)), (2, .int (i32 v2))]) (h : fX8_readCorner_118 v1 v2 σ = some r) : VM p l e rmX8_readCorner s m args below meth c D ac q (QVM D ac q below args s r) σ (F0 m 118 ls []) := by
  have h : cr (σ 0 4) ((if σ 0 4 = 0 then chk ((492 + (10 * v1)) + v2) 700 (bindv (sto σ 1 ((492 + (10 * v1)) + v2).toNat (σ 0 9)) (fun σ_2 => chk (552 + v1) 700 (chk (552 + v1) 700 (bindv (sto σ_2 1 (552 + v1).toNat ((σ_2 1 (552 + v1).toNat) + 1)) (fun σ_3 => fX8_readCorner_158 σ_3))))) else fX8_readCorner_158 σ)) = some r := h
  refine v_aload_n C hl dX8_readCorner_118 rfl 0 rfl ?_
  refine g_X8_4 C kdM_0 fl_X8_75 dX8_readCorner_119 ?_
  have hz1 := (cr_e h).1
  have h := (cr_e h).2
  refine v_if_ne C (tgt := 158) hz1 h dX8_readCorner_122 rfl (fun h => ?_) (fun h => ?_)
  · exact wX8_readCorner_158 C hr (lv_sub hl [0] rfl) h
  · refine v_aload_n C hl dX8_readCorner_125 rfl 0 rfl ?_
    refine g_X8_0 C kdM_0 fl_X8_7 dX8_readCorner_126 ?_
    refine v_sipush C dX8_readCorner_129 rfl ?_
    refine v_bipush C dX8_readCorner_132 rfl ?_
    refine v_iload_n C hl dX8_readCorner_134 rfl 1 rfl ?_
    refine v_imul C dX8_readCorner_135 ?_
    refine v_iadd C dX8_readCorner_136 ?_
    refine v_iload_n C hl dX8_readCorner_137 rfl 2 rfl ?_
    refine v_iadd C dX8_readCorner_138 ?_
    refine v_aload_n C hl dX8_readCorner_139 rfl 0 rfl ?_
    refine g_X8_9 C kdM_0 fl_X8_94 dX8_readCorner_140 ?_
    refine asM2 C kdM_1 h dX8_readCorner_143 (fun σ_2 h => ?_)
    refine v_aload_n C hl dX8_readCorner_144 rfl 0 rfl ?_
    refine g_X8_0 C kdM_0 fl_X8_7 dX8_readCorner_145 ?_
    refine v_sipush C dX8_readCorner_148 rfl ?_
    refine v_iload_n C hl dX8_readCorner_151 rfl 1 rfl ?_
    refine v_iadd C dX8_readCorner_152 ?_
    refine v_dup2 C dX8_readCorner_153 rfl rfl ?_
    refine alM2 C kdM_1 h dX8_readCorner_154 (fun h => ?_)
    refine v_iconst C dX8_readCorner_155 ?_
    refine v_iadd C dX8_readCorner_156 ?_
    refine asM2 C kdM_1 h dX8_readCorner_157 (fun σ_3 h => ?_)
    exact wX8_readCorner_158 C hr (lv_sub hl [0] rfl) h
theorem wX8_readCorner_112 (C : CxM p rmX8_readCorner s m args meth c D ac q RX8 cX8_readCorner 4) (hr : meth.sig.returnType = none) {v1 : Int} {v2 : Int} {v3 : Int} {c73 : Int → Mm → Option (Mm)} {σ : Mm} {r : Mm} (hc73 : ∀ (v3x : Int) (σ : Mm) (ls : Array Slot), lv_has ls 4 [(0, .ref (q 0)), (1, .int (i32 v1)), (2, .int (i32 v2)), (3, .int (i32 v3x))] → c73 v3x σ = some r → VM p l e rmX8_readCorner s m args below meth c D ac q (QVM D ac q below args s r) σ (F0 m 73 ls [])) (hl : lv_has ls 4 [(0, .ref (q 0)), (1, .int (i32 v1)), (2, .int (i32 v2)), (3, .int (i32 v3))]) (h : fX8_readCorner_112 c73 v1 v2 v3 σ = some r) : VM p l e rmX8_readCorner s m args below meth c D ac q (QVM D ac q below args s r) σ (F0 m 112 ls []) := by
  have h : bindv (v3 + 1) (fun v3_1 => c73 v3_1 σ) = some r := h
  refine v_iinc C hl (fun x => [(3, .int (i32 x)), (0, .ref (q 0)), (1, .int (i32 v1)), (2, .int (i32 v2))]) dX8_readCorner_112 3 rfl (by decide) (fun _ => rfl) h (fun v3_1 ls hl h => ?_)
  refine v_goto C (tgt := 73) dX8_readCorner_115 rfl ?_
  exact hc73 _ _ _ (lv_sub hl [1, 2, 3, 0] rfl) h
theorem wX8_readCorner_73 (C : CxM p rmX8_readCorner s m args meth c D ac q RX8 cX8_readCorner 4) (hr : meth.sig.returnType = none) {v1 : Int} {v2 : Int} {v3 : Int} {σ : Mm} {e73 : Mm → Option (Mm)} {c73 : Int → Mm → Option (Mm)} {r : Mm} (he73 : ∀ (σ : Mm) (ls : Array Slot), lv_has ls 4 [(0, .ref (q 0)), (1, .int (i32 v1)), (2, .int (i32 v2))] → e73 σ = some r → VM p l e rmX8_readCorner s m args below meth c D ac q (QVM D ac q below args s r) σ (F0 m 118 ls [])) (hc73 : ∀ (v3x : Int) (σ : Mm) (ls : Array Slot), lv_has ls 4 [(0, .ref (q 0)), (1, .int (i32 v1)), (2, .int (i32 v2)), (3, .int (i32 v3x))] → c73 v3x σ = some r → VM p l e rmX8_readCorner s m args below meth c D ac q (QVM D ac q below args s r) σ (F0 m 73 ls [])) (hl : lv_has ls 4 [(0, .ref (q 0)), (1, .int (i32 v1)), (2, .int (i32 v2)), (3, .int (i32 v3))]) (h : fX8_readCorner_73 v1 v2 e73 c73 v3 σ = some r) : VM p l e rmX8_readCorner s m args below meth c D ac q (QVM D ac q below args s r) σ (F0 m 73 ls []) := by
  have h : cr v3 (cr v2 ((if v3 < v2 then cr (σ 0 4) ((if σ 0 4 = 0 then chk ((492 + (10 * v1)) + v3) 700 (cr (σ 1 ((492 + (10 * v1)) + v3).toNat) (cr (σ 0 9) ((if σ 1 ((492 + (10 * v1)) + v3).toNat = σ 0 9 then bd (fX8_fails 4 σ) (fun σ_6 => fX8_readCorner_112 c73 v1 v2 v3 σ_6) else fX8_readCorner_112 c73 v1 v2 v3 σ)))) else e73 σ)) else e73 σ))) = some r := h
  refine v_iload_n C hl dX8_readCorner_73 rfl 3 rfl ?_
  refine v_iload_n C hl dX8_readCorner_74 rfl 2 rfl ?_
  have hz1 := (cr_e h).1
  have h := (cr_e h).2
  have hz2 := (cr_e h).1
  have h := (cr_e h).2
  refine v_icmp_ge C (tgt := 118) hz1 hz2 h dX8_readCorner_75 rfl (fun h => ?_) (fun h => ?_)
  · exact he73 _ _ (lv_sub hl [0, 1, 2] rfl) h
  · refine v_aload_n C hl dX8_readCorner_78 rfl 0 rfl ?_
    refine g_X8_4 C kdM_0 fl_X8_75 dX8_readCorner_79 ?_
    have hz3 := (cr_e h).1
    have h := (cr_e h).2
    refine v_if_ne C (tgt := 118) hz3 h dX8_readCorner_82 rfl (fun h => ?_) (fun h => ?_)
    · exact he73 _ _ (lv_sub hl [0, 1, 2] rfl) h
    · refine v_aload_n C hl dX8_readCorner_85 rfl 0 rfl ?_
      refine g_X8_0 C kdM_0 fl_X8_7 dX8_readCorner_86 ?_
      refine v_sipush C dX8_readCorner_89 rfl ?_
      refine v_bipush C dX8_readCorner_92 rfl ?_
      refine v_iload_n C hl dX8_readCorner_94 rfl 1 rfl ?_
      refine v_imul C dX8_readCorner_95 ?_
      refine v_iadd C dX8_readCorner_96 ?_
      refine v_iload_n C hl dX8_readCorner_97 rfl 3 rfl ?_
      refine v_iadd C dX8_readCorner_98 ?_
      refine alM2 C kdM_1 h dX8_readCorner_99 (fun h => ?_)
      refine v_aload_n C hl dX8_readCorner_100 rfl 0 rfl ?_
      refine g_X8_9 C kdM_0 fl_X8_94 dX8_readCorner_101 ?_
      have hz4 := (cr_e h).1
      have h := (cr_e h).2
      have hz5 := (cr_e h).1
      have h := (cr_e h).2
      refine v_icmp_ne C (tgt := 112) hz4 hz5 h dX8_readCorner_104 rfl (fun h => ?_) (fun h => ?_)
      · exact wX8_readCorner_112 C hr hc73 (lv_sub hl [0, 1, 2, 3] rfl) h
      · refine v_aload_n C hl dX8_readCorner_107 rfl 0 rfl ?_
        refine v_iconst C dX8_readCorner_108 ?_
        obtain ⟨σ_6, hv6, h⟩ := bd_e h
        refine v_callVV C 0 (klM kdM_0) rfl (ckM1 kdM_0 _) rfl [.int (i32 4)] (mX8_fails C.2.2.2.2.1 hv6) cd_X8_fails ic_X8 im_X8_fails se_X8_fails ml_X8_105 yk_X8_fails ⟨rfl, rfl, by decide, by decide⟩ rfl hl.1 (rest := []) rfl (Nat.le_of_ble_eq_true rfl) dX8_readCorner_109 ?_
        exact wX8_readCorner_112 C hr hc73 (lv_sub hl [0, 1, 2, 3] rfl) h
theorem wlX8_readCorner_73 (C : CxM p rmX8_readCorner s m args meth c D ac q RX8 cX8_readCorner 4) (hr : meth.sig.returnType = none) {v1 : Int} {v2 : Int} {e73 : Mm → Option (Mm)} {r : Mm} (he73 : ∀ (σ : Mm) (ls : Array Slot), lv_has ls 4 [(0, .ref (q 0)), (1, .int (i32 v1)), (2, .int (i32 v2))] → e73 σ = some r → VM p l e rmX8_readCorner s m args below meth c D ac q (QVM D ac q below args s r) σ (F0 m 118 ls [])) : ∀ (fu : Nat) (v3 : Int) (σ : Mm) (ls : Array Slot) (hl : lv_has ls 4 [(0, .ref (q 0)), (1, .int (i32 v1)), (2, .int (i32 v2)), (3, .int (i32 v3))]) (h : lX8_readCorner_73 v1 v2 e73 fu v3 σ = some r), VM p l e rmX8_readCorner s m args below meth c D ac q (QVM D ac q below args s r) σ (F0 m 73 ls []) := by
  intro fu
  induction fu with
  | zero =>
    intro v3 σ ls hl h
    have h : none = some r := h
    cases h
  | succ fu ih =>
    intro v3 σ ls hl h
    exact wX8_readCorner_73 C hr he73 (fun v3 σ ls hl h => ih v3 σ ls hl h) hl h
theorem wX8_readCorner_71 (C : CxM p rmX8_readCorner s m args meth c D ac q RX8 cX8_readCorner 4) (hr : meth.sig.returnType = none) {v1 : Int} {v2 : Int} {σ : Mm} {r : Mm} (hl : lv_has ls 4 [(0, .ref (q 0)), (1, .int (i32 v1)), (2, .int (i32 v2))]) (h : fX8_readCorner_71 v1 v2 σ = some r) : VM p l e rmX8_readCorner s m args below meth c D ac q (QVM D ac q below args s r) σ (F0 m 71 ls []) := by
  have h : bindv 0 (fun v3_1 => lX8_readCorner_73 v1 v2 (fun σ_2 => fX8_readCorner_118 v1 v2 σ_2) 400 v3_1 σ) = some r := h
  refine v_iconst C dX8_readCorner_71 ?_
  refine v_istore_n C hl (fun x => [(3, .int (i32 x)), (0, .ref (q 0)), (1, .int (i32 v1)), (2, .int (i32 v2))]) dX8_readCorner_72 rfl (by decide) (fun _ => rfl) h (fun v3_1 ls hl h => ?_)
  exact wlX8_readCorner_73 C hr (fun σ_2 ls hl h => wX8_readCorner_118 C hr (lv_sub hl [0, 1, 2] rfl) h) _ _ _ _ (lv_sub hl [1, 2, 3, 0] rfl) h
theorem wX8_readCorner_50 (C : CxM p rmX8_readCorner s m args meth c D ac q RX8 cX8_readCorner 4) (hr : meth.sig.returnType = none) {v1 : Int} {v2 : Int} {σ : Mm} {r : Mm} (hl : lv_has ls 4 [(0, .ref (q 0)), (1, .int (i32 v1)), (2, .int (i32 v2))]) (h : fX8_readCorner_50 v1 v2 σ = some r) : VM p l e rmX8_readCorner s m args below meth c D ac q (QVM D ac q below args s r) σ (F0 m 50 ls []) := by
  have h : cr (σ 0 4) ((if σ 0 4 = 0 then cr (σ 0 9) ((if σ 0 9 < 24 then fX8_readCorner_71 v1 v2 σ else bd (fX8_fails 3 σ) (fun σ_3 => fX8_readCorner_71 v1 v2 σ_3))) else fX8_readCorner_71 v1 v2 σ)) = some r := h
  refine v_aload_n C hl dX8_readCorner_50 rfl 0 rfl ?_
  refine g_X8_4 C kdM_0 fl_X8_75 dX8_readCorner_51 ?_
  have hz1 := (cr_e h).1
  have h := (cr_e h).2
  refine v_if_ne C (tgt := 71) hz1 h dX8_readCorner_54 rfl (fun h => ?_) (fun h => ?_)
  · exact wX8_readCorner_71 C hr (lv_sub hl [0, 1, 2] rfl) h
  · refine v_aload_n C hl dX8_readCorner_57 rfl 0 rfl ?_
    refine g_X8_9 C kdM_0 fl_X8_94 dX8_readCorner_58 ?_
    refine v_bipush C dX8_readCorner_61 rfl ?_
    have hz2 := (cr_e h).1
    have h := (cr_e h).2
    refine v_icmp_lt C (tgt := 71) hz2 (by decide) h dX8_readCorner_63 rfl (fun h => ?_) (fun h => ?_)
    · exact wX8_readCorner_71 C hr (lv_sub hl [0, 1, 2] rfl) h
    · refine v_aload_n C hl dX8_readCorner_66 rfl 0 rfl ?_
      refine v_iconst C dX8_readCorner_67 ?_
      obtain ⟨σ_3, hv3, h⟩ := bd_e h
      refine v_callVV C 0 (klM kdM_0) rfl (ckM1 kdM_0 _) rfl [.int (i32 3)] (mX8_fails C.2.2.2.2.1 hv3) cd_X8_fails ic_X8 im_X8_fails se_X8_fails ml_X8_105 yk_X8_fails ⟨rfl, rfl, by decide, by decide⟩ rfl hl.1 (rest := []) rfl (Nat.le_of_ble_eq_true rfl) dX8_readCorner_68 ?_
      exact wX8_readCorner_71 C hr (lv_sub hl [0, 1, 2] rfl) h
theorem wX8_readCorner_30 (C : CxM p rmX8_readCorner s m args meth c D ac q RX8 cX8_readCorner 4) (hr : meth.sig.returnType = none) {v1 : Int} {v2 : Int} {σ : Mm} {r : Mm} (hl : lv_has ls 4 [(0, .ref (q 0)), (1, .int (i32 v1)), (2, .int (i32 v2))]) (h : fX8_readCorner_30 v1 v2 σ = some r) : VM p l e rmX8_readCorner s m args below meth c D ac q (QVM D ac q below args s r) σ (F0 m 30 ls []) := by
  have h : cr (σ 0 4) ((if σ 0 4 = 0 then cr (σ 0 8) ((if σ 0 8 = 2 then fX8_readCorner_50 v1 v2 σ else bd (fX8_fails 2 σ) (fun σ_3 => fX8_readCorner_50 v1 v2 σ_3))) else fX8_readCorner_50 v1 v2 σ)) = some r := h
  refine v_aload_n C hl dX8_readCorner_30 rfl 0 rfl ?_
  refine g_X8_4 C kdM_0 fl_X8_75 dX8_readCorner_31 ?_
  have hz1 := (cr_e h).1
  have h := (cr_e h).2
  refine v_if_ne C (tgt := 50) hz1 h dX8_readCorner_34 rfl (fun h => ?_) (fun h => ?_)
  · exact wX8_readCorner_50 C hr (lv_sub hl [0, 1, 2] rfl) h
  · refine v_aload_n C hl dX8_readCorner_37 rfl 0 rfl ?_
    refine g_X8_8 C kdM_0 fl_X8_84 dX8_readCorner_38 ?_
    refine v_iconst C dX8_readCorner_41 ?_
    have hz2 := (cr_e h).1
    have h := (cr_e h).2
    refine v_icmp_eq C (tgt := 50) hz2 (by decide) h dX8_readCorner_42 rfl (fun h => ?_) (fun h => ?_)
    · exact wX8_readCorner_50 C hr (lv_sub hl [0, 1, 2] rfl) h
    · refine v_aload_n C hl dX8_readCorner_45 rfl 0 rfl ?_
      refine v_iconst C dX8_readCorner_46 ?_
      obtain ⟨σ_3, hv3, h⟩ := bd_e h
      refine v_callVV C 0 (klM kdM_0) rfl (ckM1 kdM_0 _) rfl [.int (i32 2)] (mX8_fails C.2.2.2.2.1 hv3) cd_X8_fails ic_X8 im_X8_fails se_X8_fails ml_X8_105 yk_X8_fails ⟨rfl, rfl, by decide, by decide⟩ rfl hl.1 (rest := []) rfl (Nat.le_of_ble_eq_true rfl) dX8_readCorner_47 ?_
      exact wX8_readCorner_50 C hr (lv_sub hl [0, 1, 2] rfl) h
theorem mX8_readCorner (hq : QI 19 q) {v1 : Int} {σ : Mm} {r : Mm} (h : fX8_readCorner v1 σ = some r) : MVM l D ac q yX8_readCorner cX8_readCorner 4 none rmX8_readCorner [.ref (q 0), .int (i32 v1)] σ r := by
  refine MV.of hq XT_M (by decide) (Nat.le_of_ble_eq_true rfl) (fun p e s m below meth c ls C hr hl => ?_)
  have hl : lv_has ls 4 [(0, .ref (q 0)), (1, .int (i32 v1))] := hl
  have h : chk (552 + v1) 700 (bindv (σ 1 (552 + v1).toNat) (fun v2_1 => cr (σ 0 8) ((if σ 0 8 = 2 then cr v2_1 ((if v2_1 = 10 then bd (fX8_fails 5 σ) (fun σ_4 => fX8_readCorner_30 v1 v2_1 σ_4) else fX8_readCorner_30 v1 v2_1 σ)) else fX8_readCorner_30 v1 v2_1 σ)))) = some r := h
  refine v_aload_n C hl dX8_readCorner_0 rfl 0 rfl ?_
  refine g_X8_0 C kdM_0 fl_X8_7 dX8_readCorner_1 ?_
  refine v_sipush C dX8_readCorner_4 rfl ?_
  refine v_iload_n C hl dX8_readCorner_7 rfl 1 rfl ?_
  refine v_iadd C dX8_readCorner_8 ?_
  refine alM2 C kdM_1 h dX8_readCorner_9 (fun h => ?_)
  refine v_istore_n C hl (fun x => [(2, .int (i32 x)), (0, .ref (q 0)), (1, .int (i32 v1))]) dX8_readCorner_10 rfl (by decide) (fun _ => rfl) h (fun v2_1 ls hl h => ?_)
  refine v_aload_n C hl dX8_readCorner_11 rfl 1 rfl ?_
  refine g_X8_8 C kdM_0 fl_X8_84 dX8_readCorner_12 ?_
  refine v_iconst C dX8_readCorner_15 ?_
  have hz2 := (cr_e h).1
  have h := (cr_e h).2
  refine v_icmp_ne C (tgt := 30) hz2 (by decide) h dX8_readCorner_16 rfl (fun h => ?_) (fun h => ?_)
  · exact wX8_readCorner_30 C hr (lv_sub hl [1, 2, 0] rfl) h
  · refine v_iload_n C hl dX8_readCorner_19 rfl 0 rfl ?_
    refine v_bipush C dX8_readCorner_20 rfl ?_
    have hz3 := (cr_e h).1
    have h := (cr_e h).2
    refine v_icmp_ne C (tgt := 30) hz3 (by decide) h dX8_readCorner_22 rfl (fun h => ?_) (fun h => ?_)
    · exact wX8_readCorner_30 C hr (lv_sub hl [1, 2, 0] rfl) h
    · refine v_aload_n C hl dX8_readCorner_25 rfl 1 rfl ?_
      refine v_iconst C dX8_readCorner_26 ?_
      obtain ⟨σ_4, hv4, h⟩ := bd_e h
      refine v_callVV C 0 (klM kdM_0) rfl (ckM1 kdM_0 _) rfl [.int (i32 5)] (mX8_fails C.2.2.2.2.1 hv4) cd_X8_fails ic_X8 im_X8_fails se_X8_fails ml_X8_105 yk_X8_fails ⟨rfl, rfl, by decide, by decide⟩ rfl hl.1 (rest := []) rfl (Nat.le_of_ble_eq_true rfl) dX8_readCorner_27 ?_
      exact wX8_readCorner_30 C hr (lv_sub hl [1, 2, 0] rfl) h
end
section
variable {l : Launch} {D : va_G} {ac : Nat → ClassId} {q : Nat → Nat} {p : Program} {e : Env} {s : State} {m : MethodId} {args : Array Value} {below : List Frame} {meth : Method} {c : Code} {ls : Array Slot}
theorem dX8_readPoint_0 : decode cX8_readPoint 0 = .ok (.aload_n 0, 1) := by decide +kernel
theorem dX8_readPoint_1 : decode cX8_readPoint 1 = .ok (.getfield 7, 3) := by decide +kernel
theorem dX8_readPoint_4 : decode cX8_readPoint 4 = .ok (.sipush 558, 3) := by decide +kernel
theorem dX8_readPoint_7 : decode cX8_readPoint 7 = .ok (.iaload, 1) := by decide +kernel
theorem dX8_readPoint_8 : decode cX8_readPoint 8 = .ok (.istore_n 1, 1) := by decide +kernel
theorem dX8_readPoint_9 : decode cX8_readPoint 9 = .ok (.iload_n 1, 1) := by decide +kernel
theorem dX8_readPoint_10 : decode cX8_readPoint 10 = .ok (.bipush 24, 2) := by decide +kernel
theorem dX8_readPoint_12 : decode cX8_readPoint 12 = .ok (.if_icmp .ne 9, 3) := by decide +kernel
theorem dX8_readPoint_15 : decode cX8_readPoint 15 = .ok (.aload_n 0, 1) := by decide +kernel
theorem dX8_readPoint_16 : decode cX8_readPoint 16 = .ok (.iconst 5, 1) := by decide +kernel
theorem dX8_readPoint_17 : decode cX8_readPoint 17 = .ok (.invokevirtual 105, 3) := by decide +kernel
theorem dX8_readPoint_20 : decode cX8_readPoint 20 = .ok (.return_, 1) := by decide +kernel
theorem dX8_readPoint_21 : decode cX8_readPoint 21 = .ok (.aload_n 0, 1) := by decide +kernel
theorem dX8_readPoint_22 : decode cX8_readPoint 22 = .ok (.invokevirtual 109, 3) := by decide +kernel
theorem dX8_readPoint_25 : decode cX8_readPoint 25 = .ok (.aload_n 0, 1) := by decide +kernel
theorem dX8_readPoint_26 : decode cX8_readPoint 26 = .ok (.getfield 7, 3) := by decide +kernel
theorem dX8_readPoint_29 : decode cX8_readPoint 29 = .ok (.sipush 420, 3) := by decide +kernel
theorem dX8_readPoint_32 : decode cX8_readPoint 32 = .ok (.iload_n 1, 1) := by decide +kernel
theorem dX8_readPoint_33 : decode cX8_readPoint 33 = .ok (.iadd, 1) := by decide +kernel
theorem dX8_readPoint_34 : decode cX8_readPoint 34 = .ok (.aload_n 0, 1) := by decide +kernel
theorem dX8_readPoint_35 : decode cX8_readPoint 35 = .ok (.sipush 199, 3) := by decide +kernel
theorem dX8_readPoint_38 : decode cX8_readPoint 38 = .ok (.invokevirtual 112, 3) := by decide +kernel
theorem dX8_readPoint_41 : decode cX8_readPoint 41 = .ok (.iastore, 1) := by decide +kernel
theorem dX8_readPoint_42 : decode cX8_readPoint 42 = .ok (.aload_n 0, 1) := by decide +kernel
theorem dX8_readPoint_43 : decode cX8_readPoint 43 = .ok (.getfield 7, 3) := by decide +kernel
theorem dX8_readPoint_46 : decode cX8_readPoint 46 = .ok (.sipush 444, 3) := by decide +kernel
theorem dX8_readPoint_49 : decode cX8_readPoint 49 = .ok (.iload_n 1, 1) := by decide +kernel
theorem dX8_readPoint_50 : decode cX8_readPoint 50 = .ok (.iadd, 1) := by decide +kernel
theorem dX8_readPoint_51 : decode cX8_readPoint 51 = .ok (.aload_n 0, 1) := by decide +kernel
theorem dX8_readPoint_52 : decode cX8_readPoint 52 = .ok (.sipush 199, 3) := by decide +kernel
theorem dX8_readPoint_55 : decode cX8_readPoint 55 = .ok (.invokevirtual 112, 3) := by decide +kernel
theorem dX8_readPoint_58 : decode cX8_readPoint 58 = .ok (.iastore, 1) := by decide +kernel
theorem dX8_readPoint_59 : decode cX8_readPoint 59 = .ok (.aload_n 0, 1) := by decide +kernel
theorem dX8_readPoint_60 : decode cX8_readPoint 60 = .ok (.getfield 7, 3) := by decide +kernel
theorem dX8_readPoint_63 : decode cX8_readPoint 63 = .ok (.sipush 558, 3) := by decide +kernel
theorem dX8_readPoint_66 : decode cX8_readPoint 66 = .ok (.dup2, 1) := by decide +kernel
theorem dX8_readPoint_67 : decode cX8_readPoint 67 = .ok (.iaload, 1) := by decide +kernel
theorem dX8_readPoint_68 : decode cX8_readPoint 68 = .ok (.iconst 1, 1) := by decide +kernel
theorem dX8_readPoint_69 : decode cX8_readPoint 69 = .ok (.iadd, 1) := by decide +kernel
theorem dX8_readPoint_70 : decode cX8_readPoint 70 = .ok (.iastore, 1) := by decide +kernel
theorem dX8_readPoint_71 : decode cX8_readPoint 71 = .ok (.return_, 1) := by decide +kernel
theorem mX8_readPoint (hq : QI 19 q)  {σ : Mm} {r : Mm} (h : fX8_readPoint σ = some r) : MVM l D ac q yX8_readPoint cX8_readPoint 2 none rmX8_readPoint [.ref (q 0)] σ r := by
  refine MV.of hq XT_M (by decide) (Nat.le_of_ble_eq_true rfl) (fun p e s m below meth c ls C hr hl => ?_)
  have hl : lv_has ls 2 [(0, .ref (q 0))] := hl
  have h : chk 558 700 (bindv (σ 1 558) (fun v1_1 => cr v1_1 ((if v1_1 = 24 then bd (fX8_fails 5 σ) (fun σ_9 => some σ_9) else bd (fX8_readsOn σ) (fun σ_3 => bd2 (fX8_numberRead 199 σ_3) (fun x_4 σ_4 => chk (420 + v1_1) 700 (bindv (sto σ_4 1 (420 + v1_1).toNat x_4) (fun σ_5 => bd2 (fX8_numberRead 199 σ_5) (fun x_6 σ_6 => chk (444 + v1_1) 700 (bindv (sto σ_6 1 (444 + v1_1).toNat x_6) (fun σ_7 => chk 558 700 (chk 558 700 (bindv (sto σ_7 1 558 ((σ_7 1 558) + 1)) (fun σ_8 => some σ_8)))))))))))))) = some r := h
  refine v_aload_n C hl dX8_readPoint_0 rfl 0 rfl ?_
  refine g_X8_0 C kdM_0 fl_X8_7 dX8_readPoint_1 ?_
  refine v_sipush C dX8_readPoint_4 rfl ?_
  refine alM2 C kdM_1 h dX8_readPoint_7 (fun h => ?_)
  refine v_istore_n C hl (fun x => [(1, .int (i32 x)), (0, .ref (q 0))]) dX8_readPoint_8 rfl (by decide) (fun _ => rfl) h (fun v1_1 ls hl h => ?_)
  refine v_iload_n C hl dX8_readPoint_9 rfl 0 rfl ?_
  refine v_bipush C dX8_readPoint_10 rfl ?_
  have hz2 := (cr_e h).1
  have h := (cr_e h).2
  refine v_icmp_ne C (tgt := 21) hz2 (by decide) h dX8_readPoint_12 rfl (fun h => ?_) (fun h => ?_)
  · refine v_aload_n C hl dX8_readPoint_21 rfl 1 rfl ?_
    obtain ⟨σ_3, hv3, h⟩ := bd_e h
    refine v_callVV C 0 (klM kdM_0) rfl (ckM1 kdM_0 _) rfl [] (mX8_readsOn C.2.2.2.2.1 hv3) cd_X8_readsOn ic_X8 im_X8_readsOn se_X8_readsOn ml_X8_109 yk_X8_readsOn ⟨rfl, rfl, by decide, by decide⟩ rfl hl.1 (rest := []) rfl (Nat.le_of_ble_eq_true rfl) dX8_readPoint_22 ?_
    refine v_aload_n C hl dX8_readPoint_25 rfl 1 rfl ?_
    refine g_X8_0 C kdM_0 fl_X8_7 dX8_readPoint_26 ?_
    refine v_sipush C dX8_readPoint_29 rfl ?_
    refine v_iload_n C hl dX8_readPoint_32 rfl 0 rfl ?_
    refine v_iadd C dX8_readPoint_33 ?_
    refine v_aload_n C hl dX8_readPoint_34 rfl 1 rfl ?_
    refine v_sipush C dX8_readPoint_35 rfl ?_
    obtain ⟨x_4, σ_4, hv4, h⟩ := bd2_e h
    refine v_callVI C 0 (klM kdM_0) rfl (ckM1 kdM_0 _) rfl [.int (i32 199)] (mX8_numberRead C.2.2.2.2.1 hv4) cd_X8_numberRead ic_X8 im_X8_numberRead se_X8_numberRead ml_X8_112 yk_X8_numberRead ⟨rfl, rfl, by decide, by decide⟩ rfl hl.1 (rest := [.int (i32 (420 + v1_1)), .ref (q 1)]) rfl (Nat.le_of_ble_eq_true rfl) dX8_readPoint_38 ?_
    refine asM2 C kdM_1 h dX8_readPoint_41 (fun σ_5 h => ?_)
    refine v_aload_n C hl dX8_readPoint_42 rfl 1 rfl ?_
    refine g_X8_0 C kdM_0 fl_X8_7 dX8_readPoint_43 ?_
    refine v_sipush C dX8_readPoint_46 rfl ?_
    refine v_iload_n C hl dX8_readPoint_49 rfl 0 rfl ?_
    refine v_iadd C dX8_readPoint_50 ?_
    refine v_aload_n C hl dX8_readPoint_51 rfl 1 rfl ?_
    refine v_sipush C dX8_readPoint_52 rfl ?_
    obtain ⟨x_6, σ_6, hv6, h⟩ := bd2_e h
    refine v_callVI C 0 (klM kdM_0) rfl (ckM1 kdM_0 _) rfl [.int (i32 199)] (mX8_numberRead C.2.2.2.2.1 hv6) cd_X8_numberRead ic_X8 im_X8_numberRead se_X8_numberRead ml_X8_112 yk_X8_numberRead ⟨rfl, rfl, by decide, by decide⟩ rfl hl.1 (rest := [.int (i32 (444 + v1_1)), .ref (q 1)]) rfl (Nat.le_of_ble_eq_true rfl) dX8_readPoint_55 ?_
    refine asM2 C kdM_1 h dX8_readPoint_58 (fun σ_7 h => ?_)
    refine v_aload_n C hl dX8_readPoint_59 rfl 1 rfl ?_
    refine g_X8_0 C kdM_0 fl_X8_7 dX8_readPoint_60 ?_
    refine v_sipush C dX8_readPoint_63 rfl ?_
    refine v_dup2 C dX8_readPoint_66 rfl rfl ?_
    refine alM2 C kdM_1 h dX8_readPoint_67 (fun h => ?_)
    refine v_iconst C dX8_readPoint_68 ?_
    refine v_iadd C dX8_readPoint_69 ?_
    refine asM2 C kdM_1 h dX8_readPoint_70 (fun σ_8 h => ?_)
    exact v_vret C hr h dX8_readPoint_71
  · refine v_aload_n C hl dX8_readPoint_15 rfl 1 rfl ?_
    refine v_iconst C dX8_readPoint_16 ?_
    obtain ⟨σ_9, hv9, h⟩ := bd_e h
    refine v_callVV C 0 (klM kdM_0) rfl (ckM1 kdM_0 _) rfl [.int (i32 5)] (mX8_fails C.2.2.2.2.1 hv9) cd_X8_fails ic_X8 im_X8_fails se_X8_fails ml_X8_105 yk_X8_fails ⟨rfl, rfl, by decide, by decide⟩ rfl hl.1 (rest := []) rfl (Nat.le_of_ble_eq_true rfl) dX8_readPoint_17 ?_
    exact v_vret C hr h dX8_readPoint_20
end
section
variable {l : Launch} {D : va_G} {ac : Nat → ClassId} {q : Nat → Nat} {p : Program} {e : Env} {s : State} {m : MethodId} {args : Array Value} {below : List Frame} {meth : Method} {c : Code} {ls : Array Slot}
theorem dX8_readRing_0 : decode cX8_readRing 0 = .ok (.aload_n 0, 1) := by decide +kernel
theorem dX8_readRing_1 : decode cX8_readRing 1 = .ok (.getfield 7, 3) := by decide +kernel
theorem dX8_readRing_4 : decode cX8_readRing 4 = .ok (.sipush 559, 3) := by decide +kernel
theorem dX8_readRing_7 : decode cX8_readRing 7 = .ok (.iaload, 1) := by decide +kernel
theorem dX8_readRing_8 : decode cX8_readRing 8 = .ok (.istore_n 1, 1) := by decide +kernel
theorem dX8_readRing_9 : decode cX8_readRing 9 = .ok (.iload_n 1, 1) := by decide +kernel
theorem dX8_readRing_10 : decode cX8_readRing 10 = .ok (.bipush 6, 2) := by decide +kernel
theorem dX8_readRing_12 : decode cX8_readRing 12 = .ok (.if_icmp .ne 9, 3) := by decide +kernel
theorem dX8_readRing_15 : decode cX8_readRing 15 = .ok (.aload_n 0, 1) := by decide +kernel
theorem dX8_readRing_16 : decode cX8_readRing 16 = .ok (.iconst 5, 1) := by decide +kernel
theorem dX8_readRing_17 : decode cX8_readRing 17 = .ok (.invokevirtual 105, 3) := by decide +kernel
theorem dX8_readRing_20 : decode cX8_readRing 20 = .ok (.return_, 1) := by decide +kernel
theorem dX8_readRing_21 : decode cX8_readRing 21 = .ok (.aload_n 0, 1) := by decide +kernel
theorem dX8_readRing_22 : decode cX8_readRing 22 = .ok (.invokevirtual 109, 3) := by decide +kernel
theorem dX8_readRing_25 : decode cX8_readRing 25 = .ok (.aload_n 0, 1) := by decide +kernel
theorem dX8_readRing_26 : decode cX8_readRing 26 = .ok (.getfield 7, 3) := by decide +kernel
theorem dX8_readRing_29 : decode cX8_readRing 29 = .ok (.sipush 559, 3) := by decide +kernel
theorem dX8_readRing_32 : decode cX8_readRing 32 = .ok (.dup2, 1) := by decide +kernel
theorem dX8_readRing_33 : decode cX8_readRing 33 = .ok (.iaload, 1) := by decide +kernel
theorem dX8_readRing_34 : decode cX8_readRing 34 = .ok (.iconst 1, 1) := by decide +kernel
theorem dX8_readRing_35 : decode cX8_readRing 35 = .ok (.iadd, 1) := by decide +kernel
theorem dX8_readRing_36 : decode cX8_readRing 36 = .ok (.iastore, 1) := by decide +kernel
theorem dX8_readRing_37 : decode cX8_readRing 37 = .ok (.aload_n 0, 1) := by decide +kernel
theorem dX8_readRing_38 : decode cX8_readRing 38 = .ok (.getfield 75, 3) := by decide +kernel
theorem dX8_readRing_41 : decode cX8_readRing 41 = .ok (.ifCond .ne 33, 3) := by decide +kernel
theorem dX8_readRing_44 : decode cX8_readRing 44 = .ok (.aload_n 0, 1) := by decide +kernel
theorem dX8_readRing_45 : decode cX8_readRing 45 = .ok (.getfield 84, 3) := by decide +kernel
theorem dX8_readRing_48 : decode cX8_readRing 48 = .ok (.iconst 2, 1) := by decide +kernel
theorem dX8_readRing_49 : decode cX8_readRing 49 = .ok (.if_icmp .eq 17, 3) := by decide +kernel
theorem dX8_readRing_52 : decode cX8_readRing 52 = .ok (.aload_n 0, 1) := by decide +kernel
theorem dX8_readRing_53 : decode cX8_readRing 53 = .ok (.getfield 7, 3) := by decide +kernel
theorem dX8_readRing_56 : decode cX8_readRing 56 = .ok (.sipush 552, 3) := by decide +kernel
theorem dX8_readRing_59 : decode cX8_readRing 59 = .ok (.iload_n 1, 1) := by decide +kernel
theorem dX8_readRing_60 : decode cX8_readRing 60 = .ok (.iadd, 1) := by decide +kernel
theorem dX8_readRing_61 : decode cX8_readRing 61 = .ok (.iaload, 1) := by decide +kernel
theorem dX8_readRing_62 : decode cX8_readRing 62 = .ok (.iconst 3, 1) := by decide +kernel
theorem dX8_readRing_63 : decode cX8_readRing 63 = .ok (.if_icmp .ge 11, 3) := by decide +kernel
theorem dX8_readRing_66 : decode cX8_readRing 66 = .ok (.aload_n 0, 1) := by decide +kernel
theorem dX8_readRing_67 : decode cX8_readRing 67 = .ok (.iload_n 1, 1) := by decide +kernel
theorem dX8_readRing_68 : decode cX8_readRing 68 = .ok (.invokevirtual 115, 3) := by decide +kernel
theorem dX8_readRing_71 : decode cX8_readRing 71 = .ok (.goto (-34), 3) := by decide +kernel
theorem dX8_readRing_74 : decode cX8_readRing 74 = .ok (.return_, 1) := by decide +kernel
theorem wX8_readRing_74 (C : CxM p rmX8_readRing s m args meth c D ac q RX8 cX8_readRing 2) (hr : meth.sig.returnType = none) {σ : Mm} {r : Mm} (hl : lv_has ls 2 [(0, .ref (q 0))]) (h : fX8_readRing_74 σ = some r) : VM p l e rmX8_readRing s m args below meth c D ac q (QVM D ac q below args s r) σ (F0 m 74 ls []) := by
  have h : some σ = some r := h
  exact v_vret C hr h dX8_readRing_74
theorem wX8_readRing_66 (C : CxM p rmX8_readRing s m args meth c D ac q RX8 cX8_readRing 2) (hr : meth.sig.returnType = none) {v1 : Int} {c37 : Mm → Option (Mm)} {σ : Mm} {r : Mm} (hc37 : ∀ (σ : Mm) (ls : Array Slot), lv_has ls 2 [(0, .ref (q 0)), (1, .int (i32 v1))] → c37 σ = some r → VM p l e rmX8_readRing s m args below meth c D ac q (QVM D ac q below args s r) σ (F0 m 37 ls [])) (hl : lv_has ls 2 [(0, .ref (q 0)), (1, .int (i32 v1))]) (h : fX8_readRing_66 c37 v1 σ = some r) : VM p l e rmX8_readRing s m args below meth c D ac q (QVM D ac q below args s r) σ (F0 m 66 ls []) := by
  have h : bd (fX8_readCorner v1 σ) (fun σ_1 => c37 σ_1) = some r := h
  refine v_aload_n C hl dX8_readRing_66 rfl 0 rfl ?_
  refine v_iload_n C hl dX8_readRing_67 rfl 1 rfl ?_
  obtain ⟨σ_1, hv1, h⟩ := bd_e h
  refine v_callVV C 0 (klM kdM_0) rfl (ckM1 kdM_0 _) rfl [.int (i32 v1)] (mX8_readCorner C.2.2.2.2.1 hv1) cd_X8_readCorner ic_X8 im_X8_readCorner se_X8_readCorner ml_X8_115 yk_X8_readCorner ⟨rfl, rfl, by decide, by decide⟩ rfl hl.1 (rest := []) rfl (Nat.le_of_ble_eq_true rfl) dX8_readRing_68 ?_
  refine v_goto C (tgt := 37) dX8_readRing_71 rfl ?_
  exact hc37 _ _ (lv_sub hl [0, 1] rfl) h
theorem wX8_readRing_37 (C : CxM p rmX8_readRing s m args meth c D ac q RX8 cX8_readRing 2) (hr : meth.sig.returnType = none) {v1 : Int} {σ : Mm} {e37 : Mm → Option (Mm)} {c37 : Mm → Option (Mm)} {r : Mm} (he37 : ∀ (σ : Mm) (ls : Array Slot), lv_has ls 2 [(0, .ref (q 0))] → e37 σ = some r → VM p l e rmX8_readRing s m args below meth c D ac q (QVM D ac q below args s r) σ (F0 m 74 ls [])) (hc37 : ∀ (σ : Mm) (ls : Array Slot), lv_has ls 2 [(0, .ref (q 0)), (1, .int (i32 v1))] → c37 σ = some r → VM p l e rmX8_readRing s m args below meth c D ac q (QVM D ac q below args s r) σ (F0 m 37 ls [])) (hl : lv_has ls 2 [(0, .ref (q 0)), (1, .int (i32 v1))]) (h : fX8_readRing_37 v1 e37 c37 σ = some r) : VM p l e rmX8_readRing s m args below meth c D ac q (QVM D ac q below args s r) σ (F0 m 37 ls []) := by
  have h : cr (σ 0 4) ((if σ 0 4 = 0 then cr (σ 0 8) ((if σ 0 8 = 2 then fX8_readRing_66 c37 v1 σ else chk (552 + v1) 700 (cr (σ 1 (552 + v1).toNat) ((if σ 1 (552 + v1).toNat < 3 then fX8_readRing_66 c37 v1 σ else e37 σ))))) else e37 σ)) = some r := h
  refine v_aload_n C hl dX8_readRing_37 rfl 0 rfl ?_
  refine g_X8_4 C kdM_0 fl_X8_75 dX8_readRing_38 ?_
  have hz1 := (cr_e h).1
  have h := (cr_e h).2
  refine v_if_ne C (tgt := 74) hz1 h dX8_readRing_41 rfl (fun h => ?_) (fun h => ?_)
  · exact he37 _ _ (lv_sub hl [0] rfl) h
  · refine v_aload_n C hl dX8_readRing_44 rfl 0 rfl ?_
    refine g_X8_8 C kdM_0 fl_X8_84 dX8_readRing_45 ?_
    refine v_iconst C dX8_readRing_48 ?_
    have hz2 := (cr_e h).1
    have h := (cr_e h).2
    refine v_icmp_eq C (tgt := 66) hz2 (by decide) h dX8_readRing_49 rfl (fun h => ?_) (fun h => ?_)
    · exact wX8_readRing_66 C hr hc37 (lv_sub hl [0, 1] rfl) h
    · refine v_aload_n C hl dX8_readRing_52 rfl 0 rfl ?_
      refine g_X8_0 C kdM_0 fl_X8_7 dX8_readRing_53 ?_
      refine v_sipush C dX8_readRing_56 rfl ?_
      refine v_iload_n C hl dX8_readRing_59 rfl 1 rfl ?_
      refine v_iadd C dX8_readRing_60 ?_
      refine alM2 C kdM_1 h dX8_readRing_61 (fun h => ?_)
      refine v_iconst C dX8_readRing_62 ?_
      have hz3 := (cr_e h).1
      have h := (cr_e h).2
      refine v_icmp_ge C (tgt := 74) hz3 (by decide) h dX8_readRing_63 rfl (fun h => ?_) (fun h => ?_)
      · exact he37 _ _ (lv_sub hl [0] rfl) h
      · exact wX8_readRing_66 C hr hc37 (lv_sub hl [0, 1] rfl) h
theorem wlX8_readRing_37 (C : CxM p rmX8_readRing s m args meth c D ac q RX8 cX8_readRing 2) (hr : meth.sig.returnType = none) {v1 : Int} {e37 : Mm → Option (Mm)} {r : Mm} (he37 : ∀ (σ : Mm) (ls : Array Slot), lv_has ls 2 [(0, .ref (q 0))] → e37 σ = some r → VM p l e rmX8_readRing s m args below meth c D ac q (QVM D ac q below args s r) σ (F0 m 74 ls [])) : ∀ (fu : Nat) (σ : Mm) (ls : Array Slot) (hl : lv_has ls 2 [(0, .ref (q 0)), (1, .int (i32 v1))]) (h : lX8_readRing_37 v1 e37 fu σ = some r), VM p l e rmX8_readRing s m args below meth c D ac q (QVM D ac q below args s r) σ (F0 m 37 ls []) := by
  intro fu
  induction fu with
  | zero =>
    intro σ ls hl h
    have h : none = some r := h
    cases h
  | succ fu ih =>
    intro σ ls hl h
    exact wX8_readRing_37 C hr he37 (fun σ ls hl h => ih σ ls hl h) hl h
theorem mX8_readRing (hq : QI 19 q)  {σ : Mm} {r : Mm} (h : fX8_readRing σ = some r) : MVM l D ac q yX8_readRing cX8_readRing 2 none rmX8_readRing [.ref (q 0)] σ r := by
  refine MV.of hq XT_M (by decide) (Nat.le_of_ble_eq_true rfl) (fun p e s m below meth c ls C hr hl => ?_)
  have hl : lv_has ls 2 [(0, .ref (q 0))] := hl
  have h : chk 559 700 (bindv (σ 1 559) (fun v1_1 => cr v1_1 ((if v1_1 = 6 then bd (fX8_fails 5 σ) (fun σ_6 => some σ_6) else bd (fX8_readsOn σ) (fun σ_3 => chk 559 700 (chk 559 700 (bindv (sto σ_3 1 559 ((σ_3 1 559) + 1)) (fun σ_4 => lX8_readRing_37 v1_1 (fun σ_5 => fX8_readRing_74 σ_5) 400 σ_4)))))))) = some r := h
  refine v_aload_n C hl dX8_readRing_0 rfl 0 rfl ?_
  refine g_X8_0 C kdM_0 fl_X8_7 dX8_readRing_1 ?_
  refine v_sipush C dX8_readRing_4 rfl ?_
  refine alM2 C kdM_1 h dX8_readRing_7 (fun h => ?_)
  refine v_istore_n C hl (fun x => [(1, .int (i32 x)), (0, .ref (q 0))]) dX8_readRing_8 rfl (by decide) (fun _ => rfl) h (fun v1_1 ls hl h => ?_)
  refine v_iload_n C hl dX8_readRing_9 rfl 0 rfl ?_
  refine v_bipush C dX8_readRing_10 rfl ?_
  have hz2 := (cr_e h).1
  have h := (cr_e h).2
  refine v_icmp_ne C (tgt := 21) hz2 (by decide) h dX8_readRing_12 rfl (fun h => ?_) (fun h => ?_)
  · refine v_aload_n C hl dX8_readRing_21 rfl 1 rfl ?_
    obtain ⟨σ_3, hv3, h⟩ := bd_e h
    refine v_callVV C 0 (klM kdM_0) rfl (ckM1 kdM_0 _) rfl [] (mX8_readsOn C.2.2.2.2.1 hv3) cd_X8_readsOn ic_X8 im_X8_readsOn se_X8_readsOn ml_X8_109 yk_X8_readsOn ⟨rfl, rfl, by decide, by decide⟩ rfl hl.1 (rest := []) rfl (Nat.le_of_ble_eq_true rfl) dX8_readRing_22 ?_
    refine v_aload_n C hl dX8_readRing_25 rfl 1 rfl ?_
    refine g_X8_0 C kdM_0 fl_X8_7 dX8_readRing_26 ?_
    refine v_sipush C dX8_readRing_29 rfl ?_
    refine v_dup2 C dX8_readRing_32 rfl rfl ?_
    refine alM2 C kdM_1 h dX8_readRing_33 (fun h => ?_)
    refine v_iconst C dX8_readRing_34 ?_
    refine v_iadd C dX8_readRing_35 ?_
    refine asM2 C kdM_1 h dX8_readRing_36 (fun σ_4 h => ?_)
    exact wlX8_readRing_37 C hr (fun σ_5 ls hl h => wX8_readRing_74 C hr (lv_sub hl [0] rfl) h) _ _ _ (lv_sub hl [1, 0] rfl) h
  · refine v_aload_n C hl dX8_readRing_15 rfl 1 rfl ?_
    refine v_iconst C dX8_readRing_16 ?_
    obtain ⟨σ_6, hv6, h⟩ := bd_e h
    refine v_callVV C 0 (klM kdM_0) rfl (ckM1 kdM_0 _) rfl [.int (i32 5)] (mX8_fails C.2.2.2.2.1 hv6) cd_X8_fails ic_X8 im_X8_fails se_X8_fails ml_X8_105 yk_X8_fails ⟨rfl, rfl, by decide, by decide⟩ rfl hl.1 (rest := []) rfl (Nat.le_of_ble_eq_true rfl) dX8_readRing_17 ?_
    exact v_vret C hr h dX8_readRing_20
end
section
variable {l : Launch} {D : va_G} {ac : Nat → ClassId} {q : Nat → Nat} {p : Program} {e : Env} {s : State} {m : MethodId} {args : Array Value} {below : List Frame} {meth : Method} {c : Code} {ls : Array Slot}
theorem dX8_readLine_0 : decode cX8_readLine 0 = .ok (.aload_n 0, 1) := by decide +kernel
theorem dX8_readLine_1 : decode cX8_readLine 1 = .ok (.invokevirtual 118, 3) := by decide +kernel
theorem dX8_readLine_4 : decode cX8_readLine 4 = .ok (.istore_n 1, 1) := by decide +kernel
theorem dX8_readLine_5 : decode cX8_readLine 5 = .ok (.iload_n 1, 1) := by decide +kernel
theorem dX8_readLine_6 : decode cX8_readLine 6 = .ok (.bipush (-4), 2) := by decide +kernel
theorem dX8_readLine_8 : decode cX8_readLine 8 = .ok (.if_icmp .ne 11, 3) := by decide +kernel
theorem dX8_readLine_11 : decode cX8_readLine 11 = .ok (.aload_n 0, 1) := by decide +kernel
theorem dX8_readLine_12 : decode cX8_readLine 12 = .ok (.iconst 2, 1) := by decide +kernel
theorem dX8_readLine_13 : decode cX8_readLine 13 = .ok (.invokevirtual 105, 3) := by decide +kernel
theorem dX8_readLine_16 : decode cX8_readLine 16 = .ok (.goto 72, 3) := by decide +kernel
theorem dX8_readLine_19 : decode cX8_readLine 19 = .ok (.iload_n 1, 1) := by decide +kernel
theorem dX8_readLine_20 : decode cX8_readLine 20 = .ok (.ifCond .ne 10, 3) := by decide +kernel
theorem dX8_readLine_23 : decode cX8_readLine 23 = .ok (.aload_n 0, 1) := by decide +kernel
theorem dX8_readLine_24 : decode cX8_readLine 24 = .ok (.invokevirtual 122, 3) := by decide +kernel
theorem dX8_readLine_27 : decode cX8_readLine 27 = .ok (.goto 61, 3) := by decide +kernel
theorem dX8_readLine_30 : decode cX8_readLine 30 = .ok (.iload_n 1, 1) := by decide +kernel
theorem dX8_readLine_31 : decode cX8_readLine 31 = .ok (.iconst 1, 1) := by decide +kernel
theorem dX8_readLine_32 : decode cX8_readLine 32 = .ok (.if_icmp .ne 10, 3) := by decide +kernel
theorem dX8_readLine_35 : decode cX8_readLine 35 = .ok (.aload_n 0, 1) := by decide +kernel
theorem dX8_readLine_36 : decode cX8_readLine 36 = .ok (.invokevirtual 125, 3) := by decide +kernel
theorem dX8_readLine_39 : decode cX8_readLine 39 = .ok (.goto 49, 3) := by decide +kernel
theorem dX8_readLine_42 : decode cX8_readLine 42 = .ok (.aload_n 0, 1) := by decide +kernel
theorem dX8_readLine_43 : decode cX8_readLine 43 = .ok (.invokevirtual 109, 3) := by decide +kernel
theorem dX8_readLine_46 : decode cX8_readLine 46 = .ok (.aload_n 0, 1) := by decide +kernel
theorem dX8_readLine_47 : decode cX8_readLine 47 = .ok (.bipush 23, 2) := by decide +kernel
theorem dX8_readLine_49 : decode cX8_readLine 49 = .ok (.invokevirtual 112, 3) := by decide +kernel
theorem dX8_readLine_52 : decode cX8_readLine 52 = .ok (.istore_n 2, 1) := by decide +kernel
theorem dX8_readLine_53 : decode cX8_readLine 53 = .ok (.aload_n 0, 1) := by decide +kernel
theorem dX8_readLine_54 : decode cX8_readLine 54 = .ok (.getfield 7, 3) := by decide +kernel
theorem dX8_readLine_57 : decode cX8_readLine 57 = .ok (.sipush 468, 3) := by decide +kernel
theorem dX8_readLine_60 : decode cX8_readLine 60 = .ok (.iload_n 2, 1) := by decide +kernel
theorem dX8_readLine_61 : decode cX8_readLine 61 = .ok (.iadd, 1) := by decide +kernel
theorem dX8_readLine_62 : decode cX8_readLine 62 = .ok (.iconst 1, 1) := by decide +kernel
theorem dX8_readLine_63 : decode cX8_readLine 63 = .ok (.iastore, 1) := by decide +kernel
theorem dX8_readLine_64 : decode cX8_readLine 64 = .ok (.aload_n 0, 1) := by decide +kernel
theorem dX8_readLine_65 : decode cX8_readLine 65 = .ok (.iload_n 2, 1) := by decide +kernel
theorem dX8_readLine_66 : decode cX8_readLine 66 = .ok (.iconst 1, 1) := by decide +kernel
theorem dX8_readLine_67 : decode cX8_readLine 67 = .ok (.iadd, 1) := by decide +kernel
theorem dX8_readLine_68 : decode cX8_readLine 68 = .ok (.aload_n 0, 1) := by decide +kernel
theorem dX8_readLine_69 : decode cX8_readLine 69 = .ok (.getfield 128, 3) := by decide +kernel
theorem dX8_readLine_72 : decode cX8_readLine 72 = .ok (.if_icmp .le 9, 3) := by decide +kernel
theorem dX8_readLine_75 : decode cX8_readLine 75 = .ok (.iload_n 2, 1) := by decide +kernel
theorem dX8_readLine_76 : decode cX8_readLine 76 = .ok (.iconst 1, 1) := by decide +kernel
theorem dX8_readLine_77 : decode cX8_readLine 77 = .ok (.iadd, 1) := by decide +kernel
theorem dX8_readLine_78 : decode cX8_readLine 78 = .ok (.goto 7, 3) := by decide +kernel
theorem dX8_readLine_81 : decode cX8_readLine 81 = .ok (.aload_n 0, 1) := by decide +kernel
theorem dX8_readLine_82 : decode cX8_readLine 82 = .ok (.getfield 128, 3) := by decide +kernel
theorem dX8_readLine_85 : decode cX8_readLine 85 = .ok (.putfield 128, 3) := by decide +kernel
theorem dX8_readLine_88 : decode cX8_readLine 88 = .ok (.aload_n 0, 1) := by decide +kernel
theorem dX8_readLine_89 : decode cX8_readLine 89 = .ok (.getfield 75, 3) := by decide +kernel
theorem dX8_readLine_92 : decode cX8_readLine 92 = .ok (.ifCond .ne 16, 3) := by decide +kernel
theorem dX8_readLine_95 : decode cX8_readLine 95 = .ok (.aload_n 0, 1) := by decide +kernel
theorem dX8_readLine_96 : decode cX8_readLine 96 = .ok (.getfield 84, 3) := by decide +kernel
theorem dX8_readLine_99 : decode cX8_readLine 99 = .ok (.iconst 3, 1) := by decide +kernel
theorem dX8_readLine_100 : decode cX8_readLine 100 = .ok (.if_icmp .eq 8, 3) := by decide +kernel
theorem dX8_readLine_103 : decode cX8_readLine 103 = .ok (.aload_n 0, 1) := by decide +kernel
theorem dX8_readLine_104 : decode cX8_readLine 104 = .ok (.iconst 2, 1) := by decide +kernel
theorem dX8_readLine_105 : decode cX8_readLine 105 = .ok (.invokevirtual 105, 3) := by decide +kernel
theorem dX8_readLine_108 : decode cX8_readLine 108 = .ok (.aload_n 0, 1) := by decide +kernel
theorem dX8_readLine_109 : decode cX8_readLine 109 = .ok (.invokevirtual 109, 3) := by decide +kernel
theorem dX8_readLine_112 : decode cX8_readLine 112 = .ok (.return_, 1) := by decide +kernel
theorem wX8_readLine_108 (C : CxM p rmX8_readLine s m args meth c D ac q RX8 cX8_readLine 3) (hr : meth.sig.returnType = none) {σ : Mm} {r : Mm} (hl : lv_has ls 3 [(0, .ref (q 0))]) (h : fX8_readLine_108 σ = some r) : VM p l e rmX8_readLine s m args below meth c D ac q (QVM D ac q below args s r) σ (F0 m 108 ls []) := by
  have h : bd (fX8_readsOn σ) (fun σ_1 => some σ_1) = some r := h
  refine v_aload_n C hl dX8_readLine_108 rfl 0 rfl ?_
  obtain ⟨σ_1, hv1, h⟩ := bd_e h
  refine v_callVV C 0 (klM kdM_0) rfl (ckM1 kdM_0 _) rfl [] (mX8_readsOn C.2.2.2.2.1 hv1) cd_X8_readsOn ic_X8 im_X8_readsOn se_X8_readsOn ml_X8_109 yk_X8_readsOn ⟨rfl, rfl, by decide, by decide⟩ rfl hl.1 (rest := []) rfl (Nat.le_of_ble_eq_true rfl) dX8_readLine_109 ?_
  exact v_vret C hr h dX8_readLine_112
theorem wX8_readLine_88 (C : CxM p rmX8_readLine s m args meth c D ac q RX8 cX8_readLine 3) (hr : meth.sig.returnType = none) {σ : Mm} {r : Mm} (hl : lv_has ls 3 [(0, .ref (q 0))]) (h : fX8_readLine_88 σ = some r) : VM p l e rmX8_readLine s m args below meth c D ac q (QVM D ac q below args s r) σ (F0 m 88 ls []) := by
  have h : cr (σ 0 4) ((if σ 0 4 = 0 then cr (σ 0 8) ((if σ 0 8 = 3 then fX8_readLine_108 σ else bd (fX8_fails 2 σ) (fun σ_3 => fX8_readLine_108 σ_3))) else fX8_readLine_108 σ)) = some r := h
  refine v_aload_n C hl dX8_readLine_88 rfl 0 rfl ?_
  refine g_X8_4 C kdM_0 fl_X8_75 dX8_readLine_89 ?_
  have hz1 := (cr_e h).1
  have h := (cr_e h).2
  refine v_if_ne C (tgt := 108) hz1 h dX8_readLine_92 rfl (fun h => ?_) (fun h => ?_)
  · exact wX8_readLine_108 C hr (lv_sub hl [0] rfl) h
  · refine v_aload_n C hl dX8_readLine_95 rfl 0 rfl ?_
    refine g_X8_8 C kdM_0 fl_X8_84 dX8_readLine_96 ?_
    refine v_iconst C dX8_readLine_99 ?_
    have hz2 := (cr_e h).1
    have h := (cr_e h).2
    refine v_icmp_eq C (tgt := 108) hz2 (by decide) h dX8_readLine_100 rfl (fun h => ?_) (fun h => ?_)
    · exact wX8_readLine_108 C hr (lv_sub hl [0] rfl) h
    · refine v_aload_n C hl dX8_readLine_103 rfl 0 rfl ?_
      refine v_iconst C dX8_readLine_104 ?_
      obtain ⟨σ_3, hv3, h⟩ := bd_e h
      refine v_callVV C 0 (klM kdM_0) rfl (ckM1 kdM_0 _) rfl [.int (i32 2)] (mX8_fails C.2.2.2.2.1 hv3) cd_X8_fails ic_X8 im_X8_fails se_X8_fails ml_X8_105 yk_X8_fails ⟨rfl, rfl, by decide, by decide⟩ rfl hl.1 (rest := []) rfl (Nat.le_of_ble_eq_true rfl) dX8_readLine_105 ?_
      exact wX8_readLine_108 C hr (lv_sub hl [0] rfl) h
theorem wX8_readLine_85 (C : CxM p rmX8_readLine s m args meth c D ac q RX8 cX8_readLine 3) (hr : meth.sig.returnType = none) {t1 : Int} {σ : Mm} {r : Mm} (hl : lv_has ls 3 [(0, .ref (q 0))]) (h : fX8_readLine_85 t1 σ = some r) : VM p l e rmX8_readLine s m args below meth c D ac q (QVM D ac q below args s r) σ (F0 m 85 ls [.int (i32 t1), .ref (q 0)]) := by
  have h : bindv (sto σ 0 12 t1) (fun σ_1 => fX8_readLine_88 σ_1) = some r := h
  refine s_X8_12 C kdM_0 fl_X8_128 h dX8_readLine_85 (fun σ_1 h => ?_)
  exact wX8_readLine_88 C hr (lv_sub hl [0] rfl) h
theorem mX8_readLine (hq : QI 19 q)  {σ : Mm} {r : Mm} (h : fX8_readLine σ = some r) : MVM l D ac q yX8_readLine cX8_readLine 3 none rmX8_readLine [.ref (q 0)] σ r := by
  refine MV.of hq XT_M (by decide) (Nat.le_of_ble_eq_true rfl) (fun p e s m below meth c ls C hr hl => ?_)
  have hl : lv_has ls 3 [(0, .ref (q 0))] := hl
  have h : bd (fX8_nameHere σ) (fun x_1 => bindv x_1 (fun v1_2 => cr v1_2 ((if v1_2 = (-4) then bd (fX8_fails 2 σ) (fun σ_14 => fX8_readLine_88 σ_14) else cr v1_2 ((if v1_2 = 0 then bd (fX8_readPoint σ) (fun σ_13 => fX8_readLine_88 σ_13) else cr v1_2 ((if v1_2 = 1 then bd (fX8_readRing σ) (fun σ_12 => fX8_readLine_88 σ_12) else bd (fX8_readsOn σ) (fun σ_6 => bd2 (fX8_numberRead 23 σ_6) (fun x_7 σ_7 => bindv x_7 (fun v2_8 => chk (468 + v2_8) 700 (bindv (sto σ_7 1 (468 + v2_8).toNat 1) (fun σ_9 => cr (v2_8 + 1) (cr (σ_9 0 12) ((if σ_9 0 12 < v2_8 + 1 then fX8_readLine_85 (v2_8 + 1) σ_9 else fX8_readLine_85 (σ_9 0 12) σ_9)))))))))))))))) = some r := h
  refine v_aload_n C hl dX8_readLine_0 rfl 0 rfl ?_
  obtain ⟨x_1, hv1, h⟩ := bd_e h
  refine v_callVI C 0 (klM kdM_0) rfl (ckM1 kdM_0 _) rfl [] (mX8_nameHere C.2.2.2.2.1 hv1) cd_X8_nameHere ic_X8 im_X8_nameHere se_X8_nameHere ml_X8_118 yk_X8_nameHere ⟨rfl, rfl, by decide, by decide⟩ rfl hl.1 (rest := []) rfl (Nat.le_of_ble_eq_true rfl) dX8_readLine_1 ?_
  refine v_istore_n C hl (fun x => [(1, .int (i32 x)), (0, .ref (q 0))]) dX8_readLine_4 rfl (by decide) (fun _ => rfl) h (fun v1_2 ls hl h => ?_)
  refine v_iload_n C hl dX8_readLine_5 rfl 0 rfl ?_
  refine v_bipush C dX8_readLine_6 rfl ?_
  have hz3 := (cr_e h).1
  have h := (cr_e h).2
  refine v_icmp_ne C (tgt := 19) hz3 (by decide) h dX8_readLine_8 rfl (fun h => ?_) (fun h => ?_)
  · refine v_iload_n C hl dX8_readLine_19 rfl 0 rfl ?_
    have hz4 := (cr_e h).1
    have h := (cr_e h).2
    refine v_if_ne C (tgt := 30) hz4 h dX8_readLine_20 rfl (fun h => ?_) (fun h => ?_)
    · refine v_iload_n C hl dX8_readLine_30 rfl 0 rfl ?_
      refine v_iconst C dX8_readLine_31 ?_
      have hz5 := (cr_e h).1
      have h := (cr_e h).2
      refine v_icmp_ne C (tgt := 42) hz5 (by decide) h dX8_readLine_32 rfl (fun h => ?_) (fun h => ?_)
      · refine v_aload_n C hl dX8_readLine_42 rfl 1 rfl ?_
        obtain ⟨σ_6, hv6, h⟩ := bd_e h
        refine v_callVV C 0 (klM kdM_0) rfl (ckM1 kdM_0 _) rfl [] (mX8_readsOn C.2.2.2.2.1 hv6) cd_X8_readsOn ic_X8 im_X8_readsOn se_X8_readsOn ml_X8_109 yk_X8_readsOn ⟨rfl, rfl, by decide, by decide⟩ rfl hl.1 (rest := []) rfl (Nat.le_of_ble_eq_true rfl) dX8_readLine_43 ?_
        refine v_aload_n C hl dX8_readLine_46 rfl 1 rfl ?_
        refine v_bipush C dX8_readLine_47 rfl ?_
        obtain ⟨x_7, σ_7, hv7, h⟩ := bd2_e h
        refine v_callVI C 0 (klM kdM_0) rfl (ckM1 kdM_0 _) rfl [.int (i32 23)] (mX8_numberRead C.2.2.2.2.1 hv7) cd_X8_numberRead ic_X8 im_X8_numberRead se_X8_numberRead ml_X8_112 yk_X8_numberRead ⟨rfl, rfl, by decide, by decide⟩ rfl hl.1 (rest := []) rfl (Nat.le_of_ble_eq_true rfl) dX8_readLine_49 ?_
        refine v_istore_n C hl (fun x => [(2, .int (i32 x)), (1, .int (i32 v1_2)), (0, .ref (q 0))]) dX8_readLine_52 rfl (by decide) (fun _ => rfl) h (fun v2_8 ls hl h => ?_)
        refine v_aload_n C hl dX8_readLine_53 rfl 2 rfl ?_
        refine g_X8_0 C kdM_0 fl_X8_7 dX8_readLine_54 ?_
        refine v_sipush C dX8_readLine_57 rfl ?_
        refine v_iload_n C hl dX8_readLine_60 rfl 0 rfl ?_
        refine v_iadd C dX8_readLine_61 ?_
        refine v_iconst C dX8_readLine_62 ?_
        refine asM2 C kdM_1 h dX8_readLine_63 (fun σ_9 h => ?_)
        refine v_aload_n C hl dX8_readLine_64 rfl 2 rfl ?_
        refine v_iload_n C hl dX8_readLine_65 rfl 0 rfl ?_
        refine v_iconst C dX8_readLine_66 ?_
        refine v_iadd C dX8_readLine_67 ?_
        refine v_aload_n C hl dX8_readLine_68 rfl 2 rfl ?_
        refine g_X8_12 C kdM_0 fl_X8_128 dX8_readLine_69 ?_
        have hz10 := (cr_e h).1
        have h := (cr_e h).2
        have hz11 := (cr_e h).1
        have h := (cr_e h).2
        refine v_icmp_le C (tgt := 81) hz10 hz11 h dX8_readLine_72 rfl (fun h => ?_) (fun h => ?_)
        · refine v_aload_n C hl dX8_readLine_81 rfl 2 rfl ?_
          refine g_X8_12 C kdM_0 fl_X8_128 dX8_readLine_82 ?_
          exact wX8_readLine_85 C hr (lv_sub hl [2] rfl) h
        · refine v_iload_n C hl dX8_readLine_75 rfl 0 rfl ?_
          refine v_iconst C dX8_readLine_76 ?_
          refine v_iadd C dX8_readLine_77 ?_
          refine v_goto C (tgt := 85) dX8_readLine_78 rfl ?_
          exact wX8_readLine_85 C hr (lv_sub hl [2] rfl) h
      · refine v_aload_n C hl dX8_readLine_35 rfl 1 rfl ?_
        obtain ⟨σ_12, hv12, h⟩ := bd_e h
        refine v_callVV C 0 (klM kdM_0) rfl (ckM1 kdM_0 _) rfl [] (mX8_readRing C.2.2.2.2.1 hv12) cd_X8_readRing ic_X8 im_X8_readRing se_X8_readRing ml_X8_125 yk_X8_readRing ⟨rfl, rfl, by decide, by decide⟩ rfl hl.1 (rest := []) rfl (Nat.le_of_ble_eq_true rfl) dX8_readLine_36 ?_
        refine v_goto C (tgt := 88) dX8_readLine_39 rfl ?_
        exact wX8_readLine_88 C hr (lv_sub hl [1] rfl) h
    · refine v_aload_n C hl dX8_readLine_23 rfl 1 rfl ?_
      obtain ⟨σ_13, hv13, h⟩ := bd_e h
      refine v_callVV C 0 (klM kdM_0) rfl (ckM1 kdM_0 _) rfl [] (mX8_readPoint C.2.2.2.2.1 hv13) cd_X8_readPoint ic_X8 im_X8_readPoint se_X8_readPoint ml_X8_122 yk_X8_readPoint ⟨rfl, rfl, by decide, by decide⟩ rfl hl.1 (rest := []) rfl (Nat.le_of_ble_eq_true rfl) dX8_readLine_24 ?_
      refine v_goto C (tgt := 88) dX8_readLine_27 rfl ?_
      exact wX8_readLine_88 C hr (lv_sub hl [1] rfl) h
  · refine v_aload_n C hl dX8_readLine_11 rfl 1 rfl ?_
    refine v_iconst C dX8_readLine_12 ?_
    obtain ⟨σ_14, hv14, h⟩ := bd_e h
    refine v_callVV C 0 (klM kdM_0) rfl (ckM1 kdM_0 _) rfl [.int (i32 2)] (mX8_fails C.2.2.2.2.1 hv14) cd_X8_fails ic_X8 im_X8_fails se_X8_fails ml_X8_105 yk_X8_fails ⟨rfl, rfl, by decide, by decide⟩ rfl hl.1 (rest := []) rfl (Nat.le_of_ble_eq_true rfl) dX8_readLine_13 ?_
    refine v_goto C (tgt := 88) dX8_readLine_16 rfl ?_
    exact wX8_readLine_88 C hr (lv_sub hl [1] rfl) h
end
section
variable {l : Launch} {D : va_G} {ac : Nat → ClassId} {q : Nat → Nat} {p : Program} {e : Env} {s : State} {m : MethodId} {args : Array Value} {below : List Frame} {meth : Method} {c : Code} {ls : Array Slot}
theorem dX8_sharing_0 : decode cX8_sharing 0 = .ok (.iconst 0, 1) := by decide +kernel
theorem dX8_sharing_1 : decode cX8_sharing 1 = .ok (.istore_n 3, 1) := by decide +kernel
theorem dX8_sharing_2 : decode cX8_sharing 2 = .ok (.iconst 0, 1) := by decide +kernel
theorem dX8_sharing_3 : decode cX8_sharing 3 = .ok (.istore 4, 2) := by decide +kernel
theorem dX8_sharing_5 : decode cX8_sharing 5 = .ok (.iload 4, 2) := by decide +kernel
theorem dX8_sharing_7 : decode cX8_sharing 7 = .ok (.aload_n 0, 1) := by decide +kernel
theorem dX8_sharing_8 : decode cX8_sharing 8 = .ok (.invokevirtual 194, 3) := by decide +kernel
theorem dX8_sharing_11 : decode cX8_sharing 11 = .ok (.if_icmp .ge 34, 3) := by decide +kernel
theorem dX8_sharing_14 : decode cX8_sharing 14 = .ok (.iload_n 3, 1) := by decide +kernel
theorem dX8_sharing_15 : decode cX8_sharing 15 = .ok (.iload 4, 2) := by decide +kernel
theorem dX8_sharing_17 : decode cX8_sharing 17 = .ok (.iload_n 1, 1) := by decide +kernel
theorem dX8_sharing_18 : decode cX8_sharing 18 = .ok (.if_icmp .eq 18, 3) := by decide +kernel
theorem dX8_sharing_21 : decode cX8_sharing 21 = .ok (.aload_n 0, 1) := by decide +kernel
theorem dX8_sharing_22 : decode cX8_sharing 22 = .ok (.iload_n 1, 1) := by decide +kernel
theorem dX8_sharing_23 : decode cX8_sharing 23 = .ok (.iload 4, 2) := by decide +kernel
theorem dX8_sharing_25 : decode cX8_sharing 25 = .ok (.iload_n 2, 1) := by decide +kernel
theorem dX8_sharing_26 : decode cX8_sharing 26 = .ok (.invokevirtual 272, 3) := by decide +kernel
theorem dX8_sharing_29 : decode cX8_sharing 29 = .ok (.ifCond .eq 7, 3) := by decide +kernel
theorem dX8_sharing_32 : decode cX8_sharing 32 = .ok (.iconst 1, 1) := by decide +kernel
theorem dX8_sharing_33 : decode cX8_sharing 33 = .ok (.goto 4, 3) := by decide +kernel
theorem dX8_sharing_36 : decode cX8_sharing 36 = .ok (.iconst 0, 1) := by decide +kernel
theorem dX8_sharing_37 : decode cX8_sharing 37 = .ok (.iadd, 1) := by decide +kernel
theorem dX8_sharing_38 : decode cX8_sharing 38 = .ok (.istore_n 3, 1) := by decide +kernel
theorem dX8_sharing_39 : decode cX8_sharing 39 = .ok (.iinc 4 1, 3) := by decide +kernel
theorem dX8_sharing_42 : decode cX8_sharing 42 = .ok (.goto (-37), 3) := by decide +kernel
theorem dX8_sharing_45 : decode cX8_sharing 45 = .ok (.iload_n 3, 1) := by decide +kernel
theorem dX8_sharing_46 : decode cX8_sharing 46 = .ok (.ireturn, 1) := by decide +kernel
theorem wX8_sharing_45 (C : CxM p rmX8_sharing s m args meth c D ac q RX8 cX8_sharing 5) (hr : meth.sig.returnType = (some .int)) {v3 : Int} {σ : Mm} {r : Int × Mm} (hl : lv_has ls 5 [(0, .ref (q 0)), (3, .int (i32 v3))]) (h : fX8_sharing_45 v3 σ = some r) : VM p l e rmX8_sharing s m args below meth c D ac q (QIM D ac q below args s r) σ (F0 m 45 ls []) := by
  have h : some (v3, σ) = some r := h
  refine v_iload_n C hl dX8_sharing_45 rfl 1 rfl ?_
  exact v_iret C hr h dX8_sharing_46
theorem wX8_sharing_37 (C : CxM p rmX8_sharing s m args meth c D ac q RX8 cX8_sharing 5) (hr : meth.sig.returnType = (some .int)) {v1 : Int} {v2 : Int} {v4 : Int} {t0 : Int} {t1 : Int} {c5 : Int → Int → Mm → Option (Int × Mm)} {σ : Mm} {r : Int × Mm} (hc5 : ∀ (v3x : Int) (v4x : Int) (σ : Mm) (ls : Array Slot), lv_has ls 5 [(0, .ref (q 0)), (1, .int (i32 v1)), (2, .int (i32 v2)), (3, .int (i32 v3x)), (4, .int (i32 v4x))] → c5 v3x v4x σ = some r → VM p l e rmX8_sharing s m args below meth c D ac q (QIM D ac q below args s r) σ (F0 m 5 ls [])) (hl : lv_has ls 5 [(0, .ref (q 0)), (1, .int (i32 v1)), (2, .int (i32 v2)), (4, .int (i32 v4))]) (h : fX8_sharing_37 c5 v1 v2 v4 t0 t1 σ = some r) : VM p l e rmX8_sharing s m args below meth c D ac q (QIM D ac q below args s r) σ (F0 m 37 ls [.int (i32 t1), .int (i32 t0)]) := by
  have h : bindv (t0 + t1) (fun v3_1 => bindv (v4 + 1) (fun v4_2 => c5 v3_1 v4_2 σ)) = some r := h
  refine v_iadd C dX8_sharing_37 ?_
  refine v_istore_n C hl (fun x => [(3, .int (i32 x)), (0, .ref (q 0)), (1, .int (i32 v1)), (2, .int (i32 v2)), (4, .int (i32 v4))]) dX8_sharing_38 rfl (by decide) (fun _ => rfl) h (fun v3_1 ls hl h => ?_)
  refine v_iinc C hl (fun x => [(4, .int (i32 x)), (3, .int (i32 v3_1)), (0, .ref (q 0)), (1, .int (i32 v1)), (2, .int (i32 v2))]) dX8_sharing_39 4 rfl (by decide) (fun _ => rfl) h (fun v4_2 ls hl h => ?_)
  refine v_goto C (tgt := 5) dX8_sharing_42 rfl ?_
  exact hc5 _ _ _ _ (lv_sub hl [2, 3, 4, 1, 0] rfl) h
theorem wX8_sharing_36 (C : CxM p rmX8_sharing s m args meth c D ac q RX8 cX8_sharing 5) (hr : meth.sig.returnType = (some .int)) {v1 : Int} {v2 : Int} {v4 : Int} {t0 : Int} {c5 : Int → Int → Mm → Option (Int × Mm)} {σ : Mm} {r : Int × Mm} (hc5 : ∀ (v3x : Int) (v4x : Int) (σ : Mm) (ls : Array Slot), lv_has ls 5 [(0, .ref (q 0)), (1, .int (i32 v1)), (2, .int (i32 v2)), (3, .int (i32 v3x)), (4, .int (i32 v4x))] → c5 v3x v4x σ = some r → VM p l e rmX8_sharing s m args below meth c D ac q (QIM D ac q below args s r) σ (F0 m 5 ls [])) (hl : lv_has ls 5 [(0, .ref (q 0)), (1, .int (i32 v1)), (2, .int (i32 v2)), (4, .int (i32 v4))]) (h : fX8_sharing_36 c5 v1 v2 v4 t0 σ = some r) : VM p l e rmX8_sharing s m args below meth c D ac q (QIM D ac q below args s r) σ (F0 m 36 ls [.int (i32 t0)]) := by
  have h : fX8_sharing_37 c5 v1 v2 v4 t0 0 σ = some r := h
  refine v_iconst C dX8_sharing_36 ?_
  exact wX8_sharing_37 C hr hc5 (lv_sub hl [0, 1, 2, 3] rfl) h
theorem wX8_sharing_5 (C : CxM p rmX8_sharing s m args meth c D ac q RX8 cX8_sharing 5) (hr : meth.sig.returnType = (some .int)) {v1 : Int} {v2 : Int} {v3 : Int} {v4 : Int} {σ : Mm} {e5 : Int → Mm → Option (Int × Mm)} {c5 : Int → Int → Mm → Option (Int × Mm)} {r : Int × Mm} (he5 : ∀ (v3x : Int) (σ : Mm) (ls : Array Slot), lv_has ls 5 [(0, .ref (q 0)), (3, .int (i32 v3x))] → e5 v3x σ = some r → VM p l e rmX8_sharing s m args below meth c D ac q (QIM D ac q below args s r) σ (F0 m 45 ls [])) (hc5 : ∀ (v3x : Int) (v4x : Int) (σ : Mm) (ls : Array Slot), lv_has ls 5 [(0, .ref (q 0)), (1, .int (i32 v1)), (2, .int (i32 v2)), (3, .int (i32 v3x)), (4, .int (i32 v4x))] → c5 v3x v4x σ = some r → VM p l e rmX8_sharing s m args below meth c D ac q (QIM D ac q below args s r) σ (F0 m 5 ls [])) (hl : lv_has ls 5 [(0, .ref (q 0)), (1, .int (i32 v1)), (2, .int (i32 v2)), (3, .int (i32 v3)), (4, .int (i32 v4))]) (h : fX8_sharing_5 v1 v2 e5 c5 v3 v4 σ = some r) : VM p l e rmX8_sharing s m args below meth c D ac q (QIM D ac q below args s r) σ (F0 m 5 ls []) := by
  have h : bd (fX8_rings σ) (fun x_1 => cr v4 (cr x_1 ((if v4 < x_1 then cr v4 (cr v1 ((if v4 = v1 then fX8_sharing_36 c5 v1 v2 v4 v3 σ else bd2 (fX8_isSharing v1 v4 v2 σ) (fun x_6 σ_6 => cr x_6 ((if x_6 = 0 then fX8_sharing_36 c5 v1 v2 v4 v3 σ_6 else fX8_sharing_37 c5 v1 v2 v4 v3 1 σ_6)))))) else e5 v3 σ)))) = some r := h
  refine v_iload C hl dX8_sharing_5 4 rfl ?_
  refine v_aload_n C hl dX8_sharing_7 rfl 0 rfl ?_
  obtain ⟨x_1, hv1, h⟩ := bd_e h
  refine v_callVI C 0 (klM kdM_0) rfl (ckM1 kdM_0 _) rfl [] (mX8_rings C.2.2.2.2.1 hv1) cd_X8_rings ic_X8 im_X8_rings se_X8_rings ml_X8_194 yk_X8_rings ⟨rfl, rfl, by decide, by decide⟩ rfl hl.1 (rest := [.int (i32 v4)]) rfl (Nat.le_of_ble_eq_true rfl) dX8_sharing_8 ?_
  have hz2 := (cr_e h).1
  have h := (cr_e h).2
  have hz3 := (cr_e h).1
  have h := (cr_e h).2
  refine v_icmp_ge C (tgt := 45) hz2 hz3 h dX8_sharing_11 rfl (fun h => ?_) (fun h => ?_)
  · exact he5 _ _ _ (lv_sub hl [0, 3] rfl) h
  · refine v_iload_n C hl dX8_sharing_14 rfl 3 rfl ?_
    refine v_iload C hl dX8_sharing_15 4 rfl ?_
    refine v_iload_n C hl dX8_sharing_17 rfl 1 rfl ?_
    have hz4 := (cr_e h).1
    have h := (cr_e h).2
    have hz5 := (cr_e h).1
    have h := (cr_e h).2
    refine v_icmp_eq C (tgt := 36) hz4 hz5 h dX8_sharing_18 rfl (fun h => ?_) (fun h => ?_)
    · exact wX8_sharing_36 C hr hc5 (lv_sub hl [0, 1, 2, 4] rfl) h
    · refine v_aload_n C hl dX8_sharing_21 rfl 0 rfl ?_
      refine v_iload_n C hl dX8_sharing_22 rfl 1 rfl ?_
      refine v_iload C hl dX8_sharing_23 4 rfl ?_
      refine v_iload_n C hl dX8_sharing_25 rfl 2 rfl ?_
      obtain ⟨x_6, σ_6, hv6, h⟩ := bd2_e h
      refine v_callVI C 0 (klM kdM_0) rfl (ckM1 kdM_0 _) rfl [.int (i32 v1), .int (i32 v4), .int (i32 v2)] (mX8_isSharing C.2.2.2.2.1 hv6) cd_X8_isSharing ic_X8 im_X8_isSharing se_X8_isSharing ml_X8_272 yk_X8_isSharing ⟨rfl, rfl, by decide, by decide⟩ rfl hl.1 (rest := [.int (i32 v3)]) rfl (Nat.le_of_ble_eq_true rfl) dX8_sharing_26 ?_
      have hz7 := (cr_e h).1
      have h := (cr_e h).2
      refine v_if_eq C (tgt := 36) hz7 h dX8_sharing_29 rfl (fun h => ?_) (fun h => ?_)
      · exact wX8_sharing_36 C hr hc5 (lv_sub hl [0, 1, 2, 4] rfl) h
      · refine v_iconst C dX8_sharing_32 ?_
        refine v_goto C (tgt := 37) dX8_sharing_33 rfl ?_
        exact wX8_sharing_37 C hr hc5 (lv_sub hl [0, 1, 2, 4] rfl) h
theorem wlX8_sharing_5 (C : CxM p rmX8_sharing s m args meth c D ac q RX8 cX8_sharing 5) (hr : meth.sig.returnType = (some .int)) {v1 : Int} {v2 : Int} {e5 : Int → Mm → Option (Int × Mm)} {r : Int × Mm} (he5 : ∀ (v3x : Int) (σ : Mm) (ls : Array Slot), lv_has ls 5 [(0, .ref (q 0)), (3, .int (i32 v3x))] → e5 v3x σ = some r → VM p l e rmX8_sharing s m args below meth c D ac q (QIM D ac q below args s r) σ (F0 m 45 ls [])) : ∀ (fu : Nat) (v3 : Int) (v4 : Int) (σ : Mm) (ls : Array Slot) (hl : lv_has ls 5 [(0, .ref (q 0)), (1, .int (i32 v1)), (2, .int (i32 v2)), (3, .int (i32 v3)), (4, .int (i32 v4))]) (h : lX8_sharing_5 v1 v2 e5 fu v3 v4 σ = some r), VM p l e rmX8_sharing s m args below meth c D ac q (QIM D ac q below args s r) σ (F0 m 5 ls []) := by
  intro fu
  induction fu with
  | zero =>
    intro v3 v4 σ ls hl h
    have h : none = some r := h
    cases h
  | succ fu ih =>
    intro v3 v4 σ ls hl h
    exact wX8_sharing_5 C hr he5 (fun v3 v4 σ ls hl h => ih v3 v4 σ ls hl h) hl h
theorem mX8_sharing (hq : QI 19 q) {v1 : Int} {v2 : Int} {σ : Mm} {r : Int × Mm} (h : fX8_sharing v1 v2 σ = some r) : MIM l D ac q yX8_sharing cX8_sharing 5 (some .int) rmX8_sharing [.ref (q 0), .int (i32 v1), .int (i32 v2)] σ r := by
  refine MI.of hq XT_M (by decide) (Nat.le_of_ble_eq_true rfl) (fun p e s m below meth c ls C hr hl => ?_)
  have hl : lv_has ls 5 [(0, .ref (q 0)), (1, .int (i32 v1)), (2, .int (i32 v2))] := hl
  have h : bindv 0 (fun v3_1 => bindv 0 (fun v4_2 => lX8_sharing_5 v1 v2 (fun v3_3 σ_4 => fX8_sharing_45 v3_3 σ_4) 400 v3_1 v4_2 σ)) = some r := h
  refine v_iconst C dX8_sharing_0 ?_
  refine v_istore_n C hl (fun x => [(3, .int (i32 x)), (0, .ref (q 0)), (1, .int (i32 v1)), (2, .int (i32 v2))]) dX8_sharing_1 rfl (by decide) (fun _ => rfl) h (fun v3_1 ls hl h => ?_)
  refine v_iconst C dX8_sharing_2 ?_
  refine v_istore C hl (fun x => [(4, .int (i32 x)), (3, .int (i32 v3_1)), (0, .ref (q 0)), (1, .int (i32 v1)), (2, .int (i32 v2))]) dX8_sharing_3 (by decide) (fun _ => rfl) h (fun v4_2 ls hl h => ?_)
  exact wlX8_sharing_5 C hr (fun v3_3 σ_4 ls hl h => wX8_sharing_45 C hr (lv_sub hl [0, 1] rfl) h) _ _ _ _ _ (lv_sub hl [2, 3, 4, 1, 0] rfl) h
end
section
variable {l : Launch} {D : va_G} {ac : Nat → ClassId} {q : Nat → Nat} {p : Program} {e : Env} {s : State} {m : MethodId} {args : Array Value} {below : List Frame} {meth : Method} {c : Code} {ls : Array Slot}
theorem dX8_ring_0 : decode cX8_ring 0 = .ok (.aload_n 0, 1) := by decide +kernel
theorem dX8_ring_1 : decode cX8_ring 1 = .ok (.iload_n 1, 1) := by decide +kernel
theorem dX8_ring_2 : decode cX8_ring 2 = .ok (.invokevirtual 275, 3) := by decide +kernel
theorem dX8_ring_5 : decode cX8_ring 5 = .ok (.ifCond .eq 23, 3) := by decide +kernel
theorem dX8_ring_8 : decode cX8_ring 8 = .ok (.aload_n 0, 1) := by decide +kernel
theorem dX8_ring_9 : decode cX8_ring 9 = .ok (.iload_n 2, 1) := by decide +kernel
theorem dX8_ring_10 : decode cX8_ring 10 = .ok (.invokevirtual 278, 3) := by decide +kernel
theorem dX8_ring_13 : decode cX8_ring 13 = .ok (.ifCond .eq 15, 3) := by decide +kernel
theorem dX8_ring_16 : decode cX8_ring 16 = .ok (.iload_n 3, 1) := by decide +kernel
theorem dX8_ring_17 : decode cX8_ring 17 = .ok (.i2l, 1) := by decide +kernel
theorem dX8_ring_18 : decode cX8_ring 18 = .ok (.lconst 0, 1) := by decide +kernel
theorem dX8_ring_19 : decode cX8_ring 19 = .ok (.ldc2_w 281, 3) := by decide +kernel
theorem dX8_ring_22 : decode cX8_ring 22 = .ok (.invokestatic 67, 3) := by decide +kernel
theorem dX8_ring_25 : decode cX8_ring 25 = .ok (.ifCond .ne 5, 3) := by decide +kernel
theorem dX8_ring_28 : decode cX8_ring 28 = .ok (.iconst (-1), 1) := by decide +kernel
theorem dX8_ring_29 : decode cX8_ring 29 = .ok (.ireturn, 1) := by decide +kernel
theorem dX8_ring_30 : decode cX8_ring 30 = .ok (.aload_n 0, 1) := by decide +kernel
theorem dX8_ring_31 : decode cX8_ring 31 = .ok (.iload_n 1, 1) := by decide +kernel
theorem dX8_ring_32 : decode cX8_ring 32 = .ok (.iload_n 2, 1) := by decide +kernel
theorem dX8_ring_33 : decode cX8_ring 33 = .ok (.invokevirtual 197, 3) := by decide +kernel
theorem dX8_ring_36 : decode cX8_ring 36 = .ok (.istore 4, 2) := by decide +kernel
theorem dX8_ring_38 : decode cX8_ring 38 = .ok (.iload_n 3, 1) := by decide +kernel
theorem dX8_ring_39 : decode cX8_ring 39 = .ok (.ifCond .ne 8, 3) := by decide +kernel
theorem dX8_ring_42 : decode cX8_ring 42 = .ok (.iload 4, 2) := by decide +kernel
theorem dX8_ring_44 : decode cX8_ring 44 = .ok (.goto 23, 3) := by decide +kernel
theorem dX8_ring_47 : decode cX8_ring 47 = .ok (.iload_n 3, 1) := by decide +kernel
theorem dX8_ring_48 : decode cX8_ring 48 = .ok (.iconst 1, 1) := by decide +kernel
theorem dX8_ring_49 : decode cX8_ring 49 = .ok (.if_icmp .ne 12, 3) := by decide +kernel
theorem dX8_ring_52 : decode cX8_ring 52 = .ok (.aload_n 0, 1) := by decide +kernel
theorem dX8_ring_53 : decode cX8_ring 53 = .ok (.iload 4, 2) := by decide +kernel
theorem dX8_ring_55 : decode cX8_ring 55 = .ok (.invokevirtual 212, 3) := by decide +kernel
theorem dX8_ring_58 : decode cX8_ring 58 = .ok (.goto 9, 3) := by decide +kernel
theorem dX8_ring_61 : decode cX8_ring 61 = .ok (.aload_n 0, 1) := by decide +kernel
theorem dX8_ring_62 : decode cX8_ring 62 = .ok (.iload_n 1, 1) := by decide +kernel
theorem dX8_ring_63 : decode cX8_ring 63 = .ok (.iload_n 2, 1) := by decide +kernel
theorem dX8_ring_64 : decode cX8_ring 64 = .ok (.invokevirtual 283, 3) := by decide +kernel
theorem dX8_ring_67 : decode cX8_ring 67 = .ok (.ireturn, 1) := by decide +kernel
theorem wX8_ring_67 (C : CxM p rmX8_ring s m args meth c D ac q RX8 cX8_ring 5) (hr : meth.sig.returnType = (some .int)) {t0 : Int} {σ : Mm} {r : Int × Mm} (hl : lv_has ls 5 [(0, .ref (q 0))]) (h : fX8_ring_67 t0 σ = some r) : VM p l e rmX8_ring s m args below meth c D ac q (QIM D ac q below args s r) σ (F0 m 67 ls [.int (i32 t0)]) := by
  have h : some (t0, σ) = some r := h
  exact v_iret C hr h dX8_ring_67
theorem wX8_ring_28 (C : CxM p rmX8_ring s m args meth c D ac q RX8 cX8_ring 5) (hr : meth.sig.returnType = (some .int)) {σ : Mm} {r : Int × Mm} (hl : lv_has ls 5 [(0, .ref (q 0))]) (h : fX8_ring_28 σ = some r) : VM p l e rmX8_ring s m args below meth c D ac q (QIM D ac q below args s r) σ (F0 m 28 ls []) := by
  have h : some ((-1), σ) = some r := h
  refine v_iconst C dX8_ring_28 ?_
  exact v_iret C hr h dX8_ring_29
theorem mX8_ring (hq : QI 19 q) {v1 : Int} {v2 : Int} {v3 : Int} {σ : Mm} {r : Int × Mm} (h : fX8_ring v1 v2 v3 σ = some r) : MIM l D ac q yX8_ring cX8_ring 5 (some .int) rmX8_ring [.ref (q 0), .int (i32 v1), .int (i32 v2), .int (i32 v3)] σ r := by
  refine MI.of hq XT_M (by decide) (Nat.le_of_ble_eq_true rfl) (fun p e s m below meth c ls C hr hl => ?_)
  have hl : lv_has ls 5 [(0, .ref (q 0)), (1, .int (i32 v1)), (2, .int (i32 v2)), (3, .int (i32 v3))] := hl
  have h : bd (fX8_isRing v1 σ) (fun x_1 => cr x_1 ((if x_1 = 0 then fX8_ring_28 σ else bd2 (fX8_isStage v2 σ) (fun x_3 σ_3 => cr x_3 ((if x_3 = 0 then fX8_ring_28 σ_3 else cr v3 (bd (fX8_in v3 0 2 σ_3) (fun x_5 => cr x_5 ((if x_5 = 0 then fX8_ring_28 σ_3 else bd2 (fX8_ringAt v1 v2 σ_3) (fun x_7 σ_7 => bindv x_7 (fun v4_8 => cr v3 ((if v3 = 0 then fX8_ring_67 v4_8 σ_7 else cr v3 ((if v3 = 1 then bd (fX8_ringArea v4_8 σ_7) (fun x_12 => fX8_ring_67 x_12 σ_7) else bd2 (fX8_sharing v1 v2 σ_7) (fun x_11 σ_11 => fX8_ring_67 x_11 σ_11))))))))))))))))) = some r := h
  refine v_aload_n C hl dX8_ring_0 rfl 0 rfl ?_
  refine v_iload_n C hl dX8_ring_1 rfl 1 rfl ?_
  obtain ⟨x_1, hv1, h⟩ := bd_e h
  refine v_callVI C 0 (klM kdM_0) rfl (ckM1 kdM_0 _) rfl [.int (i32 v1)] (mX8_isRing C.2.2.2.2.1 hv1) cd_X8_isRing ic_X8 im_X8_isRing se_X8_isRing ml_X8_275 yk_X8_isRing ⟨rfl, rfl, by decide, by decide⟩ rfl hl.1 (rest := []) rfl (Nat.le_of_ble_eq_true rfl) dX8_ring_2 ?_
  have hz2 := (cr_e h).1
  have h := (cr_e h).2
  refine v_if_eq C (tgt := 28) hz2 h dX8_ring_5 rfl (fun h => ?_) (fun h => ?_)
  · exact wX8_ring_28 C hr (lv_sub hl [0] rfl) h
  · refine v_aload_n C hl dX8_ring_8 rfl 0 rfl ?_
    refine v_iload_n C hl dX8_ring_9 rfl 2 rfl ?_
    obtain ⟨x_3, σ_3, hv3, h⟩ := bd2_e h
    refine v_callVI C 0 (klM kdM_0) rfl (ckM1 kdM_0 _) rfl [.int (i32 v2)] (mX8_isStage C.2.2.2.2.1 hv3) cd_X8_isStage ic_X8 im_X8_isStage se_X8_isStage ml_X8_278 yk_X8_isStage ⟨rfl, rfl, by decide, by decide⟩ rfl hl.1 (rest := []) rfl (Nat.le_of_ble_eq_true rfl) dX8_ring_10 ?_
    have hz4 := (cr_e h).1
    have h := (cr_e h).2
    refine v_if_eq C (tgt := 28) hz4 h dX8_ring_13 rfl (fun h => ?_) (fun h => ?_)
    · exact wX8_ring_28 C hr (lv_sub hl [0] rfl) h
    · refine v_iload_n C hl dX8_ring_16 rfl 3 rfl ?_
      refine v_i2l C h dX8_ring_17 (fun h => ?_)
      refine v_lconst C (v := 0) dX8_ring_18 rfl ?_
      refine v_ldc2 C (v := 2) kc_X8_281 rfl dX8_ring_19 ?_
      obtain ⟨x_5, hv5, h⟩ := bd_e h
      refine v_callSI C [.long (i64 v3), .long (i64 0), .long (i64 2)] (mX8_in C.2.2.2.2.1 hv5) cd_X8_in ic_X8 sm_X8_in ml_X8_67 yk_X8_in ⟨rfl, rfl, by decide, by decide⟩ rfl hl.1 (rest := []) rfl (Nat.le_of_ble_eq_true rfl) dX8_ring_22 ?_
      have hz6 := (cr_e h).1
      have h := (cr_e h).2
      refine v_if_ne C (tgt := 30) hz6 h dX8_ring_25 rfl (fun h => ?_) (fun h => ?_)
      · refine v_aload_n C hl dX8_ring_30 rfl 0 rfl ?_
        refine v_iload_n C hl dX8_ring_31 rfl 1 rfl ?_
        refine v_iload_n C hl dX8_ring_32 rfl 2 rfl ?_
        obtain ⟨x_7, σ_7, hv7, h⟩ := bd2_e h
        refine v_callVI C 0 (klM kdM_0) rfl (ckM1 kdM_0 _) rfl [.int (i32 v1), .int (i32 v2)] (mX8_ringAt C.2.2.2.2.1 hv7) cd_X8_ringAt ic_X8 im_X8_ringAt se_X8_ringAt ml_X8_197 yk_X8_ringAt ⟨rfl, rfl, by decide, by decide⟩ rfl hl.1 (rest := []) rfl (Nat.le_of_ble_eq_true rfl) dX8_ring_33 ?_
        refine v_istore C hl (fun x => [(4, .int (i32 x)), (0, .ref (q 0)), (1, .int (i32 v1)), (2, .int (i32 v2)), (3, .int (i32 v3))]) dX8_ring_36 (by decide) (fun _ => rfl) h (fun v4_8 ls hl h => ?_)
        refine v_iload_n C hl dX8_ring_38 rfl 4 rfl ?_
        have hz9 := (cr_e h).1
        have h := (cr_e h).2
        refine v_if_ne C (tgt := 47) hz9 h dX8_ring_39 rfl (fun h => ?_) (fun h => ?_)
        · refine v_iload_n C hl dX8_ring_47 rfl 4 rfl ?_
          refine v_iconst C dX8_ring_48 ?_
          have hz10 := (cr_e h).1
          have h := (cr_e h).2
          refine v_icmp_ne C (tgt := 61) hz10 (by decide) h dX8_ring_49 rfl (fun h => ?_) (fun h => ?_)
          · refine v_aload_n C hl dX8_ring_61 rfl 1 rfl ?_
            refine v_iload_n C hl dX8_ring_62 rfl 2 rfl ?_
            refine v_iload_n C hl dX8_ring_63 rfl 3 rfl ?_
            obtain ⟨x_11, σ_11, hv11, h⟩ := bd2_e h
            refine v_callVI C 0 (klM kdM_0) rfl (ckM1 kdM_0 _) rfl [.int (i32 v1), .int (i32 v2)] (mX8_sharing C.2.2.2.2.1 hv11) cd_X8_sharing ic_X8 im_X8_sharing se_X8_sharing ml_X8_283 yk_X8_sharing ⟨rfl, rfl, by decide, by decide⟩ rfl hl.1 (rest := []) rfl (Nat.le_of_ble_eq_true rfl) dX8_ring_64 ?_
            exact wX8_ring_67 C hr (lv_sub hl [1] rfl) h
          · refine v_aload_n C hl dX8_ring_52 rfl 1 rfl ?_
            refine v_iload C hl dX8_ring_53 0 rfl ?_
            obtain ⟨x_12, hv12, h⟩ := bd_e h
            refine v_callVI C 0 (klM kdM_0) rfl (ckM1 kdM_0 _) rfl [.int (i32 v4_8)] (mX8_ringArea C.2.2.2.2.1 hv12) cd_X8_ringArea ic_X8 im_X8_ringArea se_X8_ringArea ml_X8_212 yk_X8_ringArea ⟨rfl, rfl, by decide, by decide⟩ rfl hl.1 (rest := []) rfl (Nat.le_of_ble_eq_true rfl) dX8_ring_55 ?_
            refine v_goto C (tgt := 67) dX8_ring_58 rfl ?_
            exact wX8_ring_67 C hr (lv_sub hl [1] rfl) h
        · refine v_iload C hl dX8_ring_42 0 rfl ?_
          refine v_goto C (tgt := 67) dX8_ring_44 rfl ?_
          exact wX8_ring_67 C hr (lv_sub hl [1] rfl) h
      · exact wX8_ring_28 C hr (lv_sub hl [0] rfl) h
end
section
variable {l : Launch} {D : va_G} {ac : Nat → ClassId} {q : Nat → Nat} {p : Program} {e : Env} {s : State} {m : MethodId} {args : Array Value} {below : List Frame} {meth : Method} {c : Code} {ls : Array Slot}
theorem dX8_rule_0 : decode cX8_rule 0 = .ok (.aload_n 0, 1) := by decide +kernel
theorem dX8_rule_1 : decode cX8_rule 1 = .ok (.invokevirtual 257, 3) := by decide +kernel
theorem dX8_rule_4 : decode cX8_rule 4 = .ok (.iload_n 1, 1) := by decide +kernel
theorem dX8_rule_5 : decode cX8_rule 5 = .ok (.tableswitch 78 0 7 #[47, 52, 57, 62, 68, 73, 62, 62], 47) := by decide +kernel
theorem dX8_rule_52 : decode cX8_rule 52 = .ok (.aload_n 0, 1) := by decide +kernel
theorem dX8_rule_53 : decode cX8_rule 53 = .ok (.invokevirtual 206, 3) := by decide +kernel
theorem dX8_rule_56 : decode cX8_rule 56 = .ok (.ireturn, 1) := by decide +kernel
theorem dX8_rule_57 : decode cX8_rule 57 = .ok (.aload_n 0, 1) := by decide +kernel
theorem dX8_rule_58 : decode cX8_rule 58 = .ok (.invokevirtual 194, 3) := by decide +kernel
theorem dX8_rule_61 : decode cX8_rule 61 = .ok (.ireturn, 1) := by decide +kernel
theorem dX8_rule_62 : decode cX8_rule 62 = .ok (.aload_n 0, 1) := by decide +kernel
theorem dX8_rule_63 : decode cX8_rule 63 = .ok (.invokevirtual 260, 3) := by decide +kernel
theorem dX8_rule_66 : decode cX8_rule 66 = .ok (.ireturn, 1) := by decide +kernel
theorem dX8_rule_67 : decode cX8_rule 67 = .ok (.aload_n 0, 1) := by decide +kernel
theorem dX8_rule_68 : decode cX8_rule 68 = .ok (.iload_n 1, 1) := by decide +kernel
theorem dX8_rule_69 : decode cX8_rule 69 = .ok (.invokevirtual 263, 3) := by decide +kernel
theorem dX8_rule_72 : decode cX8_rule 72 = .ok (.ireturn, 1) := by decide +kernel
theorem dX8_rule_73 : decode cX8_rule 73 = .ok (.aload_n 0, 1) := by decide +kernel
theorem dX8_rule_74 : decode cX8_rule 74 = .ok (.getfield 245, 3) := by decide +kernel
theorem dX8_rule_77 : decode cX8_rule 77 = .ok (.ireturn, 1) := by decide +kernel
theorem dX8_rule_78 : decode cX8_rule 78 = .ok (.aload_n 0, 1) := by decide +kernel
theorem dX8_rule_79 : decode cX8_rule 79 = .ok (.getfield 227, 3) := by decide +kernel
theorem dX8_rule_82 : decode cX8_rule 82 = .ok (.ireturn, 1) := by decide +kernel
theorem dX8_rule_83 : decode cX8_rule 83 = .ok (.iconst (-1), 1) := by decide +kernel
theorem dX8_rule_84 : decode cX8_rule 84 = .ok (.ireturn, 1) := by decide +kernel
theorem wX8_rule_67 (C : CxM p rmX8_rule s m args meth c D ac q RX8 cX8_rule 2) (hr : meth.sig.returnType = (some .int)) {v1 : Int} {σ : Mm} {r : Int × Mm} (hl : lv_has ls 2 [(0, .ref (q 0)), (1, .int (i32 v1))]) (h : fX8_rule_67 v1 σ = some r) : VM p l e rmX8_rule s m args below meth c D ac q (QIM D ac q below args s r) σ (F0 m 67 ls []) := by
  have h : bd (fX8_ofPoints v1 σ) (fun x_1 => some (x_1, σ)) = some r := h
  refine v_aload_n C hl dX8_rule_67 rfl 0 rfl ?_
  refine v_iload_n C hl dX8_rule_68 rfl 1 rfl ?_
  obtain ⟨x_1, hv1, h⟩ := bd_e h
  refine v_callVI C 0 (klM kdM_0) rfl (ckM1 kdM_0 _) rfl [.int (i32 v1)] (mX8_ofPoints C.2.2.2.2.1 hv1) cd_X8_ofPoints ic_X8 im_X8_ofPoints se_X8_ofPoints ml_X8_263 yk_X8_ofPoints ⟨rfl, rfl, by decide, by decide⟩ rfl hl.1 (rest := []) rfl (Nat.le_of_ble_eq_true rfl) dX8_rule_69 ?_
  exact v_iret C hr h dX8_rule_72
theorem mX8_rule (hq : QI 19 q) {v1 : Int} {σ : Mm} {r : Int × Mm} (h : fX8_rule v1 σ = some r) : MIM l D ac q yX8_rule cX8_rule 2 (some .int) rmX8_rule [.ref (q 0), .int (i32 v1)] σ r := by
  refine MI.of hq XT_M (by decide) (Nat.le_of_ble_eq_true rfl) (fun p e s m below meth c ls C hr hl => ?_)
  have hl : lv_has ls 2 [(0, .ref (q 0)), (1, .int (i32 v1))] := hl
  have h : bd (fX8_makes σ) (fun σ_1 => cr v1 ((if v1 = 0 then bd (fX8_points σ_1) (fun x_4 => some (x_4, σ_1)) else (if v1 = 1 then bd (fX8_rings σ_1) (fun x_6 => some (x_6, σ_1)) else (if v1 = 2 then bd (fX8_edges σ_1) (fun x_8 => some (x_8, σ_1)) else (if v1 = 3 then fX8_rule_67 v1 σ_1 else (if v1 = 4 then some (σ_1 0 24, σ_1) else (if v1 = 5 then some (σ_1 0 16, σ_1) else (if v1 = 6 then fX8_rule_67 v1 σ_1 else (if v1 = 7 then fX8_rule_67 v1 σ_1 else some ((-1), σ_1))))))))))) = some r := h
  refine v_aload_n C hl dX8_rule_0 rfl 0 rfl ?_
  obtain ⟨σ_1, hv1, h⟩ := bd_e h
  refine v_callVV C 0 (klM kdM_0) rfl (ckM1 kdM_0 _) rfl [] (mX8_makes C.2.2.2.2.1 hv1) cd_X8_makes ic_X8 im_X8_makes se_X8_makes ml_X8_257 yk_X8_makes ⟨rfl, rfl, by decide, by decide⟩ rfl hl.1 (rest := []) rfl (Nat.le_of_ble_eq_true rfl) dX8_rule_1 ?_
  refine v_iload_n C hl dX8_rule_4 rfl 1 rfl ?_
  have hz2 := (cr_e h).1
  have h := (cr_e h).2
  rcases sw_e h with ⟨hc3, h⟩ | ⟨hc3, h⟩
  · refine v_tabIn C (tgt := 52) hz2 hc3 dX8_rule_5 (by decide) (by decide) rfl rfl ?_
    refine v_aload_n C hl dX8_rule_52 rfl 0 rfl ?_
    obtain ⟨x_4, hv4, h⟩ := bd_e h
    refine v_callVI C 0 (klM kdM_0) rfl (ckM1 kdM_0 _) rfl [] (mX8_points C.2.2.2.2.1 hv4) cd_X8_points ic_X8 im_X8_points se_X8_points ml_X8_206 yk_X8_points ⟨rfl, rfl, by decide, by decide⟩ rfl hl.1 (rest := []) rfl (Nat.le_of_ble_eq_true rfl) dX8_rule_53 ?_
    exact v_iret C hr h dX8_rule_56
  · skip
    rcases sw_e h with ⟨hc5, h⟩ | ⟨hc5, h⟩
    · refine v_tabIn C (tgt := 57) hz2 hc5 dX8_rule_5 (by decide) (by decide) rfl rfl ?_
      refine v_aload_n C hl dX8_rule_57 rfl 0 rfl ?_
      obtain ⟨x_6, hv6, h⟩ := bd_e h
      refine v_callVI C 0 (klM kdM_0) rfl (ckM1 kdM_0 _) rfl [] (mX8_rings C.2.2.2.2.1 hv6) cd_X8_rings ic_X8 im_X8_rings se_X8_rings ml_X8_194 yk_X8_rings ⟨rfl, rfl, by decide, by decide⟩ rfl hl.1 (rest := []) rfl (Nat.le_of_ble_eq_true rfl) dX8_rule_58 ?_
      exact v_iret C hr h dX8_rule_61
    · skip
      rcases sw_e h with ⟨hc7, h⟩ | ⟨hc7, h⟩
      · refine v_tabIn C (tgt := 62) hz2 hc7 dX8_rule_5 (by decide) (by decide) rfl rfl ?_
        refine v_aload_n C hl dX8_rule_62 rfl 0 rfl ?_
        obtain ⟨x_8, hv8, h⟩ := bd_e h
        refine v_callVI C 0 (klM kdM_0) rfl (ckM1 kdM_0 _) rfl [] (mX8_edges C.2.2.2.2.1 hv8) cd_X8_edges ic_X8 im_X8_edges se_X8_edges ml_X8_260 yk_X8_edges ⟨rfl, rfl, by decide, by decide⟩ rfl hl.1 (rest := []) rfl (Nat.le_of_ble_eq_true rfl) dX8_rule_63 ?_
        exact v_iret C hr h dX8_rule_66
      · skip
        rcases sw_e h with ⟨hc9, h⟩ | ⟨hc9, h⟩
        · refine v_tabIn C (tgt := 67) hz2 hc9 dX8_rule_5 (by decide) (by decide) rfl rfl ?_
          exact wX8_rule_67 C hr (lv_sub hl [0, 1] rfl) h
        · skip
          rcases sw_e h with ⟨hc10, h⟩ | ⟨hc10, h⟩
          · refine v_tabIn C (tgt := 73) hz2 hc10 dX8_rule_5 (by decide) (by decide) rfl rfl ?_
            refine v_aload_n C hl dX8_rule_73 rfl 0 rfl ?_
            refine g_X8_24 C kdM_0 fl_X8_245 dX8_rule_74 ?_
            exact v_iret C hr h dX8_rule_77
          · skip
            rcases sw_e h with ⟨hc11, h⟩ | ⟨hc11, h⟩
            · refine v_tabIn C (tgt := 78) hz2 hc11 dX8_rule_5 (by decide) (by decide) rfl rfl ?_
              refine v_aload_n C hl dX8_rule_78 rfl 0 rfl ?_
              refine g_X8_16 C kdM_0 fl_X8_227 dX8_rule_79 ?_
              exact v_iret C hr h dX8_rule_82
            · skip
              rcases sw_e h with ⟨hc12, h⟩ | ⟨hc12, h⟩
              · refine v_tabIn C (tgt := 67) hz2 hc12 dX8_rule_5 (by decide) (by decide) rfl rfl ?_
                exact wX8_rule_67 C hr (lv_sub hl [0, 1] rfl) h
              · skip
                rcases sw_e h with ⟨hc13, h⟩ | ⟨hc13, h⟩
                · refine v_tabIn C (tgt := 67) hz2 hc13 dX8_rule_5 (by decide) (by decide) rfl rfl ?_
                  exact wX8_rule_67 C hr (lv_sub hl [0, 1] rfl) h
                · skip
                  refine v_tabOut C (tgt := 83) hz2 dX8_rule_5 (by omega) rfl ?_
                  refine v_iconst C dX8_rule_83 ?_
                  exact v_iret C hr h dX8_rule_84
end
section
variable {l : Launch} {D : va_G} {ac : Nat → ClassId} {q : Nat → Nat} {p : Program} {e : Env} {s : State} {m : MethodId} {args : Array Value} {below : List Frame} {meth : Method} {c : Code} {ls : Array Slot}
theorem dX8_shake_0 : decode cX8_shake 0 = .ok (.iload_n 2, 1) := by decide +kernel
theorem dX8_shake_1 : decode cX8_shake 1 = .ok (.i2l, 1) := by decide +kernel
theorem dX8_shake_2 : decode cX8_shake 2 = .ok (.lconst 1, 1) := by decide +kernel
theorem dX8_shake_3 : decode cX8_shake 3 = .ok (.ldc2_w 306, 3) := by decide +kernel
theorem dX8_shake_6 : decode cX8_shake 6 = .ok (.invokestatic 67, 3) := by decide +kernel
theorem dX8_shake_9 : decode cX8_shake 9 = .ok (.ifCond .ne 5, 3) := by decide +kernel
theorem dX8_shake_12 : decode cX8_shake 12 = .ok (.iconst (-1), 1) := by decide +kernel
theorem dX8_shake_13 : decode cX8_shake 13 = .ok (.ireturn, 1) := by decide +kernel
theorem dX8_shake_14 : decode cX8_shake 14 = .ok (.aload_n 0, 1) := by decide +kernel
theorem dX8_shake_15 : decode cX8_shake 15 = .ok (.invokevirtual 206, 3) := by decide +kernel
theorem dX8_shake_18 : decode cX8_shake 18 = .ok (.ifCond .ne 6, 3) := by decide +kernel
theorem dX8_shake_21 : decode cX8_shake 21 = .ok (.bipush (-2), 2) := by decide +kernel
theorem dX8_shake_23 : decode cX8_shake 23 = .ok (.ireturn, 1) := by decide +kernel
theorem dX8_shake_24 : decode cX8_shake 24 = .ok (.iload_n 1, 1) := by decide +kernel
theorem dX8_shake_25 : decode cX8_shake 25 = .ok (.istore_n 3, 1) := by decide +kernel
theorem dX8_shake_26 : decode cX8_shake 26 = .ok (.iconst 0, 1) := by decide +kernel
theorem dX8_shake_27 : decode cX8_shake 27 = .ok (.istore 4, 2) := by decide +kernel
theorem dX8_shake_29 : decode cX8_shake 29 = .ok (.iconst 0, 1) := by decide +kernel
theorem dX8_shake_30 : decode cX8_shake 30 = .ok (.istore 5, 2) := by decide +kernel
theorem dX8_shake_32 : decode cX8_shake 32 = .ok (.iload 5, 2) := by decide +kernel
theorem dX8_shake_34 : decode cX8_shake 34 = .ok (.iload_n 2, 1) := by decide +kernel
theorem dX8_shake_35 : decode cX8_shake 35 = .ok (.if_icmp .ge 96, 3) := by decide +kernel
theorem dX8_shake_38 : decode cX8_shake 38 = .ok (.iload_n 3, 1) := by decide +kernel
theorem dX8_shake_39 : decode cX8_shake 39 = .ok (.ldc_w 308, 3) := by decide +kernel
theorem dX8_shake_42 : decode cX8_shake 42 = .ok (.imul, 1) := by decide +kernel
theorem dX8_shake_43 : decode cX8_shake 43 = .ok (.sipush 12345, 3) := by decide +kernel
theorem dX8_shake_46 : decode cX8_shake 46 = .ok (.iadd, 1) := by decide +kernel
theorem dX8_shake_47 : decode cX8_shake 47 = .ok (.istore_n 3, 1) := by decide +kernel
theorem dX8_shake_48 : decode cX8_shake 48 = .ok (.iload_n 3, 1) := by decide +kernel
theorem dX8_shake_49 : decode cX8_shake 49 = .ok (.bipush 16, 2) := by decide +kernel
theorem dX8_shake_51 : decode cX8_shake 51 = .ok (.ishr, 1) := by decide +kernel
theorem dX8_shake_52 : decode cX8_shake 52 = .ok (.sipush 32767, 3) := by decide +kernel
theorem dX8_shake_55 : decode cX8_shake 55 = .ok (.iand, 1) := by decide +kernel
theorem dX8_shake_56 : decode cX8_shake 56 = .ok (.istore 6, 2) := by decide +kernel
theorem dX8_shake_58 : decode cX8_shake 58 = .ok (.iload 6, 2) := by decide +kernel
theorem dX8_shake_60 : decode cX8_shake 60 = .ok (.aload_n 0, 1) := by decide +kernel
theorem dX8_shake_61 : decode cX8_shake 61 = .ok (.invokevirtual 206, 3) := by decide +kernel
theorem dX8_shake_64 : decode cX8_shake 64 = .ok (.irem, 1) := by decide +kernel
theorem dX8_shake_65 : decode cX8_shake 65 = .ok (.istore 7, 2) := by decide +kernel
theorem dX8_shake_67 : decode cX8_shake 67 = .ok (.iload 4, 2) := by decide +kernel
theorem dX8_shake_69 : decode cX8_shake 69 = .ok (.aload_n 0, 1) := by decide +kernel
theorem dX8_shake_70 : decode cX8_shake 70 = .ok (.iload 7, 2) := by decide +kernel
theorem dX8_shake_72 : decode cX8_shake 72 = .ok (.aload_n 0, 1) := by decide +kernel
theorem dX8_shake_73 : decode cX8_shake 73 = .ok (.getfield 7, 3) := by decide +kernel
theorem dX8_shake_76 : decode cX8_shake 76 = .ok (.iload 7, 2) := by decide +kernel
theorem dX8_shake_78 : decode cX8_shake 78 = .ok (.iaload, 1) := by decide +kernel
theorem dX8_shake_79 : decode cX8_shake 79 = .ok (.iload 6, 2) := by decide +kernel
theorem dX8_shake_81 : decode cX8_shake 81 = .ok (.bipush 32, 2) := by decide +kernel
theorem dX8_shake_83 : decode cX8_shake 83 = .ok (.idiv, 1) := by decide +kernel
theorem dX8_shake_84 : decode cX8_shake 84 = .ok (.iconst 5, 1) := by decide +kernel
theorem dX8_shake_85 : decode cX8_shake 85 = .ok (.irem, 1) := by decide +kernel
theorem dX8_shake_86 : decode cX8_shake 86 = .ok (.iadd, 1) := by decide +kernel
theorem dX8_shake_87 : decode cX8_shake 87 = .ok (.iconst 2, 1) := by decide +kernel
theorem dX8_shake_88 : decode cX8_shake 88 = .ok (.isub, 1) := by decide +kernel
theorem dX8_shake_89 : decode cX8_shake 89 = .ok (.aload_n 0, 1) := by decide +kernel
theorem dX8_shake_90 : decode cX8_shake 90 = .ok (.getfield 7, 3) := by decide +kernel
theorem dX8_shake_93 : decode cX8_shake 93 = .ok (.bipush 24, 2) := by decide +kernel
theorem dX8_shake_95 : decode cX8_shake 95 = .ok (.iload 7, 2) := by decide +kernel
theorem dX8_shake_97 : decode cX8_shake 97 = .ok (.iadd, 1) := by decide +kernel
theorem dX8_shake_98 : decode cX8_shake 98 = .ok (.iaload, 1) := by decide +kernel
theorem dX8_shake_99 : decode cX8_shake 99 = .ok (.iload 6, 2) := by decide +kernel
theorem dX8_shake_101 : decode cX8_shake 101 = .ok (.sipush 256, 3) := by decide +kernel
theorem dX8_shake_104 : decode cX8_shake 104 = .ok (.idiv, 1) := by decide +kernel
theorem dX8_shake_105 : decode cX8_shake 105 = .ok (.iconst 5, 1) := by decide +kernel
theorem dX8_shake_106 : decode cX8_shake 106 = .ok (.irem, 1) := by decide +kernel
theorem dX8_shake_107 : decode cX8_shake 107 = .ok (.iadd, 1) := by decide +kernel
theorem dX8_shake_108 : decode cX8_shake 108 = .ok (.iconst 2, 1) := by decide +kernel
theorem dX8_shake_109 : decode cX8_shake 109 = .ok (.isub, 1) := by decide +kernel
theorem dX8_shake_110 : decode cX8_shake 110 = .ok (.invokevirtual 303, 3) := by decide +kernel
theorem dX8_shake_113 : decode cX8_shake 113 = .ok (.iconst 1, 1) := by decide +kernel
theorem dX8_shake_114 : decode cX8_shake 114 = .ok (.if_icmp .ne 7, 3) := by decide +kernel
theorem dX8_shake_117 : decode cX8_shake 117 = .ok (.iconst 1, 1) := by decide +kernel
theorem dX8_shake_118 : decode cX8_shake 118 = .ok (.goto 4, 3) := by decide +kernel
theorem dX8_shake_121 : decode cX8_shake 121 = .ok (.iconst 0, 1) := by decide +kernel
theorem dX8_shake_122 : decode cX8_shake 122 = .ok (.iadd, 1) := by decide +kernel
theorem dX8_shake_123 : decode cX8_shake 123 = .ok (.istore 4, 2) := by decide +kernel
theorem dX8_shake_125 : decode cX8_shake 125 = .ok (.iinc 5 1, 3) := by decide +kernel
theorem dX8_shake_128 : decode cX8_shake 128 = .ok (.goto (-96), 3) := by decide +kernel
theorem dX8_shake_131 : decode cX8_shake 131 = .ok (.iload 4, 2) := by decide +kernel
theorem dX8_shake_133 : decode cX8_shake 133 = .ok (.ireturn, 1) := by decide +kernel
theorem wX8_shake_131 (C : CxM p rmX8_shake s m args meth c D ac q RX8 cX8_shake 8) (hr : meth.sig.returnType = (some .int)) {v4 : Int} {σ : Mm} {r : Int × Mm} (hl : lv_has ls 8 [(0, .ref (q 0)), (4, .int (i32 v4))]) (h : fX8_shake_131 v4 σ = some r) : VM p l e rmX8_shake s m args below meth c D ac q (QIM D ac q below args s r) σ (F0 m 131 ls []) := by
  have h : some (v4, σ) = some r := h
  refine v_iload C hl dX8_shake_131 1 rfl ?_
  exact v_iret C hr h dX8_shake_133
theorem wX8_shake_122 (C : CxM p rmX8_shake s m args meth c D ac q RX8 cX8_shake 8) (hr : meth.sig.returnType = (some .int)) {v2 : Int} {v3 : Int} {v5 : Int} {t0 : Int} {t1 : Int} {c32 : Int → Int → Int → Mm → Option (Int × Mm)} {σ : Mm} {r : Int × Mm} (hc32 : ∀ (v3x : Int) (v4x : Int) (v5x : Int) (σ : Mm) (ls : Array Slot), lv_has ls 8 [(0, .ref (q 0)), (2, .int (i32 v2)), (3, .int (i32 v3x)), (4, .int (i32 v4x)), (5, .int (i32 v5x))] → c32 v3x v4x v5x σ = some r → VM p l e rmX8_shake s m args below meth c D ac q (QIM D ac q below args s r) σ (F0 m 32 ls [])) (hl : lv_has ls 8 [(0, .ref (q 0)), (2, .int (i32 v2)), (3, .int (i32 v3)), (5, .int (i32 v5))]) (h : fX8_shake_122 c32 v2 v3 v5 t0 t1 σ = some r) : VM p l e rmX8_shake s m args below meth c D ac q (QIM D ac q below args s r) σ (F0 m 122 ls [.int (i32 t1), .int (i32 t0)]) := by
  have h : bindv (t0 + t1) (fun v4_1 => bindv (v5 + 1) (fun v5_2 => c32 v3 v4_1 v5_2 σ)) = some r := h
  refine v_iadd C dX8_shake_122 ?_
  refine v_istore C hl (fun x => [(4, .int (i32 x)), (0, .ref (q 0)), (2, .int (i32 v2)), (3, .int (i32 v3)), (5, .int (i32 v5))]) dX8_shake_123 (by decide) (fun _ => rfl) h (fun v4_1 ls hl h => ?_)
  refine v_iinc C hl (fun x => [(5, .int (i32 x)), (4, .int (i32 v4_1)), (0, .ref (q 0)), (2, .int (i32 v2)), (3, .int (i32 v3))]) dX8_shake_125 4 rfl (by decide) (fun _ => rfl) h (fun v5_2 ls hl h => ?_)
  refine v_goto C (tgt := 32) dX8_shake_128 rfl ?_
  exact hc32 _ _ _ _ _ (lv_sub hl [2, 3, 4, 1, 0] rfl) h
theorem wX8_shake_32 (C : CxM p rmX8_shake s m args meth c D ac q RX8 cX8_shake 8) (hr : meth.sig.returnType = (some .int)) {v2 : Int} {v3 : Int} {v4 : Int} {v5 : Int} {σ : Mm} {e32 : Int → Mm → Option (Int × Mm)} {c32 : Int → Int → Int → Mm → Option (Int × Mm)} {r : Int × Mm} (he32 : ∀ (v4x : Int) (σ : Mm) (ls : Array Slot), lv_has ls 8 [(0, .ref (q 0)), (4, .int (i32 v4x))] → e32 v4x σ = some r → VM p l e rmX8_shake s m args below meth c D ac q (QIM D ac q below args s r) σ (F0 m 131 ls [])) (hc32 : ∀ (v3x : Int) (v4x : Int) (v5x : Int) (σ : Mm) (ls : Array Slot), lv_has ls 8 [(0, .ref (q 0)), (2, .int (i32 v2)), (3, .int (i32 v3x)), (4, .int (i32 v4x)), (5, .int (i32 v5x))] → c32 v3x v4x v5x σ = some r → VM p l e rmX8_shake s m args below meth c D ac q (QIM D ac q below args s r) σ (F0 m 32 ls [])) (hl : lv_has ls 8 [(0, .ref (q 0)), (2, .int (i32 v2)), (3, .int (i32 v3)), (4, .int (i32 v4)), (5, .int (i32 v5))]) (h : fX8_shake_32 v2 e32 c32 v3 v4 v5 σ = some r) : VM p l e rmX8_shake s m args below meth c D ac q (QIM D ac q below args s r) σ (F0 m 32 ls []) := by
  have h : cr v5 (cr v2 ((if v5 < v2 then bindv ((v3 * 1103515245) + 12345) (fun v3_3 => bindv (andI (shrI v3_3 16) 32767) (fun v6_4 => bd (fX8_points σ) (fun x_5 => chd v6_4 x_5 (bindv (v6_4 % x_5) (fun v7_6 => chk v7_6 700 (chd v6_4 32 (chd (v6_4 / 32) 5 (chk (24 + v7_6) 700 (chd v6_4 256 (chd (v6_4 / 256) 5 (bd2 (fX8_moves v7_6 (((σ 1 (v7_6).toNat) + ((v6_4 / 32) % 5)) - 2) (((σ 1 (24 + v7_6).toNat) + ((v6_4 / 256) % 5)) - 2) σ) (fun x_7 σ_7 => cr x_7 ((if x_7 = 1 then fX8_shake_122 c32 v2 v3_3 v5 v4 1 σ_7 else fX8_shake_122 c32 v2 v3_3 v5 v4 0 σ_7)))))))))))))) else e32 v4 σ))) = some r := h
  refine v_iload C hl dX8_shake_32 4 rfl ?_
  refine v_iload_n C hl dX8_shake_34 rfl 1 rfl ?_
  have hz1 := (cr_e h).1
  have h := (cr_e h).2
  have hz2 := (cr_e h).1
  have h := (cr_e h).2
  refine v_icmp_ge C (tgt := 131) hz1 hz2 h dX8_shake_35 rfl (fun h => ?_) (fun h => ?_)
  · exact he32 _ _ _ (lv_sub hl [0, 3] rfl) h
  · refine v_iload_n C hl dX8_shake_38 rfl 2 rfl ?_
    refine v_ldcw C (v := 1103515245) kc_X8_308 rfl dX8_shake_39 ?_
    refine v_imul C dX8_shake_42 ?_
    refine v_sipush C dX8_shake_43 rfl ?_
    refine v_iadd C dX8_shake_46 ?_
    refine v_istore_n C hl (fun x => [(3, .int (i32 x)), (0, .ref (q 0)), (2, .int (i32 v2)), (4, .int (i32 v4)), (5, .int (i32 v5))]) dX8_shake_47 rfl (by decide) (fun _ => rfl) h (fun v3_3 ls hl h => ?_)
    refine v_iload_n C hl dX8_shake_48 rfl 0 rfl ?_
    refine v_bipush C dX8_shake_49 rfl ?_
    refine v_ishr C dX8_shake_51 ?_
    refine v_sipush C dX8_shake_52 rfl ?_
    refine v_iand C dX8_shake_55 ?_
    refine v_istore C hl (fun x => [(6, .int (i32 x)), (3, .int (i32 v3_3)), (0, .ref (q 0)), (2, .int (i32 v2)), (4, .int (i32 v4)), (5, .int (i32 v5))]) dX8_shake_56 (by decide) (fun _ => rfl) h (fun v6_4 ls hl h => ?_)
    refine v_iload C hl dX8_shake_58 0 rfl ?_
    refine v_aload_n C hl dX8_shake_60 rfl 2 rfl ?_
    obtain ⟨x_5, hv5, h⟩ := bd_e h
    refine v_callVI C 0 (klM kdM_0) rfl (ckM1 kdM_0 _) rfl [] (mX8_points C.2.2.2.2.1 hv5) cd_X8_points ic_X8 im_X8_points se_X8_points ml_X8_206 yk_X8_points ⟨rfl, rfl, by decide, by decide⟩ rfl hl.1 (rest := [.int (i32 v6_4)]) rfl (Nat.le_of_ble_eq_true rfl) dX8_shake_61 ?_
    refine v_irem C h dX8_shake_64 (fun h => ?_)
    refine v_istore C hl (fun x => [(7, .int (i32 x)), (6, .int (i32 v6_4)), (3, .int (i32 v3_3)), (0, .ref (q 0)), (2, .int (i32 v2)), (4, .int (i32 v4)), (5, .int (i32 v5))]) dX8_shake_65 (by decide) (fun _ => rfl) h (fun v7_6 ls hl h => ?_)
    refine v_iload C hl dX8_shake_67 5 rfl ?_
    refine v_aload_n C hl dX8_shake_69 rfl 3 rfl ?_
    refine v_iload C hl dX8_shake_70 0 rfl ?_
    refine v_aload_n C hl dX8_shake_72 rfl 3 rfl ?_
    refine g_X8_0 C kdM_0 fl_X8_7 dX8_shake_73 ?_
    refine v_iload C hl dX8_shake_76 0 rfl ?_
    refine alM2 C kdM_1 h dX8_shake_78 (fun h => ?_)
    refine v_iload C hl dX8_shake_79 1 rfl ?_
    refine v_bipush C dX8_shake_81 rfl ?_
    refine v_idiv C h dX8_shake_83 (fun h => ?_)
    refine v_iconst C dX8_shake_84 ?_
    refine v_irem C h dX8_shake_85 (fun h => ?_)
    refine v_iadd C dX8_shake_86 ?_
    refine v_iconst C dX8_shake_87 ?_
    refine v_isub C dX8_shake_88 ?_
    refine v_aload_n C hl dX8_shake_89 rfl 3 rfl ?_
    refine g_X8_0 C kdM_0 fl_X8_7 dX8_shake_90 ?_
    refine v_bipush C dX8_shake_93 rfl ?_
    refine v_iload C hl dX8_shake_95 0 rfl ?_
    refine v_iadd C dX8_shake_97 ?_
    refine alM2 C kdM_1 h dX8_shake_98 (fun h => ?_)
    refine v_iload C hl dX8_shake_99 1 rfl ?_
    refine v_sipush C dX8_shake_101 rfl ?_
    refine v_idiv C h dX8_shake_104 (fun h => ?_)
    refine v_iconst C dX8_shake_105 ?_
    refine v_irem C h dX8_shake_106 (fun h => ?_)
    refine v_iadd C dX8_shake_107 ?_
    refine v_iconst C dX8_shake_108 ?_
    refine v_isub C dX8_shake_109 ?_
    obtain ⟨x_7, σ_7, hv7, h⟩ := bd2_e h
    refine v_callVI C 0 (klM kdM_0) rfl (ckM1 kdM_0 _) rfl [.int (i32 v7_6), .int (i32 (((σ 1 (v7_6).toNat) + ((v6_4 / 32) % 5)) - 2)), .int (i32 (((σ 1 (24 + v7_6).toNat) + ((v6_4 / 256) % 5)) - 2))] (mX8_moves C.2.2.2.2.1 hv7) cd_X8_moves ic_X8 im_X8_moves se_X8_moves ml_X8_303 yk_X8_moves ⟨rfl, rfl, by decide, by decide⟩ rfl hl.1 (rest := [.int (i32 v4)]) rfl (Nat.le_of_ble_eq_true rfl) dX8_shake_110 ?_
    refine v_iconst C dX8_shake_113 ?_
    have hz8 := (cr_e h).1
    have h := (cr_e h).2
    refine v_icmp_ne C (tgt := 121) hz8 (by decide) h dX8_shake_114 rfl (fun h => ?_) (fun h => ?_)
    · refine v_iconst C dX8_shake_121 ?_
      exact wX8_shake_122 C hr hc32 (lv_sub hl [3, 4, 2, 6] rfl) h
    · refine v_iconst C dX8_shake_117 ?_
      refine v_goto C (tgt := 122) dX8_shake_118 rfl ?_
      exact wX8_shake_122 C hr hc32 (lv_sub hl [3, 4, 2, 6] rfl) h
theorem wlX8_shake_32 (C : CxM p rmX8_shake s m args meth c D ac q RX8 cX8_shake 8) (hr : meth.sig.returnType = (some .int)) {v2 : Int} {e32 : Int → Mm → Option (Int × Mm)} {r : Int × Mm} (he32 : ∀ (v4x : Int) (σ : Mm) (ls : Array Slot), lv_has ls 8 [(0, .ref (q 0)), (4, .int (i32 v4x))] → e32 v4x σ = some r → VM p l e rmX8_shake s m args below meth c D ac q (QIM D ac q below args s r) σ (F0 m 131 ls [])) : ∀ (fu : Nat) (v3 : Int) (v4 : Int) (v5 : Int) (σ : Mm) (ls : Array Slot) (hl : lv_has ls 8 [(0, .ref (q 0)), (2, .int (i32 v2)), (3, .int (i32 v3)), (4, .int (i32 v4)), (5, .int (i32 v5))]) (h : lX8_shake_32 v2 e32 fu v3 v4 v5 σ = some r), VM p l e rmX8_shake s m args below meth c D ac q (QIM D ac q below args s r) σ (F0 m 32 ls []) := by
  intro fu
  induction fu with
  | zero =>
    intro v3 v4 v5 σ ls hl h
    have h : none = some r := h
    cases h
  | succ fu ih =>
    intro v3 v4 v5 σ ls hl h
    exact wX8_shake_32 C hr he32 (fun v3 v4 v5 σ ls hl h => ih v3 v4 v5 σ ls hl h) hl h
theorem mX8_shake (hq : QI 19 q) {v1 : Int} {v2 : Int} {σ : Mm} {r : Int × Mm} (h : fX8_shake v1 v2 σ = some r) : MIM l D ac q yX8_shake cX8_shake 8 (some .int) rmX8_shake [.ref (q 0), .int (i32 v1), .int (i32 v2)] σ r := by
  refine MI.of hq XT_M (by decide) (Nat.le_of_ble_eq_true rfl) (fun p e s m below meth c ls C hr hl => ?_)
  have hl : lv_has ls 8 [(0, .ref (q 0)), (1, .int (i32 v1)), (2, .int (i32 v2))] := hl
  have h : cr v2 (bd (fX8_in v2 1 40 σ) (fun x_1 => cr x_1 ((if x_1 = 0 then some ((-1), σ) else bd (fX8_points σ) (fun x_3 => cr x_3 ((if x_3 = 0 then some ((-2), σ) else bindv v1 (fun v3_5 => bindv 0 (fun v4_6 => bindv 0 (fun v5_7 => lX8_shake_32 v2 (fun v4_8 σ_9 => fX8_shake_131 v4_8 σ_9) 400 v3_5 v4_6 v5_7 σ)))))))))) = some r := h
  refine v_iload_n C hl dX8_shake_0 rfl 2 rfl ?_
  refine v_i2l C h dX8_shake_1 (fun h => ?_)
  refine v_lconst C (v := 1) dX8_shake_2 rfl ?_
  refine v_ldc2 C (v := 40) kc_X8_306 rfl dX8_shake_3 ?_
  obtain ⟨x_1, hv1, h⟩ := bd_e h
  refine v_callSI C [.long (i64 v2), .long (i64 1), .long (i64 40)] (mX8_in C.2.2.2.2.1 hv1) cd_X8_in ic_X8 sm_X8_in ml_X8_67 yk_X8_in ⟨rfl, rfl, by decide, by decide⟩ rfl hl.1 (rest := []) rfl (Nat.le_of_ble_eq_true rfl) dX8_shake_6 ?_
  have hz2 := (cr_e h).1
  have h := (cr_e h).2
  refine v_if_ne C (tgt := 14) hz2 h dX8_shake_9 rfl (fun h => ?_) (fun h => ?_)
  · refine v_aload_n C hl dX8_shake_14 rfl 0 rfl ?_
    obtain ⟨x_3, hv3, h⟩ := bd_e h
    refine v_callVI C 0 (klM kdM_0) rfl (ckM1 kdM_0 _) rfl [] (mX8_points C.2.2.2.2.1 hv3) cd_X8_points ic_X8 im_X8_points se_X8_points ml_X8_206 yk_X8_points ⟨rfl, rfl, by decide, by decide⟩ rfl hl.1 (rest := []) rfl (Nat.le_of_ble_eq_true rfl) dX8_shake_15 ?_
    have hz4 := (cr_e h).1
    have h := (cr_e h).2
    refine v_if_ne C (tgt := 24) hz4 h dX8_shake_18 rfl (fun h => ?_) (fun h => ?_)
    · refine v_iload_n C hl dX8_shake_24 rfl 1 rfl ?_
      refine v_istore_n C hl (fun x => [(3, .int (i32 x)), (0, .ref (q 0)), (1, .int (i32 v1)), (2, .int (i32 v2))]) dX8_shake_25 rfl (by decide) (fun _ => rfl) h (fun v3_5 ls hl h => ?_)
      refine v_iconst C dX8_shake_26 ?_
      refine v_istore C hl (fun x => [(4, .int (i32 x)), (3, .int (i32 v3_5)), (0, .ref (q 0)), (1, .int (i32 v1)), (2, .int (i32 v2))]) dX8_shake_27 (by decide) (fun _ => rfl) h (fun v4_6 ls hl h => ?_)
      refine v_iconst C dX8_shake_29 ?_
      refine v_istore C hl (fun x => [(5, .int (i32 x)), (4, .int (i32 v4_6)), (3, .int (i32 v3_5)), (0, .ref (q 0)), (1, .int (i32 v1)), (2, .int (i32 v2))]) dX8_shake_30 (by decide) (fun _ => rfl) h (fun v5_7 ls hl h => ?_)
      exact wlX8_shake_32 C hr (fun v4_8 σ_9 ls hl h => wX8_shake_131 C hr (lv_sub hl [0, 1] rfl) h) _ _ _ _ _ _ (lv_sub hl [3, 5, 2, 1, 0] rfl) h
    · refine v_bipush C dX8_shake_21 rfl ?_
      exact v_iret C hr h dX8_shake_23
  · refine v_iconst C dX8_shake_12 ?_
    exact v_iret C hr h dX8_shake_13
end
