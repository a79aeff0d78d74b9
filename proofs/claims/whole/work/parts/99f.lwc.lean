/-! the law: one call of a script at a time -/
abbrev c_Lw_law : ByteArray := code
abbrev xL : Cond := Cond.initialized "NonceBoxLaw"
/-- what stands over the whole law -/
def LC (p : Program) (l : Launch) (s : State) (m : MethodId) (c : Code) (b L : Nat) (xs : Nat → Int32) : Prop := p.tables.exec = Jvm.exec ∧ c.code = code ∧ c.maxLocals = 7 ∧ s.vm.findClass "NonceBoxLaw" = some m.cls ∧ (∀ w ∈ xL :: tb, w.before #[Value.ref b] s = true) ∧ va_X b L xs s s.heap ∧ b < s.heap.size ∧ L ≤ 2560 ∧ TW s ∧ CA s ∧ ∀ e, l.admits e → e.platform.stackTraces = false
/-- both sides hold the same -/
def INV (G : wG) (ad : Nat → Nat) (ev : Nat → va_E) : Prop := ∃ (Bf : Nat → Nat → Nat) (tl ol cd : Nat) (fo : Nat → Int64), NB G ad ev Bf tl ol ∧ MD G ad ev Bf tl ol cd ∧ ev 51 = eJ G 1 fo
abbrev lvL (b : Nat) (ad : Nat → Nat) (j : Nat) : List (Nat × Value) := [(0, .ref b), (1, .ref (ad 0)), (2, .ref (ad 37)), (3, .ref (ad 51)), (4, .int (nI (5 * j)))]
/-- the way on from behind a call -/
def LK (p : Program) (l : Launch) (e : Env) (s : State) (m : MethodId) (below : List Frame) (meth : Method) (c : Code) (b : Nat) (G : wG) (ad : Nat → Nat) (j cells slots : Nat) (Q : State → Prop) : Prop := ∀ (ev : Nat → va_E) (H : Heap) (locs : List Loc) (ls : Array Slot), INV G ad ev → wT G (A0 s) 52 ad ev s H locs → lv_has ls 7 (lvL b ad j) → W p l e room_1 s m #[Value.ref b] below meth c H locs (cells + 1) (slots + 6) Q (F0 m 547 ls [])
theorem OLD.rf (s : State) : OLD s s := ⟨State.WarmedH.refl s, Nat.le_refl _, fun _ _ => rfl⟩
theorem spSeal_c {S : Nat → Nat} {Bf Bf' : Nat → Nat → Nat} {tl ol ol' cd' : Nat} {ans : Int32} (h : spSeal S Bf tl ol ans Bf' ol' cd') : cd' < 1000 := by
  rcases h with ⟨-, -, -, -, h⟩ | ⟨-, -, -, -, h⟩ <;> omega
theorem spOpen_c {S : Nat → Nat} {Bf Bf' : Nat → Nat → Nat} {tl ol ol' cd' : Nat} {ans : Int32} (h : spOpen S Bf tl ol ans Bf' ol' cd') : cd' < 1000 := by
  rcases h with ⟨-, -, -, -, -, h⟩ | ⟨-, -, -, -, -, h⟩ | ⟨-, -, -, -, h⟩ <;> omega
section LSL
variable {p : Program} {l : Launch} {e : Env} {R : Room} {s : State} {m : MethodId} {args : Array Value} {below : List Frame} {meth : Method} {c : Code} {H : Heap} {locs : List Loc} {cells slots : Nat} {Q : State → Prop} {cc : ByteArray} {pc : Nat} {ls : Array Slot} {rest : List Value} {G : wG} {n : Nat} {ad : Nat → Nat} {ev : Nat → va_E} {b L : Nat} {xs : Nat → Int32}
theorem wv_sld (hx : p.tables.exec = Jvm.exec) (hb : c.code = cc) (hX : va_X b L xs s s.heap) (hbl : b < s.heap.size) (h : wT G (A0 s) n ad ev s H locs) {i : Int32} {k : Nat} (hi : i = nI k) (hk : k < L) (hL : L < 2 ^ 31) (hdg : decode cc pc = .ok (.iaload, 1))
    (kk : W p l e R s m args below meth c H locs cells slots Q (F0 m (pc + 1) ls (.int (xs k) :: rest))) : W p l e R s m args below meth c H locs cells slots Q (F0 m pc ls (.int i :: .ref b :: rest)) := by
  subst hi
  refine va_sld hx hb hX hbl (Nat.not_le.mpr hbl) h.2.1 (vp_in_nI hk hL) hdg ?_
  rw [nI_clamp (by omega)]
  exact kk
end LSL
theorem d_Lw_law_0 : decode c_Lw_law 0 = .ok (.new 8, 3) := by decide +kernel
theorem d_Lw_law_3 : decode c_Lw_law 3 = .ok (.dup, 1) := by decide +kernel
theorem d_Lw_law_4 : decode c_Lw_law 4 = .ok (.invokespecial 26, 3) := by decide +kernel
theorem d_Lw_law_7 : decode c_Lw_law 7 = .ok (.astore_n 1, 1) := by decide +kernel
theorem d_Lw_law_8 : decode c_Lw_law 8 = .ok (.new 27, 3) := by decide +kernel
theorem d_Lw_law_11 : decode c_Lw_law 11 = .ok (.dup, 1) := by decide +kernel
theorem d_Lw_law_12 : decode c_Lw_law 12 = .ok (.invokespecial 29, 3) := by decide +kernel
theorem d_Lw_law_15 : decode c_Lw_law 15 = .ok (.astore_n 2, 1) := by decide +kernel
theorem d_Lw_law_16 : decode c_Lw_law 16 = .ok (.iconst 1, 1) := by decide +kernel
theorem d_Lw_law_17 : decode c_Lw_law 17 = .ok (.newarray .long, 2) := by decide +kernel
theorem d_Lw_law_19 : decode c_Lw_law 19 = .ok (.astore_n 3, 1) := by decide +kernel
theorem d_Lw_law_20 : decode c_Lw_law 20 = .ok (.iconst 0, 1) := by decide +kernel
theorem d_Lw_law_21 : decode c_Lw_law 21 = .ok (.istore 4, 2) := by decide +kernel
theorem d_Lw_law_23 : decode c_Lw_law 23 = .ok (.iload 4, 2) := by decide +kernel
theorem d_Lw_law_25 : decode c_Lw_law 25 = .ok (.aload_n 0, 1) := by decide +kernel
theorem d_Lw_law_26 : decode c_Lw_law 26 = .ok (.arraylength, 1) := by decide +kernel
theorem d_Lw_law_27 : decode c_Lw_law 27 = .ok (.iconst 5, 1) := by decide +kernel
theorem d_Lw_law_28 : decode c_Lw_law 28 = .ok (.isub, 1) := by decide +kernel
theorem d_Lw_law_29 : decode c_Lw_law 29 = .ok (.if_icmp .gt 524, 3) := by decide +kernel
theorem d_Lw_law_32 : decode c_Lw_law 32 = .ok (.aload_n 0, 1) := by decide +kernel
theorem d_Lw_law_33 : decode c_Lw_law 33 = .ok (.iload 4, 2) := by decide +kernel
theorem d_Lw_law_35 : decode c_Lw_law 35 = .ok (.iaload, 1) := by decide +kernel
theorem d_Lw_law_36 : decode c_Lw_law 36 = .ok (.bipush 15, 2) := by decide +kernel
theorem d_Lw_law_38 : decode c_Lw_law 38 = .ok (.iand, 1) := by decide +kernel
theorem d_Lw_law_39 : decode c_Lw_law 39 = .ok (.tableswitch 508 0 13 #[69, 150, 175, 213, 238, 263, 274, 299, 310, 321, 332, 376, 420, 464], 69) := by decide +kernel
theorem d_Lw_law_108 : decode c_Lw_law 108 = .ok (.aload_n 1, 1) := by decide +kernel
theorem d_Lw_law_109 : decode c_Lw_law 109 = .ok (.aload_n 0, 1) := by decide +kernel
theorem d_Lw_law_110 : decode c_Lw_law 110 = .ok (.iload 4, 2) := by decide +kernel
theorem d_Lw_law_112 : decode c_Lw_law 112 = .ok (.iconst 1, 1) := by decide +kernel
theorem d_Lw_law_113 : decode c_Lw_law 113 = .ok (.iadd, 1) := by decide +kernel
theorem d_Lw_law_114 : decode c_Lw_law 114 = .ok (.iaload, 1) := by decide +kernel
theorem d_Lw_law_115 : decode c_Lw_law 115 = .ok (.aload_n 0, 1) := by decide +kernel
theorem d_Lw_law_116 : decode c_Lw_law 116 = .ok (.iload 4, 2) := by decide +kernel
theorem d_Lw_law_118 : decode c_Lw_law 118 = .ok (.iconst 2, 1) := by decide +kernel
theorem d_Lw_law_119 : decode c_Lw_law 119 = .ok (.iadd, 1) := by decide +kernel
theorem d_Lw_law_120 : decode c_Lw_law 120 = .ok (.iaload, 1) := by decide +kernel
theorem d_Lw_law_121 : decode c_Lw_law 121 = .ok (.aload_n 0, 1) := by decide +kernel
theorem d_Lw_law_122 : decode c_Lw_law 122 = .ok (.iload 4, 2) := by decide +kernel
theorem d_Lw_law_124 : decode c_Lw_law 124 = .ok (.iconst 3, 1) := by decide +kernel
theorem d_Lw_law_125 : decode c_Lw_law 125 = .ok (.iadd, 1) := by decide +kernel
theorem d_Lw_law_126 : decode c_Lw_law 126 = .ok (.iaload, 1) := by decide +kernel
theorem d_Lw_law_127 : decode c_Lw_law 127 = .ok (.i2l, 1) := by decide +kernel
theorem d_Lw_law_128 : decode c_Lw_law 128 = .ok (.bipush 32, 2) := by decide +kernel
theorem d_Lw_law_130 : decode c_Lw_law 130 = .ok (.lshl, 1) := by decide +kernel
theorem d_Lw_law_131 : decode c_Lw_law 131 = .ok (.aload_n 0, 1) := by decide +kernel
theorem d_Lw_law_132 : decode c_Lw_law 132 = .ok (.iload 4, 2) := by decide +kernel
theorem d_Lw_law_134 : decode c_Lw_law 134 = .ok (.iconst 4, 1) := by decide +kernel
theorem d_Lw_law_135 : decode c_Lw_law 135 = .ok (.iadd, 1) := by decide +kernel
theorem d_Lw_law_136 : decode c_Lw_law 136 = .ok (.iaload, 1) := by decide +kernel
theorem d_Lw_law_137 : decode c_Lw_law 137 = .ok (.i2l, 1) := by decide +kernel
theorem d_Lw_law_138 : decode c_Lw_law 138 = .ok (.ldc2_w 30, 3) := by decide +kernel
theorem d_Lw_law_141 : decode c_Lw_law 141 = .ok (.land, 1) := by decide +kernel
theorem d_Lw_law_142 : decode c_Lw_law 142 = .ok (.lor, 1) := by decide +kernel
theorem d_Lw_law_143 : decode c_Lw_law 143 = .ok (.invokevirtual 32, 3) := by decide +kernel
theorem d_Lw_law_146 : decode c_Lw_law 146 = .ok (.aload_n 2, 1) := by decide +kernel
theorem d_Lw_law_147 : decode c_Lw_law 147 = .ok (.aload_n 0, 1) := by decide +kernel
theorem d_Lw_law_148 : decode c_Lw_law 148 = .ok (.iload 4, 2) := by decide +kernel
theorem d_Lw_law_150 : decode c_Lw_law 150 = .ok (.iconst 1, 1) := by decide +kernel
theorem d_Lw_law_151 : decode c_Lw_law 151 = .ok (.iadd, 1) := by decide +kernel
theorem d_Lw_law_152 : decode c_Lw_law 152 = .ok (.iaload, 1) := by decide +kernel
theorem d_Lw_law_153 : decode c_Lw_law 153 = .ok (.aload_n 0, 1) := by decide +kernel
theorem d_Lw_law_154 : decode c_Lw_law 154 = .ok (.iload 4, 2) := by decide +kernel
theorem d_Lw_law_156 : decode c_Lw_law 156 = .ok (.iconst 2, 1) := by decide +kernel
theorem d_Lw_law_157 : decode c_Lw_law 157 = .ok (.iadd, 1) := by decide +kernel
theorem d_Lw_law_158 : decode c_Lw_law 158 = .ok (.iaload, 1) := by decide +kernel
theorem d_Lw_law_159 : decode c_Lw_law 159 = .ok (.aload_n 0, 1) := by decide +kernel
theorem d_Lw_law_160 : decode c_Lw_law 160 = .ok (.iload 4, 2) := by decide +kernel
theorem d_Lw_law_162 : decode c_Lw_law 162 = .ok (.iconst 3, 1) := by decide +kernel
theorem d_Lw_law_163 : decode c_Lw_law 163 = .ok (.iadd, 1) := by decide +kernel
theorem d_Lw_law_164 : decode c_Lw_law 164 = .ok (.iaload, 1) := by decide +kernel
theorem d_Lw_law_165 : decode c_Lw_law 165 = .ok (.i2l, 1) := by decide +kernel
theorem d_Lw_law_166 : decode c_Lw_law 166 = .ok (.bipush 32, 2) := by decide +kernel
theorem d_Lw_law_168 : decode c_Lw_law 168 = .ok (.lshl, 1) := by decide +kernel
theorem d_Lw_law_169 : decode c_Lw_law 169 = .ok (.aload_n 0, 1) := by decide +kernel
theorem d_Lw_law_170 : decode c_Lw_law 170 = .ok (.iload 4, 2) := by decide +kernel
theorem d_Lw_law_172 : decode c_Lw_law 172 = .ok (.iconst 4, 1) := by decide +kernel
theorem d_Lw_law_173 : decode c_Lw_law 173 = .ok (.iadd, 1) := by decide +kernel
theorem d_Lw_law_174 : decode c_Lw_law 174 = .ok (.iaload, 1) := by decide +kernel
theorem d_Lw_law_175 : decode c_Lw_law 175 = .ok (.i2l, 1) := by decide +kernel
theorem d_Lw_law_176 : decode c_Lw_law 176 = .ok (.ldc2_w 30, 3) := by decide +kernel
theorem d_Lw_law_179 : decode c_Lw_law 179 = .ok (.land, 1) := by decide +kernel
theorem d_Lw_law_180 : decode c_Lw_law 180 = .ok (.lor, 1) := by decide +kernel
theorem d_Lw_law_181 : decode c_Lw_law 181 = .ok (.invokevirtual 36, 3) := by decide +kernel
theorem d_Lw_law_184 : decode c_Lw_law 184 = .ok (.if_icmp .eq 363, 3) := by decide +kernel
theorem d_Lw_law_187 : decode c_Lw_law 187 = .ok (.iconst 0, 1) := by decide +kernel
theorem d_Lw_law_188 : decode c_Lw_law 188 = .ok (.ireturn, 1) := by decide +kernel
theorem d_Lw_law_189 : decode c_Lw_law 189 = .ok (.aload_n 1, 1) := by decide +kernel
theorem d_Lw_law_190 : decode c_Lw_law 190 = .ok (.aload_n 0, 1) := by decide +kernel
theorem d_Lw_law_191 : decode c_Lw_law 191 = .ok (.iload 4, 2) := by decide +kernel
theorem d_Lw_law_193 : decode c_Lw_law 193 = .ok (.iconst 1, 1) := by decide +kernel
theorem d_Lw_law_194 : decode c_Lw_law 194 = .ok (.iadd, 1) := by decide +kernel
theorem d_Lw_law_195 : decode c_Lw_law 195 = .ok (.iaload, 1) := by decide +kernel
theorem d_Lw_law_196 : decode c_Lw_law 196 = .ok (.invokevirtual 37, 3) := by decide +kernel
theorem d_Lw_law_199 : decode c_Lw_law 199 = .ok (.aload_n 2, 1) := by decide +kernel
theorem d_Lw_law_200 : decode c_Lw_law 200 = .ok (.aload_n 0, 1) := by decide +kernel
theorem d_Lw_law_201 : decode c_Lw_law 201 = .ok (.iload 4, 2) := by decide +kernel
theorem d_Lw_law_203 : decode c_Lw_law 203 = .ok (.iconst 1, 1) := by decide +kernel
theorem d_Lw_law_204 : decode c_Lw_law 204 = .ok (.iadd, 1) := by decide +kernel
theorem d_Lw_law_205 : decode c_Lw_law 205 = .ok (.iaload, 1) := by decide +kernel
theorem d_Lw_law_206 : decode c_Lw_law 206 = .ok (.invokevirtual 41, 3) := by decide +kernel
theorem d_Lw_law_209 : decode c_Lw_law 209 = .ok (.if_icmp .eq 338, 3) := by decide +kernel
theorem d_Lw_law_212 : decode c_Lw_law 212 = .ok (.iconst 0, 1) := by decide +kernel
theorem d_Lw_law_213 : decode c_Lw_law 213 = .ok (.ireturn, 1) := by decide +kernel
theorem d_Lw_law_214 : decode c_Lw_law 214 = .ok (.aload_n 1, 1) := by decide +kernel
theorem d_Lw_law_215 : decode c_Lw_law 215 = .ok (.aload_n 0, 1) := by decide +kernel
theorem d_Lw_law_216 : decode c_Lw_law 216 = .ok (.iload 4, 2) := by decide +kernel
theorem d_Lw_law_218 : decode c_Lw_law 218 = .ok (.iconst 1, 1) := by decide +kernel
theorem d_Lw_law_219 : decode c_Lw_law 219 = .ok (.iadd, 1) := by decide +kernel
theorem d_Lw_law_220 : decode c_Lw_law 220 = .ok (.iaload, 1) := by decide +kernel
theorem d_Lw_law_221 : decode c_Lw_law 221 = .ok (.aload_n 0, 1) := by decide +kernel
theorem d_Lw_law_222 : decode c_Lw_law 222 = .ok (.iload 4, 2) := by decide +kernel
theorem d_Lw_law_224 : decode c_Lw_law 224 = .ok (.iconst 2, 1) := by decide +kernel
theorem d_Lw_law_225 : decode c_Lw_law 225 = .ok (.iadd, 1) := by decide +kernel
theorem d_Lw_law_226 : decode c_Lw_law 226 = .ok (.iaload, 1) := by decide +kernel
theorem d_Lw_law_227 : decode c_Lw_law 227 = .ok (.invokevirtual 42, 3) := by decide +kernel
theorem d_Lw_law_230 : decode c_Lw_law 230 = .ok (.aload_n 2, 1) := by decide +kernel
theorem d_Lw_law_231 : decode c_Lw_law 231 = .ok (.aload_n 0, 1) := by decide +kernel
theorem d_Lw_law_232 : decode c_Lw_law 232 = .ok (.iload 4, 2) := by decide +kernel
theorem d_Lw_law_234 : decode c_Lw_law 234 = .ok (.iconst 1, 1) := by decide +kernel
theorem d_Lw_law_235 : decode c_Lw_law 235 = .ok (.iadd, 1) := by decide +kernel
theorem d_Lw_law_236 : decode c_Lw_law 236 = .ok (.iaload, 1) := by decide +kernel
theorem d_Lw_law_237 : decode c_Lw_law 237 = .ok (.aload_n 0, 1) := by decide +kernel
theorem d_Lw_law_238 : decode c_Lw_law 238 = .ok (.iload 4, 2) := by decide +kernel
theorem d_Lw_law_240 : decode c_Lw_law 240 = .ok (.iconst 2, 1) := by decide +kernel
theorem d_Lw_law_241 : decode c_Lw_law 241 = .ok (.iadd, 1) := by decide +kernel
theorem d_Lw_law_242 : decode c_Lw_law 242 = .ok (.iaload, 1) := by decide +kernel
theorem d_Lw_law_243 : decode c_Lw_law 243 = .ok (.invokevirtual 46, 3) := by decide +kernel
theorem d_Lw_law_246 : decode c_Lw_law 246 = .ok (.lcmp, 1) := by decide +kernel
theorem d_Lw_law_247 : decode c_Lw_law 247 = .ok (.ifCond .eq 300, 3) := by decide +kernel
theorem d_Lw_law_250 : decode c_Lw_law 250 = .ok (.iconst 0, 1) := by decide +kernel
theorem d_Lw_law_251 : decode c_Lw_law 251 = .ok (.ireturn, 1) := by decide +kernel
theorem d_Lw_law_252 : decode c_Lw_law 252 = .ok (.aload_n 1, 1) := by decide +kernel
theorem d_Lw_law_253 : decode c_Lw_law 253 = .ok (.aload_n 0, 1) := by decide +kernel
theorem d_Lw_law_254 : decode c_Lw_law 254 = .ok (.iload 4, 2) := by decide +kernel
theorem d_Lw_law_256 : decode c_Lw_law 256 = .ok (.iconst 1, 1) := by decide +kernel
theorem d_Lw_law_257 : decode c_Lw_law 257 = .ok (.iadd, 1) := by decide +kernel
theorem d_Lw_law_258 : decode c_Lw_law 258 = .ok (.iaload, 1) := by decide +kernel
theorem d_Lw_law_259 : decode c_Lw_law 259 = .ok (.invokevirtual 47, 3) := by decide +kernel
theorem d_Lw_law_262 : decode c_Lw_law 262 = .ok (.aload_n 2, 1) := by decide +kernel
theorem d_Lw_law_263 : decode c_Lw_law 263 = .ok (.aload_n 0, 1) := by decide +kernel
theorem d_Lw_law_264 : decode c_Lw_law 264 = .ok (.iload 4, 2) := by decide +kernel
theorem d_Lw_law_266 : decode c_Lw_law 266 = .ok (.iconst 1, 1) := by decide +kernel
theorem d_Lw_law_267 : decode c_Lw_law 267 = .ok (.iadd, 1) := by decide +kernel
theorem d_Lw_law_268 : decode c_Lw_law 268 = .ok (.iaload, 1) := by decide +kernel
theorem d_Lw_law_269 : decode c_Lw_law 269 = .ok (.invokevirtual 51, 3) := by decide +kernel
theorem d_Lw_law_272 : decode c_Lw_law 272 = .ok (.if_icmp .eq 275, 3) := by decide +kernel
theorem d_Lw_law_275 : decode c_Lw_law 275 = .ok (.iconst 0, 1) := by decide +kernel
theorem d_Lw_law_276 : decode c_Lw_law 276 = .ok (.ireturn, 1) := by decide +kernel
theorem d_Lw_law_277 : decode c_Lw_law 277 = .ok (.aload_n 1, 1) := by decide +kernel
theorem d_Lw_law_278 : decode c_Lw_law 278 = .ok (.aload_n 0, 1) := by decide +kernel
theorem d_Lw_law_279 : decode c_Lw_law 279 = .ok (.iload 4, 2) := by decide +kernel
theorem d_Lw_law_281 : decode c_Lw_law 281 = .ok (.iconst 1, 1) := by decide +kernel
theorem d_Lw_law_282 : decode c_Lw_law 282 = .ok (.iadd, 1) := by decide +kernel
theorem d_Lw_law_283 : decode c_Lw_law 283 = .ok (.iaload, 1) := by decide +kernel
theorem d_Lw_law_284 : decode c_Lw_law 284 = .ok (.invokevirtual 52, 3) := by decide +kernel
theorem d_Lw_law_287 : decode c_Lw_law 287 = .ok (.aload_n 2, 1) := by decide +kernel
theorem d_Lw_law_288 : decode c_Lw_law 288 = .ok (.aload_n 0, 1) := by decide +kernel
theorem d_Lw_law_289 : decode c_Lw_law 289 = .ok (.iload 4, 2) := by decide +kernel
theorem d_Lw_law_291 : decode c_Lw_law 291 = .ok (.iconst 1, 1) := by decide +kernel
theorem d_Lw_law_292 : decode c_Lw_law 292 = .ok (.iadd, 1) := by decide +kernel
theorem d_Lw_law_293 : decode c_Lw_law 293 = .ok (.iaload, 1) := by decide +kernel
theorem d_Lw_law_294 : decode c_Lw_law 294 = .ok (.invokevirtual 55, 3) := by decide +kernel
theorem d_Lw_law_297 : decode c_Lw_law 297 = .ok (.if_icmp .eq 250, 3) := by decide +kernel
theorem d_Lw_law_300 : decode c_Lw_law 300 = .ok (.iconst 0, 1) := by decide +kernel
theorem d_Lw_law_301 : decode c_Lw_law 301 = .ok (.ireturn, 1) := by decide +kernel
theorem d_Lw_law_302 : decode c_Lw_law 302 = .ok (.aload_n 1, 1) := by decide +kernel
theorem d_Lw_law_303 : decode c_Lw_law 303 = .ok (.invokevirtual 56, 3) := by decide +kernel
theorem d_Lw_law_306 : decode c_Lw_law 306 = .ok (.aload_n 2, 1) := by decide +kernel
theorem d_Lw_law_307 : decode c_Lw_law 307 = .ok (.invokevirtual 59, 3) := by decide +kernel
theorem d_Lw_law_310 : decode c_Lw_law 310 = .ok (.goto 237, 3) := by decide +kernel
theorem d_Lw_law_313 : decode c_Lw_law 313 = .ok (.aload_n 1, 1) := by decide +kernel
theorem d_Lw_law_314 : decode c_Lw_law 314 = .ok (.aload_n 0, 1) := by decide +kernel
theorem d_Lw_law_315 : decode c_Lw_law 315 = .ok (.iload 4, 2) := by decide +kernel
theorem d_Lw_law_317 : decode c_Lw_law 317 = .ok (.iconst 1, 1) := by decide +kernel
theorem d_Lw_law_318 : decode c_Lw_law 318 = .ok (.iadd, 1) := by decide +kernel
theorem d_Lw_law_319 : decode c_Lw_law 319 = .ok (.iaload, 1) := by decide +kernel
theorem d_Lw_law_320 : decode c_Lw_law 320 = .ok (.invokevirtual 60, 3) := by decide +kernel
theorem d_Lw_law_323 : decode c_Lw_law 323 = .ok (.aload_n 2, 1) := by decide +kernel
theorem d_Lw_law_324 : decode c_Lw_law 324 = .ok (.aload_n 0, 1) := by decide +kernel
theorem d_Lw_law_325 : decode c_Lw_law 325 = .ok (.iload 4, 2) := by decide +kernel
theorem d_Lw_law_327 : decode c_Lw_law 327 = .ok (.iconst 1, 1) := by decide +kernel
theorem d_Lw_law_328 : decode c_Lw_law 328 = .ok (.iadd, 1) := by decide +kernel
theorem d_Lw_law_329 : decode c_Lw_law 329 = .ok (.iaload, 1) := by decide +kernel
theorem d_Lw_law_330 : decode c_Lw_law 330 = .ok (.invokevirtual 63, 3) := by decide +kernel
theorem d_Lw_law_333 : decode c_Lw_law 333 = .ok (.if_icmp .eq 214, 3) := by decide +kernel
theorem d_Lw_law_336 : decode c_Lw_law 336 = .ok (.iconst 0, 1) := by decide +kernel
theorem d_Lw_law_337 : decode c_Lw_law 337 = .ok (.ireturn, 1) := by decide +kernel
theorem d_Lw_law_338 : decode c_Lw_law 338 = .ok (.aload_n 1, 1) := by decide +kernel
theorem d_Lw_law_339 : decode c_Lw_law 339 = .ok (.invokevirtual 64, 3) := by decide +kernel
theorem d_Lw_law_342 : decode c_Lw_law 342 = .ok (.aload_n 2, 1) := by decide +kernel
theorem d_Lw_law_343 : decode c_Lw_law 343 = .ok (.invokevirtual 67, 3) := by decide +kernel
theorem d_Lw_law_346 : decode c_Lw_law 346 = .ok (.goto 201, 3) := by decide +kernel
theorem d_Lw_law_349 : decode c_Lw_law 349 = .ok (.aload_n 1, 1) := by decide +kernel
theorem d_Lw_law_350 : decode c_Lw_law 350 = .ok (.invokevirtual 68, 3) := by decide +kernel
theorem d_Lw_law_353 : decode c_Lw_law 353 = .ok (.aload_n 2, 1) := by decide +kernel
theorem d_Lw_law_354 : decode c_Lw_law 354 = .ok (.invokevirtual 71, 3) := by decide +kernel
theorem d_Lw_law_357 : decode c_Lw_law 357 = .ok (.goto 190, 3) := by decide +kernel
theorem d_Lw_law_360 : decode c_Lw_law 360 = .ok (.aload_n 1, 1) := by decide +kernel
theorem d_Lw_law_361 : decode c_Lw_law 361 = .ok (.invokevirtual 72, 3) := by decide +kernel
theorem d_Lw_law_364 : decode c_Lw_law 364 = .ok (.aload_n 2, 1) := by decide +kernel
theorem d_Lw_law_365 : decode c_Lw_law 365 = .ok (.invokevirtual 75, 3) := by decide +kernel
theorem d_Lw_law_368 : decode c_Lw_law 368 = .ok (.goto 179, 3) := by decide +kernel
theorem d_Lw_law_371 : decode c_Lw_law 371 = .ok (.aload_n 1, 1) := by decide +kernel
theorem d_Lw_law_372 : decode c_Lw_law 372 = .ok (.aload_n 3, 1) := by decide +kernel
theorem d_Lw_law_373 : decode c_Lw_law 373 = .ok (.invokestatic 76, 3) := by decide +kernel
theorem d_Lw_law_376 : decode c_Lw_law 376 = .ok (.istore 5, 2) := by decide +kernel
theorem d_Lw_law_378 : decode c_Lw_law 378 = .ok (.aload_n 2, 1) := by decide +kernel
theorem d_Lw_law_379 : decode c_Lw_law 379 = .ok (.invokevirtual 81, 3) := by decide +kernel
theorem d_Lw_law_382 : decode c_Lw_law 382 = .ok (.istore 6, 2) := by decide +kernel
theorem d_Lw_law_384 : decode c_Lw_law 384 = .ok (.aload_n 2, 1) := by decide +kernel
theorem d_Lw_law_385 : decode c_Lw_law 385 = .ok (.invokevirtual 82, 3) := by decide +kernel
theorem d_Lw_law_388 : decode c_Lw_law 388 = .ok (.iload 5, 2) := by decide +kernel
theorem d_Lw_law_390 : decode c_Lw_law 390 = .ok (.if_icmp .eq 5, 3) := by decide +kernel
theorem d_Lw_law_393 : decode c_Lw_law 393 = .ok (.iconst 0, 1) := by decide +kernel
theorem d_Lw_law_394 : decode c_Lw_law 394 = .ok (.ireturn, 1) := by decide +kernel
theorem d_Lw_law_395 : decode c_Lw_law 395 = .ok (.iload 5, 2) := by decide +kernel
theorem d_Lw_law_397 : decode c_Lw_law 397 = .ok (.ifCond .ne 15, 3) := by decide +kernel
theorem d_Lw_law_400 : decode c_Lw_law 400 = .ok (.aload_n 3, 1) := by decide +kernel
theorem d_Lw_law_401 : decode c_Lw_law 401 = .ok (.iconst 0, 1) := by decide +kernel
theorem d_Lw_law_402 : decode c_Lw_law 402 = .ok (.laload, 1) := by decide +kernel
theorem d_Lw_law_403 : decode c_Lw_law 403 = .ok (.iload 6, 2) := by decide +kernel
theorem d_Lw_law_405 : decode c_Lw_law 405 = .ok (.i2l, 1) := by decide +kernel
theorem d_Lw_law_406 : decode c_Lw_law 406 = .ok (.lcmp, 1) := by decide +kernel
theorem d_Lw_law_407 : decode c_Lw_law 407 = .ok (.ifCond .eq 5, 3) := by decide +kernel
theorem d_Lw_law_410 : decode c_Lw_law 410 = .ok (.iconst 0, 1) := by decide +kernel
theorem d_Lw_law_411 : decode c_Lw_law 411 = .ok (.ireturn, 1) := by decide +kernel
theorem d_Lw_law_412 : decode c_Lw_law 412 = .ok (.goto 135, 3) := by decide +kernel
theorem d_Lw_law_415 : decode c_Lw_law 415 = .ok (.aload_n 1, 1) := by decide +kernel
theorem d_Lw_law_416 : decode c_Lw_law 416 = .ok (.aload_n 3, 1) := by decide +kernel
theorem d_Lw_law_417 : decode c_Lw_law 417 = .ok (.invokestatic 85, 3) := by decide +kernel
theorem d_Lw_law_420 : decode c_Lw_law 420 = .ok (.istore 5, 2) := by decide +kernel
theorem d_Lw_law_422 : decode c_Lw_law 422 = .ok (.aload_n 2, 1) := by decide +kernel
theorem d_Lw_law_423 : decode c_Lw_law 423 = .ok (.invokevirtual 87, 3) := by decide +kernel
theorem d_Lw_law_426 : decode c_Lw_law 426 = .ok (.istore 6, 2) := by decide +kernel
theorem d_Lw_law_428 : decode c_Lw_law 428 = .ok (.aload_n 2, 1) := by decide +kernel
theorem d_Lw_law_429 : decode c_Lw_law 429 = .ok (.invokevirtual 82, 3) := by decide +kernel
theorem d_Lw_law_432 : decode c_Lw_law 432 = .ok (.iload 5, 2) := by decide +kernel
theorem d_Lw_law_434 : decode c_Lw_law 434 = .ok (.if_icmp .eq 5, 3) := by decide +kernel
theorem d_Lw_law_437 : decode c_Lw_law 437 = .ok (.iconst 0, 1) := by decide +kernel
theorem d_Lw_law_438 : decode c_Lw_law 438 = .ok (.ireturn, 1) := by decide +kernel
theorem d_Lw_law_439 : decode c_Lw_law 439 = .ok (.iload 5, 2) := by decide +kernel
theorem d_Lw_law_441 : decode c_Lw_law 441 = .ok (.ifCond .ne 15, 3) := by decide +kernel
theorem d_Lw_law_444 : decode c_Lw_law 444 = .ok (.aload_n 3, 1) := by decide +kernel
theorem d_Lw_law_445 : decode c_Lw_law 445 = .ok (.iconst 0, 1) := by decide +kernel
theorem d_Lw_law_446 : decode c_Lw_law 446 = .ok (.laload, 1) := by decide +kernel
theorem d_Lw_law_447 : decode c_Lw_law 447 = .ok (.iload 6, 2) := by decide +kernel
theorem d_Lw_law_449 : decode c_Lw_law 449 = .ok (.i2l, 1) := by decide +kernel
theorem d_Lw_law_450 : decode c_Lw_law 450 = .ok (.lcmp, 1) := by decide +kernel
theorem d_Lw_law_451 : decode c_Lw_law 451 = .ok (.ifCond .eq 5, 3) := by decide +kernel
theorem d_Lw_law_454 : decode c_Lw_law 454 = .ok (.iconst 0, 1) := by decide +kernel
theorem d_Lw_law_455 : decode c_Lw_law 455 = .ok (.ireturn, 1) := by decide +kernel
theorem d_Lw_law_456 : decode c_Lw_law 456 = .ok (.goto 91, 3) := by decide +kernel
theorem d_Lw_law_459 : decode c_Lw_law 459 = .ok (.aload_n 1, 1) := by decide +kernel
theorem d_Lw_law_460 : decode c_Lw_law 460 = .ok (.aload_n 3, 1) := by decide +kernel
theorem d_Lw_law_461 : decode c_Lw_law 461 = .ok (.invokestatic 88, 3) := by decide +kernel
theorem d_Lw_law_464 : decode c_Lw_law 464 = .ok (.istore 5, 2) := by decide +kernel
theorem d_Lw_law_466 : decode c_Lw_law 466 = .ok (.aload_n 2, 1) := by decide +kernel
theorem d_Lw_law_467 : decode c_Lw_law 467 = .ok (.invokevirtual 90, 3) := by decide +kernel
theorem d_Lw_law_470 : decode c_Lw_law 470 = .ok (.istore 6, 2) := by decide +kernel
theorem d_Lw_law_472 : decode c_Lw_law 472 = .ok (.aload_n 2, 1) := by decide +kernel
theorem d_Lw_law_473 : decode c_Lw_law 473 = .ok (.invokevirtual 82, 3) := by decide +kernel
theorem d_Lw_law_476 : decode c_Lw_law 476 = .ok (.iload 5, 2) := by decide +kernel
theorem d_Lw_law_478 : decode c_Lw_law 478 = .ok (.if_icmp .eq 5, 3) := by decide +kernel
theorem d_Lw_law_481 : decode c_Lw_law 481 = .ok (.iconst 0, 1) := by decide +kernel
theorem d_Lw_law_482 : decode c_Lw_law 482 = .ok (.ireturn, 1) := by decide +kernel
theorem d_Lw_law_483 : decode c_Lw_law 483 = .ok (.iload 5, 2) := by decide +kernel
theorem d_Lw_law_485 : decode c_Lw_law 485 = .ok (.ifCond .ne 15, 3) := by decide +kernel
theorem d_Lw_law_488 : decode c_Lw_law 488 = .ok (.aload_n 3, 1) := by decide +kernel
theorem d_Lw_law_489 : decode c_Lw_law 489 = .ok (.iconst 0, 1) := by decide +kernel
theorem d_Lw_law_490 : decode c_Lw_law 490 = .ok (.laload, 1) := by decide +kernel
theorem d_Lw_law_491 : decode c_Lw_law 491 = .ok (.iload 6, 2) := by decide +kernel
theorem d_Lw_law_493 : decode c_Lw_law 493 = .ok (.i2l, 1) := by decide +kernel
theorem d_Lw_law_494 : decode c_Lw_law 494 = .ok (.lcmp, 1) := by decide +kernel
theorem d_Lw_law_495 : decode c_Lw_law 495 = .ok (.ifCond .eq 5, 3) := by decide +kernel
theorem d_Lw_law_498 : decode c_Lw_law 498 = .ok (.iconst 0, 1) := by decide +kernel
theorem d_Lw_law_499 : decode c_Lw_law 499 = .ok (.ireturn, 1) := by decide +kernel
theorem d_Lw_law_500 : decode c_Lw_law 500 = .ok (.goto 47, 3) := by decide +kernel
theorem d_Lw_law_503 : decode c_Lw_law 503 = .ok (.aload_n 1, 1) := by decide +kernel
theorem d_Lw_law_504 : decode c_Lw_law 504 = .ok (.aload_n 3, 1) := by decide +kernel
theorem d_Lw_law_505 : decode c_Lw_law 505 = .ok (.invokestatic 91, 3) := by decide +kernel
theorem d_Lw_law_508 : decode c_Lw_law 508 = .ok (.istore 5, 2) := by decide +kernel
theorem d_Lw_law_510 : decode c_Lw_law 510 = .ok (.aload_n 2, 1) := by decide +kernel
theorem d_Lw_law_511 : decode c_Lw_law 511 = .ok (.invokevirtual 93, 3) := by decide +kernel
theorem d_Lw_law_514 : decode c_Lw_law 514 = .ok (.istore 6, 2) := by decide +kernel
theorem d_Lw_law_516 : decode c_Lw_law 516 = .ok (.aload_n 2, 1) := by decide +kernel
theorem d_Lw_law_517 : decode c_Lw_law 517 = .ok (.invokevirtual 82, 3) := by decide +kernel
theorem d_Lw_law_520 : decode c_Lw_law 520 = .ok (.iload 5, 2) := by decide +kernel
theorem d_Lw_law_522 : decode c_Lw_law 522 = .ok (.if_icmp .eq 5, 3) := by decide +kernel
theorem d_Lw_law_525 : decode c_Lw_law 525 = .ok (.iconst 0, 1) := by decide +kernel
theorem d_Lw_law_526 : decode c_Lw_law 526 = .ok (.ireturn, 1) := by decide +kernel
theorem d_Lw_law_527 : decode c_Lw_law 527 = .ok (.iload 5, 2) := by decide +kernel
theorem d_Lw_law_529 : decode c_Lw_law 529 = .ok (.ifCond .ne 15, 3) := by decide +kernel
theorem d_Lw_law_532 : decode c_Lw_law 532 = .ok (.aload_n 3, 1) := by decide +kernel
theorem d_Lw_law_533 : decode c_Lw_law 533 = .ok (.iconst 0, 1) := by decide +kernel
theorem d_Lw_law_534 : decode c_Lw_law 534 = .ok (.laload, 1) := by decide +kernel
theorem d_Lw_law_535 : decode c_Lw_law 535 = .ok (.iload 6, 2) := by decide +kernel
theorem d_Lw_law_537 : decode c_Lw_law 537 = .ok (.i2l, 1) := by decide +kernel
theorem d_Lw_law_538 : decode c_Lw_law 538 = .ok (.lcmp, 1) := by decide +kernel
theorem d_Lw_law_539 : decode c_Lw_law 539 = .ok (.ifCond .eq 5, 3) := by decide +kernel
theorem d_Lw_law_542 : decode c_Lw_law 542 = .ok (.iconst 0, 1) := by decide +kernel
theorem d_Lw_law_543 : decode c_Lw_law 543 = .ok (.ireturn, 1) := by decide +kernel
theorem d_Lw_law_544 : decode c_Lw_law 544 = .ok (.goto 3, 3) := by decide +kernel
theorem d_Lw_law_547 : decode c_Lw_law 547 = .ok (.iinc 4 5, 3) := by decide +kernel
theorem d_Lw_law_550 : decode c_Lw_law 550 = .ok (.goto (-527), 3) := by decide +kernel
theorem d_Lw_law_553 : decode c_Lw_law 553 = .ok (.iconst 1, 1) := by decide +kernel
theorem d_Lw_law_554 : decode c_Lw_law 554 = .ok (.ireturn, 1) := by decide +kernel
section LAW
variable {p : Program} {l : Launch} {e : Env} {s : State} {m : MethodId} {below : List Frame} {meth : Method} {c : Code} {b L : Nat} {xs : Nat → Int32} {H : Heap} {locs : List Loc} {cells slots : Nat} {Q : State → Prop} {G : wG} {ad : Nat → Nat} {ev : Nat → va_E} {ls : Array Slot} {j : Nat}
set_option maxRecDepth 100000 in
set_option maxHeartbeats 4000000 in
theorem lw_put (hLC : LC p l s m c b L xs) (hj : 5 * j + 5 ≤ L) (h : wT G (A0 s) 52 ad ev s H locs) (hI : INV G ad ev) (hl : lv_has ls 7 (lvL b ad j)) (hf : cells + 1 ≤ 601024 ∧ slots + 6 ≤ 7293034) (kk : LK p l e s m below meth c b G ad j cells slots Q) : W p l e room_1 s m #[Value.ref b] below meth c H locs cells slots Q (F0 m 108 ls []) := by
  obtain ⟨hx, hb, hml, hown, hts, hX, hbl, hL, hTW, hCA, hoff⟩ := hLC
  obtain ⟨Bf, tl, ol, cd, fo, hNB, hMD, h51⟩ := hI
  have hf0 : cells ≤ room_1.cells ∧ slots ≤ room_1.slots := ⟨by show cells ≤ 601024; omega, by show slots ≤ 7293034; omega⟩
  have g0 := hNB.1
  have g37 := hMD.1
  refine lv_aload_n hx hb d_Lw_law_108 rfl (lv_at hl 1 rfl) ?_
  refine lv_aload_n hx hb d_Lw_law_109 rfl (lv_at hl 0 rfl) ?_
  refine lv_iload hx hb d_Lw_law_110 (lv_at hl 4 rfl) ?_
  refine lv_iconst (v := nI (1)) hx hb d_Lw_law_112 (by decide) ?_
  refine lv_iadd hx hb d_Lw_law_113 ?_
  refine wv_top (w := nI ((5 * j) + 1)) (nI_add _ _) ?_
  refine wv_sld hx hb hX hbl h (k := (5 * j) + 1) rfl (by omega) (by omega) d_Lw_law_114 ?_
  refine lv_aload_n hx hb d_Lw_law_115 rfl (lv_at hl 0 rfl) ?_
  refine lv_iload hx hb d_Lw_law_116 (lv_at hl 4 rfl) ?_
  refine lv_iconst (v := nI (2)) hx hb d_Lw_law_118 (by decide) ?_
  refine lv_iadd hx hb d_Lw_law_119 ?_
  refine wv_top (w := nI ((5 * j) + 2)) (nI_add _ _) ?_
  refine wv_sld hx hb hX hbl h (k := (5 * j) + 2) rfl (by omega) (by omega) d_Lw_law_120 ?_
  refine lv_aload_n hx hb d_Lw_law_121 rfl (lv_at hl 0 rfl) ?_
  refine lv_iload hx hb d_Lw_law_122 (lv_at hl 4 rfl) ?_
  refine lv_iconst (v := nI (3)) hx hb d_Lw_law_124 (by decide) ?_
  refine lv_iadd hx hb d_Lw_law_125 ?_
  refine wv_top (w := nI ((5 * j) + 3)) (nI_add _ _) ?_
  refine wv_sld hx hb hX hbl h (k := (5 * j) + 3) rfl (by omega) (by omega) d_Lw_law_126 ?_
  refine lv_i2l hx hb d_Lw_law_127 rfl ?_
  refine lv_bipush (v := nI (32)) hx hb d_Lw_law_128 (by decide) ?_
  refine lv_lshl (v := sal ((xs ((5 * j) + 3)).toInt64) 32) hx hb d_Lw_law_130 rfl ?_
  refine lv_aload_n hx hb d_Lw_law_131 rfl (lv_at hl 0 rfl) ?_
  refine lv_iload hx hb d_Lw_law_132 (lv_at hl 4 rfl) ?_
  refine lv_iconst (v := nI (4)) hx hb d_Lw_law_134 (by decide) ?_
  refine lv_iadd hx hb d_Lw_law_135 ?_
  refine wv_top (w := nI ((5 * j) + 4)) (nI_add _ _) ?_
  refine wv_sld hx hb hX hbl h (k := (5 * j) + 4) rfl (by omega) (by omega) d_Lw_law_136 ?_
  refine lv_i2l hx hb d_Lw_law_137 rfl ?_
  refine lv_ldc2 (v := 4294967295) hx hb hown (hts _ (List.mem_cons_of_mem _ ko_Lw_30)) d_Lw_law_138 ?_
  refine lv_land hx hb d_Lw_law_141 ?_
  refine lv_lor hx hb d_Lw_law_142 ?_
  refine lv_topl (fun u1 eu1 => ?_)
  refine wv_V (As := [.int (xs ((5 * j) + 1)), .int (xs ((5 * j) + 2)), .long (u1)]) (rest := []) (k := 3) ⟨hx, hb, hml, hown, hts⟩ h 0 (by decide) (C := "NonceBox") g0 rfl (m_NB_put l G (A0 s) ad ev (xs ((5 * j) + 1)) (xs ((5 * j) + 2)) (u1) Bf tl ol hNB) kc_NB_put kl_Lw_32 km_NB_put kv_NB_put ki_NB (by decide +kernel) ⟨rfl, rfl, Nat.le_of_ble_eq_true rfl, Nat.le_of_ble_eq_true rfl⟩ hl.1 rfl rfl (Nat.le_of_ble_eq_true rfl) hf0 d_Lw_law_143 ?_
  intro ov ev1 H locs hp h
  obtain ⟨a1, B1, ho, hs1, hN1, hfr1⟩ := hp
  rw [ho]
  have hM1 : MD G ad ev1 Bf tl ol cd := hMD.fr (fun j h1 _ => hfr1 j h1)
  have q51 := (hfr1 51 (by decide)).trans h51
  refine W.eq (g2 := F0 m 146 ls [.int a1]) rfl ?_
  have g371 := hM1.1
  refine lv_aload_n hx hb d_Lw_law_146 rfl (lv_at hl 2 rfl) ?_
  refine lv_aload_n hx hb d_Lw_law_147 rfl (lv_at hl 0 rfl) ?_
  refine lv_iload hx hb d_Lw_law_148 (lv_at hl 4 rfl) ?_
  refine lv_iconst (v := nI (1)) hx hb d_Lw_law_150 (by decide) ?_
  refine lv_iadd hx hb d_Lw_law_151 ?_
  refine wv_top (w := nI ((5 * j) + 1)) (nI_add _ _) ?_
  refine wv_sld hx hb hX hbl h (k := (5 * j) + 1) rfl (by omega) (by omega) d_Lw_law_152 ?_
  refine lv_aload_n hx hb d_Lw_law_153 rfl (lv_at hl 0 rfl) ?_
  refine lv_iload hx hb d_Lw_law_154 (lv_at hl 4 rfl) ?_
  refine lv_iconst (v := nI (2)) hx hb d_Lw_law_156 (by decide) ?_
  refine lv_iadd hx hb d_Lw_law_157 ?_
  refine wv_top (w := nI ((5 * j) + 2)) (nI_add _ _) ?_
  refine wv_sld hx hb hX hbl h (k := (5 * j) + 2) rfl (by omega) (by omega) d_Lw_law_158 ?_
  refine lv_aload_n hx hb d_Lw_law_159 rfl (lv_at hl 0 rfl) ?_
  refine lv_iload hx hb d_Lw_law_160 (lv_at hl 4 rfl) ?_
  refine lv_iconst (v := nI (3)) hx hb d_Lw_law_162 (by decide) ?_
  refine lv_iadd hx hb d_Lw_law_163 ?_
  refine wv_top (w := nI ((5 * j) + 3)) (nI_add _ _) ?_
  refine wv_sld hx hb hX hbl h (k := (5 * j) + 3) rfl (by omega) (by omega) d_Lw_law_164 ?_
  refine lv_i2l hx hb d_Lw_law_165 rfl ?_
  refine lv_bipush (v := nI (32)) hx hb d_Lw_law_166 (by decide) ?_
  refine lv_lshl (v := sal ((xs ((5 * j) + 3)).toInt64) 32) hx hb d_Lw_law_168 rfl ?_
  refine lv_aload_n hx hb d_Lw_law_169 rfl (lv_at hl 0 rfl) ?_
  refine lv_iload hx hb d_Lw_law_170 (lv_at hl 4 rfl) ?_
  refine lv_iconst (v := nI (4)) hx hb d_Lw_law_172 (by decide) ?_
  refine lv_iadd hx hb d_Lw_law_173 ?_
  refine wv_top (w := nI ((5 * j) + 4)) (nI_add _ _) ?_
  refine wv_sld hx hb hX hbl h (k := (5 * j) + 4) rfl (by omega) (by omega) d_Lw_law_174 ?_
  refine lv_i2l hx hb d_Lw_law_175 rfl ?_
  refine lv_ldc2 (v := 4294967295) hx hb hown (hts _ (List.mem_cons_of_mem _ ko_Lw_30)) d_Lw_law_176 ?_
  refine lv_land hx hb d_Lw_law_179 ?_
  refine lv_lor hx hb d_Lw_law_180 ?_
  refine lv_topl (fun u2 eu2 => ?_)
  have ev12 : u2 = u1 := eu2.trans eu1.symm
  rw [ev12]
  refine wv_V (As := [.int (xs ((5 * j) + 1)), .int (xs ((5 * j) + 2)), .long (u1)]) (rest := [.int (a1)]) (k := 3) ⟨hx, hb, hml, hown, hts⟩ h 37 (by decide) (C := "NonceBoxModel") g371 rfl (m_Md_put l G (A0 s) ad _ (xs ((5 * j) + 1)) (xs ((5 * j) + 2)) (u1) Bf tl ol cd hM1) kc_Md_put kl_Lw_36 km_Md_put kv_Md_put ki_Md (by decide +kernel) ⟨rfl, rfl, Nat.le_of_ble_eq_true rfl, Nat.le_of_ble_eq_true rfl⟩ hl.1 rfl rfl (Nat.le_of_ble_eq_true rfl) hf0 d_Lw_law_181 ?_
  intro ov ev2 H locs hp h
  obtain ⟨a2, B2, ho, hs2, hM2, hfr2⟩ := hp
  rw [ho]
  refine W.eq (g2 := F0 m 184 ls [.int a2, .int a1]) rfl ?_
  obtain ⟨rfl, rfl⟩ := spPut_f hs1 hs2
  have hN2 := hN1.fr (fun j hj => hfr2 j (Or.inl hj))
  have r51 := (hfr2 51 (Or.inr (by decide))).trans q51
  refine lv_icmp_eq (tgt := 547) hx hb d_Lw_law_184 (by decide) (fun _ => ?_) (fun hc => absurd rfl hc)
  refine W.widen (k := cells + 1) (n := slots + 6) (by omega) (by omega) ?_
  exact kk _ _ _ _ ⟨_, _, _, _, _, hN2, hM2, r51⟩ h hl
set_option maxRecDepth 100000 in
set_option maxHeartbeats 4000000 in
theorem lw_length (hLC : LC p l s m c b L xs) (hj : 5 * j + 5 ≤ L) (h : wT G (A0 s) 52 ad ev s H locs) (hI : INV G ad ev) (hl : lv_has ls 7 (lvL b ad j)) (hf : cells + 1 ≤ 601024 ∧ slots + 6 ≤ 7293034) (kk : LK p l e s m below meth c b G ad j cells slots Q) : W p l e room_1 s m #[Value.ref b] below meth c H locs cells slots Q (F0 m 189 ls []) := by
  obtain ⟨hx, hb, hml, hown, hts, hX, hbl, hL, hTW, hCA, hoff⟩ := hLC
  obtain ⟨Bf, tl, ol, cd, fo, hNB, hMD, h51⟩ := hI
  have hf0 : cells ≤ room_1.cells ∧ slots ≤ room_1.slots := ⟨by show cells ≤ 601024; omega, by show slots ≤ 7293034; omega⟩
  have g0 := hNB.1
  have g37 := hMD.1
  refine lv_aload_n hx hb d_Lw_law_189 rfl (lv_at hl 1 rfl) ?_
  refine lv_aload_n hx hb d_Lw_law_190 rfl (lv_at hl 0 rfl) ?_
  refine lv_iload hx hb d_Lw_law_191 (lv_at hl 4 rfl) ?_
  refine lv_iconst (v := nI (1)) hx hb d_Lw_law_193 (by decide) ?_
  refine lv_iadd hx hb d_Lw_law_194 ?_
  refine wv_top (w := nI ((5 * j) + 1)) (nI_add _ _) ?_
  refine wv_sld hx hb hX hbl h (k := (5 * j) + 1) rfl (by omega) (by omega) d_Lw_law_195 ?_
  refine wv_V (As := [.int (xs ((5 * j) + 1))]) (rest := []) (k := 1) ⟨hx, hb, hml, hown, hts⟩ h 0 (by decide) (C := "NonceBox") g0 rfl (m_NB_length l G (A0 s) ad ev (xs ((5 * j) + 1)) Bf tl ol hNB) kc_NB_length kl_Lw_37 km_NB_length kv_NB_length ki_NB (by decide +kernel) ⟨rfl, rfl, Nat.le_of_ble_eq_true rfl, Nat.le_of_ble_eq_true rfl⟩ hl.1 rfl rfl (Nat.le_of_ble_eq_true rfl) hf0 d_Lw_law_196 ?_
  intro ov ev1 H locs hp h
  obtain ⟨a1, t1, ho, hs1, hN1, hfr1⟩ := hp
  rw [ho]
  have hM1 : MD G ad ev1 Bf tl ol cd := hMD.fr (fun j h1 _ => hfr1 j h1)
  have q51 := (hfr1 51 (by decide)).trans h51
  refine W.eq (g2 := F0 m 199 ls [.int a1]) rfl ?_
  have g371 := hM1.1
  refine lv_aload_n hx hb d_Lw_law_199 rfl (lv_at hl 2 rfl) ?_
  refine lv_aload_n hx hb d_Lw_law_200 rfl (lv_at hl 0 rfl) ?_
  refine lv_iload hx hb d_Lw_law_201 (lv_at hl 4 rfl) ?_
  refine lv_iconst (v := nI (1)) hx hb d_Lw_law_203 (by decide) ?_
  refine lv_iadd hx hb d_Lw_law_204 ?_
  refine wv_top (w := nI ((5 * j) + 1)) (nI_add _ _) ?_
  refine wv_sld hx hb hX hbl h (k := (5 * j) + 1) rfl (by omega) (by omega) d_Lw_law_205 ?_
  refine wv_V (As := [.int (xs ((5 * j) + 1))]) (rest := [.int (a1)]) (k := 1) ⟨hx, hb, hml, hown, hts⟩ h 37 (by decide) (C := "NonceBoxModel") g371 rfl (m_Md_length l G (A0 s) ad _ (xs ((5 * j) + 1)) Bf tl ol cd hM1) kc_Md_length kl_Lw_41 km_Md_length kv_Md_length ki_Md (by decide +kernel) ⟨rfl, rfl, Nat.le_of_ble_eq_true rfl, Nat.le_of_ble_eq_true rfl⟩ hl.1 rfl rfl (Nat.le_of_ble_eq_true rfl) hf0 d_Lw_law_206 ?_
  intro ov ev2 H locs hp h
  obtain ⟨a2, t2, ho, hs2, hM2, hfr2⟩ := hp
  rw [ho]
  refine W.eq (g2 := F0 m 209 ls [.int a2, .int a1]) rfl ?_
  obtain ⟨rfl, rfl⟩ := spLen_f hs1 hs2
  have hN2 := hN1.fr (fun j hj => hfr2 j (Or.inl hj))
  have r51 := (hfr2 51 (Or.inr (by decide))).trans q51
  refine lv_icmp_eq (tgt := 547) hx hb d_Lw_law_209 (by decide) (fun _ => ?_) (fun hc => absurd rfl hc)
  refine W.widen (k := cells + 1) (n := slots + 6) (by omega) (by omega) ?_
  exact kk _ _ _ _ ⟨_, _, _, _, _, hN2, hM2, r51⟩ h hl
set_option maxRecDepth 100000 in
set_option maxHeartbeats 4000000 in
theorem lw_word (hLC : LC p l s m c b L xs) (hj : 5 * j + 5 ≤ L) (h : wT G (A0 s) 52 ad ev s H locs) (hI : INV G ad ev) (hl : lv_has ls 7 (lvL b ad j)) (hf : cells + 1 ≤ 601024 ∧ slots + 6 ≤ 7293034) (kk : LK p l e s m below meth c b G ad j cells slots Q) : W p l e room_1 s m #[Value.ref b] below meth c H locs cells slots Q (F0 m 214 ls []) := by
  obtain ⟨hx, hb, hml, hown, hts, hX, hbl, hL, hTW, hCA, hoff⟩ := hLC
  obtain ⟨Bf, tl, ol, cd, fo, hNB, hMD, h51⟩ := hI
  have hf0 : cells ≤ room_1.cells ∧ slots ≤ room_1.slots := ⟨by show cells ≤ 601024; omega, by show slots ≤ 7293034; omega⟩
  have g0 := hNB.1
  have g37 := hMD.1
  refine lv_aload_n hx hb d_Lw_law_214 rfl (lv_at hl 1 rfl) ?_
  refine lv_aload_n hx hb d_Lw_law_215 rfl (lv_at hl 0 rfl) ?_
  refine lv_iload hx hb d_Lw_law_216 (lv_at hl 4 rfl) ?_
  refine lv_iconst (v := nI (1)) hx hb d_Lw_law_218 (by decide) ?_
  refine lv_iadd hx hb d_Lw_law_219 ?_
  refine wv_top (w := nI ((5 * j) + 1)) (nI_add _ _) ?_
  refine wv_sld hx hb hX hbl h (k := (5 * j) + 1) rfl (by omega) (by omega) d_Lw_law_220 ?_
  refine lv_aload_n hx hb d_Lw_law_221 rfl (lv_at hl 0 rfl) ?_
  refine lv_iload hx hb d_Lw_law_222 (lv_at hl 4 rfl) ?_
  refine lv_iconst (v := nI (2)) hx hb d_Lw_law_224 (by decide) ?_
  refine lv_iadd hx hb d_Lw_law_225 ?_
  refine wv_top (w := nI ((5 * j) + 2)) (nI_add _ _) ?_
  refine wv_sld hx hb hX hbl h (k := (5 * j) + 2) rfl (by omega) (by omega) d_Lw_law_226 ?_
  refine wv_V (As := [.int (xs ((5 * j) + 1)), .int (xs ((5 * j) + 2))]) (rest := []) (k := 2) ⟨hx, hb, hml, hown, hts⟩ h 0 (by decide) (C := "NonceBox") g0 rfl (m_NB_word l G (A0 s) ad ev (xs ((5 * j) + 1)) (xs ((5 * j) + 2)) Bf tl ol hNB) kc_NB_word kl_Lw_42 km_NB_word kv_NB_word ki_NB (by decide +kernel) ⟨rfl, rfl, Nat.le_of_ble_eq_true rfl, Nat.le_of_ble_eq_true rfl⟩ hl.1 rfl rfl (Nat.le_of_ble_eq_true rfl) hf0 d_Lw_law_227 ?_
  intro ov ev1 H locs hp h
  obtain ⟨a1, ho, hs1, hq1⟩ := hp
  rw [hq1] at h
  rw [ho]
  have hM1 := hMD
  have hN1 := hNB
  have q51 := h51
  refine W.eq (g2 := F0 m 230 ls [.long a1]) rfl ?_
  have g371 := hM1.1
  refine lv_aload_n hx hb d_Lw_law_230 rfl (lv_at hl 2 rfl) ?_
  refine lv_aload_n hx hb d_Lw_law_231 rfl (lv_at hl 0 rfl) ?_
  refine lv_iload hx hb d_Lw_law_232 (lv_at hl 4 rfl) ?_
  refine lv_iconst (v := nI (1)) hx hb d_Lw_law_234 (by decide) ?_
  refine lv_iadd hx hb d_Lw_law_235 ?_
  refine wv_top (w := nI ((5 * j) + 1)) (nI_add _ _) ?_
  refine wv_sld hx hb hX hbl h (k := (5 * j) + 1) rfl (by omega) (by omega) d_Lw_law_236 ?_
  refine lv_aload_n hx hb d_Lw_law_237 rfl (lv_at hl 0 rfl) ?_
  refine lv_iload hx hb d_Lw_law_238 (lv_at hl 4 rfl) ?_
  refine lv_iconst (v := nI (2)) hx hb d_Lw_law_240 (by decide) ?_
  refine lv_iadd hx hb d_Lw_law_241 ?_
  refine wv_top (w := nI ((5 * j) + 2)) (nI_add _ _) ?_
  refine wv_sld hx hb hX hbl h (k := (5 * j) + 2) rfl (by omega) (by omega) d_Lw_law_242 ?_
  refine wv_V (As := [.int (xs ((5 * j) + 1)), .int (xs ((5 * j) + 2))]) (rest := [.long (a1)]) (k := 2) ⟨hx, hb, hml, hown, hts⟩ h 37 (by decide) (C := "NonceBoxModel") g371 rfl (m_Md_word l G (A0 s) ad _ (xs ((5 * j) + 1)) (xs ((5 * j) + 2)) Bf tl ol cd hM1) kc_Md_word kl_Lw_46 km_Md_word kv_Md_word ki_Md (by decide +kernel) ⟨rfl, rfl, Nat.le_of_ble_eq_true rfl, Nat.le_of_ble_eq_true rfl⟩ hl.1 rfl rfl (Nat.le_of_ble_eq_true rfl) hf0 d_Lw_law_243 ?_
  intro ov ev2 H locs hp h
  obtain ⟨a2, ho, hs2, hM2, hfr2⟩ := hp
  rw [ho]
  refine W.eq (g2 := F0 m 246 ls [.long a2, .long a1]) rfl ?_
  obtain rfl := spWord_f hs1 hs2
  have hN2 := hN1.fr (fun j hj => hfr2 j (Or.inl hj))
  have r51 := (hfr2 51 (Or.inr (by decide))).trans q51
  refine W.lcmp hx hb d_Lw_law_246 ?_
  refine wv_top (w := 0) (by simp [lg_cmp]) ?_
  refine lv_if_eq (tgt := 547) hx hb d_Lw_law_247 (by decide) (fun _ => ?_) (fun hc => absurd rfl hc)
  refine W.widen (k := cells + 1) (n := slots + 6) (by omega) (by omega) ?_
  exact kk _ _ _ _ ⟨_, _, _, _, _, hN2, hM2, r51⟩ h hl
set_option maxRecDepth 100000 in
set_option maxHeartbeats 4000000 in
theorem lw_size (hLC : LC p l s m c b L xs) (hj : 5 * j + 5 ≤ L) (h : wT G (A0 s) 52 ad ev s H locs) (hI : INV G ad ev) (hl : lv_has ls 7 (lvL b ad j)) (hf : cells + 1 ≤ 601024 ∧ slots + 6 ≤ 7293034) (kk : LK p l e s m below meth c b G ad j cells slots Q) : W p l e room_1 s m #[Value.ref b] below meth c H locs cells slots Q (F0 m 252 ls []) := by
  obtain ⟨hx, hb, hml, hown, hts, hX, hbl, hL, hTW, hCA, hoff⟩ := hLC
  obtain ⟨Bf, tl, ol, cd, fo, hNB, hMD, h51⟩ := hI
  have hf0 : cells ≤ room_1.cells ∧ slots ≤ room_1.slots := ⟨by show cells ≤ 601024; omega, by show slots ≤ 7293034; omega⟩
  have g0 := hNB.1
  have g37 := hMD.1
  refine lv_aload_n hx hb d_Lw_law_252 rfl (lv_at hl 1 rfl) ?_
  refine lv_aload_n hx hb d_Lw_law_253 rfl (lv_at hl 0 rfl) ?_
  refine lv_iload hx hb d_Lw_law_254 (lv_at hl 4 rfl) ?_
  refine lv_iconst (v := nI (1)) hx hb d_Lw_law_256 (by decide) ?_
  refine lv_iadd hx hb d_Lw_law_257 ?_
  refine wv_top (w := nI ((5 * j) + 1)) (nI_add _ _) ?_
  refine wv_sld hx hb hX hbl h (k := (5 * j) + 1) rfl (by omega) (by omega) d_Lw_law_258 ?_
  refine wv_V (As := [.int (xs ((5 * j) + 1))]) (rest := []) (k := 1) ⟨hx, hb, hml, hown, hts⟩ h 0 (by decide) (C := "NonceBox") g0 rfl (m_NB_size l G (A0 s) ad ev (xs ((5 * j) + 1)) Bf tl ol hNB) kc_NB_size kl_Lw_47 km_NB_size kv_NB_size ki_NB (by decide +kernel) ⟨rfl, rfl, Nat.le_of_ble_eq_true rfl, Nat.le_of_ble_eq_true rfl⟩ hl.1 rfl rfl (Nat.le_of_ble_eq_true rfl) hf0 d_Lw_law_259 ?_
  intro ov ev1 H locs hp h
  obtain ⟨a1, ho, hs1, hq1⟩ := hp
  rw [hq1] at h
  rw [ho]
  have hM1 := hMD
  have hN1 := hNB
  have q51 := h51
  refine W.eq (g2 := F0 m 262 ls [.int a1]) rfl ?_
  have g371 := hM1.1
  refine lv_aload_n hx hb d_Lw_law_262 rfl (lv_at hl 2 rfl) ?_
  refine lv_aload_n hx hb d_Lw_law_263 rfl (lv_at hl 0 rfl) ?_
  refine lv_iload hx hb d_Lw_law_264 (lv_at hl 4 rfl) ?_
  refine lv_iconst (v := nI (1)) hx hb d_Lw_law_266 (by decide) ?_
  refine lv_iadd hx hb d_Lw_law_267 ?_
  refine wv_top (w := nI ((5 * j) + 1)) (nI_add _ _) ?_
  refine wv_sld hx hb hX hbl h (k := (5 * j) + 1) rfl (by omega) (by omega) d_Lw_law_268 ?_
  refine wv_V (As := [.int (xs ((5 * j) + 1))]) (rest := [.int (a1)]) (k := 1) ⟨hx, hb, hml, hown, hts⟩ h 37 (by decide) (C := "NonceBoxModel") g371 rfl (m_Md_size l G (A0 s) ad _ (xs ((5 * j) + 1)) Bf tl ol cd hM1) kc_Md_size kl_Lw_51 km_Md_size kv_Md_size ki_Md (by decide +kernel) ⟨rfl, rfl, Nat.le_of_ble_eq_true rfl, Nat.le_of_ble_eq_true rfl⟩ hl.1 rfl rfl (Nat.le_of_ble_eq_true rfl) hf0 d_Lw_law_269 ?_
  intro ov ev2 H locs hp h
  obtain ⟨a2, ho, hs2, hM2, hfr2⟩ := hp
  rw [ho]
  refine W.eq (g2 := F0 m 272 ls [.int a2, .int a1]) rfl ?_
  obtain rfl := spSize_f hs1 hs2
  have hN2 := hN1.fr (fun j hj => hfr2 j (Or.inl hj))
  have r51 := (hfr2 51 (Or.inr (by decide))).trans q51
  refine lv_icmp_eq (tgt := 547) hx hb d_Lw_law_272 (by decide) (fun _ => ?_) (fun hc => absurd rfl hc)
  refine W.widen (k := cells + 1) (n := slots + 6) (by omega) (by omega) ?_
  exact kk _ _ _ _ ⟨_, _, _, _, _, hN2, hM2, r51⟩ h hl
set_option maxRecDepth 100000 in
set_option maxHeartbeats 4000000 in
theorem lw_move (hLC : LC p l s m c b L xs) (hj : 5 * j + 5 ≤ L) (h : wT G (A0 s) 52 ad ev s H locs) (hI : INV G ad ev) (hl : lv_has ls 7 (lvL b ad j)) (hf : cells + 1 ≤ 601024 ∧ slots + 6 ≤ 7293034) (kk : LK p l e s m below meth c b G ad j cells slots Q) : W p l e room_1 s m #[Value.ref b] below meth c H locs cells slots Q (F0 m 277 ls []) := by
  obtain ⟨hx, hb, hml, hown, hts, hX, hbl, hL, hTW, hCA, hoff⟩ := hLC
  obtain ⟨Bf, tl, ol, cd, fo, hNB, hMD, h51⟩ := hI
  have hf0 : cells ≤ room_1.cells ∧ slots ≤ room_1.slots := ⟨by show cells ≤ 601024; omega, by show slots ≤ 7293034; omega⟩
  have g0 := hNB.1
  have g37 := hMD.1
  refine lv_aload_n hx hb d_Lw_law_277 rfl (lv_at hl 1 rfl) ?_
  refine lv_aload_n hx hb d_Lw_law_278 rfl (lv_at hl 0 rfl) ?_
  refine lv_iload hx hb d_Lw_law_279 (lv_at hl 4 rfl) ?_
  refine lv_iconst (v := nI (1)) hx hb d_Lw_law_281 (by decide) ?_
  refine lv_iadd hx hb d_Lw_law_282 ?_
  refine wv_top (w := nI ((5 * j) + 1)) (nI_add _ _) ?_
  refine wv_sld hx hb hX hbl h (k := (5 * j) + 1) rfl (by omega) (by omega) d_Lw_law_283 ?_
  refine wv_V (As := [.int (xs ((5 * j) + 1))]) (rest := []) (k := 1) ⟨hx, hb, hml, hown, hts⟩ h 0 (by decide) (C := "NonceBox") g0 rfl (m_NB_move l G (A0 s) ad ev (xs ((5 * j) + 1)) Bf tl ol hNB) kc_NB_move kl_Lw_52 km_NB_move kv_NB_move ki_NB (by decide +kernel) ⟨rfl, rfl, Nat.le_of_ble_eq_true rfl, Nat.le_of_ble_eq_true rfl⟩ hl.1 rfl rfl (Nat.le_of_ble_eq_true rfl) hf0 d_Lw_law_284 ?_
  intro ov ev1 H locs hp h
  obtain ⟨a1, B1, t1, ho, hs1, hN1, hfr1⟩ := hp
  rw [ho]
  have hM1 : MD G ad ev1 Bf tl ol cd := hMD.fr (fun j h1 _ => hfr1 j h1)
  have q51 := (hfr1 51 (by decide)).trans h51
  refine W.eq (g2 := F0 m 287 ls [.int a1]) rfl ?_
  have g371 := hM1.1
  refine lv_aload_n hx hb d_Lw_law_287 rfl (lv_at hl 2 rfl) ?_
  refine lv_aload_n hx hb d_Lw_law_288 rfl (lv_at hl 0 rfl) ?_
  refine lv_iload hx hb d_Lw_law_289 (lv_at hl 4 rfl) ?_
  refine lv_iconst (v := nI (1)) hx hb d_Lw_law_291 (by decide) ?_
  refine lv_iadd hx hb d_Lw_law_292 ?_
  refine wv_top (w := nI ((5 * j) + 1)) (nI_add _ _) ?_
  refine wv_sld hx hb hX hbl h (k := (5 * j) + 1) rfl (by omega) (by omega) d_Lw_law_293 ?_
  refine wv_V (As := [.int (xs ((5 * j) + 1))]) (rest := [.int (a1)]) (k := 1) ⟨hx, hb, hml, hown, hts⟩ h 37 (by decide) (C := "NonceBoxModel") g371 rfl (m_Md_move l G (A0 s) ad _ (xs ((5 * j) + 1)) Bf tl ol cd hM1) kc_Md_move kl_Lw_55 km_Md_move kv_Md_move ki_Md (by decide +kernel) ⟨rfl, rfl, Nat.le_of_ble_eq_true rfl, Nat.le_of_ble_eq_true rfl⟩ hl.1 rfl rfl (Nat.le_of_ble_eq_true rfl) hf0 d_Lw_law_294 ?_
  intro ov ev2 H locs hp h
  obtain ⟨a2, B2, t2, ho, hs2, hM2, hfr2⟩ := hp
  rw [ho]
  refine W.eq (g2 := F0 m 297 ls [.int a2, .int a1]) rfl ?_
  obtain ⟨rfl, rfl, rfl⟩ := spMove_f hs1 hs2
  have hN2 := hN1.fr (fun j hj => hfr2 j (Or.inl hj))
  have r51 := (hfr2 51 (Or.inr (by decide))).trans q51
  refine lv_icmp_eq (tgt := 547) hx hb d_Lw_law_297 (by decide) (fun _ => ?_) (fun hc => absurd rfl hc)
  refine W.widen (k := cells + 1) (n := slots + 6) (by omega) (by omega) ?_
  exact kk _ _ _ _ ⟨_, _, _, _, _, hN2, hM2, r51⟩ h hl
set_option maxRecDepth 100000 in
set_option maxHeartbeats 4000000 in
theorem lw_stream (hLC : LC p l s m c b L xs) (hj : 5 * j + 5 ≤ L) (h : wT G (A0 s) 52 ad ev s H locs) (hI : INV G ad ev) (hl : lv_has ls 7 (lvL b ad j)) (hf : cells + 1 ≤ 601024 ∧ slots + 6 ≤ 7293034) (kk : LK p l e s m below meth c b G ad j cells slots Q) : W p l e room_1 s m #[Value.ref b] below meth c H locs cells slots Q (F0 m 313 ls []) := by
  obtain ⟨hx, hb, hml, hown, hts, hX, hbl, hL, hTW, hCA, hoff⟩ := hLC
  obtain ⟨Bf, tl, ol, cd, fo, hNB, hMD, h51⟩ := hI
  have hf0 : cells ≤ room_1.cells ∧ slots ≤ room_1.slots := ⟨by show cells ≤ 601024; omega, by show slots ≤ 7293034; omega⟩
  have g0 := hNB.1
  have g37 := hMD.1
  refine lv_aload_n hx hb d_Lw_law_313 rfl (lv_at hl 1 rfl) ?_
  refine lv_aload_n hx hb d_Lw_law_314 rfl (lv_at hl 0 rfl) ?_
  refine lv_iload hx hb d_Lw_law_315 (lv_at hl 4 rfl) ?_
  refine lv_iconst (v := nI (1)) hx hb d_Lw_law_317 (by decide) ?_
  refine lv_iadd hx hb d_Lw_law_318 ?_
  refine wv_top (w := nI ((5 * j) + 1)) (nI_add _ _) ?_
  refine wv_sld hx hb hX hbl h (k := (5 * j) + 1) rfl (by omega) (by omega) d_Lw_law_319 ?_
  refine wv_V (As := [.int (xs ((5 * j) + 1))]) (rest := []) (k := 1) ⟨hx, hb, hml, hown, hts⟩ h 0 (by decide) (C := "NonceBox") g0 rfl (m_NB_stream l G (A0 s) ad ev (xs ((5 * j) + 1)) Bf tl ol hNB) kc_NB_stream kl_Lw_60 km_NB_stream kv_NB_stream ki_NB (by decide +kernel) ⟨rfl, rfl, Nat.le_of_ble_eq_true rfl, Nat.le_of_ble_eq_true rfl⟩ hl.1 rfl rfl (Nat.le_of_ble_eq_true rfl) hf0 d_Lw_law_320 ?_
  intro ov ev1 H locs hp h
  obtain ⟨a1, B1, o1, ho, hs1, hN1, hfr1⟩ := hp
  rw [ho]
  have hM1 : MD G ad ev1 Bf tl ol cd := hMD.fr (fun j h1 _ => hfr1 j h1)
  have q51 := (hfr1 51 (by decide)).trans h51
  refine W.eq (g2 := F0 m 323 ls [.int a1]) rfl ?_
  have g371 := hM1.1
  refine lv_aload_n hx hb d_Lw_law_323 rfl (lv_at hl 2 rfl) ?_
  refine lv_aload_n hx hb d_Lw_law_324 rfl (lv_at hl 0 rfl) ?_
  refine lv_iload hx hb d_Lw_law_325 (lv_at hl 4 rfl) ?_
  refine lv_iconst (v := nI (1)) hx hb d_Lw_law_327 (by decide) ?_
  refine lv_iadd hx hb d_Lw_law_328 ?_
  refine wv_top (w := nI ((5 * j) + 1)) (nI_add _ _) ?_
  refine wv_sld hx hb hX hbl h (k := (5 * j) + 1) rfl (by omega) (by omega) d_Lw_law_329 ?_
  refine wv_V (As := [.int (xs ((5 * j) + 1))]) (rest := [.int (a1)]) (k := 1) ⟨hx, hb, hml, hown, hts⟩ h 37 (by decide) (C := "NonceBoxModel") g371 rfl (m_Md_stream l G (A0 s) ad _ (xs ((5 * j) + 1)) Bf tl ol cd hM1) kc_Md_stream kl_Lw_63 km_Md_stream kv_Md_stream ki_Md (by decide +kernel) ⟨rfl, rfl, Nat.le_of_ble_eq_true rfl, Nat.le_of_ble_eq_true rfl⟩ hl.1 rfl rfl (Nat.le_of_ble_eq_true rfl) hf0 d_Lw_law_330 ?_
  intro ov ev2 H locs hp h
  obtain ⟨a2, B2, o2, ho, hs2, hM2, hfr2⟩ := hp
  rw [ho]
  refine W.eq (g2 := F0 m 333 ls [.int a2, .int a1]) rfl ?_
  obtain ⟨rfl, rfl, rfl⟩ := spStr_f hs1 hs2
  have hN2 := hN1.fr (fun j hj => hfr2 j (Or.inl hj))
  have r51 := (hfr2 51 (Or.inr (by decide))).trans q51
  refine lv_icmp_eq (tgt := 547) hx hb d_Lw_law_333 (by decide) (fun _ => ?_) (fun hc => absurd rfl hc)
  refine W.widen (k := cells + 1) (n := slots + 6) (by omega) (by omega) ?_
  exact kk _ _ _ _ ⟨_, _, _, _, _, hN2, hM2, r51⟩ h hl
set_option maxRecDepth 100000 in
set_option maxHeartbeats 4000000 in
theorem lw_mix (hLC : LC p l s m c b L xs) (hj : 5 * j + 5 ≤ L) (h : wT G (A0 s) 52 ad ev s H locs) (hI : INV G ad ev) (hl : lv_has ls 7 (lvL b ad j)) (hf : cells + 1 ≤ 601024 ∧ slots + 6 ≤ 7293034) (kk : LK p l e s m below meth c b G ad j cells slots Q) : W p l e room_1 s m #[Value.ref b] below meth c H locs cells slots Q (F0 m 302 ls []) := by
  obtain ⟨hx, hb, hml, hown, hts, hX, hbl, hL, hTW, hCA, hoff⟩ := hLC
  obtain ⟨Bf, tl, ol, cd, fo, hNB, hMD, h51⟩ := hI
  have hf0 : cells ≤ room_1.cells ∧ slots ≤ room_1.slots := ⟨by show cells ≤ 601024; omega, by show slots ≤ 7293034; omega⟩
  have g0 := hNB.1
  have g37 := hMD.1
  refine lv_aload_n hx hb d_Lw_law_302 rfl (lv_at hl 1 rfl) ?_
  refine wv_V (As := []) (rest := []) (k := 0) ⟨hx, hb, hml, hown, hts⟩ h 0 (by decide) (C := "NonceBox") g0 rfl (m_NB_mix l G (A0 s) ad ev Bf tl ol hNB) kc_NB_mix kl_Lw_56 km_NB_mix kv_NB_mix ki_NB (by decide +kernel) ⟨rfl, rfl, Nat.le_of_ble_eq_true rfl, Nat.le_of_ble_eq_true rfl⟩ hl.1 rfl rfl (Nat.le_of_ble_eq_true rfl) hf0 d_Lw_law_303 ?_
  intro ov ev1 H locs hp h
  obtain ⟨ho, hN1, hfr1⟩ := hp
  rw [ho]
  refine W.eq (g2 := F0 m 306 ls []) rfl ?_
  have hM1 : MD G ad ev1 Bf tl ol cd := hMD.fr (fun j h1 _ => hfr1 j h1)
  have q51 := (hfr1 51 (by decide)).trans h51
  have g371 := hM1.1
  refine lv_aload_n hx hb d_Lw_law_306 rfl (lv_at hl 2 rfl) ?_
  refine wv_V (As := []) (rest := []) (k := 0) ⟨hx, hb, hml, hown, hts⟩ h 37 (by decide) (C := "NonceBoxModel") g371 rfl (m_Md_mix l G (A0 s) ad ev1 Bf tl ol cd hM1) kc_Md_mix kl_Lw_59 km_Md_mix kv_Md_mix ki_Md (by decide +kernel) ⟨rfl, rfl, Nat.le_of_ble_eq_true rfl, Nat.le_of_ble_eq_true rfl⟩ hl.1 rfl rfl (Nat.le_of_ble_eq_true rfl) hf0 d_Lw_law_307 ?_
  intro ov ev2 H locs hp h
  obtain ⟨ho, hM2, hfr2⟩ := hp
  rw [ho]
  refine W.eq (g2 := F0 m 310 ls []) rfl ?_
  have hN2 := hN1.fr (fun j hj => hfr2 j (Or.inl hj))
  have r51 := (hfr2 51 (Or.inr (by decide))).trans q51
  refine lv_goto (tgt := 547) hx hb d_Lw_law_310 (by decide) ?_
  refine W.widen (k := cells + 1) (n := slots + 6) (by omega) (by omega) ?_
  exact kk _ _ _ _ ⟨_, _, _, _, _, hN2, hM2, r51⟩ h hl
set_option maxRecDepth 100000 in
set_option maxHeartbeats 4000000 in
theorem lw_tag (hLC : LC p l s m c b L xs) (hj : 5 * j + 5 ≤ L) (h : wT G (A0 s) 52 ad ev s H locs) (hI : INV G ad ev) (hl : lv_has ls 7 (lvL b ad j)) (hf : cells + 1 ≤ 601024 ∧ slots + 6 ≤ 7293034) (kk : LK p l e s m below meth c b G ad j cells slots Q) : W p l e room_1 s m #[Value.ref b] below meth c H locs cells slots Q (F0 m 338 ls []) := by
  obtain ⟨hx, hb, hml, hown, hts, hX, hbl, hL, hTW, hCA, hoff⟩ := hLC
  obtain ⟨Bf, tl, ol, cd, fo, hNB, hMD, h51⟩ := hI
  have hf0 : cells ≤ room_1.cells ∧ slots ≤ room_1.slots := ⟨by show cells ≤ 601024; omega, by show slots ≤ 7293034; omega⟩
  have g0 := hNB.1
  have g37 := hMD.1
  refine lv_aload_n hx hb d_Lw_law_338 rfl (lv_at hl 1 rfl) ?_
  refine wv_V (As := []) (rest := []) (k := 0) ⟨hx, hb, hml, hown, hts⟩ h 0 (by decide) (C := "NonceBox") g0 rfl (m_NB_tag l G (A0 s) ad ev Bf tl ol hNB) kc_NB_tag kl_Lw_64 km_NB_tag kv_NB_tag ki_NB (by decide +kernel) ⟨rfl, rfl, Nat.le_of_ble_eq_true rfl, Nat.le_of_ble_eq_true rfl⟩ hl.1 rfl rfl (Nat.le_of_ble_eq_true rfl) hf0 d_Lw_law_339 ?_
  intro ov ev1 H locs hp h
  obtain ⟨ho, hN1, hfr1⟩ := hp
  rw [ho]
  refine W.eq (g2 := F0 m 342 ls []) rfl ?_
  have hM1 : MD G ad ev1 Bf tl ol cd := hMD.fr (fun j h1 _ => hfr1 j h1)
  have q51 := (hfr1 51 (by decide)).trans h51
  have g371 := hM1.1
  refine lv_aload_n hx hb d_Lw_law_342 rfl (lv_at hl 2 rfl) ?_
  refine wv_V (As := []) (rest := []) (k := 0) ⟨hx, hb, hml, hown, hts⟩ h 37 (by decide) (C := "NonceBoxModel") g371 rfl (m_Md_tag l G (A0 s) ad ev1 Bf tl ol cd hM1) kc_Md_tag kl_Lw_67 km_Md_tag kv_Md_tag ki_Md (by decide +kernel) ⟨rfl, rfl, Nat.le_of_ble_eq_true rfl, Nat.le_of_ble_eq_true rfl⟩ hl.1 rfl rfl (Nat.le_of_ble_eq_true rfl) hf0 d_Lw_law_343 ?_
  intro ov ev2 H locs hp h
  obtain ⟨ho, hM2, hfr2⟩ := hp
  rw [ho]
  refine W.eq (g2 := F0 m 346 ls []) rfl ?_
  have hN2 := hN1.fr (fun j hj => hfr2 j (Or.inl hj))
  have r51 := (hfr2 51 (Or.inr (by decide))).trans q51
  refine lv_goto (tgt := 547) hx hb d_Lw_law_346 (by decide) ?_
  refine W.widen (k := cells + 1) (n := slots + 6) (by omega) (by omega) ?_
  exact kk _ _ _ _ ⟨_, _, _, _, _, hN2, hM2, r51⟩ h hl
set_option maxRecDepth 100000 in
set_option maxHeartbeats 4000000 in
theorem lw_multiply (hLC : LC p l s m c b L xs) (hj : 5 * j + 5 ≤ L) (h : wT G (A0 s) 52 ad ev s H locs) (hI : INV G ad ev) (hl : lv_has ls 7 (lvL b ad j)) (hf : cells + 1 ≤ 601024 ∧ slots + 6 ≤ 7293034) (kk : LK p l e s m below meth c b G ad j cells slots Q) : W p l e room_1 s m #[Value.ref b] below meth c H locs cells slots Q (F0 m 349 ls []) := by
  obtain ⟨hx, hb, hml, hown, hts, hX, hbl, hL, hTW, hCA, hoff⟩ := hLC
  obtain ⟨Bf, tl, ol, cd, fo, hNB, hMD, h51⟩ := hI
  have hf0 : cells ≤ room_1.cells ∧ slots ≤ room_1.slots := ⟨by show cells ≤ 601024; omega, by show slots ≤ 7293034; omega⟩
  have g0 := hNB.1
  have g37 := hMD.1
  refine lv_aload_n hx hb d_Lw_law_349 rfl (lv_at hl 1 rfl) ?_
  refine wv_V (As := []) (rest := []) (k := 0) ⟨hx, hb, hml, hown, hts⟩ h 0 (by decide) (C := "NonceBox") g0 rfl (m_NB_multiply l G (A0 s) ad ev Bf tl ol hNB) kc_NB_multiply kl_Lw_68 km_NB_multiply kv_NB_multiply ki_NB (by decide +kernel) ⟨rfl, rfl, Nat.le_of_ble_eq_true rfl, Nat.le_of_ble_eq_true rfl⟩ hl.1 rfl rfl (Nat.le_of_ble_eq_true rfl) hf0 d_Lw_law_350 ?_
  intro ov ev1 H locs hp h
  obtain ⟨ho, hN1, hfr1⟩ := hp
  rw [ho]
  refine W.eq (g2 := F0 m 353 ls []) rfl ?_
  have hM1 : MD G ad ev1 Bf tl ol cd := hMD.fr (fun j h1 _ => hfr1 j h1)
  have q51 := (hfr1 51 (by decide)).trans h51
  have g371 := hM1.1
  refine lv_aload_n hx hb d_Lw_law_353 rfl (lv_at hl 2 rfl) ?_
  refine wv_V (As := []) (rest := []) (k := 0) ⟨hx, hb, hml, hown, hts⟩ h 37 (by decide) (C := "NonceBoxModel") g371 rfl (m_Md_multiply l G (A0 s) ad ev1 Bf tl ol cd hM1) kc_Md_multiply kl_Lw_71 km_Md_multiply kv_Md_multiply ki_Md (by decide +kernel) ⟨rfl, rfl, Nat.le_of_ble_eq_true rfl, Nat.le_of_ble_eq_true rfl⟩ hl.1 rfl rfl (Nat.le_of_ble_eq_true rfl) hf0 d_Lw_law_354 ?_
  intro ov ev2 H locs hp h
  obtain ⟨ho, hM2, hfr2⟩ := hp
  rw [ho]
  refine W.eq (g2 := F0 m 357 ls []) rfl ?_
  have hN2 := hN1.fr (fun j hj => hfr2 j (Or.inl hj))
  have r51 := (hfr2 51 (Or.inr (by decide))).trans q51
  refine lv_goto (tgt := 547) hx hb d_Lw_law_357 (by decide) ?_
  refine W.widen (k := cells + 1) (n := slots + 6) (by omega) (by omega) ?_
  exact kk _ _ _ _ ⟨_, _, _, _, _, hN2, hM2, r51⟩ h hl
set_option maxRecDepth 100000 in
set_option maxHeartbeats 4000000 in
theorem lw_agree (hLC : LC p l s m c b L xs) (hj : 5 * j + 5 ≤ L) (h : wT G (A0 s) 52 ad ev s H locs) (hI : INV G ad ev) (hl : lv_has ls 7 (lvL b ad j)) (hf : cells + 1 ≤ 601024 ∧ slots + 6 ≤ 7293034) (kk : LK p l e s m below meth c b G ad j cells slots Q) : W p l e room_1 s m #[Value.ref b] below meth c H locs cells slots Q (F0 m 360 ls []) := by
  obtain ⟨hx, hb, hml, hown, hts, hX, hbl, hL, hTW, hCA, hoff⟩ := hLC
  obtain ⟨Bf, tl, ol, cd, fo, hNB, hMD, h51⟩ := hI
  have hf0 : cells ≤ room_1.cells ∧ slots ≤ room_1.slots := ⟨by show cells ≤ 601024; omega, by show slots ≤ 7293034; omega⟩
  have g0 := hNB.1
  have g37 := hMD.1
  refine lv_aload_n hx hb d_Lw_law_360 rfl (lv_at hl 1 rfl) ?_
  refine wv_V (As := []) (rest := []) (k := 0) ⟨hx, hb, hml, hown, hts⟩ h 0 (by decide) (C := "NonceBox") g0 rfl (m_NB_agree l G (A0 s) ad ev Bf tl ol hNB) kc_NB_agree kl_Lw_72 km_NB_agree kv_NB_agree ki_NB (by decide +kernel) ⟨rfl, rfl, Nat.le_of_ble_eq_true rfl, Nat.le_of_ble_eq_true rfl⟩ hl.1 rfl rfl (Nat.le_of_ble_eq_true rfl) hf0 d_Lw_law_361 ?_
  intro ov ev1 H locs hp h
  obtain ⟨ho, hN1, hfr1⟩ := hp
  rw [ho]
  refine W.eq (g2 := F0 m 364 ls []) rfl ?_
  have hM1 : MD G ad ev1 Bf tl ol cd := hMD.fr (fun j h1 _ => hfr1 j h1)
  have q51 := (hfr1 51 (by decide)).trans h51
  have g371 := hM1.1
  refine lv_aload_n hx hb d_Lw_law_364 rfl (lv_at hl 2 rfl) ?_
  refine wv_V (As := []) (rest := []) (k := 0) ⟨hx, hb, hml, hown, hts⟩ h 37 (by decide) (C := "NonceBoxModel") g371 rfl (m_Md_agree l G (A0 s) ad ev1 Bf tl ol cd hM1) kc_Md_agree kl_Lw_75 km_Md_agree kv_Md_agree ki_Md (by decide +kernel) ⟨rfl, rfl, Nat.le_of_ble_eq_true rfl, Nat.le_of_ble_eq_true rfl⟩ hl.1 rfl rfl (Nat.le_of_ble_eq_true rfl) hf0 d_Lw_law_365 ?_
  intro ov ev2 H locs hp h
  obtain ⟨ho, hM2, hfr2⟩ := hp
  rw [ho]
  refine W.eq (g2 := F0 m 368 ls []) rfl ?_
  have hN2 := hN1.fr (fun j hj => hfr2 j (Or.inl hj))
  have r51 := (hfr2 51 (Or.inr (by decide))).trans q51
  refine lv_goto (tgt := 547) hx hb d_Lw_law_368 (by decide) ?_
  refine W.widen (k := cells + 1) (n := slots + 6) (by omega) (by omega) ?_
  exact kk _ _ _ _ ⟨_, _, _, _, _, hN2, hM2, r51⟩ h hl
set_option maxRecDepth 100000 in
set_option maxHeartbeats 4000000 in
theorem lw_seal (hLC : LC p l s m c b L xs) (hj : 5 * j + 5 ≤ L) (h : wT G (A0 s) 52 ad ev s H locs) (hI : INV G ad ev) (hl : lv_has ls 7 (lvL b ad j)) (hf : cells + 1 ≤ 601024 ∧ slots + 6 ≤ 7293034) (kk : LK p l e s m below meth c b G ad j cells slots Q) : W p l e room_1 s m #[Value.ref b] below meth c H locs cells slots Q (F0 m 371 ls []) := by
  obtain ⟨hx, hb, hml, hown, hts, hX, hbl, hL, hTW, hCA, hoff⟩ := hLC
  obtain ⟨Bf, tl, ol, cd, fo, hNB, hMD, h51⟩ := hI
  have hf0 : cells ≤ room_1.cells ∧ slots ≤ room_1.slots := ⟨by show cells ≤ 601024; omega, by show slots ≤ 7293034; omega⟩
  have g0 := hNB.1
  have g37 := hMD.1
  refine lv_aload_n hx hb d_Lw_law_371 rfl (lv_at hl 1 rfl) ?_
  refine lv_aload_n hx hb d_Lw_law_372 rfl (lv_at hl 3 rfl) ?_
  refine wv_call h (va_runSw (As := [.ref (ad 0), .ref (ad 51)]) (rest := []) (k := 2) ⟨hx, hb, hml, hown, hts⟩ (q_Lw_seal l hoff s hTW hCA G ad ev Bf tl ol hNB fo h51) kc_Lw_seal kl_Lw_76 ks_Lw_seal ki_Lw (by decide +kernel) ⟨rfl, rfl, Nat.le_of_ble_eq_true rfl, Nat.le_of_ble_eq_true rfl⟩ (h.preT (OLD.rf s)) hl.1 rfl rfl (Nat.le_of_ble_eq_true rfl) hf d_Lw_law_373) ?_
  intro ov ev1 H locs hp h
  obtain ⟨a1, B1, o1, c1, f1, ho, hs1, hN1, q51, hf1, hfr1⟩ := hp
  rw [ho]
  refine W.eq (g2 := F0 m 376 ls [.int (nI (c1))]) rfl ?_
  have hM1 : MD G ad ev1 Bf tl ol cd := hMD.fr hfr1
  have hf1c : cells + 1 ≤ room_1.cells ∧ slots + 6 ≤ room_1.slots := hf
  refine lv_istore (lv' := [(5, .int (nI (c1))), (0, .ref (b)), (1, .ref (ad 0)), (2, .ref (ad 37)), (3, .ref (ad 51)), (4, .int (nI (5 * j)))]) hx hb d_Lw_law_376 hl (by decide) rfl (fun ls hl => ?_)
  refine lv_aload_n hx hb d_Lw_law_378 rfl (lv_at hl 3 rfl) ?_
  have g371 := hM1.1
  refine wv_V (As := []) (rest := []) (k := 0) ⟨hx, hb, hml, hown, hts⟩ h 37 (by decide) (C := "NonceBoxModel") g371 rfl (m_Md_seal l G (A0 s) ad ev1 Bf tl ol cd hM1) kc_Md_seal kl_Lw_81 km_Md_seal kv_Md_seal ki_Md (by decide +kernel) ⟨rfl, rfl, Nat.le_of_ble_eq_true rfl, Nat.le_of_ble_eq_true rfl⟩ hl.1 rfl rfl (Nat.le_of_ble_eq_true rfl) hf1c d_Lw_law_379 ?_
  intro ov ev2 H locs hp h
  obtain ⟨a2, B2, o2, c2, ho, hs2, hM2, hfr2⟩ := hp
  rw [ho]
  refine W.eq (g2 := F0 m 382 ls [.int (a2)]) rfl ?_
  obtain ⟨rfl, rfl, rfl, rfl⟩ := spSeal_f hs1 hs2
  have hN2 := hN1.fr (fun j hj => hfr2 j (Or.inl hj))
  have r51 := (hfr2 51 (Or.inr (by decide))).trans q51
  refine lv_istore (lv' := [(6, .int (a1)), (5, .int (nI (c1))), (0, .ref (b)), (1, .ref (ad 0)), (2, .ref (ad 37)), (3, .ref (ad 51)), (4, .int (nI (5 * j)))]) hx hb d_Lw_law_382 hl (by decide) rfl (fun ls hl => ?_)
  refine lv_aload_n hx hb d_Lw_law_384 rfl (lv_at hl 4 rfl) ?_
  have g372 := hM2.1
  refine wv_V (As := []) (rest := []) (k := 0) ⟨hx, hb, hml, hown, hts⟩ h 37 (by decide) (C := "NonceBoxModel") g372 rfl (m_Md_thrown l G (A0 s) ad ev2 tl o1 c1 g372) kc_Md_thrown kl_Lw_82 km_Md_thrown kv_Md_thrown ki_Md (by decide +kernel) ⟨rfl, rfl, Nat.le_of_ble_eq_true rfl, Nat.le_of_ble_eq_true rfl⟩ hl.1 rfl rfl (Nat.le_of_ble_eq_true rfl) hf1c d_Lw_law_385 ?_
  intro ov ev3 H locs hp h
  obtain ⟨ho, hq3⟩ := hp
  rw [hq3] at h
  rw [ho]
  refine W.eq (g2 := F0 m 388 ls [.int (nI (c1))]) rfl ?_
  refine lv_iload hx hb d_Lw_law_388 (lv_at hl 1 rfl) ?_
  refine lv_icmp_eq (tgt := 395) hx hb d_Lw_law_390 (by decide) (fun _ => ?_) (fun hc => absurd rfl hc)
  refine lv_iload hx hb d_Lw_law_395 (lv_at hl 1 rfl) ?_
  have hend : ∀ (ls : Array Slot), lv_has ls 7 [(6, .int (a1)), (5, .int (nI (c1))), (0, .ref (b)), (1, .ref (ad 0)), (2, .ref (ad 37)), (3, .ref (ad 51)), (4, .int (nI (5 * j)))] → W p l e room_1 s m #[Value.ref b] below meth c H locs (cells + 1) (slots + 6) Q (F0 m 412 ls []) := by
    intro ls hl
    refine lv_goto (tgt := 547) hx hb d_Lw_law_412 (by decide) ?_
    exact kk _ _ _ _ ⟨_, _, _, _, _, hN2, hM2, r51⟩ h (lv_sub hl [2, 3, 4, 5, 6] rfl)
  refine lv_if_ne (tgt := 412) hx hb d_Lw_law_397 (by decide) (fun _ => hend _ hl) (fun hc => ?_)
  have hc0 : c1 = 0 := nI_i (spSeal_c hs1) (by decide) hc
  refine lv_aload_n hx hb d_Lw_law_400 rfl (lv_at hl 5 rfl) ?_
  refine lv_iconst (v := nI (0)) hx hb d_Lw_law_401 (by decide) ?_
  refine wv_lald hx hb h 51 (by decide) (f := f1) r51 (k := 0) rfl (by decide) (by decide) d_Lw_law_402 ?_
  refine lv_iload hx hb d_Lw_law_403 (lv_at hl 0 rfl) ?_
  refine lv_i2l hx hb d_Lw_law_405 rfl ?_
  refine W.lcmp hx hb d_Lw_law_406 ?_
  refine wv_top (w := 0) (by rw [hf1 hc0]; simp [lg_cmp]) ?_
  exact lv_if_eq (tgt := 412) hx hb d_Lw_law_407 (by decide) (fun _ => hend _ hl) (fun hc => absurd rfl hc)
set_option maxRecDepth 100000 in
set_option maxHeartbeats 4000000 in
theorem lw_open (hLC : LC p l s m c b L xs) (hj : 5 * j + 5 ≤ L) (h : wT G (A0 s) 52 ad ev s H locs) (hI : INV G ad ev) (hl : lv_has ls 7 (lvL b ad j)) (hf : cells + 1 ≤ 601024 ∧ slots + 6 ≤ 7293034) (kk : LK p l e s m below meth c b G ad j cells slots Q) : W p l e room_1 s m #[Value.ref b] below meth c H locs cells slots Q (F0 m 415 ls []) := by
  obtain ⟨hx, hb, hml, hown, hts, hX, hbl, hL, hTW, hCA, hoff⟩ := hLC
  obtain ⟨Bf, tl, ol, cd, fo, hNB, hMD, h51⟩ := hI
  have hf0 : cells ≤ room_1.cells ∧ slots ≤ room_1.slots := ⟨by show cells ≤ 601024; omega, by show slots ≤ 7293034; omega⟩
  have g0 := hNB.1
  have g37 := hMD.1
  refine lv_aload_n hx hb d_Lw_law_415 rfl (lv_at hl 1 rfl) ?_
  refine lv_aload_n hx hb d_Lw_law_416 rfl (lv_at hl 3 rfl) ?_
  refine wv_call h (va_runSw (As := [.ref (ad 0), .ref (ad 51)]) (rest := []) (k := 2) ⟨hx, hb, hml, hown, hts⟩ (q_Lw_open l hoff s hTW hCA G ad ev Bf tl ol hNB fo h51) kc_Lw_open kl_Lw_85 ks_Lw_open ki_Lw (by decide +kernel) ⟨rfl, rfl, Nat.le_of_ble_eq_true rfl, Nat.le_of_ble_eq_true rfl⟩ (h.preT (OLD.rf s)) hl.1 rfl rfl (Nat.le_of_ble_eq_true rfl) hf d_Lw_law_417) ?_
  intro ov ev1 H locs hp h
  obtain ⟨a1, B1, o1, c1, f1, ho, hs1, hN1, q51, hf1, hfr1⟩ := hp
  rw [ho]
  refine W.eq (g2 := F0 m 420 ls [.int (nI (c1))]) rfl ?_
  have hM1 : MD G ad ev1 Bf tl ol cd := hMD.fr hfr1
  have hf1c : cells + 1 ≤ room_1.cells ∧ slots + 6 ≤ room_1.slots := hf
  refine lv_istore (lv' := [(5, .int (nI (c1))), (0, .ref (b)), (1, .ref (ad 0)), (2, .ref (ad 37)), (3, .ref (ad 51)), (4, .int (nI (5 * j)))]) hx hb d_Lw_law_420 hl (by decide) rfl (fun ls hl => ?_)
  refine lv_aload_n hx hb d_Lw_law_422 rfl (lv_at hl 3 rfl) ?_
  have g371 := hM1.1
  refine wv_V (As := []) (rest := []) (k := 0) ⟨hx, hb, hml, hown, hts⟩ h 37 (by decide) (C := "NonceBoxModel") g371 rfl (m_Md_open l G (A0 s) ad ev1 Bf tl ol cd hM1) kc_Md_open kl_Lw_87 km_Md_open kv_Md_open ki_Md (by decide +kernel) ⟨rfl, rfl, Nat.le_of_ble_eq_true rfl, Nat.le_of_ble_eq_true rfl⟩ hl.1 rfl rfl (Nat.le_of_ble_eq_true rfl) hf1c d_Lw_law_423 ?_
  intro ov ev2 H locs hp h
  obtain ⟨a2, B2, o2, c2, ho, hs2, hM2, hfr2⟩ := hp
  rw [ho]
  refine W.eq (g2 := F0 m 426 ls [.int (a2)]) rfl ?_
  obtain ⟨rfl, rfl, rfl, rfl⟩ := spOpen_f hs1 hs2
  have hN2 := hN1.fr (fun j hj => hfr2 j (Or.inl hj))
  have r51 := (hfr2 51 (Or.inr (by decide))).trans q51
  refine lv_istore (lv' := [(6, .int (a1)), (5, .int (nI (c1))), (0, .ref (b)), (1, .ref (ad 0)), (2, .ref (ad 37)), (3, .ref (ad 51)), (4, .int (nI (5 * j)))]) hx hb d_Lw_law_426 hl (by decide) rfl (fun ls hl => ?_)
  refine lv_aload_n hx hb d_Lw_law_428 rfl (lv_at hl 4 rfl) ?_
  have g372 := hM2.1
  refine wv_V (As := []) (rest := []) (k := 0) ⟨hx, hb, hml, hown, hts⟩ h 37 (by decide) (C := "NonceBoxModel") g372 rfl (m_Md_thrown l G (A0 s) ad ev2 tl o1 c1 g372) kc_Md_thrown kl_Lw_82 km_Md_thrown kv_Md_thrown ki_Md (by decide +kernel) ⟨rfl, rfl, Nat.le_of_ble_eq_true rfl, Nat.le_of_ble_eq_true rfl⟩ hl.1 rfl rfl (Nat.le_of_ble_eq_true rfl) hf1c d_Lw_law_429 ?_
  intro ov ev3 H locs hp h
  obtain ⟨ho, hq3⟩ := hp
  rw [hq3] at h
  rw [ho]
  refine W.eq (g2 := F0 m 432 ls [.int (nI (c1))]) rfl ?_
  refine lv_iload hx hb d_Lw_law_432 (lv_at hl 1 rfl) ?_
  refine lv_icmp_eq (tgt := 439) hx hb d_Lw_law_434 (by decide) (fun _ => ?_) (fun hc => absurd rfl hc)
  refine lv_iload hx hb d_Lw_law_439 (lv_at hl 1 rfl) ?_
  have hend : ∀ (ls : Array Slot), lv_has ls 7 [(6, .int (a1)), (5, .int (nI (c1))), (0, .ref (b)), (1, .ref (ad 0)), (2, .ref (ad 37)), (3, .ref (ad 51)), (4, .int (nI (5 * j)))] → W p l e room_1 s m #[Value.ref b] below meth c H locs (cells + 1) (slots + 6) Q (F0 m 456 ls []) := by
    intro ls hl
    refine lv_goto (tgt := 547) hx hb d_Lw_law_456 (by decide) ?_
    exact kk _ _ _ _ ⟨_, _, _, _, _, hN2, hM2, r51⟩ h (lv_sub hl [2, 3, 4, 5, 6] rfl)
  refine lv_if_ne (tgt := 456) hx hb d_Lw_law_441 (by decide) (fun _ => hend _ hl) (fun hc => ?_)
  have hc0 : c1 = 0 := nI_i (spOpen_c hs1) (by decide) hc
  refine lv_aload_n hx hb d_Lw_law_444 rfl (lv_at hl 5 rfl) ?_
  refine lv_iconst (v := nI (0)) hx hb d_Lw_law_445 (by decide) ?_
  refine wv_lald hx hb h 51 (by decide) (f := f1) r51 (k := 0) rfl (by decide) (by decide) d_Lw_law_446 ?_
  refine lv_iload hx hb d_Lw_law_447 (lv_at hl 0 rfl) ?_
  refine lv_i2l hx hb d_Lw_law_449 rfl ?_
  refine W.lcmp hx hb d_Lw_law_450 ?_
  refine wv_top (w := 0) (by rw [hf1 hc0]; simp [lg_cmp]) ?_
  exact lv_if_eq (tgt := 456) hx hb d_Lw_law_451 (by decide) (fun _ => hend _ hl) (fun hc => absurd rfl hc)
set_option maxRecDepth 100000 in
set_option maxHeartbeats 4000000 in
theorem lw_box (hLC : LC p l s m c b L xs) (hj : 5 * j + 5 ≤ L) (h : wT G (A0 s) 52 ad ev s H locs) (hI : INV G ad ev) (hl : lv_has ls 7 (lvL b ad j)) (hf : cells + 1 ≤ 601024 ∧ slots + 6 ≤ 7293034) (kk : LK p l e s m below meth c b G ad j cells slots Q) : W p l e room_1 s m #[Value.ref b] below meth c H locs cells slots Q (F0 m 459 ls []) := by
  obtain ⟨hx, hb, hml, hown, hts, hX, hbl, hL, hTW, hCA, hoff⟩ := hLC
  obtain ⟨Bf, tl, ol, cd, fo, hNB, hMD, h51⟩ := hI
  have hf0 : cells ≤ room_1.cells ∧ slots ≤ room_1.slots := ⟨by show cells ≤ 601024; omega, by show slots ≤ 7293034; omega⟩
  have g0 := hNB.1
  have g37 := hMD.1
  refine lv_aload_n hx hb d_Lw_law_459 rfl (lv_at hl 1 rfl) ?_
  refine lv_aload_n hx hb d_Lw_law_460 rfl (lv_at hl 3 rfl) ?_
  refine wv_call h (va_runSw (As := [.ref (ad 0), .ref (ad 51)]) (rest := []) (k := 2) ⟨hx, hb, hml, hown, hts⟩ (q_Lw_box l hoff s hTW hCA G ad ev Bf tl ol hNB fo h51) kc_Lw_box kl_Lw_88 ks_Lw_box ki_Lw (by decide +kernel) ⟨rfl, rfl, Nat.le_of_ble_eq_true rfl, Nat.le_of_ble_eq_true rfl⟩ (h.preT (OLD.rf s)) hl.1 rfl rfl (Nat.le_of_ble_eq_true rfl) hf d_Lw_law_461) ?_
  intro ov ev1 H locs hp h
  obtain ⟨a1, B1, o1, c1, f1, ho, hs1, hN1, q51, hf1, hfr1⟩ := hp
  rw [ho]
  refine W.eq (g2 := F0 m 464 ls [.int (nI (c1))]) rfl ?_
  have hM1 : MD G ad ev1 Bf tl ol cd := hMD.fr hfr1
  have hf1c : cells + 1 ≤ room_1.cells ∧ slots + 6 ≤ room_1.slots := hf
  refine lv_istore (lv' := [(5, .int (nI (c1))), (0, .ref (b)), (1, .ref (ad 0)), (2, .ref (ad 37)), (3, .ref (ad 51)), (4, .int (nI (5 * j)))]) hx hb d_Lw_law_464 hl (by decide) rfl (fun ls hl => ?_)
  refine lv_aload_n hx hb d_Lw_law_466 rfl (lv_at hl 3 rfl) ?_
  have g371 := hM1.1
  refine wv_V (As := []) (rest := []) (k := 0) ⟨hx, hb, hml, hown, hts⟩ h 37 (by decide) (C := "NonceBoxModel") g371 rfl (m_Md_box l G (A0 s) ad ev1 Bf tl ol cd hM1) kc_Md_box kl_Lw_90 km_Md_box kv_Md_box ki_Md (by decide +kernel) ⟨rfl, rfl, Nat.le_of_ble_eq_true rfl, Nat.le_of_ble_eq_true rfl⟩ hl.1 rfl rfl (Nat.le_of_ble_eq_true rfl) hf1c d_Lw_law_467 ?_
  intro ov ev2 H locs hp h
  obtain ⟨a2, B2, o2, c2, ho, hs2, hM2, hfr2⟩ := hp
  rw [ho]
  refine W.eq (g2 := F0 m 470 ls [.int (a2)]) rfl ?_
  obtain ⟨rfl, rfl, rfl, rfl⟩ := spSeal_f hs1 hs2
  have hN2 := hN1.fr (fun j hj => hfr2 j (Or.inl hj))
  have r51 := (hfr2 51 (Or.inr (by decide))).trans q51
  refine lv_istore (lv' := [(6, .int (a1)), (5, .int (nI (c1))), (0, .ref (b)), (1, .ref (ad 0)), (2, .ref (ad 37)), (3, .ref (ad 51)), (4, .int (nI (5 * j)))]) hx hb d_Lw_law_470 hl (by decide) rfl (fun ls hl => ?_)
  refine lv_aload_n hx hb d_Lw_law_472 rfl (lv_at hl 4 rfl) ?_
  have g372 := hM2.1
  refine wv_V (As := []) (rest := []) (k := 0) ⟨hx, hb, hml, hown, hts⟩ h 37 (by decide) (C := "NonceBoxModel") g372 rfl (m_Md_thrown l G (A0 s) ad ev2 tl o1 c1 g372) kc_Md_thrown kl_Lw_82 km_Md_thrown kv_Md_thrown ki_Md (by decide +kernel) ⟨rfl, rfl, Nat.le_of_ble_eq_true rfl, Nat.le_of_ble_eq_true rfl⟩ hl.1 rfl rfl (Nat.le_of_ble_eq_true rfl) hf1c d_Lw_law_473 ?_
  intro ov ev3 H locs hp h
  obtain ⟨ho, hq3⟩ := hp
  rw [hq3] at h
  rw [ho]
  refine W.eq (g2 := F0 m 476 ls [.int (nI (c1))]) rfl ?_
  refine lv_iload hx hb d_Lw_law_476 (lv_at hl 1 rfl) ?_
  refine lv_icmp_eq (tgt := 483) hx hb d_Lw_law_478 (by decide) (fun _ => ?_) (fun hc => absurd rfl hc)
  refine lv_iload hx hb d_Lw_law_483 (lv_at hl 1 rfl) ?_
  have hend : ∀ (ls : Array Slot), lv_has ls 7 [(6, .int (a1)), (5, .int (nI (c1))), (0, .ref (b)), (1, .ref (ad 0)), (2, .ref (ad 37)), (3, .ref (ad 51)), (4, .int (nI (5 * j)))] → W p l e room_1 s m #[Value.ref b] below meth c H locs (cells + 1) (slots + 6) Q (F0 m 500 ls []) := by
    intro ls hl
    refine lv_goto (tgt := 547) hx hb d_Lw_law_500 (by decide) ?_
    exact kk _ _ _ _ ⟨_, _, _, _, _, hN2, hM2, r51⟩ h (lv_sub hl [2, 3, 4, 5, 6] rfl)
  refine lv_if_ne (tgt := 500) hx hb d_Lw_law_485 (by decide) (fun _ => hend _ hl) (fun hc => ?_)
  have hc0 : c1 = 0 := nI_i (spSeal_c hs1) (by decide) hc
  refine lv_aload_n hx hb d_Lw_law_488 rfl (lv_at hl 5 rfl) ?_
  refine lv_iconst (v := nI (0)) hx hb d_Lw_law_489 (by decide) ?_
  refine wv_lald hx hb h 51 (by decide) (f := f1) r51 (k := 0) rfl (by decide) (by decide) d_Lw_law_490 ?_
  refine lv_iload hx hb d_Lw_law_491 (lv_at hl 0 rfl) ?_
  refine lv_i2l hx hb d_Lw_law_493 rfl ?_
  refine W.lcmp hx hb d_Lw_law_494 ?_
  refine wv_top (w := 0) (by rw [hf1 hc0]; simp [lg_cmp]) ?_
  exact lv_if_eq (tgt := 500) hx hb d_Lw_law_495 (by decide) (fun _ => hend _ hl) (fun hc => absurd rfl hc)
set_option maxRecDepth 100000 in
set_option maxHeartbeats 4000000 in
theorem lw_unbox (hLC : LC p l s m c b L xs) (hj : 5 * j + 5 ≤ L) (h : wT G (A0 s) 52 ad ev s H locs) (hI : INV G ad ev) (hl : lv_has ls 7 (lvL b ad j)) (hf : cells + 1 ≤ 601024 ∧ slots + 6 ≤ 7293034) (kk : LK p l e s m below meth c b G ad j cells slots Q) : W p l e room_1 s m #[Value.ref b] below meth c H locs cells slots Q (F0 m 503 ls []) := by
  obtain ⟨hx, hb, hml, hown, hts, hX, hbl, hL, hTW, hCA, hoff⟩ := hLC
  obtain ⟨Bf, tl, ol, cd, fo, hNB, hMD, h51⟩ := hI
  have hf0 : cells ≤ room_1.cells ∧ slots ≤ room_1.slots := ⟨by show cells ≤ 601024; omega, by show slots ≤ 7293034; omega⟩
  have g0 := hNB.1
  have g37 := hMD.1
  refine lv_aload_n hx hb d_Lw_law_503 rfl (lv_at hl 1 rfl) ?_
  refine lv_aload_n hx hb d_Lw_law_504 rfl (lv_at hl 3 rfl) ?_
  refine wv_call h (va_runSw (As := [.ref (ad 0), .ref (ad 51)]) (rest := []) (k := 2) ⟨hx, hb, hml, hown, hts⟩ (q_Lw_unbox l hoff s hTW hCA G ad ev Bf tl ol hNB fo h51) kc_Lw_unbox kl_Lw_91 ks_Lw_unbox ki_Lw (by decide +kernel) ⟨rfl, rfl, Nat.le_of_ble_eq_true rfl, Nat.le_of_ble_eq_true rfl⟩ (h.preT (OLD.rf s)) hl.1 rfl rfl (Nat.le_of_ble_eq_true rfl) hf d_Lw_law_505) ?_
  intro ov ev1 H locs hp h
  obtain ⟨a1, B1, o1, c1, f1, ho, hs1, hN1, q51, hf1, hfr1⟩ := hp
  rw [ho]
  refine W.eq (g2 := F0 m 508 ls [.int (nI (c1))]) rfl ?_
  have hM1 : MD G ad ev1 Bf tl ol cd := hMD.fr hfr1
  have hf1c : cells + 1 ≤ room_1.cells ∧ slots + 6 ≤ room_1.slots := hf
  refine lv_istore (lv' := [(5, .int (nI (c1))), (0, .ref (b)), (1, .ref (ad 0)), (2, .ref (ad 37)), (3, .ref (ad 51)), (4, .int (nI (5 * j)))]) hx hb d_Lw_law_508 hl (by decide) rfl (fun ls hl => ?_)
  refine lv_aload_n hx hb d_Lw_law_510 rfl (lv_at hl 3 rfl) ?_
  have g371 := hM1.1
  refine wv_V (As := []) (rest := []) (k := 0) ⟨hx, hb, hml, hown, hts⟩ h 37 (by decide) (C := "NonceBoxModel") g371 rfl (m_Md_unbox l G (A0 s) ad ev1 Bf tl ol cd hM1) kc_Md_unbox kl_Lw_93 km_Md_unbox kv_Md_unbox ki_Md (by decide +kernel) ⟨rfl, rfl, Nat.le_of_ble_eq_true rfl, Nat.le_of_ble_eq_true rfl⟩ hl.1 rfl rfl (Nat.le_of_ble_eq_true rfl) hf1c d_Lw_law_511 ?_
  intro ov ev2 H locs hp h
  obtain ⟨a2, B2, o2, c2, ho, hs2, hM2, hfr2⟩ := hp
  rw [ho]
  refine W.eq (g2 := F0 m 514 ls [.int (a2)]) rfl ?_
  obtain ⟨rfl, rfl, rfl, rfl⟩ := spOpen_f hs1 hs2
  have hN2 := hN1.fr (fun j hj => hfr2 j (Or.inl hj))
  have r51 := (hfr2 51 (Or.inr (by decide))).trans q51
  refine lv_istore (lv' := [(6, .int (a1)), (5, .int (nI (c1))), (0, .ref (b)), (1, .ref (ad 0)), (2, .ref (ad 37)), (3, .ref (ad 51)), (4, .int (nI (5 * j)))]) hx hb d_Lw_law_514 hl (by decide) rfl (fun ls hl => ?_)
  refine lv_aload_n hx hb d_Lw_law_516 rfl (lv_at hl 4 rfl) ?_
  have g372 := hM2.1
  refine wv_V (As := []) (rest := []) (k := 0) ⟨hx, hb, hml, hown, hts⟩ h 37 (by decide) (C := "NonceBoxModel") g372 rfl (m_Md_thrown l G (A0 s) ad ev2 tl o1 c1 g372) kc_Md_thrown kl_Lw_82 km_Md_thrown kv_Md_thrown ki_Md (by decide +kernel) ⟨rfl, rfl, Nat.le_of_ble_eq_true rfl, Nat.le_of_ble_eq_true rfl⟩ hl.1 rfl rfl (Nat.le_of_ble_eq_true rfl) hf1c d_Lw_law_517 ?_
  intro ov ev3 H locs hp h
  obtain ⟨ho, hq3⟩ := hp
  rw [hq3] at h
  rw [ho]
  refine W.eq (g2 := F0 m 520 ls [.int (nI (c1))]) rfl ?_
  refine lv_iload hx hb d_Lw_law_520 (lv_at hl 1 rfl) ?_
  refine lv_icmp_eq (tgt := 527) hx hb d_Lw_law_522 (by decide) (fun _ => ?_) (fun hc => absurd rfl hc)
  refine lv_iload hx hb d_Lw_law_527 (lv_at hl 1 rfl) ?_
  have hend : ∀ (ls : Array Slot), lv_has ls 7 [(6, .int (a1)), (5, .int (nI (c1))), (0, .ref (b)), (1, .ref (ad 0)), (2, .ref (ad 37)), (3, .ref (ad 51)), (4, .int (nI (5 * j)))] → W p l e room_1 s m #[Value.ref b] below meth c H locs (cells + 1) (slots + 6) Q (F0 m 544 ls []) := by
    intro ls hl
    refine lv_goto (tgt := 547) hx hb d_Lw_law_544 (by decide) ?_
    exact kk _ _ _ _ ⟨_, _, _, _, _, hN2, hM2, r51⟩ h (lv_sub hl [2, 3, 4, 5, 6] rfl)
  refine lv_if_ne (tgt := 544) hx hb d_Lw_law_529 (by decide) (fun _ => hend _ hl) (fun hc => ?_)
  have hc0 : c1 = 0 := nI_i (spOpen_c hs1) (by decide) hc
  refine lv_aload_n hx hb d_Lw_law_532 rfl (lv_at hl 5 rfl) ?_
  refine lv_iconst (v := nI (0)) hx hb d_Lw_law_533 (by decide) ?_
  refine wv_lald hx hb h 51 (by decide) (f := f1) r51 (k := 0) rfl (by decide) (by decide) d_Lw_law_534 ?_
  refine lv_iload hx hb d_Lw_law_535 (lv_at hl 0 rfl) ?_
  refine lv_i2l hx hb d_Lw_law_537 rfl ?_
  refine W.lcmp hx hb d_Lw_law_538 ?_
  refine wv_top (w := 0) (by rw [hf1 hc0]; simp [lg_cmp]) ?_
  exact lv_if_eq (tgt := 544) hx hb d_Lw_law_539 (by decide) (fun _ => hend _ hl) (fun hc => absurd rfl hc)
end LAW
