theorem min_if {n k : Nat} (h : ¬ n - 16 * k < 16) : 16 = min 16 (n - 16 * k) := by omega
theorem nsh8 {x : Nat} (h : x < 1024) : nI x >>> ((8 : Int32) &&& 31) = nI (x / 256) ∧ nI x &&& (255 : Int32) = nI (x % 256) := by
  refine ⟨?_, ?_⟩
  · rw [pk_shrN (by omega) ((8 : Int32) &&& 31) 8 (by decide)]
  · rw [pk_andN (by omega) 8 (by decide)]
theorem d_Md_makeTag_0 : decode c_Md_makeTag 0 = .ok (.iconst 0, 1) := by decide +kernel
theorem d_Md_makeTag_1 : decode c_Md_makeTag 1 = .ok (.istore_n 2, 1) := by decide +kernel
theorem d_Md_makeTag_2 : decode c_Md_makeTag 2 = .ok (.iload_n 2, 1) := by decide +kernel
theorem d_Md_makeTag_3 : decode c_Md_makeTag 3 = .ok (.iconst 5, 1) := by decide +kernel
theorem d_Md_makeTag_4 : decode c_Md_makeTag 4 = .ok (.if_icmp .ge 23, 3) := by decide +kernel
theorem d_Md_makeTag_7 : decode c_Md_makeTag 7 = .ok (.aload_n 0, 1) := by decide +kernel
theorem d_Md_makeTag_8 : decode c_Md_makeTag 8 = .ok (.getfield 35, 3) := by decide +kernel
theorem d_Md_makeTag_11 : decode c_Md_makeTag 11 = .ok (.iload_n 2, 1) := by decide +kernel
theorem d_Md_makeTag_12 : decode c_Md_makeTag 12 = .ok (.lconst 0, 1) := by decide +kernel
theorem d_Md_makeTag_13 : decode c_Md_makeTag 13 = .ok (.lastore, 1) := by decide +kernel
theorem d_Md_makeTag_14 : decode c_Md_makeTag 14 = .ok (.aload_n 0, 1) := by decide +kernel
theorem d_Md_makeTag_15 : decode c_Md_makeTag 15 = .ok (.getfield 38, 3) := by decide +kernel
theorem d_Md_makeTag_18 : decode c_Md_makeTag 18 = .ok (.iload_n 2, 1) := by decide +kernel
theorem d_Md_makeTag_19 : decode c_Md_makeTag 19 = .ok (.lconst 0, 1) := by decide +kernel
theorem d_Md_makeTag_20 : decode c_Md_makeTag 20 = .ok (.lastore, 1) := by decide +kernel
theorem d_Md_makeTag_21 : decode c_Md_makeTag 21 = .ok (.iinc 2 1, 3) := by decide +kernel
theorem d_Md_makeTag_24 : decode c_Md_makeTag 24 = .ok (.goto (-22), 3) := by decide +kernel
theorem d_Md_makeTag_27 : decode c_Md_makeTag 27 = .ok (.iconst 0, 1) := by decide +kernel
theorem d_Md_makeTag_28 : decode c_Md_makeTag 28 = .ok (.istore_n 2, 1) := by decide +kernel
theorem d_Md_makeTag_29 : decode c_Md_makeTag 29 = .ok (.iload_n 2, 1) := by decide +kernel
theorem d_Md_makeTag_30 : decode c_Md_makeTag 30 = .ok (.bipush 16, 2) := by decide +kernel
theorem d_Md_makeTag_32 : decode c_Md_makeTag 32 = .ok (.if_icmp .ge 28, 3) := by decide +kernel
theorem d_Md_makeTag_35 : decode c_Md_makeTag 35 = .ok (.aload_n 0, 1) := by decide +kernel
theorem d_Md_makeTag_36 : decode c_Md_makeTag 36 = .ok (.getfield 38, 3) := by decide +kernel
theorem d_Md_makeTag_39 : decode c_Md_makeTag 39 = .ok (.iload_n 2, 1) := by decide +kernel
theorem d_Md_makeTag_40 : decode c_Md_makeTag 40 = .ok (.aload_n 0, 1) := by decide +kernel
theorem d_Md_makeTag_41 : decode c_Md_makeTag 41 = .ok (.getfield 13, 3) := by decide +kernel
theorem d_Md_makeTag_44 : decode c_Md_makeTag 44 = .ok (.iload_n 2, 1) := by decide +kernel
theorem d_Md_makeTag_45 : decode c_Md_makeTag 45 = .ok (.iaload, 1) := by decide +kernel
theorem d_Md_makeTag_46 : decode c_Md_makeTag 46 = .ok (.iload_n 2, 1) := by decide +kernel
theorem d_Md_makeTag_47 : decode c_Md_makeTag 47 = .ok (.invokestatic 120, 3) := by decide +kernel
theorem d_Md_makeTag_50 : decode c_Md_makeTag 50 = .ok (.iand, 1) := by decide +kernel
theorem d_Md_makeTag_51 : decode c_Md_makeTag 51 = .ok (.invokestatic 123, 3) := by decide +kernel
theorem d_Md_makeTag_54 : decode c_Md_makeTag 54 = .ok (.iinc 2 1, 3) := by decide +kernel
theorem d_Md_makeTag_57 : decode c_Md_makeTag 57 = .ok (.goto (-28), 3) := by decide +kernel
theorem d_Md_makeTag_60 : decode c_Md_makeTag 60 = .ok (.iconst 0, 1) := by decide +kernel
theorem d_Md_makeTag_61 : decode c_Md_makeTag 61 = .ok (.istore_n 2, 1) := by decide +kernel
theorem d_Md_makeTag_62 : decode c_Md_makeTag 62 = .ok (.iload_n 2, 1) := by decide +kernel
theorem d_Md_makeTag_63 : decode c_Md_makeTag 63 = .ok (.iload_n 1, 1) := by decide +kernel
theorem d_Md_makeTag_64 : decode c_Md_makeTag 64 = .ok (.if_icmp .ge 97, 3) := by decide +kernel
theorem d_Md_makeTag_67 : decode c_Md_makeTag 67 = .ok (.iload_n 1, 1) := by decide +kernel
theorem d_Md_makeTag_68 : decode c_Md_makeTag 68 = .ok (.iload_n 2, 1) := by decide +kernel
theorem d_Md_makeTag_69 : decode c_Md_makeTag 69 = .ok (.isub, 1) := by decide +kernel
theorem d_Md_makeTag_70 : decode c_Md_makeTag 70 = .ok (.bipush 16, 2) := by decide +kernel
theorem d_Md_makeTag_72 : decode c_Md_makeTag 72 = .ok (.if_icmp .ge 9, 3) := by decide +kernel
theorem d_Md_makeTag_75 : decode c_Md_makeTag 75 = .ok (.iload_n 1, 1) := by decide +kernel
theorem d_Md_makeTag_76 : decode c_Md_makeTag 76 = .ok (.iload_n 2, 1) := by decide +kernel
theorem d_Md_makeTag_77 : decode c_Md_makeTag 77 = .ok (.isub, 1) := by decide +kernel
theorem d_Md_makeTag_78 : decode c_Md_makeTag 78 = .ok (.goto 5, 3) := by decide +kernel
theorem d_Md_makeTag_81 : decode c_Md_makeTag 81 = .ok (.bipush 16, 2) := by decide +kernel
theorem d_Md_makeTag_83 : decode c_Md_makeTag 83 = .ok (.istore_n 3, 1) := by decide +kernel
theorem d_Md_makeTag_84 : decode c_Md_makeTag 84 = .ok (.iconst 0, 1) := by decide +kernel
theorem d_Md_makeTag_85 : decode c_Md_makeTag 85 = .ok (.istore 4, 2) := by decide +kernel
theorem d_Md_makeTag_87 : decode c_Md_makeTag 87 = .ok (.iload 4, 2) := by decide +kernel
theorem d_Md_makeTag_89 : decode c_Md_makeTag 89 = .ok (.iload_n 3, 1) := by decide +kernel
theorem d_Md_makeTag_90 : decode c_Md_makeTag 90 = .ok (.if_icmp .ge 27, 3) := by decide +kernel
theorem d_Md_makeTag_93 : decode c_Md_makeTag 93 = .ok (.aload_n 0, 1) := by decide +kernel
theorem d_Md_makeTag_94 : decode c_Md_makeTag 94 = .ok (.getfield 35, 3) := by decide +kernel
theorem d_Md_makeTag_97 : decode c_Md_makeTag 97 = .ok (.iload 4, 2) := by decide +kernel
theorem d_Md_makeTag_99 : decode c_Md_makeTag 99 = .ok (.aload_n 0, 1) := by decide +kernel
theorem d_Md_makeTag_100 : decode c_Md_makeTag 100 = .ok (.getfield 47, 3) := by decide +kernel
theorem d_Md_makeTag_103 : decode c_Md_makeTag 103 = .ok (.iload_n 2, 1) := by decide +kernel
theorem d_Md_makeTag_104 : decode c_Md_makeTag 104 = .ok (.iload 4, 2) := by decide +kernel
theorem d_Md_makeTag_106 : decode c_Md_makeTag 106 = .ok (.iadd, 1) := by decide +kernel
theorem d_Md_makeTag_107 : decode c_Md_makeTag 107 = .ok (.iaload, 1) := by decide +kernel
theorem d_Md_makeTag_108 : decode c_Md_makeTag 108 = .ok (.invokestatic 123, 3) := by decide +kernel
theorem d_Md_makeTag_111 : decode c_Md_makeTag 111 = .ok (.iinc 4 1, 3) := by decide +kernel
theorem d_Md_makeTag_114 : decode c_Md_makeTag 114 = .ok (.goto (-27), 3) := by decide +kernel
theorem d_Md_makeTag_117 : decode c_Md_makeTag 117 = .ok (.aload_n 0, 1) := by decide +kernel
theorem d_Md_makeTag_118 : decode c_Md_makeTag 118 = .ok (.getfield 35, 3) := by decide +kernel
theorem d_Md_makeTag_121 : decode c_Md_makeTag 121 = .ok (.bipush 8, 2) := by decide +kernel
theorem d_Md_makeTag_123 : decode c_Md_makeTag 123 = .ok (.iload_n 3, 1) := by decide +kernel
theorem d_Md_makeTag_124 : decode c_Md_makeTag 124 = .ok (.imul, 1) := by decide +kernel
theorem d_Md_makeTag_125 : decode c_Md_makeTag 125 = .ok (.bipush 26, 2) := by decide +kernel
theorem d_Md_makeTag_127 : decode c_Md_makeTag 127 = .ok (.idiv, 1) := by decide +kernel
theorem d_Md_makeTag_128 : decode c_Md_makeTag 128 = .ok (.aload_n 0, 1) := by decide +kernel
theorem d_Md_makeTag_129 : decode c_Md_makeTag 129 = .ok (.getfield 35, 3) := by decide +kernel
theorem d_Md_makeTag_132 : decode c_Md_makeTag 132 = .ok (.bipush 8, 2) := by decide +kernel
theorem d_Md_makeTag_134 : decode c_Md_makeTag 134 = .ok (.iload_n 3, 1) := by decide +kernel
theorem d_Md_makeTag_135 : decode c_Md_makeTag 135 = .ok (.imul, 1) := by decide +kernel
theorem d_Md_makeTag_136 : decode c_Md_makeTag 136 = .ok (.bipush 26, 2) := by decide +kernel
theorem d_Md_makeTag_138 : decode c_Md_makeTag 138 = .ok (.idiv, 1) := by decide +kernel
theorem d_Md_makeTag_139 : decode c_Md_makeTag 139 = .ok (.laload, 1) := by decide +kernel
theorem d_Md_makeTag_140 : decode c_Md_makeTag 140 = .ok (.lconst 1, 1) := by decide +kernel
theorem d_Md_makeTag_141 : decode c_Md_makeTag 141 = .ok (.bipush 8, 2) := by decide +kernel
theorem d_Md_makeTag_143 : decode c_Md_makeTag 143 = .ok (.iload_n 3, 1) := by decide +kernel
theorem d_Md_makeTag_144 : decode c_Md_makeTag 144 = .ok (.imul, 1) := by decide +kernel
theorem d_Md_makeTag_145 : decode c_Md_makeTag 145 = .ok (.bipush 26, 2) := by decide +kernel
theorem d_Md_makeTag_147 : decode c_Md_makeTag 147 = .ok (.irem, 1) := by decide +kernel
theorem d_Md_makeTag_148 : decode c_Md_makeTag 148 = .ok (.lshl, 1) := by decide +kernel
theorem d_Md_makeTag_149 : decode c_Md_makeTag 149 = .ok (.ladd, 1) := by decide +kernel
theorem d_Md_makeTag_150 : decode c_Md_makeTag 150 = .ok (.lastore, 1) := by decide +kernel
theorem d_Md_makeTag_151 : decode c_Md_makeTag 151 = .ok (.aload_n 0, 1) := by decide +kernel
theorem d_Md_makeTag_152 : decode c_Md_makeTag 152 = .ok (.invokevirtual 127, 3) := by decide +kernel
theorem d_Md_makeTag_155 : decode c_Md_makeTag 155 = .ok (.iinc 2 16, 3) := by decide +kernel
theorem d_Md_makeTag_158 : decode c_Md_makeTag 158 = .ok (.goto (-96), 3) := by decide +kernel
theorem d_Md_makeTag_161 : decode c_Md_makeTag 161 = .ok (.aload_n 0, 1) := by decide +kernel
theorem d_Md_makeTag_162 : decode c_Md_makeTag 162 = .ok (.invokevirtual 130, 3) := by decide +kernel
theorem d_Md_makeTag_165 : decode c_Md_makeTag 165 = .ok (.iconst 0, 1) := by decide +kernel
theorem d_Md_makeTag_166 : decode c_Md_makeTag 166 = .ok (.istore_n 2, 1) := by decide +kernel
theorem d_Md_makeTag_167 : decode c_Md_makeTag 167 = .ok (.iconst 0, 1) := by decide +kernel
theorem d_Md_makeTag_168 : decode c_Md_makeTag 168 = .ok (.istore_n 3, 1) := by decide +kernel
theorem d_Md_makeTag_169 : decode c_Md_makeTag 169 = .ok (.iload_n 3, 1) := by decide +kernel
theorem d_Md_makeTag_170 : decode c_Md_makeTag 170 = .ok (.bipush 16, 2) := by decide +kernel
theorem d_Md_makeTag_172 : decode c_Md_makeTag 172 = .ok (.if_icmp .ge 98, 3) := by decide +kernel
theorem d_Md_makeTag_175 : decode c_Md_makeTag 175 = .ok (.iconst 0, 1) := by decide +kernel
theorem d_Md_makeTag_176 : decode c_Md_makeTag 176 = .ok (.istore 4, 2) := by decide +kernel
theorem d_Md_makeTag_178 : decode c_Md_makeTag 178 = .ok (.iconst 0, 1) := by decide +kernel
theorem d_Md_makeTag_179 : decode c_Md_makeTag 179 = .ok (.istore 5, 2) := by decide +kernel
theorem d_Md_makeTag_181 : decode c_Md_makeTag 181 = .ok (.iload 5, 2) := by decide +kernel
theorem d_Md_makeTag_183 : decode c_Md_makeTag 183 = .ok (.bipush 8, 2) := by decide +kernel
theorem d_Md_makeTag_185 : decode c_Md_makeTag 185 = .ok (.if_icmp .ge 45, 3) := by decide +kernel
theorem d_Md_makeTag_188 : decode c_Md_makeTag 188 = .ok (.bipush 8, 2) := by decide +kernel
theorem d_Md_makeTag_190 : decode c_Md_makeTag 190 = .ok (.iload_n 3, 1) := by decide +kernel
theorem d_Md_makeTag_191 : decode c_Md_makeTag 191 = .ok (.imul, 1) := by decide +kernel
theorem d_Md_makeTag_192 : decode c_Md_makeTag 192 = .ok (.iload 5, 2) := by decide +kernel
theorem d_Md_makeTag_194 : decode c_Md_makeTag 194 = .ok (.iadd, 1) := by decide +kernel
theorem d_Md_makeTag_195 : decode c_Md_makeTag 195 = .ok (.istore 6, 2) := by decide +kernel
theorem d_Md_makeTag_197 : decode c_Md_makeTag 197 = .ok (.iload 4, 2) := by decide +kernel
theorem d_Md_makeTag_199 : decode c_Md_makeTag 199 = .ok (.aload_n 0, 1) := by decide +kernel
theorem d_Md_makeTag_200 : decode c_Md_makeTag 200 = .ok (.getfield 35, 3) := by decide +kernel
theorem d_Md_makeTag_203 : decode c_Md_makeTag 203 = .ok (.iload 6, 2) := by decide +kernel
theorem d_Md_makeTag_205 : decode c_Md_makeTag 205 = .ok (.bipush 26, 2) := by decide +kernel
theorem d_Md_makeTag_207 : decode c_Md_makeTag 207 = .ok (.idiv, 1) := by decide +kernel
theorem d_Md_makeTag_208 : decode c_Md_makeTag 208 = .ok (.laload, 1) := by decide +kernel
theorem d_Md_makeTag_209 : decode c_Md_makeTag 209 = .ok (.iload 6, 2) := by decide +kernel
theorem d_Md_makeTag_211 : decode c_Md_makeTag 211 = .ok (.bipush 26, 2) := by decide +kernel
theorem d_Md_makeTag_213 : decode c_Md_makeTag 213 = .ok (.irem, 1) := by decide +kernel
theorem d_Md_makeTag_214 : decode c_Md_makeTag 214 = .ok (.lshr, 1) := by decide +kernel
theorem d_Md_makeTag_215 : decode c_Md_makeTag 215 = .ok (.lconst 1, 1) := by decide +kernel
theorem d_Md_makeTag_216 : decode c_Md_makeTag 216 = .ok (.land, 1) := by decide +kernel
theorem d_Md_makeTag_217 : decode c_Md_makeTag 217 = .ok (.l2i, 1) := by decide +kernel
theorem d_Md_makeTag_218 : decode c_Md_makeTag 218 = .ok (.iload 5, 2) := by decide +kernel
theorem d_Md_makeTag_220 : decode c_Md_makeTag 220 = .ok (.ishl, 1) := by decide +kernel
theorem d_Md_makeTag_221 : decode c_Md_makeTag 221 = .ok (.ior, 1) := by decide +kernel
theorem d_Md_makeTag_222 : decode c_Md_makeTag 222 = .ok (.istore 4, 2) := by decide +kernel
theorem d_Md_makeTag_224 : decode c_Md_makeTag 224 = .ok (.iinc 5 1, 3) := by decide +kernel
theorem d_Md_makeTag_227 : decode c_Md_makeTag 227 = .ok (.goto (-46), 3) := by decide +kernel
theorem d_Md_makeTag_230 : decode c_Md_makeTag 230 = .ok (.iload 4, 2) := by decide +kernel
theorem d_Md_makeTag_232 : decode c_Md_makeTag 232 = .ok (.aload_n 0, 1) := by decide +kernel
theorem d_Md_makeTag_233 : decode c_Md_makeTag 233 = .ok (.getfield 13, 3) := by decide +kernel
theorem d_Md_makeTag_236 : decode c_Md_makeTag 236 = .ok (.bipush 16, 2) := by decide +kernel
theorem d_Md_makeTag_238 : decode c_Md_makeTag 238 = .ok (.iload_n 3, 1) := by decide +kernel
theorem d_Md_makeTag_239 : decode c_Md_makeTag 239 = .ok (.iadd, 1) := by decide +kernel
theorem d_Md_makeTag_240 : decode c_Md_makeTag 240 = .ok (.iaload, 1) := by decide +kernel
theorem d_Md_makeTag_241 : decode c_Md_makeTag 241 = .ok (.iadd, 1) := by decide +kernel
theorem d_Md_makeTag_242 : decode c_Md_makeTag 242 = .ok (.iload_n 2, 1) := by decide +kernel
theorem d_Md_makeTag_243 : decode c_Md_makeTag 243 = .ok (.iadd, 1) := by decide +kernel
theorem d_Md_makeTag_244 : decode c_Md_makeTag 244 = .ok (.istore 5, 2) := by decide +kernel
theorem d_Md_makeTag_246 : decode c_Md_makeTag 246 = .ok (.aload_n 0, 1) := by decide +kernel
theorem d_Md_makeTag_247 : decode c_Md_makeTag 247 = .ok (.getfield 44, 3) := by decide +kernel
theorem d_Md_makeTag_250 : decode c_Md_makeTag 250 = .ok (.iload_n 3, 1) := by decide +kernel
theorem d_Md_makeTag_251 : decode c_Md_makeTag 251 = .ok (.iload 5, 2) := by decide +kernel
theorem d_Md_makeTag_253 : decode c_Md_makeTag 253 = .ok (.sipush 255, 3) := by decide +kernel
theorem d_Md_makeTag_256 : decode c_Md_makeTag 256 = .ok (.iand, 1) := by decide +kernel
theorem d_Md_makeTag_257 : decode c_Md_makeTag 257 = .ok (.iastore, 1) := by decide +kernel
theorem d_Md_makeTag_258 : decode c_Md_makeTag 258 = .ok (.iload 5, 2) := by decide +kernel
theorem d_Md_makeTag_260 : decode c_Md_makeTag 260 = .ok (.bipush 8, 2) := by decide +kernel
theorem d_Md_makeTag_262 : decode c_Md_makeTag 262 = .ok (.ishr, 1) := by decide +kernel
theorem d_Md_makeTag_263 : decode c_Md_makeTag 263 = .ok (.istore_n 2, 1) := by decide +kernel
theorem d_Md_makeTag_264 : decode c_Md_makeTag 264 = .ok (.iinc 3 1, 3) := by decide +kernel
theorem d_Md_makeTag_267 : decode c_Md_makeTag 267 = .ok (.goto (-98), 3) := by decide +kernel
theorem d_Md_makeTag_270 : decode c_Md_makeTag 270 = .ok (.return_, 1) := by decide +kernel
set_option maxRecDepth 100000 in
set_option maxHeartbeats 4000000 in
/-- TAG -/
theorem m_Md_makeTag (l : Launch) (G : wG) (A : Nat → Prop) (ad : Nat → Nat) (ev : Nat → va_E) (n : Nat) (K Y Z : Nat → Nat) (a r dd : Row) (tl ol cd : Nat) (h37 : ev 37 = eO 5 [.ref (ad 38), .int (nI tl), .int (nI ol), .int (nI cd), .ref (ad 39), .ref (ad 40), .ref (ad 41), .ref (ad 42), .ref (ad 43), .ref (ad 44), .ref (ad 45), .ref (ad 46), .ref (ad 47), .ref (ad 48), .ref (ad 49), .ref (ad 50)]) (hn : n ≤ 112) (h39 : ev 39 = eI G 32 (ns K)) (h50 : ev 50 = eI G 112 (ns Y)) (hK : ∀ j, K j < 256) (hY : ∀ j, Y j < 256) (h46 : ev 46 = eJ G 5 a) (h47 : ev 47 = eJ G 5 r) (h48 : ev 48 = eJ G 5 dd) (h49 : ev 49 = eI G 16 (ns Z)) : wM l y_Md_makeTag w_Md_makeTag ({ frames := 6, cells := 0, slots := 0, locals := 200 }) G A 52 ad ev [.ref (ad 37), .int (nI (n))] (fun ov ev' => ov = none ∧ ∃ r46 r47 r48 : Row, ev' = (va_up (va_up (va_up (va_up ev 46 (eJ G 5 r46)) 47 (eJ G 5 r47)) 48 (eJ G 5 r48)) 49 (eI G 16 (ns (TAGM K Y 0 n))))) := by
  refine wv_ofW (cc := c_Md_makeTag) (maxL := 7) (ret := none) (by decide) rfl (Nat.le_of_ble_eq_true rfl) ?_
  intro p e s m below meth c ls hx hb hr hml hts hown hlocks hini h hl
  have hl : lv_has ls 7 [(0, .ref (ad 37)), (1, .int (nI (n)))] := hl
  refine lv_iconst (v := nI (0)) hx hb d_Md_makeTag_0 (by decide) ?_
  refine lv_istore_n (lv' := [(2, .int (nI (0))), (0, .ref (ad 37)), (1, .int (nI (n)))]) hx hb d_Md_makeTag_1 rfl hl (by decide) rfl (fun ls hl => ?_)
  have loop1 : ∀ (d k : Nat), k + d = 5 →  ∀ (ev1 : Nat → va_E) (H : Heap) (locs : List Loc) (ls : Array Slot), ev1 = (va_up (va_up ev 46 (eJ G 5 (fil 0 k (fun _ => 0) a))) 47 (eJ G 5 (fil 0 k (fun _ => 0) r))) → wT G A 52 ad ev1 s H locs → lv_has ls 7 [(2, .int (nI (k))), (0, .ref (ad 37)), (1, .int (nI (n)))] → W p l e ({ frames := 6, cells := 0, slots := 0, locals := 200 }) s m ([.ref (ad 37), .int (nI (n))] : List Value).toArray below meth c H locs 0 0 (MQ below (wQc G A 52 ad (fun ov ev' => ov = none ∧ ∃ r46 r47 r48 : Row, ev' = (va_up (va_up (va_up (va_up ev 46 (eJ G 5 r46)) 47 (eJ G 5 r47)) 48 (eJ G 5 r48)) 49 (eI G 16 (ns (TAGM K Y 0 n)))))) ([.ref (ad 37), .int (nI (n))] : List Value).toArray s 0 0 A) (F0 m 2 ls []) := by
    intro d
    induction d with
    | zero =>
      intro k hk_k  ev1 H locs ls  o1 h hl
      have t1_46 : ev1 46 = eJ G 5 (fil 0 k (fun _ => 0) a) := by rw [o1, va_up_ne _ _ (by decide), va_up_self]
      have t1_47 : ev1 47 = eJ G 5 (fil 0 k (fun _ => 0) r) := by rw [o1, va_up_self]
      have t1_39 := (show ev1 39 = ev 39 by rw [o1, va_up_ne _ _ (by decide), va_up_ne _ _ (by decide)]).trans h39
      have t1_50 := (show ev1 50 = ev 50 by rw [o1, va_up_ne _ _ (by decide), va_up_ne _ _ (by decide)]).trans h50
      have t1_48 := (show ev1 48 = ev 48 by rw [o1, va_up_ne _ _ (by decide), va_up_ne _ _ (by decide)]).trans h48
      have t1_49 := (show ev1 49 = ev 49 by rw [o1, va_up_ne _ _ (by decide), va_up_ne _ _ (by decide)]).trans h49
      have t1_37 := (show ev1 37 = ev 37 by rw [o1, va_up_ne _ _ (by decide), va_up_ne _ _ (by decide)]).trans h37
      refine lv_iload_n hx hb d_Md_makeTag_2 rfl (lv_at hl 0 rfl) ?_
      refine lv_iconst (v := nI (5)) hx hb d_Md_makeTag_3 (by decide) ?_
      refine lv_icmp_ge (tgt := 27) hx hb d_Md_makeTag_4 (by decide) (fun _ => ?_) (fun hc => absurd ((nI_leI (by omega) (by omega)).mpr (by omega)) hc)
      have h := wT_eqJ (g := (fun _ => 0)) h 46 (by decide) t1_46 (fun j hj => by unfold fil; rw [if_pos (by omega)])
      obtain ⟨ev2, o2⟩ : ∃ z, z = va_up ev1 46 (eJ G 5 (fun _ => 0)) := ⟨_, rfl⟩
      rw [← o2] at h
      have t2_46 : ev2 46 = eJ G 5 (fun _ => 0) := by rw [o2, va_up_self]
      have t2_39 := (show ev2 39 = ev1 39 by rw [o2, va_up_ne _ _ (by decide)]).trans t1_39
      have t2_50 := (show ev2 50 = ev1 50 by rw [o2, va_up_ne _ _ (by decide)]).trans t1_50
      have t2_47 := (show ev2 47 = ev1 47 by rw [o2, va_up_ne _ _ (by decide)]).trans t1_47
      have t2_48 := (show ev2 48 = ev1 48 by rw [o2, va_up_ne _ _ (by decide)]).trans t1_48
      have t2_49 := (show ev2 49 = ev1 49 by rw [o2, va_up_ne _ _ (by decide)]).trans t1_49
      have t2_37 := (show ev2 37 = ev1 37 by rw [o2, va_up_ne _ _ (by decide)]).trans t1_37
      have h := wT_eqJ (g := (fun _ => 0)) h 47 (by decide) t2_47 (fun j hj => by unfold fil; rw [if_pos (by omega)])
      obtain ⟨ev3, o3⟩ : ∃ z, z = va_up ev2 47 (eJ G 5 (fun _ => 0)) := ⟨_, rfl⟩
      rw [← o3] at h
      have t3_47 : ev3 47 = eJ G 5 (fun _ => 0) := by rw [o3, va_up_self]
      have t3_39 := (show ev3 39 = ev2 39 by rw [o3, va_up_ne _ _ (by decide)]).trans t2_39
      have t3_50 := (show ev3 50 = ev2 50 by rw [o3, va_up_ne _ _ (by decide)]).trans t2_50
      have t3_46 := (show ev3 46 = ev2 46 by rw [o3, va_up_ne _ _ (by decide)]).trans t2_46
      have t3_48 := (show ev3 48 = ev2 48 by rw [o3, va_up_ne _ _ (by decide)]).trans t2_48
      have t3_49 := (show ev3 49 = ev2 49 by rw [o3, va_up_ne _ _ (by decide)]).trans t2_49
      have t3_37 := (show ev3 37 = ev2 37 by rw [o3, va_up_ne _ _ (by decide)]).trans t2_37
      refine lv_iconst (v := nI (0)) hx hb d_Md_makeTag_27 (by decide) ?_
      refine lv_istore_n (lv' := [(2, .int (nI (0))), (0, .ref (ad 37)), (1, .int (nI (n)))]) hx hb d_Md_makeTag_28 rfl hl (by decide) rfl (fun ls hl => ?_)
      have loop4 : ∀ (d k2 : Nat), k2 + d = 16 →  ∀ (ev4 : Nat → va_E) (H : Heap) (locs : List Loc) (ls : Array Slot), ev4 = (va_up ev3 47 (eJ G 5 (adBit (fun _ => 0) (FCT K) (8 * k2)))) → wT G A 52 ad ev4 s H locs → lv_has ls 7 [(2, .int (nI (k2))), (0, .ref (ad 37)), (1, .int (nI (n)))] → W p l e ({ frames := 6, cells := 0, slots := 0, locals := 200 }) s m ([.ref (ad 37), .int (nI (n))] : List Value).toArray below meth c H locs 0 0 (MQ below (wQc G A 52 ad (fun ov ev' => ov = none ∧ ∃ r46 r47 r48 : Row, ev' = (va_up (va_up (va_up (va_up ev 46 (eJ G 5 r46)) 47 (eJ G 5 r47)) 48 (eJ G 5 r48)) 49 (eI G 16 (ns (TAGM K Y 0 n)))))) ([.ref (ad 37), .int (nI (n))] : List Value).toArray s 0 0 A) (F0 m 29 ls []) := by
        intro d
        induction d with
        | zero =>
          intro k2 hk_k2  ev4 H locs ls  o4 h hl
          have t4_47 : ev4 47 = eJ G 5 (adBit (fun _ => 0) (FCT K) (8 * k2)) := by rw [o4, va_up_self]
          have t4_39 := (show ev4 39 = ev3 39 by rw [o4, va_up_ne _ _ (by decide)]).trans t3_39
          have t4_50 := (show ev4 50 = ev3 50 by rw [o4, va_up_ne _ _ (by decide)]).trans t3_50
          have t4_46 := (show ev4 46 = ev3 46 by rw [o4, va_up_ne _ _ (by decide)]).trans t3_46
          have t4_48 := (show ev4 48 = ev3 48 by rw [o4, va_up_ne _ _ (by decide)]).trans t3_48
          have t4_49 := (show ev4 49 = ev3 49 by rw [o4, va_up_ne _ _ (by decide)]).trans t3_49
          have t4_37 := (show ev4 37 = ev3 37 by rw [o4, va_up_ne _ _ (by decide)]).trans t3_37
          refine lv_iload_n hx hb d_Md_makeTag_29 rfl (lv_at hl 0 rfl) ?_
          refine lv_bipush (v := nI (16)) hx hb d_Md_makeTag_30 (by decide) ?_
          refine lv_icmp_ge (tgt := 60) hx hb d_Md_makeTag_32 (by decide) (fun _ => ?_) (fun hc => absurd ((nI_leI (by omega) (by omega)).mpr (by omega)) hc)
          rw [show k2 = 16 by omega] at t4_47
          have t4_47x : ev4 47 = eJ G 5 (rT K) := t4_47
          refine lv_iconst (v := nI (0)) hx hb d_Md_makeTag_60 (by decide) ?_
          refine lv_istore_n (lv' := [(2, .int (nI (0))), (0, .ref (ad 37)), (1, .int (nI (n)))]) hx hb d_Md_makeTag_61 rfl hl (by decide) rfl (fun ls hl => ?_)
          have loop5 : ∀ (d k3 : Nat), k3 + d = (n + 15) / 16 → ∀ (dx : Row),  ∀ (ev5 : Nat → va_E) (H : Heap) (locs : List Loc) (ls : Array Slot), ev5 = (va_up (va_up ev4 48 (eJ G 5 dx)) 46 (eJ G 5 (tT (rT K) Y n k3))) → wT G A 52 ad ev5 s H locs → lv_has ls 7 [(2, .int (nI (16 * k3))), (0, .ref (ad 37)), (1, .int (nI (n)))] → W p l e ({ frames := 6, cells := 0, slots := 0, locals := 200 }) s m ([.ref (ad 37), .int (nI (n))] : List Value).toArray below meth c H locs 0 0 (MQ below (wQc G A 52 ad (fun ov ev' => ov = none ∧ ∃ r46 r47 r48 : Row, ev' = (va_up (va_up (va_up (va_up ev 46 (eJ G 5 r46)) 47 (eJ G 5 r47)) 48 (eJ G 5 r48)) 49 (eI G 16 (ns (TAGM K Y 0 n)))))) ([.ref (ad 37), .int (nI (n))] : List Value).toArray s 0 0 A) (F0 m 62 ls []) := by
            intro d
            induction d with
            | zero =>
              intro k3 hk_k3 dx ev5 H locs ls  o5 h hl
              have t5_48 : ev5 48 = eJ G 5 dx := by rw [o5, va_up_ne _ _ (by decide), va_up_self]
              have t5_46 : ev5 46 = eJ G 5 (tT (rT K) Y n k3) := by rw [o5, va_up_self]
              have t5_39 := (show ev5 39 = ev4 39 by rw [o5, va_up_ne _ _ (by decide), va_up_ne _ _ (by decide)]).trans t4_39
              have t5_50 := (show ev5 50 = ev4 50 by rw [o5, va_up_ne _ _ (by decide), va_up_ne _ _ (by decide)]).trans t4_50
              have t5_47 := (show ev5 47 = ev4 47 by rw [o5, va_up_ne _ _ (by decide), va_up_ne _ _ (by decide)]).trans t4_47x
              have t5_49 := (show ev5 49 = ev4 49 by rw [o5, va_up_ne _ _ (by decide), va_up_ne _ _ (by decide)]).trans t4_49
              have t5_37 := (show ev5 37 = ev4 37 by rw [o5, va_up_ne _ _ (by decide), va_up_ne _ _ (by decide)]).trans t4_37
              refine lv_iload_n hx hb d_Md_makeTag_62 rfl (lv_at hl 0 rfl) ?_
              refine lv_iload_n hx hb d_Md_makeTag_63 rfl (lv_at hl 2 rfl) ?_
              refine lv_icmp_ge (tgt := 161) hx hb d_Md_makeTag_64 (by decide) (fun _ => ?_) (fun hc => absurd ((nI_leI (by omega) (by omega)).mpr (by omega)) hc)
              rw [show k3 = (n + 15) / 16 by omega] at t5_46
              refine lv_aload_n hx hb d_Md_makeTag_161 rfl (lv_at hl 1 rfl) ?_
              refine wv_V (As := []) (rest := []) (k := 0) ⟨hx, hb, hml, hown, hts⟩ h 37 (by decide) (C := "NonceBoxModel") t5_37 rfl (m_Md_finishTag l G A ad ev5 (tT (rT K) Y n ((n + 15) / 16)) tl ol cd t5_37 t5_46) kc_Md_finishTag kl_Md_130 km_Md_finishTag kv_Md_finishTag ki_Md (by decide +kernel) ⟨rfl, rfl, Nat.le_of_ble_eq_true rfl, Nat.le_of_ble_eq_true rfl⟩ hl.1 rfl rfl (Nat.le_of_ble_eq_true rfl) ⟨Nat.le_refl _, Nat.le_refl _⟩ d_Md_makeTag_162 ?_
              intro ov ev6 H locs hp h
              rw [hp.1]
              refine W.eq (g2 := F0 m 165 ls []) rfl ?_
              have o6 : ev6 = (va_up ev5 46 (eJ G 5 (finT (tT (rT K) Y n ((n + 15) / 16))))) := hp.2
              have t6_46 : ev6 46 = eJ G 5 (finT (tT (rT K) Y n ((n + 15) / 16))) := by rw [o6, va_up_self]
              have t6_39 := (show ev6 39 = ev5 39 by rw [o6, va_up_ne _ _ (by decide)]).trans t5_39
              have t6_50 := (show ev6 50 = ev5 50 by rw [o6, va_up_ne _ _ (by decide)]).trans t5_50
              have t6_47 := (show ev6 47 = ev5 47 by rw [o6, va_up_ne _ _ (by decide)]).trans t5_47
              have t6_48 := (show ev6 48 = ev5 48 by rw [o6, va_up_ne _ _ (by decide)]).trans t5_48
              have t6_49 := (show ev6 49 = ev5 49 by rw [o6, va_up_ne _ _ (by decide)]).trans t5_49
              have t6_37 := (show ev6 37 = ev5 37 by rw [o6, va_up_ne _ _ (by decide)]).trans t5_37
              obtain ⟨fa, hfa⟩ : ∃ z, z = finT (tT (rT K) Y n ((n + 15) / 16)) := ⟨_, rfl⟩
              obtain ⟨hD, hvV⟩ := fin_eq (n := n) hK hY
              rw [← hfa] at hD hvV o6 t6_46
              obtain ⟨V, hV⟩ : ∃ V : Nat, (V : Int) = vI fa 5 := ⟨(vI fa 5).toNat, Int.toNat_of_nonneg (Dg_v hD).1⟩
              obtain ⟨S, hS⟩ : ∃ S, S = wd8 K 16 16 := ⟨_, rfl⟩
              have hT : ∀ j, TAGM K Y 0 n j = (V + S) / 2 ^ (8 * j) % 256 := by
                intro j
                unfold TAGM tagI
                rw [← hvV, ← hV, ← hS, ← Int.natCast_add]
                have e : (((V + S : Nat) : Int) / 2 ^ (8 * j) % 256) = (((V + S) / 2 ^ (8 * j) % 256 : Nat) : Int) := by
                  rw [Int.natCast_emod, Int.natCast_ediv, Int.natCast_pow]
                  rfl
                rw [e]
                rfl
              have hSd : ∀ k, k < 16 → S / 2 ^ (8 * k) % 256 = K (16 + k) := fun k hk => by rw [hS]; exact wd8_dig hK 16 16 k hk
              have hVb : ∀ t, t < 130 → (sar (fa (t / 26)) (t % 26) &&& 1).toInt32 = nI (V / 2 ^ t % 2) := by
                intro t ht
                rw [bit_i hD (by omega), ← hV]
                congr 1
              refine lv_iconst (v := nI (0)) hx hb d_Md_makeTag_165 (by decide) ?_
              refine lv_istore_n (lv' := [(2, .int (nI (0))), (0, .ref (ad 37)), (1, .int (nI (n)))]) hx hb d_Md_makeTag_166 rfl hl (by decide) rfl (fun ls hl => ?_)
              refine lv_iconst (v := nI (0)) hx hb d_Md_makeTag_167 (by decide) ?_
              refine lv_istore_n (lv' := [(3, .int (nI (0))), (2, .int (nI (0))), (0, .ref (ad 37)), (1, .int (nI (n)))]) hx hb d_Md_makeTag_168 rfl hl (by decide) rfl (fun ls hl => ?_)
              have loop7 : ∀ (d k4 : Nat), k4 + d = 16 →  ∀ (ev7 : Nat → va_E) (H : Heap) (locs : List Loc) (ls : Array Slot), ev7 = (va_up ev6 49 (eI G 16 (ns (fil 0 k4 (TAGM K Y 0 n) Z)))) → wT G A 52 ad ev7 s H locs → lv_has ls 7 [(3, .int (nI (k4))), (2, .int (nI (ocB V S k4))), (0, .ref (ad 37)), (1, .int (nI (n)))] → W p l e ({ frames := 6, cells := 0, slots := 0, locals := 200 }) s m ([.ref (ad 37), .int (nI (n))] : List Value).toArray below meth c H locs 0 0 (MQ below (wQc G A 52 ad (fun ov ev' => ov = none ∧ ∃ r46 r47 r48 : Row, ev' = (va_up (va_up (va_up (va_up ev 46 (eJ G 5 r46)) 47 (eJ G 5 r47)) 48 (eJ G 5 r48)) 49 (eI G 16 (ns (TAGM K Y 0 n)))))) ([.ref (ad 37), .int (nI (n))] : List Value).toArray s 0 0 A) (F0 m 169 ls []) := by
                intro d
                induction d with
                | zero =>
                  intro k4 hk_k4  ev7 H locs ls  o7 h hl
                  have t7_49 : ev7 49 = eI G 16 (ns (fil 0 k4 (TAGM K Y 0 n) Z)) := by rw [o7, va_up_self]
                  have t7_39 := (show ev7 39 = ev6 39 by rw [o7, va_up_ne _ _ (by decide)]).trans t6_39
                  have t7_50 := (show ev7 50 = ev6 50 by rw [o7, va_up_ne _ _ (by decide)]).trans t6_50
                  have t7_46 := (show ev7 46 = ev6 46 by rw [o7, va_up_ne _ _ (by decide)]).trans t6_46
                  have t7_47 := (show ev7 47 = ev6 47 by rw [o7, va_up_ne _ _ (by decide)]).trans t6_47
                  have t7_48 := (show ev7 48 = ev6 48 by rw [o7, va_up_ne _ _ (by decide)]).trans t6_48
                  have t7_37 := (show ev7 37 = ev6 37 by rw [o7, va_up_ne _ _ (by decide)]).trans t6_37
                  refine lv_iload_n hx hb d_Md_makeTag_169 rfl (lv_at hl 0 rfl) ?_
                  refine lv_bipush (v := nI (16)) hx hb d_Md_makeTag_170 (by decide) ?_
                  refine lv_icmp_ge (tgt := 270) hx hb d_Md_makeTag_172 (by decide) (fun _ => ?_) (fun hc => absurd ((nI_leI (by omega) (by omega)).mpr (by omega)) hc)
                  have h := wT_eqI (g := (ns (TAGM K Y 0 n))) h 49 (by decide) t7_49 (fun j hj => by unfold ns fil; rw [if_pos (by omega), Nat.sub_zero])
                  obtain ⟨ev8, o8⟩ : ∃ z, z = va_up ev7 49 (eI G 16 (ns (TAGM K Y 0 n))) := ⟨_, rfl⟩
                  rw [← o8] at h
                  have t8_49 : ev8 49 = eI G 16 (ns (TAGM K Y 0 n)) := by rw [o8, va_up_self]
                  have t8_39 := (show ev8 39 = ev7 39 by rw [o8, va_up_ne _ _ (by decide)]).trans t7_39
                  have t8_50 := (show ev8 50 = ev7 50 by rw [o8, va_up_ne _ _ (by decide)]).trans t7_50
                  have t8_46 := (show ev8 46 = ev7 46 by rw [o8, va_up_ne _ _ (by decide)]).trans t7_46
                  have t8_47 := (show ev8 47 = ev7 47 by rw [o8, va_up_ne _ _ (by decide)]).trans t7_47
                  have t8_48 := (show ev8 48 = ev7 48 by rw [o8, va_up_ne _ _ (by decide)]).trans t7_48
                  have t8_37 := (show ev8 37 = ev7 37 by rw [o8, va_up_ne _ _ (by decide)]).trans t7_37
                  refine wv_vret hx hb hr hlocks h d_Md_makeTag_270 ⟨rfl, fa, (rT K), dx, ?_⟩
                  funext j
                  by_cases c0 : j = 46
                  · rw [c0, t8_46, va_up_ne _ _ (by decide), va_up_ne _ _ (by decide), va_up_ne _ _ (by decide), va_up_self]
                  by_cases c1 : j = 47
                  · rw [c1, t8_47, va_up_ne _ _ (by decide), va_up_ne _ _ (by decide), va_up_self]
                  by_cases c2 : j = 48
                  · rw [c2, t8_48, va_up_ne _ _ (by decide), va_up_self]
                  by_cases c3 : j = 49
                  · rw [c3, t8_49, va_up_self]
                  rw [va_up_ne _ _ c3, va_up_ne _ _ c2, va_up_ne _ _ c1, va_up_ne _ _ c0]
                  rw [o8, va_up_ne _ _ c3, o7, va_up_ne _ _ c3, o6, va_up_ne _ _ c0, o5, va_up_ne _ _ c0, va_up_ne _ _ c2, o4, va_up_ne _ _ c1, o3, va_up_ne _ _ c1, o2, va_up_ne _ _ c0, o1, va_up_ne _ _ c1, va_up_ne _ _ c0]
                | succ d ih =>
                  intro k4 hk_k4  ev7 H locs ls  o7 h hl
                  have t7_49 : ev7 49 = eI G 16 (ns (fil 0 k4 (TAGM K Y 0 n) Z)) := by rw [o7, va_up_self]
                  have t7_39 := (show ev7 39 = ev6 39 by rw [o7, va_up_ne _ _ (by decide)]).trans t6_39
                  have t7_50 := (show ev7 50 = ev6 50 by rw [o7, va_up_ne _ _ (by decide)]).trans t6_50
                  have t7_46 := (show ev7 46 = ev6 46 by rw [o7, va_up_ne _ _ (by decide)]).trans t6_46
                  have t7_47 := (show ev7 47 = ev6 47 by rw [o7, va_up_ne _ _ (by decide)]).trans t6_47
                  have t7_48 := (show ev7 48 = ev6 48 by rw [o7, va_up_ne _ _ (by decide)]).trans t6_48
                  have t7_37 := (show ev7 37 = ev6 37 by rw [o7, va_up_ne _ _ (by decide)]).trans t6_37
                  refine lv_iload_n hx hb d_Md_makeTag_169 rfl (lv_at hl 0 rfl) ?_
                  refine lv_bipush (v := nI (16)) hx hb d_Md_makeTag_170 (by decide) ?_
                  refine lv_icmp_ge (tgt := 270) hx hb d_Md_makeTag_172 (by decide) (fun hc => absurd ((nI_leI (by omega) (by omega)).mp hc) (by omega)) (fun _ => ?_)
                  have hoc := ocB_le V S k4
                  refine lv_iconst (v := nI (0)) hx hb d_Md_makeTag_175 (by decide) ?_
                  refine lv_istore (lv' := [(4, .int (nI (0))), (3, .int (nI (k4))), (2, .int (nI (ocB V S k4))), (0, .ref (ad 37)), (1, .int (nI (n)))]) hx hb d_Md_makeTag_176 hl (by decide) rfl (fun ls hl => ?_)
                  refine lv_iconst (v := nI (0)) hx hb d_Md_makeTag_178 (by decide) ?_
                  refine lv_istore (lv' := [(5, .int (nI (0))), (4, .int (nI (0))), (3, .int (nI (k4))), (2, .int (nI (ocB V S k4))), (0, .ref (ad 37)), (1, .int (nI (n)))]) hx hb d_Md_makeTag_179 hl (by decide) rfl (fun ls hl => ?_)
                  have loopb : ∀ (d b : Nat), b + d = 8 → ∀ (ls : Array Slot), lv_has ls 7 [(5, .int (nI (b))), (4, .int (nI (V / 2 ^ (8 * k4) % 2 ^ b))), (3, .int (nI (k4))), (2, .int (nI (ocB V S k4))), (0, .ref (ad 37)), (1, .int (nI (n)))] → W p l e ({ frames := 6, cells := 0, slots := 0, locals := 200 }) s m ([.ref (ad 37), .int (nI (n))] : List Value).toArray below meth c H locs 0 0 (MQ below (wQc G A 52 ad (fun ov ev' => ov = none ∧ ∃ r46 r47 r48 : Row, ev' = (va_up (va_up (va_up (va_up ev 46 (eJ G 5 r46)) 47 (eJ G 5 r47)) 48 (eJ G 5 r48)) 49 (eI G 16 (ns (TAGM K Y 0 n)))))) ([.ref (ad 37), .int (nI (n))] : List Value).toArray s 0 0 A) (F0 m 181 ls []) := by
                    intro d2
                    induction d2 with
                    | zero =>
                      intro b hb8 ls hl
                      refine lv_iload hx hb d_Md_makeTag_181 (lv_at hl 0 rfl) ?_
                      refine lv_bipush (v := nI (8)) hx hb d_Md_makeTag_183 (by decide) ?_
                      refine lv_icmp_ge (tgt := 230) hx hb d_Md_makeTag_185 (by decide) (fun _ => ?_) (fun hc => absurd ((nI_leI (by omega) (by omega)).mpr (by omega)) hc)
                      rw [show b = 8 by omega, show (2 : Nat) ^ 8 = 256 from rfl] at hl
                      have hKk := hK (16 + k4)
                      have hvb : V / 2 ^ (8 * k4) % 256 < 256 := Nat.mod_lt _ (by decide)
                      refine lv_iload hx hb d_Md_makeTag_230 (lv_at hl 1 rfl) ?_
                      refine lv_aload_n hx hb d_Md_makeTag_232 rfl (lv_at hl 4 rfl) ?_
                      refine wv_getf hx hb h 37 (by decide) (fs := [.ref (ad 38), .int (nI (tl)), .int (nI (ol)), .int (nI (cd)), .ref (ad 39), .ref (ad 40), .ref (ad 41), .ref (ad 42), .ref (ad 43), .ref (ad 44), .ref (ad 45), .ref (ad 46), .ref (ad 47), .ref (ad 48), .ref (ad 49), .ref (ad 50)]) t7_37 hts (fun w hw => List.mem_cons_of_mem _ (fW_Md w hw)) hown (ci := 5) (C := "NonceBoxModel") (T := fT_Md) (N := 16) rfl 4 (by decide) (hts _ (List.mem_cons_of_mem _ kf_Md_13)) rfl (v := .ref (ad 39)) rfl d_Md_makeTag_233 ?_
                      refine lv_bipush (v := nI (16)) hx hb d_Md_makeTag_236 (by decide) ?_
                      refine lv_iload_n hx hb d_Md_makeTag_238 rfl (lv_at hl 2 rfl) ?_
                      refine lv_iadd hx hb d_Md_makeTag_239 ?_
                      refine wv_top (w := nI (16 + k4)) (nI_add _ _) ?_
                      refine wv_iald hx hb h 39 (by decide) (f := (ns K)) t7_39 (k := 16 + k4) rfl (by omega) (by decide) d_Md_makeTag_240 ?_
                      refine wv_top (w := nI (K (16 + k4))) rfl ?_
                      refine lv_iadd hx hb d_Md_makeTag_241 ?_
                      refine wv_top (w := nI ((V / 2 ^ (8 * k4) % 256) + (K (16 + k4)))) (nI_add _ _) ?_
                      refine lv_iload_n hx hb d_Md_makeTag_242 rfl (lv_at hl 3 rfl) ?_
                      refine lv_iadd hx hb d_Md_makeTag_243 ?_
                      refine wv_top (w := nI (((V / 2 ^ (8 * k4) % 256) + (K (16 + k4))) + (ocB V S k4))) (nI_add _ _) ?_
                      refine lv_istore (lv' := [(5, .int (nI (((V / 2 ^ (8 * k4) % 256) + (K (16 + k4))) + (ocB V S k4)))), (4, .int (nI (V / 2 ^ (8 * k4) % 256))), (3, .int (nI (k4))), (2, .int (nI (ocB V S k4))), (0, .ref (ad 37)), (1, .int (nI (n)))]) hx hb d_Md_makeTag_244 hl (by decide) rfl (fun ls hl => ?_)
                      refine lv_aload_n hx hb d_Md_makeTag_246 rfl (lv_at hl 4 rfl) ?_
                      refine wv_getf hx hb h 37 (by decide) (fs := [.ref (ad 38), .int (nI (tl)), .int (nI (ol)), .int (nI (cd)), .ref (ad 39), .ref (ad 40), .ref (ad 41), .ref (ad 42), .ref (ad 43), .ref (ad 44), .ref (ad 45), .ref (ad 46), .ref (ad 47), .ref (ad 48), .ref (ad 49), .ref (ad 50)]) t7_37 hts (fun w hw => List.mem_cons_of_mem _ (fW_Md w hw)) hown (ci := 5) (C := "NonceBoxModel") (T := fT_Md) (N := 16) rfl 14 (by decide) (hts _ (List.mem_cons_of_mem _ kf_Md_44)) rfl (v := .ref (ad 49)) rfl d_Md_makeTag_247 ?_
                      refine lv_iload_n hx hb d_Md_makeTag_250 rfl (lv_at hl 2 rfl) ?_
                      refine lv_iload hx hb d_Md_makeTag_251 (lv_at hl 0 rfl) ?_
                      refine lv_sipush (v := (255 : Int32)) hx hb d_Md_makeTag_253 (by decide) ?_
                      refine lv_iand hx hb d_Md_makeTag_256 ?_
                      refine wv_top (w := nI ((V / 2 ^ (8 * k4) % 256 + K (16 + k4) + ocB V S k4) % 256)) (nsh8 (by omega)).2 ?_
                      refine wv_iast hx hb h 49 (by decide) (f := (ns (fil 0 k4 (TAGM K Y 0 n) Z))) t7_49 (k := k4) rfl (by omega) (by decide) d_Md_makeTag_257 (fun H locs h => ?_)
                      obtain ⟨ev8, o8⟩ : ∃ z, z = va_up ev7 49 (eI G 16 (va_up ((ns (fil 0 k4 (TAGM K Y 0 n) Z))) k4 (nI ((V / 2 ^ (8 * k4) % 256 + K (16 + k4) + ocB V S k4) % 256)))) := ⟨_, rfl⟩
                      rw [← o8] at h
                      have t8_49 : ev8 49 = eI G 16 (va_up ((ns (fil 0 k4 (TAGM K Y 0 n) Z))) k4 (nI ((V / 2 ^ (8 * k4) % 256 + K (16 + k4) + ocB V S k4) % 256))) := by rw [o8, va_up_self]
                      have t8_39 := (show ev8 39 = ev7 39 by rw [o8, va_up_ne _ _ (by decide)]).trans t7_39
                      have t8_50 := (show ev8 50 = ev7 50 by rw [o8, va_up_ne _ _ (by decide)]).trans t7_50
                      have t8_46 := (show ev8 46 = ev7 46 by rw [o8, va_up_ne _ _ (by decide)]).trans t7_46
                      have t8_47 := (show ev8 47 = ev7 47 by rw [o8, va_up_ne _ _ (by decide)]).trans t7_47
                      have t8_48 := (show ev8 48 = ev7 48 by rw [o8, va_up_ne _ _ (by decide)]).trans t7_48
                      have t8_37 := (show ev8 37 = ev7 37 by rw [o8, va_up_ne _ _ (by decide)]).trans t7_37
                      rw [ns_up _ _ ((V / 2 ^ (8 * k4) % 256 + K (16 + k4) + ocB V S k4) % 256) rfl] at o8
                      refine lv_iload hx hb d_Md_makeTag_258 (lv_at hl 0 rfl) ?_
                      refine lv_bipush (v := (8 : Int32)) hx hb d_Md_makeTag_260 (by decide) ?_
                      refine lv_ishr hx hb d_Md_makeTag_262 ?_
                      refine wv_top (w := nI ((V / 2 ^ (8 * k4) % 256 + K (16 + k4) + ocB V S k4) / 256)) (nsh8 (by omega)).1 ?_
                      refine lv_istore_n (lv' := [(2, .int (nI ((V / 2 ^ (8 * k4) % 256 + K (16 + k4) + ocB V S k4) / 256))), (5, .int (nI (((V / 2 ^ (8 * k4) % 256) + (K (16 + k4))) + (ocB V S k4)))), (4, .int (nI (V / 2 ^ (8 * k4) % 256))), (3, .int (nI (k4))), (0, .ref (ad 37)), (1, .int (nI (n)))]) hx hb d_Md_makeTag_263 rfl hl (by decide) rfl (fun ls hl => ?_)
                      refine lv_iinc (v := nI (k4 + 1)) (lv' := [(3, .int (nI (k4 + 1))), (2, .int (nI ((V / 2 ^ (8 * k4) % 256 + K (16 + k4) + ocB V S k4) / 256))), (5, .int (nI (((V / 2 ^ (8 * k4) % 256) + (K (16 + k4))) + (ocB V S k4)))), (4, .int (nI (V / 2 ^ (8 * k4) % 256))), (0, .ref (ad 37)), (1, .int (nI (n)))]) hx hb d_Md_makeTag_264 hl (k := 3) rfl (nI_add _ _) (by decide) rfl (fun ls hl => ?_)
                      refine lv_goto (tgt := 169) hx hb d_Md_makeTag_267 (by decide) ?_
                      have eo : ocB V S (k4 + 1) = (V / 2 ^ (8 * k4) % 256 + K (16 + k4) + ocB V S k4) / 256 := by rw [ocB, hSd k4 (by omega)]
                      rw [← eo] at hl
                      refine ih (k4 + 1) (by omega) ev8 H locs ls ?_ h (lv_sub hl [0, 1, 4, 5] rfl)
                      rw [o8, o7, va_up2, ← hSd k4 (by omega), sum_byte, ← hT k4, ← fil_s 0 k4 (TAGM K Y 0 n) Z rfl, Nat.zero_add]
                    | succ d2 ih2 =>
                      intro b hb8 ls hl
                      refine lv_iload hx hb d_Md_makeTag_181 (lv_at hl 0 rfl) ?_
                      refine lv_bipush (v := nI (8)) hx hb d_Md_makeTag_183 (by decide) ?_
                      refine lv_icmp_ge (tgt := 230) hx hb d_Md_makeTag_185 (by decide) (fun hc => absurd ((nI_leI (by omega) (by omega)).mp hc) (by omega)) (fun _ => ?_)
                      refine lv_bipush (v := nI (8)) hx hb d_Md_makeTag_188 (by decide) ?_
                      refine lv_iload_n hx hb d_Md_makeTag_190 rfl (lv_at hl 2 rfl) ?_
                      refine lv_imul hx hb d_Md_makeTag_191 ?_
                      refine wv_top (w := nI (8 * k4)) (pk_mul _ _) ?_
                      refine lv_iload hx hb d_Md_makeTag_192 (lv_at hl 0 rfl) ?_
                      refine lv_iadd hx hb d_Md_makeTag_194 ?_
                      refine wv_top (w := nI ((8 * k4) + b)) (nI_add _ _) ?_
                      refine lv_istore (lv' := [(6, .int (nI ((8 * k4) + b))), (5, .int (nI (b))), (4, .int (nI (V / 2 ^ (8 * k4) % 2 ^ b))), (3, .int (nI (k4))), (2, .int (nI (ocB V S k4))), (0, .ref (ad 37)), (1, .int (nI (n)))]) hx hb d_Md_makeTag_195 hl (by decide) rfl (fun ls hl => ?_)
                      refine lv_iload hx hb d_Md_makeTag_197 (lv_at hl 2 rfl) ?_
                      refine lv_aload_n hx hb d_Md_makeTag_199 rfl (lv_at hl 5 rfl) ?_
                      refine wv_getf hx hb h 37 (by decide) (fs := [.ref (ad 38), .int (nI (tl)), .int (nI (ol)), .int (nI (cd)), .ref (ad 39), .ref (ad 40), .ref (ad 41), .ref (ad 42), .ref (ad 43), .ref (ad 44), .ref (ad 45), .ref (ad 46), .ref (ad 47), .ref (ad 48), .ref (ad 49), .ref (ad 50)]) t7_37 hts (fun w hw => List.mem_cons_of_mem _ (fW_Md w hw)) hown (ci := 5) (C := "NonceBoxModel") (T := fT_Md) (N := 16) rfl 11 (by decide) (hts _ (List.mem_cons_of_mem _ kf_Md_35)) rfl (v := .ref (ad 46)) rfl d_Md_makeTag_200 ?_
                      refine lv_iload hx hb d_Md_makeTag_203 (lv_at hl 0 rfl) ?_
                      refine lv_bipush (v := nI (26)) hx hb d_Md_makeTag_205 (by decide) ?_
                      refine lv_idiv hx hb d_Md_makeTag_207 (by decide) ?_
                      refine wv_top (w := nI (((8 * k4) + b) / 26)) (pk_div (by omega) (by omega) (by omega)) ?_
                      refine wv_lald hx hb h 46 (by decide) (f := fa) t7_46 (k := ((8 * k4) + b) / 26) rfl (by omega) (by decide) d_Md_makeTag_208 ?_
                      refine lv_iload hx hb d_Md_makeTag_209 (lv_at hl 0 rfl) ?_
                      refine lv_bipush (v := nI (26)) hx hb d_Md_makeTag_211 (by decide) ?_
                      refine lv_irem hx hb d_Md_makeTag_213 (by decide) ?_
                      refine wv_top (w := nI (((8 * k4) + b) % 26)) (pk_rem (by omega) (by omega) (by omega)) ?_
                      refine lv_lshr (v := sar (fa (((8 * k4) + b) / 26)) (((8 * k4) + b) % 26)) hx hb d_Md_makeTag_214 rfl ?_
                      refine lv_lconst (v := 1) hx hb d_Md_makeTag_215 (by decide) ?_
                      refine lv_land hx hb d_Md_makeTag_216 ?_
                      refine lv_l2i hx hb d_Md_makeTag_217 rfl ?_
                      refine wv_top (w := nI (V / 2 ^ (8 * k4 + b) % 2)) (hVb _ (by omega)) ?_
                      refine lv_iload hx hb d_Md_makeTag_218 (lv_at hl 1 rfl) ?_
                      refine lv_ishl hx hb d_Md_makeTag_220 ?_
                      refine lv_ior hx hb d_Md_makeTag_221 ?_
                      refine wv_top (w := nI (V / 2 ^ (8 * k4) % 2 ^ (b + 1))) (by rw [Nat.pow_add, ← Nat.div_div_eq_div_mul]; exact or_s (by omega)) ?_
                      refine lv_istore (lv' := [(4, .int (nI (V / 2 ^ (8 * k4) % 2 ^ (b + 1)))), (6, .int (nI ((8 * k4) + b))), (5, .int (nI (b))), (3, .int (nI (k4))), (2, .int (nI (ocB V S k4))), (0, .ref (ad 37)), (1, .int (nI (n)))]) hx hb d_Md_makeTag_222 hl (by decide) rfl (fun ls hl => ?_)
                      refine lv_iinc (v := nI (b + 1)) (lv' := [(5, .int (nI (b + 1))), (4, .int (nI (V / 2 ^ (8 * k4) % 2 ^ (b + 1)))), (6, .int (nI ((8 * k4) + b))), (3, .int (nI (k4))), (2, .int (nI (ocB V S k4))), (0, .ref (ad 37)), (1, .int (nI (n)))]) hx hb d_Md_makeTag_224 hl (k := 2) rfl (nI_add _ _) (by decide) rfl (fun ls hl => ?_)
                      refine lv_goto (tgt := 181) hx hb d_Md_makeTag_227 (by decide) ?_
                      exact ih2 (b + 1) (by omega) ls (lv_sub hl [0, 1, 3, 4, 5, 6] rfl)
                  have hl : lv_has ls 7 [(5, .int (nI 0)), (4, .int (nI (V / 2 ^ (8 * k4) % 2 ^ 0))), (3, .int (nI (k4))), (2, .int (nI (ocB V S k4))), (0, .ref (ad 37)), (1, .int (nI (n)))] := by
                    rw [Nat.pow_zero, Nat.mod_one]
                    exact lv_sub hl [0, 1, 2, 3, 4, 5] rfl
                  exact loopb 8 0 rfl ls hl
              exact loop7 16 0 rfl ev6 H locs ls (by rw [fil_0, va_upi _ _ t6_49]) h (lv_sub hl [0, 1, 2, 3] rfl)
            | succ d ih =>
              intro k3 hk_k3 dx ev5 H locs ls  o5 h hl
              have t5_48 : ev5 48 = eJ G 5 dx := by rw [o5, va_up_ne _ _ (by decide), va_up_self]
              have t5_46 : ev5 46 = eJ G 5 (tT (rT K) Y n k3) := by rw [o5, va_up_self]
              have t5_39 := (show ev5 39 = ev4 39 by rw [o5, va_up_ne _ _ (by decide), va_up_ne _ _ (by decide)]).trans t4_39
              have t5_50 := (show ev5 50 = ev4 50 by rw [o5, va_up_ne _ _ (by decide), va_up_ne _ _ (by decide)]).trans t4_50
              have t5_47 := (show ev5 47 = ev4 47 by rw [o5, va_up_ne _ _ (by decide), va_up_ne _ _ (by decide)]).trans t4_47x
              have t5_49 := (show ev5 49 = ev4 49 by rw [o5, va_up_ne _ _ (by decide), va_up_ne _ _ (by decide)]).trans t4_49
              have t5_37 := (show ev5 37 = ev4 37 by rw [o5, va_up_ne _ _ (by decide), va_up_ne _ _ (by decide)]).trans t4_37
              refine lv_iload_n hx hb d_Md_makeTag_62 rfl (lv_at hl 0 rfl) ?_
              refine lv_iload_n hx hb d_Md_makeTag_63 rfl (lv_at hl 2 rfl) ?_
              refine lv_icmp_ge (tgt := 161) hx hb d_Md_makeTag_64 (by decide) (fun hc => absurd ((nI_leI (by omega) (by omega)).mp hc) (by omega)) (fun _ => ?_)
              refine lv_iload_n hx hb d_Md_makeTag_67 rfl (lv_at hl 2 rfl) ?_
              refine lv_iload_n hx hb d_Md_makeTag_68 rfl (lv_at hl 0 rfl) ?_
              refine lv_isub hx hb d_Md_makeTag_69 ?_
              refine wv_top (w := nI (n - (16 * k3))) (pk_sub (by omega)) ?_
              refine lv_bipush (v := nI (16)) hx hb d_Md_makeTag_70 (by decide) ?_
              refine lv_icmp_ge (tgt := 81) hx hb d_Md_makeTag_72 (by decide) (fun hc => ?_) (fun hc => ?_)
              · have hc := (nI_leI (by omega) (by omega)).mp hc
                refine lv_bipush (v := nI (16)) hx hb d_Md_makeTag_81 (by decide) ?_
                refine wv_top (w := nI (min 16 (n - 16 * k3))) (congrArg nI (by omega)) ?_
                refine lv_istore_n (lv' := [(3, .int (nI (min 16 (n - 16 * k3)))), (2, .int (nI (16 * k3))), (0, .ref (ad 37)), (1, .int (nI (n)))]) hx hb d_Md_makeTag_83 rfl hl (by decide) rfl (fun ls hl => ?_)
                refine lv_iconst (v := nI (0)) hx hb d_Md_makeTag_84 (by decide) ?_
                refine lv_istore (lv' := [(4, .int (nI (0))), (3, .int (nI (min 16 (n - 16 * k3)))), (2, .int (nI (16 * k3))), (0, .ref (ad 37)), (1, .int (nI (n)))]) hx hb d_Md_makeTag_85 hl (by decide) rfl (fun ls hl => ?_)
                obtain ⟨sz, hsz⟩ : ∃ sz, sz = min 16 (n - 16 * k3) := ⟨_, rfl⟩
                rw [← hsz] at hl
                have hs16 : sz ≤ 16 := by omega
                have hsn : 16 * k3 + sz ≤ n := by omega
                have loop6 : ∀ (d k5 : Nat), k5 + d = sz →  ∀ (ev6 : Nat → va_E) (H : Heap) (locs : List Loc) (ls : Array Slot), ev6 = (va_up ev5 46 (eJ G 5 (adBit (tT (rT K) Y n k3) (fun j => Y (16 * k3 + j)) (8 * k5)))) → wT G A 52 ad ev6 s H locs → lv_has ls 7 [(4, .int (nI (k5))), (3, .int (nI (sz))), (2, .int (nI (16 * k3))), (0, .ref (ad 37)), (1, .int (nI (n)))] → W p l e ({ frames := 6, cells := 0, slots := 0, locals := 200 }) s m ([.ref (ad 37), .int (nI (n))] : List Value).toArray below meth c H locs 0 0 (MQ below (wQc G A 52 ad (fun ov ev' => ov = none ∧ ∃ r46 r47 r48 : Row, ev' = (va_up (va_up (va_up (va_up ev 46 (eJ G 5 r46)) 47 (eJ G 5 r47)) 48 (eJ G 5 r48)) 49 (eI G 16 (ns (TAGM K Y 0 n)))))) ([.ref (ad 37), .int (nI (n))] : List Value).toArray s 0 0 A) (F0 m 87 ls []) := by
                  intro d
                  induction d with
                  | zero =>
                    intro k5 hk_k5  ev6 H locs ls  o6 h hl
                    have t6_46 : ev6 46 = eJ G 5 (adBit (tT (rT K) Y n k3) (fun j => Y (16 * k3 + j)) (8 * k5)) := by rw [o6, va_up_self]
                    have t6_39 := (show ev6 39 = ev5 39 by rw [o6, va_up_ne _ _ (by decide)]).trans t5_39
                    have t6_50 := (show ev6 50 = ev5 50 by rw [o6, va_up_ne _ _ (by decide)]).trans t5_50
                    have t6_47 := (show ev6 47 = ev5 47 by rw [o6, va_up_ne _ _ (by decide)]).trans t5_47
                    have t6_48 := (show ev6 48 = ev5 48 by rw [o6, va_up_ne _ _ (by decide)]).trans t5_48
                    have t6_49 := (show ev6 49 = ev5 49 by rw [o6, va_up_ne _ _ (by decide)]).trans t5_49
                    have t6_37 := (show ev6 37 = ev5 37 by rw [o6, va_up_ne _ _ (by decide)]).trans t5_37
                    refine lv_iload hx hb d_Md_makeTag_87 (lv_at hl 0 rfl) ?_
                    refine lv_iload_n hx hb d_Md_makeTag_89 rfl (lv_at hl 1 rfl) ?_
                    refine lv_icmp_ge (tgt := 117) hx hb d_Md_makeTag_90 (by decide) (fun _ => ?_) (fun hc => absurd ((nI_leI (by omega) (by omega)).mpr (by omega)) hc)
                    rw [show k5 = sz by omega] at t6_46
                    refine lv_aload_n hx hb d_Md_makeTag_117 rfl (lv_at hl 3 rfl) ?_
                    refine wv_getf hx hb h 37 (by decide) (fs := [.ref (ad 38), .int (nI (tl)), .int (nI (ol)), .int (nI (cd)), .ref (ad 39), .ref (ad 40), .ref (ad 41), .ref (ad 42), .ref (ad 43), .ref (ad 44), .ref (ad 45), .ref (ad 46), .ref (ad 47), .ref (ad 48), .ref (ad 49), .ref (ad 50)]) t6_37 hts (fun w hw => List.mem_cons_of_mem _ (fW_Md w hw)) hown (ci := 5) (C := "NonceBoxModel") (T := fT_Md) (N := 16) rfl 11 (by decide) (hts _ (List.mem_cons_of_mem _ kf_Md_35)) rfl (v := .ref (ad 46)) rfl d_Md_makeTag_118 ?_
                    refine lv_bipush (v := nI (8)) hx hb d_Md_makeTag_121 (by decide) ?_
                    refine lv_iload_n hx hb d_Md_makeTag_123 rfl (lv_at hl 1 rfl) ?_
                    refine lv_imul hx hb d_Md_makeTag_124 ?_
                    refine wv_top (w := nI (8 * sz)) (pk_mul _ _) ?_
                    refine lv_bipush (v := nI (26)) hx hb d_Md_makeTag_125 (by decide) ?_
                    refine lv_idiv hx hb d_Md_makeTag_127 (by decide) ?_
                    refine wv_top (w := nI ((8 * sz) / 26)) (pk_div (by omega) (by omega) (by omega)) ?_
                    refine lv_aload_n hx hb d_Md_makeTag_128 rfl (lv_at hl 3 rfl) ?_
                    refine wv_getf hx hb h 37 (by decide) (fs := [.ref (ad 38), .int (nI (tl)), .int (nI (ol)), .int (nI (cd)), .ref (ad 39), .ref (ad 40), .ref (ad 41), .ref (ad 42), .ref (ad 43), .ref (ad 44), .ref (ad 45), .ref (ad 46), .ref (ad 47), .ref (ad 48), .ref (ad 49), .ref (ad 50)]) t6_37 hts (fun w hw => List.mem_cons_of_mem _ (fW_Md w hw)) hown (ci := 5) (C := "NonceBoxModel") (T := fT_Md) (N := 16) rfl 11 (by decide) (hts _ (List.mem_cons_of_mem _ kf_Md_35)) rfl (v := .ref (ad 46)) rfl d_Md_makeTag_129 ?_
                    refine lv_bipush (v := nI (8)) hx hb d_Md_makeTag_132 (by decide) ?_
                    refine lv_iload_n hx hb d_Md_makeTag_134 rfl (lv_at hl 1 rfl) ?_
                    refine lv_imul hx hb d_Md_makeTag_135 ?_
                    refine wv_top (w := nI (8 * sz)) (pk_mul _ _) ?_
                    refine lv_bipush (v := nI (26)) hx hb d_Md_makeTag_136 (by decide) ?_
                    refine lv_idiv hx hb d_Md_makeTag_138 (by decide) ?_
                    refine wv_top (w := nI ((8 * sz) / 26)) (pk_div (by omega) (by omega) (by omega)) ?_
                    refine wv_lald hx hb h 46 (by decide) (f := (adBit (tT (rT K) Y n k3) (fun j => Y (16 * k3 + j)) (8 * sz))) t6_46 (k := (8 * sz) / 26) rfl (by omega) (by decide) d_Md_makeTag_139 ?_
                    refine lv_lconst (v := 1) hx hb d_Md_makeTag_140 (by decide) ?_
                    refine lv_bipush (v := nI (8)) hx hb d_Md_makeTag_141 (by decide) ?_
                    refine lv_iload_n hx hb d_Md_makeTag_143 rfl (lv_at hl 1 rfl) ?_
                    refine lv_imul hx hb d_Md_makeTag_144 ?_
                    refine wv_top (w := nI (8 * sz)) (pk_mul _ _) ?_
                    refine lv_bipush (v := nI (26)) hx hb d_Md_makeTag_145 (by decide) ?_
                    refine lv_irem hx hb d_Md_makeTag_147 (by decide) ?_
                    refine wv_top (w := nI ((8 * sz) % 26)) (pk_rem (by omega) (by omega) (by omega)) ?_
                    refine lv_lshl (v := sal 1 ((8 * sz) % 26)) hx hb d_Md_makeTag_148 rfl ?_
                    refine lv_ladd hx hb d_Md_makeTag_149 ?_
                    refine wv_last hx hb h 46 (by decide) (f := (adBit (tT (rT K) Y n k3) (fun j => Y (16 * k3 + j)) (8 * sz))) t6_46 (k := (8 * sz) / 26) rfl (by omega) (by decide) d_Md_makeTag_150 (fun H locs h => ?_)
                    obtain ⟨ev7, o7⟩ : ∃ z, z = va_up ev6 46 (eJ G 5 (va_up ((adBit (tT (rT K) Y n k3) (fun j => Y (16 * k3 + j)) (8 * sz))) ((8 * sz) / 26) ((((adBit (tT (rT K) Y n k3) (fun j => Y (16 * k3 + j)) (8 * sz))) ((8 * sz) / 26)) + (sal 1 ((8 * sz) % 26))))) := ⟨_, rfl⟩
                    rw [← o7] at h
                    have t7_46 : ev7 46 = eJ G 5 (va_up ((adBit (tT (rT K) Y n k3) (fun j => Y (16 * k3 + j)) (8 * sz))) ((8 * sz) / 26) ((((adBit (tT (rT K) Y n k3) (fun j => Y (16 * k3 + j)) (8 * sz))) ((8 * sz) / 26)) + (sal 1 ((8 * sz) % 26)))) := by rw [o7, va_up_self]
                    have t7_39 := (show ev7 39 = ev6 39 by rw [o7, va_up_ne _ _ (by decide)]).trans t6_39
                    have t7_50 := (show ev7 50 = ev6 50 by rw [o7, va_up_ne _ _ (by decide)]).trans t6_50
                    have t7_47 := (show ev7 47 = ev6 47 by rw [o7, va_up_ne _ _ (by decide)]).trans t6_47
                    have t7_48 := (show ev7 48 = ev6 48 by rw [o7, va_up_ne _ _ (by decide)]).trans t6_48
                    have t7_49 := (show ev7 49 = ev6 49 by rw [o7, va_up_ne _ _ (by decide)]).trans t6_49
                    have t7_37 := (show ev7 37 = ev6 37 by rw [o7, va_up_ne _ _ (by decide)]).trans t6_37
                    have t7_46x : ev7 46 = eJ G 5 (pl1 (adBit (tT (rT K) Y n k3) (fun j => Y (16 * k3 + j)) (8 * sz)) sz) := t7_46
                    refine lv_aload_n hx hb d_Md_makeTag_151 rfl (lv_at hl 3 rfl) ?_
                    refine wv_V (As := []) (rest := []) (k := 0) ⟨hx, hb, hml, hown, hts⟩ h 37 (by decide) (C := "NonceBoxModel") t7_37 rfl (m_Md_timesR l G A ad ev7 (pl1 (adBit (tT (rT K) Y n k3) (fun j => Y (16 * k3 + j)) (8 * sz)) sz) (rT K) dx tl ol cd t7_37 t7_46x t7_47 t7_48) kc_Md_timesR kl_Md_127 km_Md_timesR kv_Md_timesR ki_Md (by decide +kernel) ⟨rfl, rfl, Nat.le_of_ble_eq_true rfl, Nat.le_of_ble_eq_true rfl⟩ hl.1 rfl rfl (Nat.le_of_ble_eq_true rfl) ⟨Nat.le_refl _, Nat.le_refl _⟩ d_Md_makeTag_152 ?_
                    intro ov ev8 H locs hp h
                    obtain ⟨ho, d9, hp⟩ := hp
                    rw [ho]
                    refine W.eq (g2 := F0 m 155 ls []) rfl ?_
                    have o8 : ev8 = va_up (va_up ev7 48 (eJ G 5 d9)) 46 (eJ G 5 (tmR (pl1 (adBit (tT (rT K) Y n k3) (fun j => Y (16 * k3 + j)) (8 * sz)) sz) (rT K))) := hp
                    have t8_48 : ev8 48 = eJ G 5 d9 := by rw [o8, va_up_ne _ _ (by decide), va_up_self]
                    have t8_46 : ev8 46 = eJ G 5 (tmR (pl1 (adBit (tT (rT K) Y n k3) (fun j => Y (16 * k3 + j)) (8 * sz)) sz) (rT K)) := by rw [o8, va_up_self]
                    have t8_39 := (show ev8 39 = ev7 39 by rw [o8, va_up_ne _ _ (by decide), va_up_ne _ _ (by decide)]).trans t7_39
                    have t8_50 := (show ev8 50 = ev7 50 by rw [o8, va_up_ne _ _ (by decide), va_up_ne _ _ (by decide)]).trans t7_50
                    have t8_47 := (show ev8 47 = ev7 47 by rw [o8, va_up_ne _ _ (by decide), va_up_ne _ _ (by decide)]).trans t7_47
                    have t8_49 := (show ev8 49 = ev7 49 by rw [o8, va_up_ne _ _ (by decide), va_up_ne _ _ (by decide)]).trans t7_49
                    have t8_37 := (show ev8 37 = ev7 37 by rw [o8, va_up_ne _ _ (by decide), va_up_ne _ _ (by decide)]).trans t7_37
                    refine lv_iinc (v := nI ((16 * k3) + 16)) (lv' := [(2, .int (nI ((16 * k3) + 16))), (4, .int (nI (k5))), (3, .int (nI (sz))), (0, .ref (ad 37)), (1, .int (nI (n)))]) hx hb d_Md_makeTag_155 hl (k := 2) rfl (nI_add _ _) (by decide) rfl (fun ls hl => ?_)
                    rw [show 16 * k3 + 16 = 16 * (k3 + 1) by omega] at hl
                    refine lv_goto (tgt := 62) hx hb d_Md_makeTag_158 (by decide) ?_
                    refine ih (k3 + 1) (by omega) d9 ev8 H locs ls ?_ h (lv_sub hl [0, 3, 4] rfl)
                    rw [show tT (rT K) Y n (k3 + 1) = tmR (pl1 (adBit (tT (rT K) Y n k3) (fun j => Y (16 * k3 + j)) (8 * sz)) sz) (rT K) by rw [hsz]; rfl]
                    rw [o8, o7, o6, o5]
                    funext j
                    by_cases c0 : j = 48
                    · subst c0; simp [va_up]
                    by_cases c1 : j = 46
                    · subst c1; simp [va_up]
                    simp only [va_up, c0, c1, if_false]
                  | succ d ih5 =>
                    intro k5 hk_k5  ev6 H locs ls  o6 h hl
                    have t6_46 : ev6 46 = eJ G 5 (adBit (tT (rT K) Y n k3) (fun j => Y (16 * k3 + j)) (8 * k5)) := by rw [o6, va_up_self]
                    have t6_39 := (show ev6 39 = ev5 39 by rw [o6, va_up_ne _ _ (by decide)]).trans t5_39
                    have t6_50 := (show ev6 50 = ev5 50 by rw [o6, va_up_ne _ _ (by decide)]).trans t5_50
                    have t6_47 := (show ev6 47 = ev5 47 by rw [o6, va_up_ne _ _ (by decide)]).trans t5_47
                    have t6_48 := (show ev6 48 = ev5 48 by rw [o6, va_up_ne _ _ (by decide)]).trans t5_48
                    have t6_49 := (show ev6 49 = ev5 49 by rw [o6, va_up_ne _ _ (by decide)]).trans t5_49
                    have t6_37 := (show ev6 37 = ev5 37 by rw [o6, va_up_ne _ _ (by decide)]).trans t5_37
                    refine lv_iload hx hb d_Md_makeTag_87 (lv_at hl 0 rfl) ?_
                    refine lv_iload_n hx hb d_Md_makeTag_89 rfl (lv_at hl 1 rfl) ?_
                    refine lv_icmp_ge (tgt := 117) hx hb d_Md_makeTag_90 (by decide) (fun hc => absurd ((nI_leI (by omega) (by omega)).mp hc) (by omega)) (fun _ => ?_)
                    refine lv_aload_n hx hb d_Md_makeTag_93 rfl (lv_at hl 3 rfl) ?_
                    refine wv_getf hx hb h 37 (by decide) (fs := [.ref (ad 38), .int (nI (tl)), .int (nI (ol)), .int (nI (cd)), .ref (ad 39), .ref (ad 40), .ref (ad 41), .ref (ad 42), .ref (ad 43), .ref (ad 44), .ref (ad 45), .ref (ad 46), .ref (ad 47), .ref (ad 48), .ref (ad 49), .ref (ad 50)]) t6_37 hts (fun w hw => List.mem_cons_of_mem _ (fW_Md w hw)) hown (ci := 5) (C := "NonceBoxModel") (T := fT_Md) (N := 16) rfl 11 (by decide) (hts _ (List.mem_cons_of_mem _ kf_Md_35)) rfl (v := .ref (ad 46)) rfl d_Md_makeTag_94 ?_
                    refine lv_iload hx hb d_Md_makeTag_97 (lv_at hl 0 rfl) ?_
                    refine lv_aload_n hx hb d_Md_makeTag_99 rfl (lv_at hl 3 rfl) ?_
                    refine wv_getf hx hb h 37 (by decide) (fs := [.ref (ad 38), .int (nI (tl)), .int (nI (ol)), .int (nI (cd)), .ref (ad 39), .ref (ad 40), .ref (ad 41), .ref (ad 42), .ref (ad 43), .ref (ad 44), .ref (ad 45), .ref (ad 46), .ref (ad 47), .ref (ad 48), .ref (ad 49), .ref (ad 50)]) t6_37 hts (fun w hw => List.mem_cons_of_mem _ (fW_Md w hw)) hown (ci := 5) (C := "NonceBoxModel") (T := fT_Md) (N := 16) rfl 15 (by decide) (hts _ (List.mem_cons_of_mem _ kf_Md_47)) rfl (v := .ref (ad 50)) rfl d_Md_makeTag_100 ?_
                    refine lv_iload_n hx hb d_Md_makeTag_103 rfl (lv_at hl 2 rfl) ?_
                    refine lv_iload hx hb d_Md_makeTag_104 (lv_at hl 0 rfl) ?_
                    refine lv_iadd hx hb d_Md_makeTag_106 ?_
                    refine wv_top (w := nI ((16 * k3) + k5)) (nI_add _ _) ?_
                    refine wv_iald hx hb h 50 (by decide) (f := (ns Y)) t6_50 (k := (16 * k3) + k5) rfl (by omega) (by decide) d_Md_makeTag_107 ?_
                    refine wv_top (w := nI (Y (16 * k3 + k5))) rfl ?_
                    refine wv_Sx (As := [.ref (ad 46), .int (nI (k5)), .int (nI (Y (16 * k3 + k5)))]) (rest := []) (k := 3) ⟨hx, hb, hml, hown, hts⟩ h (m_Md_addByte l G A ad ev6 46 5 k5 (Y (16 * k3 + k5)) (adBit (tT (rT K) Y n k3) (fun j => Y (16 * k3 + j)) (8 * k5)) (by decide) t6_46 (by omega) (by omega) (hY _) (by decide)) kc_Md_addByte kl_Md_123 ks_Md_addByte ki_Md (by decide +kernel) ⟨rfl, rfl, Nat.le_of_ble_eq_true rfl, Nat.le_of_ble_eq_true rfl⟩ hl.1 rfl rfl (Nat.le_of_ble_eq_true rfl) ⟨Nat.le_refl _, Nat.le_refl _⟩ d_Md_makeTag_108 ?_
                    intro ov ev7 H locs hp h
                    rw [hp.1]
                    refine W.eq (g2 := F0 m 111 ls []) rfl ?_
                    have o7 : ev7 = (va_up ev6 46 (eJ G 5 (adT (adBit (tT (rT K) Y n k3) (fun j => Y (16 * k3 + j)) (8 * k5)) k5 (Y (16 * k3 + k5)) 8))) := hp.2
                    have t7_46 : ev7 46 = eJ G 5 (adT (adBit (tT (rT K) Y n k3) (fun j => Y (16 * k3 + j)) (8 * k5)) k5 (Y (16 * k3 + k5)) 8) := by rw [o7, va_up_self]
                    have t7_39 := (show ev7 39 = ev6 39 by rw [o7, va_up_ne _ _ (by decide)]).trans t6_39
                    have t7_50 := (show ev7 50 = ev6 50 by rw [o7, va_up_ne _ _ (by decide)]).trans t6_50
                    have t7_47 := (show ev7 47 = ev6 47 by rw [o7, va_up_ne _ _ (by decide)]).trans t6_47
                    have t7_48 := (show ev7 48 = ev6 48 by rw [o7, va_up_ne _ _ (by decide)]).trans t6_48
                    have t7_49 := (show ev7 49 = ev6 49 by rw [o7, va_up_ne _ _ (by decide)]).trans t6_49
                    have t7_37 := (show ev7 37 = ev6 37 by rw [o7, va_up_ne _ _ (by decide)]).trans t6_37
                    refine lv_iinc (v := nI (k5 + 1)) (lv' := [(4, .int (nI (k5 + 1))), (3, .int (nI (sz))), (2, .int (nI (16 * k3))), (0, .ref (ad 37)), (1, .int (nI (n)))]) hx hb d_Md_makeTag_111 hl (k := 0) rfl (nI_add _ _) (by decide) rfl (fun ls hl => ?_)
                    refine lv_goto (tgt := 87) hx hb d_Md_makeTag_114 (by decide) ?_
                    refine ih5 (k5 + 1) (by omega) ev7 H locs ls ?_ h (lv_sub hl [0, 1, 2, 3, 4] rfl)
                    rw [o7, o6, va_up2, show 8 * (k5 + 1) = 8 * k5 + 8 by omega, ← adT_bit (tT (rT K) Y n k3) (fun j => Y (16 * k3 + j)) k5 8 (by decide)]
                exact loop6 sz 0 (by omega) ev5 H locs ls (va_upi _ _ t5_46).symm h (lv_sub hl [0, 1, 2, 3, 4] rfl)
              · have hc := Nat.lt_of_not_le (fun q => hc ((nI_leI (by omega) (by omega)).mpr q))
                refine lv_iload_n hx hb d_Md_makeTag_75 rfl (lv_at hl 2 rfl) ?_
                refine lv_iload_n hx hb d_Md_makeTag_76 rfl (lv_at hl 0 rfl) ?_
                refine lv_isub hx hb d_Md_makeTag_77 ?_
                refine wv_top (w := nI (n - (16 * k3))) (pk_sub (by omega)) ?_
                refine lv_goto (tgt := 83) hx hb d_Md_makeTag_78 (by decide) ?_
                refine wv_top (w := nI (min 16 (n - 16 * k3))) (congrArg nI (by omega)) ?_
                refine lv_istore_n (lv' := [(3, .int (nI (min 16 (n - 16 * k3)))), (2, .int (nI (16 * k3))), (0, .ref (ad 37)), (1, .int (nI (n)))]) hx hb d_Md_makeTag_83 rfl hl (by decide) rfl (fun ls hl => ?_)
                refine lv_iconst (v := nI (0)) hx hb d_Md_makeTag_84 (by decide) ?_
                refine lv_istore (lv' := [(4, .int (nI (0))), (3, .int (nI (min 16 (n - 16 * k3)))), (2, .int (nI (16 * k3))), (0, .ref (ad 37)), (1, .int (nI (n)))]) hx hb d_Md_makeTag_85 hl (by decide) rfl (fun ls hl => ?_)
                obtain ⟨sz, hsz⟩ : ∃ sz, sz = min 16 (n - 16 * k3) := ⟨_, rfl⟩
                rw [← hsz] at hl
                have hs16 : sz ≤ 16 := by omega
                have hsn : 16 * k3 + sz ≤ n := by omega
                have loop6 : ∀ (d k5 : Nat), k5 + d = sz →  ∀ (ev6 : Nat → va_E) (H : Heap) (locs : List Loc) (ls : Array Slot), ev6 = (va_up ev5 46 (eJ G 5 (adBit (tT (rT K) Y n k3) (fun j => Y (16 * k3 + j)) (8 * k5)))) → wT G A 52 ad ev6 s H locs → lv_has ls 7 [(4, .int (nI (k5))), (3, .int (nI (sz))), (2, .int (nI (16 * k3))), (0, .ref (ad 37)), (1, .int (nI (n)))] → W p l e ({ frames := 6, cells := 0, slots := 0, locals := 200 }) s m ([.ref (ad 37), .int (nI (n))] : List Value).toArray below meth c H locs 0 0 (MQ below (wQc G A 52 ad (fun ov ev' => ov = none ∧ ∃ r46 r47 r48 : Row, ev' = (va_up (va_up (va_up (va_up ev 46 (eJ G 5 r46)) 47 (eJ G 5 r47)) 48 (eJ G 5 r48)) 49 (eI G 16 (ns (TAGM K Y 0 n)))))) ([.ref (ad 37), .int (nI (n))] : List Value).toArray s 0 0 A) (F0 m 87 ls []) := by
                  intro d
                  induction d with
                  | zero =>
                    intro k5 hk_k5  ev6 H locs ls  o6 h hl
                    have t6_46 : ev6 46 = eJ G 5 (adBit (tT (rT K) Y n k3) (fun j => Y (16 * k3 + j)) (8 * k5)) := by rw [o6, va_up_self]
                    have t6_39 := (show ev6 39 = ev5 39 by rw [o6, va_up_ne _ _ (by decide)]).trans t5_39
                    have t6_50 := (show ev6 50 = ev5 50 by rw [o6, va_up_ne _ _ (by decide)]).trans t5_50
                    have t6_47 := (show ev6 47 = ev5 47 by rw [o6, va_up_ne _ _ (by decide)]).trans t5_47
                    have t6_48 := (show ev6 48 = ev5 48 by rw [o6, va_up_ne _ _ (by decide)]).trans t5_48
                    have t6_49 := (show ev6 49 = ev5 49 by rw [o6, va_up_ne _ _ (by decide)]).trans t5_49
                    have t6_37 := (show ev6 37 = ev5 37 by rw [o6, va_up_ne _ _ (by decide)]).trans t5_37
                    refine lv_iload hx hb d_Md_makeTag_87 (lv_at hl 0 rfl) ?_
                    refine lv_iload_n hx hb d_Md_makeTag_89 rfl (lv_at hl 1 rfl) ?_
                    refine lv_icmp_ge (tgt := 117) hx hb d_Md_makeTag_90 (by decide) (fun _ => ?_) (fun hc => absurd ((nI_leI (by omega) (by omega)).mpr (by omega)) hc)
                    rw [show k5 = sz by omega] at t6_46
                    refine lv_aload_n hx hb d_Md_makeTag_117 rfl (lv_at hl 3 rfl) ?_
                    refine wv_getf hx hb h 37 (by decide) (fs := [.ref (ad 38), .int (nI (tl)), .int (nI (ol)), .int (nI (cd)), .ref (ad 39), .ref (ad 40), .ref (ad 41), .ref (ad 42), .ref (ad 43), .ref (ad 44), .ref (ad 45), .ref (ad 46), .ref (ad 47), .ref (ad 48), .ref (ad 49), .ref (ad 50)]) t6_37 hts (fun w hw => List.mem_cons_of_mem _ (fW_Md w hw)) hown (ci := 5) (C := "NonceBoxModel") (T := fT_Md) (N := 16) rfl 11 (by decide) (hts _ (List.mem_cons_of_mem _ kf_Md_35)) rfl (v := .ref (ad 46)) rfl d_Md_makeTag_118 ?_
                    refine lv_bipush (v := nI (8)) hx hb d_Md_makeTag_121 (by decide) ?_
                    refine lv_iload_n hx hb d_Md_makeTag_123 rfl (lv_at hl 1 rfl) ?_
                    refine lv_imul hx hb d_Md_makeTag_124 ?_
                    refine wv_top (w := nI (8 * sz)) (pk_mul _ _) ?_
                    refine lv_bipush (v := nI (26)) hx hb d_Md_makeTag_125 (by decide) ?_
                    refine lv_idiv hx hb d_Md_makeTag_127 (by decide) ?_
                    refine wv_top (w := nI ((8 * sz) / 26)) (pk_div (by omega) (by omega) (by omega)) ?_
                    refine lv_aload_n hx hb d_Md_makeTag_128 rfl (lv_at hl 3 rfl) ?_
                    refine wv_getf hx hb h 37 (by decide) (fs := [.ref (ad 38), .int (nI (tl)), .int (nI (ol)), .int (nI (cd)), .ref (ad 39), .ref (ad 40), .ref (ad 41), .ref (ad 42), .ref (ad 43), .ref (ad 44), .ref (ad 45), .ref (ad 46), .ref (ad 47), .ref (ad 48), .ref (ad 49), .ref (ad 50)]) t6_37 hts (fun w hw => List.mem_cons_of_mem _ (fW_Md w hw)) hown (ci := 5) (C := "NonceBoxModel") (T := fT_Md) (N := 16) rfl 11 (by decide) (hts _ (List.mem_cons_of_mem _ kf_Md_35)) rfl (v := .ref (ad 46)) rfl d_Md_makeTag_129 ?_
                    refine lv_bipush (v := nI (8)) hx hb d_Md_makeTag_132 (by decide) ?_
                    refine lv_iload_n hx hb d_Md_makeTag_134 rfl (lv_at hl 1 rfl) ?_
                    refine lv_imul hx hb d_Md_makeTag_135 ?_
                    refine wv_top (w := nI (8 * sz)) (pk_mul _ _) ?_
                    refine lv_bipush (v := nI (26)) hx hb d_Md_makeTag_136 (by decide) ?_
                    refine lv_idiv hx hb d_Md_makeTag_138 (by decide) ?_
                    refine wv_top (w := nI ((8 * sz) / 26)) (pk_div (by omega) (by omega) (by omega)) ?_
                    refine wv_lald hx hb h 46 (by decide) (f := (adBit (tT (rT K) Y n k3) (fun j => Y (16 * k3 + j)) (8 * sz))) t6_46 (k := (8 * sz) / 26) rfl (by omega) (by decide) d_Md_makeTag_139 ?_
                    refine lv_lconst (v := 1) hx hb d_Md_makeTag_140 (by decide) ?_
                    refine lv_bipush (v := nI (8)) hx hb d_Md_makeTag_141 (by decide) ?_
                    refine lv_iload_n hx hb d_Md_makeTag_143 rfl (lv_at hl 1 rfl) ?_
                    refine lv_imul hx hb d_Md_makeTag_144 ?_
                    refine wv_top (w := nI (8 * sz)) (pk_mul _ _) ?_
                    refine lv_bipush (v := nI (26)) hx hb d_Md_makeTag_145 (by decide) ?_
                    refine lv_irem hx hb d_Md_makeTag_147 (by decide) ?_
                    refine wv_top (w := nI ((8 * sz) % 26)) (pk_rem (by omega) (by omega) (by omega)) ?_
                    refine lv_lshl (v := sal 1 ((8 * sz) % 26)) hx hb d_Md_makeTag_148 rfl ?_
                    refine lv_ladd hx hb d_Md_makeTag_149 ?_
                    refine wv_last hx hb h 46 (by decide) (f := (adBit (tT (rT K) Y n k3) (fun j => Y (16 * k3 + j)) (8 * sz))) t6_46 (k := (8 * sz) / 26) rfl (by omega) (by decide) d_Md_makeTag_150 (fun H locs h => ?_)
                    obtain ⟨ev7, o7⟩ : ∃ z, z = va_up ev6 46 (eJ G 5 (va_up ((adBit (tT (rT K) Y n k3) (fun j => Y (16 * k3 + j)) (8 * sz))) ((8 * sz) / 26) ((((adBit (tT (rT K) Y n k3) (fun j => Y (16 * k3 + j)) (8 * sz))) ((8 * sz) / 26)) + (sal 1 ((8 * sz) % 26))))) := ⟨_, rfl⟩
                    rw [← o7] at h
                    have t7_46 : ev7 46 = eJ G 5 (va_up ((adBit (tT (rT K) Y n k3) (fun j => Y (16 * k3 + j)) (8 * sz))) ((8 * sz) / 26) ((((adBit (tT (rT K) Y n k3) (fun j => Y (16 * k3 + j)) (8 * sz))) ((8 * sz) / 26)) + (sal 1 ((8 * sz) % 26)))) := by rw [o7, va_up_self]
                    have t7_39 := (show ev7 39 = ev6 39 by rw [o7, va_up_ne _ _ (by decide)]).trans t6_39
                    have t7_50 := (show ev7 50 = ev6 50 by rw [o7, va_up_ne _ _ (by decide)]).trans t6_50
                    have t7_47 := (show ev7 47 = ev6 47 by rw [o7, va_up_ne _ _ (by decide)]).trans t6_47
                    have t7_48 := (show ev7 48 = ev6 48 by rw [o7, va_up_ne _ _ (by decide)]).trans t6_48
                    have t7_49 := (show ev7 49 = ev6 49 by rw [o7, va_up_ne _ _ (by decide)]).trans t6_49
                    have t7_37 := (show ev7 37 = ev6 37 by rw [o7, va_up_ne _ _ (by decide)]).trans t6_37
                    have t7_46x : ev7 46 = eJ G 5 (pl1 (adBit (tT (rT K) Y n k3) (fun j => Y (16 * k3 + j)) (8 * sz)) sz) := t7_46
                    refine lv_aload_n hx hb d_Md_makeTag_151 rfl (lv_at hl 3 rfl) ?_
                    refine wv_V (As := []) (rest := []) (k := 0) ⟨hx, hb, hml, hown, hts⟩ h 37 (by decide) (C := "NonceBoxModel") t7_37 rfl (m_Md_timesR l G A ad ev7 (pl1 (adBit (tT (rT K) Y n k3) (fun j => Y (16 * k3 + j)) (8 * sz)) sz) (rT K) dx tl ol cd t7_37 t7_46x t7_47 t7_48) kc_Md_timesR kl_Md_127 km_Md_timesR kv_Md_timesR ki_Md (by decide +kernel) ⟨rfl, rfl, Nat.le_of_ble_eq_true rfl, Nat.le_of_ble_eq_true rfl⟩ hl.1 rfl rfl (Nat.le_of_ble_eq_true rfl) ⟨Nat.le_refl _, Nat.le_refl _⟩ d_Md_makeTag_152 ?_
                    intro ov ev8 H locs hp h
                    obtain ⟨ho, d9, hp⟩ := hp
                    rw [ho]
                    refine W.eq (g2 := F0 m 155 ls []) rfl ?_
                    have o8 : ev8 = va_up (va_up ev7 48 (eJ G 5 d9)) 46 (eJ G 5 (tmR (pl1 (adBit (tT (rT K) Y n k3) (fun j => Y (16 * k3 + j)) (8 * sz)) sz) (rT K))) := hp
                    have t8_48 : ev8 48 = eJ G 5 d9 := by rw [o8, va_up_ne _ _ (by decide), va_up_self]
                    have t8_46 : ev8 46 = eJ G 5 (tmR (pl1 (adBit (tT (rT K) Y n k3) (fun j => Y (16 * k3 + j)) (8 * sz)) sz) (rT K)) := by rw [o8, va_up_self]
                    have t8_39 := (show ev8 39 = ev7 39 by rw [o8, va_up_ne _ _ (by decide), va_up_ne _ _ (by decide)]).trans t7_39
                    have t8_50 := (show ev8 50 = ev7 50 by rw [o8, va_up_ne _ _ (by decide), va_up_ne _ _ (by decide)]).trans t7_50
                    have t8_47 := (show ev8 47 = ev7 47 by rw [o8, va_up_ne _ _ (by decide), va_up_ne _ _ (by decide)]).trans t7_47
                    have t8_49 := (show ev8 49 = ev7 49 by rw [o8, va_up_ne _ _ (by decide), va_up_ne _ _ (by decide)]).trans t7_49
                    have t8_37 := (show ev8 37 = ev7 37 by rw [o8, va_up_ne _ _ (by decide), va_up_ne _ _ (by decide)]).trans t7_37
                    refine lv_iinc (v := nI ((16 * k3) + 16)) (lv' := [(2, .int (nI ((16 * k3) + 16))), (4, .int (nI (k5))), (3, .int (nI (sz))), (0, .ref (ad 37)), (1, .int (nI (n)))]) hx hb d_Md_makeTag_155 hl (k := 2) rfl (nI_add _ _) (by decide) rfl (fun ls hl => ?_)
                    rw [show 16 * k3 + 16 = 16 * (k3 + 1) by omega] at hl
                    refine lv_goto (tgt := 62) hx hb d_Md_makeTag_158 (by decide) ?_
                    refine ih (k3 + 1) (by omega) d9 ev8 H locs ls ?_ h (lv_sub hl [0, 3, 4] rfl)
                    rw [show tT (rT K) Y n (k3 + 1) = tmR (pl1 (adBit (tT (rT K) Y n k3) (fun j => Y (16 * k3 + j)) (8 * sz)) sz) (rT K) by rw [hsz]; rfl]
                    rw [o8, o7, o6, o5]
                    funext j
                    by_cases c0 : j = 48
                    · subst c0; simp [va_up]
                    by_cases c1 : j = 46
                    · subst c1; simp [va_up]
                    simp only [va_up, c0, c1, if_false]
                  | succ d ih5 =>
                    intro k5 hk_k5  ev6 H locs ls  o6 h hl
                    have t6_46 : ev6 46 = eJ G 5 (adBit (tT (rT K) Y n k3) (fun j => Y (16 * k3 + j)) (8 * k5)) := by rw [o6, va_up_self]
                    have t6_39 := (show ev6 39 = ev5 39 by rw [o6, va_up_ne _ _ (by decide)]).trans t5_39
                    have t6_50 := (show ev6 50 = ev5 50 by rw [o6, va_up_ne _ _ (by decide)]).trans t5_50
                    have t6_47 := (show ev6 47 = ev5 47 by rw [o6, va_up_ne _ _ (by decide)]).trans t5_47
                    have t6_48 := (show ev6 48 = ev5 48 by rw [o6, va_up_ne _ _ (by decide)]).trans t5_48
                    have t6_49 := (show ev6 49 = ev5 49 by rw [o6, va_up_ne _ _ (by decide)]).trans t5_49
                    have t6_37 := (show ev6 37 = ev5 37 by rw [o6, va_up_ne _ _ (by decide)]).trans t5_37
                    refine lv_iload hx hb d_Md_makeTag_87 (lv_at hl 0 rfl) ?_
                    refine lv_iload_n hx hb d_Md_makeTag_89 rfl (lv_at hl 1 rfl) ?_
                    refine lv_icmp_ge (tgt := 117) hx hb d_Md_makeTag_90 (by decide) (fun hc => absurd ((nI_leI (by omega) (by omega)).mp hc) (by omega)) (fun _ => ?_)
                    refine lv_aload_n hx hb d_Md_makeTag_93 rfl (lv_at hl 3 rfl) ?_
                    refine wv_getf hx hb h 37 (by decide) (fs := [.ref (ad 38), .int (nI (tl)), .int (nI (ol)), .int (nI (cd)), .ref (ad 39), .ref (ad 40), .ref (ad 41), .ref (ad 42), .ref (ad 43), .ref (ad 44), .ref (ad 45), .ref (ad 46), .ref (ad 47), .ref (ad 48), .ref (ad 49), .ref (ad 50)]) t6_37 hts (fun w hw => List.mem_cons_of_mem _ (fW_Md w hw)) hown (ci := 5) (C := "NonceBoxModel") (T := fT_Md) (N := 16) rfl 11 (by decide) (hts _ (List.mem_cons_of_mem _ kf_Md_35)) rfl (v := .ref (ad 46)) rfl d_Md_makeTag_94 ?_
                    refine lv_iload hx hb d_Md_makeTag_97 (lv_at hl 0 rfl) ?_
                    refine lv_aload_n hx hb d_Md_makeTag_99 rfl (lv_at hl 3 rfl) ?_
                    refine wv_getf hx hb h 37 (by decide) (fs := [.ref (ad 38), .int (nI (tl)), .int (nI (ol)), .int (nI (cd)), .ref (ad 39), .ref (ad 40), .ref (ad 41), .ref (ad 42), .ref (ad 43), .ref (ad 44), .ref (ad 45), .ref (ad 46), .ref (ad 47), .ref (ad 48), .ref (ad 49), .ref (ad 50)]) t6_37 hts (fun w hw => List.mem_cons_of_mem _ (fW_Md w hw)) hown (ci := 5) (C := "NonceBoxModel") (T := fT_Md) (N := 16) rfl 15 (by decide) (hts _ (List.mem_cons_of_mem _ kf_Md_47)) rfl (v := .ref (ad 50)) rfl d_Md_makeTag_100 ?_
                    refine lv_iload_n hx hb d_Md_makeTag_103 rfl (lv_at hl 2 rfl) ?_
                    refine lv_iload hx hb d_Md_makeTag_104 (lv_at hl 0 rfl) ?_
                    refine lv_iadd hx hb d_Md_makeTag_106 ?_
                    refine wv_top (w := nI ((16 * k3) + k5)) (nI_add _ _) ?_
                    refine wv_iald hx hb h 50 (by decide) (f := (ns Y)) t6_50 (k := (16 * k3) + k5) rfl (by omega) (by decide) d_Md_makeTag_107 ?_
                    refine wv_top (w := nI (Y (16 * k3 + k5))) rfl ?_
                    refine wv_Sx (As := [.ref (ad 46), .int (nI (k5)), .int (nI (Y (16 * k3 + k5)))]) (rest := []) (k := 3) ⟨hx, hb, hml, hown, hts⟩ h (m_Md_addByte l G A ad ev6 46 5 k5 (Y (16 * k3 + k5)) (adBit (tT (rT K) Y n k3) (fun j => Y (16 * k3 + j)) (8 * k5)) (by decide) t6_46 (by omega) (by omega) (hY _) (by decide)) kc_Md_addByte kl_Md_123 ks_Md_addByte ki_Md (by decide +kernel) ⟨rfl, rfl, Nat.le_of_ble_eq_true rfl, Nat.le_of_ble_eq_true rfl⟩ hl.1 rfl rfl (Nat.le_of_ble_eq_true rfl) ⟨Nat.le_refl _, Nat.le_refl _⟩ d_Md_makeTag_108 ?_
                    intro ov ev7 H locs hp h
                    rw [hp.1]
                    refine W.eq (g2 := F0 m 111 ls []) rfl ?_
                    have o7 : ev7 = (va_up ev6 46 (eJ G 5 (adT (adBit (tT (rT K) Y n k3) (fun j => Y (16 * k3 + j)) (8 * k5)) k5 (Y (16 * k3 + k5)) 8))) := hp.2
                    have t7_46 : ev7 46 = eJ G 5 (adT (adBit (tT (rT K) Y n k3) (fun j => Y (16 * k3 + j)) (8 * k5)) k5 (Y (16 * k3 + k5)) 8) := by rw [o7, va_up_self]
                    have t7_39 := (show ev7 39 = ev6 39 by rw [o7, va_up_ne _ _ (by decide)]).trans t6_39
                    have t7_50 := (show ev7 50 = ev6 50 by rw [o7, va_up_ne _ _ (by decide)]).trans t6_50
                    have t7_47 := (show ev7 47 = ev6 47 by rw [o7, va_up_ne _ _ (by decide)]).trans t6_47
                    have t7_48 := (show ev7 48 = ev6 48 by rw [o7, va_up_ne _ _ (by decide)]).trans t6_48
                    have t7_49 := (show ev7 49 = ev6 49 by rw [o7, va_up_ne _ _ (by decide)]).trans t6_49
                    have t7_37 := (show ev7 37 = ev6 37 by rw [o7, va_up_ne _ _ (by decide)]).trans t6_37
                    refine lv_iinc (v := nI (k5 + 1)) (lv' := [(4, .int (nI (k5 + 1))), (3, .int (nI (sz))), (2, .int (nI (16 * k3))), (0, .ref (ad 37)), (1, .int (nI (n)))]) hx hb d_Md_makeTag_111 hl (k := 0) rfl (nI_add _ _) (by decide) rfl (fun ls hl => ?_)
                    refine lv_goto (tgt := 87) hx hb d_Md_makeTag_114 (by decide) ?_
                    refine ih5 (k5 + 1) (by omega) ev7 H locs ls ?_ h (lv_sub hl [0, 1, 2, 3, 4] rfl)
                    rw [o7, o6, va_up2, show 8 * (k5 + 1) = 8 * k5 + 8 by omega, ← adT_bit (tT (rT K) Y n k3) (fun j => Y (16 * k3 + j)) k5 8 (by decide)]
                exact loop6 sz 0 (by omega) ev5 H locs ls (va_upi _ _ t5_46).symm h (lv_sub hl [0, 1, 2, 3, 4] rfl)
          refine loop5 ((n + 15) / 16) 0 (by omega) dd ev4 H locs ls ?_ h (lv_sub hl [0, 1, 2] rfl)
          rw [va_upi _ 48 t4_48]
          exact (va_upi _ 46 t4_46).symm
        | succ d ih =>
          intro k2 hk_k2  ev4 H locs ls  o4 h hl
          have t4_47 : ev4 47 = eJ G 5 (adBit (fun _ => 0) (FCT K) (8 * k2)) := by rw [o4, va_up_self]
          have t4_39 := (show ev4 39 = ev3 39 by rw [o4, va_up_ne _ _ (by decide)]).trans t3_39
          have t4_50 := (show ev4 50 = ev3 50 by rw [o4, va_up_ne _ _ (by decide)]).trans t3_50
          have t4_46 := (show ev4 46 = ev3 46 by rw [o4, va_up_ne _ _ (by decide)]).trans t3_46
          have t4_48 := (show ev4 48 = ev3 48 by rw [o4, va_up_ne _ _ (by decide)]).trans t3_48
          have t4_49 := (show ev4 49 = ev3 49 by rw [o4, va_up_ne _ _ (by decide)]).trans t3_49
          have t4_37 := (show ev4 37 = ev3 37 by rw [o4, va_up_ne _ _ (by decide)]).trans t3_37
          refine lv_iload_n hx hb d_Md_makeTag_29 rfl (lv_at hl 0 rfl) ?_
          refine lv_bipush (v := nI (16)) hx hb d_Md_makeTag_30 (by decide) ?_
          refine lv_icmp_ge (tgt := 60) hx hb d_Md_makeTag_32 (by decide) (fun hc => absurd ((nI_leI (by omega) (by omega)).mp hc) (by omega)) (fun _ => ?_)
          refine lv_aload_n hx hb d_Md_makeTag_35 rfl (lv_at hl 1 rfl) ?_
          refine wv_getf hx hb h 37 (by decide) (fs := [.ref (ad 38), .int (nI (tl)), .int (nI (ol)), .int (nI (cd)), .ref (ad 39), .ref (ad 40), .ref (ad 41), .ref (ad 42), .ref (ad 43), .ref (ad 44), .ref (ad 45), .ref (ad 46), .ref (ad 47), .ref (ad 48), .ref (ad 49), .ref (ad 50)]) t4_37 hts (fun w hw => List.mem_cons_of_mem _ (fW_Md w hw)) hown (ci := 5) (C := "NonceBoxModel") (T := fT_Md) (N := 16) rfl 12 (by decide) (hts _ (List.mem_cons_of_mem _ kf_Md_38)) rfl (v := .ref (ad 47)) rfl d_Md_makeTag_36 ?_
          refine lv_iload_n hx hb d_Md_makeTag_39 rfl (lv_at hl 0 rfl) ?_
          refine lv_aload_n hx hb d_Md_makeTag_40 rfl (lv_at hl 1 rfl) ?_
          refine wv_getf hx hb h 37 (by decide) (fs := [.ref (ad 38), .int (nI (tl)), .int (nI (ol)), .int (nI (cd)), .ref (ad 39), .ref (ad 40), .ref (ad 41), .ref (ad 42), .ref (ad 43), .ref (ad 44), .ref (ad 45), .ref (ad 46), .ref (ad 47), .ref (ad 48), .ref (ad 49), .ref (ad 50)]) t4_37 hts (fun w hw => List.mem_cons_of_mem _ (fW_Md w hw)) hown (ci := 5) (C := "NonceBoxModel") (T := fT_Md) (N := 16) rfl 4 (by decide) (hts _ (List.mem_cons_of_mem _ kf_Md_13)) rfl (v := .ref (ad 39)) rfl d_Md_makeTag_41 ?_
          refine lv_iload_n hx hb d_Md_makeTag_44 rfl (lv_at hl 0 rfl) ?_
          refine wv_iald hx hb h 39 (by decide) (f := (ns K)) t4_39 (k := k2) rfl (by omega) (by decide) d_Md_makeTag_45 ?_
          refine lv_iload_n hx hb d_Md_makeTag_46 rfl (lv_at hl 0 rfl) ?_
          have hk16 : k2 < 16 := by omega
          refine wv_Sx (As := [.int (nI (k2))]) (rest := [.int (((ns K)) k2), .int (nI (k2)), .ref (ad 47)]) (k := 1) ⟨hx, hb, hml, hown, hts⟩ h (m_Md_limitOf l G A ad ev4 k2 hk16) kc_Md_limitOf kl_Md_120 ks_Md_limitOf ki_Md (by decide +kernel) ⟨rfl, rfl, Nat.le_of_ble_eq_true rfl, Nat.le_of_ble_eq_true rfl⟩ hl.1 rfl rfl (Nat.le_of_ble_eq_true rfl) ⟨Nat.le_refl _, Nat.le_refl _⟩ d_Md_makeTag_47 ?_
          intro ov ev5 H locs hp h
          rw [hp.1]
          refine W.eq (g2 := F0 m 50 ls [.int (nI (limT k2)), .int (((ns K)) k2), .int (nI (k2)), .ref (ad 47)]) rfl ?_
          rw [hp.2] at h
          refine lv_iand hx hb d_Md_makeTag_50 ?_
          refine wv_top (w := nI (FCT K k2)) (lim_and hK k2) ?_
          refine wv_Sx (As := [.ref (ad 47), .int (nI (k2)), .int (nI (FCT K k2))]) (rest := []) (k := 3) ⟨hx, hb, hml, hown, hts⟩ h (m_Md_addByte l G A ad ev4 47 5 k2 (FCT K k2) (adBit (fun _ => 0) (FCT K) (8 * k2)) (by decide) t4_47 (by omega) (by omega) (FCT_lt hK _) (by decide)) kc_Md_addByte kl_Md_123 ks_Md_addByte ki_Md (by decide +kernel) ⟨rfl, rfl, Nat.le_of_ble_eq_true rfl, Nat.le_of_ble_eq_true rfl⟩ hl.1 rfl rfl (Nat.le_of_ble_eq_true rfl) ⟨Nat.le_refl _, Nat.le_refl _⟩ d_Md_makeTag_51 ?_
          intro ov ev5 H locs hp h
          rw [hp.1]
          refine W.eq (g2 := F0 m 54 ls []) rfl ?_
          have o5 : ev5 = (va_up ev4 47 (eJ G 5 (adT (adBit (fun _ => 0) (FCT K) (8 * k2)) k2 (FCT K k2) 8))) := hp.2
          have t5_47 : ev5 47 = eJ G 5 (adT (adBit (fun _ => 0) (FCT K) (8 * k2)) k2 (FCT K k2) 8) := by rw [o5, va_up_self]
          have t5_39 := (show ev5 39 = ev4 39 by rw [o5, va_up_ne _ _ (by decide)]).trans t4_39
          have t5_50 := (show ev5 50 = ev4 50 by rw [o5, va_up_ne _ _ (by decide)]).trans t4_50
          have t5_46 := (show ev5 46 = ev4 46 by rw [o5, va_up_ne _ _ (by decide)]).trans t4_46
          have t5_48 := (show ev5 48 = ev4 48 by rw [o5, va_up_ne _ _ (by decide)]).trans t4_48
          have t5_49 := (show ev5 49 = ev4 49 by rw [o5, va_up_ne _ _ (by decide)]).trans t4_49
          have t5_37 := (show ev5 37 = ev4 37 by rw [o5, va_up_ne _ _ (by decide)]).trans t4_37
          refine lv_iinc (v := nI (k2 + 1)) (lv' := [(2, .int (nI (k2 + 1))), (0, .ref (ad 37)), (1, .int (nI (n)))]) hx hb d_Md_makeTag_54 hl (k := 0) rfl (nI_add _ _) (by decide) rfl (fun ls hl => ?_)
          refine lv_goto (tgt := 29) hx hb d_Md_makeTag_57 (by decide) ?_
          refine ih (k2 + 1) (by omega) ev5 H locs ls ?_ h (lv_sub hl [0, 1, 2] rfl)
          rw [o5, o4, va_up2, show 8 * (k2 + 1) = 8 * k2 + 8 by omega, ← adT_bit (fun _ => 0) (FCT K) k2 8 (by decide)]
      exact loop4 16 0 rfl ev3 H locs ls (va_upi _ _ t3_47).symm h (lv_sub hl [0, 1, 2] rfl)
    | succ d ih =>
      intro k hk_k  ev1 H locs ls  o1 h hl
      have t1_46 : ev1 46 = eJ G 5 (fil 0 k (fun _ => 0) a) := by rw [o1, va_up_ne _ _ (by decide), va_up_self]
      have t1_47 : ev1 47 = eJ G 5 (fil 0 k (fun _ => 0) r) := by rw [o1, va_up_self]
      have t1_39 := (show ev1 39 = ev 39 by rw [o1, va_up_ne _ _ (by decide), va_up_ne _ _ (by decide)]).trans h39
      have t1_50 := (show ev1 50 = ev 50 by rw [o1, va_up_ne _ _ (by decide), va_up_ne _ _ (by decide)]).trans h50
      have t1_48 := (show ev1 48 = ev 48 by rw [o1, va_up_ne _ _ (by decide), va_up_ne _ _ (by decide)]).trans h48
      have t1_49 := (show ev1 49 = ev 49 by rw [o1, va_up_ne _ _ (by decide), va_up_ne _ _ (by decide)]).trans h49
      have t1_37 := (show ev1 37 = ev 37 by rw [o1, va_up_ne _ _ (by decide), va_up_ne _ _ (by decide)]).trans h37
      refine lv_iload_n hx hb d_Md_makeTag_2 rfl (lv_at hl 0 rfl) ?_
      refine lv_iconst (v := nI (5)) hx hb d_Md_makeTag_3 (by decide) ?_
      refine lv_icmp_ge (tgt := 27) hx hb d_Md_makeTag_4 (by decide) (fun hc => absurd ((nI_leI (by omega) (by omega)).mp hc) (by omega)) (fun _ => ?_)
      refine lv_aload_n hx hb d_Md_makeTag_7 rfl (lv_at hl 1 rfl) ?_
      refine wv_getf hx hb h 37 (by decide) (fs := [.ref (ad 38), .int (nI (tl)), .int (nI (ol)), .int (nI (cd)), .ref (ad 39), .ref (ad 40), .ref (ad 41), .ref (ad 42), .ref (ad 43), .ref (ad 44), .ref (ad 45), .ref (ad 46), .ref (ad 47), .ref (ad 48), .ref (ad 49), .ref (ad 50)]) t1_37 hts (fun w hw => List.mem_cons_of_mem _ (fW_Md w hw)) hown (ci := 5) (C := "NonceBoxModel") (T := fT_Md) (N := 16) rfl 11 (by decide) (hts _ (List.mem_cons_of_mem _ kf_Md_35)) rfl (v := .ref (ad 46)) rfl d_Md_makeTag_8 ?_
      refine lv_iload_n hx hb d_Md_makeTag_11 rfl (lv_at hl 0 rfl) ?_
      refine lv_lconst (v := 0) hx hb d_Md_makeTag_12 (by decide) ?_
      refine wv_last hx hb h 46 (by decide) (f := (fil 0 k (fun _ => 0) a)) t1_46 (k := k) rfl (by omega) (by decide) d_Md_makeTag_13 (fun H locs h => ?_)
      obtain ⟨ev2, o2⟩ : ∃ z, z = va_up ev1 46 (eJ G 5 (va_up ((fil 0 k (fun _ => 0) a)) k 0)) := ⟨_, rfl⟩
      rw [← o2] at h
      have t2_46 : ev2 46 = eJ G 5 (va_up ((fil 0 k (fun _ => 0) a)) k 0) := by rw [o2, va_up_self]
      have t2_39 := (show ev2 39 = ev1 39 by rw [o2, va_up_ne _ _ (by decide)]).trans t1_39
      have t2_50 := (show ev2 50 = ev1 50 by rw [o2, va_up_ne _ _ (by decide)]).trans t1_50
      have t2_47 := (show ev2 47 = ev1 47 by rw [o2, va_up_ne _ _ (by decide)]).trans t1_47
      have t2_48 := (show ev2 48 = ev1 48 by rw [o2, va_up_ne _ _ (by decide)]).trans t1_48
      have t2_49 := (show ev2 49 = ev1 49 by rw [o2, va_up_ne _ _ (by decide)]).trans t1_49
      have t2_37 := (show ev2 37 = ev1 37 by rw [o2, va_up_ne _ _ (by decide)]).trans t1_37
      refine lv_aload_n hx hb d_Md_makeTag_14 rfl (lv_at hl 1 rfl) ?_
      refine wv_getf hx hb h 37 (by decide) (fs := [.ref (ad 38), .int (nI (tl)), .int (nI (ol)), .int (nI (cd)), .ref (ad 39), .ref (ad 40), .ref (ad 41), .ref (ad 42), .ref (ad 43), .ref (ad 44), .ref (ad 45), .ref (ad 46), .ref (ad 47), .ref (ad 48), .ref (ad 49), .ref (ad 50)]) t2_37 hts (fun w hw => List.mem_cons_of_mem _ (fW_Md w hw)) hown (ci := 5) (C := "NonceBoxModel") (T := fT_Md) (N := 16) rfl 12 (by decide) (hts _ (List.mem_cons_of_mem _ kf_Md_38)) rfl (v := .ref (ad 47)) rfl d_Md_makeTag_15 ?_
      refine lv_iload_n hx hb d_Md_makeTag_18 rfl (lv_at hl 0 rfl) ?_
      refine lv_lconst (v := 0) hx hb d_Md_makeTag_19 (by decide) ?_
      refine wv_last hx hb h 47 (by decide) (f := (fil 0 k (fun _ => 0) r)) t2_47 (k := k) rfl (by omega) (by decide) d_Md_makeTag_20 (fun H locs h => ?_)
      obtain ⟨ev3, o3⟩ : ∃ z, z = va_up ev2 47 (eJ G 5 (va_up ((fil 0 k (fun _ => 0) r)) k 0)) := ⟨_, rfl⟩
      rw [← o3] at h
      have t3_47 : ev3 47 = eJ G 5 (va_up ((fil 0 k (fun _ => 0) r)) k 0) := by rw [o3, va_up_self]
      have t3_39 := (show ev3 39 = ev2 39 by rw [o3, va_up_ne _ _ (by decide)]).trans t2_39
      have t3_50 := (show ev3 50 = ev2 50 by rw [o3, va_up_ne _ _ (by decide)]).trans t2_50
      have t3_46 := (show ev3 46 = ev2 46 by rw [o3, va_up_ne _ _ (by decide)]).trans t2_46
      have t3_48 := (show ev3 48 = ev2 48 by rw [o3, va_up_ne _ _ (by decide)]).trans t2_48
      have t3_49 := (show ev3 49 = ev2 49 by rw [o3, va_up_ne _ _ (by decide)]).trans t2_49
      have t3_37 := (show ev3 37 = ev2 37 by rw [o3, va_up_ne _ _ (by decide)]).trans t2_37
      refine lv_iinc (v := nI (k + 1)) (lv' := [(2, .int (nI (k + 1))), (0, .ref (ad 37)), (1, .int (nI (n)))]) hx hb d_Md_makeTag_21 hl (k := 0) rfl (nI_add _ _) (by decide) rfl (fun ls hl => ?_)
      refine lv_goto (tgt := 2) hx hb d_Md_makeTag_24 (by decide) ?_
      refine ih (k + 1) (by omega) ev3 H locs ls ?_ h (lv_sub hl [0, 1, 2] rfl)
      rw [← fil_s 0 k (fun _ => 0) a rfl, ← fil_s 0 k (fun _ => 0) r rfl, Nat.zero_add]
      rw [o3, o2, o1]
      funext j
      by_cases c0 : j = 46
      · subst c0; simp [va_up]
      by_cases c1 : j = 47
      · subst c1; simp [va_up]
      simp only [va_up, c0, c1, if_false]
  exact loop1 5 0 rfl ev s.heap [] ls (by rw [fil_0, fil_0, va_upi _ 46 h46, va_upi _ 47 h47]) h (lv_sub hl [0, 1, 2] rfl)
