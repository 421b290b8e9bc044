/-! THE LAW: its function, and its walk -/
def gIn (g1 g2 : Nat) : Nat → Bool := fun q => decide (g1 ≤ q) && decide (q < g2)
def gEx (g1 g2 : Nat) : Nat → Bool := fun q => !(gIn g1 g2 q)

/-! THE CLAIM OUT OF ONE WALK OF THE LAW'S BODY. Your part is whole_start (and what it stands on); all else here is the same for every law, but numbers. -/
def R_law : String := "ArenaNetworkLaw"
def lw_P (b : Addr) (xs : List Int32) (args : Array Value) (s : State) : Prop := args = #[.ref b] ∧ s.IntsAt b xs ∧ xs.length ≤ 3072 ∧ (Jvm.Cond.and given_1 narrow_1).before args s = true
def lw_Q (_ : Array Value) (s : State) (o : Outcome) (t : State) : Prop := o = .returned (some (.int 1)) ∧ Framed s o t [] 600000 7302250
def lw_Z (below : List Frame) (a : Array Value) (s : State) : State → Prop := fun t => ∃ o, t.status = .running ∧ Ended t below o ∧ lw_Q a s o t
/-- the law's own end, with 1 on the stack, nothing written that was there before, its room as the claim has it -/
theorem lw_ret {p : Program} {l : Launch} {e : Env} {s : State} {m : MethodId} {below : List Frame} {meth : Method} {c : Code} {b : Nat} (hx : p.tables.exec = Jvm.exec) (hb : c.code = code) (hr : meth.sig.returnType = ret) (hlocks : meth.locks = false) {pc : Nat} {H : Heap} {ls : Array Slot} (hdg : decode code pc = .ok (.ireturn, 1)) : W p l e room_1 s m #[Value.ref b] below meth c H [] 600000 7302250 (lw_Z below #[Value.ref b] s) (F0 m pc ls [.int 1]) := by
  intro T hT X
  obtain ⟨fs, hret, hrun, hended, hW, hframe⟩ := X.leave (v := some (.int 1)) (hlocks := hlocks) (fun h => by rw [hr] at h; cases h)
  have hmeth' : T.vm.method? m = some meth := X.method'
  refine ⟨T.setFrames fs, ?_, .returned (some (.int 1)), hrun, hended, rfl, ⟨_, rfl⟩, hW, hframe⟩
  jvm_step X.here [X.here.top, hx, hb, hdg, hmeth', hr, ret, narrow_b1]
  (try refine ⟨rfl, ?_⟩); (try refine ⟨rfl, ?_⟩)
  first | (intro acts; rw [hret _ acts rfl rfl rfl]) | rw [hret _ _ rfl rfl rfl]
  exact Steps.refl _
/-- what holds at the law's entry: the machine, the code, the tables' words (any of lw_tbl by 'hts w (by decide +kernel)'), the script of L ints xs at the cell b, what the Statement gives of the start (any of its parts by flat_of_before) -/
def lw_At (p : Program) (s : State) (m : MethodId) (meth : Method) (c : Code) (b L : Nat) (xs : Nat → Int32) : Prop :=
  p.tables.exec = Jvm.exec ∧ c.code = code ∧ meth.sig.returnType = ret ∧ c.maxLocals = 4 ∧ s.vm.findClass R_law = some m.cls ∧ (∀ w ∈ lw_tbl, w.before #[Value.ref b] s = true) ∧ va_X b L xs s s.heap ∧ b < s.heap.size ∧ meth.locks = false ∧ (Jvm.Cond.and given_1 narrow_1).before #[Value.ref b] s = true
def lawE (C : xC) (w0 : cW) : Prop := match C with
  | (_, _, _, R, s, _, args, below, meth, _, Q, _, G, w0') => meth.sig.returnType = ret ∧ R = room_1 ∧ (∃ b, args = #[Value.ref b]) ∧ Q = lw_Z below args s ∧ G.1 = s.heap.size ∧ w0' = w0
theorem v_lawret {C : xC} {w0 w : cW} {k n pc : Nat} {lv : List (Nat × Value)} (hC : okC C code 4 "ArenaNetworkLaw" lw_gd) (hE : lawE C w0) (hd : decode code pc = .ok (.ireturn, 1)) (hk : k ≤ (xR C).cells) (hn : n ≤ (xR C).slots) : V C w k n pc lv [.int (1 : Int32)] := by
  obtain ⟨p, l, e, R, s, m, args, below, meth, c, Q, nL, G, w0'⟩ := C
  obtain ⟨h1, rfl, ⟨b, rfl⟩, rfl, h3, rfl⟩ := hE
  intro H locs ls hok hl
  have h0 := hC.2.2.2.2.2.2.1
  refine va_forget (fun q hq => ?_) (W.widen hk hn (lw_ret hC.1 hC.2.1 h1 hC.2.2.2.2.2.2.2 hd))
  rw [← h3]
  exact Aw_base h0 (hok.2.2.2.1.2.2 q hq)
theorem dW_law_0 : decode code 0 = .ok (.new 7, 3) := by decide +kernel
theorem dW_law_3 : decode code 3 = .ok (.dup, 1) := by decide +kernel
theorem dW_law_4 : decode code 4 = .ok (.invokespecial 9, 3) := by decide +kernel
theorem dW_law_7 : decode code 7 = .ok (.astore_n 1, 1) := by decide +kernel
theorem dW_law_8 : decode code 8 = .ok (.new 10, 3) := by decide +kernel
theorem dW_law_11 : decode code 11 = .ok (.dup, 1) := by decide +kernel
theorem dW_law_12 : decode code 12 = .ok (.invokespecial 12, 3) := by decide +kernel
theorem dW_law_15 : decode code 15 = .ok (.astore_n 2, 1) := by decide +kernel
theorem dW_law_16 : decode code 16 = .ok (.iconst (0), 1) := by decide +kernel
theorem dW_law_17 : decode code 17 = .ok (.istore_n 3, 1) := by decide +kernel
theorem dW_law_18 : decode code 18 = .ok (.iload_n 3, 1) := by decide +kernel
theorem dW_law_19 : decode code 19 = .ok (.aload_n 0, 1) := by decide +kernel
theorem dW_law_20 : decode code 20 = .ok (.arraylength, 1) := by decide +kernel
theorem dW_law_21 : decode code 21 = .ok (.bipush (6), 2) := by decide +kernel
theorem dW_law_23 : decode code 23 = .ok (.isub, 1) := by decide +kernel
theorem dW_law_24 : decode code 24 = .ok (.if_icmp .gt (584), 3) := by decide +kernel
theorem dW_law_27 : decode code 27 = .ok (.aload_n 0, 1) := by decide +kernel
theorem dW_law_28 : decode code 28 = .ok (.iload_n 3, 1) := by decide +kernel
theorem dW_law_29 : decode code 29 = .ok (.iaload, 1) := by decide +kernel
theorem dW_law_30 : decode code 30 = .ok (.bipush (15), 2) := by decide +kernel
theorem dW_law_32 : decode code 32 = .ok (.iand, 1) := by decide +kernel
theorem dW_law_33 : decode code 33 = .ok (.tableswitch (569) (0) (15) #[79, 122, 165, 208, 271, 320, 333, 346, 359, 372, 385, 418, 441, 490, 513, 546], 79) := by decide +kernel
theorem dW_law_112 : decode code 112 = .ok (.aload_n 1, 1) := by decide +kernel
theorem dW_law_113 : decode code 113 = .ok (.aload_n 0, 1) := by decide +kernel
theorem dW_law_114 : decode code 114 = .ok (.iload_n 3, 1) := by decide +kernel
theorem dW_law_115 : decode code 115 = .ok (.iconst (1), 1) := by decide +kernel
theorem dW_law_116 : decode code 116 = .ok (.iadd, 1) := by decide +kernel
theorem dW_law_117 : decode code 117 = .ok (.iaload, 1) := by decide +kernel
theorem dW_law_118 : decode code 118 = .ok (.aload_n 0, 1) := by decide +kernel
theorem dW_law_119 : decode code 119 = .ok (.iload_n 3, 1) := by decide +kernel
theorem dW_law_120 : decode code 120 = .ok (.iconst (2), 1) := by decide +kernel
theorem dW_law_121 : decode code 121 = .ok (.iadd, 1) := by decide +kernel
theorem dW_law_122 : decode code 122 = .ok (.iaload, 1) := by decide +kernel
theorem dW_law_123 : decode code 123 = .ok (.aload_n 0, 1) := by decide +kernel
theorem dW_law_124 : decode code 124 = .ok (.iload_n 3, 1) := by decide +kernel
theorem dW_law_125 : decode code 125 = .ok (.iconst (3), 1) := by decide +kernel
theorem dW_law_126 : decode code 126 = .ok (.iadd, 1) := by decide +kernel
theorem dW_law_127 : decode code 127 = .ok (.iaload, 1) := by decide +kernel
theorem dW_law_128 : decode code 128 = .ok (.invokevirtual 13, 3) := by decide +kernel
theorem dW_law_131 : decode code 131 = .ok (.aload_n 2, 1) := by decide +kernel
theorem dW_law_132 : decode code 132 = .ok (.aload_n 0, 1) := by decide +kernel
theorem dW_law_133 : decode code 133 = .ok (.iload_n 3, 1) := by decide +kernel
theorem dW_law_134 : decode code 134 = .ok (.iconst (1), 1) := by decide +kernel
theorem dW_law_135 : decode code 135 = .ok (.iadd, 1) := by decide +kernel
theorem dW_law_136 : decode code 136 = .ok (.iaload, 1) := by decide +kernel
theorem dW_law_137 : decode code 137 = .ok (.aload_n 0, 1) := by decide +kernel
theorem dW_law_138 : decode code 138 = .ok (.iload_n 3, 1) := by decide +kernel
theorem dW_law_139 : decode code 139 = .ok (.iconst (2), 1) := by decide +kernel
theorem dW_law_140 : decode code 140 = .ok (.iadd, 1) := by decide +kernel
theorem dW_law_141 : decode code 141 = .ok (.iaload, 1) := by decide +kernel
theorem dW_law_142 : decode code 142 = .ok (.aload_n 0, 1) := by decide +kernel
theorem dW_law_143 : decode code 143 = .ok (.iload_n 3, 1) := by decide +kernel
theorem dW_law_144 : decode code 144 = .ok (.iconst (3), 1) := by decide +kernel
theorem dW_law_145 : decode code 145 = .ok (.iadd, 1) := by decide +kernel
theorem dW_law_146 : decode code 146 = .ok (.iaload, 1) := by decide +kernel
theorem dW_law_147 : decode code 147 = .ok (.invokevirtual 17, 3) := by decide +kernel
theorem dW_law_150 : decode code 150 = .ok (.if_icmp .eq (452), 3) := by decide +kernel
theorem dW_law_153 : decode code 153 = .ok (.iconst (0), 1) := by decide +kernel
theorem dW_law_154 : decode code 154 = .ok (.ireturn, 1) := by decide +kernel
theorem dW_law_155 : decode code 155 = .ok (.aload_n 1, 1) := by decide +kernel
theorem dW_law_156 : decode code 156 = .ok (.aload_n 0, 1) := by decide +kernel
theorem dW_law_157 : decode code 157 = .ok (.iload_n 3, 1) := by decide +kernel
theorem dW_law_158 : decode code 158 = .ok (.iconst (1), 1) := by decide +kernel
theorem dW_law_159 : decode code 159 = .ok (.iadd, 1) := by decide +kernel
theorem dW_law_160 : decode code 160 = .ok (.iaload, 1) := by decide +kernel
theorem dW_law_161 : decode code 161 = .ok (.aload_n 0, 1) := by decide +kernel
theorem dW_law_162 : decode code 162 = .ok (.iload_n 3, 1) := by decide +kernel
theorem dW_law_163 : decode code 163 = .ok (.iconst (2), 1) := by decide +kernel
theorem dW_law_164 : decode code 164 = .ok (.iadd, 1) := by decide +kernel
theorem dW_law_165 : decode code 165 = .ok (.iaload, 1) := by decide +kernel
theorem dW_law_166 : decode code 166 = .ok (.aload_n 0, 1) := by decide +kernel
theorem dW_law_167 : decode code 167 = .ok (.iload_n 3, 1) := by decide +kernel
theorem dW_law_168 : decode code 168 = .ok (.iconst (3), 1) := by decide +kernel
theorem dW_law_169 : decode code 169 = .ok (.iadd, 1) := by decide +kernel
theorem dW_law_170 : decode code 170 = .ok (.iaload, 1) := by decide +kernel
theorem dW_law_171 : decode code 171 = .ok (.invokevirtual 18, 3) := by decide +kernel
theorem dW_law_174 : decode code 174 = .ok (.aload_n 2, 1) := by decide +kernel
theorem dW_law_175 : decode code 175 = .ok (.aload_n 0, 1) := by decide +kernel
theorem dW_law_176 : decode code 176 = .ok (.iload_n 3, 1) := by decide +kernel
theorem dW_law_177 : decode code 177 = .ok (.iconst (1), 1) := by decide +kernel
theorem dW_law_178 : decode code 178 = .ok (.iadd, 1) := by decide +kernel
theorem dW_law_179 : decode code 179 = .ok (.iaload, 1) := by decide +kernel
theorem dW_law_180 : decode code 180 = .ok (.aload_n 0, 1) := by decide +kernel
theorem dW_law_181 : decode code 181 = .ok (.iload_n 3, 1) := by decide +kernel
theorem dW_law_182 : decode code 182 = .ok (.iconst (2), 1) := by decide +kernel
theorem dW_law_183 : decode code 183 = .ok (.iadd, 1) := by decide +kernel
theorem dW_law_184 : decode code 184 = .ok (.iaload, 1) := by decide +kernel
theorem dW_law_185 : decode code 185 = .ok (.aload_n 0, 1) := by decide +kernel
theorem dW_law_186 : decode code 186 = .ok (.iload_n 3, 1) := by decide +kernel
theorem dW_law_187 : decode code 187 = .ok (.iconst (3), 1) := by decide +kernel
theorem dW_law_188 : decode code 188 = .ok (.iadd, 1) := by decide +kernel
theorem dW_law_189 : decode code 189 = .ok (.iaload, 1) := by decide +kernel
theorem dW_law_190 : decode code 190 = .ok (.invokevirtual 21, 3) := by decide +kernel
theorem dW_law_193 : decode code 193 = .ok (.if_icmp .eq (409), 3) := by decide +kernel
theorem dW_law_196 : decode code 196 = .ok (.iconst (0), 1) := by decide +kernel
theorem dW_law_197 : decode code 197 = .ok (.ireturn, 1) := by decide +kernel
theorem dW_law_198 : decode code 198 = .ok (.aload_n 1, 1) := by decide +kernel
theorem dW_law_199 : decode code 199 = .ok (.aload_n 0, 1) := by decide +kernel
theorem dW_law_200 : decode code 200 = .ok (.iload_n 3, 1) := by decide +kernel
theorem dW_law_201 : decode code 201 = .ok (.iconst (1), 1) := by decide +kernel
theorem dW_law_202 : decode code 202 = .ok (.iadd, 1) := by decide +kernel
theorem dW_law_203 : decode code 203 = .ok (.iaload, 1) := by decide +kernel
theorem dW_law_204 : decode code 204 = .ok (.aload_n 0, 1) := by decide +kernel
theorem dW_law_205 : decode code 205 = .ok (.iload_n 3, 1) := by decide +kernel
theorem dW_law_206 : decode code 206 = .ok (.iconst (2), 1) := by decide +kernel
theorem dW_law_207 : decode code 207 = .ok (.iadd, 1) := by decide +kernel
theorem dW_law_208 : decode code 208 = .ok (.iaload, 1) := by decide +kernel
theorem dW_law_209 : decode code 209 = .ok (.aload_n 0, 1) := by decide +kernel
theorem dW_law_210 : decode code 210 = .ok (.iload_n 3, 1) := by decide +kernel
theorem dW_law_211 : decode code 211 = .ok (.iconst (3), 1) := by decide +kernel
theorem dW_law_212 : decode code 212 = .ok (.iadd, 1) := by decide +kernel
theorem dW_law_213 : decode code 213 = .ok (.iaload, 1) := by decide +kernel
theorem dW_law_214 : decode code 214 = .ok (.invokevirtual 22, 3) := by decide +kernel
theorem dW_law_217 : decode code 217 = .ok (.aload_n 2, 1) := by decide +kernel
theorem dW_law_218 : decode code 218 = .ok (.aload_n 0, 1) := by decide +kernel
theorem dW_law_219 : decode code 219 = .ok (.iload_n 3, 1) := by decide +kernel
theorem dW_law_220 : decode code 220 = .ok (.iconst (1), 1) := by decide +kernel
theorem dW_law_221 : decode code 221 = .ok (.iadd, 1) := by decide +kernel
theorem dW_law_222 : decode code 222 = .ok (.iaload, 1) := by decide +kernel
theorem dW_law_223 : decode code 223 = .ok (.aload_n 0, 1) := by decide +kernel
theorem dW_law_224 : decode code 224 = .ok (.iload_n 3, 1) := by decide +kernel
theorem dW_law_225 : decode code 225 = .ok (.iconst (2), 1) := by decide +kernel
theorem dW_law_226 : decode code 226 = .ok (.iadd, 1) := by decide +kernel
theorem dW_law_227 : decode code 227 = .ok (.iaload, 1) := by decide +kernel
theorem dW_law_228 : decode code 228 = .ok (.aload_n 0, 1) := by decide +kernel
theorem dW_law_229 : decode code 229 = .ok (.iload_n 3, 1) := by decide +kernel
theorem dW_law_230 : decode code 230 = .ok (.iconst (3), 1) := by decide +kernel
theorem dW_law_231 : decode code 231 = .ok (.iadd, 1) := by decide +kernel
theorem dW_law_232 : decode code 232 = .ok (.iaload, 1) := by decide +kernel
theorem dW_law_233 : decode code 233 = .ok (.invokevirtual 25, 3) := by decide +kernel
theorem dW_law_236 : decode code 236 = .ok (.if_icmp .eq (366), 3) := by decide +kernel
theorem dW_law_239 : decode code 239 = .ok (.iconst (0), 1) := by decide +kernel
theorem dW_law_240 : decode code 240 = .ok (.ireturn, 1) := by decide +kernel
theorem dW_law_241 : decode code 241 = .ok (.aload_n 1, 1) := by decide +kernel
theorem dW_law_242 : decode code 242 = .ok (.aload_n 0, 1) := by decide +kernel
theorem dW_law_243 : decode code 243 = .ok (.iload_n 3, 1) := by decide +kernel
theorem dW_law_244 : decode code 244 = .ok (.iconst (1), 1) := by decide +kernel
theorem dW_law_245 : decode code 245 = .ok (.iadd, 1) := by decide +kernel
theorem dW_law_246 : decode code 246 = .ok (.iaload, 1) := by decide +kernel
theorem dW_law_247 : decode code 247 = .ok (.aload_n 0, 1) := by decide +kernel
theorem dW_law_248 : decode code 248 = .ok (.iload_n 3, 1) := by decide +kernel
theorem dW_law_249 : decode code 249 = .ok (.iconst (2), 1) := by decide +kernel
theorem dW_law_250 : decode code 250 = .ok (.iadd, 1) := by decide +kernel
theorem dW_law_251 : decode code 251 = .ok (.iaload, 1) := by decide +kernel
theorem dW_law_252 : decode code 252 = .ok (.aload_n 0, 1) := by decide +kernel
theorem dW_law_253 : decode code 253 = .ok (.iload_n 3, 1) := by decide +kernel
theorem dW_law_254 : decode code 254 = .ok (.iconst (3), 1) := by decide +kernel
theorem dW_law_255 : decode code 255 = .ok (.iadd, 1) := by decide +kernel
theorem dW_law_256 : decode code 256 = .ok (.iaload, 1) := by decide +kernel
theorem dW_law_257 : decode code 257 = .ok (.aload_n 0, 1) := by decide +kernel
theorem dW_law_258 : decode code 258 = .ok (.iload_n 3, 1) := by decide +kernel
theorem dW_law_259 : decode code 259 = .ok (.iconst (4), 1) := by decide +kernel
theorem dW_law_260 : decode code 260 = .ok (.iadd, 1) := by decide +kernel
theorem dW_law_261 : decode code 261 = .ok (.iaload, 1) := by decide +kernel
theorem dW_law_262 : decode code 262 = .ok (.aload_n 0, 1) := by decide +kernel
theorem dW_law_263 : decode code 263 = .ok (.iload_n 3, 1) := by decide +kernel
theorem dW_law_264 : decode code 264 = .ok (.iconst (5), 1) := by decide +kernel
theorem dW_law_265 : decode code 265 = .ok (.iadd, 1) := by decide +kernel
theorem dW_law_266 : decode code 266 = .ok (.iaload, 1) := by decide +kernel
theorem dW_law_267 : decode code 267 = .ok (.invokevirtual 26, 3) := by decide +kernel
theorem dW_law_270 : decode code 270 = .ok (.aload_n 2, 1) := by decide +kernel
theorem dW_law_271 : decode code 271 = .ok (.aload_n 0, 1) := by decide +kernel
theorem dW_law_272 : decode code 272 = .ok (.iload_n 3, 1) := by decide +kernel
theorem dW_law_273 : decode code 273 = .ok (.iconst (1), 1) := by decide +kernel
theorem dW_law_274 : decode code 274 = .ok (.iadd, 1) := by decide +kernel
theorem dW_law_275 : decode code 275 = .ok (.iaload, 1) := by decide +kernel
theorem dW_law_276 : decode code 276 = .ok (.aload_n 0, 1) := by decide +kernel
theorem dW_law_277 : decode code 277 = .ok (.iload_n 3, 1) := by decide +kernel
theorem dW_law_278 : decode code 278 = .ok (.iconst (2), 1) := by decide +kernel
theorem dW_law_279 : decode code 279 = .ok (.iadd, 1) := by decide +kernel
theorem dW_law_280 : decode code 280 = .ok (.iaload, 1) := by decide +kernel
theorem dW_law_281 : decode code 281 = .ok (.aload_n 0, 1) := by decide +kernel
theorem dW_law_282 : decode code 282 = .ok (.iload_n 3, 1) := by decide +kernel
theorem dW_law_283 : decode code 283 = .ok (.iconst (3), 1) := by decide +kernel
theorem dW_law_284 : decode code 284 = .ok (.iadd, 1) := by decide +kernel
theorem dW_law_285 : decode code 285 = .ok (.iaload, 1) := by decide +kernel
theorem dW_law_286 : decode code 286 = .ok (.aload_n 0, 1) := by decide +kernel
theorem dW_law_287 : decode code 287 = .ok (.iload_n 3, 1) := by decide +kernel
theorem dW_law_288 : decode code 288 = .ok (.iconst (4), 1) := by decide +kernel
theorem dW_law_289 : decode code 289 = .ok (.iadd, 1) := by decide +kernel
theorem dW_law_290 : decode code 290 = .ok (.iaload, 1) := by decide +kernel
theorem dW_law_291 : decode code 291 = .ok (.aload_n 0, 1) := by decide +kernel
theorem dW_law_292 : decode code 292 = .ok (.iload_n 3, 1) := by decide +kernel
theorem dW_law_293 : decode code 293 = .ok (.iconst (5), 1) := by decide +kernel
theorem dW_law_294 : decode code 294 = .ok (.iadd, 1) := by decide +kernel
theorem dW_law_295 : decode code 295 = .ok (.iaload, 1) := by decide +kernel
theorem dW_law_296 : decode code 296 = .ok (.invokevirtual 30, 3) := by decide +kernel
theorem dW_law_299 : decode code 299 = .ok (.if_icmp .eq (303), 3) := by decide +kernel
theorem dW_law_302 : decode code 302 = .ok (.iconst (0), 1) := by decide +kernel
theorem dW_law_303 : decode code 303 = .ok (.ireturn, 1) := by decide +kernel
theorem dW_law_304 : decode code 304 = .ok (.aload_n 1, 1) := by decide +kernel
theorem dW_law_305 : decode code 305 = .ok (.aload_n 0, 1) := by decide +kernel
theorem dW_law_306 : decode code 306 = .ok (.iload_n 3, 1) := by decide +kernel
theorem dW_law_307 : decode code 307 = .ok (.iconst (1), 1) := by decide +kernel
theorem dW_law_308 : decode code 308 = .ok (.iadd, 1) := by decide +kernel
theorem dW_law_309 : decode code 309 = .ok (.iaload, 1) := by decide +kernel
theorem dW_law_310 : decode code 310 = .ok (.aload_n 0, 1) := by decide +kernel
theorem dW_law_311 : decode code 311 = .ok (.iload_n 3, 1) := by decide +kernel
theorem dW_law_312 : decode code 312 = .ok (.iconst (2), 1) := by decide +kernel
theorem dW_law_313 : decode code 313 = .ok (.iadd, 1) := by decide +kernel
theorem dW_law_314 : decode code 314 = .ok (.iaload, 1) := by decide +kernel
theorem dW_law_315 : decode code 315 = .ok (.ifCond .eq (7), 3) := by decide +kernel
theorem dW_law_318 : decode code 318 = .ok (.iconst (1), 1) := by decide +kernel
theorem dW_law_319 : decode code 319 = .ok (.goto (4), 3) := by decide +kernel
theorem dW_law_322 : decode code 322 = .ok (.iconst (0), 1) := by decide +kernel
theorem dW_law_323 : decode code 323 = .ok (.invokevirtual 31, 3) := by decide +kernel
theorem dW_law_326 : decode code 326 = .ok (.aload_n 2, 1) := by decide +kernel
theorem dW_law_327 : decode code 327 = .ok (.aload_n 0, 1) := by decide +kernel
theorem dW_law_328 : decode code 328 = .ok (.iload_n 3, 1) := by decide +kernel
theorem dW_law_329 : decode code 329 = .ok (.iconst (1), 1) := by decide +kernel
theorem dW_law_330 : decode code 330 = .ok (.iadd, 1) := by decide +kernel
theorem dW_law_331 : decode code 331 = .ok (.iaload, 1) := by decide +kernel
theorem dW_law_332 : decode code 332 = .ok (.aload_n 0, 1) := by decide +kernel
theorem dW_law_333 : decode code 333 = .ok (.iload_n 3, 1) := by decide +kernel
theorem dW_law_334 : decode code 334 = .ok (.iconst (2), 1) := by decide +kernel
theorem dW_law_335 : decode code 335 = .ok (.iadd, 1) := by decide +kernel
theorem dW_law_336 : decode code 336 = .ok (.iaload, 1) := by decide +kernel
theorem dW_law_337 : decode code 337 = .ok (.ifCond .eq (7), 3) := by decide +kernel
theorem dW_law_340 : decode code 340 = .ok (.iconst (1), 1) := by decide +kernel
theorem dW_law_341 : decode code 341 = .ok (.goto (4), 3) := by decide +kernel
theorem dW_law_344 : decode code 344 = .ok (.iconst (0), 1) := by decide +kernel
theorem dW_law_345 : decode code 345 = .ok (.invokevirtual 35, 3) := by decide +kernel
theorem dW_law_348 : decode code 348 = .ok (.if_icmp .eq (254), 3) := by decide +kernel
theorem dW_law_351 : decode code 351 = .ok (.iconst (0), 1) := by decide +kernel
theorem dW_law_352 : decode code 352 = .ok (.ireturn, 1) := by decide +kernel
theorem dW_law_353 : decode code 353 = .ok (.aload_n 1, 1) := by decide +kernel
theorem dW_law_354 : decode code 354 = .ok (.invokevirtual 36, 3) := by decide +kernel
theorem dW_law_357 : decode code 357 = .ok (.aload_n 2, 1) := by decide +kernel
theorem dW_law_358 : decode code 358 = .ok (.invokevirtual 40, 3) := by decide +kernel
theorem dW_law_361 : decode code 361 = .ok (.if_icmp .eq (241), 3) := by decide +kernel
theorem dW_law_364 : decode code 364 = .ok (.iconst (0), 1) := by decide +kernel
theorem dW_law_365 : decode code 365 = .ok (.ireturn, 1) := by decide +kernel
theorem dW_law_366 : decode code 366 = .ok (.aload_n 1, 1) := by decide +kernel
theorem dW_law_367 : decode code 367 = .ok (.invokevirtual 41, 3) := by decide +kernel
theorem dW_law_370 : decode code 370 = .ok (.aload_n 2, 1) := by decide +kernel
theorem dW_law_371 : decode code 371 = .ok (.invokevirtual 44, 3) := by decide +kernel
theorem dW_law_374 : decode code 374 = .ok (.if_icmp .eq (228), 3) := by decide +kernel
theorem dW_law_377 : decode code 377 = .ok (.iconst (0), 1) := by decide +kernel
theorem dW_law_378 : decode code 378 = .ok (.ireturn, 1) := by decide +kernel
theorem dW_law_379 : decode code 379 = .ok (.aload_n 1, 1) := by decide +kernel
theorem dW_law_380 : decode code 380 = .ok (.invokevirtual 45, 3) := by decide +kernel
theorem dW_law_383 : decode code 383 = .ok (.aload_n 2, 1) := by decide +kernel
theorem dW_law_384 : decode code 384 = .ok (.invokevirtual 48, 3) := by decide +kernel
theorem dW_law_387 : decode code 387 = .ok (.if_icmp .eq (215), 3) := by decide +kernel
theorem dW_law_390 : decode code 390 = .ok (.iconst (0), 1) := by decide +kernel
theorem dW_law_391 : decode code 391 = .ok (.ireturn, 1) := by decide +kernel
theorem dW_law_392 : decode code 392 = .ok (.aload_n 1, 1) := by decide +kernel
theorem dW_law_393 : decode code 393 = .ok (.invokevirtual 49, 3) := by decide +kernel
theorem dW_law_396 : decode code 396 = .ok (.aload_n 2, 1) := by decide +kernel
theorem dW_law_397 : decode code 397 = .ok (.invokevirtual 52, 3) := by decide +kernel
theorem dW_law_400 : decode code 400 = .ok (.if_icmp .eq (202), 3) := by decide +kernel
theorem dW_law_403 : decode code 403 = .ok (.iconst (0), 1) := by decide +kernel
theorem dW_law_404 : decode code 404 = .ok (.ireturn, 1) := by decide +kernel
theorem dW_law_405 : decode code 405 = .ok (.aload_n 1, 1) := by decide +kernel
theorem dW_law_406 : decode code 406 = .ok (.invokevirtual 53, 3) := by decide +kernel
theorem dW_law_409 : decode code 409 = .ok (.aload_n 2, 1) := by decide +kernel
theorem dW_law_410 : decode code 410 = .ok (.invokevirtual 56, 3) := by decide +kernel
theorem dW_law_413 : decode code 413 = .ok (.if_icmp .eq (189), 3) := by decide +kernel
theorem dW_law_416 : decode code 416 = .ok (.iconst (0), 1) := by decide +kernel
theorem dW_law_417 : decode code 417 = .ok (.ireturn, 1) := by decide +kernel
theorem dW_law_418 : decode code 418 = .ok (.aload_n 1, 1) := by decide +kernel
theorem dW_law_419 : decode code 419 = .ok (.aload_n 0, 1) := by decide +kernel
theorem dW_law_420 : decode code 420 = .ok (.iload_n 3, 1) := by decide +kernel
theorem dW_law_421 : decode code 421 = .ok (.iconst (1), 1) := by decide +kernel
theorem dW_law_422 : decode code 422 = .ok (.iadd, 1) := by decide +kernel
theorem dW_law_423 : decode code 423 = .ok (.iaload, 1) := by decide +kernel
theorem dW_law_424 : decode code 424 = .ok (.aload_n 0, 1) := by decide +kernel
theorem dW_law_425 : decode code 425 = .ok (.iload_n 3, 1) := by decide +kernel
theorem dW_law_426 : decode code 426 = .ok (.iconst (2), 1) := by decide +kernel
theorem dW_law_427 : decode code 427 = .ok (.iadd, 1) := by decide +kernel
theorem dW_law_428 : decode code 428 = .ok (.iaload, 1) := by decide +kernel
theorem dW_law_429 : decode code 429 = .ok (.invokevirtual 57, 3) := by decide +kernel
theorem dW_law_432 : decode code 432 = .ok (.aload_n 2, 1) := by decide +kernel
theorem dW_law_433 : decode code 433 = .ok (.aload_n 0, 1) := by decide +kernel
theorem dW_law_434 : decode code 434 = .ok (.iload_n 3, 1) := by decide +kernel
theorem dW_law_435 : decode code 435 = .ok (.iconst (1), 1) := by decide +kernel
theorem dW_law_436 : decode code 436 = .ok (.iadd, 1) := by decide +kernel
theorem dW_law_437 : decode code 437 = .ok (.iaload, 1) := by decide +kernel
theorem dW_law_438 : decode code 438 = .ok (.aload_n 0, 1) := by decide +kernel
theorem dW_law_439 : decode code 439 = .ok (.iload_n 3, 1) := by decide +kernel
theorem dW_law_440 : decode code 440 = .ok (.iconst (2), 1) := by decide +kernel
theorem dW_law_441 : decode code 441 = .ok (.iadd, 1) := by decide +kernel
theorem dW_law_442 : decode code 442 = .ok (.iaload, 1) := by decide +kernel
theorem dW_law_443 : decode code 443 = .ok (.invokevirtual 61, 3) := by decide +kernel
theorem dW_law_446 : decode code 446 = .ok (.if_icmp .eq (156), 3) := by decide +kernel
theorem dW_law_449 : decode code 449 = .ok (.iconst (0), 1) := by decide +kernel
theorem dW_law_450 : decode code 450 = .ok (.ireturn, 1) := by decide +kernel
theorem dW_law_451 : decode code 451 = .ok (.aload_n 1, 1) := by decide +kernel
theorem dW_law_452 : decode code 452 = .ok (.aload_n 0, 1) := by decide +kernel
theorem dW_law_453 : decode code 453 = .ok (.iload_n 3, 1) := by decide +kernel
theorem dW_law_454 : decode code 454 = .ok (.iconst (1), 1) := by decide +kernel
theorem dW_law_455 : decode code 455 = .ok (.iadd, 1) := by decide +kernel
theorem dW_law_456 : decode code 456 = .ok (.iaload, 1) := by decide +kernel
theorem dW_law_457 : decode code 457 = .ok (.invokevirtual 62, 3) := by decide +kernel
theorem dW_law_460 : decode code 460 = .ok (.aload_n 2, 1) := by decide +kernel
theorem dW_law_461 : decode code 461 = .ok (.aload_n 0, 1) := by decide +kernel
theorem dW_law_462 : decode code 462 = .ok (.iload_n 3, 1) := by decide +kernel
theorem dW_law_463 : decode code 463 = .ok (.iconst (1), 1) := by decide +kernel
theorem dW_law_464 : decode code 464 = .ok (.iadd, 1) := by decide +kernel
theorem dW_law_465 : decode code 465 = .ok (.iaload, 1) := by decide +kernel
theorem dW_law_466 : decode code 466 = .ok (.invokevirtual 66, 3) := by decide +kernel
theorem dW_law_469 : decode code 469 = .ok (.if_icmp .eq (133), 3) := by decide +kernel
theorem dW_law_472 : decode code 472 = .ok (.iconst (0), 1) := by decide +kernel
theorem dW_law_473 : decode code 473 = .ok (.ireturn, 1) := by decide +kernel
theorem dW_law_474 : decode code 474 = .ok (.aload_n 1, 1) := by decide +kernel
theorem dW_law_475 : decode code 475 = .ok (.aload_n 0, 1) := by decide +kernel
theorem dW_law_476 : decode code 476 = .ok (.iload_n 3, 1) := by decide +kernel
theorem dW_law_477 : decode code 477 = .ok (.iconst (1), 1) := by decide +kernel
theorem dW_law_478 : decode code 478 = .ok (.iadd, 1) := by decide +kernel
theorem dW_law_479 : decode code 479 = .ok (.iaload, 1) := by decide +kernel
theorem dW_law_480 : decode code 480 = .ok (.aload_n 0, 1) := by decide +kernel
theorem dW_law_481 : decode code 481 = .ok (.iload_n 3, 1) := by decide +kernel
theorem dW_law_482 : decode code 482 = .ok (.iconst (2), 1) := by decide +kernel
theorem dW_law_483 : decode code 483 = .ok (.iadd, 1) := by decide +kernel
theorem dW_law_484 : decode code 484 = .ok (.iaload, 1) := by decide +kernel
theorem dW_law_485 : decode code 485 = .ok (.ifCond .eq (7), 3) := by decide +kernel
theorem dW_law_488 : decode code 488 = .ok (.iconst (1), 1) := by decide +kernel
theorem dW_law_489 : decode code 489 = .ok (.goto (4), 3) := by decide +kernel
theorem dW_law_492 : decode code 492 = .ok (.iconst (0), 1) := by decide +kernel
theorem dW_law_493 : decode code 493 = .ok (.invokevirtual 67, 3) := by decide +kernel
theorem dW_law_496 : decode code 496 = .ok (.aload_n 2, 1) := by decide +kernel
theorem dW_law_497 : decode code 497 = .ok (.aload_n 0, 1) := by decide +kernel
theorem dW_law_498 : decode code 498 = .ok (.iload_n 3, 1) := by decide +kernel
theorem dW_law_499 : decode code 499 = .ok (.iconst (1), 1) := by decide +kernel
theorem dW_law_500 : decode code 500 = .ok (.iadd, 1) := by decide +kernel
theorem dW_law_501 : decode code 501 = .ok (.iaload, 1) := by decide +kernel
theorem dW_law_502 : decode code 502 = .ok (.aload_n 0, 1) := by decide +kernel
theorem dW_law_503 : decode code 503 = .ok (.iload_n 3, 1) := by decide +kernel
theorem dW_law_504 : decode code 504 = .ok (.iconst (2), 1) := by decide +kernel
theorem dW_law_505 : decode code 505 = .ok (.iadd, 1) := by decide +kernel
theorem dW_law_506 : decode code 506 = .ok (.iaload, 1) := by decide +kernel
theorem dW_law_507 : decode code 507 = .ok (.ifCond .eq (7), 3) := by decide +kernel
theorem dW_law_510 : decode code 510 = .ok (.iconst (1), 1) := by decide +kernel
theorem dW_law_511 : decode code 511 = .ok (.goto (4), 3) := by decide +kernel
theorem dW_law_514 : decode code 514 = .ok (.iconst (0), 1) := by decide +kernel
theorem dW_law_515 : decode code 515 = .ok (.invokevirtual 70, 3) := by decide +kernel
theorem dW_law_518 : decode code 518 = .ok (.if_icmp .eq (84), 3) := by decide +kernel
theorem dW_law_521 : decode code 521 = .ok (.iconst (0), 1) := by decide +kernel
theorem dW_law_522 : decode code 522 = .ok (.ireturn, 1) := by decide +kernel
theorem dW_law_523 : decode code 523 = .ok (.aload_n 1, 1) := by decide +kernel
theorem dW_law_524 : decode code 524 = .ok (.aload_n 0, 1) := by decide +kernel
theorem dW_law_525 : decode code 525 = .ok (.iload_n 3, 1) := by decide +kernel
theorem dW_law_526 : decode code 526 = .ok (.iconst (1), 1) := by decide +kernel
theorem dW_law_527 : decode code 527 = .ok (.iadd, 1) := by decide +kernel
theorem dW_law_528 : decode code 528 = .ok (.iaload, 1) := by decide +kernel
theorem dW_law_529 : decode code 529 = .ok (.invokevirtual 71, 3) := by decide +kernel
theorem dW_law_532 : decode code 532 = .ok (.aload_n 2, 1) := by decide +kernel
theorem dW_law_533 : decode code 533 = .ok (.aload_n 0, 1) := by decide +kernel
theorem dW_law_534 : decode code 534 = .ok (.iload_n 3, 1) := by decide +kernel
theorem dW_law_535 : decode code 535 = .ok (.iconst (1), 1) := by decide +kernel
theorem dW_law_536 : decode code 536 = .ok (.iadd, 1) := by decide +kernel
theorem dW_law_537 : decode code 537 = .ok (.iaload, 1) := by decide +kernel
theorem dW_law_538 : decode code 538 = .ok (.invokevirtual 74, 3) := by decide +kernel
theorem dW_law_541 : decode code 541 = .ok (.if_icmp .eq (61), 3) := by decide +kernel
theorem dW_law_544 : decode code 544 = .ok (.iconst (0), 1) := by decide +kernel
theorem dW_law_545 : decode code 545 = .ok (.ireturn, 1) := by decide +kernel
theorem dW_law_546 : decode code 546 = .ok (.aload_n 1, 1) := by decide +kernel
theorem dW_law_547 : decode code 547 = .ok (.aload_n 0, 1) := by decide +kernel
theorem dW_law_548 : decode code 548 = .ok (.iload_n 3, 1) := by decide +kernel
theorem dW_law_549 : decode code 549 = .ok (.iconst (1), 1) := by decide +kernel
theorem dW_law_550 : decode code 550 = .ok (.iadd, 1) := by decide +kernel
theorem dW_law_551 : decode code 551 = .ok (.iaload, 1) := by decide +kernel
theorem dW_law_552 : decode code 552 = .ok (.aload_n 0, 1) := by decide +kernel
theorem dW_law_553 : decode code 553 = .ok (.iload_n 3, 1) := by decide +kernel
theorem dW_law_554 : decode code 554 = .ok (.iconst (2), 1) := by decide +kernel
theorem dW_law_555 : decode code 555 = .ok (.iadd, 1) := by decide +kernel
theorem dW_law_556 : decode code 556 = .ok (.iaload, 1) := by decide +kernel
theorem dW_law_557 : decode code 557 = .ok (.invokevirtual 75, 3) := by decide +kernel
theorem dW_law_560 : decode code 560 = .ok (.aload_n 2, 1) := by decide +kernel
theorem dW_law_561 : decode code 561 = .ok (.aload_n 0, 1) := by decide +kernel
theorem dW_law_562 : decode code 562 = .ok (.iload_n 3, 1) := by decide +kernel
theorem dW_law_563 : decode code 563 = .ok (.iconst (1), 1) := by decide +kernel
theorem dW_law_564 : decode code 564 = .ok (.iadd, 1) := by decide +kernel
theorem dW_law_565 : decode code 565 = .ok (.iaload, 1) := by decide +kernel
theorem dW_law_566 : decode code 566 = .ok (.aload_n 0, 1) := by decide +kernel
theorem dW_law_567 : decode code 567 = .ok (.iload_n 3, 1) := by decide +kernel
theorem dW_law_568 : decode code 568 = .ok (.iconst (2), 1) := by decide +kernel
theorem dW_law_569 : decode code 569 = .ok (.iadd, 1) := by decide +kernel
theorem dW_law_570 : decode code 570 = .ok (.iaload, 1) := by decide +kernel
theorem dW_law_571 : decode code 571 = .ok (.invokevirtual 78, 3) := by decide +kernel
theorem dW_law_574 : decode code 574 = .ok (.if_icmp .eq (28), 3) := by decide +kernel
theorem dW_law_577 : decode code 577 = .ok (.iconst (0), 1) := by decide +kernel
theorem dW_law_578 : decode code 578 = .ok (.ireturn, 1) := by decide +kernel
theorem dW_law_579 : decode code 579 = .ok (.aload_n 1, 1) := by decide +kernel
theorem dW_law_580 : decode code 580 = .ok (.aload_n 0, 1) := by decide +kernel
theorem dW_law_581 : decode code 581 = .ok (.iload_n 3, 1) := by decide +kernel
theorem dW_law_582 : decode code 582 = .ok (.iconst (1), 1) := by decide +kernel
theorem dW_law_583 : decode code 583 = .ok (.iadd, 1) := by decide +kernel
theorem dW_law_584 : decode code 584 = .ok (.iaload, 1) := by decide +kernel
theorem dW_law_585 : decode code 585 = .ok (.invokevirtual 79, 3) := by decide +kernel
theorem dW_law_588 : decode code 588 = .ok (.aload_n 2, 1) := by decide +kernel
theorem dW_law_589 : decode code 589 = .ok (.aload_n 0, 1) := by decide +kernel
theorem dW_law_590 : decode code 590 = .ok (.iload_n 3, 1) := by decide +kernel
theorem dW_law_591 : decode code 591 = .ok (.iconst (1), 1) := by decide +kernel
theorem dW_law_592 : decode code 592 = .ok (.iadd, 1) := by decide +kernel
theorem dW_law_593 : decode code 593 = .ok (.iaload, 1) := by decide +kernel
theorem dW_law_594 : decode code 594 = .ok (.invokevirtual 82, 3) := by decide +kernel
theorem dW_law_597 : decode code 597 = .ok (.if_icmp .eq (5), 3) := by decide +kernel
theorem dW_law_600 : decode code 600 = .ok (.iconst (0), 1) := by decide +kernel
theorem dW_law_601 : decode code 601 = .ok (.ireturn, 1) := by decide +kernel
theorem dW_law_602 : decode code 602 = .ok (.iinc 3 (6), 3) := by decide +kernel
theorem dW_law_605 : decode code 605 = .ok (.goto (-587), 3) := by decide +kernel
theorem dW_law_608 : decode code 608 = .ok (.iconst (1), 1) := by decide +kernel
theorem dW_law_609 : decode code 609 = .ok (.ireturn, 1) := by decide +kernel
def fW_law_b515  (rec18 : (Option Nat) → (Option Nat) → (Option Nat) → Int32 → Nat → Nat → Nat → cW → Option (Int32 × cW)) (a0 : Option Nat) (a1 : Option Nat) (a2 : Option Nat) (a3 : Int32) (s0 : Int32) (s1 : Option Nat) (s2 : Int32) (s3 : Int32) (g1 : Nat) (g2 : Nat) (c : Nat) (w : cW) : Option (Int32 × cW) :=
  if c < 12001 then (
  (cRcv w s1 5).bind fun b4 => cbd (cFr (gIn g1 g2) (fM_life b4 s2 s3) w) fun x1 w2 =>
  if s0 = x1 then (
    bnd (a3 + (6 : Int32)) fun x5 =>
    rec18 a0 a1 a2 x5 g1 g2 c w2) else
  if c < 12001 then (
  none) else none) else none
def fW_law_b493  (rec18 : (Option Nat) → (Option Nat) → (Option Nat) → Int32 → Nat → Nat → Nat → cW → Option (Int32 × cW)) (a0 : Option Nat) (a1 : Option Nat) (a2 : Option Nat) (a3 : Int32) (s0 : Option Nat) (s1 : Int32) (s2 : Int32) (g1 : Nat) (g2 : Nat) (c : Nat) (w : cW) : Option (Int32 × cW) :=
  if c < 12001 then (
  (cRcv w s0 0).bind fun b4 => cbd (cFr (gEx g1 g2) (fN_life b4 s1 s2) w) fun x1 w2 =>
  (ldI w2 a0 .int (a3 + (1 : Int32))).bind fun x5 =>
  (ldI w2 a0 .int (a3 + (2 : Int32))).bind fun x6 =>
  if x6 = 0 then (
    fW_law_b515 rec18 a0 a1 a2 a3 x1 a2 x5 (0 : Int32) g1 g2 c w2) else
  fW_law_b515 rec18 a0 a1 a2 a3 x1 a2 x5 (1 : Int32) g1 g2 c w2) else none
def fW_law_b345  (rec18 : (Option Nat) → (Option Nat) → (Option Nat) → Int32 → Nat → Nat → Nat → cW → Option (Int32 × cW)) (a0 : Option Nat) (a1 : Option Nat) (a2 : Option Nat) (a3 : Int32) (s0 : Int32) (s1 : Option Nat) (s2 : Int32) (s3 : Int32) (g1 : Nat) (g2 : Nat) (c : Nat) (w : cW) : Option (Int32 × cW) :=
  if c < 12001 then (
  (cRcv w s1 5).bind fun b4 => cbd (cFr (gIn g1 g2) (fM_keep b4 s2 s3) w) fun x1 w2 =>
  if s0 = x1 then (
    bnd (a3 + (6 : Int32)) fun x5 =>
    rec18 a0 a1 a2 x5 g1 g2 c w2) else
  if c < 12001 then (
  none) else none) else none
def fW_law_b323  (rec18 : (Option Nat) → (Option Nat) → (Option Nat) → Int32 → Nat → Nat → Nat → cW → Option (Int32 × cW)) (a0 : Option Nat) (a1 : Option Nat) (a2 : Option Nat) (a3 : Int32) (s0 : Option Nat) (s1 : Int32) (s2 : Int32) (g1 : Nat) (g2 : Nat) (c : Nat) (w : cW) : Option (Int32 × cW) :=
  if c < 12001 then (
  (cRcv w s0 0).bind fun b4 => cbd (cFr (gEx g1 g2) (fN_keep b4 s1 s2) w) fun x1 w2 =>
  (ldI w2 a0 .int (a3 + (1 : Int32))).bind fun x5 =>
  (ldI w2 a0 .int (a3 + (2 : Int32))).bind fun x6 =>
  if x6 = 0 then (
    fW_law_b345 rec18 a0 a1 a2 a3 x1 a2 x5 (0 : Int32) g1 g2 c w2) else
  fW_law_b345 rec18 a0 a1 a2 a3 x1 a2 x5 (1 : Int32) g1 g2 c w2) else none
def fW_law_b18   (rec18 : (Option Nat) → (Option Nat) → (Option Nat) → Int32 → Nat → Nat → Nat → cW → Option (Int32 × cW)) (a0 : Option Nat) (a1 : Option Nat) (a2 : Option Nat) (a3 : Int32) (g1 : Nat) (g2 : Nat) (c : Nat) (w : cW) : Option (Int32 × cW) :=
  (aLen w a0).bind fun x1 =>
  if (x1 - (6 : Int32)) < a3 then (
    if c < 12001 then (
    some ((1 : Int32), w)) else none) else
  (ldI w a0 .int a3).bind fun x3 =>
  bnd (x3 &&& (15 : Int32)) fun x4 =>
  if x4 = (0 : Int32) then (
    (ldI w a0 .int (a3 + (1 : Int32))).bind fun x5 =>
    (ldI w a0 .int (a3 + (2 : Int32))).bind fun x6 =>
    (ldI w a0 .int (a3 + (3 : Int32))).bind fun x7 =>
    if c < 11995 then (
    (cRcv w a1 0).bind fun b11 => cbd (cFr (gEx g1 g2) (fN_tensor b11 x5 x6 x7) w) fun x8 w9 =>
    (ldI w9 a0 .int (a3 + (1 : Int32))).bind fun x12 =>
    (ldI w9 a0 .int (a3 + (2 : Int32))).bind fun x13 =>
    (ldI w9 a0 .int (a3 + (3 : Int32))).bind fun x14 =>
    if (c + 6) < 12001 then (
    (cRcv w9 a2 5).bind fun b18 => cbd (cFr (gIn g1 g2) (fM_tensor b18 x12 x13 x14) w9) fun x15 w16 =>
    if x8 = x15 then (
      bnd (a3 + (6 : Int32)) fun x19 =>
      rec18 a0 a1 a2 x19 g1 g2 (c + 6) w16) else
    if (c + 6) < 12001 then (
    none) else none) else none) else none) else
  if x4 = (1 : Int32) then (
    (ldI w a0 .int (a3 + (1 : Int32))).bind fun x21 =>
    (ldI w a0 .int (a3 + (2 : Int32))).bind fun x22 =>
    (ldI w a0 .int (a3 + (3 : Int32))).bind fun x23 =>
    if c < 12001 then (
    (cRcv w a1 0).bind fun b27 => cbd (cFr (gEx g1 g2) (fN_set b27 x21 x22 x23) w) fun x24 w25 =>
    (ldI w25 a0 .int (a3 + (1 : Int32))).bind fun x28 =>
    (ldI w25 a0 .int (a3 + (2 : Int32))).bind fun x29 =>
    (ldI w25 a0 .int (a3 + (3 : Int32))).bind fun x30 =>
    if c < 12001 then (
    (cRcv w25 a2 5).bind fun b34 => cbd (cFr (gIn g1 g2) (fM_set b34 x28 x29 x30) w25) fun x31 w32 =>
    if x24 = x31 then (
      bnd (a3 + (6 : Int32)) fun x35 =>
      rec18 a0 a1 a2 x35 g1 g2 c w32) else
    if c < 12001 then (
    none) else none) else none) else none) else
  if x4 = (2 : Int32) then (
    (ldI w a0 .int (a3 + (1 : Int32))).bind fun x37 =>
    (ldI w a0 .int (a3 + (2 : Int32))).bind fun x38 =>
    (ldI w a0 .int (a3 + (3 : Int32))).bind fun x39 =>
    if c < 12001 then (
    (cRcv w a1 0).bind fun b43 => cbd (cFr (gEx g1 g2) (fN_scale b43 x37 x38 x39) w) fun x40 w41 =>
    (ldI w41 a0 .int (a3 + (1 : Int32))).bind fun x44 =>
    (ldI w41 a0 .int (a3 + (2 : Int32))).bind fun x45 =>
    (ldI w41 a0 .int (a3 + (3 : Int32))).bind fun x46 =>
    if c < 12001 then (
    (cRcv w41 a2 5).bind fun b50 => cbd (cFr (gIn g1 g2) (fM_scale b50 x44 x45 x46) w41) fun x47 w48 =>
    if x40 = x47 then (
      bnd (a3 + (6 : Int32)) fun x51 =>
      rec18 a0 a1 a2 x51 g1 g2 c w48) else
    if c < 12001 then (
    none) else none) else none) else none) else
  if x4 = (3 : Int32) then (
    (ldI w a0 .int (a3 + (1 : Int32))).bind fun x53 =>
    (ldI w a0 .int (a3 + (2 : Int32))).bind fun x54 =>
    (ldI w a0 .int (a3 + (3 : Int32))).bind fun x55 =>
    (ldI w a0 .int (a3 + (4 : Int32))).bind fun x56 =>
    (ldI w a0 .int (a3 + (5 : Int32))).bind fun x57 =>
    if c < 11999 then (
    (cRcv w a1 0).bind fun b61 => cbd (cFr (gEx g1 g2) (fN_operator b61 x53 x54 x55 x56 x57) w) fun x58 w59 =>
    (ldI w59 a0 .int (a3 + (1 : Int32))).bind fun x62 =>
    (ldI w59 a0 .int (a3 + (2 : Int32))).bind fun x63 =>
    (ldI w59 a0 .int (a3 + (3 : Int32))).bind fun x64 =>
    (ldI w59 a0 .int (a3 + (4 : Int32))).bind fun x65 =>
    (ldI w59 a0 .int (a3 + (5 : Int32))).bind fun x66 =>
    if (c + 2) < 12001 then (
    (cRcv w59 a2 5).bind fun b70 => cbd (cFr (gIn g1 g2) (fM_operator b70 x62 x63 x64 x65 x66) w59) fun x67 w68 =>
    if x58 = x67 then (
      bnd (a3 + (6 : Int32)) fun x71 =>
      rec18 a0 a1 a2 x71 g1 g2 (c + 2) w68) else
    if (c + 2) < 12001 then (
    none) else none) else none) else none) else
  if x4 = (4 : Int32) then (
    (ldI w a0 .int (a3 + (1 : Int32))).bind fun x73 =>
    (ldI w a0 .int (a3 + (2 : Int32))).bind fun x74 =>
    if x74 = 0 then (
      fW_law_b323 rec18 a0 a1 a2 a3 a1 x73 (0 : Int32) g1 g2 c w) else
    fW_law_b323 rec18 a0 a1 a2 a3 a1 x73 (1 : Int32) g1 g2 c w) else
  if x4 = (5 : Int32) then (
    if c < 11981 then (
    (cRcv w a1 0).bind fun b78 => cbd (cFr (gEx g1 g2) (fN_prepare b78) w) fun x75 w76 =>
    if (c + 20) < 12001 then (
    (cRcv w76 a2 5).bind fun b82 => cbd (cFr (gIn g1 g2) (fM_prepare b82) w76) fun x79 w80 =>
    if x75 = x79 then (
      bnd (a3 + (6 : Int32)) fun x83 =>
      rec18 a0 a1 a2 x83 g1 g2 (c + 20) w80) else
    if (c + 20) < 12001 then (
    none) else none) else none) else none) else
  if x4 = (6 : Int32) then (
    if c < 12001 then (
    (cRcv w a1 0).bind fun b88 => cbd (cFr (gEx g1 g2) (fN_reopen b88) w) fun x85 w86 =>
    if c < 12001 then (
    (cRcv w86 a2 5).bind fun b92 => cbd (cFr (gIn g1 g2) (fM_reopen b92) w86) fun x89 w90 =>
    if x85 = x89 then (
      bnd (a3 + (6 : Int32)) fun x93 =>
      rec18 a0 a1 a2 x93 g1 g2 c w90) else
    if c < 12001 then (
    none) else none) else none) else none) else
  if x4 = (7 : Int32) then (
    if c < 12001 then (
    (cRcv w a1 0).bind fun b98 => cbd (cFr (gEx g1 g2) (fN_start b98) w) fun x95 w96 =>
    if c < 12001 then (
    (cRcv w96 a2 5).bind fun b102 => cbd (cFr (gIn g1 g2) (fM_start b102) w96) fun x99 w100 =>
    if x95 = x99 then (
      bnd (a3 + (6 : Int32)) fun x103 =>
      rec18 a0 a1 a2 x103 g1 g2 c w100) else
    if c < 12001 then (
    none) else none) else none) else none) else
  if x4 = (8 : Int32) then (
    if c < 12001 then (
    (cRcv w a1 0).bind fun b108 => cbd (cFr (gEx g1 g2) (fN_step b108) w) fun x105 w106 =>
    if c < 12001 then (
    (cRcv w106 a2 5).bind fun b112 => cbd (cFr (gIn g1 g2) (fM_step b112) w106) fun x109 w110 =>
    if x105 = x109 then (
      bnd (a3 + (6 : Int32)) fun x113 =>
      rec18 a0 a1 a2 x113 g1 g2 c w110) else
    if c < 12001 then (
    none) else none) else none) else none) else
  if x4 = (9 : Int32) then (
    if c < 12001 then (
    (cRcv w a1 0).bind fun b118 => cbd (cFr (gEx g1 g2) (fN_finish b118) w) fun x115 w116 =>
    if c < 12001 then (
    (cRcv w116 a2 5).bind fun b122 => cbd (cFr (gIn g1 g2) (fM_finish b122) w116) fun x119 w120 =>
    if x115 = x119 then (
      bnd (a3 + (6 : Int32)) fun x123 =>
      rec18 a0 a1 a2 x123 g1 g2 c w120) else
    if c < 12001 then (
    none) else none) else none) else none) else
  if x4 = (10 : Int32) then (
    (ldI w a0 .int (a3 + (1 : Int32))).bind fun x125 =>
    (ldI w a0 .int (a3 + (2 : Int32))).bind fun x126 =>
    if c < 12001 then (
    (cRcv w a1 0).bind fun b130 => cbd (cFr (gEx g1 g2) (fN_cell b130 x125 x126) w) fun x127 w128 =>
    (ldI w128 a0 .int (a3 + (1 : Int32))).bind fun x131 =>
    (ldI w128 a0 .int (a3 + (2 : Int32))).bind fun x132 =>
    if c < 12001 then (
    (cRcv w128 a2 5).bind fun b136 => cbd (cFr (gIn g1 g2) (fM_cell b136 x131 x132) w128) fun x133 w134 =>
    if x127 = x133 then (
      bnd (a3 + (6 : Int32)) fun x137 =>
      rec18 a0 a1 a2 x137 g1 g2 c w134) else
    if c < 12001 then (
    none) else none) else none) else none) else
  if x4 = (11 : Int32) then (
    (ldI w a0 .int (a3 + (1 : Int32))).bind fun x139 =>
    if c < 12001 then (
    (cRcv w a1 0).bind fun b143 => cbd (cFr (gEx g1 g2) (fN_offset b143 x139) w) fun x140 w141 =>
    (ldI w141 a0 .int (a3 + (1 : Int32))).bind fun x144 =>
    if c < 12001 then (
    (cRcv w141 a2 5).bind fun b148 => cbd (cFr (gIn g1 g2) (fM_offset b148 x144) w141) fun x145 w146 =>
    if x140 = x145 then (
      bnd (a3 + (6 : Int32)) fun x149 =>
      rec18 a0 a1 a2 x149 g1 g2 c w146) else
    if c < 12001 then (
    none) else none) else none) else none) else
  if x4 = (12 : Int32) then (
    (ldI w a0 .int (a3 + (1 : Int32))).bind fun x151 =>
    (ldI w a0 .int (a3 + (2 : Int32))).bind fun x152 =>
    if x152 = 0 then (
      fW_law_b493 rec18 a0 a1 a2 a3 a1 x151 (0 : Int32) g1 g2 c w) else
    fW_law_b493 rec18 a0 a1 a2 a3 a1 x151 (1 : Int32) g1 g2 c w) else
  if x4 = (13 : Int32) then (
    (ldI w a0 .int (a3 + (1 : Int32))).bind fun x153 =>
    if c < 12001 then (
    (cRcv w a1 0).bind fun b157 => cbd (cFr (gEx g1 g2) (fN_placed b157 x153) w) fun x154 w155 =>
    (ldI w155 a0 .int (a3 + (1 : Int32))).bind fun x158 =>
    if c < 12001 then (
    (cRcv w155 a2 5).bind fun b162 => cbd (cFr (gIn g1 g2) (fM_placed b162 x158) w155) fun x159 w160 =>
    if x154 = x159 then (
      bnd (a3 + (6 : Int32)) fun x163 =>
      rec18 a0 a1 a2 x163 g1 g2 c w160) else
    if c < 12001 then (
    none) else none) else none) else none) else
  if x4 = (14 : Int32) then (
    (ldI w a0 .int (a3 + (1 : Int32))).bind fun x165 =>
    (ldI w a0 .int (a3 + (2 : Int32))).bind fun x166 =>
    if c < 12001 then (
    (cRcv w a1 0).bind fun b170 => cbd (cFr (gEx g1 g2) (fN_scaled b170 x165 x166) w) fun x167 w168 =>
    (ldI w168 a0 .int (a3 + (1 : Int32))).bind fun x171 =>
    (ldI w168 a0 .int (a3 + (2 : Int32))).bind fun x172 =>
    if c < 12001 then (
    (cRcv w168 a2 5).bind fun b176 => cbd (cFr (gIn g1 g2) (fM_scaled b176 x171 x172) w168) fun x173 w174 =>
    if x167 = x173 then (
      bnd (a3 + (6 : Int32)) fun x177 =>
      rec18 a0 a1 a2 x177 g1 g2 c w174) else
    if c < 12001 then (
    none) else none) else none) else none) else
  if x4 = (15 : Int32) then (
    (ldI w a0 .int (a3 + (1 : Int32))).bind fun x179 =>
    if c < 12001 then (
    (cRcv w a1 0).bind fun b183 => cbd (cFr (gEx g1 g2) (fN_count b183 x179) w) fun x180 w181 =>
    (ldI w181 a0 .int (a3 + (1 : Int32))).bind fun x184 =>
    if c < 12001 then (
    (cRcv w181 a2 5).bind fun b188 => cbd (cFr (gIn g1 g2) (fM_count b188 x184) w181) fun x185 w186 =>
    if x180 = x185 then (
      bnd (a3 + (6 : Int32)) fun x189 =>
      rec18 a0 a1 a2 x189 g1 g2 c w186) else
    if c < 12001 then (
    none) else none) else none) else none) else
  bnd (a3 + (6 : Int32)) fun x191 =>
  rec18 a0 a1 a2 x191 g1 g2 c w
def fW_law_l18   (n : Nat) : (Option Nat) → (Option Nat) → (Option Nat) → Int32 → Nat → Nat → Nat → cW → Option (Int32 × cW) := lp (fun _ _ _ _ _ _ _ _ => none) (fW_law_b18  ) n
def fW_law  (a0 : Nat) (w : cW) : Option (Int32 × cW) :=
  bnd (alC w (.inr (0, dfN))) fun w1 =>
  cbd (fN_init w.2.1 w1) fun _ w3 =>
  bnd (alC w3 (.inr (5, dfM))) fun w4 =>
  cbd (fM_init w3.2.1 w4) fun _ w6 =>
  fW_law_l18 FU (some a0) (some w.2.1) (some w3.2.1) (0 : Int32) w3.2.1 w6.2.1 (222) w6
set_option maxHeartbeats 4000000 in
set_option maxRecDepth 100000 in
theorem tW_law_b515 {C : xC} {w0 w' : cW} {r : Int32}  (hC : okC C code 4 "ArenaNetworkLaw" lw_gd) (hE : lawE C w0) (hR : xR C = room_1) {rec18 : (Option Nat) → (Option Nat) → (Option Nat) → Int32 → Nat → Nat → Nat → cW → Option (Int32 × cW)} (hrec18 : ∀ (a0 : Option Nat) (a1 : Option Nat) (a2 : Option Nat) (a3 : Int32) (g1 : Nat) (g2 : Nat) (c : Nat) (w : cW), rec18 a0 a1 a2 a3 g1 g2 c w = some (r, w') → V C w (1 * c) (128 * c) 18 [(0, va_rf a0), (1, va_rf a1), (2, va_rf a2), (3, .int a3)] []) (a0 : Option Nat) (a1 : Option Nat) (a2 : Option Nat) (a3 : Int32) (s0 : Int32) (s1 : Option Nat) (s2 : Int32) (s3 : Int32) (g1 : Nat) (g2 : Nat) (c : Nat) (w : cW) (hf : fW_law_b515 rec18 a0 a1 a2 a3 s0 s1 s2 s3 g1 g2 c w = some (r, w')) : V C w (1 * c) (128 * c) 515 [(0, va_rf a0), (1, va_rf a1), (2, va_rf a2), (3, .int a3)] [.int s3, .int s2, va_rf s1, .int s0] := by
  unfold fW_law_b515 at hf
  by_cases ec3 : c < 12001
  rotate_left
  · rw [if_neg ec3] at hf; cases hf
  rw [if_pos ec3] at hf
  refine v_callVF (pc := 515) (S := (gIn g1 g2)) (r := s1) (As := [.int s2, .int s3]) (rest := [.int s0]) (k' := 1 * c) (n' := 128 * c) (st1 := (fun yq => [.int yq, .int s0])) hC dW_law_515 q658 q659 q660 q7 q661 ykM_life rfl rfl (fun bq vq rq wq hq => mM_life _ _ bq s2 s3 _ rq wq hq) (by rw [hR]; decide) (by simp only [List.map_cons, List.map_nil, va_cat]; exact Nat.le_of_ble_eq_true rfl) (by simp only [rmM_life]; omega) (by rw [hR]; simp only [room_1]; omega) hf rfl (fun _ => rfl) (fun x1 w2 hf => ?_)
  refine v_icmp_eq (pc := 518) (tgt := 602) hC dW_law_518 (by decide) hf (fun hf => ?_) (fun hf => ?_)
  · refine v_iincB (pc := 602) (i := 3) (x := a3) (v := (6 : Int32)) hC dW_law_602 3 rfl (by decide) (by decide) (fun x5 => [(3, .int x5), (0, va_rf a0), (1, va_rf a1), (2, va_rf a2)]) (fun _ => (by cases a2 <;> rfl)) hf (fun x5 hf => ?_)
    refine v_goto (pc := 605) (tgt := 18) hC dW_law_605 (by decide) ?_
    exact V.sub [1, 2, 3, 0] rfl (hrec18 _ _ _ _ _ _ _ _ hf)
  · refine v_iconst (pc := 521) (v := (0 : Int32)) hC dW_law_521 (by decide) ?_
    by_cases ec6 : c < 12001
    rotate_left
    · rw [if_neg ec6] at hf; cases hf
    rw [if_pos ec6] at hf
    cases hf
set_option maxHeartbeats 4000000 in
set_option maxRecDepth 100000 in
theorem tW_law_b493 {C : xC} {w0 w' : cW} {r : Int32}  (hC : okC C code 4 "ArenaNetworkLaw" lw_gd) (hE : lawE C w0) (hR : xR C = room_1) {rec18 : (Option Nat) → (Option Nat) → (Option Nat) → Int32 → Nat → Nat → Nat → cW → Option (Int32 × cW)} (hrec18 : ∀ (a0 : Option Nat) (a1 : Option Nat) (a2 : Option Nat) (a3 : Int32) (g1 : Nat) (g2 : Nat) (c : Nat) (w : cW), rec18 a0 a1 a2 a3 g1 g2 c w = some (r, w') → V C w (1 * c) (128 * c) 18 [(0, va_rf a0), (1, va_rf a1), (2, va_rf a2), (3, .int a3)] []) (a0 : Option Nat) (a1 : Option Nat) (a2 : Option Nat) (a3 : Int32) (s0 : Option Nat) (s1 : Int32) (s2 : Int32) (g1 : Nat) (g2 : Nat) (c : Nat) (w : cW) (hf : fW_law_b493 rec18 a0 a1 a2 a3 s0 s1 s2 g1 g2 c w = some (r, w')) : V C w (1 * c) (128 * c) 493 [(0, va_rf a0), (1, va_rf a1), (2, va_rf a2), (3, .int a3)] [.int s2, .int s1, va_rf s0] := by
  unfold fW_law_b493 at hf
  by_cases ec3 : c < 12001
  rotate_left
  · rw [if_neg ec3] at hf; cases hf
  rw [if_pos ec3] at hf
  refine v_callVF (pc := 493) (S := (gEx g1 g2)) (r := s0) (As := [.int s1, .int s2]) (rest := []) (k' := 1 * c) (n' := 128 * c) (st1 := (fun yq => [.int yq])) hC dW_law_493 q445 q446 q447 q1 q448 ykN_life rfl rfl (fun bq vq rq wq hq => mN_life _ _ bq s1 s2 _ rq wq hq) (by rw [hR]; decide) (by simp only [List.map_cons, List.map_nil, va_cat]; exact Nat.le_of_ble_eq_true rfl) (by simp only [rmN_life]; omega) (by rw [hR]; simp only [room_1]; omega) hf rfl (fun _ => rfl) (fun x1 w2 hf => ?_)
  refine v_aload_n (pc := 496) (i := 2) (r := a2) hC dW_law_496 rfl 2 rfl ?_
  refine v_aload_n (pc := 497) (i := 0) (r := a0) hC dW_law_497 rfl 0 rfl ?_
  refine v_iload_n (pc := 498) (i := 3) (x := a3) hC dW_law_498 rfl 3 rfl ?_
  refine v_iconst (pc := 499) (v := (1 : Int32)) hC dW_law_499 (by decide) ?_
  refine v_iadd (pc := 500) hC dW_law_500 ?_
  refine v_iald (pc := 501) hC dW_law_501 hf (fun x5 hf => ?_)
  refine v_aload_n (pc := 502) (i := 0) (r := a0) hC dW_law_502 rfl 0 rfl ?_
  refine v_iload_n (pc := 503) (i := 3) (x := a3) hC dW_law_503 rfl 3 rfl ?_
  refine v_iconst (pc := 504) (v := (2 : Int32)) hC dW_law_504 (by decide) ?_
  refine v_iadd (pc := 505) hC dW_law_505 ?_
  refine v_iald (pc := 506) hC dW_law_506 hf (fun x6 hf => ?_)
  refine v_if_eq (pc := 507) (tgt := 514) hC dW_law_507 (by decide) hf (fun hf => ?_) (fun hf => ?_)
  · refine v_iconst (pc := 514) (v := (0 : Int32)) hC dW_law_514 (by decide) ?_
    exact V.sub [0, 1, 2, 3] rfl (tW_law_b515 hC hE hR hrec18 _ _ _ _ _ _ _ _ _ _ _ _ hf)
  · refine v_iconst (pc := 510) (v := (1 : Int32)) hC dW_law_510 (by decide) ?_
    refine v_goto (pc := 511) (tgt := 515) hC dW_law_511 (by decide) ?_
    exact V.sub [0, 1, 2, 3] rfl (tW_law_b515 hC hE hR hrec18 _ _ _ _ _ _ _ _ _ _ _ _ hf)
set_option maxHeartbeats 4000000 in
set_option maxRecDepth 100000 in
theorem tW_law_b345 {C : xC} {w0 w' : cW} {r : Int32}  (hC : okC C code 4 "ArenaNetworkLaw" lw_gd) (hE : lawE C w0) (hR : xR C = room_1) {rec18 : (Option Nat) → (Option Nat) → (Option Nat) → Int32 → Nat → Nat → Nat → cW → Option (Int32 × cW)} (hrec18 : ∀ (a0 : Option Nat) (a1 : Option Nat) (a2 : Option Nat) (a3 : Int32) (g1 : Nat) (g2 : Nat) (c : Nat) (w : cW), rec18 a0 a1 a2 a3 g1 g2 c w = some (r, w') → V C w (1 * c) (128 * c) 18 [(0, va_rf a0), (1, va_rf a1), (2, va_rf a2), (3, .int a3)] []) (a0 : Option Nat) (a1 : Option Nat) (a2 : Option Nat) (a3 : Int32) (s0 : Int32) (s1 : Option Nat) (s2 : Int32) (s3 : Int32) (g1 : Nat) (g2 : Nat) (c : Nat) (w : cW) (hf : fW_law_b345 rec18 a0 a1 a2 a3 s0 s1 s2 s3 g1 g2 c w = some (r, w')) : V C w (1 * c) (128 * c) 345 [(0, va_rf a0), (1, va_rf a1), (2, va_rf a2), (3, .int a3)] [.int s3, .int s2, va_rf s1, .int s0] := by
  unfold fW_law_b345 at hf
  by_cases ec3 : c < 12001
  rotate_left
  · rw [if_neg ec3] at hf; cases hf
  rw [if_pos ec3] at hf
  refine v_callVF (pc := 345) (S := (gIn g1 g2)) (r := s1) (As := [.int s2, .int s3]) (rest := [.int s0]) (k' := 1 * c) (n' := 128 * c) (st1 := (fun yq => [.int yq, .int s0])) hC dW_law_345 q558 q559 q560 q7 q561 ykM_keep rfl rfl (fun bq vq rq wq hq => mM_keep _ _ bq s2 s3 _ rq wq hq) (by rw [hR]; decide) (by simp only [List.map_cons, List.map_nil, va_cat]; exact Nat.le_of_ble_eq_true rfl) (by simp only [rmM_keep]; omega) (by rw [hR]; simp only [room_1]; omega) hf rfl (fun _ => rfl) (fun x1 w2 hf => ?_)
  refine v_icmp_eq (pc := 348) (tgt := 602) hC dW_law_348 (by decide) hf (fun hf => ?_) (fun hf => ?_)
  · refine v_iincB (pc := 602) (i := 3) (x := a3) (v := (6 : Int32)) hC dW_law_602 3 rfl (by decide) (by decide) (fun x5 => [(3, .int x5), (0, va_rf a0), (1, va_rf a1), (2, va_rf a2)]) (fun _ => (by cases a2 <;> rfl)) hf (fun x5 hf => ?_)
    refine v_goto (pc := 605) (tgt := 18) hC dW_law_605 (by decide) ?_
    exact V.sub [1, 2, 3, 0] rfl (hrec18 _ _ _ _ _ _ _ _ hf)
  · refine v_iconst (pc := 351) (v := (0 : Int32)) hC dW_law_351 (by decide) ?_
    by_cases ec6 : c < 12001
    rotate_left
    · rw [if_neg ec6] at hf; cases hf
    rw [if_pos ec6] at hf
    cases hf
set_option maxHeartbeats 4000000 in
set_option maxRecDepth 100000 in
theorem tW_law_b323 {C : xC} {w0 w' : cW} {r : Int32}  (hC : okC C code 4 "ArenaNetworkLaw" lw_gd) (hE : lawE C w0) (hR : xR C = room_1) {rec18 : (Option Nat) → (Option Nat) → (Option Nat) → Int32 → Nat → Nat → Nat → cW → Option (Int32 × cW)} (hrec18 : ∀ (a0 : Option Nat) (a1 : Option Nat) (a2 : Option Nat) (a3 : Int32) (g1 : Nat) (g2 : Nat) (c : Nat) (w : cW), rec18 a0 a1 a2 a3 g1 g2 c w = some (r, w') → V C w (1 * c) (128 * c) 18 [(0, va_rf a0), (1, va_rf a1), (2, va_rf a2), (3, .int a3)] []) (a0 : Option Nat) (a1 : Option Nat) (a2 : Option Nat) (a3 : Int32) (s0 : Option Nat) (s1 : Int32) (s2 : Int32) (g1 : Nat) (g2 : Nat) (c : Nat) (w : cW) (hf : fW_law_b323 rec18 a0 a1 a2 a3 s0 s1 s2 g1 g2 c w = some (r, w')) : V C w (1 * c) (128 * c) 323 [(0, va_rf a0), (1, va_rf a1), (2, va_rf a2), (3, .int a3)] [.int s2, .int s1, va_rf s0] := by
  unfold fW_law_b323 at hf
  by_cases ec3 : c < 12001
  rotate_left
  · rw [if_neg ec3] at hf; cases hf
  rw [if_pos ec3] at hf
  refine v_callVF (pc := 323) (S := (gEx g1 g2)) (r := s0) (As := [.int s1, .int s2]) (rest := []) (k' := 1 * c) (n' := 128 * c) (st1 := (fun yq => [.int yq])) hC dW_law_323 q294 q295 q296 q1 q297 ykN_keep rfl rfl (fun bq vq rq wq hq => mN_keep _ _ bq s1 s2 _ rq wq hq) (by rw [hR]; decide) (by simp only [List.map_cons, List.map_nil, va_cat]; exact Nat.le_of_ble_eq_true rfl) (by simp only [rmN_keep]; omega) (by rw [hR]; simp only [room_1]; omega) hf rfl (fun _ => rfl) (fun x1 w2 hf => ?_)
  refine v_aload_n (pc := 326) (i := 2) (r := a2) hC dW_law_326 rfl 2 rfl ?_
  refine v_aload_n (pc := 327) (i := 0) (r := a0) hC dW_law_327 rfl 0 rfl ?_
  refine v_iload_n (pc := 328) (i := 3) (x := a3) hC dW_law_328 rfl 3 rfl ?_
  refine v_iconst (pc := 329) (v := (1 : Int32)) hC dW_law_329 (by decide) ?_
  refine v_iadd (pc := 330) hC dW_law_330 ?_
  refine v_iald (pc := 331) hC dW_law_331 hf (fun x5 hf => ?_)
  refine v_aload_n (pc := 332) (i := 0) (r := a0) hC dW_law_332 rfl 0 rfl ?_
  refine v_iload_n (pc := 333) (i := 3) (x := a3) hC dW_law_333 rfl 3 rfl ?_
  refine v_iconst (pc := 334) (v := (2 : Int32)) hC dW_law_334 (by decide) ?_
  refine v_iadd (pc := 335) hC dW_law_335 ?_
  refine v_iald (pc := 336) hC dW_law_336 hf (fun x6 hf => ?_)
  refine v_if_eq (pc := 337) (tgt := 344) hC dW_law_337 (by decide) hf (fun hf => ?_) (fun hf => ?_)
  · refine v_iconst (pc := 344) (v := (0 : Int32)) hC dW_law_344 (by decide) ?_
    exact V.sub [0, 1, 2, 3] rfl (tW_law_b345 hC hE hR hrec18 _ _ _ _ _ _ _ _ _ _ _ _ hf)
  · refine v_iconst (pc := 340) (v := (1 : Int32)) hC dW_law_340 (by decide) ?_
    refine v_goto (pc := 341) (tgt := 345) hC dW_law_341 (by decide) ?_
    exact V.sub [0, 1, 2, 3] rfl (tW_law_b345 hC hE hR hrec18 _ _ _ _ _ _ _ _ _ _ _ _ hf)
set_option maxHeartbeats 4000000 in
set_option maxRecDepth 100000 in
theorem tW_law_l18 {C : xC} {w0 w' : cW} {r : Int32}  (hC : okC C code 4 "ArenaNetworkLaw" lw_gd) (hE : lawE C w0) (hR : xR C = room_1)  : ∀ n : Nat, ∀ (a0 : Option Nat) (a1 : Option Nat) (a2 : Option Nat) (a3 : Int32) (g1 : Nat) (g2 : Nat) (c : Nat) (w : cW), fW_law_l18  n a0 a1 a2 a3 g1 g2 c w = some (r, w') → V C w (1 * c) (128 * c) 18 [(0, va_rf a0), (1, va_rf a1), (2, va_rf a2), (3, .int a3)] [] := by
  refine lp_P (P := fun (f : (Option Nat) → (Option Nat) → (Option Nat) → Int32 → Nat → Nat → Nat → cW → Option (Int32 × cW)) => ∀ (a0 : Option Nat) (a1 : Option Nat) (a2 : Option Nat) (a3 : Int32) (g1 : Nat) (g2 : Nat) (c : Nat) (w : cW), f a0 a1 a2 a3 g1 g2 c w = some (r, w') → V C w (1 * c) (128 * c) 18 [(0, va_rf a0), (1, va_rf a1), (2, va_rf a2), (3, .int a3)] []) ?_ ?_
  · intro a0 a1 a2 a3 g1 g2 c w hf
    cases hf
  · intro rec18 hrec18 a0 a1 a2 a3 g1 g2 c w hf
    unfold fW_law_b18 at hf
    refine v_iload_n (pc := 18) (i := 3) (x := a3) hC dW_law_18 rfl 3 rfl ?_
    refine v_aload_n (pc := 19) (i := 0) (r := a0) hC dW_law_19 rfl 0 rfl ?_
    refine v_alen (pc := 20) hC dW_law_20 hf (fun x1 hf => ?_)
    refine v_bipush (pc := 21) (v := (6 : Int32)) hC dW_law_21 (by decide) ?_
    refine v_isub (pc := 23) hC dW_law_23 ?_
    refine v_icmp_gt (pc := 24) (tgt := 608) hC dW_law_24 (by decide) hf (fun hf => ?_) (fun hf => ?_)
    · refine v_iconst (pc := 608) (v := (1 : Int32)) hC dW_law_608 (by decide) ?_
      by_cases ec2 : c < 12001
      rotate_left
      · rw [if_neg ec2] at hf; cases hf
      rw [if_pos ec2] at hf
      exact v_lawret (pc := 609) hC hE dW_law_609 (by rw [hR]; simp only [room_1]; omega) (by rw [hR]; simp only [room_1]; omega)
    · refine v_aload_n (pc := 27) (i := 0) (r := a0) hC dW_law_27 rfl 0 rfl ?_
      refine v_iload_n (pc := 28) (i := 3) (x := a3) hC dW_law_28 rfl 3 rfl ?_
      refine v_iald (pc := 29) hC dW_law_29 hf (fun x3 hf => ?_)
      refine v_bipush (pc := 30) (v := (15 : Int32)) hC dW_law_30 (by decide) ?_
      refine v_iand (pc := 32) hC dW_law_32 ?_
      refine v_bndi hf (fun x4 hf => ?_)
      by_cases e33_0 : x4 = (0 : Int32)
      · rw [if_pos e33_0] at hf
        refine v_tabIn (tgt := 112) (off := 79) hC dW_law_33 (by rw [e33_0]; decide) (by rw [e33_0]; decide) (by rw [e33_0]; decide) (by decide) ?_
        refine v_aload_n (pc := 112) (i := 1) (r := a1) hC dW_law_112 rfl 1 rfl ?_
        refine v_aload_n (pc := 113) (i := 0) (r := a0) hC dW_law_113 rfl 0 rfl ?_
        refine v_iload_n (pc := 114) (i := 3) (x := a3) hC dW_law_114 rfl 3 rfl ?_
        refine v_iconst (pc := 115) (v := (1 : Int32)) hC dW_law_115 (by decide) ?_
        refine v_iadd (pc := 116) hC dW_law_116 ?_
        refine v_iald (pc := 117) hC dW_law_117 hf (fun x5 hf => ?_)
        refine v_aload_n (pc := 118) (i := 0) (r := a0) hC dW_law_118 rfl 0 rfl ?_
        refine v_iload_n (pc := 119) (i := 3) (x := a3) hC dW_law_119 rfl 3 rfl ?_
        refine v_iconst (pc := 120) (v := (2 : Int32)) hC dW_law_120 (by decide) ?_
        refine v_iadd (pc := 121) hC dW_law_121 ?_
        refine v_iald (pc := 122) hC dW_law_122 hf (fun x6 hf => ?_)
        refine v_aload_n (pc := 123) (i := 0) (r := a0) hC dW_law_123 rfl 0 rfl ?_
        refine v_iload_n (pc := 124) (i := 3) (x := a3) hC dW_law_124 rfl 3 rfl ?_
        refine v_iconst (pc := 125) (v := (3 : Int32)) hC dW_law_125 (by decide) ?_
        refine v_iadd (pc := 126) hC dW_law_126 ?_
        refine v_iald (pc := 127) hC dW_law_127 hf (fun x7 hf => ?_)
        by_cases ec10 : c < 11995
        rotate_left
        · rw [if_neg ec10] at hf; cases hf
        rw [if_pos ec10] at hf
        refine v_callVF (pc := 128) (S := (gEx g1 g2)) (r := a1) (As := [.int x5, .int x6, .int x7]) (rest := []) (k' := 1 * (c + 6)) (n' := 128 * (c + 6)) (st1 := (fun yq => [.int yq])) hC dW_law_128 q103 q104 q105 q1 q106 ykN_tensor rfl rfl (fun bq vq rq wq hq => mN_tensor _ _ bq x5 x6 x7 _ rq wq hq) (by rw [hR]; decide) (by simp only [List.map_cons, List.map_nil, va_cat]; exact Nat.le_of_ble_eq_true rfl) (by simp only [rmN_tensor]; omega) (by rw [hR]; simp only [room_1]; omega) hf rfl (fun _ => rfl) (fun x8 w9 hf => ?_)
        refine v_aload_n (pc := 131) (i := 2) (r := a2) hC dW_law_131 rfl 2 rfl ?_
        refine v_aload_n (pc := 132) (i := 0) (r := a0) hC dW_law_132 rfl 0 rfl ?_
        refine v_iload_n (pc := 133) (i := 3) (x := a3) hC dW_law_133 rfl 3 rfl ?_
        refine v_iconst (pc := 134) (v := (1 : Int32)) hC dW_law_134 (by decide) ?_
        refine v_iadd (pc := 135) hC dW_law_135 ?_
        refine v_iald (pc := 136) hC dW_law_136 hf (fun x12 hf => ?_)
        refine v_aload_n (pc := 137) (i := 0) (r := a0) hC dW_law_137 rfl 0 rfl ?_
        refine v_iload_n (pc := 138) (i := 3) (x := a3) hC dW_law_138 rfl 3 rfl ?_
        refine v_iconst (pc := 139) (v := (2 : Int32)) hC dW_law_139 (by decide) ?_
        refine v_iadd (pc := 140) hC dW_law_140 ?_
        refine v_iald (pc := 141) hC dW_law_141 hf (fun x13 hf => ?_)
        refine v_aload_n (pc := 142) (i := 0) (r := a0) hC dW_law_142 rfl 0 rfl ?_
        refine v_iload_n (pc := 143) (i := 3) (x := a3) hC dW_law_143 rfl 3 rfl ?_
        refine v_iconst (pc := 144) (v := (3 : Int32)) hC dW_law_144 (by decide) ?_
        refine v_iadd (pc := 145) hC dW_law_145 ?_
        refine v_iald (pc := 146) hC dW_law_146 hf (fun x14 hf => ?_)
        by_cases ec17 : (c + 6) < 12001
        rotate_left
        · rw [if_neg ec17] at hf; cases hf
        rw [if_pos ec17] at hf
        refine v_callVF (pc := 147) (S := (gIn g1 g2)) (r := a2) (As := [.int x12, .int x13, .int x14]) (rest := [.int x8]) (k' := 1 * (c + 6)) (n' := 128 * (c + 6)) (st1 := (fun yq => [.int yq, .int x8])) hC dW_law_147 q534 q535 q536 q7 q537 ykM_tensor rfl rfl (fun bq vq rq wq hq => mM_tensor _ _ bq x12 x13 x14 _ rq wq hq) (by rw [hR]; decide) (by simp only [List.map_cons, List.map_nil, va_cat]; exact Nat.le_of_ble_eq_true rfl) (by simp only [rmM_tensor]; omega) (by rw [hR]; simp only [room_1]; omega) hf rfl (fun _ => rfl) (fun x15 w16 hf => ?_)
        refine v_icmp_eq (pc := 150) (tgt := 602) hC dW_law_150 (by decide) hf (fun hf => ?_) (fun hf => ?_)
        · refine v_iincB (pc := 602) (i := 3) (x := a3) (v := (6 : Int32)) hC dW_law_602 3 rfl (by decide) (by decide) (fun x19 => [(3, .int x19), (0, va_rf a0), (1, va_rf a1), (2, va_rf a2)]) (fun _ => (by cases a2 <;> rfl)) hf (fun x19 hf => ?_)
          refine v_goto (pc := 605) (tgt := 18) hC dW_law_605 (by decide) ?_
          exact V.sub [1, 2, 3, 0] rfl (hrec18 _ _ _ _ _ _ _ _ hf)
        · refine v_iconst (pc := 153) (v := (0 : Int32)) hC dW_law_153 (by decide) ?_
          by_cases ec20 : (c + 6) < 12001
          rotate_left
          · rw [if_neg ec20] at hf; cases hf
          rw [if_pos ec20] at hf
          cases hf
      rw [if_neg e33_0] at hf
      by_cases e33_1 : x4 = (1 : Int32)
      · rw [if_pos e33_1] at hf
        refine v_tabIn (tgt := 155) (off := 122) hC dW_law_33 (by rw [e33_1]; decide) (by rw [e33_1]; decide) (by rw [e33_1]; decide) (by decide) ?_
        refine v_aload_n (pc := 155) (i := 1) (r := a1) hC dW_law_155 rfl 1 rfl ?_
        refine v_aload_n (pc := 156) (i := 0) (r := a0) hC dW_law_156 rfl 0 rfl ?_
        refine v_iload_n (pc := 157) (i := 3) (x := a3) hC dW_law_157 rfl 3 rfl ?_
        refine v_iconst (pc := 158) (v := (1 : Int32)) hC dW_law_158 (by decide) ?_
        refine v_iadd (pc := 159) hC dW_law_159 ?_
        refine v_iald (pc := 160) hC dW_law_160 hf (fun x21 hf => ?_)
        refine v_aload_n (pc := 161) (i := 0) (r := a0) hC dW_law_161 rfl 0 rfl ?_
        refine v_iload_n (pc := 162) (i := 3) (x := a3) hC dW_law_162 rfl 3 rfl ?_
        refine v_iconst (pc := 163) (v := (2 : Int32)) hC dW_law_163 (by decide) ?_
        refine v_iadd (pc := 164) hC dW_law_164 ?_
        refine v_iald (pc := 165) hC dW_law_165 hf (fun x22 hf => ?_)
        refine v_aload_n (pc := 166) (i := 0) (r := a0) hC dW_law_166 rfl 0 rfl ?_
        refine v_iload_n (pc := 167) (i := 3) (x := a3) hC dW_law_167 rfl 3 rfl ?_
        refine v_iconst (pc := 168) (v := (3 : Int32)) hC dW_law_168 (by decide) ?_
        refine v_iadd (pc := 169) hC dW_law_169 ?_
        refine v_iald (pc := 170) hC dW_law_170 hf (fun x23 hf => ?_)
        by_cases ec26 : c < 12001
        rotate_left
        · rw [if_neg ec26] at hf; cases hf
        rw [if_pos ec26] at hf
        refine v_callVF (pc := 171) (S := (gEx g1 g2)) (r := a1) (As := [.int x21, .int x22, .int x23]) (rest := []) (k' := 1 * c) (n' := 128 * c) (st1 := (fun yq => [.int yq])) hC dW_law_171 q231 q232 q233 q1 q234 ykN_set rfl rfl (fun bq vq rq wq hq => mN_set _ _ bq x21 x22 x23 _ rq wq hq) (by rw [hR]; decide) (by simp only [List.map_cons, List.map_nil, va_cat]; exact Nat.le_of_ble_eq_true rfl) (by simp only [rmN_set]; omega) (by rw [hR]; simp only [room_1]; omega) hf rfl (fun _ => rfl) (fun x24 w25 hf => ?_)
        refine v_aload_n (pc := 174) (i := 2) (r := a2) hC dW_law_174 rfl 2 rfl ?_
        refine v_aload_n (pc := 175) (i := 0) (r := a0) hC dW_law_175 rfl 0 rfl ?_
        refine v_iload_n (pc := 176) (i := 3) (x := a3) hC dW_law_176 rfl 3 rfl ?_
        refine v_iconst (pc := 177) (v := (1 : Int32)) hC dW_law_177 (by decide) ?_
        refine v_iadd (pc := 178) hC dW_law_178 ?_
        refine v_iald (pc := 179) hC dW_law_179 hf (fun x28 hf => ?_)
        refine v_aload_n (pc := 180) (i := 0) (r := a0) hC dW_law_180 rfl 0 rfl ?_
        refine v_iload_n (pc := 181) (i := 3) (x := a3) hC dW_law_181 rfl 3 rfl ?_
        refine v_iconst (pc := 182) (v := (2 : Int32)) hC dW_law_182 (by decide) ?_
        refine v_iadd (pc := 183) hC dW_law_183 ?_
        refine v_iald (pc := 184) hC dW_law_184 hf (fun x29 hf => ?_)
        refine v_aload_n (pc := 185) (i := 0) (r := a0) hC dW_law_185 rfl 0 rfl ?_
        refine v_iload_n (pc := 186) (i := 3) (x := a3) hC dW_law_186 rfl 3 rfl ?_
        refine v_iconst (pc := 187) (v := (3 : Int32)) hC dW_law_187 (by decide) ?_
        refine v_iadd (pc := 188) hC dW_law_188 ?_
        refine v_iald (pc := 189) hC dW_law_189 hf (fun x30 hf => ?_)
        by_cases ec33 : c < 12001
        rotate_left
        · rw [if_neg ec33] at hf; cases hf
        rw [if_pos ec33] at hf
        refine v_callVF (pc := 190) (S := (gIn g1 g2)) (r := a2) (As := [.int x28, .int x29, .int x30]) (rest := [.int x24]) (k' := 1 * c) (n' := 128 * c) (st1 := (fun yq => [.int yq, .int x24])) hC dW_law_190 q542 q543 q544 q7 q545 ykM_set rfl rfl (fun bq vq rq wq hq => mM_set _ _ bq x28 x29 x30 _ rq wq hq) (by rw [hR]; decide) (by simp only [List.map_cons, List.map_nil, va_cat]; exact Nat.le_of_ble_eq_true rfl) (by simp only [rmM_set]; omega) (by rw [hR]; simp only [room_1]; omega) hf rfl (fun _ => rfl) (fun x31 w32 hf => ?_)
        refine v_icmp_eq (pc := 193) (tgt := 602) hC dW_law_193 (by decide) hf (fun hf => ?_) (fun hf => ?_)
        · refine v_iincB (pc := 602) (i := 3) (x := a3) (v := (6 : Int32)) hC dW_law_602 3 rfl (by decide) (by decide) (fun x35 => [(3, .int x35), (0, va_rf a0), (1, va_rf a1), (2, va_rf a2)]) (fun _ => (by cases a2 <;> rfl)) hf (fun x35 hf => ?_)
          refine v_goto (pc := 605) (tgt := 18) hC dW_law_605 (by decide) ?_
          exact V.sub [1, 2, 3, 0] rfl (hrec18 _ _ _ _ _ _ _ _ hf)
        · refine v_iconst (pc := 196) (v := (0 : Int32)) hC dW_law_196 (by decide) ?_
          by_cases ec36 : c < 12001
          rotate_left
          · rw [if_neg ec36] at hf; cases hf
          rw [if_pos ec36] at hf
          cases hf
      rw [if_neg e33_1] at hf
      by_cases e33_2 : x4 = (2 : Int32)
      · rw [if_pos e33_2] at hf
        refine v_tabIn (tgt := 198) (off := 165) hC dW_law_33 (by rw [e33_2]; decide) (by rw [e33_2]; decide) (by rw [e33_2]; decide) (by decide) ?_
        refine v_aload_n (pc := 198) (i := 1) (r := a1) hC dW_law_198 rfl 1 rfl ?_
        refine v_aload_n (pc := 199) (i := 0) (r := a0) hC dW_law_199 rfl 0 rfl ?_
        refine v_iload_n (pc := 200) (i := 3) (x := a3) hC dW_law_200 rfl 3 rfl ?_
        refine v_iconst (pc := 201) (v := (1 : Int32)) hC dW_law_201 (by decide) ?_
        refine v_iadd (pc := 202) hC dW_law_202 ?_
        refine v_iald (pc := 203) hC dW_law_203 hf (fun x37 hf => ?_)
        refine v_aload_n (pc := 204) (i := 0) (r := a0) hC dW_law_204 rfl 0 rfl ?_
        refine v_iload_n (pc := 205) (i := 3) (x := a3) hC dW_law_205 rfl 3 rfl ?_
        refine v_iconst (pc := 206) (v := (2 : Int32)) hC dW_law_206 (by decide) ?_
        refine v_iadd (pc := 207) hC dW_law_207 ?_
        refine v_iald (pc := 208) hC dW_law_208 hf (fun x38 hf => ?_)
        refine v_aload_n (pc := 209) (i := 0) (r := a0) hC dW_law_209 rfl 0 rfl ?_
        refine v_iload_n (pc := 210) (i := 3) (x := a3) hC dW_law_210 rfl 3 rfl ?_
        refine v_iconst (pc := 211) (v := (3 : Int32)) hC dW_law_211 (by decide) ?_
        refine v_iadd (pc := 212) hC dW_law_212 ?_
        refine v_iald (pc := 213) hC dW_law_213 hf (fun x39 hf => ?_)
        by_cases ec42 : c < 12001
        rotate_left
        · rw [if_neg ec42] at hf; cases hf
        rw [if_pos ec42] at hf
        refine v_callVF (pc := 214) (S := (gEx g1 g2)) (r := a1) (As := [.int x37, .int x38, .int x39]) (rest := []) (k' := 1 * c) (n' := 128 * c) (st1 := (fun yq => [.int yq])) hC dW_law_214 q257 q258 q259 q1 q260 ykN_scale rfl rfl (fun bq vq rq wq hq => mN_scale _ _ bq x37 x38 x39 _ rq wq hq) (by rw [hR]; decide) (by simp only [List.map_cons, List.map_nil, va_cat]; exact Nat.le_of_ble_eq_true rfl) (by simp only [rmN_scale]; omega) (by rw [hR]; simp only [room_1]; omega) hf rfl (fun _ => rfl) (fun x40 w41 hf => ?_)
        refine v_aload_n (pc := 217) (i := 2) (r := a2) hC dW_law_217 rfl 2 rfl ?_
        refine v_aload_n (pc := 218) (i := 0) (r := a0) hC dW_law_218 rfl 0 rfl ?_
        refine v_iload_n (pc := 219) (i := 3) (x := a3) hC dW_law_219 rfl 3 rfl ?_
        refine v_iconst (pc := 220) (v := (1 : Int32)) hC dW_law_220 (by decide) ?_
        refine v_iadd (pc := 221) hC dW_law_221 ?_
        refine v_iald (pc := 222) hC dW_law_222 hf (fun x44 hf => ?_)
        refine v_aload_n (pc := 223) (i := 0) (r := a0) hC dW_law_223 rfl 0 rfl ?_
        refine v_iload_n (pc := 224) (i := 3) (x := a3) hC dW_law_224 rfl 3 rfl ?_
        refine v_iconst (pc := 225) (v := (2 : Int32)) hC dW_law_225 (by decide) ?_
        refine v_iadd (pc := 226) hC dW_law_226 ?_
        refine v_iald (pc := 227) hC dW_law_227 hf (fun x45 hf => ?_)
        refine v_aload_n (pc := 228) (i := 0) (r := a0) hC dW_law_228 rfl 0 rfl ?_
        refine v_iload_n (pc := 229) (i := 3) (x := a3) hC dW_law_229 rfl 3 rfl ?_
        refine v_iconst (pc := 230) (v := (3 : Int32)) hC dW_law_230 (by decide) ?_
        refine v_iadd (pc := 231) hC dW_law_231 ?_
        refine v_iald (pc := 232) hC dW_law_232 hf (fun x46 hf => ?_)
        by_cases ec49 : c < 12001
        rotate_left
        · rw [if_neg ec49] at hf; cases hf
        rw [if_pos ec49] at hf
        refine v_callVF (pc := 233) (S := (gIn g1 g2)) (r := a2) (As := [.int x44, .int x45, .int x46]) (rest := [.int x40]) (k' := 1 * c) (n' := 128 * c) (st1 := (fun yq => [.int yq, .int x40])) hC dW_law_233 q550 q551 q552 q7 q553 ykM_scale rfl rfl (fun bq vq rq wq hq => mM_scale _ _ bq x44 x45 x46 _ rq wq hq) (by rw [hR]; decide) (by simp only [List.map_cons, List.map_nil, va_cat]; exact Nat.le_of_ble_eq_true rfl) (by simp only [rmM_scale]; omega) (by rw [hR]; simp only [room_1]; omega) hf rfl (fun _ => rfl) (fun x47 w48 hf => ?_)
        refine v_icmp_eq (pc := 236) (tgt := 602) hC dW_law_236 (by decide) hf (fun hf => ?_) (fun hf => ?_)
        · refine v_iincB (pc := 602) (i := 3) (x := a3) (v := (6 : Int32)) hC dW_law_602 3 rfl (by decide) (by decide) (fun x51 => [(3, .int x51), (0, va_rf a0), (1, va_rf a1), (2, va_rf a2)]) (fun _ => (by cases a2 <;> rfl)) hf (fun x51 hf => ?_)
          refine v_goto (pc := 605) (tgt := 18) hC dW_law_605 (by decide) ?_
          exact V.sub [1, 2, 3, 0] rfl (hrec18 _ _ _ _ _ _ _ _ hf)
        · refine v_iconst (pc := 239) (v := (0 : Int32)) hC dW_law_239 (by decide) ?_
          by_cases ec52 : c < 12001
          rotate_left
          · rw [if_neg ec52] at hf; cases hf
          rw [if_pos ec52] at hf
          cases hf
      rw [if_neg e33_2] at hf
      by_cases e33_3 : x4 = (3 : Int32)
      · rw [if_pos e33_3] at hf
        refine v_tabIn (tgt := 241) (off := 208) hC dW_law_33 (by rw [e33_3]; decide) (by rw [e33_3]; decide) (by rw [e33_3]; decide) (by decide) ?_
        refine v_aload_n (pc := 241) (i := 1) (r := a1) hC dW_law_241 rfl 1 rfl ?_
        refine v_aload_n (pc := 242) (i := 0) (r := a0) hC dW_law_242 rfl 0 rfl ?_
        refine v_iload_n (pc := 243) (i := 3) (x := a3) hC dW_law_243 rfl 3 rfl ?_
        refine v_iconst (pc := 244) (v := (1 : Int32)) hC dW_law_244 (by decide) ?_
        refine v_iadd (pc := 245) hC dW_law_245 ?_
        refine v_iald (pc := 246) hC dW_law_246 hf (fun x53 hf => ?_)
        refine v_aload_n (pc := 247) (i := 0) (r := a0) hC dW_law_247 rfl 0 rfl ?_
        refine v_iload_n (pc := 248) (i := 3) (x := a3) hC dW_law_248 rfl 3 rfl ?_
        refine v_iconst (pc := 249) (v := (2 : Int32)) hC dW_law_249 (by decide) ?_
        refine v_iadd (pc := 250) hC dW_law_250 ?_
        refine v_iald (pc := 251) hC dW_law_251 hf (fun x54 hf => ?_)
        refine v_aload_n (pc := 252) (i := 0) (r := a0) hC dW_law_252 rfl 0 rfl ?_
        refine v_iload_n (pc := 253) (i := 3) (x := a3) hC dW_law_253 rfl 3 rfl ?_
        refine v_iconst (pc := 254) (v := (3 : Int32)) hC dW_law_254 (by decide) ?_
        refine v_iadd (pc := 255) hC dW_law_255 ?_
        refine v_iald (pc := 256) hC dW_law_256 hf (fun x55 hf => ?_)
        refine v_aload_n (pc := 257) (i := 0) (r := a0) hC dW_law_257 rfl 0 rfl ?_
        refine v_iload_n (pc := 258) (i := 3) (x := a3) hC dW_law_258 rfl 3 rfl ?_
        refine v_iconst (pc := 259) (v := (4 : Int32)) hC dW_law_259 (by decide) ?_
        refine v_iadd (pc := 260) hC dW_law_260 ?_
        refine v_iald (pc := 261) hC dW_law_261 hf (fun x56 hf => ?_)
        refine v_aload_n (pc := 262) (i := 0) (r := a0) hC dW_law_262 rfl 0 rfl ?_
        refine v_iload_n (pc := 263) (i := 3) (x := a3) hC dW_law_263 rfl 3 rfl ?_
        refine v_iconst (pc := 264) (v := (5 : Int32)) hC dW_law_264 (by decide) ?_
        refine v_iadd (pc := 265) hC dW_law_265 ?_
        refine v_iald (pc := 266) hC dW_law_266 hf (fun x57 hf => ?_)
        by_cases ec60 : c < 11999
        rotate_left
        · rw [if_neg ec60] at hf; cases hf
        rw [if_pos ec60] at hf
        refine v_callVF (pc := 267) (S := (gEx g1 g2)) (r := a1) (As := [.int x53, .int x54, .int x55, .int x56, .int x57]) (rest := []) (k' := 1 * (c + 2)) (n' := 128 * (c + 2)) (st1 := (fun yq => [.int yq])) hC dW_law_267 q264 q265 q266 q1 q267 ykN_operator rfl rfl (fun bq vq rq wq hq => mN_operator _ _ bq x53 x54 x55 x56 x57 _ rq wq hq) (by rw [hR]; decide) (by simp only [List.map_cons, List.map_nil, va_cat]; exact Nat.le_of_ble_eq_true rfl) (by simp only [rmN_operator]; omega) (by rw [hR]; simp only [room_1]; omega) hf rfl (fun _ => rfl) (fun x58 w59 hf => ?_)
        refine v_aload_n (pc := 270) (i := 2) (r := a2) hC dW_law_270 rfl 2 rfl ?_
        refine v_aload_n (pc := 271) (i := 0) (r := a0) hC dW_law_271 rfl 0 rfl ?_
        refine v_iload_n (pc := 272) (i := 3) (x := a3) hC dW_law_272 rfl 3 rfl ?_
        refine v_iconst (pc := 273) (v := (1 : Int32)) hC dW_law_273 (by decide) ?_
        refine v_iadd (pc := 274) hC dW_law_274 ?_
        refine v_iald (pc := 275) hC dW_law_275 hf (fun x62 hf => ?_)
        refine v_aload_n (pc := 276) (i := 0) (r := a0) hC dW_law_276 rfl 0 rfl ?_
        refine v_iload_n (pc := 277) (i := 3) (x := a3) hC dW_law_277 rfl 3 rfl ?_
        refine v_iconst (pc := 278) (v := (2 : Int32)) hC dW_law_278 (by decide) ?_
        refine v_iadd (pc := 279) hC dW_law_279 ?_
        refine v_iald (pc := 280) hC dW_law_280 hf (fun x63 hf => ?_)
        refine v_aload_n (pc := 281) (i := 0) (r := a0) hC dW_law_281 rfl 0 rfl ?_
        refine v_iload_n (pc := 282) (i := 3) (x := a3) hC dW_law_282 rfl 3 rfl ?_
        refine v_iconst (pc := 283) (v := (3 : Int32)) hC dW_law_283 (by decide) ?_
        refine v_iadd (pc := 284) hC dW_law_284 ?_
        refine v_iald (pc := 285) hC dW_law_285 hf (fun x64 hf => ?_)
        refine v_aload_n (pc := 286) (i := 0) (r := a0) hC dW_law_286 rfl 0 rfl ?_
        refine v_iload_n (pc := 287) (i := 3) (x := a3) hC dW_law_287 rfl 3 rfl ?_
        refine v_iconst (pc := 288) (v := (4 : Int32)) hC dW_law_288 (by decide) ?_
        refine v_iadd (pc := 289) hC dW_law_289 ?_
        refine v_iald (pc := 290) hC dW_law_290 hf (fun x65 hf => ?_)
        refine v_aload_n (pc := 291) (i := 0) (r := a0) hC dW_law_291 rfl 0 rfl ?_
        refine v_iload_n (pc := 292) (i := 3) (x := a3) hC dW_law_292 rfl 3 rfl ?_
        refine v_iconst (pc := 293) (v := (5 : Int32)) hC dW_law_293 (by decide) ?_
        refine v_iadd (pc := 294) hC dW_law_294 ?_
        refine v_iald (pc := 295) hC dW_law_295 hf (fun x66 hf => ?_)
        by_cases ec69 : (c + 2) < 12001
        rotate_left
        · rw [if_neg ec69] at hf; cases hf
        rw [if_pos ec69] at hf
        refine v_callVF (pc := 296) (S := (gIn g1 g2)) (r := a2) (As := [.int x62, .int x63, .int x64, .int x65, .int x66]) (rest := [.int x58]) (k' := 1 * (c + 2)) (n' := 128 * (c + 2)) (st1 := (fun yq => [.int yq, .int x58])) hC dW_law_296 q554 q555 q556 q7 q557 ykM_operator rfl rfl (fun bq vq rq wq hq => mM_operator _ _ bq x62 x63 x64 x65 x66 _ rq wq hq) (by rw [hR]; decide) (by simp only [List.map_cons, List.map_nil, va_cat]; exact Nat.le_of_ble_eq_true rfl) (by simp only [rmM_operator]; omega) (by rw [hR]; simp only [room_1]; omega) hf rfl (fun _ => rfl) (fun x67 w68 hf => ?_)
        refine v_icmp_eq (pc := 299) (tgt := 602) hC dW_law_299 (by decide) hf (fun hf => ?_) (fun hf => ?_)
        · refine v_iincB (pc := 602) (i := 3) (x := a3) (v := (6 : Int32)) hC dW_law_602 3 rfl (by decide) (by decide) (fun x71 => [(3, .int x71), (0, va_rf a0), (1, va_rf a1), (2, va_rf a2)]) (fun _ => (by cases a2 <;> rfl)) hf (fun x71 hf => ?_)
          refine v_goto (pc := 605) (tgt := 18) hC dW_law_605 (by decide) ?_
          exact V.sub [1, 2, 3, 0] rfl (hrec18 _ _ _ _ _ _ _ _ hf)
        · refine v_iconst (pc := 302) (v := (0 : Int32)) hC dW_law_302 (by decide) ?_
          by_cases ec72 : (c + 2) < 12001
          rotate_left
          · rw [if_neg ec72] at hf; cases hf
          rw [if_pos ec72] at hf
          cases hf
      rw [if_neg e33_3] at hf
      by_cases e33_4 : x4 = (4 : Int32)
      · rw [if_pos e33_4] at hf
        refine v_tabIn (tgt := 304) (off := 271) hC dW_law_33 (by rw [e33_4]; decide) (by rw [e33_4]; decide) (by rw [e33_4]; decide) (by decide) ?_
        refine v_aload_n (pc := 304) (i := 1) (r := a1) hC dW_law_304 rfl 1 rfl ?_
        refine v_aload_n (pc := 305) (i := 0) (r := a0) hC dW_law_305 rfl 0 rfl ?_
        refine v_iload_n (pc := 306) (i := 3) (x := a3) hC dW_law_306 rfl 3 rfl ?_
        refine v_iconst (pc := 307) (v := (1 : Int32)) hC dW_law_307 (by decide) ?_
        refine v_iadd (pc := 308) hC dW_law_308 ?_
        refine v_iald (pc := 309) hC dW_law_309 hf (fun x73 hf => ?_)
        refine v_aload_n (pc := 310) (i := 0) (r := a0) hC dW_law_310 rfl 0 rfl ?_
        refine v_iload_n (pc := 311) (i := 3) (x := a3) hC dW_law_311 rfl 3 rfl ?_
        refine v_iconst (pc := 312) (v := (2 : Int32)) hC dW_law_312 (by decide) ?_
        refine v_iadd (pc := 313) hC dW_law_313 ?_
        refine v_iald (pc := 314) hC dW_law_314 hf (fun x74 hf => ?_)
        refine v_if_eq (pc := 315) (tgt := 322) hC dW_law_315 (by decide) hf (fun hf => ?_) (fun hf => ?_)
        · refine v_iconst (pc := 322) (v := (0 : Int32)) hC dW_law_322 (by decide) ?_
          exact V.sub [0, 1, 2, 3] rfl (tW_law_b323 hC hE hR hrec18 _ _ _ _ _ _ _ _ _ _ _ hf)
        · refine v_iconst (pc := 318) (v := (1 : Int32)) hC dW_law_318 (by decide) ?_
          refine v_goto (pc := 319) (tgt := 323) hC dW_law_319 (by decide) ?_
          exact V.sub [0, 1, 2, 3] rfl (tW_law_b323 hC hE hR hrec18 _ _ _ _ _ _ _ _ _ _ _ hf)
      rw [if_neg e33_4] at hf
      by_cases e33_5 : x4 = (5 : Int32)
      · rw [if_pos e33_5] at hf
        refine v_tabIn (tgt := 353) (off := 320) hC dW_law_33 (by rw [e33_5]; decide) (by rw [e33_5]; decide) (by rw [e33_5]; decide) (by decide) ?_
        refine v_aload_n (pc := 353) (i := 1) (r := a1) hC dW_law_353 rfl 1 rfl ?_
        by_cases ec77 : c < 11981
        rotate_left
        · rw [if_neg ec77] at hf; cases hf
        rw [if_pos ec77] at hf
        refine v_callVF (pc := 354) (S := (gEx g1 g2)) (r := a1) (As := []) (rest := []) (k' := 1 * (c + 20)) (n' := 128 * (c + 20)) (st1 := (fun yq => [.int yq])) hC dW_law_354 q298 q299 q300 q1 q301 ykN_prepare rfl rfl (fun bq vq rq wq hq => mN_prepare _ _ bq  _ rq wq hq) (by rw [hR]; decide) (by simp only [List.map_cons, List.map_nil, va_cat]; exact Nat.le_of_ble_eq_true rfl) (by simp only [rmN_prepare]; omega) (by rw [hR]; simp only [room_1]; omega) hf rfl (fun _ => rfl) (fun x75 w76 hf => ?_)
        refine v_aload_n (pc := 357) (i := 2) (r := a2) hC dW_law_357 rfl 2 rfl ?_
        by_cases ec81 : (c + 20) < 12001
        rotate_left
        · rw [if_neg ec81] at hf; cases hf
        rw [if_pos ec81] at hf
        refine v_callVF (pc := 358) (S := (gIn g1 g2)) (r := a2) (As := []) (rest := [.int x75]) (k' := 1 * (c + 20)) (n' := 128 * (c + 20)) (st1 := (fun yq => [.int yq, .int x75])) hC dW_law_358 q574 q575 q576 q7 q577 ykM_prepare rfl rfl (fun bq vq rq wq hq => mM_prepare _ _ bq  _ rq wq hq) (by rw [hR]; decide) (by simp only [List.map_cons, List.map_nil, va_cat]; exact Nat.le_of_ble_eq_true rfl) (by simp only [rmM_prepare]; omega) (by rw [hR]; simp only [room_1]; omega) hf rfl (fun _ => rfl) (fun x79 w80 hf => ?_)
        refine v_icmp_eq (pc := 361) (tgt := 602) hC dW_law_361 (by decide) hf (fun hf => ?_) (fun hf => ?_)
        · refine v_iincB (pc := 602) (i := 3) (x := a3) (v := (6 : Int32)) hC dW_law_602 3 rfl (by decide) (by decide) (fun x83 => [(3, .int x83), (0, va_rf a0), (1, va_rf a1), (2, va_rf a2)]) (fun _ => (by cases a2 <;> rfl)) hf (fun x83 hf => ?_)
          refine v_goto (pc := 605) (tgt := 18) hC dW_law_605 (by decide) ?_
          exact V.sub [1, 2, 3, 0] rfl (hrec18 _ _ _ _ _ _ _ _ hf)
        · refine v_iconst (pc := 364) (v := (0 : Int32)) hC dW_law_364 (by decide) ?_
          by_cases ec84 : (c + 20) < 12001
          rotate_left
          · rw [if_neg ec84] at hf; cases hf
          rw [if_pos ec84] at hf
          cases hf
      rw [if_neg e33_5] at hf
      by_cases e33_6 : x4 = (6 : Int32)
      · rw [if_pos e33_6] at hf
        refine v_tabIn (tgt := 366) (off := 333) hC dW_law_33 (by rw [e33_6]; decide) (by rw [e33_6]; decide) (by rw [e33_6]; decide) (by decide) ?_
        refine v_aload_n (pc := 366) (i := 1) (r := a1) hC dW_law_366 rfl 1 rfl ?_
        by_cases ec87 : c < 12001
        rotate_left
        · rw [if_neg ec87] at hf; cases hf
        rw [if_pos ec87] at hf
        refine v_callVF (pc := 367) (S := (gEx g1 g2)) (r := a1) (As := []) (rest := []) (k' := 1 * c) (n' := 128 * c) (st1 := (fun yq => [.int yq])) hC dW_law_367 q361 q362 q363 q1 q364 ykN_reopen rfl rfl (fun bq vq rq wq hq => mN_reopen _ _ bq  _ rq wq hq) (by rw [hR]; decide) (by simp only [List.map_cons, List.map_nil, va_cat]; exact Nat.le_of_ble_eq_true rfl) (by simp only [rmN_reopen]; omega) (by rw [hR]; simp only [room_1]; omega) hf rfl (fun _ => rfl) (fun x85 w86 hf => ?_)
        refine v_aload_n (pc := 370) (i := 2) (r := a2) hC dW_law_370 rfl 2 rfl ?_
        by_cases ec91 : c < 12001
        rotate_left
        · rw [if_neg ec91] at hf; cases hf
        rw [if_pos ec91] at hf
        refine v_callVF (pc := 371) (S := (gIn g1 g2)) (r := a2) (As := []) (rest := [.int x85]) (k' := 1 * c) (n' := 128 * c) (st1 := (fun yq => [.int yq, .int x85])) hC dW_law_371 q607 q608 q609 q7 q610 ykM_reopen rfl rfl (fun bq vq rq wq hq => mM_reopen _ _ bq  _ rq wq hq) (by rw [hR]; decide) (by simp only [List.map_cons, List.map_nil, va_cat]; exact Nat.le_of_ble_eq_true rfl) (by simp only [rmM_reopen]; omega) (by rw [hR]; simp only [room_1]; omega) hf rfl (fun _ => rfl) (fun x89 w90 hf => ?_)
        refine v_icmp_eq (pc := 374) (tgt := 602) hC dW_law_374 (by decide) hf (fun hf => ?_) (fun hf => ?_)
        · refine v_iincB (pc := 602) (i := 3) (x := a3) (v := (6 : Int32)) hC dW_law_602 3 rfl (by decide) (by decide) (fun x93 => [(3, .int x93), (0, va_rf a0), (1, va_rf a1), (2, va_rf a2)]) (fun _ => (by cases a2 <;> rfl)) hf (fun x93 hf => ?_)
          refine v_goto (pc := 605) (tgt := 18) hC dW_law_605 (by decide) ?_
          exact V.sub [1, 2, 3, 0] rfl (hrec18 _ _ _ _ _ _ _ _ hf)
        · refine v_iconst (pc := 377) (v := (0 : Int32)) hC dW_law_377 (by decide) ?_
          by_cases ec94 : c < 12001
          rotate_left
          · rw [if_neg ec94] at hf; cases hf
          rw [if_pos ec94] at hf
          cases hf
      rw [if_neg e33_6] at hf
      by_cases e33_7 : x4 = (7 : Int32)
      · rw [if_pos e33_7] at hf
        refine v_tabIn (tgt := 379) (off := 346) hC dW_law_33 (by rw [e33_7]; decide) (by rw [e33_7]; decide) (by rw [e33_7]; decide) (by decide) ?_
        refine v_aload_n (pc := 379) (i := 1) (r := a1) hC dW_law_379 rfl 1 rfl ?_
        by_cases ec97 : c < 12001
        rotate_left
        · rw [if_neg ec97] at hf; cases hf
        rw [if_pos ec97] at hf
        refine v_callVF (pc := 380) (S := (gEx g1 g2)) (r := a1) (As := []) (rest := []) (k' := 1 * c) (n' := 128 * c) (st1 := (fun yq => [.int yq])) hC dW_law_380 q365 q366 q367 q1 q368 ykN_start rfl rfl (fun bq vq rq wq hq => mN_start _ _ bq  _ rq wq hq) (by rw [hR]; decide) (by simp only [List.map_cons, List.map_nil, va_cat]; exact Nat.le_of_ble_eq_true rfl) (by simp only [rmN_start]; omega) (by rw [hR]; simp only [room_1]; omega) hf rfl (fun _ => rfl) (fun x95 w96 hf => ?_)
        refine v_aload_n (pc := 383) (i := 2) (r := a2) hC dW_law_383 rfl 2 rfl ?_
        by_cases ec101 : c < 12001
        rotate_left
        · rw [if_neg ec101] at hf; cases hf
        rw [if_pos ec101] at hf
        refine v_callVF (pc := 384) (S := (gIn g1 g2)) (r := a2) (As := []) (rest := [.int x95]) (k' := 1 * c) (n' := 128 * c) (st1 := (fun yq => [.int yq, .int x95])) hC dW_law_384 q611 q612 q613 q7 q614 ykM_start rfl rfl (fun bq vq rq wq hq => mM_start _ _ bq  _ rq wq hq) (by rw [hR]; decide) (by simp only [List.map_cons, List.map_nil, va_cat]; exact Nat.le_of_ble_eq_true rfl) (by simp only [rmM_start]; omega) (by rw [hR]; simp only [room_1]; omega) hf rfl (fun _ => rfl) (fun x99 w100 hf => ?_)
        refine v_icmp_eq (pc := 387) (tgt := 602) hC dW_law_387 (by decide) hf (fun hf => ?_) (fun hf => ?_)
        · refine v_iincB (pc := 602) (i := 3) (x := a3) (v := (6 : Int32)) hC dW_law_602 3 rfl (by decide) (by decide) (fun x103 => [(3, .int x103), (0, va_rf a0), (1, va_rf a1), (2, va_rf a2)]) (fun _ => (by cases a2 <;> rfl)) hf (fun x103 hf => ?_)
          refine v_goto (pc := 605) (tgt := 18) hC dW_law_605 (by decide) ?_
          exact V.sub [1, 2, 3, 0] rfl (hrec18 _ _ _ _ _ _ _ _ hf)
        · refine v_iconst (pc := 390) (v := (0 : Int32)) hC dW_law_390 (by decide) ?_
          by_cases ec104 : c < 12001
          rotate_left
          · rw [if_neg ec104] at hf; cases hf
          rw [if_pos ec104] at hf
          cases hf
      rw [if_neg e33_7] at hf
      by_cases e33_8 : x4 = (8 : Int32)
      · rw [if_pos e33_8] at hf
        refine v_tabIn (tgt := 392) (off := 359) hC dW_law_33 (by rw [e33_8]; decide) (by rw [e33_8]; decide) (by rw [e33_8]; decide) (by decide) ?_
        refine v_aload_n (pc := 392) (i := 1) (r := a1) hC dW_law_392 rfl 1 rfl ?_
        by_cases ec107 : c < 12001
        rotate_left
        · rw [if_neg ec107] at hf; cases hf
        rw [if_pos ec107] at hf
        refine v_callVF (pc := 393) (S := (gEx g1 g2)) (r := a1) (As := []) (rest := []) (k' := 1 * c) (n' := 128 * c) (st1 := (fun yq => [.int yq])) hC dW_law_393 q374 q375 q376 q1 q377 ykN_step rfl rfl (fun bq vq rq wq hq => mN_step _ _ bq  _ rq wq hq) (by rw [hR]; decide) (by simp only [List.map_cons, List.map_nil, va_cat]; exact Nat.le_of_ble_eq_true rfl) (by simp only [rmN_step]; omega) (by rw [hR]; simp only [room_1]; omega) hf rfl (fun _ => rfl) (fun x105 w106 hf => ?_)
        refine v_aload_n (pc := 396) (i := 2) (r := a2) hC dW_law_396 rfl 2 rfl ?_
        by_cases ec111 : c < 12001
        rotate_left
        · rw [if_neg ec111] at hf; cases hf
        rw [if_pos ec111] at hf
        refine v_callVF (pc := 397) (S := (gIn g1 g2)) (r := a2) (As := []) (rest := [.int x105]) (k' := 1 * c) (n' := 128 * c) (st1 := (fun yq => [.int yq, .int x105])) hC dW_law_397 q615 q616 q617 q7 q618 ykM_step rfl rfl (fun bq vq rq wq hq => mM_step _ _ bq  _ rq wq hq) (by rw [hR]; decide) (by simp only [List.map_cons, List.map_nil, va_cat]; exact Nat.le_of_ble_eq_true rfl) (by simp only [rmM_step]; omega) (by rw [hR]; simp only [room_1]; omega) hf rfl (fun _ => rfl) (fun x109 w110 hf => ?_)
        refine v_icmp_eq (pc := 400) (tgt := 602) hC dW_law_400 (by decide) hf (fun hf => ?_) (fun hf => ?_)
        · refine v_iincB (pc := 602) (i := 3) (x := a3) (v := (6 : Int32)) hC dW_law_602 3 rfl (by decide) (by decide) (fun x113 => [(3, .int x113), (0, va_rf a0), (1, va_rf a1), (2, va_rf a2)]) (fun _ => (by cases a2 <;> rfl)) hf (fun x113 hf => ?_)
          refine v_goto (pc := 605) (tgt := 18) hC dW_law_605 (by decide) ?_
          exact V.sub [1, 2, 3, 0] rfl (hrec18 _ _ _ _ _ _ _ _ hf)
        · refine v_iconst (pc := 403) (v := (0 : Int32)) hC dW_law_403 (by decide) ?_
          by_cases ec114 : c < 12001
          rotate_left
          · rw [if_neg ec114] at hf; cases hf
          rw [if_pos ec114] at hf
          cases hf
      rw [if_neg e33_8] at hf
      by_cases e33_9 : x4 = (9 : Int32)
      · rw [if_pos e33_9] at hf
        refine v_tabIn (tgt := 405) (off := 372) hC dW_law_33 (by rw [e33_9]; decide) (by rw [e33_9]; decide) (by rw [e33_9]; decide) (by decide) ?_
        refine v_aload_n (pc := 405) (i := 1) (r := a1) hC dW_law_405 rfl 1 rfl ?_
        by_cases ec117 : c < 12001
        rotate_left
        · rw [if_neg ec117] at hf; cases hf
        rw [if_pos ec117] at hf
        refine v_callVF (pc := 406) (S := (gEx g1 g2)) (r := a1) (As := []) (rest := []) (k' := 1 * c) (n' := 128 * c) (st1 := (fun yq => [.int yq])) hC dW_law_406 q425 q426 q427 q1 q428 ykN_finish rfl rfl (fun bq vq rq wq hq => mN_finish _ _ bq  _ rq wq hq) (by rw [hR]; decide) (by simp only [List.map_cons, List.map_nil, va_cat]; exact Nat.le_of_ble_eq_true rfl) (by simp only [rmN_finish]; omega) (by rw [hR]; simp only [room_1]; omega) hf rfl (fun _ => rfl) (fun x115 w116 hf => ?_)
        refine v_aload_n (pc := 409) (i := 2) (r := a2) hC dW_law_409 rfl 2 rfl ?_
        by_cases ec121 : c < 12001
        rotate_left
        · rw [if_neg ec121] at hf; cases hf
        rw [if_pos ec121] at hf
        refine v_callVF (pc := 410) (S := (gIn g1 g2)) (r := a2) (As := []) (rest := [.int x115]) (k' := 1 * c) (n' := 128 * c) (st1 := (fun yq => [.int yq, .int x115])) hC dW_law_410 q645 q646 q647 q7 q648 ykM_finish rfl rfl (fun bq vq rq wq hq => mM_finish _ _ bq  _ rq wq hq) (by rw [hR]; decide) (by simp only [List.map_cons, List.map_nil, va_cat]; exact Nat.le_of_ble_eq_true rfl) (by simp only [rmM_finish]; omega) (by rw [hR]; simp only [room_1]; omega) hf rfl (fun _ => rfl) (fun x119 w120 hf => ?_)
        refine v_icmp_eq (pc := 413) (tgt := 602) hC dW_law_413 (by decide) hf (fun hf => ?_) (fun hf => ?_)
        · refine v_iincB (pc := 602) (i := 3) (x := a3) (v := (6 : Int32)) hC dW_law_602 3 rfl (by decide) (by decide) (fun x123 => [(3, .int x123), (0, va_rf a0), (1, va_rf a1), (2, va_rf a2)]) (fun _ => (by cases a2 <;> rfl)) hf (fun x123 hf => ?_)
          refine v_goto (pc := 605) (tgt := 18) hC dW_law_605 (by decide) ?_
          exact V.sub [1, 2, 3, 0] rfl (hrec18 _ _ _ _ _ _ _ _ hf)
        · refine v_iconst (pc := 416) (v := (0 : Int32)) hC dW_law_416 (by decide) ?_
          by_cases ec124 : c < 12001
          rotate_left
          · rw [if_neg ec124] at hf; cases hf
          rw [if_pos ec124] at hf
          cases hf
      rw [if_neg e33_9] at hf
      by_cases e33_10 : x4 = (10 : Int32)
      · rw [if_pos e33_10] at hf
        refine v_tabIn (tgt := 418) (off := 385) hC dW_law_33 (by rw [e33_10]; decide) (by rw [e33_10]; decide) (by rw [e33_10]; decide) (by decide) ?_
        refine v_aload_n (pc := 418) (i := 1) (r := a1) hC dW_law_418 rfl 1 rfl ?_
        refine v_aload_n (pc := 419) (i := 0) (r := a0) hC dW_law_419 rfl 0 rfl ?_
        refine v_iload_n (pc := 420) (i := 3) (x := a3) hC dW_law_420 rfl 3 rfl ?_
        refine v_iconst (pc := 421) (v := (1 : Int32)) hC dW_law_421 (by decide) ?_
        refine v_iadd (pc := 422) hC dW_law_422 ?_
        refine v_iald (pc := 423) hC dW_law_423 hf (fun x125 hf => ?_)
        refine v_aload_n (pc := 424) (i := 0) (r := a0) hC dW_law_424 rfl 0 rfl ?_
        refine v_iload_n (pc := 425) (i := 3) (x := a3) hC dW_law_425 rfl 3 rfl ?_
        refine v_iconst (pc := 426) (v := (2 : Int32)) hC dW_law_426 (by decide) ?_
        refine v_iadd (pc := 427) hC dW_law_427 ?_
        refine v_iald (pc := 428) hC dW_law_428 hf (fun x126 hf => ?_)
        by_cases ec129 : c < 12001
        rotate_left
        · rw [if_neg ec129] at hf; cases hf
        rw [if_pos ec129] at hf
        refine v_callVF (pc := 429) (S := (gEx g1 g2)) (r := a1) (As := [.int x125, .int x126]) (rest := []) (k' := 1 * c) (n' := 128 * c) (st1 := (fun yq => [.int yq])) hC dW_law_429 q429 q430 q431 q1 q432 ykN_cell rfl rfl (fun bq vq rq wq hq => mN_cell _ _ bq x125 x126 _ rq wq hq) (by rw [hR]; decide) (by simp only [List.map_cons, List.map_nil, va_cat]; exact Nat.le_of_ble_eq_true rfl) (by simp only [rmN_cell]; omega) (by rw [hR]; simp only [room_1]; omega) hf rfl (fun _ => rfl) (fun x127 w128 hf => ?_)
        refine v_aload_n (pc := 432) (i := 2) (r := a2) hC dW_law_432 rfl 2 rfl ?_
        refine v_aload_n (pc := 433) (i := 0) (r := a0) hC dW_law_433 rfl 0 rfl ?_
        refine v_iload_n (pc := 434) (i := 3) (x := a3) hC dW_law_434 rfl 3 rfl ?_
        refine v_iconst (pc := 435) (v := (1 : Int32)) hC dW_law_435 (by decide) ?_
        refine v_iadd (pc := 436) hC dW_law_436 ?_
        refine v_iald (pc := 437) hC dW_law_437 hf (fun x131 hf => ?_)
        refine v_aload_n (pc := 438) (i := 0) (r := a0) hC dW_law_438 rfl 0 rfl ?_
        refine v_iload_n (pc := 439) (i := 3) (x := a3) hC dW_law_439 rfl 3 rfl ?_
        refine v_iconst (pc := 440) (v := (2 : Int32)) hC dW_law_440 (by decide) ?_
        refine v_iadd (pc := 441) hC dW_law_441 ?_
        refine v_iald (pc := 442) hC dW_law_442 hf (fun x132 hf => ?_)
        by_cases ec135 : c < 12001
        rotate_left
        · rw [if_neg ec135] at hf; cases hf
        rw [if_pos ec135] at hf
        refine v_callVF (pc := 443) (S := (gIn g1 g2)) (r := a2) (As := [.int x131, .int x132]) (rest := [.int x127]) (k' := 1 * c) (n' := 128 * c) (st1 := (fun yq => [.int yq, .int x127])) hC dW_law_443 q650 q651 q652 q7 q653 ykM_cell rfl rfl (fun bq vq rq wq hq => mM_cell _ _ bq x131 x132 _ rq wq hq) (by rw [hR]; decide) (by simp only [List.map_cons, List.map_nil, va_cat]; exact Nat.le_of_ble_eq_true rfl) (by simp only [rmM_cell]; omega) (by rw [hR]; simp only [room_1]; omega) hf rfl (fun _ => rfl) (fun x133 w134 hf => ?_)
        refine v_icmp_eq (pc := 446) (tgt := 602) hC dW_law_446 (by decide) hf (fun hf => ?_) (fun hf => ?_)
        · refine v_iincB (pc := 602) (i := 3) (x := a3) (v := (6 : Int32)) hC dW_law_602 3 rfl (by decide) (by decide) (fun x137 => [(3, .int x137), (0, va_rf a0), (1, va_rf a1), (2, va_rf a2)]) (fun _ => (by cases a2 <;> rfl)) hf (fun x137 hf => ?_)
          refine v_goto (pc := 605) (tgt := 18) hC dW_law_605 (by decide) ?_
          exact V.sub [1, 2, 3, 0] rfl (hrec18 _ _ _ _ _ _ _ _ hf)
        · refine v_iconst (pc := 449) (v := (0 : Int32)) hC dW_law_449 (by decide) ?_
          by_cases ec138 : c < 12001
          rotate_left
          · rw [if_neg ec138] at hf; cases hf
          rw [if_pos ec138] at hf
          cases hf
      rw [if_neg e33_10] at hf
      by_cases e33_11 : x4 = (11 : Int32)
      · rw [if_pos e33_11] at hf
        refine v_tabIn (tgt := 451) (off := 418) hC dW_law_33 (by rw [e33_11]; decide) (by rw [e33_11]; decide) (by rw [e33_11]; decide) (by decide) ?_
        refine v_aload_n (pc := 451) (i := 1) (r := a1) hC dW_law_451 rfl 1 rfl ?_
        refine v_aload_n (pc := 452) (i := 0) (r := a0) hC dW_law_452 rfl 0 rfl ?_
        refine v_iload_n (pc := 453) (i := 3) (x := a3) hC dW_law_453 rfl 3 rfl ?_
        refine v_iconst (pc := 454) (v := (1 : Int32)) hC dW_law_454 (by decide) ?_
        refine v_iadd (pc := 455) hC dW_law_455 ?_
        refine v_iald (pc := 456) hC dW_law_456 hf (fun x139 hf => ?_)
        by_cases ec142 : c < 12001
        rotate_left
        · rw [if_neg ec142] at hf; cases hf
        rw [if_pos ec142] at hf
        refine v_callVF (pc := 457) (S := (gEx g1 g2)) (r := a1) (As := [.int x139]) (rest := []) (k' := 1 * c) (n' := 128 * c) (st1 := (fun yq => [.int yq])) hC dW_law_457 q437 q438 q439 q1 q440 ykN_offset rfl rfl (fun bq vq rq wq hq => mN_offset _ _ bq x139 _ rq wq hq) (by rw [hR]; decide) (by simp only [List.map_cons, List.map_nil, va_cat]; exact Nat.le_of_ble_eq_true rfl) (by simp only [rmN_offset]; omega) (by rw [hR]; simp only [room_1]; omega) hf rfl (fun _ => rfl) (fun x140 w141 hf => ?_)
        refine v_aload_n (pc := 460) (i := 2) (r := a2) hC dW_law_460 rfl 2 rfl ?_
        refine v_aload_n (pc := 461) (i := 0) (r := a0) hC dW_law_461 rfl 0 rfl ?_
        refine v_iload_n (pc := 462) (i := 3) (x := a3) hC dW_law_462 rfl 3 rfl ?_
        refine v_iconst (pc := 463) (v := (1 : Int32)) hC dW_law_463 (by decide) ?_
        refine v_iadd (pc := 464) hC dW_law_464 ?_
        refine v_iald (pc := 465) hC dW_law_465 hf (fun x144 hf => ?_)
        by_cases ec147 : c < 12001
        rotate_left
        · rw [if_neg ec147] at hf; cases hf
        rw [if_pos ec147] at hf
        refine v_callVF (pc := 466) (S := (gIn g1 g2)) (r := a2) (As := [.int x144]) (rest := [.int x140]) (k' := 1 * c) (n' := 128 * c) (st1 := (fun yq => [.int yq, .int x140])) hC dW_law_466 q654 q655 q656 q7 q657 ykM_offset rfl rfl (fun bq vq rq wq hq => mM_offset _ _ bq x144 _ rq wq hq) (by rw [hR]; decide) (by simp only [List.map_cons, List.map_nil, va_cat]; exact Nat.le_of_ble_eq_true rfl) (by simp only [rmM_offset]; omega) (by rw [hR]; simp only [room_1]; omega) hf rfl (fun _ => rfl) (fun x145 w146 hf => ?_)
        refine v_icmp_eq (pc := 469) (tgt := 602) hC dW_law_469 (by decide) hf (fun hf => ?_) (fun hf => ?_)
        · refine v_iincB (pc := 602) (i := 3) (x := a3) (v := (6 : Int32)) hC dW_law_602 3 rfl (by decide) (by decide) (fun x149 => [(3, .int x149), (0, va_rf a0), (1, va_rf a1), (2, va_rf a2)]) (fun _ => (by cases a2 <;> rfl)) hf (fun x149 hf => ?_)
          refine v_goto (pc := 605) (tgt := 18) hC dW_law_605 (by decide) ?_
          exact V.sub [1, 2, 3, 0] rfl (hrec18 _ _ _ _ _ _ _ _ hf)
        · refine v_iconst (pc := 472) (v := (0 : Int32)) hC dW_law_472 (by decide) ?_
          by_cases ec150 : c < 12001
          rotate_left
          · rw [if_neg ec150] at hf; cases hf
          rw [if_pos ec150] at hf
          cases hf
      rw [if_neg e33_11] at hf
      by_cases e33_12 : x4 = (12 : Int32)
      · rw [if_pos e33_12] at hf
        refine v_tabIn (tgt := 474) (off := 441) hC dW_law_33 (by rw [e33_12]; decide) (by rw [e33_12]; decide) (by rw [e33_12]; decide) (by decide) ?_
        refine v_aload_n (pc := 474) (i := 1) (r := a1) hC dW_law_474 rfl 1 rfl ?_
        refine v_aload_n (pc := 475) (i := 0) (r := a0) hC dW_law_475 rfl 0 rfl ?_
        refine v_iload_n (pc := 476) (i := 3) (x := a3) hC dW_law_476 rfl 3 rfl ?_
        refine v_iconst (pc := 477) (v := (1 : Int32)) hC dW_law_477 (by decide) ?_
        refine v_iadd (pc := 478) hC dW_law_478 ?_
        refine v_iald (pc := 479) hC dW_law_479 hf (fun x151 hf => ?_)
        refine v_aload_n (pc := 480) (i := 0) (r := a0) hC dW_law_480 rfl 0 rfl ?_
        refine v_iload_n (pc := 481) (i := 3) (x := a3) hC dW_law_481 rfl 3 rfl ?_
        refine v_iconst (pc := 482) (v := (2 : Int32)) hC dW_law_482 (by decide) ?_
        refine v_iadd (pc := 483) hC dW_law_483 ?_
        refine v_iald (pc := 484) hC dW_law_484 hf (fun x152 hf => ?_)
        refine v_if_eq (pc := 485) (tgt := 492) hC dW_law_485 (by decide) hf (fun hf => ?_) (fun hf => ?_)
        · refine v_iconst (pc := 492) (v := (0 : Int32)) hC dW_law_492 (by decide) ?_
          exact V.sub [0, 1, 2, 3] rfl (tW_law_b493 hC hE hR hrec18 _ _ _ _ _ _ _ _ _ _ _ hf)
        · refine v_iconst (pc := 488) (v := (1 : Int32)) hC dW_law_488 (by decide) ?_
          refine v_goto (pc := 489) (tgt := 493) hC dW_law_489 (by decide) ?_
          exact V.sub [0, 1, 2, 3] rfl (tW_law_b493 hC hE hR hrec18 _ _ _ _ _ _ _ _ _ _ _ hf)
      rw [if_neg e33_12] at hf
      by_cases e33_13 : x4 = (13 : Int32)
      · rw [if_pos e33_13] at hf
        refine v_tabIn (tgt := 523) (off := 490) hC dW_law_33 (by rw [e33_13]; decide) (by rw [e33_13]; decide) (by rw [e33_13]; decide) (by decide) ?_
        refine v_aload_n (pc := 523) (i := 1) (r := a1) hC dW_law_523 rfl 1 rfl ?_
        refine v_aload_n (pc := 524) (i := 0) (r := a0) hC dW_law_524 rfl 0 rfl ?_
        refine v_iload_n (pc := 525) (i := 3) (x := a3) hC dW_law_525 rfl 3 rfl ?_
        refine v_iconst (pc := 526) (v := (1 : Int32)) hC dW_law_526 (by decide) ?_
        refine v_iadd (pc := 527) hC dW_law_527 ?_
        refine v_iald (pc := 528) hC dW_law_528 hf (fun x153 hf => ?_)
        by_cases ec156 : c < 12001
        rotate_left
        · rw [if_neg ec156] at hf; cases hf
        rw [if_pos ec156] at hf
        refine v_callVF (pc := 529) (S := (gEx g1 g2)) (r := a1) (As := [.int x153]) (rest := []) (k' := 1 * c) (n' := 128 * c) (st1 := (fun yq => [.int yq])) hC dW_law_529 q449 q450 q451 q1 q452 ykN_placed rfl rfl (fun bq vq rq wq hq => mN_placed _ _ bq x153 _ rq wq hq) (by rw [hR]; decide) (by simp only [List.map_cons, List.map_nil, va_cat]; exact Nat.le_of_ble_eq_true rfl) (by simp only [rmN_placed]; omega) (by rw [hR]; simp only [room_1]; omega) hf rfl (fun _ => rfl) (fun x154 w155 hf => ?_)
        refine v_aload_n (pc := 532) (i := 2) (r := a2) hC dW_law_532 rfl 2 rfl ?_
        refine v_aload_n (pc := 533) (i := 0) (r := a0) hC dW_law_533 rfl 0 rfl ?_
        refine v_iload_n (pc := 534) (i := 3) (x := a3) hC dW_law_534 rfl 3 rfl ?_
        refine v_iconst (pc := 535) (v := (1 : Int32)) hC dW_law_535 (by decide) ?_
        refine v_iadd (pc := 536) hC dW_law_536 ?_
        refine v_iald (pc := 537) hC dW_law_537 hf (fun x158 hf => ?_)
        by_cases ec161 : c < 12001
        rotate_left
        · rw [if_neg ec161] at hf; cases hf
        rw [if_pos ec161] at hf
        refine v_callVF (pc := 538) (S := (gIn g1 g2)) (r := a2) (As := [.int x158]) (rest := [.int x154]) (k' := 1 * c) (n' := 128 * c) (st1 := (fun yq => [.int yq, .int x154])) hC dW_law_538 q562 q563 q564 q7 q565 ykM_placed rfl rfl (fun bq vq rq wq hq => mM_placed _ _ bq x158 _ rq wq hq) (by rw [hR]; decide) (by simp only [List.map_cons, List.map_nil, va_cat]; exact Nat.le_of_ble_eq_true rfl) (by simp only [rmM_placed]; omega) (by rw [hR]; simp only [room_1]; omega) hf rfl (fun _ => rfl) (fun x159 w160 hf => ?_)
        refine v_icmp_eq (pc := 541) (tgt := 602) hC dW_law_541 (by decide) hf (fun hf => ?_) (fun hf => ?_)
        · refine v_iincB (pc := 602) (i := 3) (x := a3) (v := (6 : Int32)) hC dW_law_602 3 rfl (by decide) (by decide) (fun x163 => [(3, .int x163), (0, va_rf a0), (1, va_rf a1), (2, va_rf a2)]) (fun _ => (by cases a2 <;> rfl)) hf (fun x163 hf => ?_)
          refine v_goto (pc := 605) (tgt := 18) hC dW_law_605 (by decide) ?_
          exact V.sub [1, 2, 3, 0] rfl (hrec18 _ _ _ _ _ _ _ _ hf)
        · refine v_iconst (pc := 544) (v := (0 : Int32)) hC dW_law_544 (by decide) ?_
          by_cases ec164 : c < 12001
          rotate_left
          · rw [if_neg ec164] at hf; cases hf
          rw [if_pos ec164] at hf
          cases hf
      rw [if_neg e33_13] at hf
      by_cases e33_14 : x4 = (14 : Int32)
      · rw [if_pos e33_14] at hf
        refine v_tabIn (tgt := 546) (off := 513) hC dW_law_33 (by rw [e33_14]; decide) (by rw [e33_14]; decide) (by rw [e33_14]; decide) (by decide) ?_
        refine v_aload_n (pc := 546) (i := 1) (r := a1) hC dW_law_546 rfl 1 rfl ?_
        refine v_aload_n (pc := 547) (i := 0) (r := a0) hC dW_law_547 rfl 0 rfl ?_
        refine v_iload_n (pc := 548) (i := 3) (x := a3) hC dW_law_548 rfl 3 rfl ?_
        refine v_iconst (pc := 549) (v := (1 : Int32)) hC dW_law_549 (by decide) ?_
        refine v_iadd (pc := 550) hC dW_law_550 ?_
        refine v_iald (pc := 551) hC dW_law_551 hf (fun x165 hf => ?_)
        refine v_aload_n (pc := 552) (i := 0) (r := a0) hC dW_law_552 rfl 0 rfl ?_
        refine v_iload_n (pc := 553) (i := 3) (x := a3) hC dW_law_553 rfl 3 rfl ?_
        refine v_iconst (pc := 554) (v := (2 : Int32)) hC dW_law_554 (by decide) ?_
        refine v_iadd (pc := 555) hC dW_law_555 ?_
        refine v_iald (pc := 556) hC dW_law_556 hf (fun x166 hf => ?_)
        by_cases ec169 : c < 12001
        rotate_left
        · rw [if_neg ec169] at hf; cases hf
        rw [if_pos ec169] at hf
        refine v_callVF (pc := 557) (S := (gEx g1 g2)) (r := a1) (As := [.int x165, .int x166]) (rest := []) (k' := 1 * c) (n' := 128 * c) (st1 := (fun yq => [.int yq])) hC dW_law_557 q453 q454 q455 q1 q456 ykN_scaled rfl rfl (fun bq vq rq wq hq => mN_scaled _ _ bq x165 x166 _ rq wq hq) (by rw [hR]; decide) (by simp only [List.map_cons, List.map_nil, va_cat]; exact Nat.le_of_ble_eq_true rfl) (by simp only [rmN_scaled]; omega) (by rw [hR]; simp only [room_1]; omega) hf rfl (fun _ => rfl) (fun x167 w168 hf => ?_)
        refine v_aload_n (pc := 560) (i := 2) (r := a2) hC dW_law_560 rfl 2 rfl ?_
        refine v_aload_n (pc := 561) (i := 0) (r := a0) hC dW_law_561 rfl 0 rfl ?_
        refine v_iload_n (pc := 562) (i := 3) (x := a3) hC dW_law_562 rfl 3 rfl ?_
        refine v_iconst (pc := 563) (v := (1 : Int32)) hC dW_law_563 (by decide) ?_
        refine v_iadd (pc := 564) hC dW_law_564 ?_
        refine v_iald (pc := 565) hC dW_law_565 hf (fun x171 hf => ?_)
        refine v_aload_n (pc := 566) (i := 0) (r := a0) hC dW_law_566 rfl 0 rfl ?_
        refine v_iload_n (pc := 567) (i := 3) (x := a3) hC dW_law_567 rfl 3 rfl ?_
        refine v_iconst (pc := 568) (v := (2 : Int32)) hC dW_law_568 (by decide) ?_
        refine v_iadd (pc := 569) hC dW_law_569 ?_
        refine v_iald (pc := 570) hC dW_law_570 hf (fun x172 hf => ?_)
        by_cases ec175 : c < 12001
        rotate_left
        · rw [if_neg ec175] at hf; cases hf
        rw [if_pos ec175] at hf
        refine v_callVF (pc := 571) (S := (gIn g1 g2)) (r := a2) (As := [.int x171, .int x172]) (rest := [.int x167]) (k' := 1 * c) (n' := 128 * c) (st1 := (fun yq => [.int yq, .int x167])) hC dW_law_571 q662 q663 q664 q7 q665 ykM_scaled rfl rfl (fun bq vq rq wq hq => mM_scaled _ _ bq x171 x172 _ rq wq hq) (by rw [hR]; decide) (by simp only [List.map_cons, List.map_nil, va_cat]; exact Nat.le_of_ble_eq_true rfl) (by simp only [rmM_scaled]; omega) (by rw [hR]; simp only [room_1]; omega) hf rfl (fun _ => rfl) (fun x173 w174 hf => ?_)
        refine v_icmp_eq (pc := 574) (tgt := 602) hC dW_law_574 (by decide) hf (fun hf => ?_) (fun hf => ?_)
        · refine v_iincB (pc := 602) (i := 3) (x := a3) (v := (6 : Int32)) hC dW_law_602 3 rfl (by decide) (by decide) (fun x177 => [(3, .int x177), (0, va_rf a0), (1, va_rf a1), (2, va_rf a2)]) (fun _ => (by cases a2 <;> rfl)) hf (fun x177 hf => ?_)
          refine v_goto (pc := 605) (tgt := 18) hC dW_law_605 (by decide) ?_
          exact V.sub [1, 2, 3, 0] rfl (hrec18 _ _ _ _ _ _ _ _ hf)
        · refine v_iconst (pc := 577) (v := (0 : Int32)) hC dW_law_577 (by decide) ?_
          by_cases ec178 : c < 12001
          rotate_left
          · rw [if_neg ec178] at hf; cases hf
          rw [if_pos ec178] at hf
          cases hf
      rw [if_neg e33_14] at hf
      by_cases e33_15 : x4 = (15 : Int32)
      · rw [if_pos e33_15] at hf
        refine v_tabIn (tgt := 579) (off := 546) hC dW_law_33 (by rw [e33_15]; decide) (by rw [e33_15]; decide) (by rw [e33_15]; decide) (by decide) ?_
        refine v_aload_n (pc := 579) (i := 1) (r := a1) hC dW_law_579 rfl 1 rfl ?_
        refine v_aload_n (pc := 580) (i := 0) (r := a0) hC dW_law_580 rfl 0 rfl ?_
        refine v_iload_n (pc := 581) (i := 3) (x := a3) hC dW_law_581 rfl 3 rfl ?_
        refine v_iconst (pc := 582) (v := (1 : Int32)) hC dW_law_582 (by decide) ?_
        refine v_iadd (pc := 583) hC dW_law_583 ?_
        refine v_iald (pc := 584) hC dW_law_584 hf (fun x179 hf => ?_)
        by_cases ec182 : c < 12001
        rotate_left
        · rw [if_neg ec182] at hf; cases hf
        rw [if_pos ec182] at hf
        refine v_callVF (pc := 585) (S := (gEx g1 g2)) (r := a1) (As := [.int x179]) (rest := []) (k' := 1 * c) (n' := 128 * c) (st1 := (fun yq => [.int yq])) hC dW_law_585 q460 q461 q462 q1 q463 ykN_count rfl rfl (fun bq vq rq wq hq => mN_count _ _ bq x179 _ rq wq hq) (by rw [hR]; decide) (by simp only [List.map_cons, List.map_nil, va_cat]; exact Nat.le_of_ble_eq_true rfl) (by simp only [rmN_count]; omega) (by rw [hR]; simp only [room_1]; omega) hf rfl (fun _ => rfl) (fun x180 w181 hf => ?_)
        refine v_aload_n (pc := 588) (i := 2) (r := a2) hC dW_law_588 rfl 2 rfl ?_
        refine v_aload_n (pc := 589) (i := 0) (r := a0) hC dW_law_589 rfl 0 rfl ?_
        refine v_iload_n (pc := 590) (i := 3) (x := a3) hC dW_law_590 rfl 3 rfl ?_
        refine v_iconst (pc := 591) (v := (1 : Int32)) hC dW_law_591 (by decide) ?_
        refine v_iadd (pc := 592) hC dW_law_592 ?_
        refine v_iald (pc := 593) hC dW_law_593 hf (fun x184 hf => ?_)
        by_cases ec187 : c < 12001
        rotate_left
        · rw [if_neg ec187] at hf; cases hf
        rw [if_pos ec187] at hf
        refine v_callVF (pc := 594) (S := (gIn g1 g2)) (r := a2) (As := [.int x184]) (rest := [.int x180]) (k' := 1 * c) (n' := 128 * c) (st1 := (fun yq => [.int yq, .int x180])) hC dW_law_594 q668 q669 q670 q7 q671 ykM_count rfl rfl (fun bq vq rq wq hq => mM_count _ _ bq x184 _ rq wq hq) (by rw [hR]; decide) (by simp only [List.map_cons, List.map_nil, va_cat]; exact Nat.le_of_ble_eq_true rfl) (by simp only [rmM_count]; omega) (by rw [hR]; simp only [room_1]; omega) hf rfl (fun _ => rfl) (fun x185 w186 hf => ?_)
        refine v_icmp_eq (pc := 597) (tgt := 602) hC dW_law_597 (by decide) hf (fun hf => ?_) (fun hf => ?_)
        · refine v_iincB (pc := 602) (i := 3) (x := a3) (v := (6 : Int32)) hC dW_law_602 3 rfl (by decide) (by decide) (fun x189 => [(3, .int x189), (0, va_rf a0), (1, va_rf a1), (2, va_rf a2)]) (fun _ => (by cases a2 <;> rfl)) hf (fun x189 hf => ?_)
          refine v_goto (pc := 605) (tgt := 18) hC dW_law_605 (by decide) ?_
          exact V.sub [1, 2, 3, 0] rfl (hrec18 _ _ _ _ _ _ _ _ hf)
        · refine v_iconst (pc := 600) (v := (0 : Int32)) hC dW_law_600 (by decide) ?_
          by_cases ec190 : c < 12001
          rotate_left
          · rw [if_neg ec190] at hf; cases hf
          rw [if_pos ec190] at hf
          cases hf
      rw [if_neg e33_15] at hf
      refine v_tabOut (pc := 33) (tgt := 602) hC dW_law_33 (by have n0 := lv_neT (a := 0) e33_0 (by decide); have n1 := lv_neT (a := 1) e33_1 (by decide); have n2 := lv_neT (a := 2) e33_2 (by decide); have n3 := lv_neT (a := 3) e33_3 (by decide); have n4 := lv_neT (a := 4) e33_4 (by decide); have n5 := lv_neT (a := 5) e33_5 (by decide); have n6 := lv_neT (a := 6) e33_6 (by decide); have n7 := lv_neT (a := 7) e33_7 (by decide); have n8 := lv_neT (a := 8) e33_8 (by decide); have n9 := lv_neT (a := 9) e33_9 (by decide); have n10 := lv_neT (a := 10) e33_10 (by decide); have n11 := lv_neT (a := 11) e33_11 (by decide); have n12 := lv_neT (a := 12) e33_12 (by decide); have n13 := lv_neT (a := 13) e33_13 (by decide); have n14 := lv_neT (a := 14) e33_14 (by decide); have n15 := lv_neT (a := 15) e33_15 (by decide); omega) (by decide) ?_
      refine v_iincB (pc := 602) (i := 3) (x := a3) (v := (6 : Int32)) hC dW_law_602 3 rfl (by decide) (by decide) (fun x191 => [(3, .int x191), (0, va_rf a0), (1, va_rf a1), (2, va_rf a2)]) (fun _ => (by cases a2 <;> rfl)) hf (fun x191 hf => ?_)
      refine v_goto (pc := 605) (tgt := 18) hC dW_law_605 (by decide) ?_
      exact V.sub [1, 2, 3, 0] rfl (hrec18 _ _ _ _ _ _ _ _ hf)
set_option maxHeartbeats 4000000 in
set_option maxRecDepth 100000 in
theorem tW_law {C : xC} {w0 w' : cW} {r : Int32}  (hC : okC C code 4 "ArenaNetworkLaw" lw_gd) (hE : lawE C w0) (hR : xR C = room_1) (a0 : Nat) (w : cW) (hf : fW_law a0 w = some (r, w')) : V C w 0 0 0 [(0, va_rf (some a0))] [] := by
  unfold fW_law at hf
  refine v_new (pc := 0) (fs := dfN) hC dW_law_0 inN rfl tyN tkN q16 q17 q1 doN (by rw [hR]; decide) (by rw [hR]; decide) hf (fun w1 hf => ?_)
  refine V.widen (k' := 1) (n' := 128) (by omega) (by omega) ?_
  refine v_dupR (pc := 3) hC dW_law_3 ?_
  refine v_callI (pc := 4) (b := w.2.1) (As := []) (rest := [va_rf (some w.2.1)]) (k' := 17) (n' := 2176) hC dW_law_4 q18 q19 q1 q20 rfl ykN_init rfl (fun rq wq hq => mN_init _ _ w.2.1 _ rq wq hq) (by rw [hR]; decide) (by simp only [List.map_cons, List.map_nil, va_cat]; exact Nat.le_of_ble_eq_true rfl) (by decide) (by rw [hR]; decide) hf rfl (fun _ w3 hf => ?_)
  refine v_astore_n (pc := 7) (i := 1) (r := (some w.2.1)) hC dW_law_7 rfl (by decide) [(1, va_rf (some w.2.1)), (0, va_rf (some a0))] rfl ?_
  refine v_new (pc := 8) (fs := dfM) hC dW_law_8 inM rfl tyM tkM q468 q469 q7 doM (by rw [hR]; decide) (by rw [hR]; decide) hf (fun w4 hf => ?_)
  refine V.widen (k' := 18) (n' := 2304) (by omega) (by omega) ?_
  refine v_dupR (pc := 11) hC dW_law_11 ?_
  refine v_callI (pc := 12) (b := w3.2.1) (As := []) (rest := [va_rf (some w3.2.1)]) (k' := 222) (n' := 28416) hC dW_law_12 q470 q471 q7 q472 rfl ykM_init rfl (fun rq wq hq => mM_init _ _ w3.2.1 _ rq wq hq) (by rw [hR]; decide) (by simp only [List.map_cons, List.map_nil, va_cat]; exact Nat.le_of_ble_eq_true rfl) (by decide) (by rw [hR]; decide) hf rfl (fun _ w6 hf => ?_)
  refine v_astore_n (pc := 15) (i := 2) (r := (some w3.2.1)) hC dW_law_15 rfl (by decide) [(2, va_rf (some w3.2.1)), (1, va_rf (some w.2.1)), (0, va_rf (some a0))] rfl ?_
  refine v_iconst (pc := 16) (v := (0 : Int32)) hC dW_law_16 (by decide) ?_
  refine v_istore_n (pc := 17) (i := 3) (x := (0 : Int32)) hC dW_law_17 rfl (by decide) [(3, .int (0 : Int32)), (2, va_rf (some w3.2.1)), (1, va_rf (some w.2.1)), (0, va_rf (some a0))] rfl ?_
  exact V.sub [3, 2, 1, 0] rfl (tW_law_l18 hC hE hR  FU _ _ _ _ _ _ _ _ hf)
