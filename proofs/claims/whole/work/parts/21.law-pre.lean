/-! THE CLAIM OUT OF ONE WALK OF THE LAW'S BODY. Your part is whole_start (and what it stands on); all else here is the same for every law, but numbers. -/
def R_law : String := "GateStackLaw"
def lw_P (b : Addr) (xs : List Int32) (args : Array Value) (s : State) : Prop := args = #[.ref b] ∧ s.IntsAt b xs ∧ xs.length ≤ 2048 ∧ (Jvm.Cond.and given_1 narrow_1).before args s = true
def lw_Q (_ : Array Value) (s : State) (o : Outcome) (t : State) : Prop := o = .returned (some (.int 1)) ∧ Framed s o t [] 600000 7302250
def lw_Z (below : List Frame) (a : Array Value) (s : State) : State → Prop := fun t => ∃ o, t.status = .running ∧ Ended t below o ∧ lw_Q a s o t
/-- the law's own end, with 1 on the stack, nothing written that was there before, its room as the claim has it -/
theorem lw_ret {p : Program} {l : Launch} {e : Env} {s : State} {m : MethodId} {below : List Frame} {meth : Method} {c : Code} {b : Nat} (hx : p.tables.exec = Jvm.exec) (hb : c.code = code) (hr : meth.sig.returnType = ret) (hlocks : meth.locks = false) {pc : Nat} {H : Heap} {ls : Array Slot} (hdg : decode code pc = .ok (.ireturn, 1)) : W p l e room_1 s m #[Value.ref b] below meth c H [] 600000 7302250 (lw_Z below #[Value.ref b] s) (F0 m pc ls [.int 1]) := by
  intro T hT X
  obtain ⟨fs, hret, hrun, hended, hW, hframe⟩ := X.leave (v := some (.int 1)) (hlocks := hlocks) (fun h => by rw [hr] at h; cases h)
  have hmeth' : T.vm.method? m = some meth := X.method'
  refine ⟨T.setFrames fs, ?_, .returned (some (.int 1)), hrun, hended, rfl, ⟨_, rfl⟩, hW, hframe⟩
  jvm_step X.here [X.here.top, hx, hb, hdg, hmeth', hr, ret, narrow_b1]
  (try refine ⟨rfl, ?_⟩); (try refine ⟨rfl, ?_⟩)
  first | (intro acts; rw [hret _ acts rfl rfl rfl]) | rw [hret _ _ rfl rfl rfl]
  exact Steps.refl _
/-- what holds at the law's entry: the machine, the code, the tables' words (any of lw_tbl by 'hts w (by decide +kernel)'), the script of L ints xs at the cell b, what the Statement gives of the start (any of its parts by flat_of_before) -/
def lw_At (p : Program) (s : State) (m : MethodId) (meth : Method) (c : Code) (b L : Nat) (xs : Nat → Int32) : Prop :=
  p.tables.exec = Jvm.exec ∧ c.code = code ∧ meth.sig.returnType = ret ∧ c.maxLocals = 4 ∧ s.vm.findClass R_law = some m.cls ∧ (∀ w ∈ lw_tbl, w.before #[Value.ref b] s = true) ∧ va_X b L xs s s.heap ∧ b < s.heap.size ∧ meth.locks = false ∧ (Jvm.Cond.and given_1 narrow_1).before #[Value.ref b] s = true
theorem d_L_law_0 : decode code 0 = .ok (.new 7, 3) := by decide +kernel
theorem d_L_law_3 : decode code 3 = .ok (.dup, 1) := by decide +kernel
theorem d_L_law_4 : decode code 4 = .ok (.invokespecial 9, 3) := by decide +kernel
theorem d_L_law_7 : decode code 7 = .ok (.astore_n 1, 1) := by decide +kernel
theorem d_L_law_8 : decode code 8 = .ok (.new 10, 3) := by decide +kernel
theorem d_L_law_11 : decode code 11 = .ok (.dup, 1) := by decide +kernel
theorem d_L_law_12 : decode code 12 = .ok (.invokespecial 12, 3) := by decide +kernel
theorem d_L_law_15 : decode code 15 = .ok (.astore_n 2, 1) := by decide +kernel
theorem d_L_law_16 : decode code 16 = .ok (.iconst 0, 1) := by decide +kernel
theorem d_L_law_17 : decode code 17 = .ok (.istore_n 3, 1) := by decide +kernel
theorem d_L_law_18 : decode code 18 = .ok (.iload_n 3, 1) := by decide +kernel
theorem d_L_law_19 : decode code 19 = .ok (.aload_n 0, 1) := by decide +kernel
theorem d_L_law_20 : decode code 20 = .ok (.arraylength, 1) := by decide +kernel
theorem d_L_law_21 : decode code 21 = .ok (.iconst 4, 1) := by decide +kernel
theorem d_L_law_22 : decode code 22 = .ok (.isub, 1) := by decide +kernel
theorem d_L_law_23 : decode code 23 = .ok (.if_icmp .gt 432, 3) := by decide +kernel
theorem d_L_law_26 : decode code 26 = .ok (.aload_n 0, 1) := by decide +kernel
theorem d_L_law_27 : decode code 27 = .ok (.iload_n 3, 1) := by decide +kernel
theorem d_L_law_28 : decode code 28 = .ok (.iaload, 1) := by decide +kernel
theorem d_L_law_29 : decode code 29 = .ok (.bipush 15, 2) := by decide +kernel
theorem d_L_law_31 : decode code 31 = .ok (.iand, 1) := by decide +kernel
theorem d_L_law_32 : decode code 32 = .ok (.tableswitch 417 0 13 #[72, 105, 128, 151, 174, 187, 200, 223, 236, 269, 293, 317, 340, 384], 72) := by decide +kernel
theorem d_L_law_104 : decode code 104 = .ok (.aload_n 1, 1) := by decide +kernel
theorem d_L_law_105 : decode code 105 = .ok (.aload_n 0, 1) := by decide +kernel
theorem d_L_law_106 : decode code 106 = .ok (.iload_n 3, 1) := by decide +kernel
theorem d_L_law_107 : decode code 107 = .ok (.iconst 1, 1) := by decide +kernel
theorem d_L_law_108 : decode code 108 = .ok (.iadd, 1) := by decide +kernel
theorem d_L_law_109 : decode code 109 = .ok (.iaload, 1) := by decide +kernel
theorem d_L_law_110 : decode code 110 = .ok (.aload_n 0, 1) := by decide +kernel
theorem d_L_law_111 : decode code 111 = .ok (.iload_n 3, 1) := by decide +kernel
theorem d_L_law_112 : decode code 112 = .ok (.iconst 2, 1) := by decide +kernel
theorem d_L_law_113 : decode code 113 = .ok (.iadd, 1) := by decide +kernel
theorem d_L_law_114 : decode code 114 = .ok (.iaload, 1) := by decide +kernel
theorem d_L_law_115 : decode code 115 = .ok (.invokevirtual 13, 3) := by decide +kernel
theorem d_L_law_118 : decode code 118 = .ok (.aload_n 2, 1) := by decide +kernel
theorem d_L_law_119 : decode code 119 = .ok (.aload_n 0, 1) := by decide +kernel
theorem d_L_law_120 : decode code 120 = .ok (.iload_n 3, 1) := by decide +kernel
theorem d_L_law_121 : decode code 121 = .ok (.iconst 1, 1) := by decide +kernel
theorem d_L_law_122 : decode code 122 = .ok (.iadd, 1) := by decide +kernel
theorem d_L_law_123 : decode code 123 = .ok (.iaload, 1) := by decide +kernel
theorem d_L_law_124 : decode code 124 = .ok (.aload_n 0, 1) := by decide +kernel
theorem d_L_law_125 : decode code 125 = .ok (.iload_n 3, 1) := by decide +kernel
theorem d_L_law_126 : decode code 126 = .ok (.iconst 2, 1) := by decide +kernel
theorem d_L_law_127 : decode code 127 = .ok (.iadd, 1) := by decide +kernel
theorem d_L_law_128 : decode code 128 = .ok (.iaload, 1) := by decide +kernel
theorem d_L_law_129 : decode code 129 = .ok (.invokevirtual 17, 3) := by decide +kernel
theorem d_L_law_132 : decode code 132 = .ok (.if_icmp .eq 317, 3) := by decide +kernel
theorem d_L_law_135 : decode code 135 = .ok (.iconst 0, 1) := by decide +kernel
theorem d_L_law_136 : decode code 136 = .ok (.ireturn, 1) := by decide +kernel
theorem d_L_law_137 : decode code 137 = .ok (.aload_n 1, 1) := by decide +kernel
theorem d_L_law_138 : decode code 138 = .ok (.aload_n 0, 1) := by decide +kernel
theorem d_L_law_139 : decode code 139 = .ok (.iload_n 3, 1) := by decide +kernel
theorem d_L_law_140 : decode code 140 = .ok (.iconst 1, 1) := by decide +kernel
theorem d_L_law_141 : decode code 141 = .ok (.iadd, 1) := by decide +kernel
theorem d_L_law_142 : decode code 142 = .ok (.iaload, 1) := by decide +kernel
theorem d_L_law_143 : decode code 143 = .ok (.invokevirtual 18, 3) := by decide +kernel
theorem d_L_law_146 : decode code 146 = .ok (.aload_n 2, 1) := by decide +kernel
theorem d_L_law_147 : decode code 147 = .ok (.aload_n 0, 1) := by decide +kernel
theorem d_L_law_148 : decode code 148 = .ok (.iload_n 3, 1) := by decide +kernel
theorem d_L_law_149 : decode code 149 = .ok (.iconst 1, 1) := by decide +kernel
theorem d_L_law_150 : decode code 150 = .ok (.iadd, 1) := by decide +kernel
theorem d_L_law_151 : decode code 151 = .ok (.iaload, 1) := by decide +kernel
theorem d_L_law_152 : decode code 152 = .ok (.invokevirtual 22, 3) := by decide +kernel
theorem d_L_law_155 : decode code 155 = .ok (.if_icmp .eq 294, 3) := by decide +kernel
theorem d_L_law_158 : decode code 158 = .ok (.iconst 0, 1) := by decide +kernel
theorem d_L_law_159 : decode code 159 = .ok (.ireturn, 1) := by decide +kernel
theorem d_L_law_160 : decode code 160 = .ok (.aload_n 1, 1) := by decide +kernel
theorem d_L_law_161 : decode code 161 = .ok (.aload_n 0, 1) := by decide +kernel
theorem d_L_law_162 : decode code 162 = .ok (.iload_n 3, 1) := by decide +kernel
theorem d_L_law_163 : decode code 163 = .ok (.iconst 1, 1) := by decide +kernel
theorem d_L_law_164 : decode code 164 = .ok (.iadd, 1) := by decide +kernel
theorem d_L_law_165 : decode code 165 = .ok (.iaload, 1) := by decide +kernel
theorem d_L_law_166 : decode code 166 = .ok (.invokevirtual 23, 3) := by decide +kernel
theorem d_L_law_169 : decode code 169 = .ok (.aload_n 2, 1) := by decide +kernel
theorem d_L_law_170 : decode code 170 = .ok (.aload_n 0, 1) := by decide +kernel
theorem d_L_law_171 : decode code 171 = .ok (.iload_n 3, 1) := by decide +kernel
theorem d_L_law_172 : decode code 172 = .ok (.iconst 1, 1) := by decide +kernel
theorem d_L_law_173 : decode code 173 = .ok (.iadd, 1) := by decide +kernel
theorem d_L_law_174 : decode code 174 = .ok (.iaload, 1) := by decide +kernel
theorem d_L_law_175 : decode code 175 = .ok (.invokevirtual 26, 3) := by decide +kernel
theorem d_L_law_178 : decode code 178 = .ok (.if_icmp .eq 271, 3) := by decide +kernel
theorem d_L_law_181 : decode code 181 = .ok (.iconst 0, 1) := by decide +kernel
theorem d_L_law_182 : decode code 182 = .ok (.ireturn, 1) := by decide +kernel
theorem d_L_law_183 : decode code 183 = .ok (.aload_n 1, 1) := by decide +kernel
theorem d_L_law_184 : decode code 184 = .ok (.aload_n 0, 1) := by decide +kernel
theorem d_L_law_185 : decode code 185 = .ok (.iload_n 3, 1) := by decide +kernel
theorem d_L_law_186 : decode code 186 = .ok (.iconst 1, 1) := by decide +kernel
theorem d_L_law_187 : decode code 187 = .ok (.iadd, 1) := by decide +kernel
theorem d_L_law_188 : decode code 188 = .ok (.iaload, 1) := by decide +kernel
theorem d_L_law_189 : decode code 189 = .ok (.invokevirtual 27, 3) := by decide +kernel
theorem d_L_law_192 : decode code 192 = .ok (.aload_n 2, 1) := by decide +kernel
theorem d_L_law_193 : decode code 193 = .ok (.aload_n 0, 1) := by decide +kernel
theorem d_L_law_194 : decode code 194 = .ok (.iload_n 3, 1) := by decide +kernel
theorem d_L_law_195 : decode code 195 = .ok (.iconst 1, 1) := by decide +kernel
theorem d_L_law_196 : decode code 196 = .ok (.iadd, 1) := by decide +kernel
theorem d_L_law_197 : decode code 197 = .ok (.iaload, 1) := by decide +kernel
theorem d_L_law_198 : decode code 198 = .ok (.invokevirtual 30, 3) := by decide +kernel
theorem d_L_law_201 : decode code 201 = .ok (.if_icmp .eq 248, 3) := by decide +kernel
theorem d_L_law_204 : decode code 204 = .ok (.iconst 0, 1) := by decide +kernel
theorem d_L_law_205 : decode code 205 = .ok (.ireturn, 1) := by decide +kernel
theorem d_L_law_206 : decode code 206 = .ok (.aload_n 1, 1) := by decide +kernel
theorem d_L_law_207 : decode code 207 = .ok (.invokevirtual 31, 3) := by decide +kernel
theorem d_L_law_210 : decode code 210 = .ok (.aload_n 2, 1) := by decide +kernel
theorem d_L_law_211 : decode code 211 = .ok (.invokevirtual 35, 3) := by decide +kernel
theorem d_L_law_214 : decode code 214 = .ok (.if_icmp .eq 235, 3) := by decide +kernel
theorem d_L_law_217 : decode code 217 = .ok (.iconst 0, 1) := by decide +kernel
theorem d_L_law_218 : decode code 218 = .ok (.ireturn, 1) := by decide +kernel
theorem d_L_law_219 : decode code 219 = .ok (.aload_n 1, 1) := by decide +kernel
theorem d_L_law_220 : decode code 220 = .ok (.invokevirtual 36, 3) := by decide +kernel
theorem d_L_law_223 : decode code 223 = .ok (.aload_n 2, 1) := by decide +kernel
theorem d_L_law_224 : decode code 224 = .ok (.invokevirtual 39, 3) := by decide +kernel
theorem d_L_law_227 : decode code 227 = .ok (.if_icmp .eq 222, 3) := by decide +kernel
theorem d_L_law_230 : decode code 230 = .ok (.iconst 0, 1) := by decide +kernel
theorem d_L_law_231 : decode code 231 = .ok (.ireturn, 1) := by decide +kernel
theorem d_L_law_232 : decode code 232 = .ok (.aload_n 1, 1) := by decide +kernel
theorem d_L_law_233 : decode code 233 = .ok (.aload_n 0, 1) := by decide +kernel
theorem d_L_law_234 : decode code 234 = .ok (.iload_n 3, 1) := by decide +kernel
theorem d_L_law_235 : decode code 235 = .ok (.iconst 1, 1) := by decide +kernel
theorem d_L_law_236 : decode code 236 = .ok (.iadd, 1) := by decide +kernel
theorem d_L_law_237 : decode code 237 = .ok (.iaload, 1) := by decide +kernel
theorem d_L_law_238 : decode code 238 = .ok (.invokevirtual 40, 3) := by decide +kernel
theorem d_L_law_241 : decode code 241 = .ok (.aload_n 2, 1) := by decide +kernel
theorem d_L_law_242 : decode code 242 = .ok (.aload_n 0, 1) := by decide +kernel
theorem d_L_law_243 : decode code 243 = .ok (.iload_n 3, 1) := by decide +kernel
theorem d_L_law_244 : decode code 244 = .ok (.iconst 1, 1) := by decide +kernel
theorem d_L_law_245 : decode code 245 = .ok (.iadd, 1) := by decide +kernel
theorem d_L_law_246 : decode code 246 = .ok (.iaload, 1) := by decide +kernel
theorem d_L_law_247 : decode code 247 = .ok (.invokevirtual 43, 3) := by decide +kernel
theorem d_L_law_250 : decode code 250 = .ok (.if_icmp .eq 199, 3) := by decide +kernel
theorem d_L_law_253 : decode code 253 = .ok (.iconst 0, 1) := by decide +kernel
theorem d_L_law_254 : decode code 254 = .ok (.ireturn, 1) := by decide +kernel
theorem d_L_law_255 : decode code 255 = .ok (.aload_n 1, 1) := by decide +kernel
theorem d_L_law_256 : decode code 256 = .ok (.invokevirtual 44, 3) := by decide +kernel
theorem d_L_law_259 : decode code 259 = .ok (.aload_n 2, 1) := by decide +kernel
theorem d_L_law_260 : decode code 260 = .ok (.invokevirtual 47, 3) := by decide +kernel
theorem d_L_law_263 : decode code 263 = .ok (.if_icmp .eq 186, 3) := by decide +kernel
theorem d_L_law_266 : decode code 266 = .ok (.iconst 0, 1) := by decide +kernel
theorem d_L_law_267 : decode code 267 = .ok (.ireturn, 1) := by decide +kernel
theorem d_L_law_268 : decode code 268 = .ok (.aload_n 1, 1) := by decide +kernel
theorem d_L_law_269 : decode code 269 = .ok (.aload_n 0, 1) := by decide +kernel
theorem d_L_law_270 : decode code 270 = .ok (.iload_n 3, 1) := by decide +kernel
theorem d_L_law_271 : decode code 271 = .ok (.iconst 1, 1) := by decide +kernel
theorem d_L_law_272 : decode code 272 = .ok (.iadd, 1) := by decide +kernel
theorem d_L_law_273 : decode code 273 = .ok (.iaload, 1) := by decide +kernel
theorem d_L_law_274 : decode code 274 = .ok (.aload_n 0, 1) := by decide +kernel
theorem d_L_law_275 : decode code 275 = .ok (.iload_n 3, 1) := by decide +kernel
theorem d_L_law_276 : decode code 276 = .ok (.iconst 2, 1) := by decide +kernel
theorem d_L_law_277 : decode code 277 = .ok (.iadd, 1) := by decide +kernel
theorem d_L_law_278 : decode code 278 = .ok (.iaload, 1) := by decide +kernel
theorem d_L_law_279 : decode code 279 = .ok (.invokevirtual 48, 3) := by decide +kernel
theorem d_L_law_282 : decode code 282 = .ok (.aload_n 2, 1) := by decide +kernel
theorem d_L_law_283 : decode code 283 = .ok (.aload_n 0, 1) := by decide +kernel
theorem d_L_law_284 : decode code 284 = .ok (.iload_n 3, 1) := by decide +kernel
theorem d_L_law_285 : decode code 285 = .ok (.iconst 1, 1) := by decide +kernel
theorem d_L_law_286 : decode code 286 = .ok (.iadd, 1) := by decide +kernel
theorem d_L_law_287 : decode code 287 = .ok (.iaload, 1) := by decide +kernel
theorem d_L_law_288 : decode code 288 = .ok (.aload_n 0, 1) := by decide +kernel
theorem d_L_law_289 : decode code 289 = .ok (.iload_n 3, 1) := by decide +kernel
theorem d_L_law_290 : decode code 290 = .ok (.iconst 2, 1) := by decide +kernel
theorem d_L_law_291 : decode code 291 = .ok (.iadd, 1) := by decide +kernel
theorem d_L_law_292 : decode code 292 = .ok (.iaload, 1) := by decide +kernel
theorem d_L_law_293 : decode code 293 = .ok (.invokevirtual 51, 3) := by decide +kernel
theorem d_L_law_296 : decode code 296 = .ok (.if_icmp .eq 153, 3) := by decide +kernel
theorem d_L_law_299 : decode code 299 = .ok (.iconst 0, 1) := by decide +kernel
theorem d_L_law_300 : decode code 300 = .ok (.ireturn, 1) := by decide +kernel
theorem d_L_law_301 : decode code 301 = .ok (.aload_n 1, 1) := by decide +kernel
theorem d_L_law_302 : decode code 302 = .ok (.aload_n 0, 1) := by decide +kernel
theorem d_L_law_303 : decode code 303 = .ok (.iload_n 3, 1) := by decide +kernel
theorem d_L_law_304 : decode code 304 = .ok (.iconst 1, 1) := by decide +kernel
theorem d_L_law_305 : decode code 305 = .ok (.iadd, 1) := by decide +kernel
theorem d_L_law_306 : decode code 306 = .ok (.iaload, 1) := by decide +kernel
theorem d_L_law_307 : decode code 307 = .ok (.invokevirtual 52, 3) := by decide +kernel
theorem d_L_law_310 : decode code 310 = .ok (.aload_n 2, 1) := by decide +kernel
theorem d_L_law_311 : decode code 311 = .ok (.aload_n 0, 1) := by decide +kernel
theorem d_L_law_312 : decode code 312 = .ok (.iload_n 3, 1) := by decide +kernel
theorem d_L_law_313 : decode code 313 = .ok (.iconst 1, 1) := by decide +kernel
theorem d_L_law_314 : decode code 314 = .ok (.iadd, 1) := by decide +kernel
theorem d_L_law_315 : decode code 315 = .ok (.iaload, 1) := by decide +kernel
theorem d_L_law_316 : decode code 316 = .ok (.invokevirtual 56, 3) := by decide +kernel
theorem d_L_law_319 : decode code 319 = .ok (.lcmp, 1) := by decide +kernel
theorem d_L_law_320 : decode code 320 = .ok (.ifCond .eq 129, 3) := by decide +kernel
theorem d_L_law_323 : decode code 323 = .ok (.iconst 0, 1) := by decide +kernel
theorem d_L_law_324 : decode code 324 = .ok (.ireturn, 1) := by decide +kernel
theorem d_L_law_325 : decode code 325 = .ok (.aload_n 1, 1) := by decide +kernel
theorem d_L_law_326 : decode code 326 = .ok (.aload_n 0, 1) := by decide +kernel
theorem d_L_law_327 : decode code 327 = .ok (.iload_n 3, 1) := by decide +kernel
theorem d_L_law_328 : decode code 328 = .ok (.iconst 1, 1) := by decide +kernel
theorem d_L_law_329 : decode code 329 = .ok (.iadd, 1) := by decide +kernel
theorem d_L_law_330 : decode code 330 = .ok (.iaload, 1) := by decide +kernel
theorem d_L_law_331 : decode code 331 = .ok (.invokevirtual 57, 3) := by decide +kernel
theorem d_L_law_334 : decode code 334 = .ok (.aload_n 2, 1) := by decide +kernel
theorem d_L_law_335 : decode code 335 = .ok (.aload_n 0, 1) := by decide +kernel
theorem d_L_law_336 : decode code 336 = .ok (.iload_n 3, 1) := by decide +kernel
theorem d_L_law_337 : decode code 337 = .ok (.iconst 1, 1) := by decide +kernel
theorem d_L_law_338 : decode code 338 = .ok (.iadd, 1) := by decide +kernel
theorem d_L_law_339 : decode code 339 = .ok (.iaload, 1) := by decide +kernel
theorem d_L_law_340 : decode code 340 = .ok (.invokevirtual 60, 3) := by decide +kernel
theorem d_L_law_343 : decode code 343 = .ok (.lcmp, 1) := by decide +kernel
theorem d_L_law_344 : decode code 344 = .ok (.ifCond .eq 105, 3) := by decide +kernel
theorem d_L_law_347 : decode code 347 = .ok (.iconst 0, 1) := by decide +kernel
theorem d_L_law_348 : decode code 348 = .ok (.ireturn, 1) := by decide +kernel
theorem d_L_law_349 : decode code 349 = .ok (.aload_n 1, 1) := by decide +kernel
theorem d_L_law_350 : decode code 350 = .ok (.aload_n 0, 1) := by decide +kernel
theorem d_L_law_351 : decode code 351 = .ok (.iload_n 3, 1) := by decide +kernel
theorem d_L_law_352 : decode code 352 = .ok (.iconst 1, 1) := by decide +kernel
theorem d_L_law_353 : decode code 353 = .ok (.iadd, 1) := by decide +kernel
theorem d_L_law_354 : decode code 354 = .ok (.iaload, 1) := by decide +kernel
theorem d_L_law_355 : decode code 355 = .ok (.invokevirtual 61, 3) := by decide +kernel
theorem d_L_law_358 : decode code 358 = .ok (.aload_n 2, 1) := by decide +kernel
theorem d_L_law_359 : decode code 359 = .ok (.aload_n 0, 1) := by decide +kernel
theorem d_L_law_360 : decode code 360 = .ok (.iload_n 3, 1) := by decide +kernel
theorem d_L_law_361 : decode code 361 = .ok (.iconst 1, 1) := by decide +kernel
theorem d_L_law_362 : decode code 362 = .ok (.iadd, 1) := by decide +kernel
theorem d_L_law_363 : decode code 363 = .ok (.iaload, 1) := by decide +kernel
theorem d_L_law_364 : decode code 364 = .ok (.invokevirtual 64, 3) := by decide +kernel
theorem d_L_law_367 : decode code 367 = .ok (.if_icmp .eq 82, 3) := by decide +kernel
theorem d_L_law_370 : decode code 370 = .ok (.iconst 0, 1) := by decide +kernel
theorem d_L_law_371 : decode code 371 = .ok (.ireturn, 1) := by decide +kernel
theorem d_L_law_372 : decode code 372 = .ok (.aload_n 1, 1) := by decide +kernel
theorem d_L_law_373 : decode code 373 = .ok (.aload_n 0, 1) := by decide +kernel
theorem d_L_law_374 : decode code 374 = .ok (.iload_n 3, 1) := by decide +kernel
theorem d_L_law_375 : decode code 375 = .ok (.iconst 1, 1) := by decide +kernel
theorem d_L_law_376 : decode code 376 = .ok (.iadd, 1) := by decide +kernel
theorem d_L_law_377 : decode code 377 = .ok (.iaload, 1) := by decide +kernel
theorem d_L_law_378 : decode code 378 = .ok (.aload_n 0, 1) := by decide +kernel
theorem d_L_law_379 : decode code 379 = .ok (.iload_n 3, 1) := by decide +kernel
theorem d_L_law_380 : decode code 380 = .ok (.iconst 2, 1) := by decide +kernel
theorem d_L_law_381 : decode code 381 = .ok (.iadd, 1) := by decide +kernel
theorem d_L_law_382 : decode code 382 = .ok (.iaload, 1) := by decide +kernel
theorem d_L_law_383 : decode code 383 = .ok (.aload_n 0, 1) := by decide +kernel
theorem d_L_law_384 : decode code 384 = .ok (.iload_n 3, 1) := by decide +kernel
theorem d_L_law_385 : decode code 385 = .ok (.iconst 3, 1) := by decide +kernel
theorem d_L_law_386 : decode code 386 = .ok (.iadd, 1) := by decide +kernel
theorem d_L_law_387 : decode code 387 = .ok (.iaload, 1) := by decide +kernel
theorem d_L_law_388 : decode code 388 = .ok (.invokevirtual 65, 3) := by decide +kernel
theorem d_L_law_391 : decode code 391 = .ok (.aload_n 2, 1) := by decide +kernel
theorem d_L_law_392 : decode code 392 = .ok (.aload_n 0, 1) := by decide +kernel
theorem d_L_law_393 : decode code 393 = .ok (.iload_n 3, 1) := by decide +kernel
theorem d_L_law_394 : decode code 394 = .ok (.iconst 1, 1) := by decide +kernel
theorem d_L_law_395 : decode code 395 = .ok (.iadd, 1) := by decide +kernel
theorem d_L_law_396 : decode code 396 = .ok (.iaload, 1) := by decide +kernel
theorem d_L_law_397 : decode code 397 = .ok (.aload_n 0, 1) := by decide +kernel
theorem d_L_law_398 : decode code 398 = .ok (.iload_n 3, 1) := by decide +kernel
theorem d_L_law_399 : decode code 399 = .ok (.iconst 2, 1) := by decide +kernel
theorem d_L_law_400 : decode code 400 = .ok (.iadd, 1) := by decide +kernel
theorem d_L_law_401 : decode code 401 = .ok (.iaload, 1) := by decide +kernel
theorem d_L_law_402 : decode code 402 = .ok (.aload_n 0, 1) := by decide +kernel
theorem d_L_law_403 : decode code 403 = .ok (.iload_n 3, 1) := by decide +kernel
theorem d_L_law_404 : decode code 404 = .ok (.iconst 3, 1) := by decide +kernel
theorem d_L_law_405 : decode code 405 = .ok (.iadd, 1) := by decide +kernel
theorem d_L_law_406 : decode code 406 = .ok (.iaload, 1) := by decide +kernel
theorem d_L_law_407 : decode code 407 = .ok (.invokevirtual 69, 3) := by decide +kernel
theorem d_L_law_410 : decode code 410 = .ok (.lcmp, 1) := by decide +kernel
theorem d_L_law_411 : decode code 411 = .ok (.ifCond .eq 38, 3) := by decide +kernel
theorem d_L_law_414 : decode code 414 = .ok (.iconst 0, 1) := by decide +kernel
theorem d_L_law_415 : decode code 415 = .ok (.ireturn, 1) := by decide +kernel
theorem d_L_law_416 : decode code 416 = .ok (.aload_n 1, 1) := by decide +kernel
theorem d_L_law_417 : decode code 417 = .ok (.aload_n 0, 1) := by decide +kernel
theorem d_L_law_418 : decode code 418 = .ok (.iload_n 3, 1) := by decide +kernel
theorem d_L_law_419 : decode code 419 = .ok (.iconst 1, 1) := by decide +kernel
theorem d_L_law_420 : decode code 420 = .ok (.iadd, 1) := by decide +kernel
theorem d_L_law_421 : decode code 421 = .ok (.iaload, 1) := by decide +kernel
theorem d_L_law_422 : decode code 422 = .ok (.aload_n 0, 1) := by decide +kernel
theorem d_L_law_423 : decode code 423 = .ok (.iload_n 3, 1) := by decide +kernel
theorem d_L_law_424 : decode code 424 = .ok (.iconst 2, 1) := by decide +kernel
theorem d_L_law_425 : decode code 425 = .ok (.iadd, 1) := by decide +kernel
theorem d_L_law_426 : decode code 426 = .ok (.iaload, 1) := by decide +kernel
theorem d_L_law_427 : decode code 427 = .ok (.invokevirtual 70, 3) := by decide +kernel
theorem d_L_law_430 : decode code 430 = .ok (.aload_n 2, 1) := by decide +kernel
theorem d_L_law_431 : decode code 431 = .ok (.aload_n 0, 1) := by decide +kernel
theorem d_L_law_432 : decode code 432 = .ok (.iload_n 3, 1) := by decide +kernel
theorem d_L_law_433 : decode code 433 = .ok (.iconst 1, 1) := by decide +kernel
theorem d_L_law_434 : decode code 434 = .ok (.iadd, 1) := by decide +kernel
theorem d_L_law_435 : decode code 435 = .ok (.iaload, 1) := by decide +kernel
theorem d_L_law_436 : decode code 436 = .ok (.aload_n 0, 1) := by decide +kernel
theorem d_L_law_437 : decode code 437 = .ok (.iload_n 3, 1) := by decide +kernel
theorem d_L_law_438 : decode code 438 = .ok (.iconst 2, 1) := by decide +kernel
theorem d_L_law_439 : decode code 439 = .ok (.iadd, 1) := by decide +kernel
theorem d_L_law_440 : decode code 440 = .ok (.iaload, 1) := by decide +kernel
theorem d_L_law_441 : decode code 441 = .ok (.invokevirtual 73, 3) := by decide +kernel
theorem d_L_law_444 : decode code 444 = .ok (.if_icmp .eq 5, 3) := by decide +kernel
theorem d_L_law_447 : decode code 447 = .ok (.iconst 0, 1) := by decide +kernel
theorem d_L_law_448 : decode code 448 = .ok (.ireturn, 1) := by decide +kernel
theorem d_L_law_449 : decode code 449 = .ok (.iinc 3 4, 3) := by decide +kernel
theorem d_L_law_452 : decode code 452 = .ok (.goto (-434), 3) := by decide +kernel
theorem d_L_law_455 : decode code 455 = .ok (.iconst 1, 1) := by decide +kernel
theorem d_L_law_456 : decode code 456 = .ok (.ireturn, 1) := by decide +kernel
theorem lk0 : (Cond.initialized "GateStackLaw" : Cond) ∈ lw_tbl := (List.mem_append_right _ (List.mem_append_left _ (List.mem_of_getElem? (i := 0) (l := tables_1_1) rfl)))
theorem lk1 : (Cond.initialized R_GS : Cond) ∈ lw_tbl := (List.mem_append_right _ (List.mem_append_left _ (List.mem_of_getElem? (i := 1) (l := tables_1_1) rfl)))
theorem lk2 : (Cond.initialized R_MT : Cond) ∈ lw_tbl := (List.mem_append_right _ (List.mem_append_left _ (List.mem_of_getElem? (i := 2) (l := tables_1_1) rfl)))
theorem lk3 : (Cond.initialized R_RD : Cond) ∈ lw_tbl := (List.mem_append_right _ (List.mem_append_left _ (List.mem_of_getElem? (i := 3) (l := tables_1_1) rfl)))
theorem lk4 : (Cond.initialized R_PR : Cond) ∈ lw_tbl := (List.mem_append_right _ (List.mem_append_left _ (List.mem_of_getElem? (i := 4) (l := tables_1_1) rfl)))
theorem lk5 : (Cond.initialized R_CA : Cond) ∈ lw_tbl := (List.mem_append_right _ (List.mem_append_left _ (List.mem_of_getElem? (i := 5) (l := tables_1_1) rfl)))
theorem lk6 : (Cond.initialized R_MA : Cond) ∈ lw_tbl := (List.mem_append_right _ (List.mem_append_left _ (List.mem_of_getElem? (i := 6) (l := tables_1_1) rfl)))
theorem lk7 : (Cond.initialized R_GM : Cond) ∈ lw_tbl := (List.mem_append_right _ (List.mem_append_left _ (List.mem_of_getElem? (i := 7) (l := tables_1_1) rfl)))
theorem lk8 : (Cond.initialized R_JI : Cond) ∈ lw_tbl := (List.mem_append_right _ (List.mem_append_left _ (List.mem_of_getElem? (i := 8) (l := tables_1_1) rfl)))
theorem lk9 : (Cond.classLink "GateStackLaw" 7 "GateStack" : Cond) ∈ lw_tbl := (List.mem_append_right _ (List.mem_append_left _ (List.mem_of_getElem? (i := 9) (l := tables_1_1) rfl)))
theorem lk10 : (Cond.instantiable R_GS 6 : Cond) ∈ lw_tbl := (List.mem_append_right _ (List.mem_append_left _ (List.mem_of_getElem? (i := 10) (l := tables_1_1) rfl)))
theorem lk11 : (Cond.methodLink "GateStackLaw" 9 y_GS_init : Cond) ∈ lw_tbl := (List.mem_append_right _ (List.mem_append_left _ (List.mem_of_getElem? (i := 11) (l := tables_1_1) rfl)))
theorem lk12 : (Cond.instanceMethod y_GS_init : Cond) ∈ lw_tbl := (List.mem_append_right _ (List.mem_append_left _ (List.mem_of_getElem? (i := 12) (l := tables_1_1) rfl)))
theorem lk13 : (Cond.code y_GS_init prog_1_method_1_code 2 none : Cond) ∈ lw_tbl := (List.mem_append_right _ (List.mem_append_left _ (List.mem_of_getElem? (i := 13) (l := tables_1_1) rfl)))
theorem lk14 : (Cond.methodLink R_GS 1 objectInit : Cond) ∈ lw_tbl := (List.mem_append_right _ (List.mem_append_left _ (List.mem_of_getElem? (i := 14) (l := tables_1_1) rfl)))
theorem lk15 : (Cond.instanceMethod objectInit : Cond) ∈ lw_tbl := (List.mem_append_right _ (List.mem_append_left _ (List.mem_of_getElem? (i := 15) (l := tables_1_1) rfl)))
theorem lk16 : (Cond.code objectInit object_method_1_code 1 none : Cond) ∈ lw_tbl := (List.mem_append_right _ (List.mem_append_left _ (List.mem_of_getElem? (i := 16) (l := tables_1_1) rfl)))
theorem lk17 : (Cond.classLink R_GS 9 "GateStack$ModuleText" : Cond) ∈ lw_tbl := (List.mem_append_right _ (List.mem_append_left _ (List.mem_of_getElem? (i := 17) (l := tables_1_1) rfl)))
theorem lk18 : (Cond.instantiable R_MT 10 : Cond) ∈ lw_tbl := (List.mem_append_right _ (List.mem_append_left _ (List.mem_of_getElem? (i := 19) (l := tables_1_1) rfl)))
theorem lk19 : (Cond.instanceMethod y_MT_init : Cond) ∈ lw_tbl := (List.mem_append_right _ (List.mem_append_left _ (List.mem_of_getElem? (i := 21) (l := tables_1_1) rfl)))
theorem lk20 : (Cond.code y_MT_init prog_4_method_1_code 1 none : Cond) ∈ lw_tbl := (List.mem_append_right _ (List.mem_append_left _ (List.mem_of_getElem? (i := 22) (l := tables_1_1) rfl)))
theorem lk21 : (Cond.methodLink R_MT 3 objectInit : Cond) ∈ lw_tbl := (List.mem_append_right _ (List.mem_append_left _ (List.mem_of_getElem? (i := 23) (l := tables_1_1) rfl)))
theorem lk22 : (Cond.fieldLink R_MT 9 "GateStack$ModuleText" "signs" "[I" : Cond) ∈ lw_tbl := (List.mem_append_right _ (List.mem_append_left _ (List.mem_of_getElem? (i := 24) (l := tables_1_1) rfl)))
theorem lk23 : (Cond.fieldLink R_MT 15 "GateStack$ModuleText" "numbers" "[I" : Cond) ∈ lw_tbl := (List.mem_append_right _ (List.mem_append_left _ (List.mem_of_getElem? (i := 25) (l := tables_1_1) rfl)))
theorem lk24 : (Cond.fieldLink R_MT 18 "GateStack$ModuleText" "heads" "[I" : Cond) ∈ lw_tbl := (List.mem_append_right _ (List.mem_append_left _ (List.mem_of_getElem? (i := 26) (l := tables_1_1) rfl)))
theorem lk25 : (Cond.fieldLink R_MT 21 "GateStack$ModuleText" "ends" "[I" : Cond) ∈ lw_tbl := (List.mem_append_right _ (List.mem_append_left _ (List.mem_of_getElem? (i := 27) (l := tables_1_1) rfl)))
theorem lk26 : (Cond.fieldLink R_MT 24 "GateStack$ModuleText" "begins" "[I" : Cond) ∈ lw_tbl := (List.mem_append_right _ (List.mem_append_left _ (List.mem_of_getElem? (i := 28) (l := tables_1_1) rfl)))
theorem lk27 : (Cond.fieldLink R_MT 27 "GateStack$ModuleText" "calls" "[I" : Cond) ∈ lw_tbl := (List.mem_append_right _ (List.mem_append_left _ (List.mem_of_getElem? (i := 29) (l := tables_1_1) rfl)))
theorem lk28 : (Cond.fieldLink R_MT 34 "GateStack$ModuleText" "length" "I" : Cond) ∈ lw_tbl := (List.mem_append_right _ (List.mem_append_left _ (List.mem_of_getElem? (i := 30) (l := tables_1_1) rfl)))
theorem lk29 : (Cond.fieldLink R_MT 41 "GateStack$ModuleText" "defined" "I" : Cond) ∈ lw_tbl := (List.mem_append_right _ (List.mem_append_left _ (List.mem_of_getElem? (i := 31) (l := tables_1_1) rfl)))
theorem lk30 : (Cond.fieldLink R_MT 44 "GateStack$ModuleText" "twins" "Z" : Cond) ∈ lw_tbl := (List.mem_append_right _ (List.mem_append_left _ (List.mem_of_getElem? (i := 32) (l := tables_1_1) rfl)))
theorem lk31 : (Cond.fieldLink R_MT 30 "GateStack$ModuleText" "compiled" "Z" : Cond) ∈ lw_tbl := (List.mem_append_right _ (List.mem_append_left _ (List.mem_of_getElem? (i := 33) (l := tables_1_1) rfl)))
theorem lk32 : (Cond.laysFinal R_MT "GateStack$ModuleText" "signs" "[I" : Cond) ∈ lw_tbl := (List.mem_append_right _ (List.mem_append_left _ (List.mem_of_getElem? (i := 34) (l := tables_1_1) rfl)))
theorem lk33 : (Cond.laysFinal R_MT "GateStack$ModuleText" "numbers" "[I" : Cond) ∈ lw_tbl := (List.mem_append_right _ (List.mem_append_left _ (List.mem_of_getElem? (i := 36) (l := tables_1_1) rfl)))
theorem lk34 : (Cond.laysFinal R_MT "GateStack$ModuleText" "heads" "[I" : Cond) ∈ lw_tbl := (List.mem_append_right _ (List.mem_append_left _ (List.mem_of_getElem? (i := 38) (l := tables_1_1) rfl)))
theorem lk35 : (Cond.laysFinal R_MT "GateStack$ModuleText" "ends" "[I" : Cond) ∈ lw_tbl := (List.mem_append_right _ (List.mem_append_left _ (List.mem_of_getElem? (i := 40) (l := tables_1_1) rfl)))
theorem lk36 : (Cond.laysFinal R_MT "GateStack$ModuleText" "begins" "[I" : Cond) ∈ lw_tbl := (List.mem_append_right _ (List.mem_append_left _ (List.mem_of_getElem? (i := 42) (l := tables_1_1) rfl)))
theorem lk37 : (Cond.laysFinal R_MT "GateStack$ModuleText" "calls" "[I" : Cond) ∈ lw_tbl := (List.mem_append_right _ (List.mem_append_left _ (List.mem_of_getElem? (i := 44) (l := tables_1_1) rfl)))
theorem lk38 : (Cond.lays R_MT "GateStack$ModuleText" "length" "I" : Cond) ∈ lw_tbl := (List.mem_append_right _ (List.mem_append_left _ (List.mem_of_getElem? (i := 46) (l := tables_1_1) rfl)))
theorem lk39 : (Cond.lays R_MT "GateStack$ModuleText" "defined" "I" : Cond) ∈ lw_tbl := (List.mem_append_right _ (List.mem_append_left _ (List.mem_of_getElem? (i := 48) (l := tables_1_1) rfl)))
theorem lk40 : (Cond.lays R_MT "GateStack$ModuleText" "twins" "Z" : Cond) ∈ lw_tbl := (List.mem_append_right _ (List.mem_append_left _ (List.mem_of_getElem? (i := 50) (l := tables_1_1) rfl)))
theorem lk41 : (Cond.lays R_MT "GateStack$ModuleText" "compiled" "Z" : Cond) ∈ lw_tbl := (List.mem_append_right _ (List.mem_append_left _ (List.mem_of_getElem? (i := 52) (l := tables_1_1) rfl)))
theorem lk42 : (Cond.arrayClass .int : Cond) ∈ lw_tbl := (List.mem_append_right _ (List.mem_append_left _ (List.mem_of_getElem? (i := 55) (l := tables_1_1) rfl)))
theorem lk43 : (Cond.classLink R_GS 16 "GateStack$Reader" : Cond) ∈ lw_tbl := (List.mem_append_right _ (List.mem_append_left _ (List.mem_of_getElem? (i := 56) (l := tables_1_1) rfl)))
theorem lk44 : (Cond.instantiable R_RD 8 : Cond) ∈ lw_tbl := (List.mem_append_right _ (List.mem_append_left _ (List.mem_of_getElem? (i := 57) (l := tables_1_1) rfl)))
theorem lk45 : (Cond.instanceMethod y_RD_init : Cond) ∈ lw_tbl := (List.mem_append_right _ (List.mem_append_left _ (List.mem_of_getElem? (i := 59) (l := tables_1_1) rfl)))
theorem lk46 : (Cond.code y_RD_init prog_6_method_1_code 1 none : Cond) ∈ lw_tbl := (List.mem_append_right _ (List.mem_append_left _ (List.mem_of_getElem? (i := 60) (l := tables_1_1) rfl)))
theorem lk47 : (Cond.methodLink R_RD 3 objectInit : Cond) ∈ lw_tbl := (List.mem_append_right _ (List.mem_append_left _ (List.mem_of_getElem? (i := 61) (l := tables_1_1) rfl)))
theorem lk48 : (Cond.fieldLink R_RD 9 "GateStack$Reader" "open" "[I" : Cond) ∈ lw_tbl := (List.mem_append_right _ (List.mem_append_left _ (List.mem_of_getElem? (i := 62) (l := tables_1_1) rfl)))
theorem lk49 : (Cond.fieldLink R_RD 20 "GateStack$Reader" "depth" "I" : Cond) ∈ lw_tbl := (List.mem_append_right _ (List.mem_append_left _ (List.mem_of_getElem? (i := 63) (l := tables_1_1) rfl)))
theorem lk50 : (Cond.fieldLink R_RD 24 "GateStack$Reader" "expected" "I" : Cond) ∈ lw_tbl := (List.mem_append_right _ (List.mem_append_left _ (List.mem_of_getElem? (i := 64) (l := tables_1_1) rfl)))
theorem lk51 : (Cond.fieldLink R_RD 42 "GateStack$Reader" "head" "I" : Cond) ∈ lw_tbl := (List.mem_append_right _ (List.mem_append_left _ (List.mem_of_getElem? (i := 65) (l := tables_1_1) rfl)))
theorem lk52 : (Cond.fieldLink R_RD 97 "GateStack$Reader" "expressionEnd" "I" : Cond) ∈ lw_tbl := (List.mem_append_right _ (List.mem_append_left _ (List.mem_of_getElem? (i := 66) (l := tables_1_1) rfl)))
theorem lk53 : (Cond.fieldLink R_RD 112 "GateStack$Reader" "digits" "I" : Cond) ∈ lw_tbl := (List.mem_append_right _ (List.mem_append_left _ (List.mem_of_getElem? (i := 67) (l := tables_1_1) rfl)))
theorem lk54 : (Cond.fieldLink R_RD 75 "GateStack$Reader" "procedure" "I" : Cond) ∈ lw_tbl := (List.mem_append_right _ (List.mem_append_left _ (List.mem_of_getElem? (i := 68) (l := tables_1_1) rfl)))
theorem lk55 : (Cond.fieldLink R_RD 78 "GateStack$Reader" "statements" "I" : Cond) ∈ lw_tbl := (List.mem_append_right _ (List.mem_append_left _ (List.mem_of_getElem? (i := 69) (l := tables_1_1) rfl)))
theorem lk56 : (Cond.laysFinal R_RD "GateStack$Reader" "open" "[I" : Cond) ∈ lw_tbl := (List.mem_append_right _ (List.mem_append_left _ (List.mem_of_getElem? (i := 70) (l := tables_1_1) rfl)))
theorem lk57 : (Cond.lays R_RD "GateStack$Reader" "depth" "I" : Cond) ∈ lw_tbl := (List.mem_append_right _ (List.mem_append_left _ (List.mem_of_getElem? (i := 72) (l := tables_1_1) rfl)))
theorem lk58 : (Cond.lays R_RD "GateStack$Reader" "expected" "I" : Cond) ∈ lw_tbl := (List.mem_append_right _ (List.mem_append_left _ (List.mem_of_getElem? (i := 74) (l := tables_1_1) rfl)))
theorem lk59 : (Cond.lays R_RD "GateStack$Reader" "head" "I" : Cond) ∈ lw_tbl := (List.mem_append_right _ (List.mem_append_left _ (List.mem_of_getElem? (i := 76) (l := tables_1_1) rfl)))
theorem lk60 : (Cond.lays R_RD "GateStack$Reader" "expressionEnd" "I" : Cond) ∈ lw_tbl := (List.mem_append_right _ (List.mem_append_left _ (List.mem_of_getElem? (i := 78) (l := tables_1_1) rfl)))
theorem lk61 : (Cond.lays R_RD "GateStack$Reader" "digits" "I" : Cond) ∈ lw_tbl := (List.mem_append_right _ (List.mem_append_left _ (List.mem_of_getElem? (i := 80) (l := tables_1_1) rfl)))
theorem lk62 : (Cond.lays R_RD "GateStack$Reader" "procedure" "I" : Cond) ∈ lw_tbl := (List.mem_append_right _ (List.mem_append_left _ (List.mem_of_getElem? (i := 82) (l := tables_1_1) rfl)))
theorem lk63 : (Cond.lays R_RD "GateStack$Reader" "statements" "I" : Cond) ∈ lw_tbl := (List.mem_append_right _ (List.mem_append_left _ (List.mem_of_getElem? (i := 84) (l := tables_1_1) rfl)))
theorem lk64 : (Cond.classLink R_GS 23 "GateStack$Program" : Cond) ∈ lw_tbl := (List.mem_append_right _ (List.mem_append_left _ (List.mem_of_getElem? (i := 87) (l := tables_1_1) rfl)))
theorem lk65 : (Cond.instantiable R_PR 3 : Cond) ∈ lw_tbl := (List.mem_append_right _ (List.mem_append_left _ (List.mem_of_getElem? (i := 88) (l := tables_1_1) rfl)))
theorem lk66 : (Cond.instanceMethod y_PR_init : Cond) ∈ lw_tbl := (List.mem_append_right _ (List.mem_append_left _ (List.mem_of_getElem? (i := 90) (l := tables_1_1) rfl)))
theorem lk67 : (Cond.code y_PR_init prog_5_method_1_code 1 none : Cond) ∈ lw_tbl := (List.mem_append_right _ (List.mem_append_left _ (List.mem_of_getElem? (i := 91) (l := tables_1_1) rfl)))
theorem lk68 : (Cond.methodLink R_PR 3 objectInit : Cond) ∈ lw_tbl := (List.mem_append_right _ (List.mem_append_left _ (List.mem_of_getElem? (i := 92) (l := tables_1_1) rfl)))
theorem lk69 : (Cond.classLink R_PR 9 "GateStack$ModuleText" : Cond) ∈ lw_tbl := (List.mem_append_right _ (List.mem_append_left _ (List.mem_of_getElem? (i := 93) (l := tables_1_1) rfl)))
theorem lk70 : (Cond.fieldLink R_PR 11 "GateStack$Program" "homes" "[LGateStack$ModuleText;" : Cond) ∈ lw_tbl := (List.mem_append_right _ (List.mem_append_left _ (List.mem_of_getElem? (i := 94) (l := tables_1_1) rfl)))
theorem lk71 : (Cond.fieldLink R_PR 17 "GateStack$Program" "reached" "[I" : Cond) ∈ lw_tbl := (List.mem_append_right _ (List.mem_append_left _ (List.mem_of_getElem? (i := 95) (l := tables_1_1) rfl)))
theorem lk72 : (Cond.fieldLink R_PR 24 "GateStack$Program" "defined" "I" : Cond) ∈ lw_tbl := (List.mem_append_right _ (List.mem_append_left _ (List.mem_of_getElem? (i := 96) (l := tables_1_1) rfl)))
theorem lk73 : (Cond.laysFinal R_PR "GateStack$Program" "homes" "[LGateStack$ModuleText;" : Cond) ∈ lw_tbl := (List.mem_append_right _ (List.mem_append_left _ (List.mem_of_getElem? (i := 97) (l := tables_1_1) rfl)))
theorem lk74 : (Cond.laysFinal R_PR "GateStack$Program" "reached" "[I" : Cond) ∈ lw_tbl := (List.mem_append_right _ (List.mem_append_left _ (List.mem_of_getElem? (i := 99) (l := tables_1_1) rfl)))
theorem lk75 : (Cond.lays R_PR "GateStack$Program" "defined" "I" : Cond) ∈ lw_tbl := (List.mem_append_right _ (List.mem_append_left _ (List.mem_of_getElem? (i := 101) (l := tables_1_1) rfl)))
theorem lk76 : (Cond.classLink R_GS 30 "GateStack$Calculator" : Cond) ∈ lw_tbl := (List.mem_append_right _ (List.mem_append_left _ (List.mem_of_getElem? (i := 104) (l := tables_1_1) rfl)))
theorem lk77 : (Cond.instantiable R_CA 2 : Cond) ∈ lw_tbl := (List.mem_append_right _ (List.mem_append_left _ (List.mem_of_getElem? (i := 105) (l := tables_1_1) rfl)))
theorem lk78 : (Cond.instanceMethod y_CA_init : Cond) ∈ lw_tbl := (List.mem_append_right _ (List.mem_append_left _ (List.mem_of_getElem? (i := 107) (l := tables_1_1) rfl)))
theorem lk79 : (Cond.code y_CA_init prog_2_method_1_code 1 none : Cond) ∈ lw_tbl := (List.mem_append_right _ (List.mem_append_left _ (List.mem_of_getElem? (i := 108) (l := tables_1_1) rfl)))
theorem lk80 : (Cond.methodLink R_CA 3 objectInit : Cond) ∈ lw_tbl := (List.mem_append_right _ (List.mem_append_left _ (List.mem_of_getElem? (i := 109) (l := tables_1_1) rfl)))
theorem lk81 : (Cond.fieldLink R_CA 9 "GateStack$Calculator" "variables" "[I" : Cond) ∈ lw_tbl := (List.mem_append_right _ (List.mem_append_left _ (List.mem_of_getElem? (i := 110) (l := tables_1_1) rfl)))
theorem lk82 : (Cond.fieldLink R_CA 19 "GateStack$Calculator" "cursor" "I" : Cond) ∈ lw_tbl := (List.mem_append_right _ (List.mem_append_left _ (List.mem_of_getElem? (i := 111) (l := tables_1_1) rfl)))
theorem lk83 : (Cond.laysFinal R_CA "GateStack$Calculator" "variables" "[I" : Cond) ∈ lw_tbl := (List.mem_append_right _ (List.mem_append_left _ (List.mem_of_getElem? (i := 112) (l := tables_1_1) rfl)))
theorem lk84 : (Cond.lays R_CA "GateStack$Calculator" "cursor" "I" : Cond) ∈ lw_tbl := (List.mem_append_right _ (List.mem_append_left _ (List.mem_of_getElem? (i := 114) (l := tables_1_1) rfl)))
theorem lk85 : (Cond.classLink R_GS 37 "GateStack$Machine" : Cond) ∈ lw_tbl := (List.mem_append_right _ (List.mem_append_left _ (List.mem_of_getElem? (i := 117) (l := tables_1_1) rfl)))
theorem lk86 : (Cond.instantiable R_MA 5 : Cond) ∈ lw_tbl := (List.mem_append_right _ (List.mem_append_left _ (List.mem_of_getElem? (i := 118) (l := tables_1_1) rfl)))
theorem lk87 : (Cond.instanceMethod y_MA_init : Cond) ∈ lw_tbl := (List.mem_append_right _ (List.mem_append_left _ (List.mem_of_getElem? (i := 120) (l := tables_1_1) rfl)))
theorem lk88 : (Cond.code y_MA_init prog_3_method_1_code 1 none : Cond) ∈ lw_tbl := (List.mem_append_right _ (List.mem_append_left _ (List.mem_of_getElem? (i := 121) (l := tables_1_1) rfl)))
theorem lk89 : (Cond.methodLink R_MA 3 objectInit : Cond) ∈ lw_tbl := (List.mem_append_right _ (List.mem_append_left _ (List.mem_of_getElem? (i := 122) (l := tables_1_1) rfl)))
theorem lk90 : (Cond.fieldLink R_MA 9 "GateStack$Machine" "letters" "[I" : Cond) ∈ lw_tbl := (List.mem_append_right _ (List.mem_append_left _ (List.mem_of_getElem? (i := 123) (l := tables_1_1) rfl)))
theorem lk91 : (Cond.fieldLink R_MA 15 "GateStack$Machine" "places" "[I" : Cond) ∈ lw_tbl := (List.mem_append_right _ (List.mem_append_left _ (List.mem_of_getElem? (i := 124) (l := tables_1_1) rfl)))
theorem lk92 : (Cond.fieldLink R_MA 18 "GateStack$Machine" "outputs" "[I" : Cond) ∈ lw_tbl := (List.mem_append_right _ (List.mem_append_left _ (List.mem_of_getElem? (i := 125) (l := tables_1_1) rfl)))
theorem lk93 : (Cond.fieldLink R_MA 21 "GateStack$Machine" "depth" "I" : Cond) ∈ lw_tbl := (List.mem_append_right _ (List.mem_append_left _ (List.mem_of_getElem? (i := 126) (l := tables_1_1) rfl)))
theorem lk94 : (Cond.fieldLink R_MA 25 "GateStack$Machine" "outputCount" "I" : Cond) ∈ lw_tbl := (List.mem_append_right _ (List.mem_append_left _ (List.mem_of_getElem? (i := 127) (l := tables_1_1) rfl)))
theorem lk95 : (Cond.laysFinal R_MA "GateStack$Machine" "letters" "[I" : Cond) ∈ lw_tbl := (List.mem_append_right _ (List.mem_append_left _ (List.mem_of_getElem? (i := 128) (l := tables_1_1) rfl)))
theorem lk96 : (Cond.laysFinal R_MA "GateStack$Machine" "places" "[I" : Cond) ∈ lw_tbl := (List.mem_append_right _ (List.mem_append_left _ (List.mem_of_getElem? (i := 130) (l := tables_1_1) rfl)))
theorem lk97 : (Cond.laysFinal R_MA "GateStack$Machine" "outputs" "[I" : Cond) ∈ lw_tbl := (List.mem_append_right _ (List.mem_append_left _ (List.mem_of_getElem? (i := 132) (l := tables_1_1) rfl)))
theorem lk98 : (Cond.lays R_MA "GateStack$Machine" "depth" "I" : Cond) ∈ lw_tbl := (List.mem_append_right _ (List.mem_append_left _ (List.mem_of_getElem? (i := 134) (l := tables_1_1) rfl)))
theorem lk99 : (Cond.lays R_MA "GateStack$Machine" "outputCount" "I" : Cond) ∈ lw_tbl := (List.mem_append_right _ (List.mem_append_left _ (List.mem_of_getElem? (i := 136) (l := tables_1_1) rfl)))
theorem lk100 : (Cond.fieldLink R_GS 11 "GateStack" "modules" "[LGateStack$ModuleText;" : Cond) ∈ lw_tbl := (List.mem_append_right _ (List.mem_append_left _ (List.mem_of_getElem? (i := 139) (l := tables_1_1) rfl)))
theorem lk101 : (Cond.fieldLink R_GS 19 "GateStack" "reader" "LGateStack$Reader;" : Cond) ∈ lw_tbl := (List.mem_append_right _ (List.mem_append_left _ (List.mem_of_getElem? (i := 140) (l := tables_1_1) rfl)))
theorem lk102 : (Cond.fieldLink R_GS 26 "GateStack" "program" "LGateStack$Program;" : Cond) ∈ lw_tbl := (List.mem_append_right _ (List.mem_append_left _ (List.mem_of_getElem? (i := 141) (l := tables_1_1) rfl)))
theorem lk103 : (Cond.fieldLink R_GS 33 "GateStack" "calculator" "LGateStack$Calculator;" : Cond) ∈ lw_tbl := (List.mem_append_right _ (List.mem_append_left _ (List.mem_of_getElem? (i := 142) (l := tables_1_1) rfl)))
theorem lk104 : (Cond.fieldLink R_GS 40 "GateStack" "machine" "LGateStack$Machine;" : Cond) ∈ lw_tbl := (List.mem_append_right _ (List.mem_append_left _ (List.mem_of_getElem? (i := 143) (l := tables_1_1) rfl)))
theorem lk105 : (Cond.fieldLink R_GS 44 "GateStack" "linked" "Z" : Cond) ∈ lw_tbl := (List.mem_append_right _ (List.mem_append_left _ (List.mem_of_getElem? (i := 144) (l := tables_1_1) rfl)))
theorem lk106 : (Cond.laysFinal R_GS "GateStack" "modules" "[LGateStack$ModuleText;" : Cond) ∈ lw_tbl := (List.mem_append_right _ (List.mem_append_left _ (List.mem_of_getElem? (i := 145) (l := tables_1_1) rfl)))
theorem lk107 : (Cond.laysFinal R_GS "GateStack" "reader" "LGateStack$Reader;" : Cond) ∈ lw_tbl := (List.mem_append_right _ (List.mem_append_left _ (List.mem_of_getElem? (i := 147) (l := tables_1_1) rfl)))
theorem lk108 : (Cond.laysFinal R_GS "GateStack" "program" "LGateStack$Program;" : Cond) ∈ lw_tbl := (List.mem_append_right _ (List.mem_append_left _ (List.mem_of_getElem? (i := 149) (l := tables_1_1) rfl)))
theorem lk109 : (Cond.laysFinal R_GS "GateStack" "calculator" "LGateStack$Calculator;" : Cond) ∈ lw_tbl := (List.mem_append_right _ (List.mem_append_left _ (List.mem_of_getElem? (i := 151) (l := tables_1_1) rfl)))
theorem lk110 : (Cond.laysFinal R_GS "GateStack" "machine" "LGateStack$Machine;" : Cond) ∈ lw_tbl := (List.mem_append_right _ (List.mem_append_left _ (List.mem_of_getElem? (i := 153) (l := tables_1_1) rfl)))
theorem lk111 : (Cond.lays R_GS "GateStack" "linked" "Z" : Cond) ∈ lw_tbl := (List.mem_append_right _ (List.mem_append_left _ (List.mem_of_getElem? (i := 155) (l := tables_1_1) rfl)))
theorem lk112 : (Cond.methodLink "GateStackLaw" 13 y_GS_sign : Cond) ∈ lw_tbl := (List.mem_append_right _ (List.mem_append_left _ (List.mem_of_getElem? (i := 158) (l := tables_1_1) rfl)))
theorem lk113 : (Cond.instanceMethod y_GS_sign : Cond) ∈ lw_tbl := (List.mem_append_right _ (List.mem_append_left _ (List.mem_of_getElem? (i := 159) (l := tables_1_1) rfl)))
theorem lk114 : (Cond.selects R_GS y_GS_sign y_GS_sign : Cond) ∈ lw_tbl := (List.mem_append_right _ (List.mem_append_left _ (List.mem_of_getElem? (i := 160) (l := tables_1_1) rfl)))
theorem lk115 : (Cond.code y_GS_sign prog_1_method_2_code 3 (some .int) : Cond) ∈ lw_tbl := (List.mem_append_right _ (List.mem_append_left _ (List.mem_of_getElem? (i := 161) (l := tables_1_1) rfl)))
theorem lk116 : (Cond.methodLink R_GS 48 y_GS_isModule : Cond) ∈ lw_tbl := (List.mem_append_right _ (List.mem_append_left _ (List.mem_of_getElem? (i := 162) (l := tables_1_1) rfl)))
theorem lk117 : (Cond.static y_GS_isModule : Cond) ∈ lw_tbl := (List.mem_append_right _ (List.mem_append_left _ (List.mem_of_getElem? (i := 163) (l := tables_1_1) rfl)))
theorem lk118 : (Cond.code y_GS_isModule prog_1_method_17_code 1 (some .boolean) : Cond) ∈ lw_tbl := (List.mem_append_right _ (List.mem_append_left _ (List.mem_of_getElem? (i := 164) (l := tables_1_1) rfl)))
theorem lk119 : (Cond.methodLink R_GS 52 y_MT_append : Cond) ∈ lw_tbl := (List.mem_append_right _ (List.mem_append_left _ (List.mem_of_getElem? (i := 165) (l := tables_1_1) rfl)))
theorem lk120 : (Cond.instanceMethod y_MT_append : Cond) ∈ lw_tbl := (List.mem_append_right _ (List.mem_append_left _ (List.mem_of_getElem? (i := 166) (l := tables_1_1) rfl)))
theorem lk121 : (Cond.selects R_MT y_MT_append y_MT_append : Cond) ∈ lw_tbl := (List.mem_append_right _ (List.mem_append_left _ (List.mem_of_getElem? (i := 167) (l := tables_1_1) rfl)))
theorem lk122 : (Cond.code y_MT_append prog_4_method_2_code 2 (some .boolean) : Cond) ∈ lw_tbl := (List.mem_append_right _ (List.mem_append_left _ (List.mem_of_getElem? (i := 168) (l := tables_1_1) rfl)))
theorem lk123 : (Cond.methodLink R_GS 55 y_GS_loosen : Cond) ∈ lw_tbl := (List.mem_append_right _ (List.mem_append_left _ (List.mem_of_getElem? (i := 169) (l := tables_1_1) rfl)))
theorem lk124 : (Cond.instanceMethod y_GS_loosen : Cond) ∈ lw_tbl := (List.mem_append_right _ (List.mem_append_left _ (List.mem_of_getElem? (i := 171) (l := tables_1_1) rfl)))
theorem lk125 : (Cond.code y_GS_loosen prog_1_method_16_code 1 none : Cond) ∈ lw_tbl := (List.mem_append_right _ (List.mem_append_left _ (List.mem_of_getElem? (i := 172) (l := tables_1_1) rfl)))
theorem lk126 : (Cond.methodLink R_GS 104 y_MA_halt : Cond) ∈ lw_tbl := (List.mem_append_right _ (List.mem_append_left _ (List.mem_of_getElem? (i := 173) (l := tables_1_1) rfl)))
theorem lk127 : (Cond.instanceMethod y_MA_halt : Cond) ∈ lw_tbl := (List.mem_append_right _ (List.mem_append_left _ (List.mem_of_getElem? (i := 174) (l := tables_1_1) rfl)))
theorem lk128 : (Cond.selects R_MA y_MA_halt y_MA_halt : Cond) ∈ lw_tbl := (List.mem_append_right _ (List.mem_append_left _ (List.mem_of_getElem? (i := 175) (l := tables_1_1) rfl)))
theorem lk129 : (Cond.code y_MA_halt prog_3_method_9_code 1 none : Cond) ∈ lw_tbl := (List.mem_append_right _ (List.mem_append_left _ (List.mem_of_getElem? (i := 176) (l := tables_1_1) rfl)))
theorem lk130 : (Cond.methodLink R_GS 58 y_MT_length : Cond) ∈ lw_tbl := (List.mem_append_right _ (List.mem_append_left _ (List.mem_of_getElem? (i := 177) (l := tables_1_1) rfl)))
theorem lk131 : (Cond.instanceMethod y_MT_length : Cond) ∈ lw_tbl := (List.mem_append_right _ (List.mem_append_left _ (List.mem_of_getElem? (i := 178) (l := tables_1_1) rfl)))
theorem lk132 : (Cond.selects R_MT y_MT_length y_MT_length : Cond) ∈ lw_tbl := (List.mem_append_right _ (List.mem_append_left _ (List.mem_of_getElem? (i := 179) (l := tables_1_1) rfl)))
theorem lk133 : (Cond.code y_MT_length prog_4_method_10_code 1 (some .int) : Cond) ∈ lw_tbl := (List.mem_append_right _ (List.mem_append_left _ (List.mem_of_getElem? (i := 180) (l := tables_1_1) rfl)))
theorem lk134 : (Cond.methodLink "GateStackLaw" 18 y_GS_clear : Cond) ∈ lw_tbl := (List.mem_append_right _ (List.mem_append_left _ (List.mem_of_getElem? (i := 181) (l := tables_1_1) rfl)))
theorem lk135 : (Cond.instanceMethod y_GS_clear : Cond) ∈ lw_tbl := (List.mem_append_right _ (List.mem_append_left _ (List.mem_of_getElem? (i := 182) (l := tables_1_1) rfl)))
theorem lk136 : (Cond.selects R_GS y_GS_clear y_GS_clear : Cond) ∈ lw_tbl := (List.mem_append_right _ (List.mem_append_left _ (List.mem_of_getElem? (i := 183) (l := tables_1_1) rfl)))
theorem lk137 : (Cond.code y_GS_clear prog_1_method_3_code 2 (some .int) : Cond) ∈ lw_tbl := (List.mem_append_right _ (List.mem_append_left _ (List.mem_of_getElem? (i := 184) (l := tables_1_1) rfl)))
theorem lk138 : (Cond.methodLink R_GS 62 y_MT_empty : Cond) ∈ lw_tbl := (List.mem_append_right _ (List.mem_append_left _ (List.mem_of_getElem? (i := 185) (l := tables_1_1) rfl)))
theorem lk139 : (Cond.instanceMethod y_MT_empty : Cond) ∈ lw_tbl := (List.mem_append_right _ (List.mem_append_left _ (List.mem_of_getElem? (i := 186) (l := tables_1_1) rfl)))
theorem lk140 : (Cond.selects R_MT y_MT_empty y_MT_empty : Cond) ∈ lw_tbl := (List.mem_append_right _ (List.mem_append_left _ (List.mem_of_getElem? (i := 187) (l := tables_1_1) rfl)))
theorem lk141 : (Cond.code y_MT_empty prog_4_method_3_code 1 none : Cond) ∈ lw_tbl := (List.mem_append_right _ (List.mem_append_left _ (List.mem_of_getElem? (i := 188) (l := tables_1_1) rfl)))
theorem lk142 : (Cond.methodLink R_MT 38 y_MT_forget : Cond) ∈ lw_tbl := (List.mem_append_right _ (List.mem_append_left _ (List.mem_of_getElem? (i := 189) (l := tables_1_1) rfl)))
theorem lk143 : (Cond.instanceMethod y_MT_forget : Cond) ∈ lw_tbl := (List.mem_append_right _ (List.mem_append_left _ (List.mem_of_getElem? (i := 190) (l := tables_1_1) rfl)))
theorem lk144 : (Cond.selects R_MT y_MT_forget y_MT_forget : Cond) ∈ lw_tbl := (List.mem_append_right _ (List.mem_append_left _ (List.mem_of_getElem? (i := 191) (l := tables_1_1) rfl)))
theorem lk145 : (Cond.code y_MT_forget prog_4_method_4_code 1 none : Cond) ∈ lw_tbl := (List.mem_append_right _ (List.mem_append_left _ (List.mem_of_getElem? (i := 192) (l := tables_1_1) rfl)))
theorem lk146 : (Cond.methodLink "GateStackLaw" 23 y_GS_compile : Cond) ∈ lw_tbl := (List.mem_append_right _ (List.mem_append_left _ (List.mem_of_getElem? (i := 193) (l := tables_1_1) rfl)))
theorem lk147 : (Cond.instanceMethod y_GS_compile : Cond) ∈ lw_tbl := (List.mem_append_right _ (List.mem_append_left _ (List.mem_of_getElem? (i := 194) (l := tables_1_1) rfl)))
theorem lk148 : (Cond.selects R_GS y_GS_compile y_GS_compile : Cond) ∈ lw_tbl := (List.mem_append_right _ (List.mem_append_left _ (List.mem_of_getElem? (i := 195) (l := tables_1_1) rfl)))
theorem lk149 : (Cond.code y_GS_compile prog_1_method_4_code 4 (some .int) : Cond) ∈ lw_tbl := (List.mem_append_right _ (List.mem_append_left _ (List.mem_of_getElem? (i := 196) (l := tables_1_1) rfl)))
theorem lk150 : (Cond.methodLink R_GS 65 y_RD_faultOf : Cond) ∈ lw_tbl := (List.mem_append_right _ (List.mem_append_left _ (List.mem_of_getElem? (i := 197) (l := tables_1_1) rfl)))
theorem lk151 : (Cond.instanceMethod y_RD_faultOf : Cond) ∈ lw_tbl := (List.mem_append_right _ (List.mem_append_left _ (List.mem_of_getElem? (i := 198) (l := tables_1_1) rfl)))
theorem lk152 : (Cond.selects R_RD y_RD_faultOf y_RD_faultOf : Cond) ∈ lw_tbl := (List.mem_append_right _ (List.mem_append_left _ (List.mem_of_getElem? (i := 199) (l := tables_1_1) rfl)))
theorem lk153 : (Cond.code y_RD_faultOf prog_6_method_2_code 4 (some .int) : Cond) ∈ lw_tbl := (List.mem_append_right _ (List.mem_append_left _ (List.mem_of_getElem? (i := 200) (l := tables_1_1) rfl)))
theorem lk154 : (Cond.methodLink R_RD 15 y_MT_forget : Cond) ∈ lw_tbl := (List.mem_append_right _ (List.mem_append_left _ (List.mem_of_getElem? (i := 201) (l := tables_1_1) rfl)))
theorem lk155 : (Cond.methodLink R_RD 27 y_MT_length : Cond) ∈ lw_tbl := (List.mem_append_right _ (List.mem_append_left _ (List.mem_of_getElem? (i := 202) (l := tables_1_1) rfl)))
theorem lk156 : (Cond.methodLink R_RD 31 y_RD_takes : Cond) ∈ lw_tbl := (List.mem_append_right _ (List.mem_append_left _ (List.mem_of_getElem? (i := 203) (l := tables_1_1) rfl)))
theorem lk157 : (Cond.instanceMethod y_RD_takes : Cond) ∈ lw_tbl := (List.mem_append_right _ (List.mem_append_left _ (List.mem_of_getElem? (i := 205) (l := tables_1_1) rfl)))
theorem lk158 : (Cond.code y_RD_takes prog_6_method_3_code 4 (some .boolean) : Cond) ∈ lw_tbl := (List.mem_append_right _ (List.mem_append_left _ (List.mem_of_getElem? (i := 206) (l := tables_1_1) rfl)))
theorem lk159 : (Cond.methodLink R_RD 35 y_MT_signAt : Cond) ∈ lw_tbl := (List.mem_append_right _ (List.mem_append_left _ (List.mem_of_getElem? (i := 207) (l := tables_1_1) rfl)))
theorem lk160 : (Cond.instanceMethod y_MT_signAt : Cond) ∈ lw_tbl := (List.mem_append_right _ (List.mem_append_left _ (List.mem_of_getElem? (i := 208) (l := tables_1_1) rfl)))
theorem lk161 : (Cond.selects R_MT y_MT_signAt y_MT_signAt : Cond) ∈ lw_tbl := (List.mem_append_right _ (List.mem_append_left _ (List.mem_of_getElem? (i := 209) (l := tables_1_1) rfl)))
theorem lk162 : (Cond.code y_MT_signAt prog_4_method_14_code 2 (some .int) : Cond) ∈ lw_tbl := (List.mem_append_right _ (List.mem_append_left _ (List.mem_of_getElem? (i := 210) (l := tables_1_1) rfl)))
theorem lk163 : (Cond.methodLink R_RD 39 y_RD_takesProcedure : Cond) ∈ lw_tbl := (List.mem_append_right _ (List.mem_append_left _ (List.mem_of_getElem? (i := 211) (l := tables_1_1) rfl)))
theorem lk164 : (Cond.instanceMethod y_RD_takesProcedure : Cond) ∈ lw_tbl := (List.mem_append_right _ (List.mem_append_left _ (List.mem_of_getElem? (i := 213) (l := tables_1_1) rfl)))
theorem lk165 : (Cond.code y_RD_takesProcedure prog_6_method_4_code 4 (some .boolean) : Cond) ∈ lw_tbl := (List.mem_append_right _ (List.mem_append_left _ (List.mem_of_getElem? (i := 214) (l := tables_1_1) rfl)))
theorem lk166 : (Cond.static y_GS_isLetter : Cond) ∈ lw_tbl := (List.mem_append_right _ (List.mem_append_left _ (List.mem_of_getElem? (i := 216) (l := tables_1_1) rfl)))
theorem lk167 : (Cond.code y_GS_isLetter prog_1_method_20_code 1 (some .boolean) : Cond) ∈ lw_tbl := (List.mem_append_right _ (List.mem_append_left _ (List.mem_of_getElem? (i := 217) (l := tables_1_1) rfl)))
theorem lk168 : (Cond.methodLink R_RD 81 y_MT_addProcedure : Cond) ∈ lw_tbl := (List.mem_append_right _ (List.mem_append_left _ (List.mem_of_getElem? (i := 218) (l := tables_1_1) rfl)))
theorem lk169 : (Cond.instanceMethod y_MT_addProcedure : Cond) ∈ lw_tbl := (List.mem_append_right _ (List.mem_append_left _ (List.mem_of_getElem? (i := 219) (l := tables_1_1) rfl)))
theorem lk170 : (Cond.selects R_MT y_MT_addProcedure y_MT_addProcedure : Cond) ∈ lw_tbl := (List.mem_append_right _ (List.mem_append_left _ (List.mem_of_getElem? (i := 220) (l := tables_1_1) rfl)))
theorem lk171 : (Cond.code y_MT_addProcedure prog_4_method_6_code 3 none : Cond) ∈ lw_tbl := (List.mem_append_right _ (List.mem_append_left _ (List.mem_of_getElem? (i := 221) (l := tables_1_1) rfl)))
theorem lk172 : (Cond.static y_GS_isLetterNumber : Cond) ∈ lw_tbl := (List.mem_append_right _ (List.mem_append_left _ (List.mem_of_getElem? (i := 223) (l := tables_1_1) rfl)))
theorem lk173 : (Cond.code y_GS_isLetterNumber prog_1_method_19_code 1 (some .boolean) : Cond) ∈ lw_tbl := (List.mem_append_right _ (List.mem_append_left _ (List.mem_of_getElem? (i := 224) (l := tables_1_1) rfl)))
theorem lk174 : (Cond.static y_GS_hasBit : Cond) ∈ lw_tbl := (List.mem_append_right _ (List.mem_append_left _ (List.mem_of_getElem? (i := 226) (l := tables_1_1) rfl)))
theorem lk175 : (Cond.code y_GS_hasBit prog_1_method_24_code 2 (some .boolean) : Cond) ∈ lw_tbl := (List.mem_append_right _ (List.mem_append_left _ (List.mem_of_getElem? (i := 227) (l := tables_1_1) rfl)))
theorem lk176 : (Cond.methodLink R_RD 52 y_RD_begins : Cond) ∈ lw_tbl := (List.mem_append_right _ (List.mem_append_left _ (List.mem_of_getElem? (i := 228) (l := tables_1_1) rfl)))
theorem lk177 : (Cond.instanceMethod y_RD_begins : Cond) ∈ lw_tbl := (List.mem_append_right _ (List.mem_append_left _ (List.mem_of_getElem? (i := 230) (l := tables_1_1) rfl)))
theorem lk178 : (Cond.code y_RD_begins prog_6_method_14_code 3 (some .boolean) : Cond) ∈ lw_tbl := (List.mem_append_right _ (List.mem_append_left _ (List.mem_of_getElem? (i := 231) (l := tables_1_1) rfl)))
theorem lk179 : (Cond.methodLink R_RD 55 y_RD_expects : Cond) ∈ lw_tbl := (List.mem_append_right _ (List.mem_append_left _ (List.mem_of_getElem? (i := 232) (l := tables_1_1) rfl)))
theorem lk180 : (Cond.instanceMethod y_RD_expects : Cond) ∈ lw_tbl := (List.mem_append_right _ (List.mem_append_left _ (List.mem_of_getElem? (i := 234) (l := tables_1_1) rfl)))
theorem lk181 : (Cond.code y_RD_expects prog_6_method_15_code 2 (some .boolean) : Cond) ∈ lw_tbl := (List.mem_append_right _ (List.mem_append_left _ (List.mem_of_getElem? (i := 235) (l := tables_1_1) rfl)))
theorem lk182 : (Cond.methodLink R_RD 45 y_RD_opens : Cond) ∈ lw_tbl := (List.mem_append_right _ (List.mem_append_left _ (List.mem_of_getElem? (i := 236) (l := tables_1_1) rfl)))
theorem lk183 : (Cond.instanceMethod y_RD_opens : Cond) ∈ lw_tbl := (List.mem_append_right _ (List.mem_append_left _ (List.mem_of_getElem? (i := 238) (l := tables_1_1) rfl)))
theorem lk184 : (Cond.code y_RD_opens prog_6_method_13_code 3 (some .boolean) : Cond) ∈ lw_tbl := (List.mem_append_right _ (List.mem_append_left _ (List.mem_of_getElem? (i := 239) (l := tables_1_1) rfl)))
theorem lk185 : (Cond.methodLink R_RD 49 y_RD_takesStatement : Cond) ∈ lw_tbl := (List.mem_append_right _ (List.mem_append_right _ (List.mem_append_left _ (List.mem_of_getElem? (i := 0) (l := tables_1_2) rfl))))
theorem lk186 : (Cond.instanceMethod y_RD_takesStatement : Cond) ∈ lw_tbl := (List.mem_append_right _ (List.mem_append_right _ (List.mem_append_left _ (List.mem_of_getElem? (i := 2) (l := tables_1_2) rfl))))
theorem lk187 : (Cond.code y_RD_takesStatement prog_6_method_5_code 5 (some .boolean) : Cond) ∈ lw_tbl := (List.mem_append_right _ (List.mem_append_right _ (List.mem_append_left _ (List.mem_of_getElem? (i := 3) (l := tables_1_2) rfl))))
theorem lk188 : (Cond.methodLink R_RD 85 y_RD_closesBlock : Cond) ∈ lw_tbl := (List.mem_append_right _ (List.mem_append_right _ (List.mem_append_left _ (List.mem_of_getElem? (i := 4) (l := tables_1_2) rfl))))
theorem lk189 : (Cond.instanceMethod y_RD_closesBlock : Cond) ∈ lw_tbl := (List.mem_append_right _ (List.mem_append_right _ (List.mem_append_left _ (List.mem_of_getElem? (i := 6) (l := tables_1_2) rfl))))
theorem lk190 : (Cond.code y_RD_closesBlock prog_6_method_7_code 5 (some .boolean) : Cond) ∈ lw_tbl := (List.mem_append_right _ (List.mem_append_right _ (List.mem_append_left _ (List.mem_of_getElem? (i := 7) (l := tables_1_2) rfl))))
theorem lk191 : (Cond.methodLink R_RD 103 y_MT_addBlock : Cond) ∈ lw_tbl := (List.mem_append_right _ (List.mem_append_right _ (List.mem_append_left _ (List.mem_of_getElem? (i := 8) (l := tables_1_2) rfl))))
theorem lk192 : (Cond.instanceMethod y_MT_addBlock : Cond) ∈ lw_tbl := (List.mem_append_right _ (List.mem_append_right _ (List.mem_append_left _ (List.mem_of_getElem? (i := 9) (l := tables_1_2) rfl))))
theorem lk193 : (Cond.selects R_MT y_MT_addBlock y_MT_addBlock : Cond) ∈ lw_tbl := (List.mem_append_right _ (List.mem_append_right _ (List.mem_append_left _ (List.mem_of_getElem? (i := 10) (l := tables_1_2) rfl))))
theorem lk194 : (Cond.code y_MT_addBlock prog_4_method_9_code 3 none : Cond) ∈ lw_tbl := (List.mem_append_right _ (List.mem_append_right _ (List.mem_append_left _ (List.mem_of_getElem? (i := 11) (l := tables_1_2) rfl))))
theorem lk195 : (Cond.methodLink R_MT 55 y_MT_isPlace : Cond) ∈ lw_tbl := (List.mem_append_right _ (List.mem_append_right _ (List.mem_append_left _ (List.mem_of_getElem? (i := 12) (l := tables_1_2) rfl))))
theorem lk196 : (Cond.instanceMethod y_MT_isPlace : Cond) ∈ lw_tbl := (List.mem_append_right _ (List.mem_append_right _ (List.mem_append_left _ (List.mem_of_getElem? (i := 14) (l := tables_1_2) rfl))))
theorem lk197 : (Cond.code y_MT_isPlace prog_4_method_22_code 2 (some .boolean) : Cond) ∈ lw_tbl := (List.mem_append_right _ (List.mem_append_right _ (List.mem_append_left _ (List.mem_of_getElem? (i := 15) (l := tables_1_2) rfl))))
theorem lk198 : (Cond.methodLink R_RD 88 y_RD_behindFirstSign : Cond) ∈ lw_tbl := (List.mem_append_right _ (List.mem_append_right _ (List.mem_append_left _ (List.mem_of_getElem? (i := 16) (l := tables_1_2) rfl))))
theorem lk199 : (Cond.static y_RD_behindFirstSign : Cond) ∈ lw_tbl := (List.mem_append_right _ (List.mem_append_right _ (List.mem_append_left _ (List.mem_of_getElem? (i := 17) (l := tables_1_2) rfl))))
theorem lk200 : (Cond.code y_RD_behindFirstSign prog_6_method_6_code 1 (some .int) : Cond) ∈ lw_tbl := (List.mem_append_right _ (List.mem_append_right _ (List.mem_append_left _ (List.mem_of_getElem? (i := 18) (l := tables_1_2) rfl))))
theorem lk201 : (Cond.static y_GS_isVariable : Cond) ∈ lw_tbl := (List.mem_append_right _ (List.mem_append_right _ (List.mem_append_left _ (List.mem_of_getElem? (i := 20) (l := tables_1_2) rfl))))
theorem lk202 : (Cond.code y_GS_isVariable prog_1_method_21_code 1 (some .boolean) : Cond) ∈ lw_tbl := (List.mem_append_right _ (List.mem_append_right _ (List.mem_append_left _ (List.mem_of_getElem? (i := 21) (l := tables_1_2) rfl))))
theorem lk203 : (Cond.methodLink R_RD 91 y_MT_addCall : Cond) ∈ lw_tbl := (List.mem_append_right _ (List.mem_append_right _ (List.mem_append_left _ (List.mem_of_getElem? (i := 22) (l := tables_1_2) rfl))))
theorem lk204 : (Cond.instanceMethod y_MT_addCall : Cond) ∈ lw_tbl := (List.mem_append_right _ (List.mem_append_right _ (List.mem_append_left _ (List.mem_of_getElem? (i := 23) (l := tables_1_2) rfl))))
theorem lk205 : (Cond.selects R_MT y_MT_addCall y_MT_addCall : Cond) ∈ lw_tbl := (List.mem_append_right _ (List.mem_append_right _ (List.mem_append_left _ (List.mem_of_getElem? (i := 24) (l := tables_1_2) rfl))))
theorem lk206 : (Cond.code y_MT_addCall prog_4_method_7_code 3 none : Cond) ∈ lw_tbl := (List.mem_append_right _ (List.mem_append_right _ (List.mem_append_left _ (List.mem_of_getElem? (i := 25) (l := tables_1_2) rfl))))
theorem lk207 : (Cond.methodLink R_RD 94 y_MT_addStatement : Cond) ∈ lw_tbl := (List.mem_append_right _ (List.mem_append_right _ (List.mem_append_left _ (List.mem_of_getElem? (i := 26) (l := tables_1_2) rfl))))
theorem lk208 : (Cond.instanceMethod y_MT_addStatement : Cond) ∈ lw_tbl := (List.mem_append_right _ (List.mem_append_right _ (List.mem_append_left _ (List.mem_of_getElem? (i := 27) (l := tables_1_2) rfl))))
theorem lk209 : (Cond.selects R_MT y_MT_addStatement y_MT_addStatement : Cond) ∈ lw_tbl := (List.mem_append_right _ (List.mem_append_right _ (List.mem_append_left _ (List.mem_of_getElem? (i := 28) (l := tables_1_2) rfl))))
theorem lk210 : (Cond.code y_MT_addStatement prog_4_method_8_code 3 none : Cond) ∈ lw_tbl := (List.mem_append_right _ (List.mem_append_right _ (List.mem_append_left _ (List.mem_of_getElem? (i := 29) (l := tables_1_2) rfl))))
theorem lk211 : (Cond.methodLink R_RD 59 y_RD_takesOperand : Cond) ∈ lw_tbl := (List.mem_append_right _ (List.mem_append_right _ (List.mem_append_left _ (List.mem_of_getElem? (i := 30) (l := tables_1_2) rfl))))
theorem lk212 : (Cond.instanceMethod y_RD_takesOperand : Cond) ∈ lw_tbl := (List.mem_append_right _ (List.mem_append_right _ (List.mem_append_left _ (List.mem_of_getElem? (i := 32) (l := tables_1_2) rfl))))
theorem lk213 : (Cond.code y_RD_takesOperand prog_6_method_8_code 4 (some .boolean) : Cond) ∈ lw_tbl := (List.mem_append_right _ (List.mem_append_right _ (List.mem_append_left _ (List.mem_of_getElem? (i := 33) (l := tables_1_2) rfl))))
theorem lk214 : (Cond.static y_GS_isPrefix : Cond) ∈ lw_tbl := (List.mem_append_right _ (List.mem_append_right _ (List.mem_append_left _ (List.mem_of_getElem? (i := 35) (l := tables_1_2) rfl))))
theorem lk215 : (Cond.code y_GS_isPrefix prog_1_method_23_code 1 (some .boolean) : Cond) ∈ lw_tbl := (List.mem_append_right _ (List.mem_append_right _ (List.mem_append_left _ (List.mem_of_getElem? (i := 36) (l := tables_1_2) rfl))))
theorem lk216 : (Cond.methodLink R_RD 109 y_RD_endsOperand : Cond) ∈ lw_tbl := (List.mem_append_right _ (List.mem_append_right _ (List.mem_append_left _ (List.mem_of_getElem? (i := 37) (l := tables_1_2) rfl))))
theorem lk217 : (Cond.instanceMethod y_RD_endsOperand : Cond) ∈ lw_tbl := (List.mem_append_right _ (List.mem_append_right _ (List.mem_append_left _ (List.mem_of_getElem? (i := 39) (l := tables_1_2) rfl))))
theorem lk218 : (Cond.code y_RD_endsOperand prog_6_method_11_code 3 (some .boolean) : Cond) ∈ lw_tbl := (List.mem_append_right _ (List.mem_append_right _ (List.mem_append_left _ (List.mem_of_getElem? (i := 40) (l := tables_1_2) rfl))))
theorem lk219 : (Cond.methodLink R_RD 118 y_RD_lastOpen : Cond) ∈ lw_tbl := (List.mem_append_right _ (List.mem_append_right _ (List.mem_append_left _ (List.mem_of_getElem? (i := 41) (l := tables_1_2) rfl))))
theorem lk220 : (Cond.instanceMethod y_RD_lastOpen : Cond) ∈ lw_tbl := (List.mem_append_right _ (List.mem_append_right _ (List.mem_append_left _ (List.mem_of_getElem? (i := 43) (l := tables_1_2) rfl))))
theorem lk221 : (Cond.code y_RD_lastOpen prog_6_method_12_code 2 (some .int) : Cond) ∈ lw_tbl := (List.mem_append_right _ (List.mem_append_right _ (List.mem_append_left _ (List.mem_of_getElem? (i := 44) (l := tables_1_2) rfl))))
theorem lk222 : (Cond.static y_GS_isDigit : Cond) ∈ lw_tbl := (List.mem_append_right _ (List.mem_append_right _ (List.mem_append_left _ (List.mem_of_getElem? (i := 46) (l := tables_1_2) rfl))))
theorem lk223 : (Cond.code y_GS_isDigit prog_1_method_22_code 1 (some .boolean) : Cond) ∈ lw_tbl := (List.mem_append_right _ (List.mem_append_right _ (List.mem_append_left _ (List.mem_of_getElem? (i := 47) (l := tables_1_2) rfl))))
theorem lk224 : (Cond.methodLink R_RD 65 y_RD_takesDigit : Cond) ∈ lw_tbl := (List.mem_append_right _ (List.mem_append_right _ (List.mem_append_left _ (List.mem_of_getElem? (i := 48) (l := tables_1_2) rfl))))
theorem lk225 : (Cond.instanceMethod y_RD_takesDigit : Cond) ∈ lw_tbl := (List.mem_append_right _ (List.mem_append_right _ (List.mem_append_left _ (List.mem_of_getElem? (i := 50) (l := tables_1_2) rfl))))
theorem lk226 : (Cond.code y_RD_takesDigit prog_6_method_9_code 1 (some .boolean) : Cond) ∈ lw_tbl := (List.mem_append_right _ (List.mem_append_right _ (List.mem_append_left _ (List.mem_of_getElem? (i := 51) (l := tables_1_2) rfl))))
theorem lk227 : (Cond.methodLink R_RD 69 y_RD_takesOperator : Cond) ∈ lw_tbl := (List.mem_append_right _ (List.mem_append_right _ (List.mem_append_left _ (List.mem_of_getElem? (i := 52) (l := tables_1_2) rfl))))
theorem lk228 : (Cond.instanceMethod y_RD_takesOperator : Cond) ∈ lw_tbl := (List.mem_append_right _ (List.mem_append_right _ (List.mem_append_left _ (List.mem_of_getElem? (i := 54) (l := tables_1_2) rfl))))
theorem lk229 : (Cond.code y_RD_takesOperator prog_6_method_10_code 5 (some .boolean) : Cond) ∈ lw_tbl := (List.mem_append_right _ (List.mem_append_right _ (List.mem_append_left _ (List.mem_of_getElem? (i := 55) (l := tables_1_2) rfl))))
theorem lk230 : (Cond.static y_GS_operationOf : Cond) ∈ lw_tbl := (List.mem_append_right _ (List.mem_append_right _ (List.mem_append_left _ (List.mem_of_getElem? (i := 57) (l := tables_1_2) rfl))))
theorem lk231 : (Cond.code y_GS_operationOf prog_1_method_25_code 1 (some .int) : Cond) ∈ lw_tbl := (List.mem_append_right _ (List.mem_append_right _ (List.mem_append_left _ (List.mem_of_getElem? (i := 58) (l := tables_1_2) rfl))))
theorem lk232 : (Cond.methodLink R_GS 69 y_MT_hasTwins : Cond) ∈ lw_tbl := (List.mem_append_right _ (List.mem_append_right _ (List.mem_append_left _ (List.mem_of_getElem? (i := 59) (l := tables_1_2) rfl))))
theorem lk233 : (Cond.instanceMethod y_MT_hasTwins : Cond) ∈ lw_tbl := (List.mem_append_right _ (List.mem_append_right _ (List.mem_append_left _ (List.mem_of_getElem? (i := 60) (l := tables_1_2) rfl))))
theorem lk234 : (Cond.selects R_MT y_MT_hasTwins y_MT_hasTwins : Cond) ∈ lw_tbl := (List.mem_append_right _ (List.mem_append_right _ (List.mem_append_left _ (List.mem_of_getElem? (i := 61) (l := tables_1_2) rfl))))
theorem lk235 : (Cond.code y_MT_hasTwins prog_4_method_12_code 1 (some .boolean) : Cond) ∈ lw_tbl := (List.mem_append_right _ (List.mem_append_right _ (List.mem_append_left _ (List.mem_of_getElem? (i := 62) (l := tables_1_2) rfl))))
theorem lk236 : (Cond.methodLink R_GS 73 y_MT_mark : Cond) ∈ lw_tbl := (List.mem_append_right _ (List.mem_append_right _ (List.mem_append_left _ (List.mem_of_getElem? (i := 63) (l := tables_1_2) rfl))))
theorem lk237 : (Cond.instanceMethod y_MT_mark : Cond) ∈ lw_tbl := (List.mem_append_right _ (List.mem_append_right _ (List.mem_append_left _ (List.mem_of_getElem? (i := 64) (l := tables_1_2) rfl))))
theorem lk238 : (Cond.selects R_MT y_MT_mark y_MT_mark : Cond) ∈ lw_tbl := (List.mem_append_right _ (List.mem_append_right _ (List.mem_append_left _ (List.mem_of_getElem? (i := 65) (l := tables_1_2) rfl))))
theorem lk239 : (Cond.code y_MT_mark prog_4_method_5_code 2 none : Cond) ∈ lw_tbl := (List.mem_append_right _ (List.mem_append_right _ (List.mem_append_left _ (List.mem_of_getElem? (i := 66) (l := tables_1_2) rfl))))
theorem lk240 : (Cond.methodLink R_GS 77 y_MT_defined : Cond) ∈ lw_tbl := (List.mem_append_right _ (List.mem_append_right _ (List.mem_append_left _ (List.mem_of_getElem? (i := 67) (l := tables_1_2) rfl))))
theorem lk241 : (Cond.instanceMethod y_MT_defined : Cond) ∈ lw_tbl := (List.mem_append_right _ (List.mem_append_right _ (List.mem_append_left _ (List.mem_of_getElem? (i := 68) (l := tables_1_2) rfl))))
theorem lk242 : (Cond.selects R_MT y_MT_defined y_MT_defined : Cond) ∈ lw_tbl := (List.mem_append_right _ (List.mem_append_right _ (List.mem_append_left _ (List.mem_of_getElem? (i := 69) (l := tables_1_2) rfl))))
theorem lk243 : (Cond.code y_MT_defined prog_4_method_11_code 1 (some .int) : Cond) ∈ lw_tbl := (List.mem_append_right _ (List.mem_append_right _ (List.mem_append_left _ (List.mem_of_getElem? (i := 70) (l := tables_1_2) rfl))))
theorem lk244 : (Cond.methodLink R_GS 80 y_JI_bitCount : Cond) ∈ lw_tbl := (List.mem_append_right _ (List.mem_append_right _ (List.mem_append_left _ (List.mem_of_getElem? (i := 71) (l := tables_1_2) rfl))))
theorem lk245 : (Cond.static y_JI_bitCount : Cond) ∈ lw_tbl := (List.mem_append_right _ (List.mem_append_right _ (List.mem_append_left _ (List.mem_of_getElem? (i := 72) (l := tables_1_2) rfl))))
theorem lk246 : (Cond.code y_JI_bitCount prog_9_method_49_code 1 (some .int) : Cond) ∈ lw_tbl := (List.mem_append_right _ (List.mem_append_right _ (List.mem_append_left _ (List.mem_of_getElem? (i := 73) (l := tables_1_2) rfl))))
theorem lk247 : (Cond.constant R_JI 265 1431655765 : Cond) ∈ lw_tbl := (List.mem_append_right _ (List.mem_append_right _ (List.mem_append_left _ (List.mem_of_getElem? (i := 74) (l := tables_1_2) rfl))))
theorem lk248 : (Cond.constant R_JI 266 858993459 : Cond) ∈ lw_tbl := (List.mem_append_right _ (List.mem_append_right _ (List.mem_append_left _ (List.mem_of_getElem? (i := 75) (l := tables_1_2) rfl))))
theorem lk249 : (Cond.constant R_JI 267 252645135 : Cond) ∈ lw_tbl := (List.mem_append_right _ (List.mem_append_right _ (List.mem_append_left _ (List.mem_of_getElem? (i := 76) (l := tables_1_2) rfl))))
theorem lk250 : (Cond.methodLink "GateStackLaw" 27 y_GS_fault : Cond) ∈ lw_tbl := (List.mem_append_right _ (List.mem_append_right _ (List.mem_append_left _ (List.mem_of_getElem? (i := 77) (l := tables_1_2) rfl))))
theorem lk251 : (Cond.instanceMethod y_GS_fault : Cond) ∈ lw_tbl := (List.mem_append_right _ (List.mem_append_right _ (List.mem_append_left _ (List.mem_of_getElem? (i := 78) (l := tables_1_2) rfl))))
theorem lk252 : (Cond.selects R_GS y_GS_fault y_GS_fault : Cond) ∈ lw_tbl := (List.mem_append_right _ (List.mem_append_right _ (List.mem_append_left _ (List.mem_of_getElem? (i := 79) (l := tables_1_2) rfl))))
theorem lk253 : (Cond.code y_GS_fault prog_1_method_5_code 2 (some .int) : Cond) ∈ lw_tbl := (List.mem_append_right _ (List.mem_append_right _ (List.mem_append_left _ (List.mem_of_getElem? (i := 80) (l := tables_1_2) rfl))))
theorem lk254 : (Cond.methodLink "GateStackLaw" 31 y_GS_link : Cond) ∈ lw_tbl := (List.mem_append_right _ (List.mem_append_right _ (List.mem_append_left _ (List.mem_of_getElem? (i := 81) (l := tables_1_2) rfl))))
theorem lk255 : (Cond.instanceMethod y_GS_link : Cond) ∈ lw_tbl := (List.mem_append_right _ (List.mem_append_right _ (List.mem_append_left _ (List.mem_of_getElem? (i := 82) (l := tables_1_2) rfl))))
theorem lk256 : (Cond.selects R_GS y_GS_link y_GS_link : Cond) ∈ lw_tbl := (List.mem_append_right _ (List.mem_append_right _ (List.mem_append_left _ (List.mem_of_getElem? (i := 83) (l := tables_1_2) rfl))))
theorem lk257 : (Cond.code y_GS_link prog_1_method_6_code 2 (some .int) : Cond) ∈ lw_tbl := (List.mem_append_right _ (List.mem_append_right _ (List.mem_append_left _ (List.mem_of_getElem? (i := 84) (l := tables_1_2) rfl))))
theorem lk258 : (Cond.methodLink R_GS 86 y_MT_isCompiled : Cond) ∈ lw_tbl := (List.mem_append_right _ (List.mem_append_right _ (List.mem_append_left _ (List.mem_of_getElem? (i := 85) (l := tables_1_2) rfl))))
theorem lk259 : (Cond.instanceMethod y_MT_isCompiled : Cond) ∈ lw_tbl := (List.mem_append_right _ (List.mem_append_right _ (List.mem_append_left _ (List.mem_of_getElem? (i := 86) (l := tables_1_2) rfl))))
theorem lk260 : (Cond.selects R_MT y_MT_isCompiled y_MT_isCompiled : Cond) ∈ lw_tbl := (List.mem_append_right _ (List.mem_append_right _ (List.mem_append_left _ (List.mem_of_getElem? (i := 87) (l := tables_1_2) rfl))))
theorem lk261 : (Cond.code y_MT_isCompiled prog_4_method_13_code 1 (some .boolean) : Cond) ∈ lw_tbl := (List.mem_append_right _ (List.mem_append_right _ (List.mem_append_left _ (List.mem_of_getElem? (i := 88) (l := tables_1_2) rfl))))
theorem lk262 : (Cond.methodLink R_GS 89 y_PR_join : Cond) ∈ lw_tbl := (List.mem_append_right _ (List.mem_append_right _ (List.mem_append_left _ (List.mem_of_getElem? (i := 89) (l := tables_1_2) rfl))))
theorem lk263 : (Cond.instanceMethod y_PR_join : Cond) ∈ lw_tbl := (List.mem_append_right _ (List.mem_append_right _ (List.mem_append_left _ (List.mem_of_getElem? (i := 90) (l := tables_1_2) rfl))))
theorem lk264 : (Cond.selects R_PR y_PR_join y_PR_join : Cond) ∈ lw_tbl := (List.mem_append_right _ (List.mem_append_right _ (List.mem_append_left _ (List.mem_of_getElem? (i := 91) (l := tables_1_2) rfl))))
theorem lk265 : (Cond.code y_PR_join prog_5_method_2_code 3 (some .int) : Cond) ∈ lw_tbl := (List.mem_append_right _ (List.mem_append_right _ (List.mem_append_left _ (List.mem_of_getElem? (i := 92) (l := tables_1_2) rfl))))
theorem lk266 : (Cond.methodLink R_PR 21 y_PR_forget : Cond) ∈ lw_tbl := (List.mem_append_right _ (List.mem_append_right _ (List.mem_append_left _ (List.mem_of_getElem? (i := 93) (l := tables_1_2) rfl))))
theorem lk267 : (Cond.instanceMethod y_PR_forget : Cond) ∈ lw_tbl := (List.mem_append_right _ (List.mem_append_right _ (List.mem_append_left _ (List.mem_of_getElem? (i := 95) (l := tables_1_2) rfl))))
theorem lk268 : (Cond.code y_PR_forget prog_5_method_4_code 2 none : Cond) ∈ lw_tbl := (List.mem_append_right _ (List.mem_append_right _ (List.mem_append_left _ (List.mem_of_getElem? (i := 96) (l := tables_1_2) rfl))))
theorem lk269 : (Cond.methodLink R_PR 28 y_MT_defined : Cond) ∈ lw_tbl := (List.mem_append_right _ (List.mem_append_right _ (List.mem_append_left _ (List.mem_of_getElem? (i := 97) (l := tables_1_2) rfl))))
theorem lk270 : (Cond.methodLink R_PR 31 y_PR_takeOver : Cond) ∈ lw_tbl := (List.mem_append_right _ (List.mem_append_right _ (List.mem_append_left _ (List.mem_of_getElem? (i := 98) (l := tables_1_2) rfl))))
theorem lk271 : (Cond.instanceMethod y_PR_takeOver : Cond) ∈ lw_tbl := (List.mem_append_right _ (List.mem_append_right _ (List.mem_append_left _ (List.mem_of_getElem? (i := 100) (l := tables_1_2) rfl))))
theorem lk272 : (Cond.code y_PR_takeOver prog_5_method_5_code 3 none : Cond) ∈ lw_tbl := (List.mem_append_right _ (List.mem_append_right _ (List.mem_append_left _ (List.mem_of_getElem? (i := 101) (l := tables_1_2) rfl))))
theorem lk273 : (Cond.methodLink R_PR 59 y_MT_callsOf : Cond) ∈ lw_tbl := (List.mem_append_right _ (List.mem_append_right _ (List.mem_append_left _ (List.mem_of_getElem? (i := 103) (l := tables_1_2) rfl))))
theorem lk274 : (Cond.instanceMethod y_MT_callsOf : Cond) ∈ lw_tbl := (List.mem_append_right _ (List.mem_append_right _ (List.mem_append_left _ (List.mem_of_getElem? (i := 104) (l := tables_1_2) rfl))))
theorem lk275 : (Cond.selects R_MT y_MT_callsOf y_MT_callsOf : Cond) ∈ lw_tbl := (List.mem_append_right _ (List.mem_append_right _ (List.mem_append_left _ (List.mem_of_getElem? (i := 105) (l := tables_1_2) rfl))))
theorem lk276 : (Cond.code y_MT_callsOf prog_4_method_16_code 2 (some .int) : Cond) ∈ lw_tbl := (List.mem_append_right _ (List.mem_append_right _ (List.mem_append_left _ (List.mem_of_getElem? (i := 106) (l := tables_1_2) rfl))))
theorem lk277 : (Cond.methodLink R_PR 35 y_PR_lacksOne : Cond) ∈ lw_tbl := (List.mem_append_right _ (List.mem_append_right _ (List.mem_append_left _ (List.mem_of_getElem? (i := 107) (l := tables_1_2) rfl))))
theorem lk278 : (Cond.instanceMethod y_PR_lacksOne : Cond) ∈ lw_tbl := (List.mem_append_right _ (List.mem_append_right _ (List.mem_append_left _ (List.mem_of_getElem? (i := 109) (l := tables_1_2) rfl))))
theorem lk279 : (Cond.code y_PR_lacksOne prog_5_method_6_code 3 (some .boolean) : Cond) ∈ lw_tbl := (List.mem_append_right _ (List.mem_append_right _ (List.mem_append_left _ (List.mem_of_getElem? (i := 110) (l := tables_1_2) rfl))))
theorem lk280 : (Cond.methodLink R_PR 39 y_PR_followChains : Cond) ∈ lw_tbl := (List.mem_append_right _ (List.mem_append_right _ (List.mem_append_left _ (List.mem_of_getElem? (i := 111) (l := tables_1_2) rfl))))
theorem lk281 : (Cond.instanceMethod y_PR_followChains : Cond) ∈ lw_tbl := (List.mem_append_right _ (List.mem_append_right _ (List.mem_append_left _ (List.mem_of_getElem? (i := 113) (l := tables_1_2) rfl))))
theorem lk282 : (Cond.code y_PR_followChains prog_5_method_7_code 3 none : Cond) ∈ lw_tbl := (List.mem_append_right _ (List.mem_append_right _ (List.mem_append_left _ (List.mem_of_getElem? (i := 114) (l := tables_1_2) rfl))))
theorem lk283 : (Cond.methodLink R_PR 42 y_PR_hasCircle : Cond) ∈ lw_tbl := (List.mem_append_right _ (List.mem_append_right _ (List.mem_append_left _ (List.mem_of_getElem? (i := 115) (l := tables_1_2) rfl))))
theorem lk284 : (Cond.instanceMethod y_PR_hasCircle : Cond) ∈ lw_tbl := (List.mem_append_right _ (List.mem_append_right _ (List.mem_append_left _ (List.mem_of_getElem? (i := 117) (l := tables_1_2) rfl))))
theorem lk285 : (Cond.code y_PR_hasCircle prog_5_method_8_code 2 (some .boolean) : Cond) ∈ lw_tbl := (List.mem_append_right _ (List.mem_append_right _ (List.mem_append_left _ (List.mem_of_getElem? (i := 118) (l := tables_1_2) rfl))))
theorem lk286 : (Cond.methodLink R_PR 45 y_JI_bitCount : Cond) ∈ lw_tbl := (List.mem_append_right _ (List.mem_append_right _ (List.mem_append_left _ (List.mem_of_getElem? (i := 119) (l := tables_1_2) rfl))))
theorem lk287 : (Cond.methodLink "GateStackLaw" 36 y_GS_start : Cond) ∈ lw_tbl := (List.mem_append_right _ (List.mem_append_right _ (List.mem_append_left _ (List.mem_of_getElem? (i := 120) (l := tables_1_2) rfl))))
theorem lk288 : (Cond.instanceMethod y_GS_start : Cond) ∈ lw_tbl := (List.mem_append_right _ (List.mem_append_right _ (List.mem_append_left _ (List.mem_of_getElem? (i := 121) (l := tables_1_2) rfl))))
theorem lk289 : (Cond.selects R_GS y_GS_start y_GS_start : Cond) ∈ lw_tbl := (List.mem_append_right _ (List.mem_append_right _ (List.mem_append_left _ (List.mem_of_getElem? (i := 122) (l := tables_1_2) rfl))))
theorem lk290 : (Cond.code y_GS_start prog_1_method_7_code 1 (some .int) : Cond) ∈ lw_tbl := (List.mem_append_right _ (List.mem_append_right _ (List.mem_append_left _ (List.mem_of_getElem? (i := 123) (l := tables_1_2) rfl))))
theorem lk291 : (Cond.methodLink R_GS 93 y_MA_isGoing : Cond) ∈ lw_tbl := (List.mem_append_right _ (List.mem_append_right _ (List.mem_append_left _ (List.mem_of_getElem? (i := 124) (l := tables_1_2) rfl))))
theorem lk292 : (Cond.instanceMethod y_MA_isGoing : Cond) ∈ lw_tbl := (List.mem_append_right _ (List.mem_append_right _ (List.mem_append_left _ (List.mem_of_getElem? (i := 125) (l := tables_1_2) rfl))))
theorem lk293 : (Cond.selects R_MA y_MA_isGoing y_MA_isGoing : Cond) ∈ lw_tbl := (List.mem_append_right _ (List.mem_append_right _ (List.mem_append_left _ (List.mem_of_getElem? (i := 126) (l := tables_1_2) rfl))))
theorem lk294 : (Cond.code y_MA_isGoing prog_3_method_2_code 1 (some .boolean) : Cond) ∈ lw_tbl := (List.mem_append_right _ (List.mem_append_right _ (List.mem_append_left _ (List.mem_of_getElem? (i := 127) (l := tables_1_2) rfl))))
theorem lk295 : (Cond.methodLink R_GS 96 y_MA_begin : Cond) ∈ lw_tbl := (List.mem_append_right _ (List.mem_append_right _ (List.mem_append_left _ (List.mem_of_getElem? (i := 128) (l := tables_1_2) rfl))))
theorem lk296 : (Cond.instanceMethod y_MA_begin : Cond) ∈ lw_tbl := (List.mem_append_right _ (List.mem_append_right _ (List.mem_append_left _ (List.mem_of_getElem? (i := 129) (l := tables_1_2) rfl))))
theorem lk297 : (Cond.selects R_MA y_MA_begin y_MA_begin : Cond) ∈ lw_tbl := (List.mem_append_right _ (List.mem_append_right _ (List.mem_append_left _ (List.mem_of_getElem? (i := 130) (l := tables_1_2) rfl))))
theorem lk298 : (Cond.code y_MA_begin prog_3_method_10_code 2 none : Cond) ∈ lw_tbl := (List.mem_append_right _ (List.mem_append_right _ (List.mem_append_left _ (List.mem_of_getElem? (i := 131) (l := tables_1_2) rfl))))
theorem lk299 : (Cond.methodLink R_MA 42 y_MA_enter : Cond) ∈ lw_tbl := (List.mem_append_right _ (List.mem_append_right _ (List.mem_append_left _ (List.mem_of_getElem? (i := 132) (l := tables_1_2) rfl))))
theorem lk300 : (Cond.instanceMethod y_MA_enter : Cond) ∈ lw_tbl := (List.mem_append_right _ (List.mem_append_right _ (List.mem_append_left _ (List.mem_of_getElem? (i := 134) (l := tables_1_2) rfl))))
theorem lk301 : (Cond.code y_MA_enter prog_3_method_13_code 4 none : Cond) ∈ lw_tbl := (List.mem_append_right _ (List.mem_append_right _ (List.mem_append_left _ (List.mem_of_getElem? (i := 135) (l := tables_1_2) rfl))))
theorem lk302 : (Cond.methodLink R_MA 60 y_PR_homeOf : Cond) ∈ lw_tbl := (List.mem_append_right _ (List.mem_append_right _ (List.mem_append_left _ (List.mem_of_getElem? (i := 136) (l := tables_1_2) rfl))))
theorem lk303 : (Cond.instanceMethod y_PR_homeOf : Cond) ∈ lw_tbl := (List.mem_append_right _ (List.mem_append_right _ (List.mem_append_left _ (List.mem_of_getElem? (i := 137) (l := tables_1_2) rfl))))
theorem lk304 : (Cond.selects R_PR y_PR_homeOf y_PR_homeOf : Cond) ∈ lw_tbl := (List.mem_append_right _ (List.mem_append_right _ (List.mem_append_left _ (List.mem_of_getElem? (i := 138) (l := tables_1_2) rfl))))
theorem lk305 : (Cond.code y_PR_homeOf prog_5_method_3_code 2 (some (.object "GateStack$ModuleText")) : Cond) ∈ lw_tbl := (List.mem_append_right _ (List.mem_append_right _ (List.mem_append_left _ (List.mem_of_getElem? (i := 139) (l := tables_1_2) rfl))))
theorem lk306 : (Cond.methodLink R_MA 66 y_MT_firstPlaceOf : Cond) ∈ lw_tbl := (List.mem_append_right _ (List.mem_append_right _ (List.mem_append_left _ (List.mem_of_getElem? (i := 141) (l := tables_1_2) rfl))))
theorem lk307 : (Cond.instanceMethod y_MT_firstPlaceOf : Cond) ∈ lw_tbl := (List.mem_append_right _ (List.mem_append_right _ (List.mem_append_left _ (List.mem_of_getElem? (i := 142) (l := tables_1_2) rfl))))
theorem lk308 : (Cond.selects R_MT y_MT_firstPlaceOf y_MT_firstPlaceOf : Cond) ∈ lw_tbl := (List.mem_append_right _ (List.mem_append_right _ (List.mem_append_left _ (List.mem_of_getElem? (i := 143) (l := tables_1_2) rfl))))
theorem lk309 : (Cond.code y_MT_firstPlaceOf prog_4_method_17_code 2 (some .int) : Cond) ∈ lw_tbl := (List.mem_append_right _ (List.mem_append_right _ (List.mem_append_left _ (List.mem_of_getElem? (i := 144) (l := tables_1_2) rfl))))
theorem lk310 : (Cond.methodLink R_MA 46 y_MA_leaveEndedBlocks : Cond) ∈ lw_tbl := (List.mem_append_right _ (List.mem_append_right _ (List.mem_append_left _ (List.mem_of_getElem? (i := 145) (l := tables_1_2) rfl))))
theorem lk311 : (Cond.instanceMethod y_MA_leaveEndedBlocks : Cond) ∈ lw_tbl := (List.mem_append_right _ (List.mem_append_right _ (List.mem_append_left _ (List.mem_of_getElem? (i := 147) (l := tables_1_2) rfl))))
theorem lk312 : (Cond.code y_MA_leaveEndedBlocks prog_3_method_16_code 5 none : Cond) ∈ lw_tbl := (List.mem_append_right _ (List.mem_append_right _ (List.mem_append_left _ (List.mem_of_getElem? (i := 148) (l := tables_1_2) rfl))))
theorem lk313 : (Cond.methodLink R_MA 32 y_MA_currentText : Cond) ∈ lw_tbl := (List.mem_append_right _ (List.mem_append_right _ (List.mem_append_left _ (List.mem_of_getElem? (i := 149) (l := tables_1_2) rfl))))
theorem lk314 : (Cond.instanceMethod y_MA_currentText : Cond) ∈ lw_tbl := (List.mem_append_right _ (List.mem_append_right _ (List.mem_append_left _ (List.mem_of_getElem? (i := 151) (l := tables_1_2) rfl))))
theorem lk315 : (Cond.code y_MA_currentText prog_3_method_12_code 2 (some (.object "GateStack$ModuleText")) : Cond) ∈ lw_tbl := (List.mem_append_right _ (List.mem_append_right _ (List.mem_append_left _ (List.mem_of_getElem? (i := 152) (l := tables_1_2) rfl))))
theorem lk316 : (Cond.methodLink R_MA 50 y_MT_signAt : Cond) ∈ lw_tbl := (List.mem_append_right _ (List.mem_append_right _ (List.mem_append_left _ (List.mem_of_getElem? (i := 153) (l := tables_1_2) rfl))))
theorem lk317 : (Cond.methodLink R_MA 93 y_MT_endsProcedure : Cond) ∈ lw_tbl := (List.mem_append_right _ (List.mem_append_right _ (List.mem_append_left _ (List.mem_of_getElem? (i := 154) (l := tables_1_2) rfl))))
theorem lk318 : (Cond.instanceMethod y_MT_endsProcedure : Cond) ∈ lw_tbl := (List.mem_append_right _ (List.mem_append_right _ (List.mem_append_left _ (List.mem_of_getElem? (i := 155) (l := tables_1_2) rfl))))
theorem lk319 : (Cond.selects R_MT y_MT_endsProcedure y_MT_endsProcedure : Cond) ∈ lw_tbl := (List.mem_append_right _ (List.mem_append_right _ (List.mem_append_left _ (List.mem_of_getElem? (i := 156) (l := tables_1_2) rfl))))
theorem lk320 : (Cond.code y_MT_endsProcedure prog_4_method_18_code 2 (some .boolean) : Cond) ∈ lw_tbl := (List.mem_append_right _ (List.mem_append_right _ (List.mem_append_left _ (List.mem_of_getElem? (i := 157) (l := tables_1_2) rfl))))
theorem lk321 : (Cond.methodLink R_MT 58 y_MT_signAt : Cond) ∈ lw_tbl := (List.mem_append_right _ (List.mem_append_right _ (List.mem_append_left _ (List.mem_of_getElem? (i := 158) (l := tables_1_2) rfl))))
theorem lk322 : (Cond.methodLink R_MA 96 y_MT_behindBlock : Cond) ∈ lw_tbl := (List.mem_append_right _ (List.mem_append_right _ (List.mem_append_left _ (List.mem_of_getElem? (i := 160) (l := tables_1_2) rfl))))
theorem lk323 : (Cond.instanceMethod y_MT_behindBlock : Cond) ∈ lw_tbl := (List.mem_append_right _ (List.mem_append_right _ (List.mem_append_left _ (List.mem_of_getElem? (i := 161) (l := tables_1_2) rfl))))
theorem lk324 : (Cond.selects R_MT y_MT_behindBlock y_MT_behindBlock : Cond) ∈ lw_tbl := (List.mem_append_right _ (List.mem_append_right _ (List.mem_append_left _ (List.mem_of_getElem? (i := 162) (l := tables_1_2) rfl))))
theorem lk325 : (Cond.code y_MT_behindBlock prog_4_method_19_code 3 (some .int) : Cond) ∈ lw_tbl := (List.mem_append_right _ (List.mem_append_right _ (List.mem_append_left _ (List.mem_of_getElem? (i := 163) (l := tables_1_2) rfl))))
theorem lk326 : (Cond.methodLink R_MT 65 y_MT_behindEndOf : Cond) ∈ lw_tbl := (List.mem_append_right _ (List.mem_append_right _ (List.mem_append_left _ (List.mem_of_getElem? (i := 164) (l := tables_1_2) rfl))))
theorem lk327 : (Cond.instanceMethod y_MT_behindEndOf : Cond) ∈ lw_tbl := (List.mem_append_right _ (List.mem_append_right _ (List.mem_append_left _ (List.mem_of_getElem? (i := 166) (l := tables_1_2) rfl))))
theorem lk328 : (Cond.code y_MT_behindEndOf prog_4_method_21_code 2 (some .int) : Cond) ∈ lw_tbl := (List.mem_append_right _ (List.mem_append_right _ (List.mem_append_left _ (List.mem_of_getElem? (i := 167) (l := tables_1_2) rfl))))
theorem lk329 : (Cond.methodLink "GateStackLaw" 40 y_GS_run : Cond) ∈ lw_tbl := (List.mem_append_right _ (List.mem_append_right _ (List.mem_append_left _ (List.mem_of_getElem? (i := 168) (l := tables_1_2) rfl))))
theorem lk330 : (Cond.instanceMethod y_GS_run : Cond) ∈ lw_tbl := (List.mem_append_right _ (List.mem_append_right _ (List.mem_append_left _ (List.mem_of_getElem? (i := 169) (l := tables_1_2) rfl))))
theorem lk331 : (Cond.selects R_GS y_GS_run y_GS_run : Cond) ∈ lw_tbl := (List.mem_append_right _ (List.mem_append_right _ (List.mem_append_left _ (List.mem_of_getElem? (i := 170) (l := tables_1_2) rfl))))
theorem lk332 : (Cond.code y_GS_run prog_1_method_8_code 3 (some .int) : Cond) ∈ lw_tbl := (List.mem_append_right _ (List.mem_append_right _ (List.mem_append_left _ (List.mem_of_getElem? (i := 171) (l := tables_1_2) rfl))))
theorem lk333 : (Cond.methodLink R_GS 100 y_MA_step : Cond) ∈ lw_tbl := (List.mem_append_right _ (List.mem_append_right _ (List.mem_append_left _ (List.mem_of_getElem? (i := 172) (l := tables_1_2) rfl))))
theorem lk334 : (Cond.instanceMethod y_MA_step : Cond) ∈ lw_tbl := (List.mem_append_right _ (List.mem_append_right _ (List.mem_append_left _ (List.mem_of_getElem? (i := 173) (l := tables_1_2) rfl))))
theorem lk335 : (Cond.selects R_MA y_MA_step y_MA_step : Cond) ∈ lw_tbl := (List.mem_append_right _ (List.mem_append_right _ (List.mem_append_left _ (List.mem_of_getElem? (i := 174) (l := tables_1_2) rfl))))
theorem lk336 : (Cond.code y_MA_step prog_3_method_11_code 7 none : Cond) ∈ lw_tbl := (List.mem_append_right _ (List.mem_append_right _ (List.mem_append_left _ (List.mem_of_getElem? (i := 175) (l := tables_1_2) rfl))))
theorem lk337 : (Cond.methodLink R_MA 56 y_MA_placeBehind : Cond) ∈ lw_tbl := (List.mem_append_right _ (List.mem_append_right _ (List.mem_append_left _ (List.mem_of_getElem? (i := 177) (l := tables_1_2) rfl))))
theorem lk338 : (Cond.instanceMethod y_MA_placeBehind : Cond) ∈ lw_tbl := (List.mem_append_right _ (List.mem_append_right _ (List.mem_append_left _ (List.mem_of_getElem? (i := 179) (l := tables_1_2) rfl))))
theorem lk339 : (Cond.code y_MA_placeBehind prog_3_method_14_code 8 (some .int) : Cond) ∈ lw_tbl := (List.mem_append_right _ (List.mem_append_right _ (List.mem_append_left _ (List.mem_of_getElem? (i := 180) (l := tables_1_2) rfl))))
theorem lk340 : (Cond.methodLink R_MA 72 y_CA_valueAt : Cond) ∈ lw_tbl := (List.mem_append_right _ (List.mem_append_right _ (List.mem_append_left _ (List.mem_of_getElem? (i := 182) (l := tables_1_2) rfl))))
theorem lk341 : (Cond.instanceMethod y_CA_valueAt : Cond) ∈ lw_tbl := (List.mem_append_right _ (List.mem_append_right _ (List.mem_append_left _ (List.mem_of_getElem? (i := 183) (l := tables_1_2) rfl))))
theorem lk342 : (Cond.selects R_CA y_CA_valueAt y_CA_valueAt : Cond) ∈ lw_tbl := (List.mem_append_right _ (List.mem_append_right _ (List.mem_append_left _ (List.mem_of_getElem? (i := 184) (l := tables_1_2) rfl))))
theorem lk343 : (Cond.code y_CA_valueAt prog_2_method_4_code 3 (some .int) : Cond) ∈ lw_tbl := (List.mem_append_right _ (List.mem_append_right _ (List.mem_append_left _ (List.mem_of_getElem? (i := 185) (l := tables_1_2) rfl))))
theorem lk344 : (Cond.methodLink R_CA 23 y_CA_expression : Cond) ∈ lw_tbl := (List.mem_append_right _ (List.mem_append_right _ (List.mem_append_left _ (List.mem_of_getElem? (i := 186) (l := tables_1_2) rfl))))
theorem lk345 : (Cond.instanceMethod y_CA_expression : Cond) ∈ lw_tbl := (List.mem_append_right _ (List.mem_append_right _ (List.mem_append_left _ (List.mem_of_getElem? (i := 188) (l := tables_1_2) rfl))))
theorem lk346 : (Cond.code y_CA_expression prog_2_method_6_code 6 (some .int) : Cond) ∈ lw_tbl := (List.mem_append_right _ (List.mem_append_right _ (List.mem_append_left _ (List.mem_of_getElem? (i := 189) (l := tables_1_2) rfl))))
theorem lk347 : (Cond.methodLink R_CA 27 y_CA_operand : Cond) ∈ lw_tbl := (List.mem_append_right _ (List.mem_append_right _ (List.mem_append_left _ (List.mem_of_getElem? (i := 190) (l := tables_1_2) rfl))))
theorem lk348 : (Cond.instanceMethod y_CA_operand : Cond) ∈ lw_tbl := (List.mem_append_right _ (List.mem_append_right _ (List.mem_append_left _ (List.mem_of_getElem? (i := 192) (l := tables_1_2) rfl))))
theorem lk349 : (Cond.code y_CA_operand prog_2_method_7_code 5 (some .int) : Cond) ∈ lw_tbl := (List.mem_append_right _ (List.mem_append_right _ (List.mem_append_left _ (List.mem_of_getElem? (i := 193) (l := tables_1_2) rfl))))
theorem lk350 : (Cond.methodLink R_CA 30 y_MT_signAt : Cond) ∈ lw_tbl := (List.mem_append_right _ (List.mem_append_right _ (List.mem_append_left _ (List.mem_of_getElem? (i := 194) (l := tables_1_2) rfl))))
theorem lk351 : (Cond.methodLink R_CA 46 y_CA_number : Cond) ∈ lw_tbl := (List.mem_append_right _ (List.mem_append_right _ (List.mem_append_left _ (List.mem_of_getElem? (i := 196) (l := tables_1_2) rfl))))
theorem lk352 : (Cond.instanceMethod y_CA_number : Cond) ∈ lw_tbl := (List.mem_append_right _ (List.mem_append_right _ (List.mem_append_left _ (List.mem_of_getElem? (i := 198) (l := tables_1_2) rfl))))
theorem lk353 : (Cond.code y_CA_number prog_2_method_8_code 4 (some .int) : Cond) ∈ lw_tbl := (List.mem_append_right _ (List.mem_append_right _ (List.mem_append_left _ (List.mem_of_getElem? (i := 199) (l := tables_1_2) rfl))))
theorem lk354 : (Cond.static y_GS_worked : Cond) ∈ lw_tbl := (List.mem_append_right _ (List.mem_append_right _ (List.mem_append_left _ (List.mem_of_getElem? (i := 203) (l := tables_1_2) rfl))))
theorem lk355 : (Cond.code y_GS_worked prog_1_method_26_code 3 (some .int) : Cond) ∈ lw_tbl := (List.mem_append_right _ (List.mem_append_right _ (List.mem_append_left _ (List.mem_of_getElem? (i := 204) (l := tables_1_2) rfl))))
theorem lk356 : (Cond.methodLink R_MA 78 y_CA_cursor : Cond) ∈ lw_tbl := (List.mem_append_right _ (List.mem_append_right _ (List.mem_append_left _ (List.mem_of_getElem? (i := 205) (l := tables_1_2) rfl))))
theorem lk357 : (Cond.instanceMethod y_CA_cursor : Cond) ∈ lw_tbl := (List.mem_append_right _ (List.mem_append_right _ (List.mem_append_left _ (List.mem_of_getElem? (i := 206) (l := tables_1_2) rfl))))
theorem lk358 : (Cond.selects R_CA y_CA_cursor y_CA_cursor : Cond) ∈ lw_tbl := (List.mem_append_right _ (List.mem_append_right _ (List.mem_append_left _ (List.mem_of_getElem? (i := 207) (l := tables_1_2) rfl))))
theorem lk359 : (Cond.code y_CA_cursor prog_2_method_5_code 1 (some .int) : Cond) ∈ lw_tbl := (List.mem_append_right _ (List.mem_append_right _ (List.mem_append_left _ (List.mem_of_getElem? (i := 208) (l := tables_1_2) rfl))))
theorem lk360 : (Cond.methodLink R_MA 82 y_CA_assign : Cond) ∈ lw_tbl := (List.mem_append_right _ (List.mem_append_right _ (List.mem_append_left _ (List.mem_of_getElem? (i := 209) (l := tables_1_2) rfl))))
theorem lk361 : (Cond.instanceMethod y_CA_assign : Cond) ∈ lw_tbl := (List.mem_append_right _ (List.mem_append_right _ (List.mem_append_left _ (List.mem_of_getElem? (i := 210) (l := tables_1_2) rfl))))
theorem lk362 : (Cond.selects R_CA y_CA_assign y_CA_assign : Cond) ∈ lw_tbl := (List.mem_append_right _ (List.mem_append_right _ (List.mem_append_left _ (List.mem_of_getElem? (i := 211) (l := tables_1_2) rfl))))
theorem lk363 : (Cond.code y_CA_assign prog_2_method_2_code 3 (some .boolean) : Cond) ∈ lw_tbl := (List.mem_append_right _ (List.mem_append_right _ (List.mem_append_left _ (List.mem_of_getElem? (i := 212) (l := tables_1_2) rfl))))
theorem lk364 : (Cond.static y_GS_isVariableNumber : Cond) ∈ lw_tbl := (List.mem_append_right _ (List.mem_append_right _ (List.mem_append_left _ (List.mem_of_getElem? (i := 214) (l := tables_1_2) rfl))))
theorem lk365 : (Cond.code y_GS_isVariableNumber prog_1_method_18_code 1 (some .boolean) : Cond) ∈ lw_tbl := (List.mem_append_right _ (List.mem_append_right _ (List.mem_append_left _ (List.mem_of_getElem? (i := 215) (l := tables_1_2) rfl))))
theorem lk366 : (Cond.methodLink R_MA 86 y_MA_keep : Cond) ∈ lw_tbl := (List.mem_append_right _ (List.mem_append_right _ (List.mem_append_left _ (List.mem_of_getElem? (i := 216) (l := tables_1_2) rfl))))
theorem lk367 : (Cond.instanceMethod y_MA_keep : Cond) ∈ lw_tbl := (List.mem_append_right _ (List.mem_append_right _ (List.mem_append_left _ (List.mem_of_getElem? (i := 218) (l := tables_1_2) rfl))))
theorem lk368 : (Cond.code y_MA_keep prog_3_method_15_code 2 none : Cond) ∈ lw_tbl := (List.mem_append_right _ (List.mem_append_right _ (List.mem_append_left _ (List.mem_of_getElem? (i := 219) (l := tables_1_2) rfl))))
theorem lk369 : (Cond.methodLink R_MA 90 y_MT_placeIfZero : Cond) ∈ lw_tbl := (List.mem_append_right _ (List.mem_append_right _ (List.mem_append_left _ (List.mem_of_getElem? (i := 220) (l := tables_1_2) rfl))))
theorem lk370 : (Cond.instanceMethod y_MT_placeIfZero : Cond) ∈ lw_tbl := (List.mem_append_right _ (List.mem_append_right _ (List.mem_append_left _ (List.mem_of_getElem? (i := 221) (l := tables_1_2) rfl))))
theorem lk371 : (Cond.selects R_MT y_MT_placeIfZero y_MT_placeIfZero : Cond) ∈ lw_tbl := (List.mem_append_right _ (List.mem_append_right _ (List.mem_append_left _ (List.mem_of_getElem? (i := 222) (l := tables_1_2) rfl))))
theorem lk372 : (Cond.code y_MT_placeIfZero prog_4_method_20_code 3 (some .int) : Cond) ∈ lw_tbl := (List.mem_append_right _ (List.mem_append_right _ (List.mem_append_left _ (List.mem_of_getElem? (i := 223) (l := tables_1_2) rfl))))
theorem lk373 : (Cond.methodLink "GateStackLaw" 44 y_GS_stop : Cond) ∈ lw_tbl := (List.mem_append_right _ (List.mem_append_right _ (List.mem_append_left _ (List.mem_of_getElem? (i := 224) (l := tables_1_2) rfl))))
theorem lk374 : (Cond.instanceMethod y_GS_stop : Cond) ∈ lw_tbl := (List.mem_append_right _ (List.mem_append_right _ (List.mem_append_left _ (List.mem_of_getElem? (i := 225) (l := tables_1_2) rfl))))
theorem lk375 : (Cond.selects R_GS y_GS_stop y_GS_stop : Cond) ∈ lw_tbl := (List.mem_append_right _ (List.mem_append_right _ (List.mem_append_left _ (List.mem_of_getElem? (i := 226) (l := tables_1_2) rfl))))
theorem lk376 : (Cond.code y_GS_stop prog_1_method_9_code 1 (some .int) : Cond) ∈ lw_tbl := (List.mem_append_right _ (List.mem_append_right _ (List.mem_append_left _ (List.mem_of_getElem? (i := 227) (l := tables_1_2) rfl))))
theorem lk377 : (Cond.methodLink "GateStackLaw" 48 y_GS_set : Cond) ∈ lw_tbl := (List.mem_append_right _ (List.mem_append_right _ (List.mem_append_left _ (List.mem_of_getElem? (i := 228) (l := tables_1_2) rfl))))
theorem lk378 : (Cond.instanceMethod y_GS_set : Cond) ∈ lw_tbl := (List.mem_append_right _ (List.mem_append_right _ (List.mem_append_left _ (List.mem_of_getElem? (i := 229) (l := tables_1_2) rfl))))
theorem lk379 : (Cond.selects R_GS y_GS_set y_GS_set : Cond) ∈ lw_tbl := (List.mem_append_right _ (List.mem_append_right _ (List.mem_append_left _ (List.mem_of_getElem? (i := 230) (l := tables_1_2) rfl))))
theorem lk380 : (Cond.code y_GS_set prog_1_method_10_code 3 (some .int) : Cond) ∈ lw_tbl := (List.mem_append_right _ (List.mem_append_right _ (List.mem_append_left _ (List.mem_of_getElem? (i := 231) (l := tables_1_2) rfl))))
theorem lk381 : (Cond.methodLink R_GS 107 y_CA_assign : Cond) ∈ lw_tbl := (List.mem_append_right _ (List.mem_append_right _ (List.mem_append_left _ (List.mem_of_getElem? (i := 232) (l := tables_1_2) rfl))))
theorem lk382 : (Cond.methodLink "GateStackLaw" 52 y_GS_get : Cond) ∈ lw_tbl := (List.mem_append_right _ (List.mem_append_right _ (List.mem_append_left _ (List.mem_of_getElem? (i := 233) (l := tables_1_2) rfl))))
theorem lk383 : (Cond.instanceMethod y_GS_get : Cond) ∈ lw_tbl := (List.mem_append_right _ (List.mem_append_right _ (List.mem_append_left _ (List.mem_of_getElem? (i := 234) (l := tables_1_2) rfl))))
theorem lk384 : (Cond.selects R_GS y_GS_get y_GS_get : Cond) ∈ lw_tbl := (List.mem_append_right _ (List.mem_append_right _ (List.mem_append_left _ (List.mem_of_getElem? (i := 235) (l := tables_1_2) rfl))))
theorem lk385 : (Cond.code y_GS_get prog_1_method_11_code 2 (some .long) : Cond) ∈ lw_tbl := (List.mem_append_right _ (List.mem_append_right _ (List.mem_append_left _ (List.mem_of_getElem? (i := 236) (l := tables_1_2) rfl))))
theorem lk386 : (Cond.methodLink R_GS 111 y_GS_isVariableNumber : Cond) ∈ lw_tbl := (List.mem_append_right _ (List.mem_append_right _ (List.mem_append_left _ (List.mem_of_getElem? (i := 237) (l := tables_1_2) rfl))))
theorem lk387 : (Cond.methodLink R_GS 114 y_CA_variable : Cond) ∈ lw_tbl := (List.mem_append_right _ (List.mem_append_right _ (List.mem_append_left _ (List.mem_of_getElem? (i := 238) (l := tables_1_2) rfl))))
theorem lk388 : (Cond.instanceMethod y_CA_variable : Cond) ∈ lw_tbl := (List.mem_append_right _ (List.mem_append_right _ (List.mem_append_left _ (List.mem_of_getElem? (i := 239) (l := tables_1_2) rfl))))
theorem lk389 : (Cond.selects R_CA y_CA_variable y_CA_variable : Cond) ∈ lw_tbl := (List.mem_append_right _ (List.mem_append_right _ (List.mem_append_right _ (List.mem_append_left _ (List.mem_of_getElem? (i := 0) (l := tables_1_3) rfl)))))
theorem lk390 : (Cond.code y_CA_variable prog_2_method_3_code 2 (some .int) : Cond) ∈ lw_tbl := (List.mem_append_right _ (List.mem_append_right _ (List.mem_append_right _ (List.mem_append_left _ (List.mem_of_getElem? (i := 1) (l := tables_1_3) rfl)))))
theorem lk391 : (Cond.constantLong R_GS 117 (-1000000000000) : Cond) ∈ lw_tbl := (List.mem_append_right _ (List.mem_append_right _ (List.mem_append_right _ (List.mem_append_left _ (List.mem_of_getElem? (i := 2) (l := tables_1_3) rfl)))))
theorem lk392 : (Cond.methodLink "GateStackLaw" 57 y_GS_output : Cond) ∈ lw_tbl := (List.mem_append_right _ (List.mem_append_right _ (List.mem_append_right _ (List.mem_append_left _ (List.mem_of_getElem? (i := 3) (l := tables_1_3) rfl)))))
theorem lk393 : (Cond.instanceMethod y_GS_output : Cond) ∈ lw_tbl := (List.mem_append_right _ (List.mem_append_right _ (List.mem_append_right _ (List.mem_append_left _ (List.mem_of_getElem? (i := 4) (l := tables_1_3) rfl)))))
theorem lk394 : (Cond.selects R_GS y_GS_output y_GS_output : Cond) ∈ lw_tbl := (List.mem_append_right _ (List.mem_append_right _ (List.mem_append_right _ (List.mem_append_left _ (List.mem_of_getElem? (i := 5) (l := tables_1_3) rfl)))))
theorem lk395 : (Cond.code y_GS_output prog_1_method_12_code 2 (some .long) : Cond) ∈ lw_tbl := (List.mem_append_right _ (List.mem_append_right _ (List.mem_append_right _ (List.mem_append_left _ (List.mem_of_getElem? (i := 6) (l := tables_1_3) rfl)))))
theorem lk396 : (Cond.methodLink R_GS 119 y_MA_hasKept : Cond) ∈ lw_tbl := (List.mem_append_right _ (List.mem_append_right _ (List.mem_append_right _ (List.mem_append_left _ (List.mem_of_getElem? (i := 7) (l := tables_1_3) rfl)))))
theorem lk397 : (Cond.instanceMethod y_MA_hasKept : Cond) ∈ lw_tbl := (List.mem_append_right _ (List.mem_append_right _ (List.mem_append_right _ (List.mem_append_left _ (List.mem_of_getElem? (i := 8) (l := tables_1_3) rfl)))))
theorem lk398 : (Cond.selects R_MA y_MA_hasKept y_MA_hasKept : Cond) ∈ lw_tbl := (List.mem_append_right _ (List.mem_append_right _ (List.mem_append_right _ (List.mem_append_left _ (List.mem_of_getElem? (i := 9) (l := tables_1_3) rfl)))))
theorem lk399 : (Cond.code y_MA_hasKept prog_3_method_5_code 2 (some .boolean) : Cond) ∈ lw_tbl := (List.mem_append_right _ (List.mem_append_right _ (List.mem_append_right _ (List.mem_append_left _ (List.mem_of_getElem? (i := 10) (l := tables_1_3) rfl)))))
theorem lk400 : (Cond.methodLink R_GS 122 y_MA_kept : Cond) ∈ lw_tbl := (List.mem_append_right _ (List.mem_append_right _ (List.mem_append_right _ (List.mem_append_left _ (List.mem_of_getElem? (i := 11) (l := tables_1_3) rfl)))))
theorem lk401 : (Cond.instanceMethod y_MA_kept : Cond) ∈ lw_tbl := (List.mem_append_right _ (List.mem_append_right _ (List.mem_append_right _ (List.mem_append_left _ (List.mem_of_getElem? (i := 12) (l := tables_1_3) rfl)))))
theorem lk402 : (Cond.selects R_MA y_MA_kept y_MA_kept : Cond) ∈ lw_tbl := (List.mem_append_right _ (List.mem_append_right _ (List.mem_append_right _ (List.mem_append_left _ (List.mem_of_getElem? (i := 13) (l := tables_1_3) rfl)))))
theorem lk403 : (Cond.code y_MA_kept prog_3_method_6_code 2 (some .int) : Cond) ∈ lw_tbl := (List.mem_append_right _ (List.mem_append_right _ (List.mem_append_right _ (List.mem_append_left _ (List.mem_of_getElem? (i := 14) (l := tables_1_3) rfl)))))
theorem lk404 : (Cond.methodLink R_MA 28 y_MA_hasKept : Cond) ∈ lw_tbl := (List.mem_append_right _ (List.mem_append_right _ (List.mem_append_right _ (List.mem_append_left _ (List.mem_of_getElem? (i := 15) (l := tables_1_3) rfl)))))
theorem lk405 : (Cond.methodLink "GateStackLaw" 61 y_GS_at : Cond) ∈ lw_tbl := (List.mem_append_right _ (List.mem_append_right _ (List.mem_append_right _ (List.mem_append_left _ (List.mem_of_getElem? (i := 16) (l := tables_1_3) rfl)))))
theorem lk406 : (Cond.instanceMethod y_GS_at : Cond) ∈ lw_tbl := (List.mem_append_right _ (List.mem_append_right _ (List.mem_append_right _ (List.mem_append_left _ (List.mem_of_getElem? (i := 17) (l := tables_1_3) rfl)))))
theorem lk407 : (Cond.selects R_GS y_GS_at y_GS_at : Cond) ∈ lw_tbl := (List.mem_append_right _ (List.mem_append_right _ (List.mem_append_right _ (List.mem_append_left _ (List.mem_of_getElem? (i := 18) (l := tables_1_3) rfl)))))
theorem lk408 : (Cond.code y_GS_at prog_1_method_13_code 2 (some .int) : Cond) ∈ lw_tbl := (List.mem_append_right _ (List.mem_append_right _ (List.mem_append_right _ (List.mem_append_left _ (List.mem_of_getElem? (i := 19) (l := tables_1_3) rfl)))))
theorem lk409 : (Cond.methodLink R_GS 125 y_MA_letterCode : Cond) ∈ lw_tbl := (List.mem_append_right _ (List.mem_append_right _ (List.mem_append_right _ (List.mem_append_left _ (List.mem_of_getElem? (i := 20) (l := tables_1_3) rfl)))))
theorem lk410 : (Cond.instanceMethod y_MA_letterCode : Cond) ∈ lw_tbl := (List.mem_append_right _ (List.mem_append_right _ (List.mem_append_right _ (List.mem_append_left _ (List.mem_of_getElem? (i := 21) (l := tables_1_3) rfl)))))
theorem lk411 : (Cond.selects R_MA y_MA_letterCode y_MA_letterCode : Cond) ∈ lw_tbl := (List.mem_append_right _ (List.mem_append_right _ (List.mem_append_right _ (List.mem_append_left _ (List.mem_of_getElem? (i := 22) (l := tables_1_3) rfl)))))
theorem lk412 : (Cond.code y_MA_letterCode prog_3_method_7_code 1 (some .int) : Cond) ∈ lw_tbl := (List.mem_append_right _ (List.mem_append_right _ (List.mem_append_right _ (List.mem_append_left _ (List.mem_of_getElem? (i := 23) (l := tables_1_3) rfl)))))
theorem lk413 : (Cond.methodLink R_GS 128 y_MA_statementNumber : Cond) ∈ lw_tbl := (List.mem_append_right _ (List.mem_append_right _ (List.mem_append_right _ (List.mem_append_left _ (List.mem_of_getElem? (i := 24) (l := tables_1_3) rfl)))))
theorem lk414 : (Cond.instanceMethod y_MA_statementNumber : Cond) ∈ lw_tbl := (List.mem_append_right _ (List.mem_append_right _ (List.mem_append_right _ (List.mem_append_left _ (List.mem_of_getElem? (i := 25) (l := tables_1_3) rfl)))))
theorem lk415 : (Cond.selects R_MA y_MA_statementNumber y_MA_statementNumber : Cond) ∈ lw_tbl := (List.mem_append_right _ (List.mem_append_right _ (List.mem_append_right _ (List.mem_append_left _ (List.mem_of_getElem? (i := 26) (l := tables_1_3) rfl)))))
theorem lk416 : (Cond.code y_MA_statementNumber prog_3_method_8_code 3 (some .int) : Cond) ∈ lw_tbl := (List.mem_append_right _ (List.mem_append_right _ (List.mem_append_right _ (List.mem_append_left _ (List.mem_of_getElem? (i := 27) (l := tables_1_3) rfl)))))
theorem lk417 : (Cond.methodLink R_MA 36 y_MT_numberAt : Cond) ∈ lw_tbl := (List.mem_append_right _ (List.mem_append_right _ (List.mem_append_right _ (List.mem_append_left _ (List.mem_of_getElem? (i := 28) (l := tables_1_3) rfl)))))
theorem lk418 : (Cond.instanceMethod y_MT_numberAt : Cond) ∈ lw_tbl := (List.mem_append_right _ (List.mem_append_right _ (List.mem_append_right _ (List.mem_append_left _ (List.mem_of_getElem? (i := 29) (l := tables_1_3) rfl)))))
theorem lk419 : (Cond.selects R_MT y_MT_numberAt y_MT_numberAt : Cond) ∈ lw_tbl := (List.mem_append_right _ (List.mem_append_right _ (List.mem_append_right _ (List.mem_append_left _ (List.mem_of_getElem? (i := 30) (l := tables_1_3) rfl)))))
theorem lk420 : (Cond.code y_MT_numberAt prog_4_method_15_code 2 (some .int) : Cond) ∈ lw_tbl := (List.mem_append_right _ (List.mem_append_right _ (List.mem_append_right _ (List.mem_append_left _ (List.mem_of_getElem? (i := 31) (l := tables_1_3) rfl)))))
theorem lk421 : (Cond.methodLink R_GS 132 y_MA_depth : Cond) ∈ lw_tbl := (List.mem_append_right _ (List.mem_append_right _ (List.mem_append_right _ (List.mem_append_left _ (List.mem_of_getElem? (i := 32) (l := tables_1_3) rfl)))))
theorem lk422 : (Cond.instanceMethod y_MA_depth : Cond) ∈ lw_tbl := (List.mem_append_right _ (List.mem_append_right _ (List.mem_append_right _ (List.mem_append_left _ (List.mem_of_getElem? (i := 33) (l := tables_1_3) rfl)))))
theorem lk423 : (Cond.selects R_MA y_MA_depth y_MA_depth : Cond) ∈ lw_tbl := (List.mem_append_right _ (List.mem_append_right _ (List.mem_append_right _ (List.mem_append_left _ (List.mem_of_getElem? (i := 34) (l := tables_1_3) rfl)))))
theorem lk424 : (Cond.code y_MA_depth prog_3_method_3_code 1 (some .int) : Cond) ∈ lw_tbl := (List.mem_append_right _ (List.mem_append_right _ (List.mem_append_right _ (List.mem_append_left _ (List.mem_of_getElem? (i := 35) (l := tables_1_3) rfl)))))
theorem lk425 : (Cond.methodLink R_GS 135 y_MA_outputCount : Cond) ∈ lw_tbl := (List.mem_append_right _ (List.mem_append_right _ (List.mem_append_right _ (List.mem_append_left _ (List.mem_of_getElem? (i := 36) (l := tables_1_3) rfl)))))
theorem lk426 : (Cond.instanceMethod y_MA_outputCount : Cond) ∈ lw_tbl := (List.mem_append_right _ (List.mem_append_right _ (List.mem_append_right _ (List.mem_append_left _ (List.mem_of_getElem? (i := 37) (l := tables_1_3) rfl)))))
theorem lk427 : (Cond.selects R_MA y_MA_outputCount y_MA_outputCount : Cond) ∈ lw_tbl := (List.mem_append_right _ (List.mem_append_right _ (List.mem_append_right _ (List.mem_append_left _ (List.mem_of_getElem? (i := 38) (l := tables_1_3) rfl)))))
theorem lk428 : (Cond.code y_MA_outputCount prog_3_method_4_code 1 (some .int) : Cond) ∈ lw_tbl := (List.mem_append_right _ (List.mem_append_right _ (List.mem_append_right _ (List.mem_append_left _ (List.mem_of_getElem? (i := 39) (l := tables_1_3) rfl)))))
theorem lk429 : (Cond.methodLink "GateStackLaw" 65 y_GS_operate : Cond) ∈ lw_tbl := (List.mem_append_right _ (List.mem_append_right _ (List.mem_append_right _ (List.mem_append_left _ (List.mem_of_getElem? (i := 40) (l := tables_1_3) rfl)))))
theorem lk430 : (Cond.instanceMethod y_GS_operate : Cond) ∈ lw_tbl := (List.mem_append_right _ (List.mem_append_right _ (List.mem_append_right _ (List.mem_append_left _ (List.mem_of_getElem? (i := 41) (l := tables_1_3) rfl)))))
theorem lk431 : (Cond.selects R_GS y_GS_operate y_GS_operate : Cond) ∈ lw_tbl := (List.mem_append_right _ (List.mem_append_right _ (List.mem_append_right _ (List.mem_append_left _ (List.mem_of_getElem? (i := 42) (l := tables_1_3) rfl)))))
theorem lk432 : (Cond.code y_GS_operate prog_1_method_14_code 4 (some .long) : Cond) ∈ lw_tbl := (List.mem_append_right _ (List.mem_append_right _ (List.mem_append_right _ (List.mem_append_left _ (List.mem_of_getElem? (i := 43) (l := tables_1_3) rfl)))))
theorem lk433 : (Cond.methodLink R_GS 138 y_GS_worked : Cond) ∈ lw_tbl := (List.mem_append_right _ (List.mem_append_right _ (List.mem_append_right _ (List.mem_append_left _ (List.mem_of_getElem? (i := 44) (l := tables_1_3) rfl)))))
theorem lk434 : (Cond.methodLink "GateStackLaw" 70 y_GS_state : Cond) ∈ lw_tbl := (List.mem_append_right _ (List.mem_append_right _ (List.mem_append_right _ (List.mem_append_left _ (List.mem_of_getElem? (i := 45) (l := tables_1_3) rfl)))))
theorem lk435 : (Cond.instanceMethod y_GS_state : Cond) ∈ lw_tbl := (List.mem_append_right _ (List.mem_append_right _ (List.mem_append_right _ (List.mem_append_left _ (List.mem_of_getElem? (i := 46) (l := tables_1_3) rfl)))))
theorem lk436 : (Cond.selects R_GS y_GS_state y_GS_state : Cond) ∈ lw_tbl := (List.mem_append_right _ (List.mem_append_right _ (List.mem_append_right _ (List.mem_append_left _ (List.mem_of_getElem? (i := 47) (l := tables_1_3) rfl)))))
theorem lk437 : (Cond.code y_GS_state prog_1_method_15_code 3 (some .int) : Cond) ∈ lw_tbl := (List.mem_append_right _ (List.mem_append_right _ (List.mem_append_right _ (List.mem_append_left _ (List.mem_of_getElem? (i := 48) (l := tables_1_3) rfl)))))
theorem lk438 : (Cond.classLink "GateStackLaw" 10 "GateStackModel" : Cond) ∈ lw_tbl := (List.mem_append_right _ (List.mem_append_right _ (List.mem_append_right _ (List.mem_append_left _ (List.mem_of_getElem? (i := 49) (l := tables_1_3) rfl)))))
theorem lk439 : (Cond.instantiable R_GM 30 : Cond) ∈ lw_tbl := (List.mem_append_right _ (List.mem_append_right _ (List.mem_append_right _ (List.mem_append_left _ (List.mem_of_getElem? (i := 50) (l := tables_1_3) rfl)))))
theorem lk440 : (Cond.methodLink "GateStackLaw" 12 y_GM_init : Cond) ∈ lw_tbl := (List.mem_append_right _ (List.mem_append_right _ (List.mem_append_right _ (List.mem_append_left _ (List.mem_of_getElem? (i := 51) (l := tables_1_3) rfl)))))
theorem lk441 : (Cond.instanceMethod y_GM_init : Cond) ∈ lw_tbl := (List.mem_append_right _ (List.mem_append_right _ (List.mem_append_right _ (List.mem_append_left _ (List.mem_of_getElem? (i := 52) (l := tables_1_3) rfl)))))
theorem lk442 : (Cond.code y_GM_init prog_8_method_1_code 2 none : Cond) ∈ lw_tbl := (List.mem_append_right _ (List.mem_append_right _ (List.mem_append_right _ (List.mem_append_left _ (List.mem_of_getElem? (i := 53) (l := tables_1_3) rfl)))))
theorem lk443 : (Cond.methodLink R_GM 1 objectInit : Cond) ∈ lw_tbl := (List.mem_append_right _ (List.mem_append_right _ (List.mem_append_right _ (List.mem_append_left _ (List.mem_of_getElem? (i := 54) (l := tables_1_3) rfl)))))
theorem lk444 : (Cond.fieldLink R_GM 7 "GateStackModel" "text" "[I" : Cond) ∈ lw_tbl := (List.mem_append_right _ (List.mem_append_right _ (List.mem_append_right _ (List.mem_append_left _ (List.mem_of_getElem? (i := 55) (l := tables_1_3) rfl)))))
theorem lk445 : (Cond.fieldLink R_GM 13 "GateStackModel" "length" "[I" : Cond) ∈ lw_tbl := (List.mem_append_right _ (List.mem_append_right _ (List.mem_append_right _ (List.mem_append_left _ (List.mem_of_getElem? (i := 56) (l := tables_1_3) rfl)))))
theorem lk446 : (Cond.fieldLink R_GM 16 "GateStackModel" "compiled" "[Z" : Cond) ∈ lw_tbl := (List.mem_append_right _ (List.mem_append_right _ (List.mem_append_right _ (List.mem_append_left _ (List.mem_of_getElem? (i := 57) (l := tables_1_3) rfl)))))
theorem lk447 : (Cond.fieldLink R_GM 66 "GateStackModel" "linked" "Z" : Cond) ∈ lw_tbl := (List.mem_append_right _ (List.mem_append_right _ (List.mem_append_right _ (List.mem_append_left _ (List.mem_of_getElem? (i := 58) (l := tables_1_3) rfl)))))
theorem lk448 : (Cond.fieldLink R_GM 20 "GateStackModel" "open" "[I" : Cond) ∈ lw_tbl := (List.mem_append_right _ (List.mem_append_right _ (List.mem_append_right _ (List.mem_append_left _ (List.mem_of_getElem? (i := 59) (l := tables_1_3) rfl)))))
theorem lk449 : (Cond.fieldLink R_GM 80 "GateStackModel" "opened" "I" : Cond) ∈ lw_tbl := (List.mem_append_right _ (List.mem_append_right _ (List.mem_append_right _ (List.mem_append_left _ (List.mem_of_getElem? (i := 60) (l := tables_1_3) rfl)))))
theorem lk450 : (Cond.fieldLink R_GM 84 "GateStackModel" "state" "I" : Cond) ∈ lw_tbl := (List.mem_append_right _ (List.mem_append_right _ (List.mem_append_right _ (List.mem_append_left _ (List.mem_of_getElem? (i := 61) (l := tables_1_3) rfl)))))
theorem lk451 : (Cond.fieldLink R_GM 90 "GateStackModel" "kind" "I" : Cond) ∈ lw_tbl := (List.mem_append_right _ (List.mem_append_right _ (List.mem_append_right _ (List.mem_append_left _ (List.mem_of_getElem? (i := 62) (l := tables_1_3) rfl)))))
theorem lk452 : (Cond.fieldLink R_GM 104 "GateStackModel" "digits" "I" : Cond) ∈ lw_tbl := (List.mem_append_right _ (List.mem_append_right _ (List.mem_append_right _ (List.mem_append_left _ (List.mem_of_getElem? (i := 63) (l := tables_1_3) rfl)))))
theorem lk453 : (Cond.fieldLink R_GM 87 "GateStackModel" "second" "Z" : Cond) ∈ lw_tbl := (List.mem_append_right _ (List.mem_append_right _ (List.mem_append_right _ (List.mem_append_left _ (List.mem_of_getElem? (i := 64) (l := tables_1_3) rfl)))))
theorem lk454 : (Cond.fieldLink R_GM 23 "GateStackModel" "partner" "[I" : Cond) ∈ lw_tbl := (List.mem_append_right _ (List.mem_append_right _ (List.mem_append_right _ (List.mem_append_left _ (List.mem_of_getElem? (i := 65) (l := tables_1_3) rfl)))))
theorem lk455 : (Cond.fieldLink R_GM 26 "GateStackModel" "owner" "[I" : Cond) ∈ lw_tbl := (List.mem_append_right _ (List.mem_append_right _ (List.mem_append_right _ (List.mem_append_left _ (List.mem_of_getElem? (i := 66) (l := tables_1_3) rfl)))))
theorem lk456 : (Cond.fieldLink R_GM 29 "GateStackModel" "kindAt" "[I" : Cond) ∈ lw_tbl := (List.mem_append_right _ (List.mem_append_right _ (List.mem_append_right _ (List.mem_append_left _ (List.mem_of_getElem? (i := 67) (l := tables_1_3) rfl)))))
theorem lk457 : (Cond.fieldLink R_GM 32 "GateStackModel" "numberAt" "[I" : Cond) ∈ lw_tbl := (List.mem_append_right _ (List.mem_append_right _ (List.mem_append_right _ (List.mem_append_left _ (List.mem_of_getElem? (i := 68) (l := tables_1_3) rfl)))))
theorem lk458 : (Cond.fieldLink R_GM 35 "GateStackModel" "letterAt" "[I" : Cond) ∈ lw_tbl := (List.mem_append_right _ (List.mem_append_right _ (List.mem_append_right _ (List.mem_append_left _ (List.mem_of_getElem? (i := 69) (l := tables_1_3) rfl)))))
theorem lk459 : (Cond.fieldLink R_GM 38 "GateStackModel" "body" "[I" : Cond) ∈ lw_tbl := (List.mem_append_right _ (List.mem_append_right _ (List.mem_append_right _ (List.mem_append_left _ (List.mem_of_getElem? (i := 70) (l := tables_1_3) rfl)))))
theorem lk460 : (Cond.fieldLink R_GM 41 "GateStackModel" "calls" "[I" : Cond) ∈ lw_tbl := (List.mem_append_right _ (List.mem_append_right _ (List.mem_append_right _ (List.mem_append_left _ (List.mem_of_getElem? (i := 71) (l := tables_1_3) rfl)))))
theorem lk461 : (Cond.fieldLink R_GM 44 "GateStackModel" "variable" "[I" : Cond) ∈ lw_tbl := (List.mem_append_right _ (List.mem_append_right _ (List.mem_append_right _ (List.mem_append_left _ (List.mem_of_getElem? (i := 72) (l := tables_1_3) rfl)))))
theorem lk462 : (Cond.fieldLink R_GM 47 "GateStackModel" "outputs" "[J" : Cond) ∈ lw_tbl := (List.mem_append_right _ (List.mem_append_right _ (List.mem_append_right _ (List.mem_append_left _ (List.mem_of_getElem? (i := 73) (l := tables_1_3) rfl)))))
theorem lk463 : (Cond.fieldLink R_GM 159 "GateStackModel" "outputCount" "I" : Cond) ∈ lw_tbl := (List.mem_append_right _ (List.mem_append_right _ (List.mem_append_right _ (List.mem_append_left _ (List.mem_of_getElem? (i := 74) (l := tables_1_3) rfl)))))
theorem lk464 : (Cond.fieldLink R_GM 70 "GateStackModel" "going" "Z" : Cond) ∈ lw_tbl := (List.mem_append_right _ (List.mem_append_right _ (List.mem_append_right _ (List.mem_append_left _ (List.mem_of_getElem? (i := 75) (l := tables_1_3) rfl)))))
theorem lk465 : (Cond.fieldLink R_GM 153 "GateStackModel" "place" "I" : Cond) ∈ lw_tbl := (List.mem_append_right _ (List.mem_append_right _ (List.mem_append_right _ (List.mem_append_left _ (List.mem_of_getElem? (i := 76) (l := tables_1_3) rfl)))))
theorem lk466 : (Cond.fieldLink R_GM 51 "GateStackModel" "behind" "[I" : Cond) ∈ lw_tbl := (List.mem_append_right _ (List.mem_append_right _ (List.mem_append_right _ (List.mem_append_left _ (List.mem_of_getElem? (i := 77) (l := tables_1_3) rfl)))))
theorem lk467 : (Cond.fieldLink R_GM 156 "GateStackModel" "depth" "I" : Cond) ∈ lw_tbl := (List.mem_append_right _ (List.mem_append_right _ (List.mem_append_right _ (List.mem_append_left _ (List.mem_of_getElem? (i := 78) (l := tables_1_3) rfl)))))
theorem lk468 : (Cond.fieldLink R_GM 54 "GateStackModel" "value" "[I" : Cond) ∈ lw_tbl := (List.mem_append_right _ (List.mem_append_right _ (List.mem_append_right _ (List.mem_append_left _ (List.mem_of_getElem? (i := 79) (l := tables_1_3) rfl)))))
theorem lk469 : (Cond.fieldLink R_GM 57 "GateStackModel" "operator" "[I" : Cond) ∈ lw_tbl := (List.mem_append_right _ (List.mem_append_right _ (List.mem_append_right _ (List.mem_append_left _ (List.mem_of_getElem? (i := 80) (l := tables_1_3) rfl)))))
theorem lk470 : (Cond.fieldLink R_GM 60 "GateStackModel" "base" "[I" : Cond) ∈ lw_tbl := (List.mem_append_right _ (List.mem_append_right _ (List.mem_append_right _ (List.mem_append_left _ (List.mem_of_getElem? (i := 81) (l := tables_1_3) rfl)))))
theorem lk471 : (Cond.fieldLink R_GM 63 "GateStackModel" "before" "[I" : Cond) ∈ lw_tbl := (List.mem_append_right _ (List.mem_append_right _ (List.mem_append_right _ (List.mem_append_left _ (List.mem_of_getElem? (i := 82) (l := tables_1_3) rfl)))))
theorem lk472 : (Cond.fieldLink R_GM 139 "GateStackModel" "signs" "I" : Cond) ∈ lw_tbl := (List.mem_append_right _ (List.mem_append_right _ (List.mem_append_right _ (List.mem_append_left _ (List.mem_of_getElem? (i := 83) (l := tables_1_3) rfl)))))
theorem lk473 : (Cond.fieldLink R_GM 150 "GateStackModel" "end" "I" : Cond) ∈ lw_tbl := (List.mem_append_right _ (List.mem_append_right _ (List.mem_append_right _ (List.mem_append_left _ (List.mem_of_getElem? (i := 84) (l := tables_1_3) rfl)))))
theorem lk474 : (Cond.laysFinal R_GM "GateStackModel" "text" "[I" : Cond) ∈ lw_tbl := (List.mem_append_right _ (List.mem_append_right _ (List.mem_append_right _ (List.mem_append_left _ (List.mem_of_getElem? (i := 85) (l := tables_1_3) rfl)))))
theorem lk475 : (Cond.laysFinal R_GM "GateStackModel" "length" "[I" : Cond) ∈ lw_tbl := (List.mem_append_right _ (List.mem_append_right _ (List.mem_append_right _ (List.mem_append_left _ (List.mem_of_getElem? (i := 87) (l := tables_1_3) rfl)))))
theorem lk476 : (Cond.laysFinal R_GM "GateStackModel" "compiled" "[Z" : Cond) ∈ lw_tbl := (List.mem_append_right _ (List.mem_append_right _ (List.mem_append_right _ (List.mem_append_left _ (List.mem_of_getElem? (i := 89) (l := tables_1_3) rfl)))))
theorem lk477 : (Cond.lays R_GM "GateStackModel" "linked" "Z" : Cond) ∈ lw_tbl := (List.mem_append_right _ (List.mem_append_right _ (List.mem_append_right _ (List.mem_append_left _ (List.mem_of_getElem? (i := 91) (l := tables_1_3) rfl)))))
theorem lk478 : (Cond.laysFinal R_GM "GateStackModel" "open" "[I" : Cond) ∈ lw_tbl := (List.mem_append_right _ (List.mem_append_right _ (List.mem_append_right _ (List.mem_append_left _ (List.mem_of_getElem? (i := 93) (l := tables_1_3) rfl)))))
theorem lk479 : (Cond.lays R_GM "GateStackModel" "opened" "I" : Cond) ∈ lw_tbl := (List.mem_append_right _ (List.mem_append_right _ (List.mem_append_right _ (List.mem_append_left _ (List.mem_of_getElem? (i := 95) (l := tables_1_3) rfl)))))
theorem lk480 : (Cond.lays R_GM "GateStackModel" "state" "I" : Cond) ∈ lw_tbl := (List.mem_append_right _ (List.mem_append_right _ (List.mem_append_right _ (List.mem_append_left _ (List.mem_of_getElem? (i := 97) (l := tables_1_3) rfl)))))
theorem lk481 : (Cond.lays R_GM "GateStackModel" "kind" "I" : Cond) ∈ lw_tbl := (List.mem_append_right _ (List.mem_append_right _ (List.mem_append_right _ (List.mem_append_left _ (List.mem_of_getElem? (i := 99) (l := tables_1_3) rfl)))))
theorem lk482 : (Cond.lays R_GM "GateStackModel" "digits" "I" : Cond) ∈ lw_tbl := (List.mem_append_right _ (List.mem_append_right _ (List.mem_append_right _ (List.mem_append_left _ (List.mem_of_getElem? (i := 101) (l := tables_1_3) rfl)))))
theorem lk483 : (Cond.lays R_GM "GateStackModel" "second" "Z" : Cond) ∈ lw_tbl := (List.mem_append_right _ (List.mem_append_right _ (List.mem_append_right _ (List.mem_append_left _ (List.mem_of_getElem? (i := 103) (l := tables_1_3) rfl)))))
theorem lk484 : (Cond.laysFinal R_GM "GateStackModel" "partner" "[I" : Cond) ∈ lw_tbl := (List.mem_append_right _ (List.mem_append_right _ (List.mem_append_right _ (List.mem_append_left _ (List.mem_of_getElem? (i := 105) (l := tables_1_3) rfl)))))
theorem lk485 : (Cond.laysFinal R_GM "GateStackModel" "owner" "[I" : Cond) ∈ lw_tbl := (List.mem_append_right _ (List.mem_append_right _ (List.mem_append_right _ (List.mem_append_left _ (List.mem_of_getElem? (i := 107) (l := tables_1_3) rfl)))))
theorem lk486 : (Cond.laysFinal R_GM "GateStackModel" "kindAt" "[I" : Cond) ∈ lw_tbl := (List.mem_append_right _ (List.mem_append_right _ (List.mem_append_right _ (List.mem_append_left _ (List.mem_of_getElem? (i := 109) (l := tables_1_3) rfl)))))
theorem lk487 : (Cond.laysFinal R_GM "GateStackModel" "numberAt" "[I" : Cond) ∈ lw_tbl := (List.mem_append_right _ (List.mem_append_right _ (List.mem_append_right _ (List.mem_append_left _ (List.mem_of_getElem? (i := 111) (l := tables_1_3) rfl)))))
theorem lk488 : (Cond.laysFinal R_GM "GateStackModel" "letterAt" "[I" : Cond) ∈ lw_tbl := (List.mem_append_right _ (List.mem_append_right _ (List.mem_append_right _ (List.mem_append_left _ (List.mem_of_getElem? (i := 113) (l := tables_1_3) rfl)))))
theorem lk489 : (Cond.laysFinal R_GM "GateStackModel" "body" "[I" : Cond) ∈ lw_tbl := (List.mem_append_right _ (List.mem_append_right _ (List.mem_append_right _ (List.mem_append_left _ (List.mem_of_getElem? (i := 115) (l := tables_1_3) rfl)))))
theorem lk490 : (Cond.laysFinal R_GM "GateStackModel" "calls" "[I" : Cond) ∈ lw_tbl := (List.mem_append_right _ (List.mem_append_right _ (List.mem_append_right _ (List.mem_append_left _ (List.mem_of_getElem? (i := 117) (l := tables_1_3) rfl)))))
theorem lk491 : (Cond.laysFinal R_GM "GateStackModel" "variable" "[I" : Cond) ∈ lw_tbl := (List.mem_append_right _ (List.mem_append_right _ (List.mem_append_right _ (List.mem_append_left _ (List.mem_of_getElem? (i := 119) (l := tables_1_3) rfl)))))
theorem lk492 : (Cond.laysFinal R_GM "GateStackModel" "outputs" "[J" : Cond) ∈ lw_tbl := (List.mem_append_right _ (List.mem_append_right _ (List.mem_append_right _ (List.mem_append_left _ (List.mem_of_getElem? (i := 121) (l := tables_1_3) rfl)))))
theorem lk493 : (Cond.lays R_GM "GateStackModel" "outputCount" "I" : Cond) ∈ lw_tbl := (List.mem_append_right _ (List.mem_append_right _ (List.mem_append_right _ (List.mem_append_left _ (List.mem_of_getElem? (i := 123) (l := tables_1_3) rfl)))))
theorem lk494 : (Cond.lays R_GM "GateStackModel" "going" "Z" : Cond) ∈ lw_tbl := (List.mem_append_right _ (List.mem_append_right _ (List.mem_append_right _ (List.mem_append_left _ (List.mem_of_getElem? (i := 125) (l := tables_1_3) rfl)))))
theorem lk495 : (Cond.lays R_GM "GateStackModel" "place" "I" : Cond) ∈ lw_tbl := (List.mem_append_right _ (List.mem_append_right _ (List.mem_append_right _ (List.mem_append_left _ (List.mem_of_getElem? (i := 127) (l := tables_1_3) rfl)))))
theorem lk496 : (Cond.laysFinal R_GM "GateStackModel" "behind" "[I" : Cond) ∈ lw_tbl := (List.mem_append_right _ (List.mem_append_right _ (List.mem_append_right _ (List.mem_append_left _ (List.mem_of_getElem? (i := 129) (l := tables_1_3) rfl)))))
theorem lk497 : (Cond.lays R_GM "GateStackModel" "depth" "I" : Cond) ∈ lw_tbl := (List.mem_append_right _ (List.mem_append_right _ (List.mem_append_right _ (List.mem_append_left _ (List.mem_of_getElem? (i := 131) (l := tables_1_3) rfl)))))
theorem lk498 : (Cond.laysFinal R_GM "GateStackModel" "value" "[I" : Cond) ∈ lw_tbl := (List.mem_append_right _ (List.mem_append_right _ (List.mem_append_right _ (List.mem_append_left _ (List.mem_of_getElem? (i := 133) (l := tables_1_3) rfl)))))
theorem lk499 : (Cond.laysFinal R_GM "GateStackModel" "operator" "[I" : Cond) ∈ lw_tbl := (List.mem_append_right _ (List.mem_append_right _ (List.mem_append_right _ (List.mem_append_left _ (List.mem_of_getElem? (i := 135) (l := tables_1_3) rfl)))))
theorem lk500 : (Cond.laysFinal R_GM "GateStackModel" "base" "[I" : Cond) ∈ lw_tbl := (List.mem_append_right _ (List.mem_append_right _ (List.mem_append_right _ (List.mem_append_left _ (List.mem_of_getElem? (i := 137) (l := tables_1_3) rfl)))))
theorem lk501 : (Cond.laysFinal R_GM "GateStackModel" "before" "[I" : Cond) ∈ lw_tbl := (List.mem_append_right _ (List.mem_append_right _ (List.mem_append_right _ (List.mem_append_left _ (List.mem_of_getElem? (i := 139) (l := tables_1_3) rfl)))))
theorem lk502 : (Cond.lays R_GM "GateStackModel" "signs" "I" : Cond) ∈ lw_tbl := (List.mem_append_right _ (List.mem_append_right _ (List.mem_append_right _ (List.mem_append_left _ (List.mem_of_getElem? (i := 141) (l := tables_1_3) rfl)))))
theorem lk503 : (Cond.lays R_GM "GateStackModel" "end" "I" : Cond) ∈ lw_tbl := (List.mem_append_right _ (List.mem_append_right _ (List.mem_append_right _ (List.mem_append_left _ (List.mem_of_getElem? (i := 143) (l := tables_1_3) rfl)))))
theorem lk504 : (Cond.arrayClass .boolean : Cond) ∈ lw_tbl := (List.mem_append_right _ (List.mem_append_right _ (List.mem_append_right _ (List.mem_append_left _ (List.mem_of_getElem? (i := 146) (l := tables_1_3) rfl)))))
theorem lk505 : (Cond.arrayClass .long : Cond) ∈ lw_tbl := (List.mem_append_right _ (List.mem_append_right _ (List.mem_append_right _ (List.mem_append_left _ (List.mem_of_getElem? (i := 147) (l := tables_1_3) rfl)))))
theorem lk506 : (Cond.methodLink "GateStackLaw" 17 y_GM_sign : Cond) ∈ lw_tbl := (List.mem_append_right _ (List.mem_append_right _ (List.mem_append_right _ (List.mem_append_left _ (List.mem_of_getElem? (i := 148) (l := tables_1_3) rfl)))))
theorem lk507 : (Cond.instanceMethod y_GM_sign : Cond) ∈ lw_tbl := (List.mem_append_right _ (List.mem_append_right _ (List.mem_append_right _ (List.mem_append_left _ (List.mem_of_getElem? (i := 149) (l := tables_1_3) rfl)))))
theorem lk508 : (Cond.selects R_GM y_GM_sign y_GM_sign : Cond) ∈ lw_tbl := (List.mem_append_right _ (List.mem_append_right _ (List.mem_append_right _ (List.mem_append_left _ (List.mem_of_getElem? (i := 150) (l := tables_1_3) rfl)))))
theorem lk509 : (Cond.code y_GM_sign prog_8_method_4_code 3 (some .int) : Cond) ∈ lw_tbl := (List.mem_append_right _ (List.mem_append_right _ (List.mem_append_right _ (List.mem_append_left _ (List.mem_of_getElem? (i := 151) (l := tables_1_3) rfl)))))
theorem lk510 : (Cond.methodLink R_GM 73 y_GM_in : Cond) ∈ lw_tbl := (List.mem_append_right _ (List.mem_append_right _ (List.mem_append_right _ (List.mem_append_left _ (List.mem_of_getElem? (i := 152) (l := tables_1_3) rfl)))))
theorem lk511 : (Cond.static y_GM_in : Cond) ∈ lw_tbl := (List.mem_append_right _ (List.mem_append_right _ (List.mem_append_right _ (List.mem_append_left _ (List.mem_of_getElem? (i := 153) (l := tables_1_3) rfl)))))
theorem lk512 : (Cond.code y_GM_in prog_8_method_2_code 3 (some .boolean) : Cond) ∈ lw_tbl := (List.mem_append_right _ (List.mem_append_right _ (List.mem_append_right _ (List.mem_append_left _ (List.mem_of_getElem? (i := 154) (l := tables_1_3) rfl)))))
theorem lk513 : (Cond.methodLink R_GM 77 y_GM_unlink : Cond) ∈ lw_tbl := (List.mem_append_right _ (List.mem_append_right _ (List.mem_append_right _ (List.mem_append_left _ (List.mem_of_getElem? (i := 155) (l := tables_1_3) rfl)))))
theorem lk514 : (Cond.instanceMethod y_GM_unlink : Cond) ∈ lw_tbl := (List.mem_append_right _ (List.mem_append_right _ (List.mem_append_right _ (List.mem_append_left _ (List.mem_of_getElem? (i := 157) (l := tables_1_3) rfl)))))
theorem lk515 : (Cond.code y_GM_unlink prog_8_method_3_code 1 none : Cond) ∈ lw_tbl := (List.mem_append_right _ (List.mem_append_right _ (List.mem_append_right _ (List.mem_append_left _ (List.mem_of_getElem? (i := 158) (l := tables_1_3) rfl)))))
theorem lk516 : (Cond.methodLink "GateStackLaw" 22 y_GM_clear : Cond) ∈ lw_tbl := (List.mem_append_right _ (List.mem_append_right _ (List.mem_append_right _ (List.mem_append_left _ (List.mem_of_getElem? (i := 159) (l := tables_1_3) rfl)))))
theorem lk517 : (Cond.instanceMethod y_GM_clear : Cond) ∈ lw_tbl := (List.mem_append_right _ (List.mem_append_right _ (List.mem_append_right _ (List.mem_append_left _ (List.mem_of_getElem? (i := 160) (l := tables_1_3) rfl)))))
theorem lk518 : (Cond.selects R_GM y_GM_clear y_GM_clear : Cond) ∈ lw_tbl := (List.mem_append_right _ (List.mem_append_right _ (List.mem_append_right _ (List.mem_append_left _ (List.mem_of_getElem? (i := 161) (l := tables_1_3) rfl)))))
theorem lk519 : (Cond.code y_GM_clear prog_8_method_5_code 2 (some .int) : Cond) ∈ lw_tbl := (List.mem_append_right _ (List.mem_append_right _ (List.mem_append_right _ (List.mem_append_left _ (List.mem_of_getElem? (i := 162) (l := tables_1_3) rfl)))))
theorem lk520 : (Cond.methodLink "GateStackLaw" 30 y_GM_fault : Cond) ∈ lw_tbl := (List.mem_append_right _ (List.mem_append_right _ (List.mem_append_right _ (List.mem_append_left _ (List.mem_of_getElem? (i := 163) (l := tables_1_3) rfl)))))
theorem lk521 : (Cond.instanceMethod y_GM_fault : Cond) ∈ lw_tbl := (List.mem_append_right _ (List.mem_append_right _ (List.mem_append_right _ (List.mem_append_left _ (List.mem_of_getElem? (i := 164) (l := tables_1_3) rfl)))))
theorem lk522 : (Cond.selects R_GM y_GM_fault y_GM_fault : Cond) ∈ lw_tbl := (List.mem_append_right _ (List.mem_append_right _ (List.mem_append_right _ (List.mem_append_left _ (List.mem_of_getElem? (i := 165) (l := tables_1_3) rfl)))))
theorem lk523 : (Cond.code y_GM_fault prog_8_method_15_code 3 (some .int) : Cond) ∈ lw_tbl := (List.mem_append_right _ (List.mem_append_right _ (List.mem_append_right _ (List.mem_append_left _ (List.mem_of_getElem? (i := 166) (l := tables_1_3) rfl)))))
theorem lk524 : (Cond.methodLink R_GM 122 y_GM_stands : Cond) ∈ lw_tbl := (List.mem_append_right _ (List.mem_append_right _ (List.mem_append_right _ (List.mem_append_left _ (List.mem_of_getElem? (i := 167) (l := tables_1_3) rfl)))))
theorem lk525 : (Cond.instanceMethod y_GM_stands : Cond) ∈ lw_tbl := (List.mem_append_right _ (List.mem_append_right _ (List.mem_append_right _ (List.mem_append_left _ (List.mem_of_getElem? (i := 169) (l := tables_1_3) rfl)))))
theorem lk526 : (Cond.code y_GM_stands prog_8_method_14_code 3 (some .boolean) : Cond) ∈ lw_tbl := (List.mem_append_right _ (List.mem_append_right _ (List.mem_append_right _ (List.mem_append_left _ (List.mem_of_getElem? (i := 170) (l := tables_1_3) rfl)))))
theorem lk527 : (Cond.methodLink R_GM 93 y_GM_isLetter : Cond) ∈ lw_tbl := (List.mem_append_right _ (List.mem_append_right _ (List.mem_append_right _ (List.mem_append_left _ (List.mem_of_getElem? (i := 171) (l := tables_1_3) rfl)))))
theorem lk528 : (Cond.static y_GM_isLetter : Cond) ∈ lw_tbl := (List.mem_append_right _ (List.mem_append_right _ (List.mem_append_right _ (List.mem_append_left _ (List.mem_of_getElem? (i := 172) (l := tables_1_3) rfl)))))
theorem lk529 : (Cond.code y_GM_isLetter prog_8_method_7_code 1 (some .boolean) : Cond) ∈ lw_tbl := (List.mem_append_right _ (List.mem_append_right _ (List.mem_append_right _ (List.mem_append_left _ (List.mem_of_getElem? (i := 173) (l := tables_1_3) rfl)))))
theorem lk530 : (Cond.methodLink R_GM 100 y_GM_push : Cond) ∈ lw_tbl := (List.mem_append_right _ (List.mem_append_right _ (List.mem_append_right _ (List.mem_append_left _ (List.mem_of_getElem? (i := 174) (l := tables_1_3) rfl)))))
theorem lk531 : (Cond.instanceMethod y_GM_push : Cond) ∈ lw_tbl := (List.mem_append_right _ (List.mem_append_right _ (List.mem_append_right _ (List.mem_append_left _ (List.mem_of_getElem? (i := 176) (l := tables_1_3) rfl)))))
theorem lk532 : (Cond.code y_GM_push prog_8_method_9_code 3 (some .boolean) : Cond) ∈ lw_tbl := (List.mem_append_right _ (List.mem_append_right _ (List.mem_append_right _ (List.mem_append_left _ (List.mem_of_getElem? (i := 177) (l := tables_1_3) rfl)))))
theorem lk533 : (Cond.methodLink R_GM 113 y_GM_atStatement : Cond) ∈ lw_tbl := (List.mem_append_right _ (List.mem_append_right _ (List.mem_append_right _ (List.mem_append_left _ (List.mem_of_getElem? (i := 178) (l := tables_1_3) rfl)))))
theorem lk534 : (Cond.instanceMethod y_GM_atStatement : Cond) ∈ lw_tbl := (List.mem_append_right _ (List.mem_append_right _ (List.mem_append_right _ (List.mem_append_left _ (List.mem_of_getElem? (i := 180) (l := tables_1_3) rfl)))))
theorem lk535 : (Cond.code y_GM_atStatement prog_8_method_11_code 3 (some .boolean) : Cond) ∈ lw_tbl := (List.mem_append_right _ (List.mem_append_right _ (List.mem_append_right _ (List.mem_append_left _ (List.mem_of_getElem? (i := 181) (l := tables_1_3) rfl)))))
theorem lk536 : (Cond.methodLink R_GM 97 y_GM_isVariable : Cond) ∈ lw_tbl := (List.mem_append_right _ (List.mem_append_right _ (List.mem_append_right _ (List.mem_append_left _ (List.mem_of_getElem? (i := 182) (l := tables_1_3) rfl)))))
theorem lk537 : (Cond.static y_GM_isVariable : Cond) ∈ lw_tbl := (List.mem_append_right _ (List.mem_append_right _ (List.mem_append_right _ (List.mem_append_left _ (List.mem_of_getElem? (i := 183) (l := tables_1_3) rfl)))))
theorem lk538 : (Cond.code y_GM_isVariable prog_8_method_6_code 1 (some .boolean) : Cond) ∈ lw_tbl := (List.mem_append_right _ (List.mem_append_right _ (List.mem_append_right _ (List.mem_append_left _ (List.mem_of_getElem? (i := 184) (l := tables_1_3) rfl)))))
theorem lk539 : (Cond.methodLink R_GM 116 y_GM_atOperand : Cond) ∈ lw_tbl := (List.mem_append_right _ (List.mem_append_right _ (List.mem_append_right _ (List.mem_append_left _ (List.mem_of_getElem? (i := 185) (l := tables_1_3) rfl)))))
theorem lk540 : (Cond.instanceMethod y_GM_atOperand : Cond) ∈ lw_tbl := (List.mem_append_right _ (List.mem_append_right _ (List.mem_append_right _ (List.mem_append_left _ (List.mem_of_getElem? (i := 187) (l := tables_1_3) rfl)))))
theorem lk541 : (Cond.code y_GM_atOperand prog_8_method_12_code 3 (some .boolean) : Cond) ∈ lw_tbl := (List.mem_append_right _ (List.mem_append_right _ (List.mem_append_right _ (List.mem_append_left _ (List.mem_of_getElem? (i := 188) (l := tables_1_3) rfl)))))
theorem lk542 : (Cond.methodLink R_GM 107 y_GM_operandEnds : Cond) ∈ lw_tbl := (List.mem_append_right _ (List.mem_append_right _ (List.mem_append_right _ (List.mem_append_left _ (List.mem_of_getElem? (i := 189) (l := tables_1_3) rfl)))))
theorem lk543 : (Cond.instanceMethod y_GM_operandEnds : Cond) ∈ lw_tbl := (List.mem_append_right _ (List.mem_append_right _ (List.mem_append_right _ (List.mem_append_left _ (List.mem_of_getElem? (i := 191) (l := tables_1_3) rfl)))))
theorem lk544 : (Cond.code y_GM_operandEnds prog_8_method_10_code 1 none : Cond) ∈ lw_tbl := (List.mem_append_right _ (List.mem_append_right _ (List.mem_append_right _ (List.mem_append_left _ (List.mem_of_getElem? (i := 192) (l := tables_1_3) rfl)))))
theorem lk545 : (Cond.methodLink R_GM 119 y_GM_afterOperand : Cond) ∈ lw_tbl := (List.mem_append_right _ (List.mem_append_right _ (List.mem_append_right _ (List.mem_append_left _ (List.mem_of_getElem? (i := 193) (l := tables_1_3) rfl)))))
theorem lk546 : (Cond.instanceMethod y_GM_afterOperand : Cond) ∈ lw_tbl := (List.mem_append_right _ (List.mem_append_right _ (List.mem_append_right _ (List.mem_append_left _ (List.mem_of_getElem? (i := 195) (l := tables_1_3) rfl)))))
theorem lk547 : (Cond.code y_GM_afterOperand prog_8_method_13_code 3 (some .boolean) : Cond) ∈ lw_tbl := (List.mem_append_right _ (List.mem_append_right _ (List.mem_append_right _ (List.mem_append_left _ (List.mem_of_getElem? (i := 196) (l := tables_1_3) rfl)))))
theorem lk548 : (Cond.methodLink R_GM 110 y_GM_isOperator : Cond) ∈ lw_tbl := (List.mem_append_right _ (List.mem_append_right _ (List.mem_append_right _ (List.mem_append_left _ (List.mem_of_getElem? (i := 197) (l := tables_1_3) rfl)))))
theorem lk549 : (Cond.static y_GM_isOperator : Cond) ∈ lw_tbl := (List.mem_append_right _ (List.mem_append_right _ (List.mem_append_right _ (List.mem_append_left _ (List.mem_of_getElem? (i := 198) (l := tables_1_3) rfl)))))
theorem lk550 : (Cond.code y_GM_isOperator prog_8_method_8_code 1 (some .boolean) : Cond) ∈ lw_tbl := (List.mem_append_right _ (List.mem_append_right _ (List.mem_append_right _ (List.mem_append_left _ (List.mem_of_getElem? (i := 199) (l := tables_1_3) rfl)))))
theorem lk551 : (Cond.methodLink "GateStackLaw" 26 y_GM_compile : Cond) ∈ lw_tbl := (List.mem_append_right _ (List.mem_append_right _ (List.mem_append_right _ (List.mem_append_left _ (List.mem_of_getElem? (i := 200) (l := tables_1_3) rfl)))))
theorem lk552 : (Cond.instanceMethod y_GM_compile : Cond) ∈ lw_tbl := (List.mem_append_right _ (List.mem_append_right _ (List.mem_append_right _ (List.mem_append_left _ (List.mem_of_getElem? (i := 201) (l := tables_1_3) rfl)))))
theorem lk553 : (Cond.selects R_GM y_GM_compile y_GM_compile : Cond) ∈ lw_tbl := (List.mem_append_right _ (List.mem_append_right _ (List.mem_append_right _ (List.mem_append_left _ (List.mem_of_getElem? (i := 202) (l := tables_1_3) rfl)))))
theorem lk554 : (Cond.code y_GM_compile prog_8_method_18_code 2 (some .int) : Cond) ∈ lw_tbl := (List.mem_append_right _ (List.mem_append_right _ (List.mem_append_right _ (List.mem_append_left _ (List.mem_of_getElem? (i := 203) (l := tables_1_3) rfl)))))
theorem lk555 : (Cond.methodLink R_GM 125 y_GM_fault : Cond) ∈ lw_tbl := (List.mem_append_right _ (List.mem_append_right _ (List.mem_append_right _ (List.mem_append_left _ (List.mem_of_getElem? (i := 204) (l := tables_1_3) rfl)))))
theorem lk556 : (Cond.methodLink R_GM 129 y_GM_twice : Cond) ∈ lw_tbl := (List.mem_append_right _ (List.mem_append_right _ (List.mem_append_right _ (List.mem_append_left _ (List.mem_of_getElem? (i := 205) (l := tables_1_3) rfl)))))
theorem lk557 : (Cond.instanceMethod y_GM_twice : Cond) ∈ lw_tbl := (List.mem_append_right _ (List.mem_append_right _ (List.mem_append_right _ (List.mem_append_left _ (List.mem_of_getElem? (i := 207) (l := tables_1_3) rfl)))))
theorem lk558 : (Cond.code y_GM_twice prog_8_method_17_code 6 (some .boolean) : Cond) ∈ lw_tbl := (List.mem_append_right _ (List.mem_append_right _ (List.mem_append_right _ (List.mem_append_left _ (List.mem_of_getElem? (i := 208) (l := tables_1_3) rfl)))))
theorem lk559 : (Cond.methodLink R_GM 132 y_GM_map : Cond) ∈ lw_tbl := (List.mem_append_right _ (List.mem_append_right _ (List.mem_append_right _ (List.mem_append_left _ (List.mem_of_getElem? (i := 209) (l := tables_1_3) rfl)))))
theorem lk560 : (Cond.instanceMethod y_GM_map : Cond) ∈ lw_tbl := (List.mem_append_right _ (List.mem_append_right _ (List.mem_append_right _ (List.mem_append_left _ (List.mem_of_getElem? (i := 211) (l := tables_1_3) rfl)))))
theorem lk561 : (Cond.code y_GM_map prog_8_method_16_code 11 (some .int) : Cond) ∈ lw_tbl := (List.mem_append_right _ (List.mem_append_right _ (List.mem_append_right _ (List.mem_append_left _ (List.mem_of_getElem? (i := 212) (l := tables_1_3) rfl)))))
theorem lk562 : (Cond.methodLink "GateStackLaw" 35 y_GM_link : Cond) ∈ lw_tbl := (List.mem_append_right _ (List.mem_append_right _ (List.mem_append_right _ (List.mem_append_left _ (List.mem_of_getElem? (i := 213) (l := tables_1_3) rfl)))))
theorem lk563 : (Cond.instanceMethod y_GM_link : Cond) ∈ lw_tbl := (List.mem_append_right _ (List.mem_append_right _ (List.mem_append_right _ (List.mem_append_left _ (List.mem_of_getElem? (i := 214) (l := tables_1_3) rfl)))))
theorem lk564 : (Cond.selects R_GM y_GM_link y_GM_link : Cond) ∈ lw_tbl := (List.mem_append_right _ (List.mem_append_right _ (List.mem_append_right _ (List.mem_append_left _ (List.mem_of_getElem? (i := 215) (l := tables_1_3) rfl)))))
theorem lk565 : (Cond.code y_GM_link prog_8_method_20_code 7 (some .int) : Cond) ∈ lw_tbl := (List.mem_append_right _ (List.mem_append_right _ (List.mem_append_right _ (List.mem_append_left _ (List.mem_of_getElem? (i := 216) (l := tables_1_3) rfl)))))
theorem lk566 : (Cond.methodLink R_GM 135 y_GM_gather : Cond) ∈ lw_tbl := (List.mem_append_right _ (List.mem_append_right _ (List.mem_append_right _ (List.mem_append_left _ (List.mem_of_getElem? (i := 217) (l := tables_1_3) rfl)))))
theorem lk567 : (Cond.instanceMethod y_GM_gather : Cond) ∈ lw_tbl := (List.mem_append_right _ (List.mem_append_right _ (List.mem_append_right _ (List.mem_append_left _ (List.mem_of_getElem? (i := 219) (l := tables_1_3) rfl)))))
theorem lk568 : (Cond.code y_GM_gather prog_8_method_19_code 7 (some .boolean) : Cond) ∈ lw_tbl := (List.mem_append_right _ (List.mem_append_right _ (List.mem_append_right _ (List.mem_append_left _ (List.mem_of_getElem? (i := 220) (l := tables_1_3) rfl)))))
theorem lk569 : (Cond.methodLink "GateStackLaw" 39 y_GM_start : Cond) ∈ lw_tbl := (List.mem_append_right _ (List.mem_append_right _ (List.mem_append_right _ (List.mem_append_left _ (List.mem_of_getElem? (i := 221) (l := tables_1_3) rfl)))))
theorem lk570 : (Cond.instanceMethod y_GM_start : Cond) ∈ lw_tbl := (List.mem_append_right _ (List.mem_append_right _ (List.mem_append_right _ (List.mem_append_left _ (List.mem_of_getElem? (i := 222) (l := tables_1_3) rfl)))))
theorem lk571 : (Cond.selects R_GM y_GM_start y_GM_start : Cond) ∈ lw_tbl := (List.mem_append_right _ (List.mem_append_right _ (List.mem_append_right _ (List.mem_append_left _ (List.mem_of_getElem? (i := 223) (l := tables_1_3) rfl)))))
theorem lk572 : (Cond.code y_GM_start prog_8_method_25_code 1 (some .int) : Cond) ∈ lw_tbl := (List.mem_append_right _ (List.mem_append_right _ (List.mem_append_right _ (List.mem_append_left _ (List.mem_of_getElem? (i := 224) (l := tables_1_3) rfl)))))
theorem lk573 : (Cond.methodLink R_GM 162 y_GM_settle : Cond) ∈ lw_tbl := (List.mem_append_right _ (List.mem_append_right _ (List.mem_append_right _ (List.mem_append_left _ (List.mem_of_getElem? (i := 225) (l := tables_1_3) rfl)))))
theorem lk574 : (Cond.instanceMethod y_GM_settle : Cond) ∈ lw_tbl := (List.mem_append_right _ (List.mem_append_right _ (List.mem_append_right _ (List.mem_append_left _ (List.mem_of_getElem? (i := 227) (l := tables_1_3) rfl)))))
theorem lk575 : (Cond.code y_GM_settle prog_8_method_24_code 3 none : Cond) ∈ lw_tbl := (List.mem_append_right _ (List.mem_append_right _ (List.mem_append_right _ (List.mem_append_left _ (List.mem_of_getElem? (i := 228) (l := tables_1_3) rfl)))))
theorem lk576 : (Cond.methodLink "GateStackLaw" 43 y_GM_run : Cond) ∈ lw_tbl := (List.mem_append_right _ (List.mem_append_right _ (List.mem_append_right _ (List.mem_append_left _ (List.mem_of_getElem? (i := 229) (l := tables_1_3) rfl)))))
theorem lk577 : (Cond.instanceMethod y_GM_run : Cond) ∈ lw_tbl := (List.mem_append_right _ (List.mem_append_right _ (List.mem_append_right _ (List.mem_append_left _ (List.mem_of_getElem? (i := 230) (l := tables_1_3) rfl)))))
theorem lk578 : (Cond.selects R_GM y_GM_run y_GM_run : Cond) ∈ lw_tbl := (List.mem_append_right _ (List.mem_append_right _ (List.mem_append_right _ (List.mem_append_left _ (List.mem_of_getElem? (i := 231) (l := tables_1_3) rfl)))))
theorem lk579 : (Cond.code y_GM_run prog_8_method_28_code 3 (some .int) : Cond) ∈ lw_tbl := (List.mem_append_right _ (List.mem_append_right _ (List.mem_append_right _ (List.mem_append_left _ (List.mem_of_getElem? (i := 232) (l := tables_1_3) rfl)))))
theorem lk580 : (Cond.methodLink R_GM 172 y_GM_step : Cond) ∈ lw_tbl := (List.mem_append_right _ (List.mem_append_right _ (List.mem_append_right _ (List.mem_append_left _ (List.mem_of_getElem? (i := 233) (l := tables_1_3) rfl)))))
theorem lk581 : (Cond.instanceMethod y_GM_step : Cond) ∈ lw_tbl := (List.mem_append_right _ (List.mem_append_right _ (List.mem_append_right _ (List.mem_append_left _ (List.mem_of_getElem? (i := 235) (l := tables_1_3) rfl)))))
theorem lk582 : (Cond.code y_GM_step prog_8_method_27_code 3 none : Cond) ∈ lw_tbl := (List.mem_append_right _ (List.mem_append_right _ (List.mem_append_right _ (List.mem_append_left _ (List.mem_of_getElem? (i := 236) (l := tables_1_3) rfl)))))
theorem lk583 : (Cond.methodLink R_GM 168 y_GM_branch : Cond) ∈ lw_tbl := (List.mem_append_right _ (List.mem_append_right _ (List.mem_append_right _ (List.mem_append_left _ (List.mem_of_getElem? (i := 237) (l := tables_1_3) rfl)))))
theorem lk584 : (Cond.instanceMethod y_GM_branch : Cond) ∈ lw_tbl := (List.mem_append_right _ (List.mem_append_right _ (List.mem_append_right _ (List.mem_append_left _ (List.mem_of_getElem? (i := 239) (l := tables_1_3) rfl)))))
theorem lk585 : (Cond.code y_GM_branch prog_8_method_26_code 5 none : Cond) ∈ lw_tbl := (List.mem_append_right _ (List.mem_append_right _ (List.mem_append_right _ (List.mem_append_right _ (List.mem_of_getElem? (i := 0) (l := tables_1_4) rfl)))))
theorem lk586 : (Cond.methodLink R_GM 165 y_GM_work : Cond) ∈ lw_tbl := (List.mem_append_right _ (List.mem_append_right _ (List.mem_append_right _ (List.mem_append_right _ (List.mem_of_getElem? (i := 1) (l := tables_1_4) rfl)))))
theorem lk587 : (Cond.instanceMethod y_GM_work : Cond) ∈ lw_tbl := (List.mem_append_right _ (List.mem_append_right _ (List.mem_append_right _ (List.mem_append_right _ (List.mem_of_getElem? (i := 3) (l := tables_1_4) rfl)))))
theorem lk588 : (Cond.code y_GM_work prog_8_method_23_code 7 (some .int) : Cond) ∈ lw_tbl := (List.mem_append_right _ (List.mem_append_right _ (List.mem_append_right _ (List.mem_append_right _ (List.mem_of_getElem? (i := 4) (l := tables_1_4) rfl)))))
theorem lk589 : (Cond.methodLink R_GM 146 y_GM_operand : Cond) ∈ lw_tbl := (List.mem_append_right _ (List.mem_append_right _ (List.mem_append_right _ (List.mem_append_right _ (List.mem_of_getElem? (i := 5) (l := tables_1_4) rfl)))))
theorem lk590 : (Cond.instanceMethod y_GM_operand : Cond) ∈ lw_tbl := (List.mem_append_right _ (List.mem_append_right _ (List.mem_append_right _ (List.mem_append_right _ (List.mem_of_getElem? (i := 7) (l := tables_1_4) rfl)))))
theorem lk591 : (Cond.code y_GM_operand prog_8_method_22_code 4 none : Cond) ∈ lw_tbl := (List.mem_append_right _ (List.mem_append_right _ (List.mem_append_right _ (List.mem_append_right _ (List.mem_of_getElem? (i := 8) (l := tables_1_4) rfl)))))
theorem lk592 : (Cond.methodLink R_GM 142 y_GM_apply : Cond) ∈ lw_tbl := (List.mem_append_right _ (List.mem_append_right _ (List.mem_append_right _ (List.mem_append_right _ (List.mem_of_getElem? (i := 9) (l := tables_1_4) rfl)))))
theorem lk593 : (Cond.static y_GM_apply : Cond) ∈ lw_tbl := (List.mem_append_right _ (List.mem_append_right _ (List.mem_append_right _ (List.mem_append_right _ (List.mem_of_getElem? (i := 10) (l := tables_1_4) rfl)))))
theorem lk594 : (Cond.code y_GM_apply prog_8_method_21_code 3 (some .int) : Cond) ∈ lw_tbl := (List.mem_append_right _ (List.mem_append_right _ (List.mem_append_right _ (List.mem_append_right _ (List.mem_of_getElem? (i := 11) (l := tables_1_4) rfl)))))
theorem lk595 : (Cond.methodLink "GateStackLaw" 47 y_GM_stop : Cond) ∈ lw_tbl := (List.mem_append_right _ (List.mem_append_right _ (List.mem_append_right _ (List.mem_append_right _ (List.mem_of_getElem? (i := 12) (l := tables_1_4) rfl)))))
theorem lk596 : (Cond.instanceMethod y_GM_stop : Cond) ∈ lw_tbl := (List.mem_append_right _ (List.mem_append_right _ (List.mem_append_right _ (List.mem_append_right _ (List.mem_of_getElem? (i := 13) (l := tables_1_4) rfl)))))
theorem lk597 : (Cond.selects R_GM y_GM_stop y_GM_stop : Cond) ∈ lw_tbl := (List.mem_append_right _ (List.mem_append_right _ (List.mem_append_right _ (List.mem_append_right _ (List.mem_of_getElem? (i := 14) (l := tables_1_4) rfl)))))
theorem lk598 : (Cond.code y_GM_stop prog_8_method_29_code 1 (some .int) : Cond) ∈ lw_tbl := (List.mem_append_right _ (List.mem_append_right _ (List.mem_append_right _ (List.mem_append_right _ (List.mem_of_getElem? (i := 15) (l := tables_1_4) rfl)))))
theorem lk599 : (Cond.methodLink "GateStackLaw" 51 y_GM_set : Cond) ∈ lw_tbl := (List.mem_append_right _ (List.mem_append_right _ (List.mem_append_right _ (List.mem_append_right _ (List.mem_of_getElem? (i := 16) (l := tables_1_4) rfl)))))
theorem lk600 : (Cond.instanceMethod y_GM_set : Cond) ∈ lw_tbl := (List.mem_append_right _ (List.mem_append_right _ (List.mem_append_right _ (List.mem_append_right _ (List.mem_of_getElem? (i := 17) (l := tables_1_4) rfl)))))
theorem lk601 : (Cond.selects R_GM y_GM_set y_GM_set : Cond) ∈ lw_tbl := (List.mem_append_right _ (List.mem_append_right _ (List.mem_append_right _ (List.mem_append_right _ (List.mem_of_getElem? (i := 18) (l := tables_1_4) rfl)))))
theorem lk602 : (Cond.code y_GM_set prog_8_method_30_code 3 (some .int) : Cond) ∈ lw_tbl := (List.mem_append_right _ (List.mem_append_right _ (List.mem_append_right _ (List.mem_append_right _ (List.mem_of_getElem? (i := 19) (l := tables_1_4) rfl)))))
theorem lk603 : (Cond.methodLink "GateStackLaw" 56 y_GM_get : Cond) ∈ lw_tbl := (List.mem_append_right _ (List.mem_append_right _ (List.mem_append_right _ (List.mem_append_right _ (List.mem_of_getElem? (i := 20) (l := tables_1_4) rfl)))))
theorem lk604 : (Cond.instanceMethod y_GM_get : Cond) ∈ lw_tbl := (List.mem_append_right _ (List.mem_append_right _ (List.mem_append_right _ (List.mem_append_right _ (List.mem_of_getElem? (i := 21) (l := tables_1_4) rfl)))))
theorem lk605 : (Cond.selects R_GM y_GM_get y_GM_get : Cond) ∈ lw_tbl := (List.mem_append_right _ (List.mem_append_right _ (List.mem_append_right _ (List.mem_append_right _ (List.mem_of_getElem? (i := 22) (l := tables_1_4) rfl)))))
theorem lk606 : (Cond.code y_GM_get prog_8_method_31_code 2 (some .long) : Cond) ∈ lw_tbl := (List.mem_append_right _ (List.mem_append_right _ (List.mem_append_right _ (List.mem_append_right _ (List.mem_of_getElem? (i := 23) (l := tables_1_4) rfl)))))
theorem lk607 : (Cond.constantLong R_GM 175 (-1000000000000) : Cond) ∈ lw_tbl := (List.mem_append_right _ (List.mem_append_right _ (List.mem_append_right _ (List.mem_append_right _ (List.mem_of_getElem? (i := 24) (l := tables_1_4) rfl)))))
theorem lk608 : (Cond.methodLink "GateStackLaw" 60 y_GM_output : Cond) ∈ lw_tbl := (List.mem_append_right _ (List.mem_append_right _ (List.mem_append_right _ (List.mem_append_right _ (List.mem_of_getElem? (i := 25) (l := tables_1_4) rfl)))))
theorem lk609 : (Cond.instanceMethod y_GM_output : Cond) ∈ lw_tbl := (List.mem_append_right _ (List.mem_append_right _ (List.mem_append_right _ (List.mem_append_right _ (List.mem_of_getElem? (i := 26) (l := tables_1_4) rfl)))))
theorem lk610 : (Cond.selects R_GM y_GM_output y_GM_output : Cond) ∈ lw_tbl := (List.mem_append_right _ (List.mem_append_right _ (List.mem_append_right _ (List.mem_append_right _ (List.mem_of_getElem? (i := 27) (l := tables_1_4) rfl)))))
theorem lk611 : (Cond.code y_GM_output prog_8_method_32_code 2 (some .long) : Cond) ∈ lw_tbl := (List.mem_append_right _ (List.mem_append_right _ (List.mem_append_right _ (List.mem_append_right _ (List.mem_of_getElem? (i := 28) (l := tables_1_4) rfl)))))
theorem lk612 : (Cond.methodLink "GateStackLaw" 64 y_GM_at : Cond) ∈ lw_tbl := (List.mem_append_right _ (List.mem_append_right _ (List.mem_append_right _ (List.mem_append_right _ (List.mem_of_getElem? (i := 29) (l := tables_1_4) rfl)))))
theorem lk613 : (Cond.instanceMethod y_GM_at : Cond) ∈ lw_tbl := (List.mem_append_right _ (List.mem_append_right _ (List.mem_append_right _ (List.mem_append_right _ (List.mem_of_getElem? (i := 30) (l := tables_1_4) rfl)))))
theorem lk614 : (Cond.selects R_GM y_GM_at y_GM_at : Cond) ∈ lw_tbl := (List.mem_append_right _ (List.mem_append_right _ (List.mem_append_right _ (List.mem_append_right _ (List.mem_of_getElem? (i := 31) (l := tables_1_4) rfl)))))
theorem lk615 : (Cond.code y_GM_at prog_8_method_33_code 2 (some .int) : Cond) ∈ lw_tbl := (List.mem_append_right _ (List.mem_append_right _ (List.mem_append_right _ (List.mem_append_right _ (List.mem_of_getElem? (i := 32) (l := tables_1_4) rfl)))))
theorem lk616 : (Cond.methodLink "GateStackLaw" 69 y_GM_operate : Cond) ∈ lw_tbl := (List.mem_append_right _ (List.mem_append_right _ (List.mem_append_right _ (List.mem_append_right _ (List.mem_of_getElem? (i := 33) (l := tables_1_4) rfl)))))
theorem lk617 : (Cond.instanceMethod y_GM_operate : Cond) ∈ lw_tbl := (List.mem_append_right _ (List.mem_append_right _ (List.mem_append_right _ (List.mem_append_right _ (List.mem_of_getElem? (i := 34) (l := tables_1_4) rfl)))))
theorem lk618 : (Cond.selects R_GM y_GM_operate y_GM_operate : Cond) ∈ lw_tbl := (List.mem_append_right _ (List.mem_append_right _ (List.mem_append_right _ (List.mem_append_right _ (List.mem_of_getElem? (i := 35) (l := tables_1_4) rfl)))))
theorem lk619 : (Cond.code y_GM_operate prog_8_method_34_code 5 (some .long) : Cond) ∈ lw_tbl := (List.mem_append_right _ (List.mem_append_right _ (List.mem_append_right _ (List.mem_append_right _ (List.mem_of_getElem? (i := 36) (l := tables_1_4) rfl)))))
theorem lk620 : (Cond.methodLink "GateStackLaw" 73 y_GM_state : Cond) ∈ lw_tbl := (List.mem_append_right _ (List.mem_append_right _ (List.mem_append_right _ (List.mem_append_right _ (List.mem_of_getElem? (i := 37) (l := tables_1_4) rfl)))))
theorem lk621 : (Cond.instanceMethod y_GM_state : Cond) ∈ lw_tbl := (List.mem_append_right _ (List.mem_append_right _ (List.mem_append_right _ (List.mem_append_right _ (List.mem_of_getElem? (i := 38) (l := tables_1_4) rfl)))))
theorem lk622 : (Cond.selects R_GM y_GM_state y_GM_state : Cond) ∈ lw_tbl := (List.mem_append_right _ (List.mem_append_right _ (List.mem_append_right _ (List.mem_append_right _ (List.mem_of_getElem? (i := 39) (l := tables_1_4) rfl)))))
theorem lk623 : (Cond.code y_GM_state prog_8_method_35_code 3 (some .int) : Cond) ∈ lw_tbl := (List.mem_append_right _ (List.mem_append_right _ (List.mem_append_right _ (List.mem_append_right _ (List.mem_of_getElem? (i := 40) (l := tables_1_4) rfl)))))
theorem lk624 : (Cond.selects R_GS y_GS_loosen y_GS_loosen : Cond) ∈ lw_tbl := (List.mem_append_left _ (List.mem_of_getElem? (i := 0) (l := k2_sels lw_privs) rfl))
theorem lk625 : (Cond.selects R_RD y_RD_takes y_RD_takes : Cond) ∈ lw_tbl := (List.mem_append_left _ (List.mem_of_getElem? (i := 1) (l := k2_sels lw_privs) rfl))
theorem lk626 : (Cond.selects R_RD y_RD_takesProcedure y_RD_takesProcedure : Cond) ∈ lw_tbl := (List.mem_append_left _ (List.mem_of_getElem? (i := 2) (l := k2_sels lw_privs) rfl))
theorem lk627 : (Cond.selects R_RD y_RD_begins y_RD_begins : Cond) ∈ lw_tbl := (List.mem_append_left _ (List.mem_of_getElem? (i := 3) (l := k2_sels lw_privs) rfl))
theorem lk628 : (Cond.selects R_RD y_RD_expects y_RD_expects : Cond) ∈ lw_tbl := (List.mem_append_left _ (List.mem_of_getElem? (i := 4) (l := k2_sels lw_privs) rfl))
theorem lk629 : (Cond.selects R_RD y_RD_opens y_RD_opens : Cond) ∈ lw_tbl := (List.mem_append_left _ (List.mem_of_getElem? (i := 5) (l := k2_sels lw_privs) rfl))
theorem lk630 : (Cond.selects R_RD y_RD_takesStatement y_RD_takesStatement : Cond) ∈ lw_tbl := (List.mem_append_left _ (List.mem_of_getElem? (i := 6) (l := k2_sels lw_privs) rfl))
theorem lk631 : (Cond.selects R_RD y_RD_closesBlock y_RD_closesBlock : Cond) ∈ lw_tbl := (List.mem_append_left _ (List.mem_of_getElem? (i := 7) (l := k2_sels lw_privs) rfl))
theorem lk632 : (Cond.selects R_MT y_MT_isPlace y_MT_isPlace : Cond) ∈ lw_tbl := (List.mem_append_left _ (List.mem_of_getElem? (i := 8) (l := k2_sels lw_privs) rfl))
theorem lk633 : (Cond.selects R_RD y_RD_takesOperand y_RD_takesOperand : Cond) ∈ lw_tbl := (List.mem_append_left _ (List.mem_of_getElem? (i := 9) (l := k2_sels lw_privs) rfl))
theorem lk634 : (Cond.selects R_RD y_RD_endsOperand y_RD_endsOperand : Cond) ∈ lw_tbl := (List.mem_append_left _ (List.mem_of_getElem? (i := 10) (l := k2_sels lw_privs) rfl))
theorem lk635 : (Cond.selects R_RD y_RD_lastOpen y_RD_lastOpen : Cond) ∈ lw_tbl := (List.mem_append_left _ (List.mem_of_getElem? (i := 11) (l := k2_sels lw_privs) rfl))
theorem lk636 : (Cond.selects R_RD y_RD_takesDigit y_RD_takesDigit : Cond) ∈ lw_tbl := (List.mem_append_left _ (List.mem_of_getElem? (i := 12) (l := k2_sels lw_privs) rfl))
theorem lk637 : (Cond.selects R_RD y_RD_takesOperator y_RD_takesOperator : Cond) ∈ lw_tbl := (List.mem_append_left _ (List.mem_of_getElem? (i := 13) (l := k2_sels lw_privs) rfl))
theorem lk638 : (Cond.selects R_PR y_PR_forget y_PR_forget : Cond) ∈ lw_tbl := (List.mem_append_left _ (List.mem_of_getElem? (i := 14) (l := k2_sels lw_privs) rfl))
theorem lk639 : (Cond.selects R_PR y_PR_takeOver y_PR_takeOver : Cond) ∈ lw_tbl := (List.mem_append_left _ (List.mem_of_getElem? (i := 15) (l := k2_sels lw_privs) rfl))
theorem lk640 : (Cond.selects R_PR y_PR_lacksOne y_PR_lacksOne : Cond) ∈ lw_tbl := (List.mem_append_left _ (List.mem_of_getElem? (i := 16) (l := k2_sels lw_privs) rfl))
theorem lk641 : (Cond.selects R_PR y_PR_followChains y_PR_followChains : Cond) ∈ lw_tbl := (List.mem_append_left _ (List.mem_of_getElem? (i := 17) (l := k2_sels lw_privs) rfl))
theorem lk642 : (Cond.selects R_PR y_PR_hasCircle y_PR_hasCircle : Cond) ∈ lw_tbl := (List.mem_append_left _ (List.mem_of_getElem? (i := 18) (l := k2_sels lw_privs) rfl))
theorem lk643 : (Cond.selects R_MA y_MA_enter y_MA_enter : Cond) ∈ lw_tbl := (List.mem_append_left _ (List.mem_of_getElem? (i := 19) (l := k2_sels lw_privs) rfl))
theorem lk644 : (Cond.selects R_MA y_MA_leaveEndedBlocks y_MA_leaveEndedBlocks : Cond) ∈ lw_tbl := (List.mem_append_left _ (List.mem_of_getElem? (i := 20) (l := k2_sels lw_privs) rfl))
theorem lk645 : (Cond.selects R_MA y_MA_currentText y_MA_currentText : Cond) ∈ lw_tbl := (List.mem_append_left _ (List.mem_of_getElem? (i := 21) (l := k2_sels lw_privs) rfl))
theorem lk646 : (Cond.selects R_MT y_MT_behindEndOf y_MT_behindEndOf : Cond) ∈ lw_tbl := (List.mem_append_left _ (List.mem_of_getElem? (i := 22) (l := k2_sels lw_privs) rfl))
theorem lk647 : (Cond.selects R_MA y_MA_placeBehind y_MA_placeBehind : Cond) ∈ lw_tbl := (List.mem_append_left _ (List.mem_of_getElem? (i := 23) (l := k2_sels lw_privs) rfl))
theorem lk648 : (Cond.selects R_CA y_CA_expression y_CA_expression : Cond) ∈ lw_tbl := (List.mem_append_left _ (List.mem_of_getElem? (i := 24) (l := k2_sels lw_privs) rfl))
theorem lk649 : (Cond.selects R_CA y_CA_operand y_CA_operand : Cond) ∈ lw_tbl := (List.mem_append_left _ (List.mem_of_getElem? (i := 25) (l := k2_sels lw_privs) rfl))
theorem lk650 : (Cond.selects R_CA y_CA_number y_CA_number : Cond) ∈ lw_tbl := (List.mem_append_left _ (List.mem_of_getElem? (i := 26) (l := k2_sels lw_privs) rfl))
theorem lk651 : (Cond.selects R_MA y_MA_keep y_MA_keep : Cond) ∈ lw_tbl := (List.mem_append_left _ (List.mem_of_getElem? (i := 27) (l := k2_sels lw_privs) rfl))
theorem lk652 : (Cond.selects R_GM y_GM_unlink y_GM_unlink : Cond) ∈ lw_tbl := (List.mem_append_left _ (List.mem_of_getElem? (i := 28) (l := k2_sels lw_privs) rfl))
theorem lk653 : (Cond.selects R_GM y_GM_stands y_GM_stands : Cond) ∈ lw_tbl := (List.mem_append_left _ (List.mem_of_getElem? (i := 29) (l := k2_sels lw_privs) rfl))
theorem lk654 : (Cond.selects R_GM y_GM_push y_GM_push : Cond) ∈ lw_tbl := (List.mem_append_left _ (List.mem_of_getElem? (i := 30) (l := k2_sels lw_privs) rfl))
theorem lk655 : (Cond.selects R_GM y_GM_atStatement y_GM_atStatement : Cond) ∈ lw_tbl := (List.mem_append_left _ (List.mem_of_getElem? (i := 31) (l := k2_sels lw_privs) rfl))
theorem lk656 : (Cond.selects R_GM y_GM_atOperand y_GM_atOperand : Cond) ∈ lw_tbl := (List.mem_append_left _ (List.mem_of_getElem? (i := 32) (l := k2_sels lw_privs) rfl))
theorem lk657 : (Cond.selects R_GM y_GM_operandEnds y_GM_operandEnds : Cond) ∈ lw_tbl := (List.mem_append_left _ (List.mem_of_getElem? (i := 33) (l := k2_sels lw_privs) rfl))
theorem lk658 : (Cond.selects R_GM y_GM_afterOperand y_GM_afterOperand : Cond) ∈ lw_tbl := (List.mem_append_left _ (List.mem_of_getElem? (i := 34) (l := k2_sels lw_privs) rfl))
theorem lk659 : (Cond.selects R_GM y_GM_twice y_GM_twice : Cond) ∈ lw_tbl := (List.mem_append_left _ (List.mem_of_getElem? (i := 35) (l := k2_sels lw_privs) rfl))
theorem lk660 : (Cond.selects R_GM y_GM_map y_GM_map : Cond) ∈ lw_tbl := (List.mem_append_left _ (List.mem_of_getElem? (i := 36) (l := k2_sels lw_privs) rfl))
theorem lk661 : (Cond.selects R_GM y_GM_gather y_GM_gather : Cond) ∈ lw_tbl := (List.mem_append_left _ (List.mem_of_getElem? (i := 37) (l := k2_sels lw_privs) rfl))
theorem lk662 : (Cond.selects R_GM y_GM_settle y_GM_settle : Cond) ∈ lw_tbl := (List.mem_append_left _ (List.mem_of_getElem? (i := 38) (l := k2_sels lw_privs) rfl))
theorem lk663 : (Cond.selects R_GM y_GM_step y_GM_step : Cond) ∈ lw_tbl := (List.mem_append_left _ (List.mem_of_getElem? (i := 39) (l := k2_sels lw_privs) rfl))
theorem lk664 : (Cond.selects R_GM y_GM_branch y_GM_branch : Cond) ∈ lw_tbl := (List.mem_append_left _ (List.mem_of_getElem? (i := 40) (l := k2_sels lw_privs) rfl))
theorem lk665 : (Cond.selects R_GM y_GM_work y_GM_work : Cond) ∈ lw_tbl := (List.mem_append_left _ (List.mem_of_getElem? (i := 41) (l := k2_sels lw_privs) rfl))
theorem lk666 : (Cond.selects R_GM y_GM_operand y_GM_operand : Cond) ∈ lw_tbl := (List.mem_append_left _ (List.mem_of_getElem? (i := 42) (l := k2_sels lw_privs) rfl))
theorem al_0 : ∀ w ∈ allW_0, w ∈ lw_tbl := (List.forall_mem_cons.mpr ⟨lk0, (List.forall_mem_cons.mpr ⟨lk1, (List.forall_mem_cons.mpr ⟨lk2, (List.forall_mem_cons.mpr ⟨lk3, (List.forall_mem_cons.mpr ⟨lk4, (List.forall_mem_cons.mpr ⟨lk5, (List.forall_mem_cons.mpr ⟨lk6, (List.forall_mem_cons.mpr ⟨lk7, (List.forall_mem_cons.mpr ⟨lk8, (List.forall_mem_cons.mpr ⟨lk9, (List.forall_mem_cons.mpr ⟨lk10, (List.forall_mem_cons.mpr ⟨lk11, (List.forall_mem_cons.mpr ⟨lk12, (List.forall_mem_cons.mpr ⟨lk13, (List.forall_mem_cons.mpr ⟨lk14, (List.forall_mem_cons.mpr ⟨lk15, (List.forall_mem_cons.mpr ⟨lk16, (List.forall_mem_cons.mpr ⟨lk17, (List.forall_mem_cons.mpr ⟨lk18, (List.forall_mem_cons.mpr ⟨lk19, (List.forall_mem_cons.mpr ⟨lk20, (List.forall_mem_cons.mpr ⟨lk21, (List.forall_mem_cons.mpr ⟨lk22, (List.forall_mem_cons.mpr ⟨lk23, (List.forall_mem_cons.mpr ⟨lk24, (List.forall_mem_cons.mpr ⟨lk25, (List.forall_mem_cons.mpr ⟨lk26, (List.forall_mem_cons.mpr ⟨lk27, (List.forall_mem_cons.mpr ⟨lk28, (List.forall_mem_cons.mpr ⟨lk29, (List.forall_mem_cons.mpr ⟨lk30, (List.forall_mem_cons.mpr ⟨lk31, (List.forall_mem_cons.mpr ⟨lk32, (List.forall_mem_cons.mpr ⟨lk33, (List.forall_mem_cons.mpr ⟨lk34, (List.forall_mem_cons.mpr ⟨lk35, (List.forall_mem_cons.mpr ⟨lk36, (List.forall_mem_cons.mpr ⟨lk37, (List.forall_mem_cons.mpr ⟨lk38, (List.forall_mem_cons.mpr ⟨lk39, (List.forall_mem_cons.mpr ⟨lk40, (List.forall_mem_cons.mpr ⟨lk41, (List.forall_mem_cons.mpr ⟨lk42, (List.forall_mem_cons.mpr ⟨lk43, (List.forall_mem_cons.mpr ⟨lk44, (List.forall_mem_cons.mpr ⟨lk45, (List.forall_mem_cons.mpr ⟨lk46, (List.forall_mem_cons.mpr ⟨lk47, (List.forall_mem_cons.mpr ⟨lk48, (List.forall_mem_cons.mpr ⟨lk49, (List.forall_mem_cons.mpr ⟨lk50, (List.forall_mem_cons.mpr ⟨lk51, (List.forall_mem_cons.mpr ⟨lk52, (List.forall_mem_cons.mpr ⟨lk53, (List.forall_mem_cons.mpr ⟨lk54, (List.forall_mem_cons.mpr ⟨lk55, (List.forall_mem_cons.mpr ⟨lk56, (List.forall_mem_cons.mpr ⟨lk57, (List.forall_mem_cons.mpr ⟨lk58, (List.forall_mem_cons.mpr ⟨lk59, (fun _ h => absurd h List.not_mem_nil)⟩)⟩)⟩)⟩)⟩)⟩)⟩)⟩)⟩)⟩)⟩)⟩)⟩)⟩)⟩)⟩)⟩)⟩)⟩)⟩)⟩)⟩)⟩)⟩)⟩)⟩)⟩)⟩)⟩)⟩)⟩)⟩)⟩)⟩)⟩)⟩)⟩)⟩)⟩)⟩)⟩)⟩)⟩)⟩)⟩)⟩)⟩)⟩)⟩)⟩)⟩)⟩)⟩)⟩)⟩)⟩)⟩)⟩)⟩)⟩)
theorem al_1 : ∀ w ∈ allW_1, w ∈ lw_tbl := (List.forall_mem_cons.mpr ⟨lk60, (List.forall_mem_cons.mpr ⟨lk61, (List.forall_mem_cons.mpr ⟨lk62, (List.forall_mem_cons.mpr ⟨lk63, (List.forall_mem_cons.mpr ⟨lk64, (List.forall_mem_cons.mpr ⟨lk65, (List.forall_mem_cons.mpr ⟨lk66, (List.forall_mem_cons.mpr ⟨lk67, (List.forall_mem_cons.mpr ⟨lk68, (List.forall_mem_cons.mpr ⟨lk69, (List.forall_mem_cons.mpr ⟨lk70, (List.forall_mem_cons.mpr ⟨lk71, (List.forall_mem_cons.mpr ⟨lk72, (List.forall_mem_cons.mpr ⟨lk73, (List.forall_mem_cons.mpr ⟨lk74, (List.forall_mem_cons.mpr ⟨lk75, (List.forall_mem_cons.mpr ⟨lk76, (List.forall_mem_cons.mpr ⟨lk77, (List.forall_mem_cons.mpr ⟨lk78, (List.forall_mem_cons.mpr ⟨lk79, (List.forall_mem_cons.mpr ⟨lk80, (List.forall_mem_cons.mpr ⟨lk81, (List.forall_mem_cons.mpr ⟨lk82, (List.forall_mem_cons.mpr ⟨lk83, (List.forall_mem_cons.mpr ⟨lk84, (List.forall_mem_cons.mpr ⟨lk85, (List.forall_mem_cons.mpr ⟨lk86, (List.forall_mem_cons.mpr ⟨lk87, (List.forall_mem_cons.mpr ⟨lk88, (List.forall_mem_cons.mpr ⟨lk89, (List.forall_mem_cons.mpr ⟨lk90, (List.forall_mem_cons.mpr ⟨lk91, (List.forall_mem_cons.mpr ⟨lk92, (List.forall_mem_cons.mpr ⟨lk93, (List.forall_mem_cons.mpr ⟨lk94, (List.forall_mem_cons.mpr ⟨lk95, (List.forall_mem_cons.mpr ⟨lk96, (List.forall_mem_cons.mpr ⟨lk97, (List.forall_mem_cons.mpr ⟨lk98, (List.forall_mem_cons.mpr ⟨lk99, (List.forall_mem_cons.mpr ⟨lk100, (List.forall_mem_cons.mpr ⟨lk101, (List.forall_mem_cons.mpr ⟨lk102, (List.forall_mem_cons.mpr ⟨lk103, (List.forall_mem_cons.mpr ⟨lk104, (List.forall_mem_cons.mpr ⟨lk105, (List.forall_mem_cons.mpr ⟨lk106, (List.forall_mem_cons.mpr ⟨lk107, (List.forall_mem_cons.mpr ⟨lk108, (List.forall_mem_cons.mpr ⟨lk109, (List.forall_mem_cons.mpr ⟨lk110, (List.forall_mem_cons.mpr ⟨lk111, (List.forall_mem_cons.mpr ⟨lk112, (List.forall_mem_cons.mpr ⟨lk113, (List.forall_mem_cons.mpr ⟨lk114, (List.forall_mem_cons.mpr ⟨lk115, (List.forall_mem_cons.mpr ⟨lk116, (List.forall_mem_cons.mpr ⟨lk117, (List.forall_mem_cons.mpr ⟨lk118, (List.forall_mem_cons.mpr ⟨lk119, (fun _ h => absurd h List.not_mem_nil)⟩)⟩)⟩)⟩)⟩)⟩)⟩)⟩)⟩)⟩)⟩)⟩)⟩)⟩)⟩)⟩)⟩)⟩)⟩)⟩)⟩)⟩)⟩)⟩)⟩)⟩)⟩)⟩)⟩)⟩)⟩)⟩)⟩)⟩)⟩)⟩)⟩)⟩)⟩)⟩)⟩)⟩)⟩)⟩)⟩)⟩)⟩)⟩)⟩)⟩)⟩)⟩)⟩)⟩)⟩)⟩)⟩)⟩)⟩)⟩)
theorem al_2 : ∀ w ∈ allW_2, w ∈ lw_tbl := (List.forall_mem_cons.mpr ⟨lk120, (List.forall_mem_cons.mpr ⟨lk121, (List.forall_mem_cons.mpr ⟨lk122, (List.forall_mem_cons.mpr ⟨lk123, (List.forall_mem_cons.mpr ⟨lk124, (List.forall_mem_cons.mpr ⟨lk125, (List.forall_mem_cons.mpr ⟨lk126, (List.forall_mem_cons.mpr ⟨lk127, (List.forall_mem_cons.mpr ⟨lk128, (List.forall_mem_cons.mpr ⟨lk129, (List.forall_mem_cons.mpr ⟨lk130, (List.forall_mem_cons.mpr ⟨lk131, (List.forall_mem_cons.mpr ⟨lk132, (List.forall_mem_cons.mpr ⟨lk133, (List.forall_mem_cons.mpr ⟨lk134, (List.forall_mem_cons.mpr ⟨lk135, (List.forall_mem_cons.mpr ⟨lk136, (List.forall_mem_cons.mpr ⟨lk137, (List.forall_mem_cons.mpr ⟨lk138, (List.forall_mem_cons.mpr ⟨lk139, (List.forall_mem_cons.mpr ⟨lk140, (List.forall_mem_cons.mpr ⟨lk141, (List.forall_mem_cons.mpr ⟨lk142, (List.forall_mem_cons.mpr ⟨lk143, (List.forall_mem_cons.mpr ⟨lk144, (List.forall_mem_cons.mpr ⟨lk145, (List.forall_mem_cons.mpr ⟨lk146, (List.forall_mem_cons.mpr ⟨lk147, (List.forall_mem_cons.mpr ⟨lk148, (List.forall_mem_cons.mpr ⟨lk149, (List.forall_mem_cons.mpr ⟨lk150, (List.forall_mem_cons.mpr ⟨lk151, (List.forall_mem_cons.mpr ⟨lk152, (List.forall_mem_cons.mpr ⟨lk153, (List.forall_mem_cons.mpr ⟨lk154, (List.forall_mem_cons.mpr ⟨lk155, (List.forall_mem_cons.mpr ⟨lk156, (List.forall_mem_cons.mpr ⟨lk157, (List.forall_mem_cons.mpr ⟨lk158, (List.forall_mem_cons.mpr ⟨lk159, (List.forall_mem_cons.mpr ⟨lk160, (List.forall_mem_cons.mpr ⟨lk161, (List.forall_mem_cons.mpr ⟨lk162, (List.forall_mem_cons.mpr ⟨lk163, (List.forall_mem_cons.mpr ⟨lk164, (List.forall_mem_cons.mpr ⟨lk165, (List.forall_mem_cons.mpr ⟨lk166, (List.forall_mem_cons.mpr ⟨lk167, (List.forall_mem_cons.mpr ⟨lk168, (List.forall_mem_cons.mpr ⟨lk169, (List.forall_mem_cons.mpr ⟨lk170, (List.forall_mem_cons.mpr ⟨lk171, (List.forall_mem_cons.mpr ⟨lk172, (List.forall_mem_cons.mpr ⟨lk173, (List.forall_mem_cons.mpr ⟨lk174, (List.forall_mem_cons.mpr ⟨lk175, (List.forall_mem_cons.mpr ⟨lk176, (List.forall_mem_cons.mpr ⟨lk177, (List.forall_mem_cons.mpr ⟨lk178, (List.forall_mem_cons.mpr ⟨lk179, (fun _ h => absurd h List.not_mem_nil)⟩)⟩)⟩)⟩)⟩)⟩)⟩)⟩)⟩)⟩)⟩)⟩)⟩)⟩)⟩)⟩)⟩)⟩)⟩)⟩)⟩)⟩)⟩)⟩)⟩)⟩)⟩)⟩)⟩)⟩)⟩)⟩)⟩)⟩)⟩)⟩)⟩)⟩)⟩)⟩)⟩)⟩)⟩)⟩)⟩)⟩)⟩)⟩)⟩)⟩)⟩)⟩)⟩)⟩)⟩)⟩)⟩)⟩)⟩)⟩)
theorem al_3 : ∀ w ∈ allW_3, w ∈ lw_tbl := (List.forall_mem_cons.mpr ⟨lk180, (List.forall_mem_cons.mpr ⟨lk181, (List.forall_mem_cons.mpr ⟨lk182, (List.forall_mem_cons.mpr ⟨lk183, (List.forall_mem_cons.mpr ⟨lk184, (List.forall_mem_cons.mpr ⟨lk185, (List.forall_mem_cons.mpr ⟨lk186, (List.forall_mem_cons.mpr ⟨lk187, (List.forall_mem_cons.mpr ⟨lk188, (List.forall_mem_cons.mpr ⟨lk189, (List.forall_mem_cons.mpr ⟨lk190, (List.forall_mem_cons.mpr ⟨lk191, (List.forall_mem_cons.mpr ⟨lk192, (List.forall_mem_cons.mpr ⟨lk193, (List.forall_mem_cons.mpr ⟨lk194, (List.forall_mem_cons.mpr ⟨lk195, (List.forall_mem_cons.mpr ⟨lk196, (List.forall_mem_cons.mpr ⟨lk197, (List.forall_mem_cons.mpr ⟨lk198, (List.forall_mem_cons.mpr ⟨lk199, (List.forall_mem_cons.mpr ⟨lk200, (List.forall_mem_cons.mpr ⟨lk201, (List.forall_mem_cons.mpr ⟨lk202, (List.forall_mem_cons.mpr ⟨lk203, (List.forall_mem_cons.mpr ⟨lk204, (List.forall_mem_cons.mpr ⟨lk205, (List.forall_mem_cons.mpr ⟨lk206, (List.forall_mem_cons.mpr ⟨lk207, (List.forall_mem_cons.mpr ⟨lk208, (List.forall_mem_cons.mpr ⟨lk209, (List.forall_mem_cons.mpr ⟨lk210, (List.forall_mem_cons.mpr ⟨lk211, (List.forall_mem_cons.mpr ⟨lk212, (List.forall_mem_cons.mpr ⟨lk213, (List.forall_mem_cons.mpr ⟨lk214, (List.forall_mem_cons.mpr ⟨lk215, (List.forall_mem_cons.mpr ⟨lk216, (List.forall_mem_cons.mpr ⟨lk217, (List.forall_mem_cons.mpr ⟨lk218, (List.forall_mem_cons.mpr ⟨lk219, (List.forall_mem_cons.mpr ⟨lk220, (List.forall_mem_cons.mpr ⟨lk221, (List.forall_mem_cons.mpr ⟨lk222, (List.forall_mem_cons.mpr ⟨lk223, (List.forall_mem_cons.mpr ⟨lk224, (List.forall_mem_cons.mpr ⟨lk225, (List.forall_mem_cons.mpr ⟨lk226, (List.forall_mem_cons.mpr ⟨lk227, (List.forall_mem_cons.mpr ⟨lk228, (List.forall_mem_cons.mpr ⟨lk229, (List.forall_mem_cons.mpr ⟨lk230, (List.forall_mem_cons.mpr ⟨lk231, (List.forall_mem_cons.mpr ⟨lk232, (List.forall_mem_cons.mpr ⟨lk233, (List.forall_mem_cons.mpr ⟨lk234, (List.forall_mem_cons.mpr ⟨lk235, (List.forall_mem_cons.mpr ⟨lk236, (List.forall_mem_cons.mpr ⟨lk237, (List.forall_mem_cons.mpr ⟨lk238, (List.forall_mem_cons.mpr ⟨lk239, (fun _ h => absurd h List.not_mem_nil)⟩)⟩)⟩)⟩)⟩)⟩)⟩)⟩)⟩)⟩)⟩)⟩)⟩)⟩)⟩)⟩)⟩)⟩)⟩)⟩)⟩)⟩)⟩)⟩)⟩)⟩)⟩)⟩)⟩)⟩)⟩)⟩)⟩)⟩)⟩)⟩)⟩)⟩)⟩)⟩)⟩)⟩)⟩)⟩)⟩)⟩)⟩)⟩)⟩)⟩)⟩)⟩)⟩)⟩)⟩)⟩)⟩)⟩)⟩)⟩)
theorem al_4 : ∀ w ∈ allW_4, w ∈ lw_tbl := (List.forall_mem_cons.mpr ⟨lk240, (List.forall_mem_cons.mpr ⟨lk241, (List.forall_mem_cons.mpr ⟨lk242, (List.forall_mem_cons.mpr ⟨lk243, (List.forall_mem_cons.mpr ⟨lk244, (List.forall_mem_cons.mpr ⟨lk245, (List.forall_mem_cons.mpr ⟨lk246, (List.forall_mem_cons.mpr ⟨lk247, (List.forall_mem_cons.mpr ⟨lk248, (List.forall_mem_cons.mpr ⟨lk249, (List.forall_mem_cons.mpr ⟨lk250, (List.forall_mem_cons.mpr ⟨lk251, (List.forall_mem_cons.mpr ⟨lk252, (List.forall_mem_cons.mpr ⟨lk253, (List.forall_mem_cons.mpr ⟨lk254, (List.forall_mem_cons.mpr ⟨lk255, (List.forall_mem_cons.mpr ⟨lk256, (List.forall_mem_cons.mpr ⟨lk257, (List.forall_mem_cons.mpr ⟨lk258, (List.forall_mem_cons.mpr ⟨lk259, (List.forall_mem_cons.mpr ⟨lk260, (List.forall_mem_cons.mpr ⟨lk261, (List.forall_mem_cons.mpr ⟨lk262, (List.forall_mem_cons.mpr ⟨lk263, (List.forall_mem_cons.mpr ⟨lk264, (List.forall_mem_cons.mpr ⟨lk265, (List.forall_mem_cons.mpr ⟨lk266, (List.forall_mem_cons.mpr ⟨lk267, (List.forall_mem_cons.mpr ⟨lk268, (List.forall_mem_cons.mpr ⟨lk269, (List.forall_mem_cons.mpr ⟨lk270, (List.forall_mem_cons.mpr ⟨lk271, (List.forall_mem_cons.mpr ⟨lk272, (List.forall_mem_cons.mpr ⟨lk273, (List.forall_mem_cons.mpr ⟨lk274, (List.forall_mem_cons.mpr ⟨lk275, (List.forall_mem_cons.mpr ⟨lk276, (List.forall_mem_cons.mpr ⟨lk277, (List.forall_mem_cons.mpr ⟨lk278, (List.forall_mem_cons.mpr ⟨lk279, (List.forall_mem_cons.mpr ⟨lk280, (List.forall_mem_cons.mpr ⟨lk281, (List.forall_mem_cons.mpr ⟨lk282, (List.forall_mem_cons.mpr ⟨lk283, (List.forall_mem_cons.mpr ⟨lk284, (List.forall_mem_cons.mpr ⟨lk285, (List.forall_mem_cons.mpr ⟨lk286, (List.forall_mem_cons.mpr ⟨lk287, (List.forall_mem_cons.mpr ⟨lk288, (List.forall_mem_cons.mpr ⟨lk289, (List.forall_mem_cons.mpr ⟨lk290, (List.forall_mem_cons.mpr ⟨lk291, (List.forall_mem_cons.mpr ⟨lk292, (List.forall_mem_cons.mpr ⟨lk293, (List.forall_mem_cons.mpr ⟨lk294, (List.forall_mem_cons.mpr ⟨lk295, (List.forall_mem_cons.mpr ⟨lk296, (List.forall_mem_cons.mpr ⟨lk297, (List.forall_mem_cons.mpr ⟨lk298, (List.forall_mem_cons.mpr ⟨lk299, (fun _ h => absurd h List.not_mem_nil)⟩)⟩)⟩)⟩)⟩)⟩)⟩)⟩)⟩)⟩)⟩)⟩)⟩)⟩)⟩)⟩)⟩)⟩)⟩)⟩)⟩)⟩)⟩)⟩)⟩)⟩)⟩)⟩)⟩)⟩)⟩)⟩)⟩)⟩)⟩)⟩)⟩)⟩)⟩)⟩)⟩)⟩)⟩)⟩)⟩)⟩)⟩)⟩)⟩)⟩)⟩)⟩)⟩)⟩)⟩)⟩)⟩)⟩)⟩)⟩)
theorem al_5 : ∀ w ∈ allW_5, w ∈ lw_tbl := (List.forall_mem_cons.mpr ⟨lk300, (List.forall_mem_cons.mpr ⟨lk301, (List.forall_mem_cons.mpr ⟨lk302, (List.forall_mem_cons.mpr ⟨lk303, (List.forall_mem_cons.mpr ⟨lk304, (List.forall_mem_cons.mpr ⟨lk305, (List.forall_mem_cons.mpr ⟨lk306, (List.forall_mem_cons.mpr ⟨lk307, (List.forall_mem_cons.mpr ⟨lk308, (List.forall_mem_cons.mpr ⟨lk309, (List.forall_mem_cons.mpr ⟨lk310, (List.forall_mem_cons.mpr ⟨lk311, (List.forall_mem_cons.mpr ⟨lk312, (List.forall_mem_cons.mpr ⟨lk313, (List.forall_mem_cons.mpr ⟨lk314, (List.forall_mem_cons.mpr ⟨lk315, (List.forall_mem_cons.mpr ⟨lk316, (List.forall_mem_cons.mpr ⟨lk317, (List.forall_mem_cons.mpr ⟨lk318, (List.forall_mem_cons.mpr ⟨lk319, (List.forall_mem_cons.mpr ⟨lk320, (List.forall_mem_cons.mpr ⟨lk321, (List.forall_mem_cons.mpr ⟨lk322, (List.forall_mem_cons.mpr ⟨lk323, (List.forall_mem_cons.mpr ⟨lk324, (List.forall_mem_cons.mpr ⟨lk325, (List.forall_mem_cons.mpr ⟨lk326, (List.forall_mem_cons.mpr ⟨lk327, (List.forall_mem_cons.mpr ⟨lk328, (List.forall_mem_cons.mpr ⟨lk329, (List.forall_mem_cons.mpr ⟨lk330, (List.forall_mem_cons.mpr ⟨lk331, (List.forall_mem_cons.mpr ⟨lk332, (List.forall_mem_cons.mpr ⟨lk333, (List.forall_mem_cons.mpr ⟨lk334, (List.forall_mem_cons.mpr ⟨lk335, (List.forall_mem_cons.mpr ⟨lk336, (List.forall_mem_cons.mpr ⟨lk337, (List.forall_mem_cons.mpr ⟨lk338, (List.forall_mem_cons.mpr ⟨lk339, (List.forall_mem_cons.mpr ⟨lk340, (List.forall_mem_cons.mpr ⟨lk341, (List.forall_mem_cons.mpr ⟨lk342, (List.forall_mem_cons.mpr ⟨lk343, (List.forall_mem_cons.mpr ⟨lk344, (List.forall_mem_cons.mpr ⟨lk345, (List.forall_mem_cons.mpr ⟨lk346, (List.forall_mem_cons.mpr ⟨lk347, (List.forall_mem_cons.mpr ⟨lk348, (List.forall_mem_cons.mpr ⟨lk349, (List.forall_mem_cons.mpr ⟨lk350, (List.forall_mem_cons.mpr ⟨lk351, (List.forall_mem_cons.mpr ⟨lk352, (List.forall_mem_cons.mpr ⟨lk353, (List.forall_mem_cons.mpr ⟨lk354, (List.forall_mem_cons.mpr ⟨lk355, (List.forall_mem_cons.mpr ⟨lk356, (List.forall_mem_cons.mpr ⟨lk357, (List.forall_mem_cons.mpr ⟨lk358, (List.forall_mem_cons.mpr ⟨lk359, (fun _ h => absurd h List.not_mem_nil)⟩)⟩)⟩)⟩)⟩)⟩)⟩)⟩)⟩)⟩)⟩)⟩)⟩)⟩)⟩)⟩)⟩)⟩)⟩)⟩)⟩)⟩)⟩)⟩)⟩)⟩)⟩)⟩)⟩)⟩)⟩)⟩)⟩)⟩)⟩)⟩)⟩)⟩)⟩)⟩)⟩)⟩)⟩)⟩)⟩)⟩)⟩)⟩)⟩)⟩)⟩)⟩)⟩)⟩)⟩)⟩)⟩)⟩)⟩)⟩)
theorem al_6 : ∀ w ∈ allW_6, w ∈ lw_tbl := (List.forall_mem_cons.mpr ⟨lk360, (List.forall_mem_cons.mpr ⟨lk361, (List.forall_mem_cons.mpr ⟨lk362, (List.forall_mem_cons.mpr ⟨lk363, (List.forall_mem_cons.mpr ⟨lk364, (List.forall_mem_cons.mpr ⟨lk365, (List.forall_mem_cons.mpr ⟨lk366, (List.forall_mem_cons.mpr ⟨lk367, (List.forall_mem_cons.mpr ⟨lk368, (List.forall_mem_cons.mpr ⟨lk369, (List.forall_mem_cons.mpr ⟨lk370, (List.forall_mem_cons.mpr ⟨lk371, (List.forall_mem_cons.mpr ⟨lk372, (List.forall_mem_cons.mpr ⟨lk373, (List.forall_mem_cons.mpr ⟨lk374, (List.forall_mem_cons.mpr ⟨lk375, (List.forall_mem_cons.mpr ⟨lk376, (List.forall_mem_cons.mpr ⟨lk377, (List.forall_mem_cons.mpr ⟨lk378, (List.forall_mem_cons.mpr ⟨lk379, (List.forall_mem_cons.mpr ⟨lk380, (List.forall_mem_cons.mpr ⟨lk381, (List.forall_mem_cons.mpr ⟨lk382, (List.forall_mem_cons.mpr ⟨lk383, (List.forall_mem_cons.mpr ⟨lk384, (List.forall_mem_cons.mpr ⟨lk385, (List.forall_mem_cons.mpr ⟨lk386, (List.forall_mem_cons.mpr ⟨lk387, (List.forall_mem_cons.mpr ⟨lk388, (List.forall_mem_cons.mpr ⟨lk389, (List.forall_mem_cons.mpr ⟨lk390, (List.forall_mem_cons.mpr ⟨lk391, (List.forall_mem_cons.mpr ⟨lk392, (List.forall_mem_cons.mpr ⟨lk393, (List.forall_mem_cons.mpr ⟨lk394, (List.forall_mem_cons.mpr ⟨lk395, (List.forall_mem_cons.mpr ⟨lk396, (List.forall_mem_cons.mpr ⟨lk397, (List.forall_mem_cons.mpr ⟨lk398, (List.forall_mem_cons.mpr ⟨lk399, (List.forall_mem_cons.mpr ⟨lk400, (List.forall_mem_cons.mpr ⟨lk401, (List.forall_mem_cons.mpr ⟨lk402, (List.forall_mem_cons.mpr ⟨lk403, (List.forall_mem_cons.mpr ⟨lk404, (List.forall_mem_cons.mpr ⟨lk405, (List.forall_mem_cons.mpr ⟨lk406, (List.forall_mem_cons.mpr ⟨lk407, (List.forall_mem_cons.mpr ⟨lk408, (List.forall_mem_cons.mpr ⟨lk409, (List.forall_mem_cons.mpr ⟨lk410, (List.forall_mem_cons.mpr ⟨lk411, (List.forall_mem_cons.mpr ⟨lk412, (List.forall_mem_cons.mpr ⟨lk413, (List.forall_mem_cons.mpr ⟨lk414, (List.forall_mem_cons.mpr ⟨lk415, (List.forall_mem_cons.mpr ⟨lk416, (List.forall_mem_cons.mpr ⟨lk417, (List.forall_mem_cons.mpr ⟨lk418, (List.forall_mem_cons.mpr ⟨lk419, (fun _ h => absurd h List.not_mem_nil)⟩)⟩)⟩)⟩)⟩)⟩)⟩)⟩)⟩)⟩)⟩)⟩)⟩)⟩)⟩)⟩)⟩)⟩)⟩)⟩)⟩)⟩)⟩)⟩)⟩)⟩)⟩)⟩)⟩)⟩)⟩)⟩)⟩)⟩)⟩)⟩)⟩)⟩)⟩)⟩)⟩)⟩)⟩)⟩)⟩)⟩)⟩)⟩)⟩)⟩)⟩)⟩)⟩)⟩)⟩)⟩)⟩)⟩)⟩)⟩)
theorem al_7 : ∀ w ∈ allW_7, w ∈ lw_tbl := (List.forall_mem_cons.mpr ⟨lk420, (List.forall_mem_cons.mpr ⟨lk421, (List.forall_mem_cons.mpr ⟨lk422, (List.forall_mem_cons.mpr ⟨lk423, (List.forall_mem_cons.mpr ⟨lk424, (List.forall_mem_cons.mpr ⟨lk425, (List.forall_mem_cons.mpr ⟨lk426, (List.forall_mem_cons.mpr ⟨lk427, (List.forall_mem_cons.mpr ⟨lk428, (List.forall_mem_cons.mpr ⟨lk429, (List.forall_mem_cons.mpr ⟨lk430, (List.forall_mem_cons.mpr ⟨lk431, (List.forall_mem_cons.mpr ⟨lk432, (List.forall_mem_cons.mpr ⟨lk433, (List.forall_mem_cons.mpr ⟨lk434, (List.forall_mem_cons.mpr ⟨lk435, (List.forall_mem_cons.mpr ⟨lk436, (List.forall_mem_cons.mpr ⟨lk437, (List.forall_mem_cons.mpr ⟨lk438, (List.forall_mem_cons.mpr ⟨lk439, (List.forall_mem_cons.mpr ⟨lk440, (List.forall_mem_cons.mpr ⟨lk441, (List.forall_mem_cons.mpr ⟨lk442, (List.forall_mem_cons.mpr ⟨lk443, (List.forall_mem_cons.mpr ⟨lk444, (List.forall_mem_cons.mpr ⟨lk445, (List.forall_mem_cons.mpr ⟨lk446, (List.forall_mem_cons.mpr ⟨lk447, (List.forall_mem_cons.mpr ⟨lk448, (List.forall_mem_cons.mpr ⟨lk449, (List.forall_mem_cons.mpr ⟨lk450, (List.forall_mem_cons.mpr ⟨lk451, (List.forall_mem_cons.mpr ⟨lk452, (List.forall_mem_cons.mpr ⟨lk453, (List.forall_mem_cons.mpr ⟨lk454, (List.forall_mem_cons.mpr ⟨lk455, (List.forall_mem_cons.mpr ⟨lk456, (List.forall_mem_cons.mpr ⟨lk457, (List.forall_mem_cons.mpr ⟨lk458, (List.forall_mem_cons.mpr ⟨lk459, (List.forall_mem_cons.mpr ⟨lk460, (List.forall_mem_cons.mpr ⟨lk461, (List.forall_mem_cons.mpr ⟨lk462, (List.forall_mem_cons.mpr ⟨lk463, (List.forall_mem_cons.mpr ⟨lk464, (List.forall_mem_cons.mpr ⟨lk465, (List.forall_mem_cons.mpr ⟨lk466, (List.forall_mem_cons.mpr ⟨lk467, (List.forall_mem_cons.mpr ⟨lk468, (List.forall_mem_cons.mpr ⟨lk469, (List.forall_mem_cons.mpr ⟨lk470, (List.forall_mem_cons.mpr ⟨lk471, (List.forall_mem_cons.mpr ⟨lk472, (List.forall_mem_cons.mpr ⟨lk473, (List.forall_mem_cons.mpr ⟨lk474, (List.forall_mem_cons.mpr ⟨lk475, (List.forall_mem_cons.mpr ⟨lk476, (List.forall_mem_cons.mpr ⟨lk477, (List.forall_mem_cons.mpr ⟨lk478, (List.forall_mem_cons.mpr ⟨lk479, (fun _ h => absurd h List.not_mem_nil)⟩)⟩)⟩)⟩)⟩)⟩)⟩)⟩)⟩)⟩)⟩)⟩)⟩)⟩)⟩)⟩)⟩)⟩)⟩)⟩)⟩)⟩)⟩)⟩)⟩)⟩)⟩)⟩)⟩)⟩)⟩)⟩)⟩)⟩)⟩)⟩)⟩)⟩)⟩)⟩)⟩)⟩)⟩)⟩)⟩)⟩)⟩)⟩)⟩)⟩)⟩)⟩)⟩)⟩)⟩)⟩)⟩)⟩)⟩)⟩)
theorem al_8 : ∀ w ∈ allW_8, w ∈ lw_tbl := (List.forall_mem_cons.mpr ⟨lk480, (List.forall_mem_cons.mpr ⟨lk481, (List.forall_mem_cons.mpr ⟨lk482, (List.forall_mem_cons.mpr ⟨lk483, (List.forall_mem_cons.mpr ⟨lk484, (List.forall_mem_cons.mpr ⟨lk485, (List.forall_mem_cons.mpr ⟨lk486, (List.forall_mem_cons.mpr ⟨lk487, (List.forall_mem_cons.mpr ⟨lk488, (List.forall_mem_cons.mpr ⟨lk489, (List.forall_mem_cons.mpr ⟨lk490, (List.forall_mem_cons.mpr ⟨lk491, (List.forall_mem_cons.mpr ⟨lk492, (List.forall_mem_cons.mpr ⟨lk493, (List.forall_mem_cons.mpr ⟨lk494, (List.forall_mem_cons.mpr ⟨lk495, (List.forall_mem_cons.mpr ⟨lk496, (List.forall_mem_cons.mpr ⟨lk497, (List.forall_mem_cons.mpr ⟨lk498, (List.forall_mem_cons.mpr ⟨lk499, (List.forall_mem_cons.mpr ⟨lk500, (List.forall_mem_cons.mpr ⟨lk501, (List.forall_mem_cons.mpr ⟨lk502, (List.forall_mem_cons.mpr ⟨lk503, (List.forall_mem_cons.mpr ⟨lk504, (List.forall_mem_cons.mpr ⟨lk505, (List.forall_mem_cons.mpr ⟨lk506, (List.forall_mem_cons.mpr ⟨lk507, (List.forall_mem_cons.mpr ⟨lk508, (List.forall_mem_cons.mpr ⟨lk509, (List.forall_mem_cons.mpr ⟨lk510, (List.forall_mem_cons.mpr ⟨lk511, (List.forall_mem_cons.mpr ⟨lk512, (List.forall_mem_cons.mpr ⟨lk513, (List.forall_mem_cons.mpr ⟨lk514, (List.forall_mem_cons.mpr ⟨lk515, (List.forall_mem_cons.mpr ⟨lk516, (List.forall_mem_cons.mpr ⟨lk517, (List.forall_mem_cons.mpr ⟨lk518, (List.forall_mem_cons.mpr ⟨lk519, (List.forall_mem_cons.mpr ⟨lk520, (List.forall_mem_cons.mpr ⟨lk521, (List.forall_mem_cons.mpr ⟨lk522, (List.forall_mem_cons.mpr ⟨lk523, (List.forall_mem_cons.mpr ⟨lk524, (List.forall_mem_cons.mpr ⟨lk525, (List.forall_mem_cons.mpr ⟨lk526, (List.forall_mem_cons.mpr ⟨lk527, (List.forall_mem_cons.mpr ⟨lk528, (List.forall_mem_cons.mpr ⟨lk529, (List.forall_mem_cons.mpr ⟨lk530, (List.forall_mem_cons.mpr ⟨lk531, (List.forall_mem_cons.mpr ⟨lk532, (List.forall_mem_cons.mpr ⟨lk533, (List.forall_mem_cons.mpr ⟨lk534, (List.forall_mem_cons.mpr ⟨lk535, (List.forall_mem_cons.mpr ⟨lk536, (List.forall_mem_cons.mpr ⟨lk537, (List.forall_mem_cons.mpr ⟨lk538, (List.forall_mem_cons.mpr ⟨lk539, (fun _ h => absurd h List.not_mem_nil)⟩)⟩)⟩)⟩)⟩)⟩)⟩)⟩)⟩)⟩)⟩)⟩)⟩)⟩)⟩)⟩)⟩)⟩)⟩)⟩)⟩)⟩)⟩)⟩)⟩)⟩)⟩)⟩)⟩)⟩)⟩)⟩)⟩)⟩)⟩)⟩)⟩)⟩)⟩)⟩)⟩)⟩)⟩)⟩)⟩)⟩)⟩)⟩)⟩)⟩)⟩)⟩)⟩)⟩)⟩)⟩)⟩)⟩)⟩)⟩)
theorem al_9 : ∀ w ∈ allW_9, w ∈ lw_tbl := (List.forall_mem_cons.mpr ⟨lk540, (List.forall_mem_cons.mpr ⟨lk541, (List.forall_mem_cons.mpr ⟨lk542, (List.forall_mem_cons.mpr ⟨lk543, (List.forall_mem_cons.mpr ⟨lk544, (List.forall_mem_cons.mpr ⟨lk545, (List.forall_mem_cons.mpr ⟨lk546, (List.forall_mem_cons.mpr ⟨lk547, (List.forall_mem_cons.mpr ⟨lk548, (List.forall_mem_cons.mpr ⟨lk549, (List.forall_mem_cons.mpr ⟨lk550, (List.forall_mem_cons.mpr ⟨lk551, (List.forall_mem_cons.mpr ⟨lk552, (List.forall_mem_cons.mpr ⟨lk553, (List.forall_mem_cons.mpr ⟨lk554, (List.forall_mem_cons.mpr ⟨lk555, (List.forall_mem_cons.mpr ⟨lk556, (List.forall_mem_cons.mpr ⟨lk557, (List.forall_mem_cons.mpr ⟨lk558, (List.forall_mem_cons.mpr ⟨lk559, (List.forall_mem_cons.mpr ⟨lk560, (List.forall_mem_cons.mpr ⟨lk561, (List.forall_mem_cons.mpr ⟨lk562, (List.forall_mem_cons.mpr ⟨lk563, (List.forall_mem_cons.mpr ⟨lk564, (List.forall_mem_cons.mpr ⟨lk565, (List.forall_mem_cons.mpr ⟨lk566, (List.forall_mem_cons.mpr ⟨lk567, (List.forall_mem_cons.mpr ⟨lk568, (List.forall_mem_cons.mpr ⟨lk569, (List.forall_mem_cons.mpr ⟨lk570, (List.forall_mem_cons.mpr ⟨lk571, (List.forall_mem_cons.mpr ⟨lk572, (List.forall_mem_cons.mpr ⟨lk573, (List.forall_mem_cons.mpr ⟨lk574, (List.forall_mem_cons.mpr ⟨lk575, (List.forall_mem_cons.mpr ⟨lk576, (List.forall_mem_cons.mpr ⟨lk577, (List.forall_mem_cons.mpr ⟨lk578, (List.forall_mem_cons.mpr ⟨lk579, (List.forall_mem_cons.mpr ⟨lk580, (List.forall_mem_cons.mpr ⟨lk581, (List.forall_mem_cons.mpr ⟨lk582, (List.forall_mem_cons.mpr ⟨lk583, (List.forall_mem_cons.mpr ⟨lk584, (List.forall_mem_cons.mpr ⟨lk585, (List.forall_mem_cons.mpr ⟨lk586, (List.forall_mem_cons.mpr ⟨lk587, (List.forall_mem_cons.mpr ⟨lk588, (List.forall_mem_cons.mpr ⟨lk589, (List.forall_mem_cons.mpr ⟨lk590, (List.forall_mem_cons.mpr ⟨lk591, (List.forall_mem_cons.mpr ⟨lk592, (List.forall_mem_cons.mpr ⟨lk593, (List.forall_mem_cons.mpr ⟨lk594, (List.forall_mem_cons.mpr ⟨lk595, (List.forall_mem_cons.mpr ⟨lk596, (List.forall_mem_cons.mpr ⟨lk597, (List.forall_mem_cons.mpr ⟨lk598, (List.forall_mem_cons.mpr ⟨lk599, (fun _ h => absurd h List.not_mem_nil)⟩)⟩)⟩)⟩)⟩)⟩)⟩)⟩)⟩)⟩)⟩)⟩)⟩)⟩)⟩)⟩)⟩)⟩)⟩)⟩)⟩)⟩)⟩)⟩)⟩)⟩)⟩)⟩)⟩)⟩)⟩)⟩)⟩)⟩)⟩)⟩)⟩)⟩)⟩)⟩)⟩)⟩)⟩)⟩)⟩)⟩)⟩)⟩)⟩)⟩)⟩)⟩)⟩)⟩)⟩)⟩)⟩)⟩)⟩)⟩)
theorem al_10 : ∀ w ∈ allW_10, w ∈ lw_tbl := (List.forall_mem_cons.mpr ⟨lk600, (List.forall_mem_cons.mpr ⟨lk601, (List.forall_mem_cons.mpr ⟨lk602, (List.forall_mem_cons.mpr ⟨lk603, (List.forall_mem_cons.mpr ⟨lk604, (List.forall_mem_cons.mpr ⟨lk605, (List.forall_mem_cons.mpr ⟨lk606, (List.forall_mem_cons.mpr ⟨lk607, (List.forall_mem_cons.mpr ⟨lk608, (List.forall_mem_cons.mpr ⟨lk609, (List.forall_mem_cons.mpr ⟨lk610, (List.forall_mem_cons.mpr ⟨lk611, (List.forall_mem_cons.mpr ⟨lk612, (List.forall_mem_cons.mpr ⟨lk613, (List.forall_mem_cons.mpr ⟨lk614, (List.forall_mem_cons.mpr ⟨lk615, (List.forall_mem_cons.mpr ⟨lk616, (List.forall_mem_cons.mpr ⟨lk617, (List.forall_mem_cons.mpr ⟨lk618, (List.forall_mem_cons.mpr ⟨lk619, (List.forall_mem_cons.mpr ⟨lk620, (List.forall_mem_cons.mpr ⟨lk621, (List.forall_mem_cons.mpr ⟨lk622, (List.forall_mem_cons.mpr ⟨lk623, (List.forall_mem_cons.mpr ⟨lk624, (List.forall_mem_cons.mpr ⟨lk625, (List.forall_mem_cons.mpr ⟨lk626, (List.forall_mem_cons.mpr ⟨lk627, (List.forall_mem_cons.mpr ⟨lk628, (List.forall_mem_cons.mpr ⟨lk629, (List.forall_mem_cons.mpr ⟨lk630, (List.forall_mem_cons.mpr ⟨lk631, (List.forall_mem_cons.mpr ⟨lk632, (List.forall_mem_cons.mpr ⟨lk633, (List.forall_mem_cons.mpr ⟨lk634, (List.forall_mem_cons.mpr ⟨lk635, (List.forall_mem_cons.mpr ⟨lk636, (List.forall_mem_cons.mpr ⟨lk637, (List.forall_mem_cons.mpr ⟨lk638, (List.forall_mem_cons.mpr ⟨lk639, (List.forall_mem_cons.mpr ⟨lk640, (List.forall_mem_cons.mpr ⟨lk641, (List.forall_mem_cons.mpr ⟨lk642, (List.forall_mem_cons.mpr ⟨lk643, (List.forall_mem_cons.mpr ⟨lk644, (List.forall_mem_cons.mpr ⟨lk645, (List.forall_mem_cons.mpr ⟨lk646, (List.forall_mem_cons.mpr ⟨lk647, (List.forall_mem_cons.mpr ⟨lk648, (List.forall_mem_cons.mpr ⟨lk649, (List.forall_mem_cons.mpr ⟨lk650, (List.forall_mem_cons.mpr ⟨lk651, (List.forall_mem_cons.mpr ⟨lk652, (List.forall_mem_cons.mpr ⟨lk653, (List.forall_mem_cons.mpr ⟨lk654, (List.forall_mem_cons.mpr ⟨lk655, (List.forall_mem_cons.mpr ⟨lk656, (List.forall_mem_cons.mpr ⟨lk657, (List.forall_mem_cons.mpr ⟨lk658, (List.forall_mem_cons.mpr ⟨lk659, (fun _ h => absurd h List.not_mem_nil)⟩)⟩)⟩)⟩)⟩)⟩)⟩)⟩)⟩)⟩)⟩)⟩)⟩)⟩)⟩)⟩)⟩)⟩)⟩)⟩)⟩)⟩)⟩)⟩)⟩)⟩)⟩)⟩)⟩)⟩)⟩)⟩)⟩)⟩)⟩)⟩)⟩)⟩)⟩)⟩)⟩)⟩)⟩)⟩)⟩)⟩)⟩)⟩)⟩)⟩)⟩)⟩)⟩)⟩)⟩)⟩)⟩)⟩)⟩)⟩)
theorem al_11 : ∀ w ∈ allW_11, w ∈ lw_tbl := (List.forall_mem_cons.mpr ⟨lk660, (List.forall_mem_cons.mpr ⟨lk661, (List.forall_mem_cons.mpr ⟨lk662, (List.forall_mem_cons.mpr ⟨lk663, (List.forall_mem_cons.mpr ⟨lk664, (List.forall_mem_cons.mpr ⟨lk665, (List.forall_mem_cons.mpr ⟨lk666, (fun _ h => absurd h List.not_mem_nil)⟩)⟩)⟩)⟩)⟩)⟩)⟩)
theorem allW_in : ∀ w ∈ allW, w ∈ lw_tbl := by
  intro w h
  simp only [allW, List.mem_append] at h
  rcases h with ((((((((((h | h) | h) | h) | h) | h) | h) | h) | h) | h) | h) | h
  · exact al_0 w h
  · exact al_1 w h
  · exact al_2 w h
  · exact al_3 w h
  · exact al_4 w h
  · exact al_5 w h
  · exact al_6 w h
  · exact al_7 w h
  · exact al_8 w h
  · exact al_9 w h
  · exact al_10 w h
  · exact al_11 w h
theorem nw_in : ∀ q ∈ nwM, Cond.methodLinkNest q.1 q.2.1 q.2.2.1 q.2.2.2 ∈ lw_tbl := by decide +kernel
theorem ao_in : Cond.arrayOver (.object "GateStack$ModuleText") ∈ lw_tbl := by decide +kernel
theorem nw_start {a : Array Value} {s : State} (hts : ∀ w ∈ lw_tbl, w.before a s = true) : NW s := ⟨fun q hq => va_Nw.of rfl (hts _ (nw_in q hq)), va_AO.of (hts _ ao_in)⟩
abbrev wsL : List Cond := .initialized "GateStackLaw" :: allW
theorem wsL_of {a : Array Value} {s : State} (hts : ∀ w ∈ lw_tbl, w.before a s = true) : ∀ w ∈ wsL, w.before a s = true := fun w h => by
  rcases List.mem_cons.mp h with rfl | q
  · exact hts _ (by decide +kernel)
  · exact hts _ (allW_in w q)
theorem ty_start {a : Array Value} {s : State} {ty : FieldType} (h : (Cond.arrayClass ty).before a s = true) : ∃ c k comp, s.vm.findClass ("[" ++ ty.toString) = some c ∧ s.vm.classes[c]? = some k ∧ k.kind = .array comp ty := Cond.arrayClass_spec h
theorem arr_ok {s : State} {c comp : ClassId} {k : Class} {ty : FieldType} (h2 : s.vm.classes[c]? = some k) (h3 : k.kind = .array comp ty) : ArrOfT s c ty := fun n z => ⟨fun k h => (by cases h), k, h2, comp, h3⟩
/-- the cells of the class and those of the reference are apart -/
def dj (G : GP) (G2 : MP) : Prop := ∀ a ∈ (wC G S_0).map Prod.fst, ∀ b ∈ (wM G2 M_0).map Prod.fst, a ≠ b
theorem wC_fst (G : GP) (S : CS) : (wC G S).map Prod.fst = (wC G S_0).map Prod.fst := rfl
theorem wM_fst (G : MP) (M : MS) : (wM G M).map Prod.fst = (wM G M_0).map Prod.fst := rfl
theorem dj_of {G : GP} {G2 : MP} (h : dj G G2) {S : CS} {M : MS} {i j : Nat} {x y : Nat × va_E} (hx : (wC G S)[i]? = some x) (hy : (wM G2 M)[j]? = some y) : x.1 ≠ y.1 := by
  refine h x.1 ?_ y.1 ?_
  · rw [← wC_fst G S]; exact List.mem_map_of_mem (List.mem_of_getElem? hx)
  · rw [← wM_fst G2 M]; exact List.mem_map_of_mem (List.mem_of_getElem? hy)
theorem keptM {D : va_G} {G : GP} {G2 : MP} {S : CS} {M : MS} {H H1 : Heap} (h : dj G G2) (hP : va_P D vwCl (wM G2 M) H) (hk : ∀ q : Nat, q < H.size → ¬ va_A (wC G S) H.size q → H1[q]? = H[q]?) : va_P D vwCl (wM G2 M) H1 := by
  refine hP.kept (fun k q hq => ?_)
  have hlt := (hP k q hq).lt
  refine hk q.1 hlt ?_
  rintro (⟨i, e, hi⟩ | hi)
  · exact dj_of h hi hq rfl
  · omega
theorem keptC {D : va_G} {G : GP} {G2 : MP} {S : CS} {M : MS} {H H1 : Heap} (h : dj G G2) (hP : va_P D vwCl (wC G S) H) (hk : ∀ q : Nat, q < H.size → ¬ va_A (wM G2 M) H.size q → H1[q]? = H[q]?) : va_P D vwCl (wC G S) H1 := by
  refine hP.kept (fun k q hq => ?_)
  have hlt := (hP k q hq).lt
  refine hk q.1 hlt ?_
  rintro (⟨i, e, hi⟩ | hi)
  · exact dj_of h hq hi rfl
  · omega
section LWR
variable {p : Program} {l : Launch} {e : Env} {R : Room} {s : State} {m : MethodId} {args : Array Value} {below : List Frame} {meth : Method} {c : Code} {H : Heap} {locs : List Loc} {cells slots : Nat} {Q : State → Prop}
variable {pc : Nat} {ls : Array Slot} {rest st0 : List Value} {D : va_G} {G : GP} {G2 : MP} {A : Nat → Prop} {H0 : Heap} {S : CS} {M : MS} {av : Array Value}
theorem lq_i {post : Int32 → CS → Prop} (hr : va_Run p l e R s m args below meth c H locs cells slots 0 0 (F0 m pc ls st0) rest (va_Qi post (wB D G (va_A (wC G S) H.size)) (va_A (wC G S) H.size) av) (va_A (wC G S) H.size)) (hX : dj G G2) (hP2 : va_P D vwCl (wM G2 M) H) (hD : va_D A (wC G S)) (hS : va_S A H0 H locs) (hA : ∀ q, H0.size ≤ q → A q)
    (kk : ∀ (r : Int32) (S1 : CS) (H1 : Heap) (locs1 : List Loc), post r S1 → va_P D vwCl (wC G S1) H1 → va_D A (wC G S1) → va_P D vwCl (wM G2 M) H1 → va_S A H0 H1 locs1 → W p l e R s m args below meth c H1 locs1 cells slots Q (F0 m (pc + 3) ls (.int r :: rest))) : W p l e R s m args below meth c H locs cells slots Q (F0 m pc ls st0) := by
  have hF : ∀ q, va_A (wC G S) H.size q → A q := freeAll hD hS hA
  refine va_calli hr hS (fun q _ h => hF q h) hF (fun r u t H1 locs1 ht hvm hw hB hz1 hk1 hS => ?_)
  obtain ⟨hP1, hD1⟩ := hB
  rw [ht] at hP1
  exact kk r u H1 locs1 hw hP1 (hD1.weaken (fun _ _ _ h => hF _ h)) (keptM hX hP2 hk1) hS
theorem mq_i {post : Int32 → MS → Prop} (hr : va_Run p l e R s m args below meth c H locs cells slots 0 0 (F0 m pc ls st0) rest (va_Qi post (wX D G2 (va_A (wM G2 M) H.size)) (va_A (wM G2 M) H.size) av) (va_A (wM G2 M) H.size)) (hX : dj G G2) (hP : va_P D vwCl (wC G S) H) (hD : va_D A (wM G2 M)) (hS : va_S A H0 H locs) (hA : ∀ q, H0.size ≤ q → A q)
    (kk : ∀ (r : Int32) (M1 : MS) (H1 : Heap) (locs1 : List Loc), post r M1 → va_P D vwCl (wM G2 M1) H1 → va_D A (wM G2 M1) → va_P D vwCl (wC G S) H1 → va_S A H0 H1 locs1 → W p l e R s m args below meth c H1 locs1 cells slots Q (F0 m (pc + 3) ls (.int r :: rest))) : W p l e R s m args below meth c H locs cells slots Q (F0 m pc ls st0) := by
  have hF : ∀ q, va_A (wM G2 M) H.size q → A q := freeAll hD hS hA
  refine va_calli hr hS (fun q _ h => hF q h) hF (fun r u t H1 locs1 ht hvm hw hB hz1 hk1 hS => ?_)
  obtain ⟨hP1, hD1⟩ := hB
  rw [ht] at hP1
  exact kk r u H1 locs1 hw hP1 (hD1.weaken (fun _ _ _ h => hF _ h)) (keptC hX hP hk1) hS
theorem mq_l {post : Int64 → MS → Prop} (hr : va_Run p l e R s m args below meth c H locs cells slots 0 0 (F0 m pc ls st0) rest (va_Ql post (wX D G2 (va_A (wM G2 M) H.size)) (va_A (wM G2 M) H.size) av) (va_A (wM G2 M) H.size)) (hX : dj G G2) (hP : va_P D vwCl (wC G S) H) (hD : va_D A (wM G2 M)) (hS : va_S A H0 H locs) (hA : ∀ q, H0.size ≤ q → A q)
    (kk : ∀ (r : Int64) (M1 : MS) (H1 : Heap) (locs1 : List Loc), post r M1 → va_P D vwCl (wM G2 M1) H1 → va_D A (wM G2 M1) → va_P D vwCl (wC G S) H1 → va_S A H0 H1 locs1 → W p l e R s m args below meth c H1 locs1 cells slots Q (F0 m (pc + 3) ls (.long r :: rest))) : W p l e R s m args below meth c H locs cells slots Q (F0 m pc ls st0) := by
  have hF : ∀ q, va_A (wM G2 M) H.size q → A q := freeAll hD hS hA
  refine va_calll hr hS (fun q _ h => hF q h) hF (fun r u t H1 locs1 ht hvm hw hB hz1 hk1 hS => ?_)
  obtain ⟨hP1, hD1⟩ := hB
  rw [ht] at hP1
  exact kk r u H1 locs1 hw hP1 (hD1.weaken (fun _ _ _ h => hF _ h)) (keptC hX hP hk1) hS
end LWR
theorem li {j k L : Nat} {c : Int32} (hc : c = nI k) (h : 4 * j + k < L) (hL : L ≤ 2048) : vp_in (nI (4 * j) + c) L := by
  rw [hc, nI_add]
  exact vp_in_nI h (by omega)
/-- what the simulation gives: the class's answers are the reference's -/
def SimOK (Rel : Nat → CS → MS → Prop) : Prop :=
  (∀ (n : Nat) (S : CS) (M : MS), Rel n S M → IC (4 * n) S) ∧
  (∀ (n : Nat) (S : CS) (M : MS), Rel n S M → Rel (n + 1) S M) ∧
  (∀ (n : Nat) (S : CS) (M : MS) (a b : Int32), n < 512 → Rel n S M → ∃ M1 : MS, f_GM_sign M a b = some ((f_GS_sign S a b).1, M1) ∧ Rel (n + 1) (f_GS_sign S a b).2 M1) ∧
  (∀ (n : Nat) (S : CS) (M : MS) (a : Int32), n < 512 → Rel n S M → ∃ M1 : MS, f_GM_clear M a = some ((f_GS_clear S a).1, M1) ∧ Rel (n + 1) (f_GS_clear S a).2 M1) ∧
  (∀ (n : Nat) (S : CS) (M : MS) (a : Int32), n < 512 → Rel n S M → ∃ M1 : MS, f_GM_compile M a = some ((f_GS_compile S a).1, M1) ∧ Rel (n + 1) (f_GS_compile S a).2 M1) ∧
  (∀ (n : Nat) (S : CS) (M : MS) (a : Int32), n < 512 → Rel n S M → ∃ M1 : MS, f_GM_fault M a = some ((f_GS_fault S a).1, M1) ∧ Rel (n + 1) (f_GS_fault S a).2 M1) ∧
  (∀ (n : Nat) (S : CS) (M : MS), n < 512 → Rel n S M → ∃ M1 : MS, f_GM_link M  = some ((f_GS_link S).1, M1) ∧ Rel (n + 1) (f_GS_link S).2 M1) ∧
  (∀ (n : Nat) (S : CS) (M : MS), n < 512 → Rel n S M → ∃ M1 : MS, f_GM_start M  = some ((f_GS_start S).1, M1) ∧ Rel (n + 1) (f_GS_start S).2 M1) ∧
  (∀ (n : Nat) (S : CS) (M : MS) (a : Int32), n < 512 → Rel n S M → ∃ M1 : MS, f_GM_run M a = some ((f_GS_run S a).1, M1) ∧ Rel (n + 1) (f_GS_run S a).2 M1) ∧
  (∀ (n : Nat) (S : CS) (M : MS), n < 512 → Rel n S M → ∃ M1 : MS, f_GM_stop M  = some ((f_GS_stop S).1, M1) ∧ Rel (n + 1) (f_GS_stop S).2 M1) ∧
  (∀ (n : Nat) (S : CS) (M : MS) (a b : Int32), n < 512 → Rel n S M → ∃ M1 : MS, f_GM_set M a b = some ((f_GS_set S a b).1, M1) ∧ Rel (n + 1) (f_GS_set S a b).2 M1) ∧
  (∀ (n : Nat) (S : CS) (M : MS) (a : Int32), n < 512 → Rel n S M → ∃ M1 : MS, f_GM_get M a = some ((f_GS_get S a), M1) ∧ Rel (n + 1) S M1) ∧
  (∀ (n : Nat) (S : CS) (M : MS) (a : Int32), n < 512 → Rel n S M → ∃ M1 : MS, f_GM_output M a = some ((f_GS_output S a), M1) ∧ Rel (n + 1) S M1) ∧
  (∀ (n : Nat) (S : CS) (M : MS) (a : Int32), n < 512 → Rel n S M → ∃ M1 : MS, f_GM_at M a = some ((f_GS_at S a), M1) ∧ Rel (n + 1) S M1) ∧
  (∀ (n : Nat) (S : CS) (M : MS) (a b c : Int32), n < 512 → Rel n S M → ∃ M1 : MS, f_GM_operate M a b c = some ((f_GS_operate S a b c), M1) ∧ Rel (n + 1) S M1) ∧
  (∀ (n : Nat) (S : CS) (M : MS) (a b : Int32), n < 512 → Rel n S M → ∃ M1 : MS, f_GM_state M a b = some ((f_GS_state S a b), M1) ∧ Rel (n + 1) S M1)
