/-! THE CLAIM OUT OF ONE WALK OF THE LAW'S BODY. Your part is whole_start (and what it stands on); all else here is the same for every law, but numbers. -/
def R_law : String := "VerdictPagesLaw"
def lw_P (b : Addr) (xs : List Int32) (args : Array Value) (s : State) : Prop := args = #[.ref b] ∧ s.IntsAt b xs ∧ xs.length ≤ 1536 ∧ (Jvm.Cond.and given_1 narrow_1).before args s = true
def lw_Q (_ : Array Value) (s : State) (o : Outcome) (t : State) : Prop := o = .returned (some (.int 1)) ∧ Framed s o t [] 600000 7302250
def lw_Z (below : List Frame) (a : Array Value) (s : State) : State → Prop := fun t => ∃ o, t.status = .running ∧ Ended t below o ∧ lw_Q a s o t
/-- the law's own end, with 1 on the stack, nothing written that was there before, its room as the claim has it -/
theorem lw_ret {p : Program} {l : Launch} {e : Env} {s : State} {m : MethodId} {below : List Frame} {meth : Method} {c : Code} {b : Nat} (hx : p.tables.exec = Jvm.exec) (hb : c.code = code) (hr : meth.sig.returnType = ret) (hlocks : meth.locks = false) {pc : Nat} {H : Heap} {ls : Array Slot} (hdg : decode code pc = .ok (.ireturn, 1)) : W p l e room_1 s m #[Value.ref b] below meth c H [] 600000 7302250 (lw_Z below #[Value.ref b] s) (F0 m pc ls [.int 1]) := by
  intro T hT X
  obtain ⟨fs, hret, hrun, hended, hW, hframe⟩ := X.leave (v := some (.int 1)) (hlocks := hlocks) (fun h => by rw [hr] at h; cases h)
  have hmeth' : T.vm.method? m = some meth := X.method'
  refine ⟨T.setFrames fs, ?_, .returned (some (.int 1)), hrun, hended, rfl, ⟨_, rfl⟩, hW, hframe⟩
  jvm_step X.here [X.here.top, hx, hb, hdg, hmeth', hr, ret, narrow_b1]
  (try refine ⟨rfl, ?_⟩); (try refine ⟨rfl, ?_⟩)
  first | (intro acts; rw [hret _ acts rfl rfl rfl]) | rw [hret _ _ rfl rfl rfl]
  exact Steps.refl _
/-- what holds at the law's entry: the machine, the code, the tables' words (any of lw_tbl by 'hts w (by decide +kernel)'), the script of L ints xs at the cell b, what the Statement gives of the start (any of its parts by flat_of_before) -/
def lw_At (p : Program) (s : State) (m : MethodId) (meth : Method) (c : Code) (b L : Nat) (xs : Nat → Int32) : Prop :=
  p.tables.exec = Jvm.exec ∧ c.code = code ∧ meth.sig.returnType = ret ∧ c.maxLocals = 4 ∧ s.vm.findClass R_law = some m.cls ∧ (∀ w ∈ lw_tbl, w.before #[Value.ref b] s = true) ∧ va_X b L xs s s.heap ∧ b < s.heap.size ∧ meth.locks = false ∧ (Jvm.Cond.and given_1 narrow_1).before #[Value.ref b] s = true
theorem dd_L_law_0 : decode cc_L_law 0 = .ok (.new 7, 3) := by decide +kernel
theorem dd_L_law_3 : decode cc_L_law 3 = .ok (.dup, 1) := by decide +kernel
theorem dd_L_law_4 : decode cc_L_law 4 = .ok (.invokespecial 9, 3) := by decide +kernel
theorem dd_L_law_7 : decode cc_L_law 7 = .ok (.astore_n 1, 1) := by decide +kernel
theorem dd_L_law_8 : decode cc_L_law 8 = .ok (.new 10, 3) := by decide +kernel
theorem dd_L_law_11 : decode cc_L_law 11 = .ok (.dup, 1) := by decide +kernel
theorem dd_L_law_12 : decode cc_L_law 12 = .ok (.invokespecial 12, 3) := by decide +kernel
theorem dd_L_law_15 : decode cc_L_law 15 = .ok (.astore_n 2, 1) := by decide +kernel
theorem dd_L_law_16 : decode cc_L_law 16 = .ok (.iconst 0, 1) := by decide +kernel
theorem dd_L_law_17 : decode cc_L_law 17 = .ok (.istore_n 3, 1) := by decide +kernel
theorem dd_L_law_18 : decode cc_L_law 18 = .ok (.iload_n 3, 1) := by decide +kernel
theorem dd_L_law_19 : decode cc_L_law 19 = .ok (.aload_n 0, 1) := by decide +kernel
theorem dd_L_law_20 : decode cc_L_law 20 = .ok (.arraylength, 1) := by decide +kernel
theorem dd_L_law_21 : decode cc_L_law 21 = .ok (.iconst 3, 1) := by decide +kernel
theorem dd_L_law_22 : decode cc_L_law 22 = .ok (.isub, 1) := by decide +kernel
theorem dd_L_law_23 : decode cc_L_law 23 = .ok (.if_icmp .gt 471, 3) := by decide +kernel
theorem dd_L_law_26 : decode cc_L_law 26 = .ok (.aload_n 0, 1) := by decide +kernel
theorem dd_L_law_27 : decode cc_L_law 27 = .ok (.iload_n 3, 1) := by decide +kernel
theorem dd_L_law_28 : decode cc_L_law 28 = .ok (.iaload, 1) := by decide +kernel
theorem dd_L_law_29 : decode cc_L_law 29 = .ok (.bipush 31, 2) := by decide +kernel
theorem dd_L_law_31 : decode cc_L_law 31 = .ok (.iand, 1) := by decide +kernel
theorem dd_L_law_32 : decode cc_L_law 32 = .ok (.tableswitch 456 0 17 #[88, 113, 126, 139, 162, 173, 186, 209, 232, 265, 278, 291, 304, 327, 352, 387, 410, 433], 88) := by decide +kernel
theorem dd_L_law_120 : decode cc_L_law 120 = .ok (.aload_n 1, 1) := by decide +kernel
theorem dd_L_law_121 : decode cc_L_law 121 = .ok (.aload_n 0, 1) := by decide +kernel
theorem dd_L_law_122 : decode cc_L_law 122 = .ok (.iload_n 3, 1) := by decide +kernel
theorem dd_L_law_123 : decode cc_L_law 123 = .ok (.iconst 1, 1) := by decide +kernel
theorem dd_L_law_124 : decode cc_L_law 124 = .ok (.iadd, 1) := by decide +kernel
theorem dd_L_law_125 : decode cc_L_law 125 = .ok (.iaload, 1) := by decide +kernel
theorem dd_L_law_126 : decode cc_L_law 126 = .ok (.i2c, 1) := by decide +kernel
theorem dd_L_law_127 : decode cc_L_law 127 = .ok (.invokevirtual 13, 3) := by decide +kernel
theorem dd_L_law_130 : decode cc_L_law 130 = .ok (.aload_n 2, 1) := by decide +kernel
theorem dd_L_law_131 : decode cc_L_law 131 = .ok (.aload_n 0, 1) := by decide +kernel
theorem dd_L_law_132 : decode cc_L_law 132 = .ok (.iload_n 3, 1) := by decide +kernel
theorem dd_L_law_133 : decode cc_L_law 133 = .ok (.iconst 1, 1) := by decide +kernel
theorem dd_L_law_134 : decode cc_L_law 134 = .ok (.iadd, 1) := by decide +kernel
theorem dd_L_law_135 : decode cc_L_law 135 = .ok (.iaload, 1) := by decide +kernel
theorem dd_L_law_136 : decode cc_L_law 136 = .ok (.i2c, 1) := by decide +kernel
theorem dd_L_law_137 : decode cc_L_law 137 = .ok (.invokevirtual 17, 3) := by decide +kernel
theorem dd_L_law_140 : decode cc_L_law 140 = .ok (.if_icmp .eq 348, 3) := by decide +kernel
theorem dd_L_law_143 : decode cc_L_law 143 = .ok (.iconst 0, 1) := by decide +kernel
theorem dd_L_law_144 : decode cc_L_law 144 = .ok (.ireturn, 1) := by decide +kernel
theorem dd_L_law_145 : decode cc_L_law 145 = .ok (.aload_n 1, 1) := by decide +kernel
theorem dd_L_law_146 : decode cc_L_law 146 = .ok (.invokevirtual 18, 3) := by decide +kernel
theorem dd_L_law_149 : decode cc_L_law 149 = .ok (.aload_n 2, 1) := by decide +kernel
theorem dd_L_law_150 : decode cc_L_law 150 = .ok (.invokevirtual 22, 3) := by decide +kernel
theorem dd_L_law_153 : decode cc_L_law 153 = .ok (.if_icmp .eq 335, 3) := by decide +kernel
theorem dd_L_law_156 : decode cc_L_law 156 = .ok (.iconst 0, 1) := by decide +kernel
theorem dd_L_law_157 : decode cc_L_law 157 = .ok (.ireturn, 1) := by decide +kernel
theorem dd_L_law_158 : decode cc_L_law 158 = .ok (.aload_n 1, 1) := by decide +kernel
theorem dd_L_law_159 : decode cc_L_law 159 = .ok (.invokevirtual 23, 3) := by decide +kernel
theorem dd_L_law_162 : decode cc_L_law 162 = .ok (.aload_n 2, 1) := by decide +kernel
theorem dd_L_law_163 : decode cc_L_law 163 = .ok (.invokevirtual 27, 3) := by decide +kernel
theorem dd_L_law_166 : decode cc_L_law 166 = .ok (.if_icmp .eq 322, 3) := by decide +kernel
theorem dd_L_law_169 : decode cc_L_law 169 = .ok (.iconst 0, 1) := by decide +kernel
theorem dd_L_law_170 : decode cc_L_law 170 = .ok (.ireturn, 1) := by decide +kernel
theorem dd_L_law_171 : decode cc_L_law 171 = .ok (.aload_n 1, 1) := by decide +kernel
theorem dd_L_law_172 : decode cc_L_law 172 = .ok (.aload_n 0, 1) := by decide +kernel
theorem dd_L_law_173 : decode cc_L_law 173 = .ok (.iload_n 3, 1) := by decide +kernel
theorem dd_L_law_174 : decode cc_L_law 174 = .ok (.iconst 1, 1) := by decide +kernel
theorem dd_L_law_175 : decode cc_L_law 175 = .ok (.iadd, 1) := by decide +kernel
theorem dd_L_law_176 : decode cc_L_law 176 = .ok (.iaload, 1) := by decide +kernel
theorem dd_L_law_177 : decode cc_L_law 177 = .ok (.invokevirtual 28, 3) := by decide +kernel
theorem dd_L_law_180 : decode cc_L_law 180 = .ok (.aload_n 2, 1) := by decide +kernel
theorem dd_L_law_181 : decode cc_L_law 181 = .ok (.aload_n 0, 1) := by decide +kernel
theorem dd_L_law_182 : decode cc_L_law 182 = .ok (.iload_n 3, 1) := by decide +kernel
theorem dd_L_law_183 : decode cc_L_law 183 = .ok (.iconst 1, 1) := by decide +kernel
theorem dd_L_law_184 : decode cc_L_law 184 = .ok (.iadd, 1) := by decide +kernel
theorem dd_L_law_185 : decode cc_L_law 185 = .ok (.iaload, 1) := by decide +kernel
theorem dd_L_law_186 : decode cc_L_law 186 = .ok (.invokevirtual 32, 3) := by decide +kernel
theorem dd_L_law_189 : decode cc_L_law 189 = .ok (.if_icmp .eq 299, 3) := by decide +kernel
theorem dd_L_law_192 : decode cc_L_law 192 = .ok (.iconst 0, 1) := by decide +kernel
theorem dd_L_law_193 : decode cc_L_law 193 = .ok (.ireturn, 1) := by decide +kernel
theorem dd_L_law_194 : decode cc_L_law 194 = .ok (.aload_n 1, 1) := by decide +kernel
theorem dd_L_law_195 : decode cc_L_law 195 = .ok (.invokevirtual 33, 3) := by decide +kernel
theorem dd_L_law_198 : decode cc_L_law 198 = .ok (.aload_n 2, 1) := by decide +kernel
theorem dd_L_law_199 : decode cc_L_law 199 = .ok (.invokevirtual 36, 3) := by decide +kernel
theorem dd_L_law_202 : decode cc_L_law 202 = .ok (.goto 286, 3) := by decide +kernel
theorem dd_L_law_205 : decode cc_L_law 205 = .ok (.aload_n 1, 1) := by decide +kernel
theorem dd_L_law_206 : decode cc_L_law 206 = .ok (.invokevirtual 37, 3) := by decide +kernel
theorem dd_L_law_209 : decode cc_L_law 209 = .ok (.aload_n 2, 1) := by decide +kernel
theorem dd_L_law_210 : decode cc_L_law 210 = .ok (.invokevirtual 40, 3) := by decide +kernel
theorem dd_L_law_213 : decode cc_L_law 213 = .ok (.if_icmp .eq 275, 3) := by decide +kernel
theorem dd_L_law_216 : decode cc_L_law 216 = .ok (.iconst 0, 1) := by decide +kernel
theorem dd_L_law_217 : decode cc_L_law 217 = .ok (.ireturn, 1) := by decide +kernel
theorem dd_L_law_218 : decode cc_L_law 218 = .ok (.aload_n 1, 1) := by decide +kernel
theorem dd_L_law_219 : decode cc_L_law 219 = .ok (.aload_n 0, 1) := by decide +kernel
theorem dd_L_law_220 : decode cc_L_law 220 = .ok (.iload_n 3, 1) := by decide +kernel
theorem dd_L_law_221 : decode cc_L_law 221 = .ok (.iconst 1, 1) := by decide +kernel
theorem dd_L_law_222 : decode cc_L_law 222 = .ok (.iadd, 1) := by decide +kernel
theorem dd_L_law_223 : decode cc_L_law 223 = .ok (.iaload, 1) := by decide +kernel
theorem dd_L_law_224 : decode cc_L_law 224 = .ok (.invokevirtual 41, 3) := by decide +kernel
theorem dd_L_law_227 : decode cc_L_law 227 = .ok (.aload_n 2, 1) := by decide +kernel
theorem dd_L_law_228 : decode cc_L_law 228 = .ok (.aload_n 0, 1) := by decide +kernel
theorem dd_L_law_229 : decode cc_L_law 229 = .ok (.iload_n 3, 1) := by decide +kernel
theorem dd_L_law_230 : decode cc_L_law 230 = .ok (.iconst 1, 1) := by decide +kernel
theorem dd_L_law_231 : decode cc_L_law 231 = .ok (.iadd, 1) := by decide +kernel
theorem dd_L_law_232 : decode cc_L_law 232 = .ok (.iaload, 1) := by decide +kernel
theorem dd_L_law_233 : decode cc_L_law 233 = .ok (.invokevirtual 44, 3) := by decide +kernel
theorem dd_L_law_236 : decode cc_L_law 236 = .ok (.if_icmp .eq 252, 3) := by decide +kernel
theorem dd_L_law_239 : decode cc_L_law 239 = .ok (.iconst 0, 1) := by decide +kernel
theorem dd_L_law_240 : decode cc_L_law 240 = .ok (.ireturn, 1) := by decide +kernel
theorem dd_L_law_241 : decode cc_L_law 241 = .ok (.aload_n 1, 1) := by decide +kernel
theorem dd_L_law_242 : decode cc_L_law 242 = .ok (.aload_n 0, 1) := by decide +kernel
theorem dd_L_law_243 : decode cc_L_law 243 = .ok (.iload_n 3, 1) := by decide +kernel
theorem dd_L_law_244 : decode cc_L_law 244 = .ok (.iconst 1, 1) := by decide +kernel
theorem dd_L_law_245 : decode cc_L_law 245 = .ok (.iadd, 1) := by decide +kernel
theorem dd_L_law_246 : decode cc_L_law 246 = .ok (.iaload, 1) := by decide +kernel
theorem dd_L_law_247 : decode cc_L_law 247 = .ok (.invokevirtual 45, 3) := by decide +kernel
theorem dd_L_law_250 : decode cc_L_law 250 = .ok (.aload_n 2, 1) := by decide +kernel
theorem dd_L_law_251 : decode cc_L_law 251 = .ok (.aload_n 0, 1) := by decide +kernel
theorem dd_L_law_252 : decode cc_L_law 252 = .ok (.iload_n 3, 1) := by decide +kernel
theorem dd_L_law_253 : decode cc_L_law 253 = .ok (.iconst 1, 1) := by decide +kernel
theorem dd_L_law_254 : decode cc_L_law 254 = .ok (.iadd, 1) := by decide +kernel
theorem dd_L_law_255 : decode cc_L_law 255 = .ok (.iaload, 1) := by decide +kernel
theorem dd_L_law_256 : decode cc_L_law 256 = .ok (.invokevirtual 48, 3) := by decide +kernel
theorem dd_L_law_259 : decode cc_L_law 259 = .ok (.if_icmp .eq 229, 3) := by decide +kernel
theorem dd_L_law_262 : decode cc_L_law 262 = .ok (.iconst 0, 1) := by decide +kernel
theorem dd_L_law_263 : decode cc_L_law 263 = .ok (.ireturn, 1) := by decide +kernel
theorem dd_L_law_264 : decode cc_L_law 264 = .ok (.aload_n 1, 1) := by decide +kernel
theorem dd_L_law_265 : decode cc_L_law 265 = .ok (.aload_n 0, 1) := by decide +kernel
theorem dd_L_law_266 : decode cc_L_law 266 = .ok (.iload_n 3, 1) := by decide +kernel
theorem dd_L_law_267 : decode cc_L_law 267 = .ok (.iconst 1, 1) := by decide +kernel
theorem dd_L_law_268 : decode cc_L_law 268 = .ok (.iadd, 1) := by decide +kernel
theorem dd_L_law_269 : decode cc_L_law 269 = .ok (.iaload, 1) := by decide +kernel
theorem dd_L_law_270 : decode cc_L_law 270 = .ok (.aload_n 0, 1) := by decide +kernel
theorem dd_L_law_271 : decode cc_L_law 271 = .ok (.iload_n 3, 1) := by decide +kernel
theorem dd_L_law_272 : decode cc_L_law 272 = .ok (.iconst 2, 1) := by decide +kernel
theorem dd_L_law_273 : decode cc_L_law 273 = .ok (.iadd, 1) := by decide +kernel
theorem dd_L_law_274 : decode cc_L_law 274 = .ok (.iaload, 1) := by decide +kernel
theorem dd_L_law_275 : decode cc_L_law 275 = .ok (.invokevirtual 49, 3) := by decide +kernel
theorem dd_L_law_278 : decode cc_L_law 278 = .ok (.aload_n 2, 1) := by decide +kernel
theorem dd_L_law_279 : decode cc_L_law 279 = .ok (.aload_n 0, 1) := by decide +kernel
theorem dd_L_law_280 : decode cc_L_law 280 = .ok (.iload_n 3, 1) := by decide +kernel
theorem dd_L_law_281 : decode cc_L_law 281 = .ok (.iconst 1, 1) := by decide +kernel
theorem dd_L_law_282 : decode cc_L_law 282 = .ok (.iadd, 1) := by decide +kernel
theorem dd_L_law_283 : decode cc_L_law 283 = .ok (.iaload, 1) := by decide +kernel
theorem dd_L_law_284 : decode cc_L_law 284 = .ok (.aload_n 0, 1) := by decide +kernel
theorem dd_L_law_285 : decode cc_L_law 285 = .ok (.iload_n 3, 1) := by decide +kernel
theorem dd_L_law_286 : decode cc_L_law 286 = .ok (.iconst 2, 1) := by decide +kernel
theorem dd_L_law_287 : decode cc_L_law 287 = .ok (.iadd, 1) := by decide +kernel
theorem dd_L_law_288 : decode cc_L_law 288 = .ok (.iaload, 1) := by decide +kernel
theorem dd_L_law_289 : decode cc_L_law 289 = .ok (.invokevirtual 53, 3) := by decide +kernel
theorem dd_L_law_292 : decode cc_L_law 292 = .ok (.if_icmp .eq 196, 3) := by decide +kernel
theorem dd_L_law_295 : decode cc_L_law 295 = .ok (.iconst 0, 1) := by decide +kernel
theorem dd_L_law_296 : decode cc_L_law 296 = .ok (.ireturn, 1) := by decide +kernel
theorem dd_L_law_297 : decode cc_L_law 297 = .ok (.aload_n 1, 1) := by decide +kernel
theorem dd_L_law_298 : decode cc_L_law 298 = .ok (.invokevirtual 54, 3) := by decide +kernel
theorem dd_L_law_301 : decode cc_L_law 301 = .ok (.aload_n 2, 1) := by decide +kernel
theorem dd_L_law_302 : decode cc_L_law 302 = .ok (.invokevirtual 57, 3) := by decide +kernel
theorem dd_L_law_305 : decode cc_L_law 305 = .ok (.if_icmp .eq 183, 3) := by decide +kernel
theorem dd_L_law_308 : decode cc_L_law 308 = .ok (.iconst 0, 1) := by decide +kernel
theorem dd_L_law_309 : decode cc_L_law 309 = .ok (.ireturn, 1) := by decide +kernel
theorem dd_L_law_310 : decode cc_L_law 310 = .ok (.aload_n 1, 1) := by decide +kernel
theorem dd_L_law_311 : decode cc_L_law 311 = .ok (.invokevirtual 58, 3) := by decide +kernel
theorem dd_L_law_314 : decode cc_L_law 314 = .ok (.aload_n 2, 1) := by decide +kernel
theorem dd_L_law_315 : decode cc_L_law 315 = .ok (.invokevirtual 61, 3) := by decide +kernel
theorem dd_L_law_318 : decode cc_L_law 318 = .ok (.if_icmp .eq 170, 3) := by decide +kernel
theorem dd_L_law_321 : decode cc_L_law 321 = .ok (.iconst 0, 1) := by decide +kernel
theorem dd_L_law_322 : decode cc_L_law 322 = .ok (.ireturn, 1) := by decide +kernel
theorem dd_L_law_323 : decode cc_L_law 323 = .ok (.aload_n 1, 1) := by decide +kernel
theorem dd_L_law_324 : decode cc_L_law 324 = .ok (.invokevirtual 62, 3) := by decide +kernel
theorem dd_L_law_327 : decode cc_L_law 327 = .ok (.aload_n 2, 1) := by decide +kernel
theorem dd_L_law_328 : decode cc_L_law 328 = .ok (.invokevirtual 65, 3) := by decide +kernel
theorem dd_L_law_331 : decode cc_L_law 331 = .ok (.if_icmp .eq 157, 3) := by decide +kernel
theorem dd_L_law_334 : decode cc_L_law 334 = .ok (.iconst 0, 1) := by decide +kernel
theorem dd_L_law_335 : decode cc_L_law 335 = .ok (.ireturn, 1) := by decide +kernel
theorem dd_L_law_336 : decode cc_L_law 336 = .ok (.aload_n 1, 1) := by decide +kernel
theorem dd_L_law_337 : decode cc_L_law 337 = .ok (.aload_n 0, 1) := by decide +kernel
theorem dd_L_law_338 : decode cc_L_law 338 = .ok (.iload_n 3, 1) := by decide +kernel
theorem dd_L_law_339 : decode cc_L_law 339 = .ok (.iconst 1, 1) := by decide +kernel
theorem dd_L_law_340 : decode cc_L_law 340 = .ok (.iadd, 1) := by decide +kernel
theorem dd_L_law_341 : decode cc_L_law 341 = .ok (.iaload, 1) := by decide +kernel
theorem dd_L_law_342 : decode cc_L_law 342 = .ok (.invokevirtual 66, 3) := by decide +kernel
theorem dd_L_law_345 : decode cc_L_law 345 = .ok (.aload_n 2, 1) := by decide +kernel
theorem dd_L_law_346 : decode cc_L_law 346 = .ok (.aload_n 0, 1) := by decide +kernel
theorem dd_L_law_347 : decode cc_L_law 347 = .ok (.iload_n 3, 1) := by decide +kernel
theorem dd_L_law_348 : decode cc_L_law 348 = .ok (.iconst 1, 1) := by decide +kernel
theorem dd_L_law_349 : decode cc_L_law 349 = .ok (.iadd, 1) := by decide +kernel
theorem dd_L_law_350 : decode cc_L_law 350 = .ok (.iaload, 1) := by decide +kernel
theorem dd_L_law_351 : decode cc_L_law 351 = .ok (.invokevirtual 69, 3) := by decide +kernel
theorem dd_L_law_354 : decode cc_L_law 354 = .ok (.if_icmp .eq 134, 3) := by decide +kernel
theorem dd_L_law_357 : decode cc_L_law 357 = .ok (.iconst 0, 1) := by decide +kernel
theorem dd_L_law_358 : decode cc_L_law 358 = .ok (.ireturn, 1) := by decide +kernel
theorem dd_L_law_359 : decode cc_L_law 359 = .ok (.aload_n 1, 1) := by decide +kernel
theorem dd_L_law_360 : decode cc_L_law 360 = .ok (.aload_n 0, 1) := by decide +kernel
theorem dd_L_law_361 : decode cc_L_law 361 = .ok (.iload_n 3, 1) := by decide +kernel
theorem dd_L_law_362 : decode cc_L_law 362 = .ok (.iconst 1, 1) := by decide +kernel
theorem dd_L_law_363 : decode cc_L_law 363 = .ok (.iadd, 1) := by decide +kernel
theorem dd_L_law_364 : decode cc_L_law 364 = .ok (.iaload, 1) := by decide +kernel
theorem dd_L_law_365 : decode cc_L_law 365 = .ok (.i2c, 1) := by decide +kernel
theorem dd_L_law_366 : decode cc_L_law 366 = .ok (.invokevirtual 70, 3) := by decide +kernel
theorem dd_L_law_369 : decode cc_L_law 369 = .ok (.aload_n 2, 1) := by decide +kernel
theorem dd_L_law_370 : decode cc_L_law 370 = .ok (.aload_n 0, 1) := by decide +kernel
theorem dd_L_law_371 : decode cc_L_law 371 = .ok (.iload_n 3, 1) := by decide +kernel
theorem dd_L_law_372 : decode cc_L_law 372 = .ok (.iconst 1, 1) := by decide +kernel
theorem dd_L_law_373 : decode cc_L_law 373 = .ok (.iadd, 1) := by decide +kernel
theorem dd_L_law_374 : decode cc_L_law 374 = .ok (.iaload, 1) := by decide +kernel
theorem dd_L_law_375 : decode cc_L_law 375 = .ok (.i2c, 1) := by decide +kernel
theorem dd_L_law_376 : decode cc_L_law 376 = .ok (.invokevirtual 73, 3) := by decide +kernel
theorem dd_L_law_379 : decode cc_L_law 379 = .ok (.if_icmp .eq 109, 3) := by decide +kernel
theorem dd_L_law_382 : decode cc_L_law 382 = .ok (.iconst 0, 1) := by decide +kernel
theorem dd_L_law_383 : decode cc_L_law 383 = .ok (.ireturn, 1) := by decide +kernel
theorem dd_L_law_384 : decode cc_L_law 384 = .ok (.aload_n 1, 1) := by decide +kernel
theorem dd_L_law_385 : decode cc_L_law 385 = .ok (.aload_n 0, 1) := by decide +kernel
theorem dd_L_law_386 : decode cc_L_law 386 = .ok (.iload_n 3, 1) := by decide +kernel
theorem dd_L_law_387 : decode cc_L_law 387 = .ok (.iconst 1, 1) := by decide +kernel
theorem dd_L_law_388 : decode cc_L_law 388 = .ok (.iadd, 1) := by decide +kernel
theorem dd_L_law_389 : decode cc_L_law 389 = .ok (.iaload, 1) := by decide +kernel
theorem dd_L_law_390 : decode cc_L_law 390 = .ok (.aload_n 0, 1) := by decide +kernel
theorem dd_L_law_391 : decode cc_L_law 391 = .ok (.iload_n 3, 1) := by decide +kernel
theorem dd_L_law_392 : decode cc_L_law 392 = .ok (.iconst 2, 1) := by decide +kernel
theorem dd_L_law_393 : decode cc_L_law 393 = .ok (.iadd, 1) := by decide +kernel
theorem dd_L_law_394 : decode cc_L_law 394 = .ok (.iaload, 1) := by decide +kernel
theorem dd_L_law_395 : decode cc_L_law 395 = .ok (.i2c, 1) := by decide +kernel
theorem dd_L_law_396 : decode cc_L_law 396 = .ok (.invokevirtual 74, 3) := by decide +kernel
theorem dd_L_law_399 : decode cc_L_law 399 = .ok (.aload_n 2, 1) := by decide +kernel
theorem dd_L_law_400 : decode cc_L_law 400 = .ok (.aload_n 0, 1) := by decide +kernel
theorem dd_L_law_401 : decode cc_L_law 401 = .ok (.iload_n 3, 1) := by decide +kernel
theorem dd_L_law_402 : decode cc_L_law 402 = .ok (.iconst 1, 1) := by decide +kernel
theorem dd_L_law_403 : decode cc_L_law 403 = .ok (.iadd, 1) := by decide +kernel
theorem dd_L_law_404 : decode cc_L_law 404 = .ok (.iaload, 1) := by decide +kernel
theorem dd_L_law_405 : decode cc_L_law 405 = .ok (.aload_n 0, 1) := by decide +kernel
theorem dd_L_law_406 : decode cc_L_law 406 = .ok (.iload_n 3, 1) := by decide +kernel
theorem dd_L_law_407 : decode cc_L_law 407 = .ok (.iconst 2, 1) := by decide +kernel
theorem dd_L_law_408 : decode cc_L_law 408 = .ok (.iadd, 1) := by decide +kernel
theorem dd_L_law_409 : decode cc_L_law 409 = .ok (.iaload, 1) := by decide +kernel
theorem dd_L_law_410 : decode cc_L_law 410 = .ok (.i2c, 1) := by decide +kernel
theorem dd_L_law_411 : decode cc_L_law 411 = .ok (.invokevirtual 78, 3) := by decide +kernel
theorem dd_L_law_414 : decode cc_L_law 414 = .ok (.if_icmp .eq 74, 3) := by decide +kernel
theorem dd_L_law_417 : decode cc_L_law 417 = .ok (.iconst 0, 1) := by decide +kernel
theorem dd_L_law_418 : decode cc_L_law 418 = .ok (.ireturn, 1) := by decide +kernel
theorem dd_L_law_419 : decode cc_L_law 419 = .ok (.aload_n 1, 1) := by decide +kernel
theorem dd_L_law_420 : decode cc_L_law 420 = .ok (.aload_n 0, 1) := by decide +kernel
theorem dd_L_law_421 : decode cc_L_law 421 = .ok (.iload_n 3, 1) := by decide +kernel
theorem dd_L_law_422 : decode cc_L_law 422 = .ok (.iconst 1, 1) := by decide +kernel
theorem dd_L_law_423 : decode cc_L_law 423 = .ok (.iadd, 1) := by decide +kernel
theorem dd_L_law_424 : decode cc_L_law 424 = .ok (.iaload, 1) := by decide +kernel
theorem dd_L_law_425 : decode cc_L_law 425 = .ok (.invokevirtual 79, 3) := by decide +kernel
theorem dd_L_law_428 : decode cc_L_law 428 = .ok (.aload_n 2, 1) := by decide +kernel
theorem dd_L_law_429 : decode cc_L_law 429 = .ok (.aload_n 0, 1) := by decide +kernel
theorem dd_L_law_430 : decode cc_L_law 430 = .ok (.iload_n 3, 1) := by decide +kernel
theorem dd_L_law_431 : decode cc_L_law 431 = .ok (.iconst 1, 1) := by decide +kernel
theorem dd_L_law_432 : decode cc_L_law 432 = .ok (.iadd, 1) := by decide +kernel
theorem dd_L_law_433 : decode cc_L_law 433 = .ok (.iaload, 1) := by decide +kernel
theorem dd_L_law_434 : decode cc_L_law 434 = .ok (.invokevirtual 83, 3) := by decide +kernel
theorem dd_L_law_437 : decode cc_L_law 437 = .ok (.if_icmp .eq 51, 3) := by decide +kernel
theorem dd_L_law_440 : decode cc_L_law 440 = .ok (.iconst 0, 1) := by decide +kernel
theorem dd_L_law_441 : decode cc_L_law 441 = .ok (.ireturn, 1) := by decide +kernel
theorem dd_L_law_442 : decode cc_L_law 442 = .ok (.aload_n 1, 1) := by decide +kernel
theorem dd_L_law_443 : decode cc_L_law 443 = .ok (.aload_n 0, 1) := by decide +kernel
theorem dd_L_law_444 : decode cc_L_law 444 = .ok (.iload_n 3, 1) := by decide +kernel
theorem dd_L_law_445 : decode cc_L_law 445 = .ok (.iconst 1, 1) := by decide +kernel
theorem dd_L_law_446 : decode cc_L_law 446 = .ok (.iadd, 1) := by decide +kernel
theorem dd_L_law_447 : decode cc_L_law 447 = .ok (.iaload, 1) := by decide +kernel
theorem dd_L_law_448 : decode cc_L_law 448 = .ok (.invokevirtual 84, 3) := by decide +kernel
theorem dd_L_law_451 : decode cc_L_law 451 = .ok (.aload_n 2, 1) := by decide +kernel
theorem dd_L_law_452 : decode cc_L_law 452 = .ok (.aload_n 0, 1) := by decide +kernel
theorem dd_L_law_453 : decode cc_L_law 453 = .ok (.iload_n 3, 1) := by decide +kernel
theorem dd_L_law_454 : decode cc_L_law 454 = .ok (.iconst 1, 1) := by decide +kernel
theorem dd_L_law_455 : decode cc_L_law 455 = .ok (.iadd, 1) := by decide +kernel
theorem dd_L_law_456 : decode cc_L_law 456 = .ok (.iaload, 1) := by decide +kernel
theorem dd_L_law_457 : decode cc_L_law 457 = .ok (.invokevirtual 87, 3) := by decide +kernel
theorem dd_L_law_460 : decode cc_L_law 460 = .ok (.if_icmp .eq 28, 3) := by decide +kernel
theorem dd_L_law_463 : decode cc_L_law 463 = .ok (.iconst 0, 1) := by decide +kernel
theorem dd_L_law_464 : decode cc_L_law 464 = .ok (.ireturn, 1) := by decide +kernel
theorem dd_L_law_465 : decode cc_L_law 465 = .ok (.aload_n 1, 1) := by decide +kernel
theorem dd_L_law_466 : decode cc_L_law 466 = .ok (.aload_n 0, 1) := by decide +kernel
theorem dd_L_law_467 : decode cc_L_law 467 = .ok (.iload_n 3, 1) := by decide +kernel
theorem dd_L_law_468 : decode cc_L_law 468 = .ok (.iconst 1, 1) := by decide +kernel
theorem dd_L_law_469 : decode cc_L_law 469 = .ok (.iadd, 1) := by decide +kernel
theorem dd_L_law_470 : decode cc_L_law 470 = .ok (.iaload, 1) := by decide +kernel
theorem dd_L_law_471 : decode cc_L_law 471 = .ok (.invokevirtual 88, 3) := by decide +kernel
theorem dd_L_law_474 : decode cc_L_law 474 = .ok (.aload_n 2, 1) := by decide +kernel
theorem dd_L_law_475 : decode cc_L_law 475 = .ok (.aload_n 0, 1) := by decide +kernel
theorem dd_L_law_476 : decode cc_L_law 476 = .ok (.iload_n 3, 1) := by decide +kernel
theorem dd_L_law_477 : decode cc_L_law 477 = .ok (.iconst 1, 1) := by decide +kernel
theorem dd_L_law_478 : decode cc_L_law 478 = .ok (.iadd, 1) := by decide +kernel
theorem dd_L_law_479 : decode cc_L_law 479 = .ok (.iaload, 1) := by decide +kernel
theorem dd_L_law_480 : decode cc_L_law 480 = .ok (.invokevirtual 91, 3) := by decide +kernel
theorem dd_L_law_483 : decode cc_L_law 483 = .ok (.if_icmp .eq 5, 3) := by decide +kernel
theorem dd_L_law_486 : decode cc_L_law 486 = .ok (.iconst 0, 1) := by decide +kernel
theorem dd_L_law_487 : decode cc_L_law 487 = .ok (.ireturn, 1) := by decide +kernel
theorem dd_L_law_488 : decode cc_L_law 488 = .ok (.iinc 3 3, 3) := by decide +kernel
theorem dd_L_law_491 : decode cc_L_law 491 = .ok (.goto (-473), 3) := by decide +kernel
theorem dd_L_law_494 : decode cc_L_law 494 = .ok (.iconst 1, 1) := by decide +kernel
theorem dd_L_law_495 : decode cc_L_law 495 = .ok (.ireturn, 1) := by decide +kernel
