/-! THE CLAIM OUT OF ONE WALK OF THE LAW'S BODY. Your part is whole_start (and what it stands on); all else here is the same for every law, but numbers. -/
def R_law : String := "EnclosureCalculatorLaw"
def lw_P (b : Addr) (xs : List Int32) (args : Array Value) (s : State) : Prop := args = #[.ref b] ∧ s.IntsAt b xs ∧ xs.length ≤ 2560 ∧ (Jvm.Cond.and given_1 narrow_1).before args s = true
def lw_Q (_ : Array Value) (s : State) (o : Outcome) (t : State) : Prop := o = .returned (some (.int 1)) ∧ Framed s o t [] 600000 7302250
def lw_Z (below : List Frame) (a : Array Value) (s : State) : State → Prop := fun t => ∃ o, t.status = .running ∧ Ended t below o ∧ lw_Q a s o t
/-- the law's own end, with 1 on the stack, nothing written that was there before, its room as the claim has it -/
theorem lw_ret {p : Program} {l : Launch} {e : Env} {s : State} {m : MethodId} {below : List Frame} {meth : Method} {c : Code} {b : Nat} (hx : p.tables.exec = Jvm.exec) (hb : c.code = code) (hr : meth.sig.returnType = ret) (hlocks : meth.locks = false) {pc : Nat} {H : Heap} {ls : Array Slot} (hdg : decode code pc = .ok (.ireturn, 1)) : W p l e room_1 s m #[Value.ref b] below meth c H [] 600000 7302250 (lw_Z below #[Value.ref b] s) (F0 m pc ls [.int 1]) := by
  intro T hT X
  obtain ⟨fs, hret, hrun, hended, hW, hframe⟩ := X.leave (v := some (.int 1)) (hlocks := hlocks) (fun h => by rw [hr] at h; cases h)
  have hmeth' : T.vm.method? m = some meth := X.method'
  refine ⟨T.setFrames fs, ?_, .returned (some (.int 1)), hrun, hended, rfl, ⟨_, rfl⟩, hW, hframe⟩
  jvm_step X.here [X.here.top, hx, hb, hdg, hmeth', hr, ret, narrow_b1]
  (try refine ⟨rfl, ?_⟩); (try refine ⟨rfl, ?_⟩)
  first | (intro acts; rw [hret _ acts rfl rfl rfl]) | rw [hret _ _ rfl rfl rfl]
  exact Steps.refl _
/-- what holds at the law's entry: the machine, the code, the tables' words (any of lw_tbl by 'hts w (by decide +kernel)'), the script of L ints xs at the cell b, what the Statement gives of the start (any of its parts by flat_of_before) -/
def lw_At (p : Program) (s : State) (m : MethodId) (meth : Method) (c : Code) (b L : Nat) (xs : Nat → Int32) : Prop :=
  p.tables.exec = Jvm.exec ∧ c.code = code ∧ meth.sig.returnType = ret ∧ c.maxLocals = 4 ∧ s.vm.findClass R_law = some m.cls ∧ (∀ w ∈ lw_tbl, w.before #[Value.ref b] s = true) ∧ va_X b L xs s s.heap ∧ b < s.heap.size ∧ meth.locks = false ∧ (Jvm.Cond.and given_1 narrow_1).before #[Value.ref b] s = true
theorem dL_law_0 : decode cL_law 0 = .ok (.new 7, 3) := by decide +kernel
theorem dL_law_3 : decode cL_law 3 = .ok (.dup, 1) := by decide +kernel
theorem dL_law_4 : decode cL_law 4 = .ok (.invokespecial 9, 3) := by decide +kernel
theorem dL_law_7 : decode cL_law 7 = .ok (.astore_n 1, 1) := by decide +kernel
theorem dL_law_8 : decode cL_law 8 = .ok (.new 10, 3) := by decide +kernel
theorem dL_law_11 : decode cL_law 11 = .ok (.dup, 1) := by decide +kernel
theorem dL_law_12 : decode cL_law 12 = .ok (.invokespecial 12, 3) := by decide +kernel
theorem dL_law_15 : decode cL_law 15 = .ok (.astore_n 2, 1) := by decide +kernel
theorem dL_law_16 : decode cL_law 16 = .ok (.iconst 0, 1) := by decide +kernel
theorem dL_law_17 : decode cL_law 17 = .ok (.istore_n 3, 1) := by decide +kernel
theorem dL_law_18 : decode cL_law 18 = .ok (.iload_n 3, 1) := by decide +kernel
theorem dL_law_19 : decode cL_law 19 = .ok (.aload_n 0, 1) := by decide +kernel
theorem dL_law_20 : decode cL_law 20 = .ok (.arraylength, 1) := by decide +kernel
theorem dL_law_21 : decode cL_law 21 = .ok (.iconst 5, 1) := by decide +kernel
theorem dL_law_22 : decode cL_law 22 = .ok (.isub, 1) := by decide +kernel
theorem dL_law_23 : decode cL_law 23 = .ok (.if_icmp .gt 363, 3) := by decide +kernel
theorem dL_law_26 : decode cL_law 26 = .ok (.aload_n 0, 1) := by decide +kernel
theorem dL_law_27 : decode cL_law 27 = .ok (.iload_n 3, 1) := by decide +kernel
theorem dL_law_28 : decode cL_law 28 = .ok (.iaload, 1) := by decide +kernel
theorem dL_law_29 : decode cL_law 29 = .ok (.bipush 15, 2) := by decide +kernel
theorem dL_law_31 : decode cL_law 31 = .ok (.iand, 1) := by decide +kernel
theorem dL_law_32 : decode cL_law 32 = .ok (.tableswitch 348 0 12 #[68, 91, 104, 117, 140, 151, 174, 217, 270, 283, 296, 310, 324], 68) := by decide +kernel
theorem dL_law_100 : decode cL_law 100 = .ok (.aload_n 1, 1) := by decide +kernel
theorem dL_law_101 : decode cL_law 101 = .ok (.aload_n 0, 1) := by decide +kernel
theorem dL_law_102 : decode cL_law 102 = .ok (.iload_n 3, 1) := by decide +kernel
theorem dL_law_103 : decode cL_law 103 = .ok (.iconst 1, 1) := by decide +kernel
theorem dL_law_104 : decode cL_law 104 = .ok (.iadd, 1) := by decide +kernel
theorem dL_law_105 : decode cL_law 105 = .ok (.iaload, 1) := by decide +kernel
theorem dL_law_106 : decode cL_law 106 = .ok (.invokevirtual 13, 3) := by decide +kernel
theorem dL_law_109 : decode cL_law 109 = .ok (.aload_n 2, 1) := by decide +kernel
theorem dL_law_110 : decode cL_law 110 = .ok (.aload_n 0, 1) := by decide +kernel
theorem dL_law_111 : decode cL_law 111 = .ok (.iload_n 3, 1) := by decide +kernel
theorem dL_law_112 : decode cL_law 112 = .ok (.iconst 1, 1) := by decide +kernel
theorem dL_law_113 : decode cL_law 113 = .ok (.iadd, 1) := by decide +kernel
theorem dL_law_114 : decode cL_law 114 = .ok (.iaload, 1) := by decide +kernel
theorem dL_law_115 : decode cL_law 115 = .ok (.invokevirtual 17, 3) := by decide +kernel
theorem dL_law_118 : decode cL_law 118 = .ok (.if_icmp .eq 262, 3) := by decide +kernel
theorem dL_law_121 : decode cL_law 121 = .ok (.iconst 0, 1) := by decide +kernel
theorem dL_law_122 : decode cL_law 122 = .ok (.ireturn, 1) := by decide +kernel
theorem dL_law_123 : decode cL_law 123 = .ok (.aload_n 1, 1) := by decide +kernel
theorem dL_law_124 : decode cL_law 124 = .ok (.invokevirtual 18, 3) := by decide +kernel
theorem dL_law_127 : decode cL_law 127 = .ok (.aload_n 2, 1) := by decide +kernel
theorem dL_law_128 : decode cL_law 128 = .ok (.invokevirtual 22, 3) := by decide +kernel
theorem dL_law_131 : decode cL_law 131 = .ok (.if_icmp .eq 249, 3) := by decide +kernel
theorem dL_law_134 : decode cL_law 134 = .ok (.iconst 0, 1) := by decide +kernel
theorem dL_law_135 : decode cL_law 135 = .ok (.ireturn, 1) := by decide +kernel
theorem dL_law_136 : decode cL_law 136 = .ok (.aload_n 1, 1) := by decide +kernel
theorem dL_law_137 : decode cL_law 137 = .ok (.invokevirtual 23, 3) := by decide +kernel
theorem dL_law_140 : decode cL_law 140 = .ok (.aload_n 2, 1) := by decide +kernel
theorem dL_law_141 : decode cL_law 141 = .ok (.invokevirtual 27, 3) := by decide +kernel
theorem dL_law_144 : decode cL_law 144 = .ok (.if_icmp .eq 236, 3) := by decide +kernel
theorem dL_law_147 : decode cL_law 147 = .ok (.iconst 0, 1) := by decide +kernel
theorem dL_law_148 : decode cL_law 148 = .ok (.ireturn, 1) := by decide +kernel
theorem dL_law_149 : decode cL_law 149 = .ok (.aload_n 1, 1) := by decide +kernel
theorem dL_law_150 : decode cL_law 150 = .ok (.aload_n 0, 1) := by decide +kernel
theorem dL_law_151 : decode cL_law 151 = .ok (.iload_n 3, 1) := by decide +kernel
theorem dL_law_152 : decode cL_law 152 = .ok (.iconst 1, 1) := by decide +kernel
theorem dL_law_153 : decode cL_law 153 = .ok (.iadd, 1) := by decide +kernel
theorem dL_law_154 : decode cL_law 154 = .ok (.iaload, 1) := by decide +kernel
theorem dL_law_155 : decode cL_law 155 = .ok (.invokevirtual 28, 3) := by decide +kernel
theorem dL_law_158 : decode cL_law 158 = .ok (.aload_n 2, 1) := by decide +kernel
theorem dL_law_159 : decode cL_law 159 = .ok (.aload_n 0, 1) := by decide +kernel
theorem dL_law_160 : decode cL_law 160 = .ok (.iload_n 3, 1) := by decide +kernel
theorem dL_law_161 : decode cL_law 161 = .ok (.iconst 1, 1) := by decide +kernel
theorem dL_law_162 : decode cL_law 162 = .ok (.iadd, 1) := by decide +kernel
theorem dL_law_163 : decode cL_law 163 = .ok (.iaload, 1) := by decide +kernel
theorem dL_law_164 : decode cL_law 164 = .ok (.invokevirtual 32, 3) := by decide +kernel
theorem dL_law_167 : decode cL_law 167 = .ok (.if_icmp .eq 213, 3) := by decide +kernel
theorem dL_law_170 : decode cL_law 170 = .ok (.iconst 0, 1) := by decide +kernel
theorem dL_law_171 : decode cL_law 171 = .ok (.ireturn, 1) := by decide +kernel
theorem dL_law_172 : decode cL_law 172 = .ok (.aload_n 1, 1) := by decide +kernel
theorem dL_law_173 : decode cL_law 173 = .ok (.invokevirtual 33, 3) := by decide +kernel
theorem dL_law_176 : decode cL_law 176 = .ok (.aload_n 2, 1) := by decide +kernel
theorem dL_law_177 : decode cL_law 177 = .ok (.invokevirtual 36, 3) := by decide +kernel
theorem dL_law_180 : decode cL_law 180 = .ok (.goto 200, 3) := by decide +kernel
theorem dL_law_183 : decode cL_law 183 = .ok (.aload_n 1, 1) := by decide +kernel
theorem dL_law_184 : decode cL_law 184 = .ok (.aload_n 0, 1) := by decide +kernel
theorem dL_law_185 : decode cL_law 185 = .ok (.iload_n 3, 1) := by decide +kernel
theorem dL_law_186 : decode cL_law 186 = .ok (.iconst 1, 1) := by decide +kernel
theorem dL_law_187 : decode cL_law 187 = .ok (.iadd, 1) := by decide +kernel
theorem dL_law_188 : decode cL_law 188 = .ok (.iaload, 1) := by decide +kernel
theorem dL_law_189 : decode cL_law 189 = .ok (.invokevirtual 37, 3) := by decide +kernel
theorem dL_law_192 : decode cL_law 192 = .ok (.aload_n 2, 1) := by decide +kernel
theorem dL_law_193 : decode cL_law 193 = .ok (.aload_n 0, 1) := by decide +kernel
theorem dL_law_194 : decode cL_law 194 = .ok (.iload_n 3, 1) := by decide +kernel
theorem dL_law_195 : decode cL_law 195 = .ok (.iconst 1, 1) := by decide +kernel
theorem dL_law_196 : decode cL_law 196 = .ok (.iadd, 1) := by decide +kernel
theorem dL_law_197 : decode cL_law 197 = .ok (.iaload, 1) := by decide +kernel
theorem dL_law_198 : decode cL_law 198 = .ok (.invokevirtual 40, 3) := by decide +kernel
theorem dL_law_201 : decode cL_law 201 = .ok (.if_icmp .eq 179, 3) := by decide +kernel
theorem dL_law_204 : decode cL_law 204 = .ok (.iconst 0, 1) := by decide +kernel
theorem dL_law_205 : decode cL_law 205 = .ok (.ireturn, 1) := by decide +kernel
theorem dL_law_206 : decode cL_law 206 = .ok (.aload_n 1, 1) := by decide +kernel
theorem dL_law_207 : decode cL_law 207 = .ok (.aload_n 0, 1) := by decide +kernel
theorem dL_law_208 : decode cL_law 208 = .ok (.iload_n 3, 1) := by decide +kernel
theorem dL_law_209 : decode cL_law 209 = .ok (.iconst 1, 1) := by decide +kernel
theorem dL_law_210 : decode cL_law 210 = .ok (.iadd, 1) := by decide +kernel
theorem dL_law_211 : decode cL_law 211 = .ok (.iaload, 1) := by decide +kernel
theorem dL_law_212 : decode cL_law 212 = .ok (.aload_n 0, 1) := by decide +kernel
theorem dL_law_213 : decode cL_law 213 = .ok (.iload_n 3, 1) := by decide +kernel
theorem dL_law_214 : decode cL_law 214 = .ok (.iconst 2, 1) := by decide +kernel
theorem dL_law_215 : decode cL_law 215 = .ok (.iadd, 1) := by decide +kernel
theorem dL_law_216 : decode cL_law 216 = .ok (.iaload, 1) := by decide +kernel
theorem dL_law_217 : decode cL_law 217 = .ok (.aload_n 0, 1) := by decide +kernel
theorem dL_law_218 : decode cL_law 218 = .ok (.iload_n 3, 1) := by decide +kernel
theorem dL_law_219 : decode cL_law 219 = .ok (.iconst 3, 1) := by decide +kernel
theorem dL_law_220 : decode cL_law 220 = .ok (.iadd, 1) := by decide +kernel
theorem dL_law_221 : decode cL_law 221 = .ok (.iaload, 1) := by decide +kernel
theorem dL_law_222 : decode cL_law 222 = .ok (.invokevirtual 41, 3) := by decide +kernel
theorem dL_law_225 : decode cL_law 225 = .ok (.aload_n 2, 1) := by decide +kernel
theorem dL_law_226 : decode cL_law 226 = .ok (.aload_n 0, 1) := by decide +kernel
theorem dL_law_227 : decode cL_law 227 = .ok (.iload_n 3, 1) := by decide +kernel
theorem dL_law_228 : decode cL_law 228 = .ok (.iconst 1, 1) := by decide +kernel
theorem dL_law_229 : decode cL_law 229 = .ok (.iadd, 1) := by decide +kernel
theorem dL_law_230 : decode cL_law 230 = .ok (.iaload, 1) := by decide +kernel
theorem dL_law_231 : decode cL_law 231 = .ok (.aload_n 0, 1) := by decide +kernel
theorem dL_law_232 : decode cL_law 232 = .ok (.iload_n 3, 1) := by decide +kernel
theorem dL_law_233 : decode cL_law 233 = .ok (.iconst 2, 1) := by decide +kernel
theorem dL_law_234 : decode cL_law 234 = .ok (.iadd, 1) := by decide +kernel
theorem dL_law_235 : decode cL_law 235 = .ok (.iaload, 1) := by decide +kernel
theorem dL_law_236 : decode cL_law 236 = .ok (.aload_n 0, 1) := by decide +kernel
theorem dL_law_237 : decode cL_law 237 = .ok (.iload_n 3, 1) := by decide +kernel
theorem dL_law_238 : decode cL_law 238 = .ok (.iconst 3, 1) := by decide +kernel
theorem dL_law_239 : decode cL_law 239 = .ok (.iadd, 1) := by decide +kernel
theorem dL_law_240 : decode cL_law 240 = .ok (.iaload, 1) := by decide +kernel
theorem dL_law_241 : decode cL_law 241 = .ok (.invokevirtual 45, 3) := by decide +kernel
theorem dL_law_244 : decode cL_law 244 = .ok (.if_icmp .eq 136, 3) := by decide +kernel
theorem dL_law_247 : decode cL_law 247 = .ok (.iconst 0, 1) := by decide +kernel
theorem dL_law_248 : decode cL_law 248 = .ok (.ireturn, 1) := by decide +kernel
theorem dL_law_249 : decode cL_law 249 = .ok (.aload_n 1, 1) := by decide +kernel
theorem dL_law_250 : decode cL_law 250 = .ok (.aload_n 0, 1) := by decide +kernel
theorem dL_law_251 : decode cL_law 251 = .ok (.iload_n 3, 1) := by decide +kernel
theorem dL_law_252 : decode cL_law 252 = .ok (.iconst 1, 1) := by decide +kernel
theorem dL_law_253 : decode cL_law 253 = .ok (.iadd, 1) := by decide +kernel
theorem dL_law_254 : decode cL_law 254 = .ok (.iaload, 1) := by decide +kernel
theorem dL_law_255 : decode cL_law 255 = .ok (.aload_n 0, 1) := by decide +kernel
theorem dL_law_256 : decode cL_law 256 = .ok (.iload_n 3, 1) := by decide +kernel
theorem dL_law_257 : decode cL_law 257 = .ok (.iconst 2, 1) := by decide +kernel
theorem dL_law_258 : decode cL_law 258 = .ok (.iadd, 1) := by decide +kernel
theorem dL_law_259 : decode cL_law 259 = .ok (.iaload, 1) := by decide +kernel
theorem dL_law_260 : decode cL_law 260 = .ok (.aload_n 0, 1) := by decide +kernel
theorem dL_law_261 : decode cL_law 261 = .ok (.iload_n 3, 1) := by decide +kernel
theorem dL_law_262 : decode cL_law 262 = .ok (.iconst 3, 1) := by decide +kernel
theorem dL_law_263 : decode cL_law 263 = .ok (.iadd, 1) := by decide +kernel
theorem dL_law_264 : decode cL_law 264 = .ok (.iaload, 1) := by decide +kernel
theorem dL_law_265 : decode cL_law 265 = .ok (.aload_n 0, 1) := by decide +kernel
theorem dL_law_266 : decode cL_law 266 = .ok (.iload_n 3, 1) := by decide +kernel
theorem dL_law_267 : decode cL_law 267 = .ok (.iconst 4, 1) := by decide +kernel
theorem dL_law_268 : decode cL_law 268 = .ok (.iadd, 1) := by decide +kernel
theorem dL_law_269 : decode cL_law 269 = .ok (.iaload, 1) := by decide +kernel
theorem dL_law_270 : decode cL_law 270 = .ok (.invokevirtual 46, 3) := by decide +kernel
theorem dL_law_273 : decode cL_law 273 = .ok (.aload_n 2, 1) := by decide +kernel
theorem dL_law_274 : decode cL_law 274 = .ok (.aload_n 0, 1) := by decide +kernel
theorem dL_law_275 : decode cL_law 275 = .ok (.iload_n 3, 1) := by decide +kernel
theorem dL_law_276 : decode cL_law 276 = .ok (.iconst 1, 1) := by decide +kernel
theorem dL_law_277 : decode cL_law 277 = .ok (.iadd, 1) := by decide +kernel
theorem dL_law_278 : decode cL_law 278 = .ok (.iaload, 1) := by decide +kernel
theorem dL_law_279 : decode cL_law 279 = .ok (.aload_n 0, 1) := by decide +kernel
theorem dL_law_280 : decode cL_law 280 = .ok (.iload_n 3, 1) := by decide +kernel
theorem dL_law_281 : decode cL_law 281 = .ok (.iconst 2, 1) := by decide +kernel
theorem dL_law_282 : decode cL_law 282 = .ok (.iadd, 1) := by decide +kernel
theorem dL_law_283 : decode cL_law 283 = .ok (.iaload, 1) := by decide +kernel
theorem dL_law_284 : decode cL_law 284 = .ok (.aload_n 0, 1) := by decide +kernel
theorem dL_law_285 : decode cL_law 285 = .ok (.iload_n 3, 1) := by decide +kernel
theorem dL_law_286 : decode cL_law 286 = .ok (.iconst 3, 1) := by decide +kernel
theorem dL_law_287 : decode cL_law 287 = .ok (.iadd, 1) := by decide +kernel
theorem dL_law_288 : decode cL_law 288 = .ok (.iaload, 1) := by decide +kernel
theorem dL_law_289 : decode cL_law 289 = .ok (.aload_n 0, 1) := by decide +kernel
theorem dL_law_290 : decode cL_law 290 = .ok (.iload_n 3, 1) := by decide +kernel
theorem dL_law_291 : decode cL_law 291 = .ok (.iconst 4, 1) := by decide +kernel
theorem dL_law_292 : decode cL_law 292 = .ok (.iadd, 1) := by decide +kernel
theorem dL_law_293 : decode cL_law 293 = .ok (.iaload, 1) := by decide +kernel
theorem dL_law_294 : decode cL_law 294 = .ok (.invokevirtual 50, 3) := by decide +kernel
theorem dL_law_297 : decode cL_law 297 = .ok (.if_icmp .eq 83, 3) := by decide +kernel
theorem dL_law_300 : decode cL_law 300 = .ok (.iconst 0, 1) := by decide +kernel
theorem dL_law_301 : decode cL_law 301 = .ok (.ireturn, 1) := by decide +kernel
theorem dL_law_302 : decode cL_law 302 = .ok (.aload_n 1, 1) := by decide +kernel
theorem dL_law_303 : decode cL_law 303 = .ok (.invokevirtual 51, 3) := by decide +kernel
theorem dL_law_306 : decode cL_law 306 = .ok (.aload_n 2, 1) := by decide +kernel
theorem dL_law_307 : decode cL_law 307 = .ok (.invokevirtual 54, 3) := by decide +kernel
theorem dL_law_310 : decode cL_law 310 = .ok (.if_icmp .eq 70, 3) := by decide +kernel
theorem dL_law_313 : decode cL_law 313 = .ok (.iconst 0, 1) := by decide +kernel
theorem dL_law_314 : decode cL_law 314 = .ok (.ireturn, 1) := by decide +kernel
theorem dL_law_315 : decode cL_law 315 = .ok (.aload_n 1, 1) := by decide +kernel
theorem dL_law_316 : decode cL_law 316 = .ok (.invokevirtual 55, 3) := by decide +kernel
theorem dL_law_319 : decode cL_law 319 = .ok (.aload_n 2, 1) := by decide +kernel
theorem dL_law_320 : decode cL_law 320 = .ok (.invokevirtual 58, 3) := by decide +kernel
theorem dL_law_323 : decode cL_law 323 = .ok (.if_icmp .eq 57, 3) := by decide +kernel
theorem dL_law_326 : decode cL_law 326 = .ok (.iconst 0, 1) := by decide +kernel
theorem dL_law_327 : decode cL_law 327 = .ok (.ireturn, 1) := by decide +kernel
theorem dL_law_328 : decode cL_law 328 = .ok (.aload_n 1, 1) := by decide +kernel
theorem dL_law_329 : decode cL_law 329 = .ok (.invokevirtual 59, 3) := by decide +kernel
theorem dL_law_332 : decode cL_law 332 = .ok (.aload_n 2, 1) := by decide +kernel
theorem dL_law_333 : decode cL_law 333 = .ok (.invokevirtual 63, 3) := by decide +kernel
theorem dL_law_336 : decode cL_law 336 = .ok (.lcmp, 1) := by decide +kernel
theorem dL_law_337 : decode cL_law 337 = .ok (.ifCond .eq 43, 3) := by decide +kernel
theorem dL_law_340 : decode cL_law 340 = .ok (.iconst 0, 1) := by decide +kernel
theorem dL_law_341 : decode cL_law 341 = .ok (.ireturn, 1) := by decide +kernel
theorem dL_law_342 : decode cL_law 342 = .ok (.aload_n 1, 1) := by decide +kernel
theorem dL_law_343 : decode cL_law 343 = .ok (.invokevirtual 64, 3) := by decide +kernel
theorem dL_law_346 : decode cL_law 346 = .ok (.aload_n 2, 1) := by decide +kernel
theorem dL_law_347 : decode cL_law 347 = .ok (.invokevirtual 67, 3) := by decide +kernel
theorem dL_law_350 : decode cL_law 350 = .ok (.lcmp, 1) := by decide +kernel
theorem dL_law_351 : decode cL_law 351 = .ok (.ifCond .eq 29, 3) := by decide +kernel
theorem dL_law_354 : decode cL_law 354 = .ok (.iconst 0, 1) := by decide +kernel
theorem dL_law_355 : decode cL_law 355 = .ok (.ireturn, 1) := by decide +kernel
theorem dL_law_356 : decode cL_law 356 = .ok (.aload_n 1, 1) := by decide +kernel
theorem dL_law_357 : decode cL_law 357 = .ok (.aload_n 0, 1) := by decide +kernel
theorem dL_law_358 : decode cL_law 358 = .ok (.iload_n 3, 1) := by decide +kernel
theorem dL_law_359 : decode cL_law 359 = .ok (.iconst 1, 1) := by decide +kernel
theorem dL_law_360 : decode cL_law 360 = .ok (.iadd, 1) := by decide +kernel
theorem dL_law_361 : decode cL_law 361 = .ok (.iaload, 1) := by decide +kernel
theorem dL_law_362 : decode cL_law 362 = .ok (.invokevirtual 68, 3) := by decide +kernel
theorem dL_law_365 : decode cL_law 365 = .ok (.aload_n 2, 1) := by decide +kernel
theorem dL_law_366 : decode cL_law 366 = .ok (.aload_n 0, 1) := by decide +kernel
theorem dL_law_367 : decode cL_law 367 = .ok (.iload_n 3, 1) := by decide +kernel
theorem dL_law_368 : decode cL_law 368 = .ok (.iconst 1, 1) := by decide +kernel
theorem dL_law_369 : decode cL_law 369 = .ok (.iadd, 1) := by decide +kernel
theorem dL_law_370 : decode cL_law 370 = .ok (.iaload, 1) := by decide +kernel
theorem dL_law_371 : decode cL_law 371 = .ok (.invokevirtual 72, 3) := by decide +kernel
theorem dL_law_374 : decode cL_law 374 = .ok (.lcmp, 1) := by decide +kernel
theorem dL_law_375 : decode cL_law 375 = .ok (.ifCond .eq 5, 3) := by decide +kernel
theorem dL_law_378 : decode cL_law 378 = .ok (.iconst 0, 1) := by decide +kernel
theorem dL_law_379 : decode cL_law 379 = .ok (.ireturn, 1) := by decide +kernel
theorem dL_law_380 : decode cL_law 380 = .ok (.iinc 3 5, 3) := by decide +kernel
theorem dL_law_383 : decode cL_law 383 = .ok (.goto (-365), 3) := by decide +kernel
theorem dL_law_386 : decode cL_law 386 = .ok (.iconst 1, 1) := by decide +kernel
theorem dL_law_387 : decode cL_law 387 = .ok (.ireturn, 1) := by decide +kernel
def OpsOK (n : Nat) (Rel : Wd → Wd → Prop) : Prop :=
  (∀ (w x : Wd), Rel w x → ∀ c1 : Int32, ∃ z y, fX3_type n c1 w = some z ∧ fX4_type n c1 x = some y ∧ z.1 = y.1 ∧ Rel z.2 y.2) ∧
  (∀ (w x : Wd), Rel w x → ∃ z y, fX3_erase n w = some z ∧ fX4_erase n x = some y ∧ z.1 = y.1 ∧ Rel z.2 y.2) ∧
  (∀ (w x : Wd), Rel w x → ∃ z y, fX3_length n w = some z ∧ fX4_length n x = some y ∧ z = y) ∧
  (∀ (w x : Wd), Rel w x → ∀ c1 : Int32, ∃ z y, fX3_define n c1 w = some z ∧ fX4_define n c1 x = some y ∧ z.1 = y.1 ∧ Rel z.2 y.2) ∧
  (∀ (w x : Wd), Rel w x → ∃ z y, fX3_clear n w = some z ∧ fX4_clear n x = some y ∧ Rel z y) ∧
  (∀ (w x : Wd), Rel w x → ∀ c1 : Int32, ∃ z y, fX3_parts n c1 w = some z ∧ fX4_parts n c1 x = some y ∧ z.1 = y.1 ∧ Rel z.2 y.2) ∧
  (∀ (w x : Wd), Rel w x → ∀ c1 c2 c3 : Int32, ∃ z y, fX3_evaluate n c1 c2 c3 w = some z ∧ fX4_evaluate n c1 c2 c3 x = some y ∧ z.1 = y.1 ∧ Rel z.2 y.2) ∧
  (∀ (w x : Wd), Rel w x → ∀ c1 c2 c3 c4 : Int32, ∃ z y, fX3_compare n c1 c2 c3 c4 w = some z ∧ fX4_compare n c1 c2 c3 c4 x = some y ∧ z.1 = y.1 ∧ Rel z.2 y.2) ∧
  (∀ (w x : Wd), Rel w x → ∃ z y, fX3_work n w = some z ∧ fX4_work n x = some y ∧ z = y) ∧
  (∀ (w x : Wd), Rel w x → ∃ z y, fX3_step n w = some z ∧ fX4_step n x = some y ∧ z = y) ∧
  (∀ (w x : Wd), Rel w x → ∃ z y, fX3_low n w = some z ∧ fX4_low n x = some y ∧ z = y) ∧
  (∀ (w x : Wd), Rel w x → ∃ z y, fX3_high n w = some z ∧ fX4_high n x = some y ∧ z = y) ∧
  (∀ (w x : Wd), Rel w x → ∀ c1 : Int32, ∃ z y, fX3_decimal n c1 w = some z ∧ fX4_decimal n c1 x = some y ∧ z = y)
/-! the law's walk -/
def lx_A (s : State) : Nat → Prop := fun q => s.heap.size ≤ q
def lx_C (p : Program) (s : State) (m : MethodId) (meth : Method) (c : Code) (b L : Nat) (xs : Nat → Int32) (t : Nat) : Prop :=
  p.tables.exec = Jvm.exec ∧ c.code = code ∧ meth.sig.returnType = ret ∧ c.maxLocals = 4 ∧ s.vm.findClass RL = some m.cls ∧ (∀ w ∈ WALL, w.before #[Value.ref b] s = true) ∧ ez_N s ∧ va_X b L xs s s.heap ∧ b < s.heap.size ∧ meth.locks = false ∧ va_Z RX3 "POWERS_OF_TEN" "[J" (.ref t) (lx_A s) s s.heap ∧ va_T .long t 7 ez_pt (lx_A s) s s.heap
theorem lx_in {j L : Nat} (i : Nat) (hj : 5 * j + 5 ≤ L) (hL : L ≤ 2560) (hi : i < 5) : vp_in (nI (5 * j) + nI i) L := by
  rw [nI_add]
  exact vp_in_nI (by omega) (by omega)
section LX
variable {p : Program} {l : Launch} {e : Env} {R : Room} {s : State} {m : MethodId} {args : Array Value} {below : List Frame} {meth : Method} {c : Code} {H : Heap} {locs : List Loc} {cells slots : Nat} {Q : State → Prop}
variable {pc : Nat} {ls : Array Slot} {rest st0 : List Value} {A : Nat → Prop} {D : va_G} {tys : List (ClassId × FieldType)} {wr wl wl' : va_W} {H0 : Heap}
theorem lx_callD {r : Int32} {a : Array Value} (hr : va_Run p l e R s m args below meth c H locs cells slots 1 6 (F0 m pc ls st0) rest (ez_Qi D tys (va_A wl H.size) r wl' a) (va_A wl H.size)) (hP : va_P D vwCl (wr ++ wl) H) (hD : va_D A (wr ++ wl)) (hS : va_S A H0 H locs) (hA : ∀ q : Nat, H0.size ≤ q → A q)
    (kk : ∀ (H1 : Heap) (locs1 : List Loc), va_P D vwCl (wr ++ wl') H1 → va_D A (wr ++ wl') → va_S A H0 H1 locs1 → W p l e R s m args below meth c H1 locs1 (cells + 1) (slots + 6) Q (F0 m (pc + 3) ls (.int r :: rest))) : W p l e R s m args below meth c H locs cells slots Q (F0 m pc ls st0) := by
  have hF := ez_free hD hS hA
  refine va_calli hr hS (fun q _ h => hF q h) hF (fun r' u t H1 locs1 ht hvm hp hB hz hk hS1 => ?_)
  obtain ⟨rfl, rfl⟩ := hp
  obtain ⟨hP1, hK1, hD1⟩ := hB
  rw [ht] at hP1
  obtain ⟨hP2, hD2⟩ := ez_join hP hD hk hF hP1 hD1
  exact kk H1 locs1 hP2 hD2 hS1
theorem lx_preT {b ci t : Nat} {r : vw_C} {fs As : List Value} (hP : va_P D vwCl (wr ++ wl) H) (hK : va_K D vwCl tys s) (hN : ez_N s) (hZ : va_Z RX3 "POWERS_OF_TEN" "[J" (.ref t) A s s.heap) (hT : va_T .long t 7 ez_pt A s s.heap) (hS : va_S A s.heap H locs) (q0 : Nat) (hc : vwCl[ci]? = some r) (he : wl[q0]? = some (b, .inr (ci, fs))) : PreV s H r.1 b (ez_Tc D tys (.ref b :: As) wl t) As :=
  ⟨ez_blindT, va_recv hK (ez_Pr hP) hc he, fun U hU hW => ⟨rfl, by rw [hU]; exact ez_Pr hP, va_K.moved hW.alike hK, hN.warm hW, by rw [hU]; exact ((hZ.kept (fun q h1 h2 => hS.2.1 q h1 h2)).narrow (fun _ h => h.elim)).moved hW.alike, by rw [hU]; exact ((hT.kept (fun q h1 h2 => hS.2.1 q h1 h2)).narrow (fun _ h => h.elim)).moved hW.alike⟩⟩
end LX
set_option maxHeartbeats 4000000 in
set_option maxRecDepth 100000 in
theorem lx_case0 {p : Program} {l : Launch} {e : Env} {s : State} {m : MethodId} {below : List Frame} {meth : Method} {c : Code} {b L : Nat} {xs : Nat → Int32} {D : va_G} {a a2 : Nat → Nat} {k k2 : Nat → ClassId} {t n : Nat} {Rel : Wd → Wd → Prop} (hops : OpsOK n Rel) (C0 : lx_C p s m meth c b L xs t) (hKc : va_K D vwCl (tC k) s) (hKm : va_K D vwCl (tM k2) s) (j cells slots : Nat) (hc : cells + 1 ≤ 600000) (hs : slots + 6 ≤ 7302250) (hL : L ≤ 2560) (hj : 5 * j + 5 ≤ L) (ls : Array Slot) (hl : lv_has ls 4 [(3, .int (nI (5 * j))), (2, .ref (a2 0)), (1, .ref (a 0)), (0, .ref b)]) (kk : ∀ (H : Heap) (locs : List Loc) (w x : Wd), va_P D vwCl (wC a k w ++ wM a2 k2 x) H → va_D (lx_A s) (wC a k w ++ wM a2 k2 x) → va_S (lx_A s) s.heap H locs → Rel w x → W p l e room_1 s m #[Value.ref b] below meth c H locs (cells + 1) (slots + 6) (lw_Z below #[Value.ref b] s) (F0 m 380 ls [])) (H : Heap) (locs : List Loc) (w x : Wd) : va_P D vwCl (wC a k w ++ wM a2 k2 x) H → va_D (lx_A s) (wC a k w ++ wM a2 k2 x) → va_S (lx_A s) s.heap H locs → Rel w x → W p l e room_1 s m #[Value.ref b] below meth c H locs (cells) (slots) (lw_Z below #[Value.ref b] s) (F0 m 100 ls []) := by
  intro hP hD hS hR
  obtain ⟨hx, hb, hr, hml, hown, hw, hN, hX, hbl, hlk, hZ, hT⟩ := C0
  have hbA : ¬ lx_A s b := fun h => absurd hbl (Nat.not_lt.mpr h)
  obtain ⟨z, y, e1, e2, he, hR⟩ := hops.1 w x hR (xs (nI (5 * j) + 1).toNatClampNeg)
  refine lv_aload_n (pc := 100) hx hb dL_law_100 rfl (lv_at hl 2 rfl) ?_
  refine lv_aload_n (pc := 101) hx hb dL_law_101 rfl (lv_at hl 3 rfl) ?_
  refine lv_iload_n (pc := 102) hx hb dL_law_102 rfl (lv_at hl 0 rfl) ?_
  refine lv_iconst (v := 1) (pc := 103) hx hb dL_law_103 rfl ?_
  refine lv_iadd (pc := 104) hx hb dL_law_104 ?_
  refine va_sld (A := lx_A s) (pc := 105) hx hb hX hbl hbA hS (lx_in 1 hj hL (by decide)) dL_law_105 ?_
  replace hP := ez_Psw hP
  replace hD := ez_Dsw hD
  refine ez_callI (r := z.1) (pc := 106) (A := lx_A s) (wr := (wM a2 k2 x)) (wl := (wC a k w)) (wl' := (wC a k z.2)) (va_runV (g := F0 m 106 ls [.int (xs (nI (5 * j) + 1).toNatClampNeg), .ref (a 0)]) (As := [.int (xs (nI (5 * j) + 1).toNatClampNeg)]) (rest := []) ⟨hx, hb, hml, hown, hw⟩ (kX3_type l D a k n (xs (nI (5 * j) + 1).toNatClampNeg) w z e1 H.size) (cwV 1 hw (ez_gV mw103 mw104 mw105 mw1 mw106) rfl rfl rfl (by decide +kernel) ⟨Nat.le_of_ble_eq_true rfl, Nat.le_of_ble_eq_true rfl⟩) (ez_preV (wr := (wM a2 k2 x)) (wl := (wC a k w)) hP hD hKc hN 0 rfl rfl) rfl rfl hl.1 rfl (lv_room (Nat.le_of_ble_eq_true rfl)) dL_law_106 ⟨Nat.le_of_lt hc, Nat.le_trans (Nat.le_add_right _ 6) hs⟩) hP hD hS (fun _ h => h) (fun H locs hP hD hS => ?_)
  replace hP := ez_Psw hP
  replace hD := ez_Dsw hD
  refine lv_aload_n (pc := 109) hx hb dL_law_109 rfl (lv_at hl 1 rfl) ?_
  refine lv_aload_n (pc := 110) hx hb dL_law_110 rfl (lv_at hl 3 rfl) ?_
  refine lv_iload_n (pc := 111) hx hb dL_law_111 rfl (lv_at hl 0 rfl) ?_
  refine lv_iconst (v := 1) (pc := 112) hx hb dL_law_112 rfl ?_
  refine lv_iadd (pc := 113) hx hb dL_law_113 ?_
  refine va_sld (A := lx_A s) (pc := 114) hx hb hX hbl hbA hS (lx_in 1 hj hL (by decide)) dL_law_114 ?_
  refine ez_callI (r := y.1) (pc := 115) (A := lx_A s) (wr := (wC a k z.2)) (wl := (wM a2 k2 x)) (wl' := (wM a2 k2 y.2)) (va_runV (g := F0 m 115 ls [.int (xs (nI (5 * j) + 1).toNatClampNeg), .ref (a2 0), .int z.1]) (As := [.int (xs (nI (5 * j) + 1).toNatClampNeg)]) (rest := [.int z.1]) ⟨hx, hb, hml, hown, hw⟩ (kX4_type l D a2 k2 n (xs (nI (5 * j) + 1).toNatClampNeg) x y e2 H.size) (cwV 1 hw (ez_gV mw488 mw489 mw490 mw4 mw491) rfl rfl rfl (by decide +kernel) ⟨Nat.le_of_ble_eq_true rfl, Nat.le_of_ble_eq_true rfl⟩) (ez_preV (wr := (wC a k z.2)) (wl := (wM a2 k2 x)) hP hD hKm hN 0 rfl rfl) rfl rfl hl.1 rfl (lv_room (Nat.le_of_ble_eq_true rfl)) dL_law_115 ⟨Nat.le_of_lt hc, Nat.le_trans (Nat.le_add_right _ 6) hs⟩) hP hD hS (fun _ h => h) (fun H locs hP hD hS => ?_)
  refine lv_icmp_eq (pc := 118) (tgt := 380) hx hb dL_law_118 (by decide) (fun _ => ?_) (fun hq => absurd he hq)
  refine W.widen (k := cells + 1) (n := slots + 6) (Nat.le_add_right _ _) (Nat.le_add_right _ _) ?_
  exact kk H locs z.2 y.2 hP hD hS hR
set_option maxHeartbeats 4000000 in
set_option maxRecDepth 100000 in
theorem lx_case1 {p : Program} {l : Launch} {e : Env} {s : State} {m : MethodId} {below : List Frame} {meth : Method} {c : Code} {b L : Nat} {xs : Nat → Int32} {D : va_G} {a a2 : Nat → Nat} {k k2 : Nat → ClassId} {t n : Nat} {Rel : Wd → Wd → Prop} (hops : OpsOK n Rel) (C0 : lx_C p s m meth c b L xs t) (hKc : va_K D vwCl (tC k) s) (hKm : va_K D vwCl (tM k2) s) (j cells slots : Nat) (hc : cells + 1 ≤ 600000) (hs : slots + 6 ≤ 7302250) (hL : L ≤ 2560) (hj : 5 * j + 5 ≤ L) (ls : Array Slot) (hl : lv_has ls 4 [(3, .int (nI (5 * j))), (2, .ref (a2 0)), (1, .ref (a 0)), (0, .ref b)]) (kk : ∀ (H : Heap) (locs : List Loc) (w x : Wd), va_P D vwCl (wC a k w ++ wM a2 k2 x) H → va_D (lx_A s) (wC a k w ++ wM a2 k2 x) → va_S (lx_A s) s.heap H locs → Rel w x → W p l e room_1 s m #[Value.ref b] below meth c H locs (cells + 1) (slots + 6) (lw_Z below #[Value.ref b] s) (F0 m 380 ls [])) (H : Heap) (locs : List Loc) (w x : Wd) : va_P D vwCl (wC a k w ++ wM a2 k2 x) H → va_D (lx_A s) (wC a k w ++ wM a2 k2 x) → va_S (lx_A s) s.heap H locs → Rel w x → W p l e room_1 s m #[Value.ref b] below meth c H locs (cells) (slots) (lw_Z below #[Value.ref b] s) (F0 m 123 ls []) := by
  intro hP hD hS hR
  obtain ⟨hx, hb, hr, hml, hown, hw, hN, hX, hbl, hlk, hZ, hT⟩ := C0
  have hbA : ¬ lx_A s b := fun h => absurd hbl (Nat.not_lt.mpr h)
  obtain ⟨z, y, e1, e2, he, hR⟩ := hops.2.1 w x hR
  refine lv_aload_n (pc := 123) hx hb dL_law_123 rfl (lv_at hl 2 rfl) ?_
  replace hP := ez_Psw hP
  replace hD := ez_Dsw hD
  refine ez_callI (r := z.1) (pc := 124) (A := lx_A s) (wr := (wM a2 k2 x)) (wl := (wC a k w)) (wl' := (wC a k z.2)) (va_runV (g := F0 m 124 ls [.ref (a 0)]) (As := []) (rest := []) ⟨hx, hb, hml, hown, hw⟩ (kX3_erase l D a k n  w z e1 H.size) (cwV 0 hw (ez_gV mw116 mw117 mw118 mw1 mw119) rfl rfl rfl (by decide +kernel) ⟨Nat.le_of_ble_eq_true rfl, Nat.le_of_ble_eq_true rfl⟩) (ez_preV (wr := (wM a2 k2 x)) (wl := (wC a k w)) hP hD hKc hN 0 rfl rfl) rfl rfl hl.1 rfl (lv_room (Nat.le_of_ble_eq_true rfl)) dL_law_124 ⟨Nat.le_of_lt hc, Nat.le_trans (Nat.le_add_right _ 6) hs⟩) hP hD hS (fun _ h => h) (fun H locs hP hD hS => ?_)
  replace hP := ez_Psw hP
  replace hD := ez_Dsw hD
  refine lv_aload_n (pc := 127) hx hb dL_law_127 rfl (lv_at hl 1 rfl) ?_
  refine ez_callI (r := y.1) (pc := 128) (A := lx_A s) (wr := (wC a k z.2)) (wl := (wM a2 k2 x)) (wl' := (wM a2 k2 y.2)) (va_runV (g := F0 m 128 ls [.ref (a2 0), .int z.1]) (As := []) (rest := [.int z.1]) ⟨hx, hb, hml, hown, hw⟩ (kX4_erase l D a2 k2 n  x y e2 H.size) (cwV 0 hw (ez_gV mw501 mw502 mw503 mw4 mw504) rfl rfl rfl (by decide +kernel) ⟨Nat.le_of_ble_eq_true rfl, Nat.le_of_ble_eq_true rfl⟩) (ez_preV (wr := (wC a k z.2)) (wl := (wM a2 k2 x)) hP hD hKm hN 0 rfl rfl) rfl rfl hl.1 rfl (lv_room (Nat.le_of_ble_eq_true rfl)) dL_law_128 ⟨Nat.le_of_lt hc, Nat.le_trans (Nat.le_add_right _ 6) hs⟩) hP hD hS (fun _ h => h) (fun H locs hP hD hS => ?_)
  refine lv_icmp_eq (pc := 131) (tgt := 380) hx hb dL_law_131 (by decide) (fun _ => ?_) (fun hq => absurd he hq)
  refine W.widen (k := cells + 1) (n := slots + 6) (Nat.le_add_right _ _) (Nat.le_add_right _ _) ?_
  exact kk H locs z.2 y.2 hP hD hS hR
set_option maxHeartbeats 4000000 in
set_option maxRecDepth 100000 in
theorem lx_case2 {p : Program} {l : Launch} {e : Env} {s : State} {m : MethodId} {below : List Frame} {meth : Method} {c : Code} {b L : Nat} {xs : Nat → Int32} {D : va_G} {a a2 : Nat → Nat} {k k2 : Nat → ClassId} {t n : Nat} {Rel : Wd → Wd → Prop} (hops : OpsOK n Rel) (C0 : lx_C p s m meth c b L xs t) (hKc : va_K D vwCl (tC k) s) (hKm : va_K D vwCl (tM k2) s) (j cells slots : Nat) (hc : cells + 1 ≤ 600000) (hs : slots + 6 ≤ 7302250) (hL : L ≤ 2560) (hj : 5 * j + 5 ≤ L) (ls : Array Slot) (hl : lv_has ls 4 [(3, .int (nI (5 * j))), (2, .ref (a2 0)), (1, .ref (a 0)), (0, .ref b)]) (kk : ∀ (H : Heap) (locs : List Loc) (w x : Wd), va_P D vwCl (wC a k w ++ wM a2 k2 x) H → va_D (lx_A s) (wC a k w ++ wM a2 k2 x) → va_S (lx_A s) s.heap H locs → Rel w x → W p l e room_1 s m #[Value.ref b] below meth c H locs (cells + 1) (slots + 6) (lw_Z below #[Value.ref b] s) (F0 m 380 ls [])) (H : Heap) (locs : List Loc) (w x : Wd) : va_P D vwCl (wC a k w ++ wM a2 k2 x) H → va_D (lx_A s) (wC a k w ++ wM a2 k2 x) → va_S (lx_A s) s.heap H locs → Rel w x → W p l e room_1 s m #[Value.ref b] below meth c H locs (cells) (slots) (lw_Z below #[Value.ref b] s) (F0 m 136 ls []) := by
  intro hP hD hS hR
  obtain ⟨hx, hb, hr, hml, hown, hw, hN, hX, hbl, hlk, hZ, hT⟩ := C0
  have hbA : ¬ lx_A s b := fun h => absurd hbl (Nat.not_lt.mpr h)
  obtain ⟨z, y, e1, e2, he⟩ := hops.2.2.1 w x hR
  refine lv_aload_n (pc := 136) hx hb dL_law_136 rfl (lv_at hl 2 rfl) ?_
  have hPc := ez_Psw hP
  refine ez_croI (r := z) (pc := 137) (va_runV (g := F0 m 137 ls [.ref (a 0)]) (As := []) (rest := []) ⟨hx, hb, hml, hown, hw⟩ (kX3_length l D a k n  w z e1) (cwV 0 hw (ez_gV mw120 mw121 mw122 mw1 mw123) rfl rfl rfl (by decide +kernel) ⟨Nat.le_of_ble_eq_true rfl, Nat.le_of_ble_eq_true rfl⟩) (ez_preRV (wr := (wM a2 k2 x)) (wl := (wC a k w)) hPc hKc hN 0 rfl rfl) rfl rfl hl.1 rfl (lv_room (Nat.le_of_ble_eq_true rfl)) dL_law_137 ⟨Nat.le_of_lt hc, Nat.le_trans (Nat.le_add_right _ 6) hs⟩) ?_
  refine lv_aload_n (pc := 140) hx hb dL_law_140 rfl (lv_at hl 1 rfl) ?_
  refine ez_croI (r := y) (pc := 141) (va_runV (g := F0 m 141 ls [.ref (a2 0), .int z]) (As := []) (rest := [.int z]) ⟨hx, hb, hml, hown, hw⟩ (kX4_length l D a2 k2 n  x y e2) (cwV 0 hw (ez_gV mw505 mw506 mw507 mw4 mw508) rfl rfl rfl (by decide +kernel) ⟨Nat.le_of_ble_eq_true rfl, Nat.le_of_ble_eq_true rfl⟩) (ez_preRV (wr := (wC a k w)) (wl := (wM a2 k2 x)) hP hKm hN 0 rfl rfl) rfl rfl hl.1 rfl (lv_room (Nat.le_of_ble_eq_true rfl)) dL_law_141 ⟨Nat.le_of_lt hc, Nat.le_trans (Nat.le_add_right _ 6) hs⟩) ?_
  refine lv_icmp_eq (pc := 144) (tgt := 380) hx hb dL_law_144 (by decide) (fun _ => ?_) (fun hq => absurd he hq)
  refine W.widen (k := cells + 1) (n := slots + 6) (Nat.le_add_right _ _) (Nat.le_add_right _ _) ?_
  exact kk H locs w x hP hD hS hR
set_option maxHeartbeats 4000000 in
set_option maxRecDepth 100000 in
theorem lx_case3 {p : Program} {l : Launch} {e : Env} {s : State} {m : MethodId} {below : List Frame} {meth : Method} {c : Code} {b L : Nat} {xs : Nat → Int32} {D : va_G} {a a2 : Nat → Nat} {k k2 : Nat → ClassId} {t n : Nat} {Rel : Wd → Wd → Prop} (hops : OpsOK n Rel) (C0 : lx_C p s m meth c b L xs t) (hKc : va_K D vwCl (tC k) s) (hKm : va_K D vwCl (tM k2) s) (j cells slots : Nat) (hc : cells + 1 ≤ 600000) (hs : slots + 6 ≤ 7302250) (hL : L ≤ 2560) (hj : 5 * j + 5 ≤ L) (ls : Array Slot) (hl : lv_has ls 4 [(3, .int (nI (5 * j))), (2, .ref (a2 0)), (1, .ref (a 0)), (0, .ref b)]) (kk : ∀ (H : Heap) (locs : List Loc) (w x : Wd), va_P D vwCl (wC a k w ++ wM a2 k2 x) H → va_D (lx_A s) (wC a k w ++ wM a2 k2 x) → va_S (lx_A s) s.heap H locs → Rel w x → W p l e room_1 s m #[Value.ref b] below meth c H locs (cells + 1) (slots + 6) (lw_Z below #[Value.ref b] s) (F0 m 380 ls [])) (H : Heap) (locs : List Loc) (w x : Wd) : va_P D vwCl (wC a k w ++ wM a2 k2 x) H → va_D (lx_A s) (wC a k w ++ wM a2 k2 x) → va_S (lx_A s) s.heap H locs → Rel w x → W p l e room_1 s m #[Value.ref b] below meth c H locs (cells) (slots) (lw_Z below #[Value.ref b] s) (F0 m 149 ls []) := by
  intro hP hD hS hR
  obtain ⟨hx, hb, hr, hml, hown, hw, hN, hX, hbl, hlk, hZ, hT⟩ := C0
  have hbA : ¬ lx_A s b := fun h => absurd hbl (Nat.not_lt.mpr h)
  obtain ⟨z, y, e1, e2, he, hR⟩ := hops.2.2.2.1 w x hR (xs (nI (5 * j) + 1).toNatClampNeg)
  refine lv_aload_n (pc := 149) hx hb dL_law_149 rfl (lv_at hl 2 rfl) ?_
  refine lv_aload_n (pc := 150) hx hb dL_law_150 rfl (lv_at hl 3 rfl) ?_
  refine lv_iload_n (pc := 151) hx hb dL_law_151 rfl (lv_at hl 0 rfl) ?_
  refine lv_iconst (v := 1) (pc := 152) hx hb dL_law_152 rfl ?_
  refine lv_iadd (pc := 153) hx hb dL_law_153 ?_
  refine va_sld (A := lx_A s) (pc := 154) hx hb hX hbl hbA hS (lx_in 1 hj hL (by decide)) dL_law_154 ?_
  replace hP := ez_Psw hP
  replace hD := ez_Dsw hD
  refine lx_callD (r := z.1) (pc := 155) (A := lx_A s) (wr := (wM a2 k2 x)) (wl := (wC a k w)) (wl' := (wC a k z.2)) (va_runV (g := F0 m 155 ls [.int (xs (nI (5 * j) + 1).toNatClampNeg), .ref (a 0)]) (As := [.int (xs (nI (5 * j) + 1).toNatClampNeg)]) (rest := []) ⟨hx, hb, hml, hown, hw⟩ (kX3_define l D a k n (xs (nI (5 * j) + 1).toNatClampNeg) w z e1 H.size) (cwV 1 hw (ez_gV mw124 mw125 mw126 mw1 mw127) rfl rfl rfl (by decide +kernel) ⟨Nat.le_of_ble_eq_true rfl, Nat.le_of_ble_eq_true rfl⟩) (ez_preV (wr := (wM a2 k2 x)) (wl := (wC a k w)) hP hD hKc hN 0 rfl rfl) rfl rfl hl.1 rfl (lv_room (Nat.le_of_ble_eq_true rfl)) dL_law_155 ⟨hc, hs⟩) hP hD hS (fun _ h => h) (fun H locs hP hD hS => ?_)
  replace hP := ez_Psw hP
  replace hD := ez_Dsw hD
  refine lv_aload_n (pc := 158) hx hb dL_law_158 rfl (lv_at hl 1 rfl) ?_
  refine lv_aload_n (pc := 159) hx hb dL_law_159 rfl (lv_at hl 3 rfl) ?_
  refine lv_iload_n (pc := 160) hx hb dL_law_160 rfl (lv_at hl 0 rfl) ?_
  refine lv_iconst (v := 1) (pc := 161) hx hb dL_law_161 rfl ?_
  refine lv_iadd (pc := 162) hx hb dL_law_162 ?_
  refine va_sld (A := lx_A s) (pc := 163) hx hb hX hbl hbA hS (lx_in 1 hj hL (by decide)) dL_law_163 ?_
  refine ez_callI (r := y.1) (pc := 164) (A := lx_A s) (wr := (wC a k z.2)) (wl := (wM a2 k2 x)) (wl' := (wM a2 k2 y.2)) (va_runV (g := F0 m 164 ls [.int (xs (nI (5 * j) + 1).toNatClampNeg), .ref (a2 0), .int z.1]) (As := [.int (xs (nI (5 * j) + 1).toNatClampNeg)]) (rest := [.int z.1]) ⟨hx, hb, hml, hown, hw⟩ (kX4_define l D a2 k2 n (xs (nI (5 * j) + 1).toNatClampNeg) x y e2 H.size) (cwV 1 hw (ez_gV mw509 mw510 mw511 mw4 mw512) rfl rfl rfl (by decide +kernel) ⟨Nat.le_of_ble_eq_true rfl, Nat.le_of_ble_eq_true rfl⟩) (ez_preV (wr := (wC a k z.2)) (wl := (wM a2 k2 x)) hP hD hKm hN 0 rfl rfl) rfl rfl hl.1 rfl (lv_room (Nat.le_of_ble_eq_true rfl)) dL_law_164 ⟨hc, hs⟩) hP hD hS (fun _ h => h) (fun H locs hP hD hS => ?_)
  refine lv_icmp_eq (pc := 167) (tgt := 380) hx hb dL_law_167 (by decide) (fun _ => ?_) (fun hq => absurd he hq)
  exact kk H locs z.2 y.2 hP hD hS hR
set_option maxHeartbeats 4000000 in
set_option maxRecDepth 100000 in
theorem lx_case4 {p : Program} {l : Launch} {e : Env} {s : State} {m : MethodId} {below : List Frame} {meth : Method} {c : Code} {b L : Nat} {xs : Nat → Int32} {D : va_G} {a a2 : Nat → Nat} {k k2 : Nat → ClassId} {t n : Nat} {Rel : Wd → Wd → Prop} (hops : OpsOK n Rel) (C0 : lx_C p s m meth c b L xs t) (hKc : va_K D vwCl (tC k) s) (hKm : va_K D vwCl (tM k2) s) (j cells slots : Nat) (hc : cells + 1 ≤ 600000) (hs : slots + 6 ≤ 7302250) (hL : L ≤ 2560) (hj : 5 * j + 5 ≤ L) (ls : Array Slot) (hl : lv_has ls 4 [(3, .int (nI (5 * j))), (2, .ref (a2 0)), (1, .ref (a 0)), (0, .ref b)]) (kk : ∀ (H : Heap) (locs : List Loc) (w x : Wd), va_P D vwCl (wC a k w ++ wM a2 k2 x) H → va_D (lx_A s) (wC a k w ++ wM a2 k2 x) → va_S (lx_A s) s.heap H locs → Rel w x → W p l e room_1 s m #[Value.ref b] below meth c H locs (cells + 1) (slots + 6) (lw_Z below #[Value.ref b] s) (F0 m 380 ls [])) (H : Heap) (locs : List Loc) (w x : Wd) : va_P D vwCl (wC a k w ++ wM a2 k2 x) H → va_D (lx_A s) (wC a k w ++ wM a2 k2 x) → va_S (lx_A s) s.heap H locs → Rel w x → W p l e room_1 s m #[Value.ref b] below meth c H locs (cells) (slots) (lw_Z below #[Value.ref b] s) (F0 m 172 ls []) := by
  intro hP hD hS hR
  obtain ⟨hx, hb, hr, hml, hown, hw, hN, hX, hbl, hlk, hZ, hT⟩ := C0
  have hbA : ¬ lx_A s b := fun h => absurd hbl (Nat.not_lt.mpr h)
  obtain ⟨z, y, e1, e2, hR⟩ := hops.2.2.2.2.1 w x hR
  refine lv_aload_n (pc := 172) hx hb dL_law_172 rfl (lv_at hl 2 rfl) ?_
  replace hP := ez_Psw hP
  replace hD := ez_Dsw hD
  refine ez_callV (pc := 173) (A := lx_A s) (wr := (wM a2 k2 x)) (wl := (wC a k w)) (wl' := (wC a k z)) (va_runV (g := F0 m 173 ls [.ref (a 0)]) (As := []) (rest := []) ⟨hx, hb, hml, hown, hw⟩ (kX3_clear l D a k n  w z e1 H.size) (cwV 0 hw (ez_gV mw235 mw236 mw237 mw1 mw238) rfl rfl rfl (by decide +kernel) ⟨Nat.le_of_ble_eq_true rfl, Nat.le_of_ble_eq_true rfl⟩) (ez_preV (wr := (wM a2 k2 x)) (wl := (wC a k w)) hP hD hKc hN 0 rfl rfl) rfl rfl hl.1 rfl (lv_room (Nat.le_of_ble_eq_true rfl)) dL_law_173 ⟨Nat.le_of_lt hc, Nat.le_trans (Nat.le_add_right _ 6) hs⟩) hP hD hS (fun _ h => h) (fun H locs hP hD hS => ?_)
  replace hP := ez_Psw hP
  replace hD := ez_Dsw hD
  refine lv_aload_n (pc := 176) hx hb dL_law_176 rfl (lv_at hl 1 rfl) ?_
  refine ez_callV (pc := 177) (A := lx_A s) (wr := (wC a k z)) (wl := (wM a2 k2 x)) (wl' := (wM a2 k2 y)) (va_runV (g := F0 m 177 ls [.ref (a2 0)]) (As := []) (rest := []) ⟨hx, hb, hml, hown, hw⟩ (kX4_clear l D a2 k2 n  x y e2 H.size) (cwV 0 hw (ez_gV mw559 mw560 mw561 mw4 mw562) rfl rfl rfl (by decide +kernel) ⟨Nat.le_of_ble_eq_true rfl, Nat.le_of_ble_eq_true rfl⟩) (ez_preV (wr := (wC a k z)) (wl := (wM a2 k2 x)) hP hD hKm hN 0 rfl rfl) rfl rfl hl.1 rfl (lv_room (Nat.le_of_ble_eq_true rfl)) dL_law_177 ⟨Nat.le_of_lt hc, Nat.le_trans (Nat.le_add_right _ 6) hs⟩) hP hD hS (fun _ h => h) (fun H locs hP hD hS => ?_)
  refine lv_goto (pc := 180) (tgt := 380) hx hb dL_law_180 (by decide) ?_
  refine W.widen (k := cells + 1) (n := slots + 6) (Nat.le_add_right _ _) (Nat.le_add_right _ _) ?_
  exact kk H locs z y hP hD hS hR
set_option maxHeartbeats 4000000 in
set_option maxRecDepth 100000 in
theorem lx_case5 {p : Program} {l : Launch} {e : Env} {s : State} {m : MethodId} {below : List Frame} {meth : Method} {c : Code} {b L : Nat} {xs : Nat → Int32} {D : va_G} {a a2 : Nat → Nat} {k k2 : Nat → ClassId} {t n : Nat} {Rel : Wd → Wd → Prop} (hops : OpsOK n Rel) (C0 : lx_C p s m meth c b L xs t) (hKc : va_K D vwCl (tC k) s) (hKm : va_K D vwCl (tM k2) s) (j cells slots : Nat) (hc : cells + 1 ≤ 600000) (hs : slots + 6 ≤ 7302250) (hL : L ≤ 2560) (hj : 5 * j + 5 ≤ L) (ls : Array Slot) (hl : lv_has ls 4 [(3, .int (nI (5 * j))), (2, .ref (a2 0)), (1, .ref (a 0)), (0, .ref b)]) (kk : ∀ (H : Heap) (locs : List Loc) (w x : Wd), va_P D vwCl (wC a k w ++ wM a2 k2 x) H → va_D (lx_A s) (wC a k w ++ wM a2 k2 x) → va_S (lx_A s) s.heap H locs → Rel w x → W p l e room_1 s m #[Value.ref b] below meth c H locs (cells + 1) (slots + 6) (lw_Z below #[Value.ref b] s) (F0 m 380 ls [])) (H : Heap) (locs : List Loc) (w x : Wd) : va_P D vwCl (wC a k w ++ wM a2 k2 x) H → va_D (lx_A s) (wC a k w ++ wM a2 k2 x) → va_S (lx_A s) s.heap H locs → Rel w x → W p l e room_1 s m #[Value.ref b] below meth c H locs (cells) (slots) (lw_Z below #[Value.ref b] s) (F0 m 183 ls []) := by
  intro hP hD hS hR
  obtain ⟨hx, hb, hr, hml, hown, hw, hN, hX, hbl, hlk, hZ, hT⟩ := C0
  have hbA : ¬ lx_A s b := fun h => absurd hbl (Nat.not_lt.mpr h)
  obtain ⟨z, y, e1, e2, he, hR⟩ := hops.2.2.2.2.2.1 w x hR (xs (nI (5 * j) + 1).toNatClampNeg)
  refine lv_aload_n (pc := 183) hx hb dL_law_183 rfl (lv_at hl 2 rfl) ?_
  refine lv_aload_n (pc := 184) hx hb dL_law_184 rfl (lv_at hl 3 rfl) ?_
  refine lv_iload_n (pc := 185) hx hb dL_law_185 rfl (lv_at hl 0 rfl) ?_
  refine lv_iconst (v := 1) (pc := 186) hx hb dL_law_186 rfl ?_
  refine lv_iadd (pc := 187) hx hb dL_law_187 ?_
  refine va_sld (A := lx_A s) (pc := 188) hx hb hX hbl hbA hS (lx_in 1 hj hL (by decide)) dL_law_188 ?_
  replace hP := ez_Psw hP
  replace hD := ez_Dsw hD
  refine ez_callI (r := z.1) (pc := 189) (A := lx_A s) (wr := (wM a2 k2 x)) (wl := (wC a k w)) (wl' := (wC a k z.2)) (va_runV (g := F0 m 189 ls [.int (xs (nI (5 * j) + 1).toNatClampNeg), .ref (a 0)]) (As := [.int (xs (nI (5 * j) + 1).toNatClampNeg)]) (rest := []) ⟨hx, hb, hml, hown, hw⟩ (kX3_parts l D a k n (xs (nI (5 * j) + 1).toNatClampNeg) w z e1 H.size) (cwV 1 hw (ez_gV mw239 mw240 mw241 mw1 mw242) rfl rfl rfl (by decide +kernel) ⟨Nat.le_of_ble_eq_true rfl, Nat.le_of_ble_eq_true rfl⟩) (ez_preV (wr := (wM a2 k2 x)) (wl := (wC a k w)) hP hD hKc hN 0 rfl rfl) rfl rfl hl.1 rfl (lv_room (Nat.le_of_ble_eq_true rfl)) dL_law_189 ⟨Nat.le_of_lt hc, Nat.le_trans (Nat.le_add_right _ 6) hs⟩) hP hD hS (fun _ h => h) (fun H locs hP hD hS => ?_)
  replace hP := ez_Psw hP
  replace hD := ez_Dsw hD
  refine lv_aload_n (pc := 192) hx hb dL_law_192 rfl (lv_at hl 1 rfl) ?_
  refine lv_aload_n (pc := 193) hx hb dL_law_193 rfl (lv_at hl 3 rfl) ?_
  refine lv_iload_n (pc := 194) hx hb dL_law_194 rfl (lv_at hl 0 rfl) ?_
  refine lv_iconst (v := 1) (pc := 195) hx hb dL_law_195 rfl ?_
  refine lv_iadd (pc := 196) hx hb dL_law_196 ?_
  refine va_sld (A := lx_A s) (pc := 197) hx hb hX hbl hbA hS (lx_in 1 hj hL (by decide)) dL_law_197 ?_
  refine ez_callI (r := y.1) (pc := 198) (A := lx_A s) (wr := (wC a k z.2)) (wl := (wM a2 k2 x)) (wl' := (wM a2 k2 y.2)) (va_runV (g := F0 m 198 ls [.int (xs (nI (5 * j) + 1).toNatClampNeg), .ref (a2 0), .int z.1]) (As := [.int (xs (nI (5 * j) + 1).toNatClampNeg)]) (rest := [.int z.1]) ⟨hx, hb, hml, hown, hw⟩ (kX4_parts l D a2 k2 n (xs (nI (5 * j) + 1).toNatClampNeg) x y e2 H.size) (cwV 1 hw (ez_gV mw563 mw564 mw565 mw4 mw566) rfl rfl rfl (by decide +kernel) ⟨Nat.le_of_ble_eq_true rfl, Nat.le_of_ble_eq_true rfl⟩) (ez_preV (wr := (wC a k z.2)) (wl := (wM a2 k2 x)) hP hD hKm hN 0 rfl rfl) rfl rfl hl.1 rfl (lv_room (Nat.le_of_ble_eq_true rfl)) dL_law_198 ⟨Nat.le_of_lt hc, Nat.le_trans (Nat.le_add_right _ 6) hs⟩) hP hD hS (fun _ h => h) (fun H locs hP hD hS => ?_)
  refine lv_icmp_eq (pc := 201) (tgt := 380) hx hb dL_law_201 (by decide) (fun _ => ?_) (fun hq => absurd he hq)
  refine W.widen (k := cells + 1) (n := slots + 6) (Nat.le_add_right _ _) (Nat.le_add_right _ _) ?_
  exact kk H locs z.2 y.2 hP hD hS hR
set_option maxHeartbeats 4000000 in
set_option maxRecDepth 100000 in
theorem lx_case6 {p : Program} {l : Launch} {e : Env} {s : State} {m : MethodId} {below : List Frame} {meth : Method} {c : Code} {b L : Nat} {xs : Nat → Int32} {D : va_G} {a a2 : Nat → Nat} {k k2 : Nat → ClassId} {t n : Nat} {Rel : Wd → Wd → Prop} (hops : OpsOK n Rel) (C0 : lx_C p s m meth c b L xs t) (hKc : va_K D vwCl (tC k) s) (hKm : va_K D vwCl (tM k2) s) (j cells slots : Nat) (hc : cells + 1 ≤ 600000) (hs : slots + 6 ≤ 7302250) (hL : L ≤ 2560) (hj : 5 * j + 5 ≤ L) (ls : Array Slot) (hl : lv_has ls 4 [(3, .int (nI (5 * j))), (2, .ref (a2 0)), (1, .ref (a 0)), (0, .ref b)]) (kk : ∀ (H : Heap) (locs : List Loc) (w x : Wd), va_P D vwCl (wC a k w ++ wM a2 k2 x) H → va_D (lx_A s) (wC a k w ++ wM a2 k2 x) → va_S (lx_A s) s.heap H locs → Rel w x → W p l e room_1 s m #[Value.ref b] below meth c H locs (cells + 1) (slots + 6) (lw_Z below #[Value.ref b] s) (F0 m 380 ls [])) (H : Heap) (locs : List Loc) (w x : Wd) : va_P D vwCl (wC a k w ++ wM a2 k2 x) H → va_D (lx_A s) (wC a k w ++ wM a2 k2 x) → va_S (lx_A s) s.heap H locs → Rel w x → W p l e room_1 s m #[Value.ref b] below meth c H locs (cells) (slots) (lw_Z below #[Value.ref b] s) (F0 m 206 ls []) := by
  intro hP hD hS hR
  obtain ⟨hx, hb, hr, hml, hown, hw, hN, hX, hbl, hlk, hZ, hT⟩ := C0
  have hbA : ¬ lx_A s b := fun h => absurd hbl (Nat.not_lt.mpr h)
  obtain ⟨z, y, e1, e2, he, hR⟩ := hops.2.2.2.2.2.2.1 w x hR (xs (nI (5 * j) + 1).toNatClampNeg) (xs (nI (5 * j) + 2).toNatClampNeg) (xs (nI (5 * j) + 3).toNatClampNeg)
  refine lv_aload_n (pc := 206) hx hb dL_law_206 rfl (lv_at hl 2 rfl) ?_
  refine lv_aload_n (pc := 207) hx hb dL_law_207 rfl (lv_at hl 3 rfl) ?_
  refine lv_iload_n (pc := 208) hx hb dL_law_208 rfl (lv_at hl 0 rfl) ?_
  refine lv_iconst (v := 1) (pc := 209) hx hb dL_law_209 rfl ?_
  refine lv_iadd (pc := 210) hx hb dL_law_210 ?_
  refine va_sld (A := lx_A s) (pc := 211) hx hb hX hbl hbA hS (lx_in 1 hj hL (by decide)) dL_law_211 ?_
  refine lv_aload_n (pc := 212) hx hb dL_law_212 rfl (lv_at hl 3 rfl) ?_
  refine lv_iload_n (pc := 213) hx hb dL_law_213 rfl (lv_at hl 0 rfl) ?_
  refine lv_iconst (v := 2) (pc := 214) hx hb dL_law_214 rfl ?_
  refine lv_iadd (pc := 215) hx hb dL_law_215 ?_
  refine va_sld (A := lx_A s) (pc := 216) hx hb hX hbl hbA hS (lx_in 2 hj hL (by decide)) dL_law_216 ?_
  refine lv_aload_n (pc := 217) hx hb dL_law_217 rfl (lv_at hl 3 rfl) ?_
  refine lv_iload_n (pc := 218) hx hb dL_law_218 rfl (lv_at hl 0 rfl) ?_
  refine lv_iconst (v := 3) (pc := 219) hx hb dL_law_219 rfl ?_
  refine lv_iadd (pc := 220) hx hb dL_law_220 ?_
  refine va_sld (A := lx_A s) (pc := 221) hx hb hX hbl hbA hS (lx_in 3 hj hL (by decide)) dL_law_221 ?_
  replace hP := ez_Psw hP
  replace hD := ez_Dsw hD
  refine ez_callI (r := z.1) (pc := 222) (A := lx_A s) (wr := (wM a2 k2 x)) (wl := (wC a k w)) (wl' := (wC a k z.2)) (va_runV (g := F0 m 222 ls [.int (xs (nI (5 * j) + 3).toNatClampNeg), .int (xs (nI (5 * j) + 2).toNatClampNeg), .int (xs (nI (5 * j) + 1).toNatClampNeg), .ref (a 0)]) (As := [.int (xs (nI (5 * j) + 1).toNatClampNeg), .int (xs (nI (5 * j) + 2).toNatClampNeg), .int (xs (nI (5 * j) + 3).toNatClampNeg)]) (rest := []) ⟨hx, hb, hml, hown, hw⟩ (kX3_evaluate l D a k n (xs (nI (5 * j) + 1).toNatClampNeg) (xs (nI (5 * j) + 2).toNatClampNeg) (xs (nI (5 * j) + 3).toNatClampNeg) w z e1 H.size) (cwV 3 hw (ez_gV mw267 mw268 mw269 mw1 mw270) rfl rfl rfl (by decide +kernel) ⟨Nat.le_of_ble_eq_true rfl, Nat.le_of_ble_eq_true rfl⟩) (ez_preV (wr := (wM a2 k2 x)) (wl := (wC a k w)) hP hD hKc hN 0 rfl rfl) rfl rfl hl.1 rfl (lv_room (Nat.le_of_ble_eq_true rfl)) dL_law_222 ⟨Nat.le_of_lt hc, Nat.le_trans (Nat.le_add_right _ 6) hs⟩) hP hD hS (fun _ h => h) (fun H locs hP hD hS => ?_)
  replace hP := ez_Psw hP
  replace hD := ez_Dsw hD
  refine lv_aload_n (pc := 225) hx hb dL_law_225 rfl (lv_at hl 1 rfl) ?_
  refine lv_aload_n (pc := 226) hx hb dL_law_226 rfl (lv_at hl 3 rfl) ?_
  refine lv_iload_n (pc := 227) hx hb dL_law_227 rfl (lv_at hl 0 rfl) ?_
  refine lv_iconst (v := 1) (pc := 228) hx hb dL_law_228 rfl ?_
  refine lv_iadd (pc := 229) hx hb dL_law_229 ?_
  refine va_sld (A := lx_A s) (pc := 230) hx hb hX hbl hbA hS (lx_in 1 hj hL (by decide)) dL_law_230 ?_
  refine lv_aload_n (pc := 231) hx hb dL_law_231 rfl (lv_at hl 3 rfl) ?_
  refine lv_iload_n (pc := 232) hx hb dL_law_232 rfl (lv_at hl 0 rfl) ?_
  refine lv_iconst (v := 2) (pc := 233) hx hb dL_law_233 rfl ?_
  refine lv_iadd (pc := 234) hx hb dL_law_234 ?_
  refine va_sld (A := lx_A s) (pc := 235) hx hb hX hbl hbA hS (lx_in 2 hj hL (by decide)) dL_law_235 ?_
  refine lv_aload_n (pc := 236) hx hb dL_law_236 rfl (lv_at hl 3 rfl) ?_
  refine lv_iload_n (pc := 237) hx hb dL_law_237 rfl (lv_at hl 0 rfl) ?_
  refine lv_iconst (v := 3) (pc := 238) hx hb dL_law_238 rfl ?_
  refine lv_iadd (pc := 239) hx hb dL_law_239 ?_
  refine va_sld (A := lx_A s) (pc := 240) hx hb hX hbl hbA hS (lx_in 3 hj hL (by decide)) dL_law_240 ?_
  refine ez_callI (r := y.1) (pc := 241) (A := lx_A s) (wr := (wC a k z.2)) (wl := (wM a2 k2 x)) (wl' := (wM a2 k2 y.2)) (va_runV (g := F0 m 241 ls [.int (xs (nI (5 * j) + 3).toNatClampNeg), .int (xs (nI (5 * j) + 2).toNatClampNeg), .int (xs (nI (5 * j) + 1).toNatClampNeg), .ref (a2 0), .int z.1]) (As := [.int (xs (nI (5 * j) + 1).toNatClampNeg), .int (xs (nI (5 * j) + 2).toNatClampNeg), .int (xs (nI (5 * j) + 3).toNatClampNeg)]) (rest := [.int z.1]) ⟨hx, hb, hml, hown, hw⟩ (kX4_evaluate l D a2 k2 n (xs (nI (5 * j) + 1).toNatClampNeg) (xs (nI (5 * j) + 2).toNatClampNeg) (xs (nI (5 * j) + 3).toNatClampNeg) x y e2 H.size) (cwV 3 hw (ez_gV mw575 mw576 mw577 mw4 mw578) rfl rfl rfl (by decide +kernel) ⟨Nat.le_of_ble_eq_true rfl, Nat.le_of_ble_eq_true rfl⟩) (ez_preV (wr := (wC a k z.2)) (wl := (wM a2 k2 x)) hP hD hKm hN 0 rfl rfl) rfl rfl hl.1 rfl (lv_room (Nat.le_of_ble_eq_true rfl)) dL_law_241 ⟨Nat.le_of_lt hc, Nat.le_trans (Nat.le_add_right _ 6) hs⟩) hP hD hS (fun _ h => h) (fun H locs hP hD hS => ?_)
  refine lv_icmp_eq (pc := 244) (tgt := 380) hx hb dL_law_244 (by decide) (fun _ => ?_) (fun hq => absurd he hq)
  refine W.widen (k := cells + 1) (n := slots + 6) (Nat.le_add_right _ _) (Nat.le_add_right _ _) ?_
  exact kk H locs z.2 y.2 hP hD hS hR
set_option maxHeartbeats 4000000 in
set_option maxRecDepth 100000 in
theorem lx_case7 {p : Program} {l : Launch} {e : Env} {s : State} {m : MethodId} {below : List Frame} {meth : Method} {c : Code} {b L : Nat} {xs : Nat → Int32} {D : va_G} {a a2 : Nat → Nat} {k k2 : Nat → ClassId} {t n : Nat} {Rel : Wd → Wd → Prop} (hops : OpsOK n Rel) (C0 : lx_C p s m meth c b L xs t) (hKc : va_K D vwCl (tC k) s) (hKm : va_K D vwCl (tM k2) s) (j cells slots : Nat) (hc : cells + 1 ≤ 600000) (hs : slots + 6 ≤ 7302250) (hL : L ≤ 2560) (hj : 5 * j + 5 ≤ L) (ls : Array Slot) (hl : lv_has ls 4 [(3, .int (nI (5 * j))), (2, .ref (a2 0)), (1, .ref (a 0)), (0, .ref b)]) (kk : ∀ (H : Heap) (locs : List Loc) (w x : Wd), va_P D vwCl (wC a k w ++ wM a2 k2 x) H → va_D (lx_A s) (wC a k w ++ wM a2 k2 x) → va_S (lx_A s) s.heap H locs → Rel w x → W p l e room_1 s m #[Value.ref b] below meth c H locs (cells + 1) (slots + 6) (lw_Z below #[Value.ref b] s) (F0 m 380 ls [])) (H : Heap) (locs : List Loc) (w x : Wd) : va_P D vwCl (wC a k w ++ wM a2 k2 x) H → va_D (lx_A s) (wC a k w ++ wM a2 k2 x) → va_S (lx_A s) s.heap H locs → Rel w x → W p l e room_1 s m #[Value.ref b] below meth c H locs (cells) (slots) (lw_Z below #[Value.ref b] s) (F0 m 249 ls []) := by
  intro hP hD hS hR
  obtain ⟨hx, hb, hr, hml, hown, hw, hN, hX, hbl, hlk, hZ, hT⟩ := C0
  have hbA : ¬ lx_A s b := fun h => absurd hbl (Nat.not_lt.mpr h)
  obtain ⟨z, y, e1, e2, he, hR⟩ := hops.2.2.2.2.2.2.2.1 w x hR (xs (nI (5 * j) + 1).toNatClampNeg) (xs (nI (5 * j) + 2).toNatClampNeg) (xs (nI (5 * j) + 3).toNatClampNeg) (xs (nI (5 * j) + 4).toNatClampNeg)
  refine lv_aload_n (pc := 249) hx hb dL_law_249 rfl (lv_at hl 2 rfl) ?_
  refine lv_aload_n (pc := 250) hx hb dL_law_250 rfl (lv_at hl 3 rfl) ?_
  refine lv_iload_n (pc := 251) hx hb dL_law_251 rfl (lv_at hl 0 rfl) ?_
  refine lv_iconst (v := 1) (pc := 252) hx hb dL_law_252 rfl ?_
  refine lv_iadd (pc := 253) hx hb dL_law_253 ?_
  refine va_sld (A := lx_A s) (pc := 254) hx hb hX hbl hbA hS (lx_in 1 hj hL (by decide)) dL_law_254 ?_
  refine lv_aload_n (pc := 255) hx hb dL_law_255 rfl (lv_at hl 3 rfl) ?_
  refine lv_iload_n (pc := 256) hx hb dL_law_256 rfl (lv_at hl 0 rfl) ?_
  refine lv_iconst (v := 2) (pc := 257) hx hb dL_law_257 rfl ?_
  refine lv_iadd (pc := 258) hx hb dL_law_258 ?_
  refine va_sld (A := lx_A s) (pc := 259) hx hb hX hbl hbA hS (lx_in 2 hj hL (by decide)) dL_law_259 ?_
  refine lv_aload_n (pc := 260) hx hb dL_law_260 rfl (lv_at hl 3 rfl) ?_
  refine lv_iload_n (pc := 261) hx hb dL_law_261 rfl (lv_at hl 0 rfl) ?_
  refine lv_iconst (v := 3) (pc := 262) hx hb dL_law_262 rfl ?_
  refine lv_iadd (pc := 263) hx hb dL_law_263 ?_
  refine va_sld (A := lx_A s) (pc := 264) hx hb hX hbl hbA hS (lx_in 3 hj hL (by decide)) dL_law_264 ?_
  refine lv_aload_n (pc := 265) hx hb dL_law_265 rfl (lv_at hl 3 rfl) ?_
  refine lv_iload_n (pc := 266) hx hb dL_law_266 rfl (lv_at hl 0 rfl) ?_
  refine lv_iconst (v := 4) (pc := 267) hx hb dL_law_267 rfl ?_
  refine lv_iadd (pc := 268) hx hb dL_law_268 ?_
  refine va_sld (A := lx_A s) (pc := 269) hx hb hX hbl hbA hS (lx_in 4 hj hL (by decide)) dL_law_269 ?_
  replace hP := ez_Psw hP
  replace hD := ez_Dsw hD
  refine ez_callI (r := z.1) (pc := 270) (A := lx_A s) (wr := (wM a2 k2 x)) (wl := (wC a k w)) (wl' := (wC a k z.2)) (va_runV (g := F0 m 270 ls [.int (xs (nI (5 * j) + 4).toNatClampNeg), .int (xs (nI (5 * j) + 3).toNatClampNeg), .int (xs (nI (5 * j) + 2).toNatClampNeg), .int (xs (nI (5 * j) + 1).toNatClampNeg), .ref (a 0)]) (As := [.int (xs (nI (5 * j) + 1).toNatClampNeg), .int (xs (nI (5 * j) + 2).toNatClampNeg), .int (xs (nI (5 * j) + 3).toNatClampNeg), .int (xs (nI (5 * j) + 4).toNatClampNeg)]) (rest := []) ⟨hx, hb, hml, hown, hw⟩ (kX3_compare l D a k n (xs (nI (5 * j) + 1).toNatClampNeg) (xs (nI (5 * j) + 2).toNatClampNeg) (xs (nI (5 * j) + 3).toNatClampNeg) (xs (nI (5 * j) + 4).toNatClampNeg) w z e1 H.size) (cwV 4 hw (ez_gV mw395 mw396 mw397 mw1 mw398) rfl rfl rfl (by decide +kernel) ⟨Nat.le_of_ble_eq_true rfl, Nat.le_of_ble_eq_true rfl⟩) (ez_preV (wr := (wM a2 k2 x)) (wl := (wC a k w)) hP hD hKc hN 0 rfl rfl) rfl rfl hl.1 rfl (lv_room (Nat.le_of_ble_eq_true rfl)) dL_law_270 ⟨Nat.le_of_lt hc, Nat.le_trans (Nat.le_add_right _ 6) hs⟩) hP hD hS (fun _ h => h) (fun H locs hP hD hS => ?_)
  replace hP := ez_Psw hP
  replace hD := ez_Dsw hD
  refine lv_aload_n (pc := 273) hx hb dL_law_273 rfl (lv_at hl 1 rfl) ?_
  refine lv_aload_n (pc := 274) hx hb dL_law_274 rfl (lv_at hl 3 rfl) ?_
  refine lv_iload_n (pc := 275) hx hb dL_law_275 rfl (lv_at hl 0 rfl) ?_
  refine lv_iconst (v := 1) (pc := 276) hx hb dL_law_276 rfl ?_
  refine lv_iadd (pc := 277) hx hb dL_law_277 ?_
  refine va_sld (A := lx_A s) (pc := 278) hx hb hX hbl hbA hS (lx_in 1 hj hL (by decide)) dL_law_278 ?_
  refine lv_aload_n (pc := 279) hx hb dL_law_279 rfl (lv_at hl 3 rfl) ?_
  refine lv_iload_n (pc := 280) hx hb dL_law_280 rfl (lv_at hl 0 rfl) ?_
  refine lv_iconst (v := 2) (pc := 281) hx hb dL_law_281 rfl ?_
  refine lv_iadd (pc := 282) hx hb dL_law_282 ?_
  refine va_sld (A := lx_A s) (pc := 283) hx hb hX hbl hbA hS (lx_in 2 hj hL (by decide)) dL_law_283 ?_
  refine lv_aload_n (pc := 284) hx hb dL_law_284 rfl (lv_at hl 3 rfl) ?_
  refine lv_iload_n (pc := 285) hx hb dL_law_285 rfl (lv_at hl 0 rfl) ?_
  refine lv_iconst (v := 3) (pc := 286) hx hb dL_law_286 rfl ?_
  refine lv_iadd (pc := 287) hx hb dL_law_287 ?_
  refine va_sld (A := lx_A s) (pc := 288) hx hb hX hbl hbA hS (lx_in 3 hj hL (by decide)) dL_law_288 ?_
  refine lv_aload_n (pc := 289) hx hb dL_law_289 rfl (lv_at hl 3 rfl) ?_
  refine lv_iload_n (pc := 290) hx hb dL_law_290 rfl (lv_at hl 0 rfl) ?_
  refine lv_iconst (v := 4) (pc := 291) hx hb dL_law_291 rfl ?_
  refine lv_iadd (pc := 292) hx hb dL_law_292 ?_
  refine va_sld (A := lx_A s) (pc := 293) hx hb hX hbl hbA hS (lx_in 4 hj hL (by decide)) dL_law_293 ?_
  refine ez_callI (r := y.1) (pc := 294) (A := lx_A s) (wr := (wC a k z.2)) (wl := (wM a2 k2 x)) (wl' := (wM a2 k2 y.2)) (va_runV (g := F0 m 294 ls [.int (xs (nI (5 * j) + 4).toNatClampNeg), .int (xs (nI (5 * j) + 3).toNatClampNeg), .int (xs (nI (5 * j) + 2).toNatClampNeg), .int (xs (nI (5 * j) + 1).toNatClampNeg), .ref (a2 0), .int z.1]) (As := [.int (xs (nI (5 * j) + 1).toNatClampNeg), .int (xs (nI (5 * j) + 2).toNatClampNeg), .int (xs (nI (5 * j) + 3).toNatClampNeg), .int (xs (nI (5 * j) + 4).toNatClampNeg)]) (rest := [.int z.1]) ⟨hx, hb, hml, hown, hw⟩ (kX4_compare l D a2 k2 n (xs (nI (5 * j) + 1).toNatClampNeg) (xs (nI (5 * j) + 2).toNatClampNeg) (xs (nI (5 * j) + 3).toNatClampNeg) (xs (nI (5 * j) + 4).toNatClampNeg) x y e2 H.size) (cwV 4 hw (ez_gV mw612 mw613 mw614 mw4 mw615) rfl rfl rfl (by decide +kernel) ⟨Nat.le_of_ble_eq_true rfl, Nat.le_of_ble_eq_true rfl⟩) (ez_preV (wr := (wC a k z.2)) (wl := (wM a2 k2 x)) hP hD hKm hN 0 rfl rfl) rfl rfl hl.1 rfl (lv_room (Nat.le_of_ble_eq_true rfl)) dL_law_294 ⟨Nat.le_of_lt hc, Nat.le_trans (Nat.le_add_right _ 6) hs⟩) hP hD hS (fun _ h => h) (fun H locs hP hD hS => ?_)
  refine lv_icmp_eq (pc := 297) (tgt := 380) hx hb dL_law_297 (by decide) (fun _ => ?_) (fun hq => absurd he hq)
  refine W.widen (k := cells + 1) (n := slots + 6) (Nat.le_add_right _ _) (Nat.le_add_right _ _) ?_
  exact kk H locs z.2 y.2 hP hD hS hR
set_option maxHeartbeats 4000000 in
set_option maxRecDepth 100000 in
theorem lx_case8 {p : Program} {l : Launch} {e : Env} {s : State} {m : MethodId} {below : List Frame} {meth : Method} {c : Code} {b L : Nat} {xs : Nat → Int32} {D : va_G} {a a2 : Nat → Nat} {k k2 : Nat → ClassId} {t n : Nat} {Rel : Wd → Wd → Prop} (hops : OpsOK n Rel) (C0 : lx_C p s m meth c b L xs t) (hKc : va_K D vwCl (tC k) s) (hKm : va_K D vwCl (tM k2) s) (j cells slots : Nat) (hc : cells + 1 ≤ 600000) (hs : slots + 6 ≤ 7302250) (hL : L ≤ 2560) (hj : 5 * j + 5 ≤ L) (ls : Array Slot) (hl : lv_has ls 4 [(3, .int (nI (5 * j))), (2, .ref (a2 0)), (1, .ref (a 0)), (0, .ref b)]) (kk : ∀ (H : Heap) (locs : List Loc) (w x : Wd), va_P D vwCl (wC a k w ++ wM a2 k2 x) H → va_D (lx_A s) (wC a k w ++ wM a2 k2 x) → va_S (lx_A s) s.heap H locs → Rel w x → W p l e room_1 s m #[Value.ref b] below meth c H locs (cells + 1) (slots + 6) (lw_Z below #[Value.ref b] s) (F0 m 380 ls [])) (H : Heap) (locs : List Loc) (w x : Wd) : va_P D vwCl (wC a k w ++ wM a2 k2 x) H → va_D (lx_A s) (wC a k w ++ wM a2 k2 x) → va_S (lx_A s) s.heap H locs → Rel w x → W p l e room_1 s m #[Value.ref b] below meth c H locs (cells) (slots) (lw_Z below #[Value.ref b] s) (F0 m 302 ls []) := by
  intro hP hD hS hR
  obtain ⟨hx, hb, hr, hml, hown, hw, hN, hX, hbl, hlk, hZ, hT⟩ := C0
  have hbA : ¬ lx_A s b := fun h => absurd hbl (Nat.not_lt.mpr h)
  obtain ⟨z, y, e1, e2, he⟩ := hops.2.2.2.2.2.2.2.2.1 w x hR
  refine lv_aload_n (pc := 302) hx hb dL_law_302 rfl (lv_at hl 2 rfl) ?_
  have hPc := ez_Psw hP
  refine ez_croI (r := z) (pc := 303) (va_runV (g := F0 m 303 ls [.ref (a 0)]) (As := []) (rest := []) ⟨hx, hb, hml, hown, hw⟩ (kX3_work l D a k n  w z e1) (cwV 0 hw (ez_gV mw399 mw400 mw401 mw1 mw402) rfl rfl rfl (by decide +kernel) ⟨Nat.le_of_ble_eq_true rfl, Nat.le_of_ble_eq_true rfl⟩) (ez_preRV (wr := (wM a2 k2 x)) (wl := (wC a k w)) hPc hKc hN 0 rfl rfl) rfl rfl hl.1 rfl (lv_room (Nat.le_of_ble_eq_true rfl)) dL_law_303 ⟨Nat.le_of_lt hc, Nat.le_trans (Nat.le_add_right _ 6) hs⟩) ?_
  refine lv_aload_n (pc := 306) hx hb dL_law_306 rfl (lv_at hl 1 rfl) ?_
  refine ez_croI (r := y) (pc := 307) (va_runV (g := F0 m 307 ls [.ref (a2 0), .int z]) (As := []) (rest := [.int z]) ⟨hx, hb, hml, hown, hw⟩ (kX4_work l D a2 k2 n  x y e2) (cwV 0 hw (ez_gV mw620 mw621 mw622 mw4 mw623) rfl rfl rfl (by decide +kernel) ⟨Nat.le_of_ble_eq_true rfl, Nat.le_of_ble_eq_true rfl⟩) (ez_preRV (wr := (wC a k w)) (wl := (wM a2 k2 x)) hP hKm hN 0 rfl rfl) rfl rfl hl.1 rfl (lv_room (Nat.le_of_ble_eq_true rfl)) dL_law_307 ⟨Nat.le_of_lt hc, Nat.le_trans (Nat.le_add_right _ 6) hs⟩) ?_
  refine lv_icmp_eq (pc := 310) (tgt := 380) hx hb dL_law_310 (by decide) (fun _ => ?_) (fun hq => absurd he hq)
  refine W.widen (k := cells + 1) (n := slots + 6) (Nat.le_add_right _ _) (Nat.le_add_right _ _) ?_
  exact kk H locs w x hP hD hS hR
set_option maxHeartbeats 4000000 in
set_option maxRecDepth 100000 in
theorem lx_case9 {p : Program} {l : Launch} {e : Env} {s : State} {m : MethodId} {below : List Frame} {meth : Method} {c : Code} {b L : Nat} {xs : Nat → Int32} {D : va_G} {a a2 : Nat → Nat} {k k2 : Nat → ClassId} {t n : Nat} {Rel : Wd → Wd → Prop} (hops : OpsOK n Rel) (C0 : lx_C p s m meth c b L xs t) (hKc : va_K D vwCl (tC k) s) (hKm : va_K D vwCl (tM k2) s) (j cells slots : Nat) (hc : cells + 1 ≤ 600000) (hs : slots + 6 ≤ 7302250) (hL : L ≤ 2560) (hj : 5 * j + 5 ≤ L) (ls : Array Slot) (hl : lv_has ls 4 [(3, .int (nI (5 * j))), (2, .ref (a2 0)), (1, .ref (a 0)), (0, .ref b)]) (kk : ∀ (H : Heap) (locs : List Loc) (w x : Wd), va_P D vwCl (wC a k w ++ wM a2 k2 x) H → va_D (lx_A s) (wC a k w ++ wM a2 k2 x) → va_S (lx_A s) s.heap H locs → Rel w x → W p l e room_1 s m #[Value.ref b] below meth c H locs (cells + 1) (slots + 6) (lw_Z below #[Value.ref b] s) (F0 m 380 ls [])) (H : Heap) (locs : List Loc) (w x : Wd) : va_P D vwCl (wC a k w ++ wM a2 k2 x) H → va_D (lx_A s) (wC a k w ++ wM a2 k2 x) → va_S (lx_A s) s.heap H locs → Rel w x → W p l e room_1 s m #[Value.ref b] below meth c H locs (cells) (slots) (lw_Z below #[Value.ref b] s) (F0 m 315 ls []) := by
  intro hP hD hS hR
  obtain ⟨hx, hb, hr, hml, hown, hw, hN, hX, hbl, hlk, hZ, hT⟩ := C0
  have hbA : ¬ lx_A s b := fun h => absurd hbl (Nat.not_lt.mpr h)
  obtain ⟨z, y, e1, e2, he⟩ := hops.2.2.2.2.2.2.2.2.2.1 w x hR
  refine lv_aload_n (pc := 315) hx hb dL_law_315 rfl (lv_at hl 2 rfl) ?_
  have hPc := ez_Psw hP
  refine ez_croI (r := z) (pc := 316) (va_runV (g := F0 m 316 ls [.ref (a 0)]) (As := []) (rest := []) ⟨hx, hb, hml, hown, hw⟩ (kX3_step l D a k n  w z e1) (cwV 0 hw (ez_gV mw403 mw404 mw405 mw1 mw406) rfl rfl rfl (by decide +kernel) ⟨Nat.le_of_ble_eq_true rfl, Nat.le_of_ble_eq_true rfl⟩) (ez_preRV (wr := (wM a2 k2 x)) (wl := (wC a k w)) hPc hKc hN 0 rfl rfl) rfl rfl hl.1 rfl (lv_room (Nat.le_of_ble_eq_true rfl)) dL_law_316 ⟨Nat.le_of_lt hc, Nat.le_trans (Nat.le_add_right _ 6) hs⟩) ?_
  refine lv_aload_n (pc := 319) hx hb dL_law_319 rfl (lv_at hl 1 rfl) ?_
  refine ez_croI (r := y) (pc := 320) (va_runV (g := F0 m 320 ls [.ref (a2 0), .int z]) (As := []) (rest := [.int z]) ⟨hx, hb, hml, hown, hw⟩ (kX4_step l D a2 k2 n  x y e2) (cwV 0 hw (ez_gV mw624 mw625 mw626 mw4 mw627) rfl rfl rfl (by decide +kernel) ⟨Nat.le_of_ble_eq_true rfl, Nat.le_of_ble_eq_true rfl⟩) (ez_preRV (wr := (wC a k w)) (wl := (wM a2 k2 x)) hP hKm hN 0 rfl rfl) rfl rfl hl.1 rfl (lv_room (Nat.le_of_ble_eq_true rfl)) dL_law_320 ⟨Nat.le_of_lt hc, Nat.le_trans (Nat.le_add_right _ 6) hs⟩) ?_
  refine lv_icmp_eq (pc := 323) (tgt := 380) hx hb dL_law_323 (by decide) (fun _ => ?_) (fun hq => absurd he hq)
  refine W.widen (k := cells + 1) (n := slots + 6) (Nat.le_add_right _ _) (Nat.le_add_right _ _) ?_
  exact kk H locs w x hP hD hS hR
set_option maxHeartbeats 4000000 in
set_option maxRecDepth 100000 in
theorem lx_case10 {p : Program} {l : Launch} {e : Env} {s : State} {m : MethodId} {below : List Frame} {meth : Method} {c : Code} {b L : Nat} {xs : Nat → Int32} {D : va_G} {a a2 : Nat → Nat} {k k2 : Nat → ClassId} {t n : Nat} {Rel : Wd → Wd → Prop} (hops : OpsOK n Rel) (C0 : lx_C p s m meth c b L xs t) (hKc : va_K D vwCl (tC k) s) (hKm : va_K D vwCl (tM k2) s) (j cells slots : Nat) (hc : cells + 1 ≤ 600000) (hs : slots + 6 ≤ 7302250) (hL : L ≤ 2560) (hj : 5 * j + 5 ≤ L) (ls : Array Slot) (hl : lv_has ls 4 [(3, .int (nI (5 * j))), (2, .ref (a2 0)), (1, .ref (a 0)), (0, .ref b)]) (kk : ∀ (H : Heap) (locs : List Loc) (w x : Wd), va_P D vwCl (wC a k w ++ wM a2 k2 x) H → va_D (lx_A s) (wC a k w ++ wM a2 k2 x) → va_S (lx_A s) s.heap H locs → Rel w x → W p l e room_1 s m #[Value.ref b] below meth c H locs (cells + 1) (slots + 6) (lw_Z below #[Value.ref b] s) (F0 m 380 ls [])) (H : Heap) (locs : List Loc) (w x : Wd) : va_P D vwCl (wC a k w ++ wM a2 k2 x) H → va_D (lx_A s) (wC a k w ++ wM a2 k2 x) → va_S (lx_A s) s.heap H locs → Rel w x → W p l e room_1 s m #[Value.ref b] below meth c H locs (cells) (slots) (lw_Z below #[Value.ref b] s) (F0 m 328 ls []) := by
  intro hP hD hS hR
  obtain ⟨hx, hb, hr, hml, hown, hw, hN, hX, hbl, hlk, hZ, hT⟩ := C0
  have hbA : ¬ lx_A s b := fun h => absurd hbl (Nat.not_lt.mpr h)
  obtain ⟨z, y, e1, e2, he⟩ := hops.2.2.2.2.2.2.2.2.2.2.1 w x hR
  refine lv_aload_n (pc := 328) hx hb dL_law_328 rfl (lv_at hl 2 rfl) ?_
  have hPc := ez_Psw hP
  refine ez_croL (r := z) (pc := 329) (va_runV (g := F0 m 329 ls [.ref (a 0)]) (As := []) (rest := []) ⟨hx, hb, hml, hown, hw⟩ (kX3_low l D a k n  w z e1) (cwV 0 hw (ez_gV mw407 mw408 mw409 mw1 mw410) rfl rfl rfl (by decide +kernel) ⟨Nat.le_of_ble_eq_true rfl, Nat.le_of_ble_eq_true rfl⟩) (ez_preRV (wr := (wM a2 k2 x)) (wl := (wC a k w)) hPc hKc hN 0 rfl rfl) rfl rfl hl.1 rfl (lv_room (Nat.le_of_ble_eq_true rfl)) dL_law_329 ⟨Nat.le_of_lt hc, Nat.le_trans (Nat.le_add_right _ 6) hs⟩) ?_
  refine lv_aload_n (pc := 332) hx hb dL_law_332 rfl (lv_at hl 1 rfl) ?_
  refine ez_croL (r := y) (pc := 333) (va_runV (g := F0 m 333 ls [.ref (a2 0), .long z]) (As := []) (rest := [.long z]) ⟨hx, hb, hml, hown, hw⟩ (kX4_low l D a2 k2 n  x y e2) (cwV 0 hw (ez_gV mw628 mw629 mw630 mw4 mw631) rfl rfl rfl (by decide +kernel) ⟨Nat.le_of_ble_eq_true rfl, Nat.le_of_ble_eq_true rfl⟩) (ez_preRV (wr := (wC a k w)) (wl := (wM a2 k2 x)) hP hKm hN 0 rfl rfl) rfl rfl hl.1 rfl (lv_room (Nat.le_of_ble_eq_true rfl)) dL_law_333 ⟨Nat.le_of_lt hc, Nat.le_trans (Nat.le_add_right _ 6) hs⟩) ?_
  refine W.lcmp (pc := 336) hx hb dL_law_336 ?_
  refine lv_if_eq (pc := 337) (tgt := 380) hx hb dL_law_337 (by decide) (fun _ => ?_) (fun hq => absurd ((lg_cmp_eq z y).mpr he) hq)
  refine W.widen (k := cells + 1) (n := slots + 6) (Nat.le_add_right _ _) (Nat.le_add_right _ _) ?_
  exact kk H locs w x hP hD hS hR
set_option maxHeartbeats 4000000 in
set_option maxRecDepth 100000 in
theorem lx_case11 {p : Program} {l : Launch} {e : Env} {s : State} {m : MethodId} {below : List Frame} {meth : Method} {c : Code} {b L : Nat} {xs : Nat → Int32} {D : va_G} {a a2 : Nat → Nat} {k k2 : Nat → ClassId} {t n : Nat} {Rel : Wd → Wd → Prop} (hops : OpsOK n Rel) (C0 : lx_C p s m meth c b L xs t) (hKc : va_K D vwCl (tC k) s) (hKm : va_K D vwCl (tM k2) s) (j cells slots : Nat) (hc : cells + 1 ≤ 600000) (hs : slots + 6 ≤ 7302250) (hL : L ≤ 2560) (hj : 5 * j + 5 ≤ L) (ls : Array Slot) (hl : lv_has ls 4 [(3, .int (nI (5 * j))), (2, .ref (a2 0)), (1, .ref (a 0)), (0, .ref b)]) (kk : ∀ (H : Heap) (locs : List Loc) (w x : Wd), va_P D vwCl (wC a k w ++ wM a2 k2 x) H → va_D (lx_A s) (wC a k w ++ wM a2 k2 x) → va_S (lx_A s) s.heap H locs → Rel w x → W p l e room_1 s m #[Value.ref b] below meth c H locs (cells + 1) (slots + 6) (lw_Z below #[Value.ref b] s) (F0 m 380 ls [])) (H : Heap) (locs : List Loc) (w x : Wd) : va_P D vwCl (wC a k w ++ wM a2 k2 x) H → va_D (lx_A s) (wC a k w ++ wM a2 k2 x) → va_S (lx_A s) s.heap H locs → Rel w x → W p l e room_1 s m #[Value.ref b] below meth c H locs (cells) (slots) (lw_Z below #[Value.ref b] s) (F0 m 342 ls []) := by
  intro hP hD hS hR
  obtain ⟨hx, hb, hr, hml, hown, hw, hN, hX, hbl, hlk, hZ, hT⟩ := C0
  have hbA : ¬ lx_A s b := fun h => absurd hbl (Nat.not_lt.mpr h)
  obtain ⟨z, y, e1, e2, he⟩ := hops.2.2.2.2.2.2.2.2.2.2.2.1 w x hR
  refine lv_aload_n (pc := 342) hx hb dL_law_342 rfl (lv_at hl 2 rfl) ?_
  have hPc := ez_Psw hP
  refine ez_croL (r := z) (pc := 343) (va_runV (g := F0 m 343 ls [.ref (a 0)]) (As := []) (rest := []) ⟨hx, hb, hml, hown, hw⟩ (kX3_high l D a k n  w z e1) (cwV 0 hw (ez_gV mw411 mw412 mw413 mw1 mw414) rfl rfl rfl (by decide +kernel) ⟨Nat.le_of_ble_eq_true rfl, Nat.le_of_ble_eq_true rfl⟩) (ez_preRV (wr := (wM a2 k2 x)) (wl := (wC a k w)) hPc hKc hN 0 rfl rfl) rfl rfl hl.1 rfl (lv_room (Nat.le_of_ble_eq_true rfl)) dL_law_343 ⟨Nat.le_of_lt hc, Nat.le_trans (Nat.le_add_right _ 6) hs⟩) ?_
  refine lv_aload_n (pc := 346) hx hb dL_law_346 rfl (lv_at hl 1 rfl) ?_
  refine ez_croL (r := y) (pc := 347) (va_runV (g := F0 m 347 ls [.ref (a2 0), .long z]) (As := []) (rest := [.long z]) ⟨hx, hb, hml, hown, hw⟩ (kX4_high l D a2 k2 n  x y e2) (cwV 0 hw (ez_gV mw632 mw633 mw634 mw4 mw635) rfl rfl rfl (by decide +kernel) ⟨Nat.le_of_ble_eq_true rfl, Nat.le_of_ble_eq_true rfl⟩) (ez_preRV (wr := (wC a k w)) (wl := (wM a2 k2 x)) hP hKm hN 0 rfl rfl) rfl rfl hl.1 rfl (lv_room (Nat.le_of_ble_eq_true rfl)) dL_law_347 ⟨Nat.le_of_lt hc, Nat.le_trans (Nat.le_add_right _ 6) hs⟩) ?_
  refine W.lcmp (pc := 350) hx hb dL_law_350 ?_
  refine lv_if_eq (pc := 351) (tgt := 380) hx hb dL_law_351 (by decide) (fun _ => ?_) (fun hq => absurd ((lg_cmp_eq z y).mpr he) hq)
  refine W.widen (k := cells + 1) (n := slots + 6) (Nat.le_add_right _ _) (Nat.le_add_right _ _) ?_
  exact kk H locs w x hP hD hS hR
set_option maxHeartbeats 4000000 in
set_option maxRecDepth 100000 in
theorem lx_case12 {p : Program} {l : Launch} {e : Env} {s : State} {m : MethodId} {below : List Frame} {meth : Method} {c : Code} {b L : Nat} {xs : Nat → Int32} {D : va_G} {a a2 : Nat → Nat} {k k2 : Nat → ClassId} {t n : Nat} {Rel : Wd → Wd → Prop} (hops : OpsOK n Rel) (C0 : lx_C p s m meth c b L xs t) (hKc : va_K D vwCl (tC k) s) (hKm : va_K D vwCl (tM k2) s) (j cells slots : Nat) (hc : cells + 1 ≤ 600000) (hs : slots + 6 ≤ 7302250) (hL : L ≤ 2560) (hj : 5 * j + 5 ≤ L) (ls : Array Slot) (hl : lv_has ls 4 [(3, .int (nI (5 * j))), (2, .ref (a2 0)), (1, .ref (a 0)), (0, .ref b)]) (kk : ∀ (H : Heap) (locs : List Loc) (w x : Wd), va_P D vwCl (wC a k w ++ wM a2 k2 x) H → va_D (lx_A s) (wC a k w ++ wM a2 k2 x) → va_S (lx_A s) s.heap H locs → Rel w x → W p l e room_1 s m #[Value.ref b] below meth c H locs (cells + 1) (slots + 6) (lw_Z below #[Value.ref b] s) (F0 m 380 ls [])) (H : Heap) (locs : List Loc) (w x : Wd) : va_P D vwCl (wC a k w ++ wM a2 k2 x) H → va_D (lx_A s) (wC a k w ++ wM a2 k2 x) → va_S (lx_A s) s.heap H locs → Rel w x → W p l e room_1 s m #[Value.ref b] below meth c H locs (cells) (slots) (lw_Z below #[Value.ref b] s) (F0 m 356 ls []) := by
  intro hP hD hS hR
  obtain ⟨hx, hb, hr, hml, hown, hw, hN, hX, hbl, hlk, hZ, hT⟩ := C0
  have hbA : ¬ lx_A s b := fun h => absurd hbl (Nat.not_lt.mpr h)
  obtain ⟨z, y, e1, e2, he⟩ := hops.2.2.2.2.2.2.2.2.2.2.2.2 w x hR (xs (nI (5 * j) + 1).toNatClampNeg)
  refine lv_aload_n (pc := 356) hx hb dL_law_356 rfl (lv_at hl 2 rfl) ?_
  refine lv_aload_n (pc := 357) hx hb dL_law_357 rfl (lv_at hl 3 rfl) ?_
  refine lv_iload_n (pc := 358) hx hb dL_law_358 rfl (lv_at hl 0 rfl) ?_
  refine lv_iconst (v := 1) (pc := 359) hx hb dL_law_359 rfl ?_
  refine lv_iadd (pc := 360) hx hb dL_law_360 ?_
  refine va_sld (A := lx_A s) (pc := 361) hx hb hX hbl hbA hS (lx_in 1 hj hL (by decide)) dL_law_361 ?_
  have hPc := ez_Psw hP
  refine ez_croL (r := z) (pc := 362) (va_runV (g := F0 m 362 ls [.int (xs (nI (5 * j) + 1).toNatClampNeg), .ref (a 0)]) (As := [.int (xs (nI (5 * j) + 1).toNatClampNeg)]) (rest := []) ⟨hx, hb, hml, hown, hw⟩ (kX3_decimal l D a k t n (xs (nI (5 * j) + 1).toNatClampNeg) w z e1) (cwV 1 hw (ez_gV mw415 mw416 mw417 mw1 mw418) rfl rfl rfl (by decide +kernel) ⟨Nat.le_of_ble_eq_true rfl, Nat.le_of_ble_eq_true rfl⟩) (lx_preT (wr := (wM a2 k2 x)) (wl := (wC a k w)) hPc hKc hN hZ hT hS 0 rfl rfl) rfl rfl hl.1 rfl (lv_room (Nat.le_of_ble_eq_true rfl)) dL_law_362 ⟨Nat.le_of_lt hc, Nat.le_trans (Nat.le_add_right _ 6) hs⟩) ?_
  refine lv_aload_n (pc := 365) hx hb dL_law_365 rfl (lv_at hl 1 rfl) ?_
  refine lv_aload_n (pc := 366) hx hb dL_law_366 rfl (lv_at hl 3 rfl) ?_
  refine lv_iload_n (pc := 367) hx hb dL_law_367 rfl (lv_at hl 0 rfl) ?_
  refine lv_iconst (v := 1) (pc := 368) hx hb dL_law_368 rfl ?_
  refine lv_iadd (pc := 369) hx hb dL_law_369 ?_
  refine va_sld (A := lx_A s) (pc := 370) hx hb hX hbl hbA hS (lx_in 1 hj hL (by decide)) dL_law_370 ?_
  refine ez_croL (r := y) (pc := 371) (va_runV (g := F0 m 371 ls [.int (xs (nI (5 * j) + 1).toNatClampNeg), .ref (a2 0), .long z]) (As := [.int (xs (nI (5 * j) + 1).toNatClampNeg)]) (rest := [.long z]) ⟨hx, hb, hml, hown, hw⟩ (kX4_decimal l D a2 k2 n (xs (nI (5 * j) + 1).toNatClampNeg) x y e2) (cwV 1 hw (ez_gV mw636 mw637 mw638 mw4 mw639) rfl rfl rfl (by decide +kernel) ⟨Nat.le_of_ble_eq_true rfl, Nat.le_of_ble_eq_true rfl⟩) (ez_preRV (wr := (wC a k w)) (wl := (wM a2 k2 x)) hP hKm hN 0 rfl rfl) rfl rfl hl.1 rfl (lv_room (Nat.le_of_ble_eq_true rfl)) dL_law_371 ⟨Nat.le_of_lt hc, Nat.le_trans (Nat.le_add_right _ 6) hs⟩) ?_
  refine W.lcmp (pc := 374) hx hb dL_law_374 ?_
  refine lv_if_eq (pc := 375) (tgt := 380) hx hb dL_law_375 (by decide) (fun _ => ?_) (fun hq => absurd ((lg_cmp_eq z y).mpr he) hq)
  refine W.widen (k := cells + 1) (n := slots + 6) (Nat.le_add_right _ _) (Nat.le_add_right _ _) ?_
  exact kk H locs w x hP hD hS hR
theorem lx_le {j L : Nat} (hL : L ≤ 2560) (hj : j ≤ 512) (h : ¬ Int32.ofNat L - 5 < nI (5 * j)) : 5 * j + 5 ≤ L := by
  have h1 : (Int32.ofNat L - 5).toInt = (L : Int) - 5 := pk_sub_toInt (a := L) (b := 5) (by omega) (by decide)
  have h2 : (nI (5 * j)).toInt = ((5 * j : Nat) : Int) := nI_toInt (by omega)
  rw [Int32.lt_iff_toInt_lt, h1, h2] at h
  omega
set_option maxHeartbeats 4000000 in
set_option maxRecDepth 100000 in
theorem lx_loop {p : Program} {l : Launch} {e : Env} {s : State} {m : MethodId} {below : List Frame} {meth : Method} {c : Code} {b L : Nat} {xs : Nat → Int32} {D : va_G} {a a2 : Nat → Nat} {k k2 : Nat → ClassId} {t n : Nat} {Rel : Wd → Wd → Prop} (hops : OpsOK n Rel) (C0 : lx_C p s m meth c b L xs t) (hKc : va_K D vwCl (tC k) s) (hKm : va_K D vwCl (tM k2) s) (hL : L ≤ 2560) : ∀ (r j : Nat), j + r = 512 → ∀ (H : Heap) (locs : List Loc) (w x : Wd) (ls : Array Slot), lv_has ls 4 [(3, .int (nI (5 * j))), (2, .ref (a2 0)), (1, .ref (a 0)), (0, .ref b)] → va_P D vwCl (wC a k w ++ wM a2 k2 x) H → va_D (lx_A s) (wC a k w ++ wM a2 k2 x) → va_S (lx_A s) s.heap H locs → Rel w x → W p l e room_1 s m #[Value.ref b] below meth c H locs (25 + j) (1617 + 6 * j) (lw_Z below #[Value.ref b] s) (F0 m 18 ls []) := by
  have C1 := C0
  obtain ⟨hx, hb, hr, hml, hown, hw, hN, hX, hbl, hlk, hZ, hT⟩ := C1
  intro r
  induction r with
  | zero =>
    intro j hjr H locs w x
    intro ls hl hP hD hS hR
    have hbA : ¬ lx_A s b := fun h => absurd hbl (Nat.not_lt.mpr h)
    refine lv_iload_n (pc := 18) hx hb dL_law_18 rfl (lv_at hl 0 rfl) ?_
    refine lv_aload_n (pc := 19) hx hb dL_law_19 rfl (lv_at hl 3 rfl) ?_
    refine va_slen (A := lx_A s) (pc := 20) hx hb hX hbl hbA hS dL_law_20 ?_
    refine lv_iconst (v := 5) (pc := 21) hx hb dL_law_21 rfl ?_
    refine lv_isub (pc := 22) hx hb dL_law_22 ?_
    refine lv_icmp_gt (pc := 23) (tgt := 386) hx hb dL_law_23 (by decide) (fun hq => ?_) (fun hq => ?_)
    · refine lv_iconst (v := 1) (pc := 386) hx hb dL_law_386 rfl ?_
      refine va_forget hS.2.2 ?_
      refine W.widen (k := 600000) (n := 7302250) (by omega) (by omega) ?_
      exact lw_ret hx hb hr hlk dL_law_387
    · have := lx_le hL (by omega) hq
      omega
  | succ r ih =>
    intro j hjr H locs w x
    intro ls hl hP hD hS hR
    have hbA : ¬ lx_A s b := fun h => absurd hbl (Nat.not_lt.mpr h)
    refine lv_iload_n (pc := 18) hx hb dL_law_18 rfl (lv_at hl 0 rfl) ?_
    refine lv_aload_n (pc := 19) hx hb dL_law_19 rfl (lv_at hl 3 rfl) ?_
    refine va_slen (A := lx_A s) (pc := 20) hx hb hX hbl hbA hS dL_law_20 ?_
    refine lv_iconst (v := 5) (pc := 21) hx hb dL_law_21 rfl ?_
    refine lv_isub (pc := 22) hx hb dL_law_22 ?_
    refine lv_icmp_gt (pc := 23) (tgt := 386) hx hb dL_law_23 (by decide) (fun hq => ?_) (fun hq => ?_)
    · refine lv_iconst (v := 1) (pc := 386) hx hb dL_law_386 rfl ?_
      refine va_forget hS.2.2 ?_
      refine W.widen (k := 600000) (n := 7302250) (by omega) (by omega) ?_
      exact lw_ret hx hb hr hlk dL_law_387
    · have hj : 5 * j + 5 ≤ L := lx_le hL (by omega) hq
      refine lv_aload_n (pc := 26) hx hb dL_law_26 rfl (lv_at hl 3 rfl) ?_
      refine lv_iload_n (pc := 27) hx hb dL_law_27 rfl (lv_at hl 0 rfl) ?_
      refine va_sld (A := lx_A s) (pc := 28) hx hb hX hbl hbA hS (vp_in_nI (by omega) (by omega)) dL_law_28 ?_
      refine lv_bipush (v := 15) (pc := 29) hx hb dL_law_29 rfl ?_
      refine lv_iand (pc := 31) hx hb dL_law_31 ?_
      have kk : ∀ (H : Heap) (locs : List Loc) (w x : Wd), va_P D vwCl (wC a k w ++ wM a2 k2 x) H → va_D (lx_A s) (wC a k w ++ wM a2 k2 x) → va_S (lx_A s) s.heap H locs → Rel w x → W p l e room_1 s m #[Value.ref b] below meth c H locs (25 + j + 1) (1617 + 6 * j + 6) (lw_Z below #[Value.ref b] s) (F0 m 380 ls []) := by
        intro H locs w x hP hD hS hR
        refine lv_iinc (v := nI (5 * j) + 5) (k := 0) (pc := 380) hx hb dL_law_380 hl rfl rfl (by decide) rfl (fun ls hl => ?_)
        replace hl : lv_has ls 4 [(3, .int (nI (5 * j) + 5)), (2, .ref (a2 0)), (1, .ref (a 0)), (0, .ref b)] := hl
        refine lv_goto (pc := 383) (tgt := 18) hx hb dL_law_383 (by decide) ?_
        have e5 : nI (5 * j) + 5 = nI (5 * (j + 1)) := nI_add (5 * j) 5
        rw [e5] at hl
        have h1 := ih (j + 1) (by omega) H locs w x ls hl hP hD hS hR
        have e6 : 25 + j + 1 = 25 + (j + 1) := by omega
        have e7 : 1617 + 6 * j + 6 = 1617 + 6 * (j + 1) := by omega
        rw [e6, e7]
        exact h1
      generalize (xs (nI (5 * j)).toNatClampNeg &&& 15) = sw
      by_cases hc0 : sw = 0
      · refine lv_tableIn (pc := 32) (tgt := 100) (off := 68) hx hb dL_law_32 (by rw [hc0]; decide) (by rw [hc0]; decide) (by rw [hc0]; rfl) (by decide) ?_
        exact lx_case0 hops C0 hKc hKm j (25 + j) (1617 + 6 * j) (by omega) (by omega) hL hj ls hl kk H locs w x hP hD hS hR
      · have _h0 := hc0
        by_cases hc1 : sw = 1
        · refine lv_tableIn (pc := 32) (tgt := 123) (off := 91) hx hb dL_law_32 (by rw [hc1]; decide) (by rw [hc1]; decide) (by rw [hc1]; rfl) (by decide) ?_
          exact lx_case1 hops C0 hKc hKm j (25 + j) (1617 + 6 * j) (by omega) (by omega) hL hj ls hl kk H locs w x hP hD hS hR
        · have _h1 := hc1
          by_cases hc2 : sw = 2
          · refine lv_tableIn (pc := 32) (tgt := 136) (off := 104) hx hb dL_law_32 (by rw [hc2]; decide) (by rw [hc2]; decide) (by rw [hc2]; rfl) (by decide) ?_
            exact lx_case2 hops C0 hKc hKm j (25 + j) (1617 + 6 * j) (by omega) (by omega) hL hj ls hl kk H locs w x hP hD hS hR
          · have _h2 := hc2
            by_cases hc3 : sw = 3
            · refine lv_tableIn (pc := 32) (tgt := 149) (off := 117) hx hb dL_law_32 (by rw [hc3]; decide) (by rw [hc3]; decide) (by rw [hc3]; rfl) (by decide) ?_
              exact lx_case3 hops C0 hKc hKm j (25 + j) (1617 + 6 * j) (by omega) (by omega) hL hj ls hl kk H locs w x hP hD hS hR
            · have _h3 := hc3
              by_cases hc4 : sw = 4
              · refine lv_tableIn (pc := 32) (tgt := 172) (off := 140) hx hb dL_law_32 (by rw [hc4]; decide) (by rw [hc4]; decide) (by rw [hc4]; rfl) (by decide) ?_
                exact lx_case4 hops C0 hKc hKm j (25 + j) (1617 + 6 * j) (by omega) (by omega) hL hj ls hl kk H locs w x hP hD hS hR
              · have _h4 := hc4
                by_cases hc5 : sw = 5
                · refine lv_tableIn (pc := 32) (tgt := 183) (off := 151) hx hb dL_law_32 (by rw [hc5]; decide) (by rw [hc5]; decide) (by rw [hc5]; rfl) (by decide) ?_
                  exact lx_case5 hops C0 hKc hKm j (25 + j) (1617 + 6 * j) (by omega) (by omega) hL hj ls hl kk H locs w x hP hD hS hR
                · have _h5 := hc5
                  by_cases hc6 : sw = 6
                  · refine lv_tableIn (pc := 32) (tgt := 206) (off := 174) hx hb dL_law_32 (by rw [hc6]; decide) (by rw [hc6]; decide) (by rw [hc6]; rfl) (by decide) ?_
                    exact lx_case6 hops C0 hKc hKm j (25 + j) (1617 + 6 * j) (by omega) (by omega) hL hj ls hl kk H locs w x hP hD hS hR
                  · have _h6 := hc6
                    by_cases hc7 : sw = 7
                    · refine lv_tableIn (pc := 32) (tgt := 249) (off := 217) hx hb dL_law_32 (by rw [hc7]; decide) (by rw [hc7]; decide) (by rw [hc7]; rfl) (by decide) ?_
                      exact lx_case7 hops C0 hKc hKm j (25 + j) (1617 + 6 * j) (by omega) (by omega) hL hj ls hl kk H locs w x hP hD hS hR
                    · have _h7 := hc7
                      by_cases hc8 : sw = 8
                      · refine lv_tableIn (pc := 32) (tgt := 302) (off := 270) hx hb dL_law_32 (by rw [hc8]; decide) (by rw [hc8]; decide) (by rw [hc8]; rfl) (by decide) ?_
                        exact lx_case8 hops C0 hKc hKm j (25 + j) (1617 + 6 * j) (by omega) (by omega) hL hj ls hl kk H locs w x hP hD hS hR
                      · have _h8 := hc8
                        by_cases hc9 : sw = 9
                        · refine lv_tableIn (pc := 32) (tgt := 315) (off := 283) hx hb dL_law_32 (by rw [hc9]; decide) (by rw [hc9]; decide) (by rw [hc9]; rfl) (by decide) ?_
                          exact lx_case9 hops C0 hKc hKm j (25 + j) (1617 + 6 * j) (by omega) (by omega) hL hj ls hl kk H locs w x hP hD hS hR
                        · have _h9 := hc9
                          by_cases hc10 : sw = 10
                          · refine lv_tableIn (pc := 32) (tgt := 328) (off := 296) hx hb dL_law_32 (by rw [hc10]; decide) (by rw [hc10]; decide) (by rw [hc10]; rfl) (by decide) ?_
                            exact lx_case10 hops C0 hKc hKm j (25 + j) (1617 + 6 * j) (by omega) (by omega) hL hj ls hl kk H locs w x hP hD hS hR
                          · have _h10 := hc10
                            by_cases hc11 : sw = 11
                            · refine lv_tableIn (pc := 32) (tgt := 342) (off := 310) hx hb dL_law_32 (by rw [hc11]; decide) (by rw [hc11]; decide) (by rw [hc11]; rfl) (by decide) ?_
                              exact lx_case11 hops C0 hKc hKm j (25 + j) (1617 + 6 * j) (by omega) (by omega) hL hj ls hl kk H locs w x hP hD hS hR
                            · have _h11 := hc11
                              by_cases hc12 : sw = 12
                              · refine lv_tableIn (pc := 32) (tgt := 356) (off := 324) hx hb dL_law_32 (by rw [hc12]; decide) (by rw [hc12]; decide) (by rw [hc12]; rfl) (by decide) ?_
                                exact lx_case12 hops C0 hKc hKm j (25 + j) (1617 + 6 * j) (by omega) (by omega) hL hj ls hl kk H locs w x hP hD hS hR
                              · have _h12 := hc12
                                refine lv_tableOut (pc := 32) (tgt := 380) hx hb dL_law_32 (by have := lv_neT (a := 0) hc0 rfl; have := lv_neT (a := 1) hc1 rfl; have := lv_neT (a := 2) hc2 rfl; have := lv_neT (a := 3) hc3 rfl; have := lv_neT (a := 4) hc4 rfl; have := lv_neT (a := 5) hc5 rfl; have := lv_neT (a := 6) hc6 rfl; have := lv_neT (a := 7) hc7 rfl; have := lv_neT (a := 8) hc8 rfl; have := lv_neT (a := 9) hc9 rfl; have := lv_neT (a := 10) hc10 rfl; have := lv_neT (a := 11) hc11 rfl; have := lv_neT (a := 12) hc12 rfl; omega) (by decide) ?_
                                refine W.widen (k := 25 + j + 1) (n := 1617 + 6 * j + 6) (Nat.le_add_right _ _) (Nat.le_add_right _ _) ?_
                                exact kk H locs w x hP hD hS hR
set_option maxHeartbeats 4000000 in
set_option maxRecDepth 100000 in
theorem lx_start {n : Nat} {Rel : Wd → Wd → Prop} (hops : OpsOK n Rel) {z0 : Wd} (h0 : fX3_forgetAll n ez_w0 = some z0) (hR : Rel z0 ez_w0) {p : Program} {e : Env} {s : State} {m : MethodId} {below : List Frame} {meth : Method} {c : Code} (l : Launch) {b L : Nat} {xs : Nat → Int32} (hL : L ≤ 2560) (C0 : lw_At p s m meth c b L xs) : W p l e room_1 s m #[Value.ref b] below meth c s.heap [] 0 0 (lw_Z below #[Value.ref b] s) (entryFrame m ([Value.ref b] : List Value).toArray 4) := by
  obtain ⟨hx, hb, hr, hml, hown, hts, hX, hbl, hlk, hgv⟩ := C0
  have hw : ∀ w ∈ WALL, w.before #[Value.ref b] s = true := fun w h => hts w (List.mem_filter.mp h).1
  have hN : ez_N s := ⟨va_Nw.of rfl (hts _ mw17), va_Nw.of rfl (hts _ mw41), va_Nw.of rfl (hts _ mw180), va_Nw.of rfl (hts _ mw193)⟩
  obtain ⟨cCX0, iSX0, hKX0⟩ := u_known (C := RX0) (T := TX0) (N := 5) (n := 5) hw inX0 (hw _ mw16)
  obtain ⟨cCX1, iSX1, hKX1⟩ := u_known (C := RX1) (T := TX1) (N := 6) (n := 6) hw inX1 (hw _ mw136)
  obtain ⟨cCX2, iSX2, hKX2⟩ := u_known (C := RX2) (T := TX2) (N := 5) (n := 5) hw inX2 (hw _ mw40)
  obtain ⟨cCX3, iSX3, hKX3⟩ := u_known (C := RX3) (T := TX3) (N := 9) (n := 9) hw inX3 (hw _ mw8)
  obtain ⟨cCX4, iSX4, hKX4⟩ := u_known (C := RX4) (T := TX4) (N := 20) (n := 20) hw inX4 (hw _ mw422)
  obtain ⟨D, hK⟩ : ∃ D : va_G, va_K D vwCl [] s := by
    refine ⟨(fun i => [cCX0, cCX1, cCX2, cCX3, cCX4].getD i 0, fun i => [iSX0, iSX1, iSX2, iSX3, iSX4].getD i (fun _ => 0)), fun i q hq => ?_, fun i q hq => by cases hq⟩
    rcases (show i = 0 ∨ i = 1 ∨ i = 2 ∨ i = 3 ∨ i = 4 ∨ 5 ≤ i by omega) with rfl | rfl | rfl | rfl | rfl | h5
    · cases hq; exact hKX0
    · cases hq; exact hKX1
    · cases hq; exact hKX2
    · cases hq; exact hKX3
    · cases hq; exact hKX4
    · rw [List.getElem?_eq_none (by show 5 ≤ i; exact h5)] at hq; cases hq
  have hf := flat_of_before _ hgv
  obtain ⟨t, ht0, hT⟩ := va_Tof (args := #[Value.ref b]) (s := s) (tm := .static RX3 "POWERS_OF_TEN" "[J") (ty := .long) (N := 7) (f := ez_pt) (A := lx_A s) (by decide) (hf _ (by decide +kernel)) (va_eqt (hf _ (by decide +kernel))) (fun j hj => by
      rcases (show j = 0 ∨ j = 1 ∨ j = 2 ∨ j = 3 ∨ j = 4 ∨ j = 5 ∨ j = 6 by omega) with rfl | rfl | rfl | rfl | rfl | rfl | rfl <;> exact va_eqtl (hf _ (by decide +kernel))) (fun q h => Nat.not_le.mpr h)
  have hZ : va_Z RX3 "POWERS_OF_TEN" "[J" (.ref t) (lx_A s) s s.heap := va_Zref (hts _ mw420) (hw _ mw1) ht0 (fun q h => Nat.not_le.mpr h)
  have C1 : lx_C p s m meth c b L xs t := ⟨hx, hb, hr, hml, hown, hw, hN, hX, hbl, hlk, hZ, hT⟩
  have hA : ∀ q : Nat, s.heap.size ≤ q → lx_A s q := fun _ h => h
  have hS : va_S (lx_A s) s.heap s.heap [] := va_S.rf
  have hP : va_P D vwCl [] s.heap := fun i q hq => by cases hq
  have hD : va_D (lx_A s) [] := ⟨fun i j x y hi => (by cases hi), fun i q hq => (by cases hq)⟩
  have hl := lv_entry [Value.ref b] (n := 4) (Nat.le_of_ble_eq_true rfl)
  rw [lg_entry_eq]
  generalize (lg_sl [Value.ref b] ++ List.replicate (4 - (lg_sl [Value.ref b]).length) Slot.unset).toArray = ls at hl ⊢
  replace hl : lv_has ls 4 [(0, .ref b)] := hl
  refine va_new (A := lx_A s) (ci := 3) (fs := [.null, .int 0, .null, .null, .null, .int 0, .int 0, .long 0, .long 0]) (C := RX3) (T := TX3) (N := 9) (pc := 0) hx hb hw inX3 tyX3 tyX3_ok hown (hw _ mw7) (hw _ mw8) (hw _ mw1) hK hP hD hS hA rfl (fun j hj => by rcases (show j = 0 ∨ j = 1 ∨ j = 2 ∨ j = 3 ∨ j = 4 ∨ j = 5 ∨ j = 6 ∨ j = 7 ∨ j = 8 by omega) with rfl | rfl | rfl | rfl | rfl | rfl | rfl | rfl | rfl <;> rfl) (Nat.le_of_ble_eq_true rfl) (Nat.le_of_ble_eq_true rfl) dL_law_0 (fun q0 H hP hD hS => ?_)
  refine lv_dup (pc := 3) hx hb dL_law_3 rfl ?_
  have hF := ez_free (wr := []) (wl := [(q0, .inr (3, [.null, .int 0, .null, .null, .null, .int 0, .int 0, .long 0, .long 0]))]) hD hS hA
  refine va_callv (va_runI (g := F0 m 4 ls [.ref q0, .ref q0]) (As := []) (rest := [.ref q0]) ⟨hx, hb, hml, hown, hw⟩ (kX3_init l D q0 n z0 h0 H.size) (cwI 0 hw (ez_gN mw11) rfl rfl rfl (hw _ mw1) (hw _ mw9) (hw _ mw10) rfl (by decide +kernel) ⟨Nat.le_of_ble_eq_true rfl, Nat.le_of_ble_eq_true rfl⟩) (ez_preS (wr := []) (wl := [(q0, .inr (3, [.null, .int 0, .null, .null, .null, .int 0, .int 0, .long 0, .long 0]))]) hP hD hK hN) rfl rfl hl.1 rfl (lv_room (Nat.le_of_ble_eq_true rfl)) dL_law_4 ⟨Nat.le_of_ble_eq_true rfl, Nat.le_of_ble_eq_true rfl⟩) hS (fun q _ h => hF q h) hF (fun u t9 H1 locs ht hvm hp hB hz hk hS => ?_)
  obtain ⟨hP1, hK1, hD1⟩ := hB
  rw [ht] at hP1
  replace hK1 := va_K.moved hvm.symm hK1
  obtain ⟨hP2, hD2⟩ := ez_join (wr := []) (wl := [(q0, .inr (3, [.null, .int 0, .null, .null, .null, .int 0, .int 0, .long 0, .long 0]))]) hP hD hk hF hP1 hD1
  clear hP hD hP1 hD1 hk hz ht hvm hF
  generalize H1 = H at hP2 hS ⊢
  obtain ⟨a, k⟩ := u
  replace hp : a 0 = q0 := hp
  subst hp
  have hP : va_P D vwCl (wC a k z0) H := hP2
  have hD : va_D (lx_A s) (wC a k z0) := hD2
  have hKc : va_K D vwCl (tC k) s := hK1
  clear hP2 hD2 hK1
  refine lv_astore_n (pc := 7) hx hb dL_law_7 rfl hl (by decide) rfl (fun ls hl => ?_)
  replace hl : lv_has ls 4 [(1, .ref (a 0)), (0, .ref b)] := hl
  refine va_new (A := lx_A s) (ci := 4) (fs := [.int 0, .null, .null, .int 0, .null, .null, .null, .int 0, .null, .int 0, .null, .null, .null, .null, .null, .int 0, .int 0, .int 0, .long 0, .long 0]) (C := RX4) (T := TX4) (N := 20) (pc := 8) hx hb hw inX4 tyX4 tyX4_ok hown (hw _ mw421) (hw _ mw422) (hw _ mw4) hK hP hD hS hA rfl (fun j hj => by rcases (show j = 0 ∨ j = 1 ∨ j = 2 ∨ j = 3 ∨ j = 4 ∨ j = 5 ∨ j = 6 ∨ j = 7 ∨ j = 8 ∨ j = 9 ∨ j = 10 ∨ j = 11 ∨ j = 12 ∨ j = 13 ∨ j = 14 ∨ j = 15 ∨ j = 16 ∨ j = 17 ∨ j = 18 ∨ j = 19 by omega) with rfl | rfl | rfl | rfl | rfl | rfl | rfl | rfl | rfl | rfl | rfl | rfl | rfl | rfl | rfl | rfl | rfl | rfl | rfl | rfl <;> rfl) (Nat.le_of_ble_eq_true rfl) (Nat.le_of_ble_eq_true rfl) dL_law_8 (fun q8 H hP hD hS => ?_)
  refine lv_dup (pc := 11) hx hb dL_law_11 rfl ?_
  have hF := ez_free (wr := (wC a k z0)) (wl := [(q8, .inr (4, [.int 0, .null, .null, .int 0, .null, .null, .null, .int 0, .null, .int 0, .null, .null, .null, .null, .null, .int 0, .int 0, .int 0, .long 0, .long 0]))]) hD hS hA
  refine va_callv (va_runI (g := F0 m 12 ls [.ref q8, .ref q8]) (As := []) (rest := [.ref q8]) ⟨hx, hb, hml, hown, hw⟩ (kX4_init l D q8 H.size) (cwI 0 hw (ez_gN mw425) rfl rfl rfl (hw _ mw4) (hw _ mw423) (hw _ mw424) rfl (by decide +kernel) ⟨Nat.le_of_ble_eq_true rfl, Nat.le_of_ble_eq_true rfl⟩) (ez_preS (wr := (wC a k z0)) (wl := [(q8, .inr (4, [.int 0, .null, .null, .int 0, .null, .null, .null, .int 0, .null, .int 0, .null, .null, .null, .null, .null, .int 0, .int 0, .int 0, .long 0, .long 0]))]) hP hD hK hN) rfl rfl hl.1 rfl (lv_room (Nat.le_of_ble_eq_true rfl)) dL_law_12 ⟨Nat.le_of_ble_eq_true rfl, Nat.le_of_ble_eq_true rfl⟩) hS (fun q _ h => hF q h) hF (fun u t9 H1 locs ht hvm hp hB hz hk hS => ?_)
  obtain ⟨hP1, hK1, hD1⟩ := hB
  rw [ht] at hP1
  replace hK1 := va_K.moved hvm.symm hK1
  obtain ⟨hP2, hD2⟩ := ez_join (wr := (wC a k z0)) (wl := [(q8, .inr (4, [.int 0, .null, .null, .int 0, .null, .null, .null, .int 0, .null, .int 0, .null, .null, .null, .null, .null, .int 0, .int 0, .int 0, .long 0, .long 0]))]) hP hD hk hF hP1 hD1
  clear hP hD hP1 hD1 hk hz ht hvm hF
  generalize H1 = H at hP2 hS ⊢
  obtain ⟨a2, k2⟩ := u
  replace hp : a2 0 = q8 := hp
  subst hp
  have hP : va_P D vwCl (wC a k z0 ++ wM a2 k2 ez_w0) H := hP2
  have hD : va_D (lx_A s) (wC a k z0 ++ wM a2 k2 ez_w0) := hD2
  have hKm : va_K D vwCl (tM k2) s := hK1
  clear hP2 hD2 hK1
  refine lv_astore_n (pc := 15) hx hb dL_law_15 rfl hl (by decide) rfl (fun ls hl => ?_)
  replace hl : lv_has ls 4 [(2, .ref (a2 0)), (1, .ref (a 0)), (0, .ref b)] := hl
  refine lv_iconst (v := 0) (pc := 16) hx hb dL_law_16 rfl ?_
  refine lv_istore_n (pc := 17) hx hb dL_law_17 rfl hl (by decide) rfl (fun ls hl => ?_)
  replace hl : lv_has ls 4 [(3, .int (nI (5 * 0))), (2, .ref (a2 0)), (1, .ref (a 0)), (0, .ref b)] := hl
  refine W.widen (k := 25 + 0) (n := 1617 + 6 * 0) (Nat.le_of_ble_eq_true rfl) (Nat.le_of_ble_eq_true rfl) ?_
  exact lx_loop hops C1 hKc hKm hL 512 0 (by decide) H _ z0 ez_w0 ls hl hP hD hS hR
