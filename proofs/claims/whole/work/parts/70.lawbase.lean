/-! THE CLAIM OUT OF ONE WALK OF THE LAW'S BODY. Your part is whole_start (and what it stands on); all else here is the same for every law, but numbers. -/
def R_law : String := "EpochDirectoryLaw"
def lw_P (b : Addr) (xs : List Int32) (args : Array Value) (s : State) : Prop := args = #[.ref b] ∧ s.IntsAt b xs ∧ xs.length ≤ 3073 ∧ (Jvm.Cond.and given_1 narrow_1).before args s = true
def lw_Q (_ : Array Value) (s : State) (o : Outcome) (t : State) : Prop := o = .returned (some (.int 1)) ∧ Framed s o t [] 600000 7302250
def lw_Z (below : List Frame) (a : Array Value) (s : State) : State → Prop := fun t => ∃ o, t.status = .running ∧ Ended t below o ∧ lw_Q a s o t
/-- the law's own end, with 1 on the stack, nothing written that was there before, its room as the claim has it -/
theorem lw_ret {p : Program} {l : Launch} {e : Env} {s : State} {m : MethodId} {below : List Frame} {meth : Method} {c : Code} {b : Nat} (hx : p.tables.exec = Jvm.exec) (hb : c.code = code) (hr : meth.sig.returnType = ret) (hlocks : meth.locks = false) {pc : Nat} {H : Heap} {ls : Array Slot} (hdg : decode code pc = .ok (.ireturn, 1)) : W p l e room_1 s m #[Value.ref b] below meth c H [] 600000 7302250 (lw_Z below #[Value.ref b] s) (F0 m pc ls [.int 1]) := by
  intro T hT X
  obtain ⟨fs, hret, hrun, hended, hW, hframe⟩ := X.leave (v := some (.int 1)) (hlocks := hlocks) (fun h => by rw [hr] at h; cases h)
  have hmeth' : T.vm.method? m = some meth := X.method'
  refine ⟨T.setFrames fs, ?_, .returned (some (.int 1)), hrun, hended, rfl, ⟨_, rfl⟩, hW, hframe⟩
  jvm_step X.here [X.here.top, hx, hb, hdg, hmeth', hr, ret, narrow_b1]
  (try refine ⟨rfl, ?_⟩); (try refine ⟨rfl, ?_⟩)
  first | (intro acts; rw [hret _ acts rfl rfl rfl]) | rw [hret _ _ rfl rfl rfl]
  exact Steps.refl _
/-- what holds at the law's entry: the machine, the code, the tables' words (any of lw_tbl by 'hts w (by decide +kernel)'), the script of L ints xs at the cell b, what the Statement gives of the start (any of its parts by flat_of_before) -/
def lw_At (p : Program) (s : State) (m : MethodId) (meth : Method) (c : Code) (b L : Nat) (xs : Nat → Int32) : Prop :=
  p.tables.exec = Jvm.exec ∧ c.code = code ∧ meth.sig.returnType = ret ∧ c.maxLocals = 4 ∧ s.vm.findClass R_law = some m.cls ∧ (∀ w ∈ lw_tbl, w.before #[Value.ref b] s = true) ∧ va_X b L xs s s.heap ∧ b < s.heap.size ∧ meth.locks = false ∧ (Jvm.Cond.and given_1 narrow_1).before #[Value.ref b] s = true
theorem zci_6 : Int32.ofInt 6 = 6 := by decide +kernel
abbrev mz_La_law : zM := (x, code, 4, ret)
abbrev mz_La_cell : zM := (⟨"EpochDirectoryLaw", "cell", "([II)I"⟩, method_2_code, 2, some .int)
def zX (b Ls : Nat) (xs : Nat → Int32) : zXt := fun R args s A => R = room_1 ∧ args = #[Value.ref b] ∧ va_X b Ls xs s s.heap ∧ b < s.heap.size ∧ ¬ A b ∧ (∀ q, A q → s.heap.size ≤ q)
def zLw : zFin := fun below args s _ => lw_Z below args s
section zLawRules
variable {E : zE} {shp : List zSh} {a : Nat → Nat} {y : zM} {d mc ms : Nat} {X : zXt} {F : zFin} {pc n : Nat} {L : List (Option Value)} {st : List Value} {M : zMem} {ws : va_W} {cells slots b Ls : Nat} {xs : Nat → Int32}
theorem zJ_sld {i : Int32} (hd : decode y.2.1 pc = .ok (.iaload, 1)) (hn : pc + 1 = n) (hi : zin i Ls = true) (k : zJ E y d mc ms (zX b Ls xs) F n L (.int (xs i.toNatClampNeg) :: st) ws cells slots) : zJ E y d mc ms (zX b Ls xs) F pc L (.int i :: .ref b :: st) ws cells slots := by
  subst hn
  intro p l e R s m args below meth c A H locs ls C hP hD hS hL
  obtain ⟨h1, h2, h3, h4, h5, h6⟩ := C.2.2.2.2.2.2.2.2.2.2.2.2.2.2.2
  exact va_sld C.1 C.2.1 h3 h4 h5 hS (zin_in hi) hd (k p l e R s m args below meth c A H locs ls C hP hD hS hL)
theorem zJ_slen (hd : decode y.2.1 pc = .ok (.arraylength, 1)) (hn : pc + 1 = n) (k : zJ E y d mc ms (zX b Ls xs) F n L (.int (Int32.ofNat Ls) :: st) ws cells slots) : zJ E y d mc ms (zX b Ls xs) F pc L (.ref b :: st) ws cells slots := by
  subst hn
  intro p l e R s m args below meth c A H locs ls C hP hD hS hL
  obtain ⟨h1, h2, h3, h4, h5, h6⟩ := C.2.2.2.2.2.2.2.2.2.2.2.2.2.2.2
  exact va_slen C.1 C.2.1 h3 h4 h5 hS hd (k p l e R s m args below meth c A H locs ls C hP hD hS hL)
theorem zJ_lret (hd : decode code pc = .ok (.ireturn, 1)) : zJ E mz_La_law d mc ms (zX b Ls xs) zLw pc L [.int 1] ws 600000 7302250 := by
  intro p l e R s m args below meth c A H locs ls C hP hD hS hL
  obtain ⟨rfl, rfl, h3, h4, h5, h6⟩ := C.2.2.2.2.2.2.2.2.2.2.2.2.2.2.2
  exact va_forget (fun q hq => h6 _ (hS.2.2 q hq)) (lw_ret C.1 C.2.1 C.2.2.2.1 C.2.2.2.2.1 hd)
theorem zJ_callVs {idx d' k0 ci nA : Nat} {yc : zM} {avs rest : List Value} {fs : List (Option Nat)} {z : Int32 × zMem} (hd : decode y.2.1 pc = .ok (.invokevirtual idx, 3)) (hn : pc + 3 = n) (hk : zVk E y.1.cls idx yc nA ci) (hs : shp[k0]? = some (.inr (.inl (ci, fs)))) (hst : st = avs.reverse ++ .ref (a k0) :: rest) (hA : avs.length = nA) (hrest : (rest.map fun v => v.category).sum ≤ 8) (hd' : d' + 1 ≤ d)
    (hM : zK E shp a yc d' (.ref (a k0) :: avs) M (zRi z)) (k : zJ E y d mc ms X F n L (.int z.1 :: rest) (zw E.2.2.2 a z.2 0 shp) mc ms) : zJ E y d mc ms X F pc L st (zw E.2.2.2 a M 0 shp) mc ms := by
  subst hA
  obtain ⟨hG, hl, hi, hsl, hnm, hmx, T, N, hci⟩ := hk
  refine zJ_callV (mc' := 0) (ms' := 0) (wc := zw E.2.2.2 a M 0 shp) (wr := []) hG hd hn hl hi hsl hnm (zw_at hs) hci hst hrest hd' hmx (Nat.le_refl _) (Nat.le_refl _) (List.range (zw E.2.2.2 a M 0 shp).length) [] (zAll _) (zAllnd _) rfl rfl (fun i h => by cases h) hM ?_
  rintro v w1 ⟨M1, rfl, rfl, rfl⟩
  exact k
end zLawRules
theorem d_La_law_0 : decode code 0 = .ok (.new 7, 3) := by decide +kernel
theorem d_La_law_3 : decode code 3 = .ok (.dup, 1) := by decide +kernel
theorem d_La_law_4 : decode code 4 = .ok (.aload_n 0, 1) := by decide +kernel
theorem d_La_law_5 : decode code 5 = .ok (.iconst 0, 1) := by decide +kernel
theorem d_La_law_6 : decode code 6 = .ok (.invokestatic 9, 3) := by decide +kernel
theorem d_La_law_9 : decode code 9 = .ok (.invokespecial 15, 3) := by decide +kernel
theorem d_La_law_12 : decode code 12 = .ok (.astore_n 1, 1) := by decide +kernel
theorem d_La_law_13 : decode code 13 = .ok (.new 18, 3) := by decide +kernel
theorem d_La_law_16 : decode code 16 = .ok (.dup, 1) := by decide +kernel
theorem d_La_law_17 : decode code 17 = .ok (.aload_n 0, 1) := by decide +kernel
theorem d_La_law_18 : decode code 18 = .ok (.iconst 0, 1) := by decide +kernel
theorem d_La_law_19 : decode code 19 = .ok (.invokestatic 9, 3) := by decide +kernel
theorem d_La_law_22 : decode code 22 = .ok (.invokespecial 20, 3) := by decide +kernel
theorem d_La_law_25 : decode code 25 = .ok (.astore_n 2, 1) := by decide +kernel
theorem d_La_law_26 : decode code 26 = .ok (.iconst 1, 1) := by decide +kernel
theorem d_La_law_27 : decode code 27 = .ok (.istore_n 3, 1) := by decide +kernel
theorem d_La_law_28 : decode code 28 = .ok (.iload_n 3, 1) := by decide +kernel
theorem d_La_law_29 : decode code 29 = .ok (.aload_n 0, 1) := by decide +kernel
theorem d_La_law_30 : decode code 30 = .ok (.arraylength, 1) := by decide +kernel
theorem d_La_law_31 : decode code 31 = .ok (.bipush 6, 2) := by decide +kernel
theorem d_La_law_33 : decode code 33 = .ok (.isub, 1) := by decide +kernel
theorem d_La_law_34 : decode code 34 = .ok (.if_icmp .gt 808, 3) := by decide +kernel
theorem d_La_law_37 : decode code 37 = .ok (.aload_n 0, 1) := by decide +kernel
theorem d_La_law_38 : decode code 38 = .ok (.iload_n 3, 1) := by decide +kernel
theorem d_La_law_39 : decode code 39 = .ok (.iaload, 1) := by decide +kernel
theorem d_La_law_40 : decode code 40 = .ok (.bipush 31, 2) := by decide +kernel
theorem d_La_law_42 : decode code 42 = .ok (.iand, 1) := by decide +kernel
theorem d_La_law_43 : decode code 43 = .ok (.tableswitch 793 0 19 #[93, 136, 169, 182, 205, 218, 241, 264, 297, 320, 373, 406, 449, 482, 525, 588, 651, 694, 717, 770], 93) := by decide +kernel
theorem d_La_law_136 : decode code 136 = .ok (.aload_n 1, 1) := by decide +kernel
theorem d_La_law_137 : decode code 137 = .ok (.aload_n 0, 1) := by decide +kernel
theorem d_La_law_138 : decode code 138 = .ok (.iload_n 3, 1) := by decide +kernel
theorem d_La_law_139 : decode code 139 = .ok (.iconst 1, 1) := by decide +kernel
theorem d_La_law_140 : decode code 140 = .ok (.iadd, 1) := by decide +kernel
theorem d_La_law_141 : decode code 141 = .ok (.iaload, 1) := by decide +kernel
theorem d_La_law_142 : decode code 142 = .ok (.aload_n 0, 1) := by decide +kernel
theorem d_La_law_143 : decode code 143 = .ok (.iload_n 3, 1) := by decide +kernel
theorem d_La_law_144 : decode code 144 = .ok (.iconst 2, 1) := by decide +kernel
theorem d_La_law_145 : decode code 145 = .ok (.iadd, 1) := by decide +kernel
theorem d_La_law_146 : decode code 146 = .ok (.iaload, 1) := by decide +kernel
theorem d_La_law_147 : decode code 147 = .ok (.aload_n 0, 1) := by decide +kernel
theorem d_La_law_148 : decode code 148 = .ok (.iload_n 3, 1) := by decide +kernel
theorem d_La_law_149 : decode code 149 = .ok (.iconst 3, 1) := by decide +kernel
theorem d_La_law_150 : decode code 150 = .ok (.iadd, 1) := by decide +kernel
theorem d_La_law_151 : decode code 151 = .ok (.iaload, 1) := by decide +kernel
theorem d_La_law_152 : decode code 152 = .ok (.invokevirtual 21, 3) := by decide +kernel
theorem d_La_law_155 : decode code 155 = .ok (.aload_n 2, 1) := by decide +kernel
theorem d_La_law_156 : decode code 156 = .ok (.aload_n 0, 1) := by decide +kernel
theorem d_La_law_157 : decode code 157 = .ok (.iload_n 3, 1) := by decide +kernel
theorem d_La_law_158 : decode code 158 = .ok (.iconst 1, 1) := by decide +kernel
theorem d_La_law_159 : decode code 159 = .ok (.iadd, 1) := by decide +kernel
theorem d_La_law_160 : decode code 160 = .ok (.iaload, 1) := by decide +kernel
theorem d_La_law_161 : decode code 161 = .ok (.aload_n 0, 1) := by decide +kernel
theorem d_La_law_162 : decode code 162 = .ok (.iload_n 3, 1) := by decide +kernel
theorem d_La_law_163 : decode code 163 = .ok (.iconst 2, 1) := by decide +kernel
theorem d_La_law_164 : decode code 164 = .ok (.iadd, 1) := by decide +kernel
theorem d_La_law_165 : decode code 165 = .ok (.iaload, 1) := by decide +kernel
theorem d_La_law_166 : decode code 166 = .ok (.aload_n 0, 1) := by decide +kernel
theorem d_La_law_167 : decode code 167 = .ok (.iload_n 3, 1) := by decide +kernel
theorem d_La_law_168 : decode code 168 = .ok (.iconst 3, 1) := by decide +kernel
theorem d_La_law_169 : decode code 169 = .ok (.iadd, 1) := by decide +kernel
theorem d_La_law_170 : decode code 170 = .ok (.iaload, 1) := by decide +kernel
theorem d_La_law_171 : decode code 171 = .ok (.invokevirtual 25, 3) := by decide +kernel
theorem d_La_law_174 : decode code 174 = .ok (.if_icmp .eq 662, 3) := by decide +kernel
theorem d_La_law_177 : decode code 177 = .ok (.iconst 0, 1) := by decide +kernel
theorem d_La_law_178 : decode code 178 = .ok (.ireturn, 1) := by decide +kernel
theorem d_La_law_179 : decode code 179 = .ok (.aload_n 1, 1) := by decide +kernel
theorem d_La_law_180 : decode code 180 = .ok (.aload_n 0, 1) := by decide +kernel
theorem d_La_law_181 : decode code 181 = .ok (.iload_n 3, 1) := by decide +kernel
theorem d_La_law_182 : decode code 182 = .ok (.iconst 1, 1) := by decide +kernel
theorem d_La_law_183 : decode code 183 = .ok (.iadd, 1) := by decide +kernel
theorem d_La_law_184 : decode code 184 = .ok (.iaload, 1) := by decide +kernel
theorem d_La_law_185 : decode code 185 = .ok (.aload_n 0, 1) := by decide +kernel
theorem d_La_law_186 : decode code 186 = .ok (.iload_n 3, 1) := by decide +kernel
theorem d_La_law_187 : decode code 187 = .ok (.iconst 2, 1) := by decide +kernel
theorem d_La_law_188 : decode code 188 = .ok (.iadd, 1) := by decide +kernel
theorem d_La_law_189 : decode code 189 = .ok (.iaload, 1) := by decide +kernel
theorem d_La_law_190 : decode code 190 = .ok (.invokevirtual 26, 3) := by decide +kernel
theorem d_La_law_193 : decode code 193 = .ok (.aload_n 2, 1) := by decide +kernel
theorem d_La_law_194 : decode code 194 = .ok (.aload_n 0, 1) := by decide +kernel
theorem d_La_law_195 : decode code 195 = .ok (.iload_n 3, 1) := by decide +kernel
theorem d_La_law_196 : decode code 196 = .ok (.iconst 1, 1) := by decide +kernel
theorem d_La_law_197 : decode code 197 = .ok (.iadd, 1) := by decide +kernel
theorem d_La_law_198 : decode code 198 = .ok (.iaload, 1) := by decide +kernel
theorem d_La_law_199 : decode code 199 = .ok (.aload_n 0, 1) := by decide +kernel
theorem d_La_law_200 : decode code 200 = .ok (.iload_n 3, 1) := by decide +kernel
theorem d_La_law_201 : decode code 201 = .ok (.iconst 2, 1) := by decide +kernel
theorem d_La_law_202 : decode code 202 = .ok (.iadd, 1) := by decide +kernel
theorem d_La_law_203 : decode code 203 = .ok (.iaload, 1) := by decide +kernel
theorem d_La_law_204 : decode code 204 = .ok (.invokevirtual 30, 3) := by decide +kernel
theorem d_La_law_207 : decode code 207 = .ok (.if_icmp .eq 629, 3) := by decide +kernel
theorem d_La_law_210 : decode code 210 = .ok (.iconst 0, 1) := by decide +kernel
theorem d_La_law_211 : decode code 211 = .ok (.ireturn, 1) := by decide +kernel
theorem d_La_law_212 : decode code 212 = .ok (.aload_n 1, 1) := by decide +kernel
theorem d_La_law_213 : decode code 213 = .ok (.invokevirtual 31, 3) := by decide +kernel
theorem d_La_law_216 : decode code 216 = .ok (.aload_n 2, 1) := by decide +kernel
theorem d_La_law_217 : decode code 217 = .ok (.invokevirtual 35, 3) := by decide +kernel
theorem d_La_law_220 : decode code 220 = .ok (.if_icmp .eq 616, 3) := by decide +kernel
theorem d_La_law_223 : decode code 223 = .ok (.iconst 0, 1) := by decide +kernel
theorem d_La_law_224 : decode code 224 = .ok (.ireturn, 1) := by decide +kernel
theorem d_La_law_225 : decode code 225 = .ok (.aload_n 1, 1) := by decide +kernel
theorem d_La_law_226 : decode code 226 = .ok (.aload_n 0, 1) := by decide +kernel
theorem d_La_law_227 : decode code 227 = .ok (.iload_n 3, 1) := by decide +kernel
theorem d_La_law_228 : decode code 228 = .ok (.iconst 1, 1) := by decide +kernel
theorem d_La_law_229 : decode code 229 = .ok (.iadd, 1) := by decide +kernel
theorem d_La_law_230 : decode code 230 = .ok (.iaload, 1) := by decide +kernel
theorem d_La_law_231 : decode code 231 = .ok (.invokevirtual 36, 3) := by decide +kernel
theorem d_La_law_234 : decode code 234 = .ok (.aload_n 2, 1) := by decide +kernel
theorem d_La_law_235 : decode code 235 = .ok (.aload_n 0, 1) := by decide +kernel
theorem d_La_law_236 : decode code 236 = .ok (.iload_n 3, 1) := by decide +kernel
theorem d_La_law_237 : decode code 237 = .ok (.iconst 1, 1) := by decide +kernel
theorem d_La_law_238 : decode code 238 = .ok (.iadd, 1) := by decide +kernel
theorem d_La_law_239 : decode code 239 = .ok (.iaload, 1) := by decide +kernel
theorem d_La_law_240 : decode code 240 = .ok (.invokevirtual 40, 3) := by decide +kernel
theorem d_La_law_243 : decode code 243 = .ok (.if_icmp .eq 593, 3) := by decide +kernel
theorem d_La_law_246 : decode code 246 = .ok (.iconst 0, 1) := by decide +kernel
theorem d_La_law_247 : decode code 247 = .ok (.ireturn, 1) := by decide +kernel
theorem d_La_law_248 : decode code 248 = .ok (.aload_n 1, 1) := by decide +kernel
theorem d_La_law_249 : decode code 249 = .ok (.invokevirtual 41, 3) := by decide +kernel
theorem d_La_law_252 : decode code 252 = .ok (.aload_n 2, 1) := by decide +kernel
theorem d_La_law_253 : decode code 253 = .ok (.invokevirtual 44, 3) := by decide +kernel
theorem d_La_law_256 : decode code 256 = .ok (.if_icmp .eq 580, 3) := by decide +kernel
theorem d_La_law_259 : decode code 259 = .ok (.iconst 0, 1) := by decide +kernel
theorem d_La_law_260 : decode code 260 = .ok (.ireturn, 1) := by decide +kernel
theorem d_La_law_261 : decode code 261 = .ok (.aload_n 1, 1) := by decide +kernel
theorem d_La_law_262 : decode code 262 = .ok (.aload_n 0, 1) := by decide +kernel
theorem d_La_law_263 : decode code 263 = .ok (.iload_n 3, 1) := by decide +kernel
theorem d_La_law_264 : decode code 264 = .ok (.iconst 1, 1) := by decide +kernel
theorem d_La_law_265 : decode code 265 = .ok (.iadd, 1) := by decide +kernel
theorem d_La_law_266 : decode code 266 = .ok (.iaload, 1) := by decide +kernel
theorem d_La_law_267 : decode code 267 = .ok (.invokevirtual 45, 3) := by decide +kernel
theorem d_La_law_270 : decode code 270 = .ok (.aload_n 2, 1) := by decide +kernel
theorem d_La_law_271 : decode code 271 = .ok (.aload_n 0, 1) := by decide +kernel
theorem d_La_law_272 : decode code 272 = .ok (.iload_n 3, 1) := by decide +kernel
theorem d_La_law_273 : decode code 273 = .ok (.iconst 1, 1) := by decide +kernel
theorem d_La_law_274 : decode code 274 = .ok (.iadd, 1) := by decide +kernel
theorem d_La_law_275 : decode code 275 = .ok (.iaload, 1) := by decide +kernel
theorem d_La_law_276 : decode code 276 = .ok (.invokevirtual 49, 3) := by decide +kernel
theorem d_La_law_279 : decode code 279 = .ok (.if_icmp .eq 557, 3) := by decide +kernel
theorem d_La_law_282 : decode code 282 = .ok (.iconst 0, 1) := by decide +kernel
theorem d_La_law_283 : decode code 283 = .ok (.ireturn, 1) := by decide +kernel
theorem d_La_law_284 : decode code 284 = .ok (.aload_n 1, 1) := by decide +kernel
theorem d_La_law_285 : decode code 285 = .ok (.aload_n 0, 1) := by decide +kernel
theorem d_La_law_286 : decode code 286 = .ok (.iload_n 3, 1) := by decide +kernel
theorem d_La_law_287 : decode code 287 = .ok (.iconst 1, 1) := by decide +kernel
theorem d_La_law_288 : decode code 288 = .ok (.iadd, 1) := by decide +kernel
theorem d_La_law_289 : decode code 289 = .ok (.iaload, 1) := by decide +kernel
theorem d_La_law_290 : decode code 290 = .ok (.invokevirtual 50, 3) := by decide +kernel
theorem d_La_law_293 : decode code 293 = .ok (.aload_n 2, 1) := by decide +kernel
theorem d_La_law_294 : decode code 294 = .ok (.aload_n 0, 1) := by decide +kernel
theorem d_La_law_295 : decode code 295 = .ok (.iload_n 3, 1) := by decide +kernel
theorem d_La_law_296 : decode code 296 = .ok (.iconst 1, 1) := by decide +kernel
theorem d_La_law_297 : decode code 297 = .ok (.iadd, 1) := by decide +kernel
theorem d_La_law_298 : decode code 298 = .ok (.iaload, 1) := by decide +kernel
theorem d_La_law_299 : decode code 299 = .ok (.invokevirtual 53, 3) := by decide +kernel
theorem d_La_law_302 : decode code 302 = .ok (.if_icmp .eq 534, 3) := by decide +kernel
theorem d_La_law_305 : decode code 305 = .ok (.iconst 0, 1) := by decide +kernel
theorem d_La_law_306 : decode code 306 = .ok (.ireturn, 1) := by decide +kernel
theorem d_La_law_307 : decode code 307 = .ok (.aload_n 1, 1) := by decide +kernel
theorem d_La_law_308 : decode code 308 = .ok (.aload_n 0, 1) := by decide +kernel
theorem d_La_law_309 : decode code 309 = .ok (.iload_n 3, 1) := by decide +kernel
theorem d_La_law_310 : decode code 310 = .ok (.iconst 1, 1) := by decide +kernel
theorem d_La_law_311 : decode code 311 = .ok (.iadd, 1) := by decide +kernel
theorem d_La_law_312 : decode code 312 = .ok (.iaload, 1) := by decide +kernel
theorem d_La_law_313 : decode code 313 = .ok (.aload_n 0, 1) := by decide +kernel
theorem d_La_law_314 : decode code 314 = .ok (.iload_n 3, 1) := by decide +kernel
theorem d_La_law_315 : decode code 315 = .ok (.iconst 2, 1) := by decide +kernel
theorem d_La_law_316 : decode code 316 = .ok (.iadd, 1) := by decide +kernel
theorem d_La_law_317 : decode code 317 = .ok (.iaload, 1) := by decide +kernel
theorem d_La_law_318 : decode code 318 = .ok (.invokevirtual 54, 3) := by decide +kernel
theorem d_La_law_321 : decode code 321 = .ok (.aload_n 2, 1) := by decide +kernel
theorem d_La_law_322 : decode code 322 = .ok (.aload_n 0, 1) := by decide +kernel
theorem d_La_law_323 : decode code 323 = .ok (.iload_n 3, 1) := by decide +kernel
theorem d_La_law_324 : decode code 324 = .ok (.iconst 1, 1) := by decide +kernel
theorem d_La_law_325 : decode code 325 = .ok (.iadd, 1) := by decide +kernel
theorem d_La_law_326 : decode code 326 = .ok (.iaload, 1) := by decide +kernel
theorem d_La_law_327 : decode code 327 = .ok (.aload_n 0, 1) := by decide +kernel
theorem d_La_law_328 : decode code 328 = .ok (.iload_n 3, 1) := by decide +kernel
theorem d_La_law_329 : decode code 329 = .ok (.iconst 2, 1) := by decide +kernel
theorem d_La_law_330 : decode code 330 = .ok (.iadd, 1) := by decide +kernel
theorem d_La_law_331 : decode code 331 = .ok (.iaload, 1) := by decide +kernel
theorem d_La_law_332 : decode code 332 = .ok (.invokevirtual 57, 3) := by decide +kernel
theorem d_La_law_335 : decode code 335 = .ok (.if_icmp .eq 501, 3) := by decide +kernel
theorem d_La_law_338 : decode code 338 = .ok (.iconst 0, 1) := by decide +kernel
theorem d_La_law_339 : decode code 339 = .ok (.ireturn, 1) := by decide +kernel
theorem d_La_law_340 : decode code 340 = .ok (.aload_n 1, 1) := by decide +kernel
theorem d_La_law_341 : decode code 341 = .ok (.aload_n 0, 1) := by decide +kernel
theorem d_La_law_342 : decode code 342 = .ok (.iload_n 3, 1) := by decide +kernel
theorem d_La_law_343 : decode code 343 = .ok (.iconst 1, 1) := by decide +kernel
theorem d_La_law_344 : decode code 344 = .ok (.iadd, 1) := by decide +kernel
theorem d_La_law_345 : decode code 345 = .ok (.iaload, 1) := by decide +kernel
theorem d_La_law_346 : decode code 346 = .ok (.invokevirtual 58, 3) := by decide +kernel
theorem d_La_law_349 : decode code 349 = .ok (.aload_n 2, 1) := by decide +kernel
theorem d_La_law_350 : decode code 350 = .ok (.aload_n 0, 1) := by decide +kernel
theorem d_La_law_351 : decode code 351 = .ok (.iload_n 3, 1) := by decide +kernel
theorem d_La_law_352 : decode code 352 = .ok (.iconst 1, 1) := by decide +kernel
theorem d_La_law_353 : decode code 353 = .ok (.iadd, 1) := by decide +kernel
theorem d_La_law_354 : decode code 354 = .ok (.iaload, 1) := by decide +kernel
theorem d_La_law_355 : decode code 355 = .ok (.invokevirtual 61, 3) := by decide +kernel
theorem d_La_law_358 : decode code 358 = .ok (.if_icmp .eq 478, 3) := by decide +kernel
theorem d_La_law_361 : decode code 361 = .ok (.iconst 0, 1) := by decide +kernel
theorem d_La_law_362 : decode code 362 = .ok (.ireturn, 1) := by decide +kernel
theorem d_La_law_363 : decode code 363 = .ok (.aload_n 1, 1) := by decide +kernel
theorem d_La_law_364 : decode code 364 = .ok (.aload_n 0, 1) := by decide +kernel
theorem d_La_law_365 : decode code 365 = .ok (.iload_n 3, 1) := by decide +kernel
theorem d_La_law_366 : decode code 366 = .ok (.iconst 1, 1) := by decide +kernel
theorem d_La_law_367 : decode code 367 = .ok (.iadd, 1) := by decide +kernel
theorem d_La_law_368 : decode code 368 = .ok (.iaload, 1) := by decide +kernel
theorem d_La_law_369 : decode code 369 = .ok (.aload_n 0, 1) := by decide +kernel
theorem d_La_law_370 : decode code 370 = .ok (.iload_n 3, 1) := by decide +kernel
theorem d_La_law_371 : decode code 371 = .ok (.iconst 2, 1) := by decide +kernel
theorem d_La_law_372 : decode code 372 = .ok (.iadd, 1) := by decide +kernel
theorem d_La_law_373 : decode code 373 = .ok (.iaload, 1) := by decide +kernel
theorem d_La_law_374 : decode code 374 = .ok (.aload_n 0, 1) := by decide +kernel
theorem d_La_law_375 : decode code 375 = .ok (.iload_n 3, 1) := by decide +kernel
theorem d_La_law_376 : decode code 376 = .ok (.iconst 3, 1) := by decide +kernel
theorem d_La_law_377 : decode code 377 = .ok (.iadd, 1) := by decide +kernel
theorem d_La_law_378 : decode code 378 = .ok (.iaload, 1) := by decide +kernel
theorem d_La_law_379 : decode code 379 = .ok (.aload_n 0, 1) := by decide +kernel
theorem d_La_law_380 : decode code 380 = .ok (.iload_n 3, 1) := by decide +kernel
theorem d_La_law_381 : decode code 381 = .ok (.iconst 4, 1) := by decide +kernel
theorem d_La_law_382 : decode code 382 = .ok (.iadd, 1) := by decide +kernel
theorem d_La_law_383 : decode code 383 = .ok (.iaload, 1) := by decide +kernel
theorem d_La_law_384 : decode code 384 = .ok (.invokevirtual 62, 3) := by decide +kernel
theorem d_La_law_387 : decode code 387 = .ok (.aload_n 2, 1) := by decide +kernel
theorem d_La_law_388 : decode code 388 = .ok (.aload_n 0, 1) := by decide +kernel
theorem d_La_law_389 : decode code 389 = .ok (.iload_n 3, 1) := by decide +kernel
theorem d_La_law_390 : decode code 390 = .ok (.iconst 1, 1) := by decide +kernel
theorem d_La_law_391 : decode code 391 = .ok (.iadd, 1) := by decide +kernel
theorem d_La_law_392 : decode code 392 = .ok (.iaload, 1) := by decide +kernel
theorem d_La_law_393 : decode code 393 = .ok (.aload_n 0, 1) := by decide +kernel
theorem d_La_law_394 : decode code 394 = .ok (.iload_n 3, 1) := by decide +kernel
theorem d_La_law_395 : decode code 395 = .ok (.iconst 2, 1) := by decide +kernel
theorem d_La_law_396 : decode code 396 = .ok (.iadd, 1) := by decide +kernel
theorem d_La_law_397 : decode code 397 = .ok (.iaload, 1) := by decide +kernel
theorem d_La_law_398 : decode code 398 = .ok (.aload_n 0, 1) := by decide +kernel
theorem d_La_law_399 : decode code 399 = .ok (.iload_n 3, 1) := by decide +kernel
theorem d_La_law_400 : decode code 400 = .ok (.iconst 3, 1) := by decide +kernel
theorem d_La_law_401 : decode code 401 = .ok (.iadd, 1) := by decide +kernel
theorem d_La_law_402 : decode code 402 = .ok (.iaload, 1) := by decide +kernel
theorem d_La_law_403 : decode code 403 = .ok (.aload_n 0, 1) := by decide +kernel
theorem d_La_law_404 : decode code 404 = .ok (.iload_n 3, 1) := by decide +kernel
theorem d_La_law_405 : decode code 405 = .ok (.iconst 4, 1) := by decide +kernel
theorem d_La_law_406 : decode code 406 = .ok (.iadd, 1) := by decide +kernel
theorem d_La_law_407 : decode code 407 = .ok (.iaload, 1) := by decide +kernel
theorem d_La_law_408 : decode code 408 = .ok (.invokevirtual 66, 3) := by decide +kernel
theorem d_La_law_411 : decode code 411 = .ok (.if_icmp .eq 425, 3) := by decide +kernel
theorem d_La_law_414 : decode code 414 = .ok (.iconst 0, 1) := by decide +kernel
theorem d_La_law_415 : decode code 415 = .ok (.ireturn, 1) := by decide +kernel
theorem d_La_law_416 : decode code 416 = .ok (.aload_n 1, 1) := by decide +kernel
theorem d_La_law_417 : decode code 417 = .ok (.aload_n 0, 1) := by decide +kernel
theorem d_La_law_418 : decode code 418 = .ok (.iload_n 3, 1) := by decide +kernel
theorem d_La_law_419 : decode code 419 = .ok (.iconst 1, 1) := by decide +kernel
theorem d_La_law_420 : decode code 420 = .ok (.iadd, 1) := by decide +kernel
theorem d_La_law_421 : decode code 421 = .ok (.iaload, 1) := by decide +kernel
theorem d_La_law_422 : decode code 422 = .ok (.aload_n 0, 1) := by decide +kernel
theorem d_La_law_423 : decode code 423 = .ok (.iload_n 3, 1) := by decide +kernel
theorem d_La_law_424 : decode code 424 = .ok (.iconst 2, 1) := by decide +kernel
theorem d_La_law_425 : decode code 425 = .ok (.iadd, 1) := by decide +kernel
theorem d_La_law_426 : decode code 426 = .ok (.iaload, 1) := by decide +kernel
theorem d_La_law_427 : decode code 427 = .ok (.invokevirtual 67, 3) := by decide +kernel
theorem d_La_law_430 : decode code 430 = .ok (.aload_n 2, 1) := by decide +kernel
theorem d_La_law_431 : decode code 431 = .ok (.aload_n 0, 1) := by decide +kernel
theorem d_La_law_432 : decode code 432 = .ok (.iload_n 3, 1) := by decide +kernel
theorem d_La_law_433 : decode code 433 = .ok (.iconst 1, 1) := by decide +kernel
theorem d_La_law_434 : decode code 434 = .ok (.iadd, 1) := by decide +kernel
theorem d_La_law_435 : decode code 435 = .ok (.iaload, 1) := by decide +kernel
theorem d_La_law_436 : decode code 436 = .ok (.aload_n 0, 1) := by decide +kernel
theorem d_La_law_437 : decode code 437 = .ok (.iload_n 3, 1) := by decide +kernel
theorem d_La_law_438 : decode code 438 = .ok (.iconst 2, 1) := by decide +kernel
theorem d_La_law_439 : decode code 439 = .ok (.iadd, 1) := by decide +kernel
theorem d_La_law_440 : decode code 440 = .ok (.iaload, 1) := by decide +kernel
theorem d_La_law_441 : decode code 441 = .ok (.invokevirtual 70, 3) := by decide +kernel
theorem d_La_law_444 : decode code 444 = .ok (.if_icmp .eq 392, 3) := by decide +kernel
theorem d_La_law_447 : decode code 447 = .ok (.iconst 0, 1) := by decide +kernel
theorem d_La_law_448 : decode code 448 = .ok (.ireturn, 1) := by decide +kernel
theorem d_La_law_449 : decode code 449 = .ok (.aload_n 1, 1) := by decide +kernel
theorem d_La_law_450 : decode code 450 = .ok (.aload_n 0, 1) := by decide +kernel
theorem d_La_law_451 : decode code 451 = .ok (.iload_n 3, 1) := by decide +kernel
theorem d_La_law_452 : decode code 452 = .ok (.iconst 1, 1) := by decide +kernel
theorem d_La_law_453 : decode code 453 = .ok (.iadd, 1) := by decide +kernel
theorem d_La_law_454 : decode code 454 = .ok (.iaload, 1) := by decide +kernel
theorem d_La_law_455 : decode code 455 = .ok (.aload_n 0, 1) := by decide +kernel
theorem d_La_law_456 : decode code 456 = .ok (.iload_n 3, 1) := by decide +kernel
theorem d_La_law_457 : decode code 457 = .ok (.iconst 2, 1) := by decide +kernel
theorem d_La_law_458 : decode code 458 = .ok (.iadd, 1) := by decide +kernel
theorem d_La_law_459 : decode code 459 = .ok (.iaload, 1) := by decide +kernel
theorem d_La_law_460 : decode code 460 = .ok (.aload_n 0, 1) := by decide +kernel
theorem d_La_law_461 : decode code 461 = .ok (.iload_n 3, 1) := by decide +kernel
theorem d_La_law_462 : decode code 462 = .ok (.iconst 3, 1) := by decide +kernel
theorem d_La_law_463 : decode code 463 = .ok (.iadd, 1) := by decide +kernel
theorem d_La_law_464 : decode code 464 = .ok (.iaload, 1) := by decide +kernel
theorem d_La_law_465 : decode code 465 = .ok (.invokevirtual 71, 3) := by decide +kernel
theorem d_La_law_468 : decode code 468 = .ok (.aload_n 2, 1) := by decide +kernel
theorem d_La_law_469 : decode code 469 = .ok (.aload_n 0, 1) := by decide +kernel
theorem d_La_law_470 : decode code 470 = .ok (.iload_n 3, 1) := by decide +kernel
theorem d_La_law_471 : decode code 471 = .ok (.iconst 1, 1) := by decide +kernel
theorem d_La_law_472 : decode code 472 = .ok (.iadd, 1) := by decide +kernel
theorem d_La_law_473 : decode code 473 = .ok (.iaload, 1) := by decide +kernel
theorem d_La_law_474 : decode code 474 = .ok (.aload_n 0, 1) := by decide +kernel
theorem d_La_law_475 : decode code 475 = .ok (.iload_n 3, 1) := by decide +kernel
theorem d_La_law_476 : decode code 476 = .ok (.iconst 2, 1) := by decide +kernel
theorem d_La_law_477 : decode code 477 = .ok (.iadd, 1) := by decide +kernel
theorem d_La_law_478 : decode code 478 = .ok (.iaload, 1) := by decide +kernel
theorem d_La_law_479 : decode code 479 = .ok (.aload_n 0, 1) := by decide +kernel
theorem d_La_law_480 : decode code 480 = .ok (.iload_n 3, 1) := by decide +kernel
theorem d_La_law_481 : decode code 481 = .ok (.iconst 3, 1) := by decide +kernel
theorem d_La_law_482 : decode code 482 = .ok (.iadd, 1) := by decide +kernel
theorem d_La_law_483 : decode code 483 = .ok (.iaload, 1) := by decide +kernel
theorem d_La_law_484 : decode code 484 = .ok (.invokevirtual 75, 3) := by decide +kernel
theorem d_La_law_487 : decode code 487 = .ok (.if_icmp .eq 349, 3) := by decide +kernel
theorem d_La_law_490 : decode code 490 = .ok (.iconst 0, 1) := by decide +kernel
theorem d_La_law_491 : decode code 491 = .ok (.ireturn, 1) := by decide +kernel
theorem d_La_law_492 : decode code 492 = .ok (.aload_n 1, 1) := by decide +kernel
theorem d_La_law_493 : decode code 493 = .ok (.aload_n 0, 1) := by decide +kernel
theorem d_La_law_494 : decode code 494 = .ok (.iload_n 3, 1) := by decide +kernel
theorem d_La_law_495 : decode code 495 = .ok (.iconst 1, 1) := by decide +kernel
theorem d_La_law_496 : decode code 496 = .ok (.iadd, 1) := by decide +kernel
theorem d_La_law_497 : decode code 497 = .ok (.iaload, 1) := by decide +kernel
theorem d_La_law_498 : decode code 498 = .ok (.aload_n 0, 1) := by decide +kernel
theorem d_La_law_499 : decode code 499 = .ok (.iload_n 3, 1) := by decide +kernel
theorem d_La_law_500 : decode code 500 = .ok (.iconst 2, 1) := by decide +kernel
theorem d_La_law_501 : decode code 501 = .ok (.iadd, 1) := by decide +kernel
theorem d_La_law_502 : decode code 502 = .ok (.iaload, 1) := by decide +kernel
theorem d_La_law_503 : decode code 503 = .ok (.invokevirtual 76, 3) := by decide +kernel
theorem d_La_law_506 : decode code 506 = .ok (.aload_n 2, 1) := by decide +kernel
theorem d_La_law_507 : decode code 507 = .ok (.aload_n 0, 1) := by decide +kernel
theorem d_La_law_508 : decode code 508 = .ok (.iload_n 3, 1) := by decide +kernel
theorem d_La_law_509 : decode code 509 = .ok (.iconst 1, 1) := by decide +kernel
theorem d_La_law_510 : decode code 510 = .ok (.iadd, 1) := by decide +kernel
theorem d_La_law_511 : decode code 511 = .ok (.iaload, 1) := by decide +kernel
theorem d_La_law_512 : decode code 512 = .ok (.aload_n 0, 1) := by decide +kernel
theorem d_La_law_513 : decode code 513 = .ok (.iload_n 3, 1) := by decide +kernel
theorem d_La_law_514 : decode code 514 = .ok (.iconst 2, 1) := by decide +kernel
theorem d_La_law_515 : decode code 515 = .ok (.iadd, 1) := by decide +kernel
theorem d_La_law_516 : decode code 516 = .ok (.iaload, 1) := by decide +kernel
theorem d_La_law_517 : decode code 517 = .ok (.invokevirtual 80, 3) := by decide +kernel
theorem d_La_law_520 : decode code 520 = .ok (.if_icmp .eq 316, 3) := by decide +kernel
theorem d_La_law_523 : decode code 523 = .ok (.iconst 0, 1) := by decide +kernel
theorem d_La_law_524 : decode code 524 = .ok (.ireturn, 1) := by decide +kernel
theorem d_La_law_525 : decode code 525 = .ok (.aload_n 1, 1) := by decide +kernel
theorem d_La_law_526 : decode code 526 = .ok (.aload_n 0, 1) := by decide +kernel
theorem d_La_law_527 : decode code 527 = .ok (.iload_n 3, 1) := by decide +kernel
theorem d_La_law_528 : decode code 528 = .ok (.iconst 1, 1) := by decide +kernel
theorem d_La_law_529 : decode code 529 = .ok (.iadd, 1) := by decide +kernel
theorem d_La_law_530 : decode code 530 = .ok (.iaload, 1) := by decide +kernel
theorem d_La_law_531 : decode code 531 = .ok (.aload_n 0, 1) := by decide +kernel
theorem d_La_law_532 : decode code 532 = .ok (.iload_n 3, 1) := by decide +kernel
theorem d_La_law_533 : decode code 533 = .ok (.iconst 2, 1) := by decide +kernel
theorem d_La_law_534 : decode code 534 = .ok (.iadd, 1) := by decide +kernel
theorem d_La_law_535 : decode code 535 = .ok (.iaload, 1) := by decide +kernel
theorem d_La_law_536 : decode code 536 = .ok (.aload_n 0, 1) := by decide +kernel
theorem d_La_law_537 : decode code 537 = .ok (.iload_n 3, 1) := by decide +kernel
theorem d_La_law_538 : decode code 538 = .ok (.iconst 3, 1) := by decide +kernel
theorem d_La_law_539 : decode code 539 = .ok (.iadd, 1) := by decide +kernel
theorem d_La_law_540 : decode code 540 = .ok (.iaload, 1) := by decide +kernel
theorem d_La_law_541 : decode code 541 = .ok (.invokevirtual 81, 3) := by decide +kernel
theorem d_La_law_544 : decode code 544 = .ok (.aload_n 2, 1) := by decide +kernel
theorem d_La_law_545 : decode code 545 = .ok (.aload_n 0, 1) := by decide +kernel
theorem d_La_law_546 : decode code 546 = .ok (.iload_n 3, 1) := by decide +kernel
theorem d_La_law_547 : decode code 547 = .ok (.iconst 1, 1) := by decide +kernel
theorem d_La_law_548 : decode code 548 = .ok (.iadd, 1) := by decide +kernel
theorem d_La_law_549 : decode code 549 = .ok (.iaload, 1) := by decide +kernel
theorem d_La_law_550 : decode code 550 = .ok (.aload_n 0, 1) := by decide +kernel
theorem d_La_law_551 : decode code 551 = .ok (.iload_n 3, 1) := by decide +kernel
theorem d_La_law_552 : decode code 552 = .ok (.iconst 2, 1) := by decide +kernel
theorem d_La_law_553 : decode code 553 = .ok (.iadd, 1) := by decide +kernel
theorem d_La_law_554 : decode code 554 = .ok (.iaload, 1) := by decide +kernel
theorem d_La_law_555 : decode code 555 = .ok (.aload_n 0, 1) := by decide +kernel
theorem d_La_law_556 : decode code 556 = .ok (.iload_n 3, 1) := by decide +kernel
theorem d_La_law_557 : decode code 557 = .ok (.iconst 3, 1) := by decide +kernel
theorem d_La_law_558 : decode code 558 = .ok (.iadd, 1) := by decide +kernel
theorem d_La_law_559 : decode code 559 = .ok (.iaload, 1) := by decide +kernel
theorem d_La_law_560 : decode code 560 = .ok (.invokevirtual 84, 3) := by decide +kernel
theorem d_La_law_563 : decode code 563 = .ok (.if_icmp .eq 273, 3) := by decide +kernel
theorem d_La_law_566 : decode code 566 = .ok (.iconst 0, 1) := by decide +kernel
theorem d_La_law_567 : decode code 567 = .ok (.ireturn, 1) := by decide +kernel
theorem d_La_law_568 : decode code 568 = .ok (.aload_n 1, 1) := by decide +kernel
theorem d_La_law_569 : decode code 569 = .ok (.aload_n 0, 1) := by decide +kernel
theorem d_La_law_570 : decode code 570 = .ok (.iload_n 3, 1) := by decide +kernel
theorem d_La_law_571 : decode code 571 = .ok (.iconst 1, 1) := by decide +kernel
theorem d_La_law_572 : decode code 572 = .ok (.iadd, 1) := by decide +kernel
theorem d_La_law_573 : decode code 573 = .ok (.iaload, 1) := by decide +kernel
theorem d_La_law_574 : decode code 574 = .ok (.aload_n 0, 1) := by decide +kernel
theorem d_La_law_575 : decode code 575 = .ok (.iload_n 3, 1) := by decide +kernel
theorem d_La_law_576 : decode code 576 = .ok (.iconst 2, 1) := by decide +kernel
theorem d_La_law_577 : decode code 577 = .ok (.iadd, 1) := by decide +kernel
theorem d_La_law_578 : decode code 578 = .ok (.iaload, 1) := by decide +kernel
theorem d_La_law_579 : decode code 579 = .ok (.aload_n 0, 1) := by decide +kernel
theorem d_La_law_580 : decode code 580 = .ok (.iload_n 3, 1) := by decide +kernel
theorem d_La_law_581 : decode code 581 = .ok (.iconst 3, 1) := by decide +kernel
theorem d_La_law_582 : decode code 582 = .ok (.iadd, 1) := by decide +kernel
theorem d_La_law_583 : decode code 583 = .ok (.iaload, 1) := by decide +kernel
theorem d_La_law_584 : decode code 584 = .ok (.aload_n 0, 1) := by decide +kernel
theorem d_La_law_585 : decode code 585 = .ok (.iload_n 3, 1) := by decide +kernel
theorem d_La_law_586 : decode code 586 = .ok (.iconst 4, 1) := by decide +kernel
theorem d_La_law_587 : decode code 587 = .ok (.iadd, 1) := by decide +kernel
theorem d_La_law_588 : decode code 588 = .ok (.iaload, 1) := by decide +kernel
theorem d_La_law_589 : decode code 589 = .ok (.aload_n 0, 1) := by decide +kernel
theorem d_La_law_590 : decode code 590 = .ok (.iload_n 3, 1) := by decide +kernel
theorem d_La_law_591 : decode code 591 = .ok (.iconst 5, 1) := by decide +kernel
theorem d_La_law_592 : decode code 592 = .ok (.iadd, 1) := by decide +kernel
theorem d_La_law_593 : decode code 593 = .ok (.iaload, 1) := by decide +kernel
theorem d_La_law_594 : decode code 594 = .ok (.invokevirtual 85, 3) := by decide +kernel
theorem d_La_law_597 : decode code 597 = .ok (.aload_n 2, 1) := by decide +kernel
theorem d_La_law_598 : decode code 598 = .ok (.aload_n 0, 1) := by decide +kernel
theorem d_La_law_599 : decode code 599 = .ok (.iload_n 3, 1) := by decide +kernel
theorem d_La_law_600 : decode code 600 = .ok (.iconst 1, 1) := by decide +kernel
theorem d_La_law_601 : decode code 601 = .ok (.iadd, 1) := by decide +kernel
theorem d_La_law_602 : decode code 602 = .ok (.iaload, 1) := by decide +kernel
theorem d_La_law_603 : decode code 603 = .ok (.aload_n 0, 1) := by decide +kernel
theorem d_La_law_604 : decode code 604 = .ok (.iload_n 3, 1) := by decide +kernel
theorem d_La_law_605 : decode code 605 = .ok (.iconst 2, 1) := by decide +kernel
theorem d_La_law_606 : decode code 606 = .ok (.iadd, 1) := by decide +kernel
theorem d_La_law_607 : decode code 607 = .ok (.iaload, 1) := by decide +kernel
theorem d_La_law_608 : decode code 608 = .ok (.aload_n 0, 1) := by decide +kernel
theorem d_La_law_609 : decode code 609 = .ok (.iload_n 3, 1) := by decide +kernel
theorem d_La_law_610 : decode code 610 = .ok (.iconst 3, 1) := by decide +kernel
theorem d_La_law_611 : decode code 611 = .ok (.iadd, 1) := by decide +kernel
theorem d_La_law_612 : decode code 612 = .ok (.iaload, 1) := by decide +kernel
theorem d_La_law_613 : decode code 613 = .ok (.aload_n 0, 1) := by decide +kernel
theorem d_La_law_614 : decode code 614 = .ok (.iload_n 3, 1) := by decide +kernel
theorem d_La_law_615 : decode code 615 = .ok (.iconst 4, 1) := by decide +kernel
theorem d_La_law_616 : decode code 616 = .ok (.iadd, 1) := by decide +kernel
theorem d_La_law_617 : decode code 617 = .ok (.iaload, 1) := by decide +kernel
theorem d_La_law_618 : decode code 618 = .ok (.aload_n 0, 1) := by decide +kernel
theorem d_La_law_619 : decode code 619 = .ok (.iload_n 3, 1) := by decide +kernel
theorem d_La_law_620 : decode code 620 = .ok (.iconst 5, 1) := by decide +kernel
theorem d_La_law_621 : decode code 621 = .ok (.iadd, 1) := by decide +kernel
theorem d_La_law_622 : decode code 622 = .ok (.iaload, 1) := by decide +kernel
theorem d_La_law_623 : decode code 623 = .ok (.invokevirtual 89, 3) := by decide +kernel
theorem d_La_law_626 : decode code 626 = .ok (.if_icmp .eq 210, 3) := by decide +kernel
theorem d_La_law_629 : decode code 629 = .ok (.iconst 0, 1) := by decide +kernel
theorem d_La_law_630 : decode code 630 = .ok (.ireturn, 1) := by decide +kernel
theorem d_La_law_631 : decode code 631 = .ok (.aload_n 1, 1) := by decide +kernel
theorem d_La_law_632 : decode code 632 = .ok (.aload_n 0, 1) := by decide +kernel
theorem d_La_law_633 : decode code 633 = .ok (.iload_n 3, 1) := by decide +kernel
theorem d_La_law_634 : decode code 634 = .ok (.iconst 1, 1) := by decide +kernel
theorem d_La_law_635 : decode code 635 = .ok (.iadd, 1) := by decide +kernel
theorem d_La_law_636 : decode code 636 = .ok (.iaload, 1) := by decide +kernel
theorem d_La_law_637 : decode code 637 = .ok (.aload_n 0, 1) := by decide +kernel
theorem d_La_law_638 : decode code 638 = .ok (.iload_n 3, 1) := by decide +kernel
theorem d_La_law_639 : decode code 639 = .ok (.iconst 2, 1) := by decide +kernel
theorem d_La_law_640 : decode code 640 = .ok (.iadd, 1) := by decide +kernel
theorem d_La_law_641 : decode code 641 = .ok (.iaload, 1) := by decide +kernel
theorem d_La_law_642 : decode code 642 = .ok (.aload_n 0, 1) := by decide +kernel
theorem d_La_law_643 : decode code 643 = .ok (.iload_n 3, 1) := by decide +kernel
theorem d_La_law_644 : decode code 644 = .ok (.iconst 3, 1) := by decide +kernel
theorem d_La_law_645 : decode code 645 = .ok (.iadd, 1) := by decide +kernel
theorem d_La_law_646 : decode code 646 = .ok (.iaload, 1) := by decide +kernel
theorem d_La_law_647 : decode code 647 = .ok (.aload_n 0, 1) := by decide +kernel
theorem d_La_law_648 : decode code 648 = .ok (.iload_n 3, 1) := by decide +kernel
theorem d_La_law_649 : decode code 649 = .ok (.iconst 4, 1) := by decide +kernel
theorem d_La_law_650 : decode code 650 = .ok (.iadd, 1) := by decide +kernel
theorem d_La_law_651 : decode code 651 = .ok (.iaload, 1) := by decide +kernel
theorem d_La_law_652 : decode code 652 = .ok (.aload_n 0, 1) := by decide +kernel
theorem d_La_law_653 : decode code 653 = .ok (.iload_n 3, 1) := by decide +kernel
theorem d_La_law_654 : decode code 654 = .ok (.iconst 5, 1) := by decide +kernel
theorem d_La_law_655 : decode code 655 = .ok (.iadd, 1) := by decide +kernel
theorem d_La_law_656 : decode code 656 = .ok (.iaload, 1) := by decide +kernel
theorem d_La_law_657 : decode code 657 = .ok (.invokevirtual 90, 3) := by decide +kernel
theorem d_La_law_660 : decode code 660 = .ok (.aload_n 2, 1) := by decide +kernel
theorem d_La_law_661 : decode code 661 = .ok (.aload_n 0, 1) := by decide +kernel
theorem d_La_law_662 : decode code 662 = .ok (.iload_n 3, 1) := by decide +kernel
theorem d_La_law_663 : decode code 663 = .ok (.iconst 1, 1) := by decide +kernel
theorem d_La_law_664 : decode code 664 = .ok (.iadd, 1) := by decide +kernel
theorem d_La_law_665 : decode code 665 = .ok (.iaload, 1) := by decide +kernel
theorem d_La_law_666 : decode code 666 = .ok (.aload_n 0, 1) := by decide +kernel
theorem d_La_law_667 : decode code 667 = .ok (.iload_n 3, 1) := by decide +kernel
theorem d_La_law_668 : decode code 668 = .ok (.iconst 2, 1) := by decide +kernel
theorem d_La_law_669 : decode code 669 = .ok (.iadd, 1) := by decide +kernel
theorem d_La_law_670 : decode code 670 = .ok (.iaload, 1) := by decide +kernel
theorem d_La_law_671 : decode code 671 = .ok (.aload_n 0, 1) := by decide +kernel
theorem d_La_law_672 : decode code 672 = .ok (.iload_n 3, 1) := by decide +kernel
theorem d_La_law_673 : decode code 673 = .ok (.iconst 3, 1) := by decide +kernel
theorem d_La_law_674 : decode code 674 = .ok (.iadd, 1) := by decide +kernel
theorem d_La_law_675 : decode code 675 = .ok (.iaload, 1) := by decide +kernel
theorem d_La_law_676 : decode code 676 = .ok (.aload_n 0, 1) := by decide +kernel
theorem d_La_law_677 : decode code 677 = .ok (.iload_n 3, 1) := by decide +kernel
theorem d_La_law_678 : decode code 678 = .ok (.iconst 4, 1) := by decide +kernel
theorem d_La_law_679 : decode code 679 = .ok (.iadd, 1) := by decide +kernel
theorem d_La_law_680 : decode code 680 = .ok (.iaload, 1) := by decide +kernel
theorem d_La_law_681 : decode code 681 = .ok (.aload_n 0, 1) := by decide +kernel
theorem d_La_law_682 : decode code 682 = .ok (.iload_n 3, 1) := by decide +kernel
theorem d_La_law_683 : decode code 683 = .ok (.iconst 5, 1) := by decide +kernel
theorem d_La_law_684 : decode code 684 = .ok (.iadd, 1) := by decide +kernel
theorem d_La_law_685 : decode code 685 = .ok (.iaload, 1) := by decide +kernel
theorem d_La_law_686 : decode code 686 = .ok (.invokevirtual 93, 3) := by decide +kernel
theorem d_La_law_689 : decode code 689 = .ok (.if_icmp .eq 147, 3) := by decide +kernel
theorem d_La_law_692 : decode code 692 = .ok (.iconst 0, 1) := by decide +kernel
theorem d_La_law_693 : decode code 693 = .ok (.ireturn, 1) := by decide +kernel
theorem d_La_law_694 : decode code 694 = .ok (.aload_n 1, 1) := by decide +kernel
theorem d_La_law_695 : decode code 695 = .ok (.aload_n 0, 1) := by decide +kernel
theorem d_La_law_696 : decode code 696 = .ok (.iload_n 3, 1) := by decide +kernel
theorem d_La_law_697 : decode code 697 = .ok (.iconst 1, 1) := by decide +kernel
theorem d_La_law_698 : decode code 698 = .ok (.iadd, 1) := by decide +kernel
theorem d_La_law_699 : decode code 699 = .ok (.iaload, 1) := by decide +kernel
theorem d_La_law_700 : decode code 700 = .ok (.aload_n 0, 1) := by decide +kernel
theorem d_La_law_701 : decode code 701 = .ok (.iload_n 3, 1) := by decide +kernel
theorem d_La_law_702 : decode code 702 = .ok (.iconst 2, 1) := by decide +kernel
theorem d_La_law_703 : decode code 703 = .ok (.iadd, 1) := by decide +kernel
theorem d_La_law_704 : decode code 704 = .ok (.iaload, 1) := by decide +kernel
theorem d_La_law_705 : decode code 705 = .ok (.aload_n 0, 1) := by decide +kernel
theorem d_La_law_706 : decode code 706 = .ok (.iload_n 3, 1) := by decide +kernel
theorem d_La_law_707 : decode code 707 = .ok (.iconst 3, 1) := by decide +kernel
theorem d_La_law_708 : decode code 708 = .ok (.iadd, 1) := by decide +kernel
theorem d_La_law_709 : decode code 709 = .ok (.iaload, 1) := by decide +kernel
theorem d_La_law_710 : decode code 710 = .ok (.invokevirtual 94, 3) := by decide +kernel
theorem d_La_law_713 : decode code 713 = .ok (.aload_n 2, 1) := by decide +kernel
theorem d_La_law_714 : decode code 714 = .ok (.aload_n 0, 1) := by decide +kernel
theorem d_La_law_715 : decode code 715 = .ok (.iload_n 3, 1) := by decide +kernel
theorem d_La_law_716 : decode code 716 = .ok (.iconst 1, 1) := by decide +kernel
theorem d_La_law_717 : decode code 717 = .ok (.iadd, 1) := by decide +kernel
theorem d_La_law_718 : decode code 718 = .ok (.iaload, 1) := by decide +kernel
theorem d_La_law_719 : decode code 719 = .ok (.aload_n 0, 1) := by decide +kernel
theorem d_La_law_720 : decode code 720 = .ok (.iload_n 3, 1) := by decide +kernel
theorem d_La_law_721 : decode code 721 = .ok (.iconst 2, 1) := by decide +kernel
theorem d_La_law_722 : decode code 722 = .ok (.iadd, 1) := by decide +kernel
theorem d_La_law_723 : decode code 723 = .ok (.iaload, 1) := by decide +kernel
theorem d_La_law_724 : decode code 724 = .ok (.aload_n 0, 1) := by decide +kernel
theorem d_La_law_725 : decode code 725 = .ok (.iload_n 3, 1) := by decide +kernel
theorem d_La_law_726 : decode code 726 = .ok (.iconst 3, 1) := by decide +kernel
theorem d_La_law_727 : decode code 727 = .ok (.iadd, 1) := by decide +kernel
theorem d_La_law_728 : decode code 728 = .ok (.iaload, 1) := by decide +kernel
theorem d_La_law_729 : decode code 729 = .ok (.invokevirtual 97, 3) := by decide +kernel
theorem d_La_law_732 : decode code 732 = .ok (.if_icmp .eq 104, 3) := by decide +kernel
theorem d_La_law_735 : decode code 735 = .ok (.iconst 0, 1) := by decide +kernel
theorem d_La_law_736 : decode code 736 = .ok (.ireturn, 1) := by decide +kernel
theorem d_La_law_737 : decode code 737 = .ok (.aload_n 1, 1) := by decide +kernel
theorem d_La_law_738 : decode code 738 = .ok (.aload_n 0, 1) := by decide +kernel
theorem d_La_law_739 : decode code 739 = .ok (.iload_n 3, 1) := by decide +kernel
theorem d_La_law_740 : decode code 740 = .ok (.iconst 1, 1) := by decide +kernel
theorem d_La_law_741 : decode code 741 = .ok (.iadd, 1) := by decide +kernel
theorem d_La_law_742 : decode code 742 = .ok (.iaload, 1) := by decide +kernel
theorem d_La_law_743 : decode code 743 = .ok (.invokevirtual 98, 3) := by decide +kernel
theorem d_La_law_746 : decode code 746 = .ok (.aload_n 2, 1) := by decide +kernel
theorem d_La_law_747 : decode code 747 = .ok (.aload_n 0, 1) := by decide +kernel
theorem d_La_law_748 : decode code 748 = .ok (.iload_n 3, 1) := by decide +kernel
theorem d_La_law_749 : decode code 749 = .ok (.iconst 1, 1) := by decide +kernel
theorem d_La_law_750 : decode code 750 = .ok (.iadd, 1) := by decide +kernel
theorem d_La_law_751 : decode code 751 = .ok (.iaload, 1) := by decide +kernel
theorem d_La_law_752 : decode code 752 = .ok (.invokevirtual 101, 3) := by decide +kernel
theorem d_La_law_755 : decode code 755 = .ok (.if_icmp .eq 81, 3) := by decide +kernel
theorem d_La_law_758 : decode code 758 = .ok (.iconst 0, 1) := by decide +kernel
theorem d_La_law_759 : decode code 759 = .ok (.ireturn, 1) := by decide +kernel
theorem d_La_law_760 : decode code 760 = .ok (.aload_n 1, 1) := by decide +kernel
theorem d_La_law_761 : decode code 761 = .ok (.aload_n 0, 1) := by decide +kernel
theorem d_La_law_762 : decode code 762 = .ok (.iload_n 3, 1) := by decide +kernel
theorem d_La_law_763 : decode code 763 = .ok (.iconst 1, 1) := by decide +kernel
theorem d_La_law_764 : decode code 764 = .ok (.iadd, 1) := by decide +kernel
theorem d_La_law_765 : decode code 765 = .ok (.iaload, 1) := by decide +kernel
theorem d_La_law_766 : decode code 766 = .ok (.aload_n 0, 1) := by decide +kernel
theorem d_La_law_767 : decode code 767 = .ok (.iload_n 3, 1) := by decide +kernel
theorem d_La_law_768 : decode code 768 = .ok (.iconst 2, 1) := by decide +kernel
theorem d_La_law_769 : decode code 769 = .ok (.iadd, 1) := by decide +kernel
theorem d_La_law_770 : decode code 770 = .ok (.iaload, 1) := by decide +kernel
theorem d_La_law_771 : decode code 771 = .ok (.aload_n 0, 1) := by decide +kernel
theorem d_La_law_772 : decode code 772 = .ok (.iload_n 3, 1) := by decide +kernel
theorem d_La_law_773 : decode code 773 = .ok (.iconst 3, 1) := by decide +kernel
theorem d_La_law_774 : decode code 774 = .ok (.iadd, 1) := by decide +kernel
theorem d_La_law_775 : decode code 775 = .ok (.iaload, 1) := by decide +kernel
theorem d_La_law_776 : decode code 776 = .ok (.aload_n 0, 1) := by decide +kernel
theorem d_La_law_777 : decode code 777 = .ok (.iload_n 3, 1) := by decide +kernel
theorem d_La_law_778 : decode code 778 = .ok (.iconst 4, 1) := by decide +kernel
theorem d_La_law_779 : decode code 779 = .ok (.iadd, 1) := by decide +kernel
theorem d_La_law_780 : decode code 780 = .ok (.iaload, 1) := by decide +kernel
theorem d_La_law_781 : decode code 781 = .ok (.invokevirtual 102, 3) := by decide +kernel
theorem d_La_law_784 : decode code 784 = .ok (.aload_n 2, 1) := by decide +kernel
theorem d_La_law_785 : decode code 785 = .ok (.aload_n 0, 1) := by decide +kernel
theorem d_La_law_786 : decode code 786 = .ok (.iload_n 3, 1) := by decide +kernel
theorem d_La_law_787 : decode code 787 = .ok (.iconst 1, 1) := by decide +kernel
theorem d_La_law_788 : decode code 788 = .ok (.iadd, 1) := by decide +kernel
theorem d_La_law_789 : decode code 789 = .ok (.iaload, 1) := by decide +kernel
theorem d_La_law_790 : decode code 790 = .ok (.aload_n 0, 1) := by decide +kernel
theorem d_La_law_791 : decode code 791 = .ok (.iload_n 3, 1) := by decide +kernel
theorem d_La_law_792 : decode code 792 = .ok (.iconst 2, 1) := by decide +kernel
theorem d_La_law_793 : decode code 793 = .ok (.iadd, 1) := by decide +kernel
theorem d_La_law_794 : decode code 794 = .ok (.iaload, 1) := by decide +kernel
theorem d_La_law_795 : decode code 795 = .ok (.aload_n 0, 1) := by decide +kernel
theorem d_La_law_796 : decode code 796 = .ok (.iload_n 3, 1) := by decide +kernel
theorem d_La_law_797 : decode code 797 = .ok (.iconst 3, 1) := by decide +kernel
theorem d_La_law_798 : decode code 798 = .ok (.iadd, 1) := by decide +kernel
theorem d_La_law_799 : decode code 799 = .ok (.iaload, 1) := by decide +kernel
theorem d_La_law_800 : decode code 800 = .ok (.aload_n 0, 1) := by decide +kernel
theorem d_La_law_801 : decode code 801 = .ok (.iload_n 3, 1) := by decide +kernel
theorem d_La_law_802 : decode code 802 = .ok (.iconst 4, 1) := by decide +kernel
theorem d_La_law_803 : decode code 803 = .ok (.iadd, 1) := by decide +kernel
theorem d_La_law_804 : decode code 804 = .ok (.iaload, 1) := by decide +kernel
theorem d_La_law_805 : decode code 805 = .ok (.invokevirtual 106, 3) := by decide +kernel
theorem d_La_law_808 : decode code 808 = .ok (.if_icmp .eq 28, 3) := by decide +kernel
theorem d_La_law_811 : decode code 811 = .ok (.iconst 0, 1) := by decide +kernel
theorem d_La_law_812 : decode code 812 = .ok (.ireturn, 1) := by decide +kernel
theorem d_La_law_813 : decode code 813 = .ok (.aload_n 1, 1) := by decide +kernel
theorem d_La_law_814 : decode code 814 = .ok (.aload_n 0, 1) := by decide +kernel
theorem d_La_law_815 : decode code 815 = .ok (.iload_n 3, 1) := by decide +kernel
theorem d_La_law_816 : decode code 816 = .ok (.iconst 1, 1) := by decide +kernel
theorem d_La_law_817 : decode code 817 = .ok (.iadd, 1) := by decide +kernel
theorem d_La_law_818 : decode code 818 = .ok (.iaload, 1) := by decide +kernel
theorem d_La_law_819 : decode code 819 = .ok (.invokevirtual 107, 3) := by decide +kernel
theorem d_La_law_822 : decode code 822 = .ok (.aload_n 2, 1) := by decide +kernel
theorem d_La_law_823 : decode code 823 = .ok (.aload_n 0, 1) := by decide +kernel
theorem d_La_law_824 : decode code 824 = .ok (.iload_n 3, 1) := by decide +kernel
theorem d_La_law_825 : decode code 825 = .ok (.iconst 1, 1) := by decide +kernel
theorem d_La_law_826 : decode code 826 = .ok (.iadd, 1) := by decide +kernel
theorem d_La_law_827 : decode code 827 = .ok (.iaload, 1) := by decide +kernel
theorem d_La_law_828 : decode code 828 = .ok (.invokevirtual 110, 3) := by decide +kernel
theorem d_La_law_831 : decode code 831 = .ok (.if_icmp .eq 5, 3) := by decide +kernel
theorem d_La_law_834 : decode code 834 = .ok (.iconst 0, 1) := by decide +kernel
theorem d_La_law_835 : decode code 835 = .ok (.ireturn, 1) := by decide +kernel
theorem d_La_law_836 : decode code 836 = .ok (.iinc 3 6, 3) := by decide +kernel
theorem d_La_law_839 : decode code 839 = .ok (.goto (-811), 3) := by decide +kernel
theorem d_La_law_842 : decode code 842 = .ok (.iconst 1, 1) := by decide +kernel
theorem d_La_law_843 : decode code 843 = .ok (.ireturn, 1) := by decide +kernel
theorem d_La_cell_0 : decode method_2_code 0 = .ok (.iload_n 1, 1) := by decide +kernel
theorem d_La_cell_1 : decode method_2_code 1 = .ok (.aload_n 0, 1) := by decide +kernel
theorem d_La_cell_2 : decode method_2_code 2 = .ok (.arraylength, 1) := by decide +kernel
theorem d_La_cell_3 : decode method_2_code 3 = .ok (.if_icmp .ge 9, 3) := by decide +kernel
theorem d_La_cell_6 : decode method_2_code 6 = .ok (.aload_n 0, 1) := by decide +kernel
theorem d_La_cell_7 : decode method_2_code 7 = .ok (.iload_n 1, 1) := by decide +kernel
theorem d_La_cell_8 : decode method_2_code 8 = .ok (.iaload, 1) := by decide +kernel
theorem d_La_cell_9 : decode method_2_code 9 = .ok (.goto 4, 3) := by decide +kernel
theorem d_La_cell_12 : decode method_2_code 12 = .ok (.iconst 0, 1) := by decide +kernel
theorem d_La_cell_13 : decode method_2_code 13 = .ok (.ireturn, 1) := by decide +kernel
theorem vk_La_21 (D : va_G) (tt : ClassId × ClassId × ClassId) : zVk (zEn D tt) "EpochDirectoryLaw" 21 mz_ED_hash 3 0 := ⟨zGd D tt, ⟨Or.inl (zm 301 (by decide +kernel) (by decide +kernel)), (zm 1 (by decide +kernel) (by decide +kernel)), (zm 304 (by decide +kernel) (by decide +kernel))⟩, (zm 302 (by decide +kernel) (by decide +kernel)), (zm 303 (by decide +kernel) (by decide +kernel)), ⟨by decide +kernel, by decide +kernel, by decide +kernel⟩, by decide, zT_ED, 18, rfl⟩
theorem vk_La_25 (D : va_G) (tt : ClassId × ClassId × ClassId) : zVk (zEn D tt) "EpochDirectoryLaw" 25 mz_Mo_hash 3 10 := ⟨zGd D tt, ⟨Or.inl (zm 727 (by decide +kernel) (by decide +kernel)), (zm 12 (by decide +kernel) (by decide +kernel)), (zm 730 (by decide +kernel) (by decide +kernel))⟩, (zm 728 (by decide +kernel) (by decide +kernel)), (zm 729 (by decide +kernel) (by decide +kernel)), ⟨by decide +kernel, by decide +kernel, by decide +kernel⟩, by decide, zT_Mo, 37, rfl⟩
theorem vk_La_26 (D : va_G) (tt : ClassId × ClassId × ClassId) : zVk (zEn D tt) "EpochDirectoryLaw" 26 mz_ED_put 2 0 := ⟨zGd D tt, ⟨Or.inl (zm 310 (by decide +kernel) (by decide +kernel)), (zm 1 (by decide +kernel) (by decide +kernel)), (zm 313 (by decide +kernel) (by decide +kernel))⟩, (zm 311 (by decide +kernel) (by decide +kernel)), (zm 312 (by decide +kernel) (by decide +kernel)), ⟨by decide +kernel, by decide +kernel, by decide +kernel⟩, by decide, zT_ED, 18, rfl⟩
theorem vk_La_30 (D : va_G) (tt : ClassId × ClassId × ClassId) : zVk (zEn D tt) "EpochDirectoryLaw" 30 mz_Mo_put 2 10 := ⟨zGd D tt, ⟨Or.inl (zm 732 (by decide +kernel) (by decide +kernel)), (zm 12 (by decide +kernel) (by decide +kernel)), (zm 735 (by decide +kernel) (by decide +kernel))⟩, (zm 733 (by decide +kernel) (by decide +kernel)), (zm 734 (by decide +kernel) (by decide +kernel)), ⟨by decide +kernel, by decide +kernel, by decide +kernel⟩, by decide, zT_Mo, 37, rfl⟩
theorem vk_La_31 (D : va_G) (tt : ClassId × ClassId × ClassId) : zVk (zEn D tt) "EpochDirectoryLaw" 31 mz_ED_close 0 0 := ⟨zGd D tt, ⟨Or.inl (zm 325 (by decide +kernel) (by decide +kernel)), (zm 1 (by decide +kernel) (by decide +kernel)), (zm 328 (by decide +kernel) (by decide +kernel))⟩, (zm 326 (by decide +kernel) (by decide +kernel)), (zm 327 (by decide +kernel) (by decide +kernel)), ⟨by decide +kernel, by decide +kernel, by decide +kernel⟩, by decide, zT_ED, 18, rfl⟩
theorem vk_La_35 (D : va_G) (tt : ClassId × ClassId × ClassId) : zVk (zEn D tt) "EpochDirectoryLaw" 35 mz_Mo_close 0 10 := ⟨zGd D tt, ⟨Or.inl (zm 747 (by decide +kernel) (by decide +kernel)), (zm 12 (by decide +kernel) (by decide +kernel)), (zm 750 (by decide +kernel) (by decide +kernel))⟩, (zm 748 (by decide +kernel) (by decide +kernel)), (zm 749 (by decide +kernel) (by decide +kernel)), ⟨by decide +kernel, by decide +kernel, by decide +kernel⟩, by decide, zT_Mo, 37, rfl⟩
theorem vk_La_36 (D : va_G) (tt : ClassId × ClassId × ClassId) : zVk (zEn D tt) "EpochDirectoryLaw" 36 mz_ED_fuse 1 0 := ⟨zGd D tt, ⟨Or.inl (zm 425 (by decide +kernel) (by decide +kernel)), (zm 1 (by decide +kernel) (by decide +kernel)), (zm 428 (by decide +kernel) (by decide +kernel))⟩, (zm 426 (by decide +kernel) (by decide +kernel)), (zm 427 (by decide +kernel) (by decide +kernel)), ⟨by decide +kernel, by decide +kernel, by decide +kernel⟩, by decide, zT_ED, 18, rfl⟩
theorem vk_La_40 (D : va_G) (tt : ClassId × ClassId × ClassId) : zVk (zEn D tt) "EpochDirectoryLaw" 40 mz_Mo_fuse 1 10 := ⟨zGd D tt, ⟨Or.inl (zm 787 (by decide +kernel) (by decide +kernel)), (zm 12 (by decide +kernel) (by decide +kernel)), (zm 790 (by decide +kernel) (by decide +kernel))⟩, (zm 788 (by decide +kernel) (by decide +kernel)), (zm 789 (by decide +kernel) (by decide +kernel)), ⟨by decide +kernel, by decide +kernel, by decide +kernel⟩, by decide, zT_Mo, 37, rfl⟩
theorem vk_La_41 (D : va_G) (tt : ClassId × ClassId × ClassId) : zVk (zEn D tt) "EpochDirectoryLaw" 41 mz_ED_restart 0 0 := ⟨zGd D tt, ⟨Or.inl (zm 429 (by decide +kernel) (by decide +kernel)), (zm 1 (by decide +kernel) (by decide +kernel)), (zm 432 (by decide +kernel) (by decide +kernel))⟩, (zm 430 (by decide +kernel) (by decide +kernel)), (zm 431 (by decide +kernel) (by decide +kernel)), ⟨by decide +kernel, by decide +kernel, by decide +kernel⟩, by decide, zT_ED, 18, rfl⟩
theorem vk_La_44 (D : va_G) (tt : ClassId × ClassId × ClassId) : zVk (zEn D tt) "EpochDirectoryLaw" 44 mz_Mo_restart 0 10 := ⟨zGd D tt, ⟨Or.inl (zm 791 (by decide +kernel) (by decide +kernel)), (zm 12 (by decide +kernel) (by decide +kernel)), (zm 794 (by decide +kernel) (by decide +kernel))⟩, (zm 792 (by decide +kernel) (by decide +kernel)), (zm 793 (by decide +kernel) (by decide +kernel)), ⟨by decide +kernel, by decide +kernel, by decide +kernel⟩, by decide, zT_Mo, 37, rfl⟩
theorem vk_La_45 (D : va_G) (tt : ClassId × ClassId × ClassId) : zVk (zEn D tt) "EpochDirectoryLaw" 45 mz_ED_root 1 0 := ⟨zGd D tt, ⟨Or.inl (zm 437 (by decide +kernel) (by decide +kernel)), (zm 1 (by decide +kernel) (by decide +kernel)), (zm 440 (by decide +kernel) (by decide +kernel))⟩, (zm 438 (by decide +kernel) (by decide +kernel)), (zm 439 (by decide +kernel) (by decide +kernel)), ⟨by decide +kernel, by decide +kernel, by decide +kernel⟩, by decide, zT_ED, 18, rfl⟩
theorem vk_La_49 (D : va_G) (tt : ClassId × ClassId × ClassId) : zVk (zEn D tt) "EpochDirectoryLaw" 49 mz_Mo_root 1 10 := ⟨zGd D tt, ⟨Or.inl (zm 795 (by decide +kernel) (by decide +kernel)), (zm 12 (by decide +kernel) (by decide +kernel)), (zm 798 (by decide +kernel) (by decide +kernel))⟩, (zm 796 (by decide +kernel) (by decide +kernel)), (zm 797 (by decide +kernel) (by decide +kernel)), ⟨by decide +kernel, by decide +kernel, by decide +kernel⟩, by decide, zT_Mo, 37, rfl⟩
theorem vk_La_50 (D : va_G) (tt : ClassId × ClassId × ClassId) : zVk (zEn D tt) "EpochDirectoryLaw" 50 mz_ED_head 1 0 := ⟨zGd D tt, ⟨Or.inl (zm 445 (by decide +kernel) (by decide +kernel)), (zm 1 (by decide +kernel) (by decide +kernel)), (zm 448 (by decide +kernel) (by decide +kernel))⟩, (zm 446 (by decide +kernel) (by decide +kernel)), (zm 447 (by decide +kernel) (by decide +kernel)), ⟨by decide +kernel, by decide +kernel, by decide +kernel⟩, by decide, zT_ED, 18, rfl⟩
theorem vk_La_53 (D : va_G) (tt : ClassId × ClassId × ClassId) : zVk (zEn D tt) "EpochDirectoryLaw" 53 mz_Mo_head 1 10 := ⟨zGd D tt, ⟨Or.inl (zm 799 (by decide +kernel) (by decide +kernel)), (zm 12 (by decide +kernel) (by decide +kernel)), (zm 802 (by decide +kernel) (by decide +kernel))⟩, (zm 800 (by decide +kernel) (by decide +kernel)), (zm 801 (by decide +kernel) (by decide +kernel)), ⟨by decide +kernel, by decide +kernel, by decide +kernel⟩, by decide, zT_Mo, 37, rfl⟩
theorem vk_La_54 (D : va_G) (tt : ClassId × ClassId × ClassId) : zVk (zEn D tt) "EpochDirectoryLaw" 54 mz_ED_block 2 0 := ⟨zGd D tt, ⟨Or.inl (zm 449 (by decide +kernel) (by decide +kernel)), (zm 1 (by decide +kernel) (by decide +kernel)), (zm 452 (by decide +kernel) (by decide +kernel))⟩, (zm 450 (by decide +kernel) (by decide +kernel)), (zm 451 (by decide +kernel) (by decide +kernel)), ⟨by decide +kernel, by decide +kernel, by decide +kernel⟩, by decide, zT_ED, 18, rfl⟩
theorem vk_La_57 (D : va_G) (tt : ClassId × ClassId × ClassId) : zVk (zEn D tt) "EpochDirectoryLaw" 57 mz_Mo_block 2 10 := ⟨zGd D tt, ⟨Or.inl (zm 887 (by decide +kernel) (by decide +kernel)), (zm 12 (by decide +kernel) (by decide +kernel)), (zm 890 (by decide +kernel) (by decide +kernel))⟩, (zm 888 (by decide +kernel) (by decide +kernel)), (zm 889 (by decide +kernel) (by decide +kernel)), ⟨by decide +kernel, by decide +kernel, by decide +kernel⟩, by decide, zT_Mo, 37, rfl⟩
theorem vk_La_58 (D : va_G) (tt : ClassId × ClassId × ClassId) : zVk (zEn D tt) "EpochDirectoryLaw" 58 mz_ED_size 1 0 := ⟨zGd D tt, ⟨Or.inl (zm 454 (by decide +kernel) (by decide +kernel)), (zm 1 (by decide +kernel) (by decide +kernel)), (zm 457 (by decide +kernel) (by decide +kernel))⟩, (zm 455 (by decide +kernel) (by decide +kernel)), (zm 456 (by decide +kernel) (by decide +kernel)), ⟨by decide +kernel, by decide +kernel, by decide +kernel⟩, by decide, zT_ED, 18, rfl⟩
theorem vk_La_61 (D : va_G) (tt : ClassId × ClassId × ClassId) : zVk (zEn D tt) "EpochDirectoryLaw" 61 mz_Mo_size 1 10 := ⟨zGd D tt, ⟨Or.inl (zm 891 (by decide +kernel) (by decide +kernel)), (zm 12 (by decide +kernel) (by decide +kernel)), (zm 894 (by decide +kernel) (by decide +kernel))⟩, (zm 892 (by decide +kernel) (by decide +kernel)), (zm 893 (by decide +kernel) (by decide +kernel)), ⟨by decide +kernel, by decide +kernel, by decide +kernel⟩, by decide, zT_Mo, 37, rfl⟩
theorem vk_La_62 (D : va_G) (tt : ClassId × ClassId × ClassId) : zVk (zEn D tt) "EpochDirectoryLaw" 62 mz_ED_prove 4 0 := ⟨zGd D tt, ⟨Or.inl (zm 458 (by decide +kernel) (by decide +kernel)), (zm 1 (by decide +kernel) (by decide +kernel)), (zm 461 (by decide +kernel) (by decide +kernel))⟩, (zm 459 (by decide +kernel) (by decide +kernel)), (zm 460 (by decide +kernel) (by decide +kernel)), ⟨by decide +kernel, by decide +kernel, by decide +kernel⟩, by decide, zT_ED, 18, rfl⟩
theorem vk_La_66 (D : va_G) (tt : ClassId × ClassId × ClassId) : zVk (zEn D tt) "EpochDirectoryLaw" 66 mz_Mo_prove 4 10 := ⟨zGd D tt, ⟨Or.inl (zm 811 (by decide +kernel) (by decide +kernel)), (zm 12 (by decide +kernel) (by decide +kernel)), (zm 814 (by decide +kernel) (by decide +kernel))⟩, (zm 812 (by decide +kernel) (by decide +kernel)), (zm 813 (by decide +kernel) (by decide +kernel)), ⟨by decide +kernel, by decide +kernel, by decide +kernel⟩, by decide, zT_Mo, 37, rfl⟩
theorem vk_La_67 (D : va_G) (tt : ClassId × ClassId × ClassId) : zVk (zEn D tt) "EpochDirectoryLaw" 67 mz_ED_word 2 0 := ⟨zGd D tt, ⟨Or.inl (zm 507 (by decide +kernel) (by decide +kernel)), (zm 1 (by decide +kernel) (by decide +kernel)), (zm 510 (by decide +kernel) (by decide +kernel))⟩, (zm 508 (by decide +kernel) (by decide +kernel)), (zm 509 (by decide +kernel) (by decide +kernel)), ⟨by decide +kernel, by decide +kernel, by decide +kernel⟩, by decide, zT_ED, 18, rfl⟩
theorem vk_La_70 (D : va_G) (tt : ClassId × ClassId × ClassId) : zVk (zEn D tt) "EpochDirectoryLaw" 70 mz_Mo_word 2 10 := ⟨zGd D tt, ⟨Or.inl (zm 830 (by decide +kernel) (by decide +kernel)), (zm 12 (by decide +kernel) (by decide +kernel)), (zm 833 (by decide +kernel) (by decide +kernel))⟩, (zm 831 (by decide +kernel) (by decide +kernel)), (zm 832 (by decide +kernel) (by decide +kernel)), ⟨by decide +kernel, by decide +kernel, by decide +kernel⟩, by decide, zT_Mo, 37, rfl⟩
theorem vk_La_71 (D : va_G) (tt : ClassId × ClassId × ClassId) : zVk (zEn D tt) "EpochDirectoryLaw" 71 mz_ED_poke 3 0 := ⟨zGd D tt, ⟨Or.inl (zm 511 (by decide +kernel) (by decide +kernel)), (zm 1 (by decide +kernel) (by decide +kernel)), (zm 514 (by decide +kernel) (by decide +kernel))⟩, (zm 512 (by decide +kernel) (by decide +kernel)), (zm 513 (by decide +kernel) (by decide +kernel)), ⟨by decide +kernel, by decide +kernel, by decide +kernel⟩, by decide, zT_ED, 18, rfl⟩
theorem vk_La_75 (D : va_G) (tt : ClassId × ClassId × ClassId) : zVk (zEn D tt) "EpochDirectoryLaw" 75 mz_Mo_poke 3 10 := ⟨zGd D tt, ⟨Or.inl (zm 834 (by decide +kernel) (by decide +kernel)), (zm 12 (by decide +kernel) (by decide +kernel)), (zm 837 (by decide +kernel) (by decide +kernel))⟩, (zm 835 (by decide +kernel) (by decide +kernel)), (zm 836 (by decide +kernel) (by decide +kernel)), ⟨by decide +kernel, by decide +kernel, by decide +kernel⟩, by decide, zT_Mo, 37, rfl⟩
theorem vk_La_76 (D : va_G) (tt : ClassId × ClassId × ClassId) : zVk (zEn D tt) "EpochDirectoryLaw" 76 mz_ED_trim 2 0 := ⟨zGd D tt, ⟨Or.inl (zm 516 (by decide +kernel) (by decide +kernel)), (zm 1 (by decide +kernel) (by decide +kernel)), (zm 519 (by decide +kernel) (by decide +kernel))⟩, (zm 517 (by decide +kernel) (by decide +kernel)), (zm 518 (by decide +kernel) (by decide +kernel)), ⟨by decide +kernel, by decide +kernel, by decide +kernel⟩, by decide, zT_ED, 18, rfl⟩
theorem vk_La_80 (D : va_G) (tt : ClassId × ClassId × ClassId) : zVk (zEn D tt) "EpochDirectoryLaw" 80 mz_Mo_trim 2 10 := ⟨zGd D tt, ⟨Or.inl (zm 838 (by decide +kernel) (by decide +kernel)), (zm 12 (by decide +kernel) (by decide +kernel)), (zm 841 (by decide +kernel) (by decide +kernel))⟩, (zm 839 (by decide +kernel) (by decide +kernel)), (zm 840 (by decide +kernel) (by decide +kernel)), ⟨by decide +kernel, by decide +kernel, by decide +kernel⟩, by decide, zT_Mo, 37, rfl⟩
theorem vk_La_81 (D : va_G) (tt : ClassId × ClassId × ClassId) : zVk (zEn D tt) "EpochDirectoryLaw" 81 mz_ED_check 3 0 := ⟨zGd D tt, ⟨Or.inl (zm 520 (by decide +kernel) (by decide +kernel)), (zm 1 (by decide +kernel) (by decide +kernel)), (zm 523 (by decide +kernel) (by decide +kernel))⟩, (zm 521 (by decide +kernel) (by decide +kernel)), (zm 522 (by decide +kernel) (by decide +kernel)), ⟨by decide +kernel, by decide +kernel, by decide +kernel⟩, by decide, zT_ED, 18, rfl⟩
theorem vk_La_84 (D : va_G) (tt : ClassId × ClassId × ClassId) : zVk (zEn D tt) "EpochDirectoryLaw" 84 mz_Mo_check 3 10 := ⟨zGd D tt, ⟨Or.inl (zm 842 (by decide +kernel) (by decide +kernel)), (zm 12 (by decide +kernel) (by decide +kernel)), (zm 845 (by decide +kernel) (by decide +kernel))⟩, (zm 843 (by decide +kernel) (by decide +kernel)), (zm 844 (by decide +kernel) (by decide +kernel)), ⟨by decide +kernel, by decide +kernel, by decide +kernel⟩, by decide, zT_Mo, 37, rfl⟩
theorem vk_La_85 (D : va_G) (tt : ClassId × ClassId × ClassId) : zVk (zEn D tt) "EpochDirectoryLaw" 85 mz_ED_included 5 0 := ⟨zGd D tt, ⟨Or.inl (zm 547 (by decide +kernel) (by decide +kernel)), (zm 1 (by decide +kernel) (by decide +kernel)), (zm 550 (by decide +kernel) (by decide +kernel))⟩, (zm 548 (by decide +kernel) (by decide +kernel)), (zm 549 (by decide +kernel) (by decide +kernel)), ⟨by decide +kernel, by decide +kernel, by decide +kernel⟩, by decide, zT_ED, 18, rfl⟩
theorem vk_La_89 (D : va_G) (tt : ClassId × ClassId × ClassId) : zVk (zEn D tt) "EpochDirectoryLaw" 89 mz_Mo_included 5 10 := ⟨zGd D tt, ⟨Or.inl (zm 858 (by decide +kernel) (by decide +kernel)), (zm 12 (by decide +kernel) (by decide +kernel)), (zm 861 (by decide +kernel) (by decide +kernel))⟩, (zm 859 (by decide +kernel) (by decide +kernel)), (zm 860 (by decide +kernel) (by decide +kernel)), ⟨by decide +kernel, by decide +kernel, by decide +kernel⟩, by decide, zT_Mo, 37, rfl⟩
theorem vk_La_90 (D : va_G) (tt : ClassId × ClassId × ClassId) : zVk (zEn D tt) "EpochDirectoryLaw" 90 mz_ED_consistent 5 0 := ⟨zGd D tt, ⟨Or.inl (zm 568 (by decide +kernel) (by decide +kernel)), (zm 1 (by decide +kernel) (by decide +kernel)), (zm 571 (by decide +kernel) (by decide +kernel))⟩, (zm 569 (by decide +kernel) (by decide +kernel)), (zm 570 (by decide +kernel) (by decide +kernel)), ⟨by decide +kernel, by decide +kernel, by decide +kernel⟩, by decide, zT_ED, 18, rfl⟩
theorem vk_La_93 (D : va_G) (tt : ClassId × ClassId × ClassId) : zVk (zEn D tt) "EpochDirectoryLaw" 93 mz_Mo_consistent 5 10 := ⟨zGd D tt, ⟨Or.inl (zm 866 (by decide +kernel) (by decide +kernel)), (zm 12 (by decide +kernel) (by decide +kernel)), (zm 869 (by decide +kernel) (by decide +kernel))⟩, (zm 867 (by decide +kernel) (by decide +kernel)), (zm 868 (by decide +kernel) (by decide +kernel)), ⟨by decide +kernel, by decide +kernel, by decide +kernel⟩, by decide, zT_Mo, 37, rfl⟩
theorem vk_La_94 (D : va_G) (tt : ClassId × ClassId × ClassId) : zVk (zEn D tt) "EpochDirectoryLaw" 94 mz_ED_follow 3 0 := ⟨zGd D tt, ⟨Or.inl (zm 576 (by decide +kernel) (by decide +kernel)), (zm 1 (by decide +kernel) (by decide +kernel)), (zm 579 (by decide +kernel) (by decide +kernel))⟩, (zm 577 (by decide +kernel) (by decide +kernel)), (zm 578 (by decide +kernel) (by decide +kernel)), ⟨by decide +kernel, by decide +kernel, by decide +kernel⟩, by decide, zT_ED, 18, rfl⟩
theorem vk_La_97 (D : va_G) (tt : ClassId × ClassId × ClassId) : zVk (zEn D tt) "EpochDirectoryLaw" 97 mz_Mo_follow 3 10 := ⟨zGd D tt, ⟨Or.inl (zm 870 (by decide +kernel) (by decide +kernel)), (zm 12 (by decide +kernel) (by decide +kernel)), (zm 873 (by decide +kernel) (by decide +kernel))⟩, (zm 871 (by decide +kernel) (by decide +kernel)), (zm 872 (by decide +kernel) (by decide +kernel)), ⟨by decide +kernel, by decide +kernel, by decide +kernel⟩, by decide, zT_Mo, 37, rfl⟩
theorem vk_La_98 (D : va_G) (tt : ClassId × ClassId × ClassId) : zVk (zEn D tt) "EpochDirectoryLaw" 98 mz_ED_seen 1 0 := ⟨zGd D tt, ⟨Or.inl (zm 581 (by decide +kernel) (by decide +kernel)), (zm 1 (by decide +kernel) (by decide +kernel)), (zm 584 (by decide +kernel) (by decide +kernel))⟩, (zm 582 (by decide +kernel) (by decide +kernel)), (zm 583 (by decide +kernel) (by decide +kernel)), ⟨by decide +kernel, by decide +kernel, by decide +kernel⟩, by decide, zT_ED, 18, rfl⟩
theorem vk_La_101 (D : va_G) (tt : ClassId × ClassId × ClassId) : zVk (zEn D tt) "EpochDirectoryLaw" 101 mz_Mo_seen 1 10 := ⟨zGd D tt, ⟨Or.inl (zm 875 (by decide +kernel) (by decide +kernel)), (zm 12 (by decide +kernel) (by decide +kernel)), (zm 878 (by decide +kernel) (by decide +kernel))⟩, (zm 876 (by decide +kernel) (by decide +kernel)), (zm 877 (by decide +kernel) (by decide +kernel)), ⟨by decide +kernel, by decide +kernel, by decide +kernel⟩, by decide, zT_Mo, 37, rfl⟩
theorem vk_La_102 (D : va_G) (tt : ClassId × ClassId × ClassId) : zVk (zEn D tt) "EpochDirectoryLaw" 102 mz_ED_extract 4 0 := ⟨zGd D tt, ⟨Or.inl (zm 585 (by decide +kernel) (by decide +kernel)), (zm 1 (by decide +kernel) (by decide +kernel)), (zm 588 (by decide +kernel) (by decide +kernel))⟩, (zm 586 (by decide +kernel) (by decide +kernel)), (zm 587 (by decide +kernel) (by decide +kernel)), ⟨by decide +kernel, by decide +kernel, by decide +kernel⟩, by decide, zT_ED, 18, rfl⟩
theorem vk_La_106 (D : va_G) (tt : ClassId × ClassId × ClassId) : zVk (zEn D tt) "EpochDirectoryLaw" 106 mz_Mo_extract 4 10 := ⟨zGd D tt, ⟨Or.inl (zm 879 (by decide +kernel) (by decide +kernel)), (zm 12 (by decide +kernel) (by decide +kernel)), (zm 882 (by decide +kernel) (by decide +kernel))⟩, (zm 880 (by decide +kernel) (by decide +kernel)), (zm 881 (by decide +kernel) (by decide +kernel)), ⟨by decide +kernel, by decide +kernel, by decide +kernel⟩, by decide, zT_Mo, 37, rfl⟩
theorem vk_La_107 (D : va_G) (tt : ClassId × ClassId × ClassId) : zVk (zEn D tt) "EpochDirectoryLaw" 107 mz_ED_clash 1 0 := ⟨zGd D tt, ⟨Or.inl (zm 602 (by decide +kernel) (by decide +kernel)), (zm 1 (by decide +kernel) (by decide +kernel)), (zm 605 (by decide +kernel) (by decide +kernel))⟩, (zm 603 (by decide +kernel) (by decide +kernel)), (zm 604 (by decide +kernel) (by decide +kernel)), ⟨by decide +kernel, by decide +kernel, by decide +kernel⟩, by decide, zT_ED, 18, rfl⟩
theorem vk_La_110 (D : va_G) (tt : ClassId × ClassId × ClassId) : zVk (zEn D tt) "EpochDirectoryLaw" 110 mz_Mo_clash 1 10 := ⟨zGd D tt, ⟨Or.inl (zm 883 (by decide +kernel) (by decide +kernel)), (zm 12 (by decide +kernel) (by decide +kernel)), (zm 886 (by decide +kernel) (by decide +kernel))⟩, (zm 884 (by decide +kernel) (by decide +kernel)), (zm 885 (by decide +kernel) (by decide +kernel)), ⟨by decide +kernel, by decide +kernel, by decide +kernel⟩, by decide, zT_Mo, 37, rfl⟩
