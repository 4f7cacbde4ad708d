/-! KeyMatrixModel.count(I)I -/
theorem dX12_count_0 : decode cX12_count 0 = .ok (.iload_n 1, 1) := by decide +kernel
theorem dX12_count_1 : decode cX12_count 1 = .ok (.tableswitch 324 0 21 #[103, 110, 117, 126, 135, 140, 149, 158, 167, 180, 197, 206, 211, 256, 263, 270, 277, 284, 292, 300, 308, 316], 103) := by decide +kernel
theorem dX12_count_104 : decode cX12_count 104 = .ok (.aload_n 0, 1) := by decide +kernel
theorem dX12_count_105 : decode cX12_count 105 = .ok (.getfield 40, 3) := by decide +kernel
theorem dX12_count_108 : decode cX12_count 108 = .ok (.iconst 0, 1) := by decide +kernel
theorem dX12_count_109 : decode cX12_count 109 = .ok (.iaload, 1) := by decide +kernel
theorem dX12_count_110 : decode cX12_count 110 = .ok (.ireturn, 1) := by decide +kernel
theorem dX12_count_111 : decode cX12_count 111 = .ok (.aload_n 0, 1) := by decide +kernel
theorem dX12_count_112 : decode cX12_count 112 = .ok (.getfield 40, 3) := by decide +kernel
theorem dX12_count_115 : decode cX12_count 115 = .ok (.iconst 1, 1) := by decide +kernel
theorem dX12_count_116 : decode cX12_count 116 = .ok (.iaload, 1) := by decide +kernel
theorem dX12_count_117 : decode cX12_count 117 = .ok (.ireturn, 1) := by decide +kernel
theorem dX12_count_118 : decode cX12_count 118 = .ok (.aload_n 0, 1) := by decide +kernel
theorem dX12_count_119 : decode cX12_count 119 = .ok (.getfield 40, 3) := by decide +kernel
theorem dX12_count_122 : decode cX12_count 122 = .ok (.sipush 354, 3) := by decide +kernel
theorem dX12_count_125 : decode cX12_count 125 = .ok (.iaload, 1) := by decide +kernel
theorem dX12_count_126 : decode cX12_count 126 = .ok (.ireturn, 1) := by decide +kernel
theorem dX12_count_127 : decode cX12_count 127 = .ok (.aload_n 0, 1) := by decide +kernel
theorem dX12_count_128 : decode cX12_count 128 = .ok (.getfield 40, 3) := by decide +kernel
theorem dX12_count_131 : decode cX12_count 131 = .ok (.sipush 555, 3) := by decide +kernel
theorem dX12_count_134 : decode cX12_count 134 = .ok (.iaload, 1) := by decide +kernel
theorem dX12_count_135 : decode cX12_count 135 = .ok (.ireturn, 1) := by decide +kernel
theorem dX12_count_136 : decode cX12_count 136 = .ok (.aload_n 0, 1) := by decide +kernel
theorem dX12_count_137 : decode cX12_count 137 = .ok (.invokevirtual 296, 3) := by decide +kernel
theorem dX12_count_140 : decode cX12_count 140 = .ok (.ireturn, 1) := by decide +kernel
theorem dX12_count_141 : decode cX12_count 141 = .ok (.aload_n 0, 1) := by decide +kernel
theorem dX12_count_142 : decode cX12_count 142 = .ok (.getfield 40, 3) := by decide +kernel
theorem dX12_count_145 : decode cX12_count 145 = .ok (.sipush 452, 3) := by decide +kernel
theorem dX12_count_148 : decode cX12_count 148 = .ok (.iaload, 1) := by decide +kernel
theorem dX12_count_149 : decode cX12_count 149 = .ok (.ireturn, 1) := by decide +kernel
theorem dX12_count_150 : decode cX12_count 150 = .ok (.aload_n 0, 1) := by decide +kernel
theorem dX12_count_151 : decode cX12_count 151 = .ok (.getfield 40, 3) := by decide +kernel
theorem dX12_count_154 : decode cX12_count 154 = .ok (.sipush 353, 3) := by decide +kernel
theorem dX12_count_157 : decode cX12_count 157 = .ok (.iaload, 1) := by decide +kernel
theorem dX12_count_158 : decode cX12_count 158 = .ok (.ireturn, 1) := by decide +kernel
theorem dX12_count_159 : decode cX12_count 159 = .ok (.aload_n 0, 1) := by decide +kernel
theorem dX12_count_160 : decode cX12_count 160 = .ok (.getfield 40, 3) := by decide +kernel
theorem dX12_count_163 : decode cX12_count 163 = .ok (.sipush 352, 3) := by decide +kernel
theorem dX12_count_166 : decode cX12_count 166 = .ok (.iaload, 1) := by decide +kernel
theorem dX12_count_167 : decode cX12_count 167 = .ok (.ireturn, 1) := by decide +kernel
theorem dX12_count_168 : decode cX12_count 168 = .ok (.aload_n 0, 1) := by decide +kernel
theorem dX12_count_169 : decode cX12_count 169 = .ok (.aload_n 0, 1) := by decide +kernel
theorem dX12_count_170 : decode cX12_count 170 = .ok (.getfield 40, 3) := by decide +kernel
theorem dX12_count_173 : decode cX12_count 173 = .ok (.sipush 352, 3) := by decide +kernel
theorem dX12_count_176 : decode cX12_count 176 = .ok (.iaload, 1) := by decide +kernel
theorem dX12_count_177 : decode cX12_count 177 = .ok (.invokevirtual 223, 3) := by decide +kernel
theorem dX12_count_180 : decode cX12_count 180 = .ok (.ireturn, 1) := by decide +kernel
theorem dX12_count_181 : decode cX12_count 181 = .ok (.aload_n 0, 1) := by decide +kernel
theorem dX12_count_182 : decode cX12_count 182 = .ok (.aload_n 0, 1) := by decide +kernel
theorem dX12_count_183 : decode cX12_count 183 = .ok (.aload_n 0, 1) := by decide +kernel
theorem dX12_count_184 : decode cX12_count 184 = .ok (.getfield 40, 3) := by decide +kernel
theorem dX12_count_187 : decode cX12_count 187 = .ok (.sipush 352, 3) := by decide +kernel
theorem dX12_count_190 : decode cX12_count 190 = .ok (.iaload, 1) := by decide +kernel
theorem dX12_count_191 : decode cX12_count 191 = .ok (.invokevirtual 223, 3) := by decide +kernel
theorem dX12_count_194 : decode cX12_count 194 = .ok (.invokevirtual 229, 3) := by decide +kernel
theorem dX12_count_197 : decode cX12_count 197 = .ok (.ireturn, 1) := by decide +kernel
theorem dX12_count_198 : decode cX12_count 198 = .ok (.aload_n 0, 1) := by decide +kernel
theorem dX12_count_199 : decode cX12_count 199 = .ok (.getfield 40, 3) := by decide +kernel
theorem dX12_count_202 : decode cX12_count 202 = .ok (.sipush 556, 3) := by decide +kernel
theorem dX12_count_205 : decode cX12_count 205 = .ok (.iaload, 1) := by decide +kernel
theorem dX12_count_206 : decode cX12_count 206 = .ok (.ireturn, 1) := by decide +kernel
theorem dX12_count_207 : decode cX12_count 207 = .ok (.aload_n 0, 1) := by decide +kernel
theorem dX12_count_208 : decode cX12_count 208 = .ok (.getfield 90, 3) := by decide +kernel
theorem dX12_count_211 : decode cX12_count 211 = .ok (.ireturn, 1) := by decide +kernel
theorem dX12_count_212 : decode cX12_count 212 = .ok (.aload_n 0, 1) := by decide +kernel
theorem dX12_count_213 : decode cX12_count 213 = .ok (.getfield 71, 3) := by decide +kernel
theorem dX12_count_216 : decode cX12_count 216 = .ok (.iconst 0, 1) := by decide +kernel
theorem dX12_count_217 : decode cX12_count 217 = .ok (.baload, 1) := by decide +kernel
theorem dX12_count_218 : decode cX12_count 218 = .ok (.ifCond .eq 7, 3) := by decide +kernel
theorem dX12_count_221 : decode cX12_count 221 = .ok (.iconst 1, 1) := by decide +kernel
theorem dX12_count_222 : decode cX12_count 222 = .ok (.goto 4, 3) := by decide +kernel
theorem dX12_count_225 : decode cX12_count 225 = .ok (.iconst 0, 1) := by decide +kernel
theorem dX12_count_226 : decode cX12_count 226 = .ok (.aload_n 0, 1) := by decide +kernel
theorem dX12_count_227 : decode cX12_count 227 = .ok (.getfield 71, 3) := by decide +kernel
theorem dX12_count_230 : decode cX12_count 230 = .ok (.iconst 1, 1) := by decide +kernel
theorem dX12_count_231 : decode cX12_count 231 = .ok (.baload, 1) := by decide +kernel
theorem dX12_count_232 : decode cX12_count 232 = .ok (.ifCond .eq 7, 3) := by decide +kernel
theorem dX12_count_235 : decode cX12_count 235 = .ok (.iconst 1, 1) := by decide +kernel
theorem dX12_count_236 : decode cX12_count 236 = .ok (.goto 4, 3) := by decide +kernel
theorem dX12_count_239 : decode cX12_count 239 = .ok (.iconst 0, 1) := by decide +kernel
theorem dX12_count_240 : decode cX12_count 240 = .ok (.iadd, 1) := by decide +kernel
theorem dX12_count_241 : decode cX12_count 241 = .ok (.aload_n 0, 1) := by decide +kernel
theorem dX12_count_242 : decode cX12_count 242 = .ok (.getfield 71, 3) := by decide +kernel
theorem dX12_count_245 : decode cX12_count 245 = .ok (.iconst 2, 1) := by decide +kernel
theorem dX12_count_246 : decode cX12_count 246 = .ok (.baload, 1) := by decide +kernel
theorem dX12_count_247 : decode cX12_count 247 = .ok (.ifCond .eq 7, 3) := by decide +kernel
theorem dX12_count_250 : decode cX12_count 250 = .ok (.iconst 1, 1) := by decide +kernel
theorem dX12_count_251 : decode cX12_count 251 = .ok (.goto 4, 3) := by decide +kernel
theorem dX12_count_254 : decode cX12_count 254 = .ok (.iconst 0, 1) := by decide +kernel
theorem dX12_count_255 : decode cX12_count 255 = .ok (.iadd, 1) := by decide +kernel
theorem dX12_count_256 : decode cX12_count 256 = .ok (.ireturn, 1) := by decide +kernel
theorem dX12_count_257 : decode cX12_count 257 = .ok (.aload_n 0, 1) := by decide +kernel
theorem dX12_count_258 : decode cX12_count 258 = .ok (.getfield 40, 3) := by decide +kernel
theorem dX12_count_261 : decode cX12_count 261 = .ok (.iconst 2, 1) := by decide +kernel
theorem dX12_count_262 : decode cX12_count 262 = .ok (.iaload, 1) := by decide +kernel
theorem dX12_count_263 : decode cX12_count 263 = .ok (.ireturn, 1) := by decide +kernel
theorem dX12_count_264 : decode cX12_count 264 = .ok (.aload_n 0, 1) := by decide +kernel
theorem dX12_count_265 : decode cX12_count 265 = .ok (.getfield 40, 3) := by decide +kernel
theorem dX12_count_268 : decode cX12_count 268 = .ok (.iconst 3, 1) := by decide +kernel
theorem dX12_count_269 : decode cX12_count 269 = .ok (.iaload, 1) := by decide +kernel
theorem dX12_count_270 : decode cX12_count 270 = .ok (.ireturn, 1) := by decide +kernel
theorem dX12_count_271 : decode cX12_count 271 = .ok (.aload_n 0, 1) := by decide +kernel
theorem dX12_count_272 : decode cX12_count 272 = .ok (.getfield 40, 3) := by decide +kernel
theorem dX12_count_275 : decode cX12_count 275 = .ok (.iconst 4, 1) := by decide +kernel
theorem dX12_count_276 : decode cX12_count 276 = .ok (.iaload, 1) := by decide +kernel
theorem dX12_count_277 : decode cX12_count 277 = .ok (.ireturn, 1) := by decide +kernel
theorem dX12_count_278 : decode cX12_count 278 = .ok (.aload_n 0, 1) := by decide +kernel
theorem dX12_count_279 : decode cX12_count 279 = .ok (.getfield 40, 3) := by decide +kernel
theorem dX12_count_282 : decode cX12_count 282 = .ok (.iconst 5, 1) := by decide +kernel
theorem dX12_count_283 : decode cX12_count 283 = .ok (.iaload, 1) := by decide +kernel
theorem dX12_count_284 : decode cX12_count 284 = .ok (.ireturn, 1) := by decide +kernel
theorem dX12_count_285 : decode cX12_count 285 = .ok (.aload_n 0, 1) := by decide +kernel
theorem dX12_count_286 : decode cX12_count 286 = .ok (.getfield 40, 3) := by decide +kernel
theorem dX12_count_289 : decode cX12_count 289 = .ok (.bipush 6, 2) := by decide +kernel
theorem dX12_count_291 : decode cX12_count 291 = .ok (.iaload, 1) := by decide +kernel
theorem dX12_count_292 : decode cX12_count 292 = .ok (.ireturn, 1) := by decide +kernel
theorem dX12_count_293 : decode cX12_count 293 = .ok (.aload_n 0, 1) := by decide +kernel
theorem dX12_count_294 : decode cX12_count 294 = .ok (.getfield 40, 3) := by decide +kernel
theorem dX12_count_297 : decode cX12_count 297 = .ok (.bipush 7, 2) := by decide +kernel
theorem dX12_count_299 : decode cX12_count 299 = .ok (.iaload, 1) := by decide +kernel
theorem dX12_count_300 : decode cX12_count 300 = .ok (.ireturn, 1) := by decide +kernel
theorem dX12_count_301 : decode cX12_count 301 = .ok (.aload_n 0, 1) := by decide +kernel
theorem dX12_count_302 : decode cX12_count 302 = .ok (.getfield 40, 3) := by decide +kernel
theorem dX12_count_305 : decode cX12_count 305 = .ok (.bipush 11, 2) := by decide +kernel
theorem dX12_count_307 : decode cX12_count 307 = .ok (.iaload, 1) := by decide +kernel
theorem dX12_count_308 : decode cX12_count 308 = .ok (.ireturn, 1) := by decide +kernel
theorem dX12_count_309 : decode cX12_count 309 = .ok (.aload_n 0, 1) := by decide +kernel
theorem dX12_count_310 : decode cX12_count 310 = .ok (.getfield 40, 3) := by decide +kernel
theorem dX12_count_313 : decode cX12_count 313 = .ok (.bipush 8, 2) := by decide +kernel
theorem dX12_count_315 : decode cX12_count 315 = .ok (.iaload, 1) := by decide +kernel
theorem dX12_count_316 : decode cX12_count 316 = .ok (.ireturn, 1) := by decide +kernel
theorem dX12_count_317 : decode cX12_count 317 = .ok (.aload_n 0, 1) := by decide +kernel
theorem dX12_count_318 : decode cX12_count 318 = .ok (.getfield 40, 3) := by decide +kernel
theorem dX12_count_321 : decode cX12_count 321 = .ok (.bipush 9, 2) := by decide +kernel
theorem dX12_count_323 : decode cX12_count 323 = .ok (.iaload, 1) := by decide +kernel
theorem dX12_count_324 : decode cX12_count 324 = .ok (.ireturn, 1) := by decide +kernel
theorem dX12_count_325 : decode cX12_count 325 = .ok (.iconst (-1), 1) := by decide +kernel
theorem dX12_count_326 : decode cX12_count 326 = .ok (.ireturn, 1) := by decide +kernel
def rmX12_count : Room := { frames := 3, cells := 0, slots := 0, locals := 72 }
set_option maxRecDepth 100000 in
def fX12_count_J255 (N : Nat) (g : Gs) (x0 : Nat) (x1 : Int32) (z0 : Int32) (z1 : Int32) (d : Ds) : Option (Int32 × Ds) := some ((z1 + z0), d)
set_option maxHeartbeats 4000000 in
set_option maxRecDepth 100000 in
theorem tX12_count_255 {p : Program} {l : Launch} {e : Env} {s : State} {m : MethodId} {args : Array Value} {below : List Frame} {meth : Method} {c : Code} {D : va_G} {cy : Nat → ClassId} {B : Bs} (C : Cx p s m args c cX12_count 2 RX12 D cy B) (hr : meth.sig.returnType = (some .int)) (hlocks : meth.locks = false) {N : Nat} {g : Gs} {x0 : Nat} {x1 : Int32} {vz : Int32} {dz : Ds} {z0 : Int32} {z1 : Int32} {d : Ds} (hf : fX12_count_J255 N g x0 x1 z0 z1 d = some (vz, dz)) : WB p l e rmX12_count s m args below meth c 2 D cy B 0 0 (MQ below (QI D cy B vz g dz) args s 0 0 (wA B)) g d [(0, .ref (ad B x0)), (1, .int x1)] 255 [.int z0, .int z1] := by
  unfold fX12_count_J255 at hf
  refine b_iadd C dX12_count_255 ?_
  exact b_iret C hr hlocks hf dX12_count_256
set_option maxRecDepth 100000 in
def fX12_count_J240 (N : Nat) (g : Gs) (x0 : Nat) (x1 : Int32) (z0 : Int32) (z1 : Int32) (d : Ds) : Option (Int32 × Ds) := gd (chk g x0 11) <| ob (gR g x0 32) fun r80 => (gd (chk g r80 104) <| gd (¬ ((2 : Int32) < 0 ∨ gL g r80 ≤ (2 : Int32).toNatClampNeg)) <| if (dI d r80 (2 : Int32).toNatClampNeg) = 0 then (fX12_count_J255 N g x0 x1 0 (z1 + z0) d) else (fX12_count_J255 N g x0 x1 1 (z1 + z0) d))
set_option maxHeartbeats 4000000 in
set_option maxRecDepth 100000 in
theorem tX12_count_240 {p : Program} {l : Launch} {e : Env} {s : State} {m : MethodId} {args : Array Value} {below : List Frame} {meth : Method} {c : Code} {D : va_G} {cy : Nat → ClassId} {B : Bs} (C : Cx p s m args c cX12_count 2 RX12 D cy B) (hr : meth.sig.returnType = (some .int)) (hlocks : meth.locks = false) {N : Nat} {g : Gs} {x0 : Nat} {x1 : Int32} {vz : Int32} {dz : Ds} {z0 : Int32} {z1 : Int32} {d : Ds} (hf : fX12_count_J240 N g x0 x1 z0 z1 d = some (vz, dz)) : WB p l e rmX12_count s m args below meth c 2 D cy B 0 0 (MQ below (QI D cy B vz g dz) args s 0 0 (wA B)) g d [(0, .ref (ad B x0)), (1, .int x1)] 240 [.int z0, .int z1] := by
  unfold fX12_count_J240 at hf
  refine b_iadd C dX12_count_240 ?_
  refine b_aload_n C dX12_count_241 0 rfl rfl ?_
  obtain ⟨h79, hf⟩ := gd_s hf
  obtain ⟨r80, er80, hf⟩ := ob_s hf
  refine b_gR C dX12_count_242 fl_X12_71 h79 er80 ?_
  refine b_iconst C (v := 2) dX12_count_245 (by decide) ?_
  obtain ⟨h81, hf⟩ := gd_s hf
  obtain ⟨h82, hf⟩ := gd_s hf
  refine b_zald C h81 h82 dX12_count_246 ?_
  refine b_if_eq C (tgt := 254) dX12_count_247 (by decide) (fun c83 => ?_) (fun c83 => ?_)
  · have hf := it_s c83 hf
    refine b_iconst C (v := 0) dX12_count_254 (by decide) ?_
    refine b_sub [(0, .ref (ad B x0)), (1, .int x1)] [0, 1] rfl ?_
    exact tX12_count_255 C hr hlocks hf
  · have hf := if_s c83 hf
    refine b_iconst C (v := 1) dX12_count_250 (by decide) ?_
    refine b_goto C (tgt := 255) dX12_count_251 (by decide) ?_
    refine b_sub [(0, .ref (ad B x0)), (1, .int x1)] [0, 1] rfl ?_
    exact tX12_count_255 C hr hlocks hf
set_option maxRecDepth 100000 in
def fX12_count_J226 (N : Nat) (g : Gs) (x0 : Nat) (x1 : Int32) (z0 : Int32) (d : Ds) : Option (Int32 × Ds) := gd (chk g x0 11) <| ob (gR g x0 32) fun r75 => (gd (chk g r75 104) <| gd (¬ ((1 : Int32) < 0 ∨ gL g r75 ≤ (1 : Int32).toNatClampNeg)) <| if (dI d r75 (1 : Int32).toNatClampNeg) = 0 then (fX12_count_J240 N g x0 x1 0 z0 d) else (fX12_count_J240 N g x0 x1 1 z0 d))
set_option maxHeartbeats 4000000 in
set_option maxRecDepth 100000 in
theorem tX12_count_226 {p : Program} {l : Launch} {e : Env} {s : State} {m : MethodId} {args : Array Value} {below : List Frame} {meth : Method} {c : Code} {D : va_G} {cy : Nat → ClassId} {B : Bs} (C : Cx p s m args c cX12_count 2 RX12 D cy B) (hr : meth.sig.returnType = (some .int)) (hlocks : meth.locks = false) {N : Nat} {g : Gs} {x0 : Nat} {x1 : Int32} {vz : Int32} {dz : Ds} {z0 : Int32} {d : Ds} (hf : fX12_count_J226 N g x0 x1 z0 d = some (vz, dz)) : WB p l e rmX12_count s m args below meth c 2 D cy B 0 0 (MQ below (QI D cy B vz g dz) args s 0 0 (wA B)) g d [(0, .ref (ad B x0)), (1, .int x1)] 226 [.int z0] := by
  unfold fX12_count_J226 at hf
  refine b_aload_n C dX12_count_226 0 rfl rfl ?_
  obtain ⟨h74, hf⟩ := gd_s hf
  obtain ⟨r75, er75, hf⟩ := ob_s hf
  refine b_gR C dX12_count_227 fl_X12_71 h74 er75 ?_
  refine b_iconst C (v := 1) dX12_count_230 (by decide) ?_
  obtain ⟨h76, hf⟩ := gd_s hf
  obtain ⟨h77, hf⟩ := gd_s hf
  refine b_zald C h76 h77 dX12_count_231 ?_
  refine b_if_eq C (tgt := 239) dX12_count_232 (by decide) (fun c78 => ?_) (fun c78 => ?_)
  · have hf := it_s c78 hf
    refine b_iconst C (v := 0) dX12_count_239 (by decide) ?_
    refine b_sub [(0, .ref (ad B x0)), (1, .int x1)] [0, 1] rfl ?_
    exact tX12_count_240 C hr hlocks hf
  · have hf := if_s c78 hf
    refine b_iconst C (v := 1) dX12_count_235 (by decide) ?_
    refine b_goto C (tgt := 240) dX12_count_236 (by decide) ?_
    refine b_sub [(0, .ref (ad B x0)), (1, .int x1)] [0, 1] rfl ?_
    exact tX12_count_240 C hr hlocks hf
set_option maxRecDepth 100000 in
def fX12_count_J225 (N : Nat) (g : Gs) (x0 : Nat) (x1 : Int32) (d : Ds) : Option (Int32 × Ds) := fX12_count_J226 N g x0 x1 0 d
set_option maxHeartbeats 4000000 in
set_option maxRecDepth 100000 in
theorem tX12_count_225 {p : Program} {l : Launch} {e : Env} {s : State} {m : MethodId} {args : Array Value} {below : List Frame} {meth : Method} {c : Code} {D : va_G} {cy : Nat → ClassId} {B : Bs} (C : Cx p s m args c cX12_count 2 RX12 D cy B) (hr : meth.sig.returnType = (some .int)) (hlocks : meth.locks = false) {N : Nat} {g : Gs} {x0 : Nat} {x1 : Int32} {vz : Int32} {dz : Ds} {d : Ds} (hf : fX12_count_J225 N g x0 x1 d = some (vz, dz)) : WB p l e rmX12_count s m args below meth c 2 D cy B 0 0 (MQ below (QI D cy B vz g dz) args s 0 0 (wA B)) g d [(0, .ref (ad B x0)), (1, .int x1)] 225 [] := by
  unfold fX12_count_J225 at hf
  refine b_iconst C (v := 0) dX12_count_225 (by decide) ?_
  refine b_sub [(0, .ref (ad B x0)), (1, .int x1)] [0, 1] rfl ?_
  exact tX12_count_226 C hr hlocks hf
set_option maxRecDepth 100000 in
def fX12_count (N : Nat) (g : Gs) (x0 : Nat) (x1 : Int32) (d : Ds) : Option (Int32 × Ds) := if x1.toInt < 0 ∨ 21 < x1.toInt then (some ((-1), d)) else if x1 = 0 then (gd (chk g x0 11) <| ob (gR g x0 17) fun r4 => (gd (chk g r4 102) <| gd (¬ ((0 : Int32) < 0 ∨ gL g r4 ≤ (0 : Int32).toNatClampNeg)) <| some ((dI d r4 (0 : Int32).toNatClampNeg), d))) else if x1 = 1 then (gd (chk g x0 11) <| ob (gR g x0 17) fun r9 => (gd (chk g r9 102) <| gd (¬ ((1 : Int32) < 0 ∨ gL g r9 ≤ (1 : Int32).toNatClampNeg)) <| some ((dI d r9 (1 : Int32).toNatClampNeg), d))) else if x1 = 2 then (gd (chk g x0 11) <| ob (gR g x0 17) fun r14 => (gd (chk g r14 102) <| gd (¬ ((354 : Int32) < 0 ∨ gL g r14 ≤ (354 : Int32).toNatClampNeg)) <| some ((dI d r14 (354 : Int32).toNatClampNeg), d))) else if x1 = 3 then (gd (chk g x0 11) <| ob (gR g x0 17) fun r19 => (gd (chk g r19 102) <| gd (¬ ((555 : Int32) < 0 ∨ gL g r19 ≤ (555 : Int32).toNatClampNeg)) <| some ((dI d r19 (555 : Int32).toNatClampNeg), d))) else if x1 = 4 then (gd (chk g x0 11) <| cb (fX12_activeLayers N g x0 d) fun u26 d24 => (some (u26, d24))) else if x1 = 5 then (gd (chk g x0 11) <| ob (gR g x0 17) fun r29 => (gd (chk g r29 102) <| gd (¬ ((452 : Int32) < 0 ∨ gL g r29 ≤ (452 : Int32).toNatClampNeg)) <| some ((dI d r29 (452 : Int32).toNatClampNeg), d))) else if x1 = 6 then (gd (chk g x0 11) <| ob (gR g x0 17) fun r34 => (gd (chk g r34 102) <| gd (¬ ((353 : Int32) < 0 ∨ gL g r34 ≤ (353 : Int32).toNatClampNeg)) <| some ((dI d r34 (353 : Int32).toNatClampNeg), d))) else if x1 = 7 then (gd (chk g x0 11) <| ob (gR g x0 17) fun r39 => (gd (chk g r39 102) <| gd (¬ ((352 : Int32) < 0 ∨ gL g r39 ≤ (352 : Int32).toNatClampNeg)) <| some ((dI d r39 (352 : Int32).toNatClampNeg), d))) else if x1 = 8 then (gd (chk g x0 11) <| ob (gR g x0 17) fun r44 => (gd (chk g r44 102) <| gd (¬ ((352 : Int32) < 0 ∨ gL g r44 ≤ (352 : Int32).toNatClampNeg)) <| cb (fX12_seenBy N g x0 (dI d r44 (352 : Int32).toNatClampNeg) d) fun u49 d47 => (some (u49, d47)))) else if x1 = 9 then (gd (chk g x0 11) <| ob (gR g x0 17) fun r52 => (gd (chk g r52 102) <| gd (¬ ((352 : Int32) < 0 ∨ gL g r52 ≤ (352 : Int32).toNatClampNeg)) <| cb (fX12_seenBy N g x0 (dI d r52 (352 : Int32).toNatClampNeg) d) fun u57 d55 => (cb (fX12_barredBy N g x0 u57 d55) fun u60 d58 => (some (u60, d58))))) else if x1 = 10 then (gd (chk g x0 11) <| ob (gR g x0 17) fun r63 => (gd (chk g r63 102) <| gd (¬ ((556 : Int32) < 0 ∨ gL g r63 ≤ (556 : Int32).toNatClampNeg)) <| some ((dI d r63 (556 : Int32).toNatClampNeg), d))) else if x1 = 11 then (gd (chk g x0 11) <| some ((dI d x0 2), d)) else if x1 = 12 then (gd (chk g x0 11) <| ob (gR g x0 32) fun r70 => (gd (chk g r70 104) <| gd (¬ ((0 : Int32) < 0 ∨ gL g r70 ≤ (0 : Int32).toNatClampNeg)) <| if (dI d r70 (0 : Int32).toNatClampNeg) = 0 then (fX12_count_J225 N g x0 x1 d) else (fX12_count_J226 N g x0 x1 1 d))) else if x1 = 13 then (gd (chk g x0 11) <| ob (gR g x0 17) fun r86 => (gd (chk g r86 102) <| gd (¬ ((2 : Int32) < 0 ∨ gL g r86 ≤ (2 : Int32).toNatClampNeg)) <| some ((dI d r86 (2 : Int32).toNatClampNeg), d))) else if x1 = 14 then (gd (chk g x0 11) <| ob (gR g x0 17) fun r91 => (gd (chk g r91 102) <| gd (¬ ((3 : Int32) < 0 ∨ gL g r91 ≤ (3 : Int32).toNatClampNeg)) <| some ((dI d r91 (3 : Int32).toNatClampNeg), d))) else if x1 = 15 then (gd (chk g x0 11) <| ob (gR g x0 17) fun r96 => (gd (chk g r96 102) <| gd (¬ ((4 : Int32) < 0 ∨ gL g r96 ≤ (4 : Int32).toNatClampNeg)) <| some ((dI d r96 (4 : Int32).toNatClampNeg), d))) else if x1 = 16 then (gd (chk g x0 11) <| ob (gR g x0 17) fun r101 => (gd (chk g r101 102) <| gd (¬ ((5 : Int32) < 0 ∨ gL g r101 ≤ (5 : Int32).toNatClampNeg)) <| some ((dI d r101 (5 : Int32).toNatClampNeg), d))) else if x1 = 17 then (gd (chk g x0 11) <| ob (gR g x0 17) fun r106 => (gd (chk g r106 102) <| gd (¬ ((6 : Int32) < 0 ∨ gL g r106 ≤ (6 : Int32).toNatClampNeg)) <| some ((dI d r106 (6 : Int32).toNatClampNeg), d))) else if x1 = 18 then (gd (chk g x0 11) <| ob (gR g x0 17) fun r111 => (gd (chk g r111 102) <| gd (¬ ((7 : Int32) < 0 ∨ gL g r111 ≤ (7 : Int32).toNatClampNeg)) <| some ((dI d r111 (7 : Int32).toNatClampNeg), d))) else if x1 = 19 then (gd (chk g x0 11) <| ob (gR g x0 17) fun r116 => (gd (chk g r116 102) <| gd (¬ ((11 : Int32) < 0 ∨ gL g r116 ≤ (11 : Int32).toNatClampNeg)) <| some ((dI d r116 (11 : Int32).toNatClampNeg), d))) else if x1 = 20 then (gd (chk g x0 11) <| ob (gR g x0 17) fun r121 => (gd (chk g r121 102) <| gd (¬ ((8 : Int32) < 0 ∨ gL g r121 ≤ (8 : Int32).toNatClampNeg)) <| some ((dI d r121 (8 : Int32).toNatClampNeg), d))) else if x1 = 21 then (gd (chk g x0 11) <| ob (gR g x0 17) fun r126 => (gd (chk g r126 102) <| gd (¬ ((9 : Int32) < 0 ∨ gL g r126 ≤ (9 : Int32).toNatClampNeg)) <| some ((dI d r126 (9 : Int32).toNatClampNeg), d))) else none
set_option maxHeartbeats 4000000 in
set_option maxRecDepth 100000 in
theorem tX12_count_E {p : Program} {l : Launch} {e : Env} {s : State} {m : MethodId} {args : Array Value} {below : List Frame} {meth : Method} {c : Code} {D : va_G} {cy : Nat → ClassId} {B : Bs} (C : Cx p s m args c cX12_count 2 RX12 D cy B) (hr : meth.sig.returnType = (some .int)) (hlocks : meth.locks = false) {N : Nat} {g : Gs} {x0 : Nat} {x1 : Int32} {vz : Int32} {dz : Ds} {d : Ds} (hf : fX12_count N g x0 x1 d = some (vz, dz)) : WB p l e rmX12_count s m args below meth c 2 D cy B 0 0 (MQ below (QI D cy B vz g dz) args s 0 0 (wA B)) g d [(0, .ref (ad B x0)), (1, .int x1)] 0 [] := by
  unfold fX12_count at hf
  refine b_iload_n C dX12_count_0 1 rfl rfl ?_
  by_cases c1 : x1.toInt < 0 ∨ 21 < x1.toInt
  · have hf := it_s c1 hf
    refine b_tabOut C (tgt := 325) dX12_count_1 c1 (by decide) ?_
    refine b_iconst C (v := (-1)) dX12_count_325 (by decide) ?_
    exact b_iret C hr hlocks hf dX12_count_326
  · have hf := if_s c1 hf
    by_cases c2 : x1 = 0
    · have hf := it_s c2 hf
      refine b_tabIn C (tgt := 104) (off := 103) dX12_count_1 c2 (by decide) (by decide) (by decide) (by decide) ?_
      refine b_aload_n C dX12_count_104 0 rfl rfl ?_
      obtain ⟨h3, hf⟩ := gd_s hf
      obtain ⟨r4, er4, hf⟩ := ob_s hf
      refine b_gR C dX12_count_105 fl_X12_40 h3 er4 ?_
      refine b_iconst C (v := 0) dX12_count_108 (by decide) ?_
      obtain ⟨h5, hf⟩ := gd_s hf
      obtain ⟨h6, hf⟩ := gd_s hf
      refine b_iald C h5 h6 dX12_count_109 ?_
      exact b_iret C hr hlocks hf dX12_count_110
    have hf := if_s c2 hf
    by_cases c7 : x1 = 1
    · have hf := it_s c7 hf
      refine b_tabIn C (tgt := 111) (off := 110) dX12_count_1 c7 (by decide) (by decide) (by decide) (by decide) ?_
      refine b_aload_n C dX12_count_111 0 rfl rfl ?_
      obtain ⟨h8, hf⟩ := gd_s hf
      obtain ⟨r9, er9, hf⟩ := ob_s hf
      refine b_gR C dX12_count_112 fl_X12_40 h8 er9 ?_
      refine b_iconst C (v := 1) dX12_count_115 (by decide) ?_
      obtain ⟨h10, hf⟩ := gd_s hf
      obtain ⟨h11, hf⟩ := gd_s hf
      refine b_iald C h10 h11 dX12_count_116 ?_
      exact b_iret C hr hlocks hf dX12_count_117
    have hf := if_s c7 hf
    by_cases c12 : x1 = 2
    · have hf := it_s c12 hf
      refine b_tabIn C (tgt := 118) (off := 117) dX12_count_1 c12 (by decide) (by decide) (by decide) (by decide) ?_
      refine b_aload_n C dX12_count_118 0 rfl rfl ?_
      obtain ⟨h13, hf⟩ := gd_s hf
      obtain ⟨r14, er14, hf⟩ := ob_s hf
      refine b_gR C dX12_count_119 fl_X12_40 h13 er14 ?_
      refine b_sipush C (v := 354) dX12_count_122 (by decide) ?_
      obtain ⟨h15, hf⟩ := gd_s hf
      obtain ⟨h16, hf⟩ := gd_s hf
      refine b_iald C h15 h16 dX12_count_125 ?_
      exact b_iret C hr hlocks hf dX12_count_126
    have hf := if_s c12 hf
    by_cases c17 : x1 = 3
    · have hf := it_s c17 hf
      refine b_tabIn C (tgt := 127) (off := 126) dX12_count_1 c17 (by decide) (by decide) (by decide) (by decide) ?_
      refine b_aload_n C dX12_count_127 0 rfl rfl ?_
      obtain ⟨h18, hf⟩ := gd_s hf
      obtain ⟨r19, er19, hf⟩ := ob_s hf
      refine b_gR C dX12_count_128 fl_X12_40 h18 er19 ?_
      refine b_sipush C (v := 555) dX12_count_131 (by decide) ?_
      obtain ⟨h20, hf⟩ := gd_s hf
      obtain ⟨h21, hf⟩ := gd_s hf
      refine b_iald C h20 h21 dX12_count_134 ?_
      exact b_iret C hr hlocks hf dX12_count_135
    have hf := if_s c17 hf
    by_cases c22 : x1 = 4
    · have hf := it_s c22 hf
      refine b_tabIn C (tgt := 136) (off := 135) dX12_count_1 c22 (by decide) (by decide) (by decide) (by decide) ?_
      refine b_aload_n C dX12_count_136 0 rfl rfl ?_
      obtain ⟨h23, hf⟩ := gd_s hf
      obtain ⟨u26, d24, k25, hf⟩ := cb_s hf
      refine b_cVI C [] dX12_count_137 (kX12_activeLayers l D cy B k25) lv_X12_296 ⟨rfl, rfl, Nat.le_of_ble_eq_true rfl, Nat.le_of_ble_eq_true rfl⟩ h23 (by decide) rfl (Nat.le_of_ble_eq_true rfl) ⟨Nat.zero_le _, Nat.zero_le _⟩ rfl ?_
      exact b_iret C hr hlocks hf dX12_count_140
    have hf := if_s c22 hf
    by_cases c27 : x1 = 5
    · have hf := it_s c27 hf
      refine b_tabIn C (tgt := 141) (off := 140) dX12_count_1 c27 (by decide) (by decide) (by decide) (by decide) ?_
      refine b_aload_n C dX12_count_141 0 rfl rfl ?_
      obtain ⟨h28, hf⟩ := gd_s hf
      obtain ⟨r29, er29, hf⟩ := ob_s hf
      refine b_gR C dX12_count_142 fl_X12_40 h28 er29 ?_
      refine b_sipush C (v := 452) dX12_count_145 (by decide) ?_
      obtain ⟨h30, hf⟩ := gd_s hf
      obtain ⟨h31, hf⟩ := gd_s hf
      refine b_iald C h30 h31 dX12_count_148 ?_
      exact b_iret C hr hlocks hf dX12_count_149
    have hf := if_s c27 hf
    by_cases c32 : x1 = 6
    · have hf := it_s c32 hf
      refine b_tabIn C (tgt := 150) (off := 149) dX12_count_1 c32 (by decide) (by decide) (by decide) (by decide) ?_
      refine b_aload_n C dX12_count_150 0 rfl rfl ?_
      obtain ⟨h33, hf⟩ := gd_s hf
      obtain ⟨r34, er34, hf⟩ := ob_s hf
      refine b_gR C dX12_count_151 fl_X12_40 h33 er34 ?_
      refine b_sipush C (v := 353) dX12_count_154 (by decide) ?_
      obtain ⟨h35, hf⟩ := gd_s hf
      obtain ⟨h36, hf⟩ := gd_s hf
      refine b_iald C h35 h36 dX12_count_157 ?_
      exact b_iret C hr hlocks hf dX12_count_158
    have hf := if_s c32 hf
    by_cases c37 : x1 = 7
    · have hf := it_s c37 hf
      refine b_tabIn C (tgt := 159) (off := 158) dX12_count_1 c37 (by decide) (by decide) (by decide) (by decide) ?_
      refine b_aload_n C dX12_count_159 0 rfl rfl ?_
      obtain ⟨h38, hf⟩ := gd_s hf
      obtain ⟨r39, er39, hf⟩ := ob_s hf
      refine b_gR C dX12_count_160 fl_X12_40 h38 er39 ?_
      refine b_sipush C (v := 352) dX12_count_163 (by decide) ?_
      obtain ⟨h40, hf⟩ := gd_s hf
      obtain ⟨h41, hf⟩ := gd_s hf
      refine b_iald C h40 h41 dX12_count_166 ?_
      exact b_iret C hr hlocks hf dX12_count_167
    have hf := if_s c37 hf
    by_cases c42 : x1 = 8
    · have hf := it_s c42 hf
      refine b_tabIn C (tgt := 168) (off := 167) dX12_count_1 c42 (by decide) (by decide) (by decide) (by decide) ?_
      refine b_aload_n C dX12_count_168 0 rfl rfl ?_
      refine b_aload_n C dX12_count_169 0 rfl rfl ?_
      obtain ⟨h43, hf⟩ := gd_s hf
      obtain ⟨r44, er44, hf⟩ := ob_s hf
      refine b_gR C dX12_count_170 fl_X12_40 h43 er44 ?_
      refine b_sipush C (v := 352) dX12_count_173 (by decide) ?_
      obtain ⟨h45, hf⟩ := gd_s hf
      obtain ⟨h46, hf⟩ := gd_s hf
      refine b_iald C h45 h46 dX12_count_176 ?_
      obtain ⟨u49, d47, k48, hf⟩ := cb_s hf
      refine b_cVI C [] dX12_count_177 (kX12_seenBy l D cy B k48) lv_X12_223 ⟨rfl, rfl, Nat.le_of_ble_eq_true rfl, Nat.le_of_ble_eq_true rfl⟩ h43 (by decide) rfl (Nat.le_of_ble_eq_true rfl) ⟨Nat.zero_le _, Nat.zero_le _⟩ rfl ?_
      exact b_iret C hr hlocks hf dX12_count_180
    have hf := if_s c42 hf
    by_cases c50 : x1 = 9
    · have hf := it_s c50 hf
      refine b_tabIn C (tgt := 181) (off := 180) dX12_count_1 c50 (by decide) (by decide) (by decide) (by decide) ?_
      refine b_aload_n C dX12_count_181 0 rfl rfl ?_
      refine b_aload_n C dX12_count_182 0 rfl rfl ?_
      refine b_aload_n C dX12_count_183 0 rfl rfl ?_
      obtain ⟨h51, hf⟩ := gd_s hf
      obtain ⟨r52, er52, hf⟩ := ob_s hf
      refine b_gR C dX12_count_184 fl_X12_40 h51 er52 ?_
      refine b_sipush C (v := 352) dX12_count_187 (by decide) ?_
      obtain ⟨h53, hf⟩ := gd_s hf
      obtain ⟨h54, hf⟩ := gd_s hf
      refine b_iald C h53 h54 dX12_count_190 ?_
      obtain ⟨u57, d55, k56, hf⟩ := cb_s hf
      refine b_cVI C [.ref (ad B x0)] dX12_count_191 (kX12_seenBy l D cy B k56) lv_X12_223 ⟨rfl, rfl, Nat.le_of_ble_eq_true rfl, Nat.le_of_ble_eq_true rfl⟩ h51 (by decide) rfl (Nat.le_of_ble_eq_true rfl) ⟨Nat.zero_le _, Nat.zero_le _⟩ rfl ?_
      obtain ⟨u60, d58, k59, hf⟩ := cb_s hf
      refine b_cVI C [] dX12_count_194 (kX12_barredBy l D cy B k59) lv_X12_229 ⟨rfl, rfl, Nat.le_of_ble_eq_true rfl, Nat.le_of_ble_eq_true rfl⟩ h51 (by decide) rfl (Nat.le_of_ble_eq_true rfl) ⟨Nat.zero_le _, Nat.zero_le _⟩ rfl ?_
      exact b_iret C hr hlocks hf dX12_count_197
    have hf := if_s c50 hf
    by_cases c61 : x1 = 10
    · have hf := it_s c61 hf
      refine b_tabIn C (tgt := 198) (off := 197) dX12_count_1 c61 (by decide) (by decide) (by decide) (by decide) ?_
      refine b_aload_n C dX12_count_198 0 rfl rfl ?_
      obtain ⟨h62, hf⟩ := gd_s hf
      obtain ⟨r63, er63, hf⟩ := ob_s hf
      refine b_gR C dX12_count_199 fl_X12_40 h62 er63 ?_
      refine b_sipush C (v := 556) dX12_count_202 (by decide) ?_
      obtain ⟨h64, hf⟩ := gd_s hf
      obtain ⟨h65, hf⟩ := gd_s hf
      refine b_iald C h64 h65 dX12_count_205 ?_
      exact b_iret C hr hlocks hf dX12_count_206
    have hf := if_s c61 hf
    by_cases c66 : x1 = 11
    · have hf := it_s c66 hf
      refine b_tabIn C (tgt := 207) (off := 206) dX12_count_1 c66 (by decide) (by decide) (by decide) (by decide) ?_
      refine b_aload_n C dX12_count_207 0 rfl rfl ?_
      obtain ⟨h67, hf⟩ := gd_s hf
      refine b_gI C dX12_count_208 fl_X12_90 h67 ?_
      exact b_iret C hr hlocks hf dX12_count_211
    have hf := if_s c66 hf
    by_cases c68 : x1 = 12
    · have hf := it_s c68 hf
      refine b_tabIn C (tgt := 212) (off := 211) dX12_count_1 c68 (by decide) (by decide) (by decide) (by decide) ?_
      refine b_aload_n C dX12_count_212 0 rfl rfl ?_
      obtain ⟨h69, hf⟩ := gd_s hf
      obtain ⟨r70, er70, hf⟩ := ob_s hf
      refine b_gR C dX12_count_213 fl_X12_71 h69 er70 ?_
      refine b_iconst C (v := 0) dX12_count_216 (by decide) ?_
      obtain ⟨h71, hf⟩ := gd_s hf
      obtain ⟨h72, hf⟩ := gd_s hf
      refine b_zald C h71 h72 dX12_count_217 ?_
      refine b_if_eq C (tgt := 225) dX12_count_218 (by decide) (fun c73 => ?_) (fun c73 => ?_)
      · have hf := it_s c73 hf
        refine b_sub [(0, .ref (ad B x0)), (1, .int x1)] [0, 1] rfl ?_
        exact tX12_count_225 C hr hlocks hf
      · have hf := if_s c73 hf
        refine b_iconst C (v := 1) dX12_count_221 (by decide) ?_
        refine b_goto C (tgt := 226) dX12_count_222 (by decide) ?_
        refine b_sub [(0, .ref (ad B x0)), (1, .int x1)] [0, 1] rfl ?_
        exact tX12_count_226 C hr hlocks hf
    have hf := if_s c68 hf
    by_cases c84 : x1 = 13
    · have hf := it_s c84 hf
      refine b_tabIn C (tgt := 257) (off := 256) dX12_count_1 c84 (by decide) (by decide) (by decide) (by decide) ?_
      refine b_aload_n C dX12_count_257 0 rfl rfl ?_
      obtain ⟨h85, hf⟩ := gd_s hf
      obtain ⟨r86, er86, hf⟩ := ob_s hf
      refine b_gR C dX12_count_258 fl_X12_40 h85 er86 ?_
      refine b_iconst C (v := 2) dX12_count_261 (by decide) ?_
      obtain ⟨h87, hf⟩ := gd_s hf
      obtain ⟨h88, hf⟩ := gd_s hf
      refine b_iald C h87 h88 dX12_count_262 ?_
      exact b_iret C hr hlocks hf dX12_count_263
    have hf := if_s c84 hf
    by_cases c89 : x1 = 14
    · have hf := it_s c89 hf
      refine b_tabIn C (tgt := 264) (off := 263) dX12_count_1 c89 (by decide) (by decide) (by decide) (by decide) ?_
      refine b_aload_n C dX12_count_264 0 rfl rfl ?_
      obtain ⟨h90, hf⟩ := gd_s hf
      obtain ⟨r91, er91, hf⟩ := ob_s hf
      refine b_gR C dX12_count_265 fl_X12_40 h90 er91 ?_
      refine b_iconst C (v := 3) dX12_count_268 (by decide) ?_
      obtain ⟨h92, hf⟩ := gd_s hf
      obtain ⟨h93, hf⟩ := gd_s hf
      refine b_iald C h92 h93 dX12_count_269 ?_
      exact b_iret C hr hlocks hf dX12_count_270
    have hf := if_s c89 hf
    by_cases c94 : x1 = 15
    · have hf := it_s c94 hf
      refine b_tabIn C (tgt := 271) (off := 270) dX12_count_1 c94 (by decide) (by decide) (by decide) (by decide) ?_
      refine b_aload_n C dX12_count_271 0 rfl rfl ?_
      obtain ⟨h95, hf⟩ := gd_s hf
      obtain ⟨r96, er96, hf⟩ := ob_s hf
      refine b_gR C dX12_count_272 fl_X12_40 h95 er96 ?_
      refine b_iconst C (v := 4) dX12_count_275 (by decide) ?_
      obtain ⟨h97, hf⟩ := gd_s hf
      obtain ⟨h98, hf⟩ := gd_s hf
      refine b_iald C h97 h98 dX12_count_276 ?_
      exact b_iret C hr hlocks hf dX12_count_277
    have hf := if_s c94 hf
    by_cases c99 : x1 = 16
    · have hf := it_s c99 hf
      refine b_tabIn C (tgt := 278) (off := 277) dX12_count_1 c99 (by decide) (by decide) (by decide) (by decide) ?_
      refine b_aload_n C dX12_count_278 0 rfl rfl ?_
      obtain ⟨h100, hf⟩ := gd_s hf
      obtain ⟨r101, er101, hf⟩ := ob_s hf
      refine b_gR C dX12_count_279 fl_X12_40 h100 er101 ?_
      refine b_iconst C (v := 5) dX12_count_282 (by decide) ?_
      obtain ⟨h102, hf⟩ := gd_s hf
      obtain ⟨h103, hf⟩ := gd_s hf
      refine b_iald C h102 h103 dX12_count_283 ?_
      exact b_iret C hr hlocks hf dX12_count_284
    have hf := if_s c99 hf
    by_cases c104 : x1 = 17
    · have hf := it_s c104 hf
      refine b_tabIn C (tgt := 285) (off := 284) dX12_count_1 c104 (by decide) (by decide) (by decide) (by decide) ?_
      refine b_aload_n C dX12_count_285 0 rfl rfl ?_
      obtain ⟨h105, hf⟩ := gd_s hf
      obtain ⟨r106, er106, hf⟩ := ob_s hf
      refine b_gR C dX12_count_286 fl_X12_40 h105 er106 ?_
      refine b_bipush C (v := 6) dX12_count_289 (by decide) ?_
      obtain ⟨h107, hf⟩ := gd_s hf
      obtain ⟨h108, hf⟩ := gd_s hf
      refine b_iald C h107 h108 dX12_count_291 ?_
      exact b_iret C hr hlocks hf dX12_count_292
    have hf := if_s c104 hf
    by_cases c109 : x1 = 18
    · have hf := it_s c109 hf
      refine b_tabIn C (tgt := 293) (off := 292) dX12_count_1 c109 (by decide) (by decide) (by decide) (by decide) ?_
      refine b_aload_n C dX12_count_293 0 rfl rfl ?_
      obtain ⟨h110, hf⟩ := gd_s hf
      obtain ⟨r111, er111, hf⟩ := ob_s hf
      refine b_gR C dX12_count_294 fl_X12_40 h110 er111 ?_
      refine b_bipush C (v := 7) dX12_count_297 (by decide) ?_
      obtain ⟨h112, hf⟩ := gd_s hf
      obtain ⟨h113, hf⟩ := gd_s hf
      refine b_iald C h112 h113 dX12_count_299 ?_
      exact b_iret C hr hlocks hf dX12_count_300
    have hf := if_s c109 hf
    by_cases c114 : x1 = 19
    · have hf := it_s c114 hf
      refine b_tabIn C (tgt := 301) (off := 300) dX12_count_1 c114 (by decide) (by decide) (by decide) (by decide) ?_
      refine b_aload_n C dX12_count_301 0 rfl rfl ?_
      obtain ⟨h115, hf⟩ := gd_s hf
      obtain ⟨r116, er116, hf⟩ := ob_s hf
      refine b_gR C dX12_count_302 fl_X12_40 h115 er116 ?_
      refine b_bipush C (v := 11) dX12_count_305 (by decide) ?_
      obtain ⟨h117, hf⟩ := gd_s hf
      obtain ⟨h118, hf⟩ := gd_s hf
      refine b_iald C h117 h118 dX12_count_307 ?_
      exact b_iret C hr hlocks hf dX12_count_308
    have hf := if_s c114 hf
    by_cases c119 : x1 = 20
    · have hf := it_s c119 hf
      refine b_tabIn C (tgt := 309) (off := 308) dX12_count_1 c119 (by decide) (by decide) (by decide) (by decide) ?_
      refine b_aload_n C dX12_count_309 0 rfl rfl ?_
      obtain ⟨h120, hf⟩ := gd_s hf
      obtain ⟨r121, er121, hf⟩ := ob_s hf
      refine b_gR C dX12_count_310 fl_X12_40 h120 er121 ?_
      refine b_bipush C (v := 8) dX12_count_313 (by decide) ?_
      obtain ⟨h122, hf⟩ := gd_s hf
      obtain ⟨h123, hf⟩ := gd_s hf
      refine b_iald C h122 h123 dX12_count_315 ?_
      exact b_iret C hr hlocks hf dX12_count_316
    have hf := if_s c119 hf
    by_cases c124 : x1 = 21
    · have hf := it_s c124 hf
      refine b_tabIn C (tgt := 317) (off := 316) dX12_count_1 c124 (by decide) (by decide) (by decide) (by decide) ?_
      refine b_aload_n C dX12_count_317 0 rfl rfl ?_
      obtain ⟨h125, hf⟩ := gd_s hf
      obtain ⟨r126, er126, hf⟩ := ob_s hf
      refine b_gR C dX12_count_318 fl_X12_40 h125 er126 ?_
      refine b_bipush C (v := 9) dX12_count_321 (by decide) ?_
      obtain ⟨h127, hf⟩ := gd_s hf
      obtain ⟨h128, hf⟩ := gd_s hf
      refine b_iald C h127 h128 dX12_count_323 ?_
      exact b_iret C hr hlocks hf dX12_count_324
    have hf := if_s c124 hf
    cases hf
theorem kX12_count (l : Launch) (D : va_G) (cy : Nat → ClassId) (B : Bs) {N : Nat} {g : Gs} {x0 : Nat} {x1 : Int32} {vz : Int32} {dz : Ds} {d : Ds} (hf : fX12_count N g x0 x1 d = some (vz, dz)) : Met l yX12_count (.code yX12_count cX12_count 2 (some .int) :: wl) rmX12_count (PC D cy B [.ref (ad B x0), .int x1] g d) (QI D cy B vz g dz) 0 0 (wA B) :=
  met_of (by decide +kernel) (Nat.le_of_ble_eq_true rfl) (fun p e s m args below meth c C hr hlocks _ => b_sub [(0, .ref (ad B x0)), (1, .int x1)] [0, 1] rfl (tX12_count_E C hr hlocks hf))
