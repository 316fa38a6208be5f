/-! THE LAW as a function, laid by decomp.py -/
theorem ev_ab_723 : ev_isAb 723 2 .long = true := (by decide +kernel)
def ja_188 (Q L : Nat) (xs : Nat → Int32) (x1 : Int) (K2272 : ev_St → Option ((Int) × ev_St)) (s8 : ev_St) : Option (Int × ev_St) := ev_ck (x1 + 1) fun x22 => ev_if ((0 : Int) ≤ x22 ∧ x22 < (L : Int)) (ev_b (xs (Int.toNat x22)).toInt fun x23 => ev_bd (jm_364 Q ((0 + 1)) x23 ((723 + 1)) s8) fun x25 s24 => ev_ck (x1 + 1) fun x26 => ev_if ((0 : Int) ≤ x26 ∧ x26 < (L : Int)) (ev_b (xs (Int.toNat x26)).toInt fun x27 => ev_bd (jm_230 Q x27 s24) fun x29 s28 => ev_bd (jm_220 Q  s28) fun x31 s30 => if x31 = x25 then (ev_jn (fun  (s39 : ev_St) => K2272  s39) fun K241 => if x25 ≠ 0 then (K241  s30) else (ev_if ((0 : Int) ≤ 0 ∧ 0 < (ev_aln 723 : Int)) (ev_b (s30.2.1 723 (Int.toNat 0)) fun y41 => ev_b (ev_i2l x29) fun y42 => ev_b (ev_lcmp y41 y42) fun x43 => if x43 = 0 then (K241  s30) else (some (0, s30))))) else (some (0, s30))))
def ja_244 (Q L : Nat) (xs : Nat → Int32)  (K2272 : ev_St → Option ((Int) × ev_St)) (s8 : ev_St) : Option (Int × ev_St) := ev_bd (jm_167 Q  s8) fun x47 s46 => ev_bd (jm_231 Q  s46) fun x49 s48 => if x47 = x49 then (K2272  s48) else (some (0, s48))
def ja_257 (Q L : Nat) (xs : Nat → Int32) (x1 : Int) (K2272 : ev_St → Option ((Int) × ev_St)) (s8 : ev_St) : Option (Int × ev_St) := ev_ck (x1 + 1) fun x52 => ev_if ((0 : Int) ≤ x52 ∧ x52 < (L : Int)) (ev_b (xs (Int.toNat x52)).toInt fun x53 => ev_bd (jm_365 Q ((0 + 1)) x53 ((723 + 1)) s8) fun x55 s54 => ev_ck (x1 + 1) fun x56 => ev_if ((0 : Int) ≤ x56 ∧ x56 < (L : Int)) (ev_b (xs (Int.toNat x56)).toInt fun x57 => ev_bd (jm_271 Q x57 s54) fun x59 s58 => ev_bd (jm_220 Q  s58) fun x61 s60 => if x61 = x55 then (ev_jn (fun  (s69 : ev_St) => K2272  s69) fun K310 => if x55 ≠ 0 then (K310  s60) else (ev_if ((0 : Int) ≤ 0 ∧ 0 < (ev_aln 723 : Int)) (ev_b (s60.2.1 723 (Int.toNat 0)) fun y71 => ev_b (ev_i2l x59) fun y72 => ev_b (ev_lcmp y71 y72) fun x73 => if x73 = 0 then (K310  s60) else (some (0, s60))))) else (some (0, s60))))
def ja_313 (Q L : Nat) (xs : Nat → Int32)  (K2272 : ev_St → Option ((Int) × ev_St)) (s8 : ev_St) : Option (Int × ev_St) := ev_bd (jm_366 Q ((0 + 1)) ((723 + 1)) s8) fun x77 s76 => ev_bd (jm_272 Q  s76) fun x79 s78 => ev_bd (jm_220 Q  s78) fun x81 s80 => if x81 = x77 then (ev_jn (fun  (s89 : ev_St) => K2272  s89) fun K354 => if x77 ≠ 0 then (K354  s80) else (ev_if ((0 : Int) ≤ 0 ∧ 0 < (ev_aln 723 : Int)) (ev_b (s80.2.1 723 (Int.toNat 0)) fun y91 => ev_b (ev_i2l x79) fun y92 => ev_b (ev_lcmp y91 y92) fun x93 => if x93 = 0 then (K354  s80) else (some (0, s80))))) else (some (0, s80))
def ja_357 (Q L : Nat) (xs : Nat → Int32)  (K2272 : ev_St → Option ((Int) × ev_St)) (s8 : ev_St) : Option (Int × ev_St) := ev_bd (jm_367 Q ((0 + 1)) ((723 + 1)) s8) fun x97 s96 => ev_bd (jm_337 Q  s96) fun x99 s98 => ev_bd (jm_220 Q  s98) fun x101 s100 => if x101 = x97 then (ev_jn (fun  (s109 : ev_St) => K2272  s109) fun K398 => if x97 ≠ 0 then (K398  s100) else (ev_if ((0 : Int) ≤ 0 ∧ 0 < (ev_aln 723 : Int)) (ev_b (s100.2.1 723 (Int.toNat 0)) fun y111 => ev_b (ev_i2l x99) fun y112 => ev_b (ev_lcmp y111 y112) fun x113 => if x113 = 0 then (K398  s100) else (some (0, s100))))) else (some (0, s100))
def ja_401 (Q L : Nat) (xs : Nat → Int32) (x1 : Int) (K2272 : ev_St → Option ((Int) × ev_St)) (s8 : ev_St) : Option (Int × ev_St) := ev_ck (x1 + 1) fun x116 => ev_if ((0 : Int) ≤ x116 ∧ x116 < (L : Int)) (ev_b (xs (Int.toNat x116)).toInt fun x117 => ev_bd (jm_368 Q ((0 + 1)) x117 ((723 + 1)) s8) fun x119 s118 => ev_ck (x1 + 1) fun x120 => ev_if ((0 : Int) ≤ x120 ∧ x120 < (L : Int)) (ev_b (xs (Int.toNat x120)).toInt fun x121 => ev_bd (jm_274 Q x121 s118) fun x123 s122 => ev_bd (jm_220 Q  s122) fun x125 s124 => if x125 = x119 then (ev_jn (fun  (s133 : ev_St) => K2272  s133) fun K454 => if x119 ≠ 0 then (K454  s124) else (ev_if ((0 : Int) ≤ 0 ∧ 0 < (ev_aln 723 : Int)) (ev_b (s124.2.1 723 (Int.toNat 0)) fun y135 => ev_b (ev_i2l x123) fun y136 => ev_b (ev_lcmp y135 y136) fun x137 => if x137 = 0 then (K454  s124) else (some (0, s124))))) else (some (0, s124))))
def ja_457 (Q L : Nat) (xs : Nat → Int32) (x1 : Int) (K2272 : ev_St → Option ((Int) × ev_St)) (s8 : ev_St) : Option (Int × ev_St) := ev_ck (x1 + 1) fun x140 => ev_if ((0 : Int) ≤ x140 ∧ x140 < (L : Int)) (ev_b (xs (Int.toNat x140)).toInt fun x141 => ev_bd (jm_369 Q ((0 + 1)) x141 ((723 + 1)) s8) fun x143 s142 => ev_ck (x1 + 1) fun x144 => ev_if ((0 : Int) ≤ x144 ∧ x144 < (L : Int)) (ev_b (xs (Int.toNat x144)).toInt fun x145 => ev_bd (jm_275 Q x145 s142) fun x147 s146 => ev_bd (jm_220 Q  s146) fun x149 s148 => if x149 = x143 then (ev_jn (fun  (s157 : ev_St) => K2272  s157) fun K510 => if x143 ≠ 0 then (K510  s148) else (ev_if ((0 : Int) ≤ 0 ∧ 0 < (ev_aln 723 : Int)) (ev_b (s148.2.1 723 (Int.toNat 0)) fun y159 => ev_b (ev_i2l x147) fun y160 => ev_b (ev_lcmp y159 y160) fun x161 => if x161 = 0 then (K510  s148) else (some (0, s148))))) else (some (0, s148))))
def ja_513 (Q L : Nat) (xs : Nat → Int32) (x1 : Int) (K2272 : ev_St → Option ((Int) × ev_St)) (s8 : ev_St) : Option (Int × ev_St) := ev_ck (x1 + 1) fun x164 => ev_if ((0 : Int) ≤ x164 ∧ x164 < (L : Int)) (ev_b (xs (Int.toNat x164)).toInt fun x165 => ev_ck (x1 + 2) fun x166 => ev_if ((0 : Int) ≤ x166 ∧ x166 < (L : Int)) (ev_b (xs (Int.toNat x166)).toInt fun x167 => ev_bd (jm_370 Q ((0 + 1)) x165 x167 ((723 + 1)) s8) fun x169 s168 => ev_ck (x1 + 1) fun x170 => ev_if ((0 : Int) ≤ x170 ∧ x170 < (L : Int)) (ev_b (xs (Int.toNat x170)).toInt fun x171 => ev_ck (x1 + 2) fun x172 => ev_if ((0 : Int) ≤ x172 ∧ x172 < (L : Int)) (ev_b (xs (Int.toNat x172)).toInt fun x173 => ev_bd (jm_277 Q x171 x173 s168) fun x175 s174 => ev_bd (jm_220 Q  s174) fun x177 s176 => if x177 = x169 then (ev_jn (fun  (s185 : ev_St) => K2272  s185) fun K585 => if x169 ≠ 0 then (K585  s176) else (ev_if ((0 : Int) ≤ 0 ∧ 0 < (ev_aln 723 : Int)) (ev_b (s176.2.1 723 (Int.toNat 0)) fun y187 => ev_jn (fun (y189 : Int64) (y188 : Int64) (s196 : ev_St) => ev_b (ev_lcmp y188 y189) fun x197 => if x197 = 0 then (K585  s196) else (some (0, s196))) fun K579 => if x175 = 0 then (K579 ((Int64.ofNat ((0 : Fin 2) : Nat))) y187 s176) else (K579 ((Int64.ofNat ((1 : Fin 2) : Nat))) y187 s176)))) else (some (0, s176))))))
def ja_588 (Q L : Nat) (xs : Nat → Int32) (x1 : Int) (K2272 : ev_St → Option ((Int) × ev_St)) (s8 : ev_St) : Option (Int × ev_St) := ev_ck (x1 + 1) fun x201 => ev_if ((0 : Int) ≤ x201 ∧ x201 < (L : Int)) (ev_b (xs (Int.toNat x201)).toInt fun x202 => ev_ck (x1 + 2) fun x203 => ev_if ((0 : Int) ≤ x203 ∧ x203 < (L : Int)) (ev_b (xs (Int.toNat x203)).toInt fun x204 => ev_bd (jm_371 Q ((0 + 1)) x202 x204 ((723 + 1)) s8) fun x206 s205 => ev_ck (x1 + 1) fun x207 => ev_if ((0 : Int) ≤ x207 ∧ x207 < (L : Int)) (ev_b (xs (Int.toNat x207)).toInt fun x208 => ev_ck (x1 + 2) fun x209 => ev_if ((0 : Int) ≤ x209 ∧ x209 < (L : Int)) (ev_b (xs (Int.toNat x209)).toInt fun x210 => ev_bd (jm_279 Q x208 x210 s205) fun x212 s211 => ev_bd (jm_220 Q  s211) fun x214 s213 => if x214 = x206 then (ev_jn (fun  (s222 : ev_St) => K2272  s222) fun K653 => if x206 ≠ 0 then (K653  s213) else (ev_if ((0 : Int) ≤ 0 ∧ 0 < (ev_aln 723 : Int)) (ev_b (s213.2.1 723 (Int.toNat 0)) fun y224 => ev_b (ev_i2l x212) fun y225 => ev_b (ev_lcmp y224 y225) fun x226 => if x226 = 0 then (K653  s213) else (some (0, s213))))) else (some (0, s213))))))
def ja_656 (Q L : Nat) (xs : Nat → Int32) (x1 : Int) (K2272 : ev_St → Option ((Int) × ev_St)) (s8 : ev_St) : Option (Int × ev_St) := ev_ck (x1 + 1) fun x229 => ev_if ((0 : Int) ≤ x229 ∧ x229 < (L : Int)) (ev_b (xs (Int.toNat x229)).toInt fun x230 => ev_bd (jm_372 Q ((0 + 1)) x230 ((723 + 1)) s8) fun x232 s231 => ev_ck (x1 + 1) fun x233 => ev_if ((0 : Int) ≤ x233 ∧ x233 < (L : Int)) (ev_b (xs (Int.toNat x233)).toInt fun x234 => ev_bd (jm_287 Q x234 s231) fun x236 s235 => ev_bd (jm_220 Q  s235) fun x238 s237 => if x238 = x232 then (ev_jn (fun  (s246 : ev_St) => K2272  s246) fun K709 => if x232 ≠ 0 then (K709  s237) else (ev_if ((0 : Int) ≤ 0 ∧ 0 < (ev_aln 723 : Int)) (ev_b (s237.2.1 723 (Int.toNat 0)) fun y248 => ev_b (ev_i2l x236) fun y249 => ev_b (ev_lcmp y248 y249) fun x250 => if x250 = 0 then (K709  s237) else (some (0, s237))))) else (some (0, s237))))
def ja_712 (Q L : Nat) (xs : Nat → Int32) (x1 : Int) (K2272 : ev_St → Option ((Int) × ev_St)) (s8 : ev_St) : Option (Int × ev_St) := ev_ck (x1 + 1) fun x253 => ev_if ((0 : Int) ≤ x253 ∧ x253 < (L : Int)) (ev_b (xs (Int.toNat x253)).toInt fun x254 => ev_ck (x1 + 2) fun x255 => ev_if ((0 : Int) ≤ x255 ∧ x255 < (L : Int)) (ev_b (xs (Int.toNat x255)).toInt fun x256 => ev_ck (x1 + 3) fun x257 => ev_if ((0 : Int) ≤ x257 ∧ x257 < (L : Int)) (ev_b (xs (Int.toNat x257)).toInt fun x258 => ev_ck (x1 + 4) fun x259 => ev_if ((0 : Int) ≤ x259 ∧ x259 < (L : Int)) (ev_b (xs (Int.toNat x259)).toInt fun x260 => ev_bd (jm_373 Q ((0 + 1)) x254 x256 x258 x260 ((723 + 1)) s8) fun x262 s261 => ev_ck (x1 + 1) fun x263 => ev_if ((0 : Int) ≤ x263 ∧ x263 < (L : Int)) (ev_b (xs (Int.toNat x263)).toInt fun x264 => ev_ck (x1 + 2) fun x265 => ev_if ((0 : Int) ≤ x265 ∧ x265 < (L : Int)) (ev_b (xs (Int.toNat x265)).toInt fun x266 => ev_ck (x1 + 3) fun x267 => ev_if ((0 : Int) ≤ x267 ∧ x267 < (L : Int)) (ev_b (xs (Int.toNat x267)).toInt fun x268 => ev_ck (x1 + 4) fun x269 => ev_if ((0 : Int) ≤ x269 ∧ x269 < (L : Int)) (ev_b (xs (Int.toNat x269)).toInt fun x270 => ev_bd (jm_328 Q x264 x266 x268 x270 s261) fun x272 s271 => ev_bd (jm_220 Q  s271) fun x274 s273 => if x274 = x262 then (ev_jn (fun  (s282 : ev_St) => K2272  s282) fun K801 => if x262 ≠ 0 then (K801  s273) else (ev_if ((0 : Int) ≤ 0 ∧ 0 < (ev_aln 723 : Int)) (ev_b (s273.2.1 723 (Int.toNat 0)) fun y284 => ev_b (ev_i2l x272) fun y285 => ev_b (ev_lcmp y284 y285) fun x286 => if x286 = 0 then (K801  s273) else (some (0, s273))))) else (some (0, s273))))))))))
def ja_804 (Q L : Nat) (xs : Nat → Int32) (x1 : Int) (K2272 : ev_St → Option ((Int) × ev_St)) (s8 : ev_St) : Option (Int × ev_St) := ev_ck (x1 + 1) fun x289 => ev_if ((0 : Int) ≤ x289 ∧ x289 < (L : Int)) (ev_b (xs (Int.toNat x289)).toInt fun x290 => ev_ck (x1 + 2) fun x291 => ev_if ((0 : Int) ≤ x291 ∧ x291 < (L : Int)) (ev_b (xs (Int.toNat x291)).toInt fun x292 => ev_ck (x1 + 3) fun x293 => ev_if ((0 : Int) ≤ x293 ∧ x293 < (L : Int)) (ev_b (xs (Int.toNat x293)).toInt fun x294 => ev_ck (x1 + 4) fun x295 => ev_if ((0 : Int) ≤ x295 ∧ x295 < (L : Int)) (ev_b (xs (Int.toNat x295)).toInt fun x296 => ev_bd (jm_374 Q ((0 + 1)) x290 x292 x294 x296 ((723 + 1)) s8) fun x298 s297 => ev_ck (x1 + 1) fun x299 => ev_if ((0 : Int) ≤ x299 ∧ x299 < (L : Int)) (ev_b (xs (Int.toNat x299)).toInt fun x300 => ev_ck (x1 + 2) fun x301 => ev_if ((0 : Int) ≤ x301 ∧ x301 < (L : Int)) (ev_b (xs (Int.toNat x301)).toInt fun x302 => ev_ck (x1 + 3) fun x303 => ev_if ((0 : Int) ≤ x303 ∧ x303 < (L : Int)) (ev_b (xs (Int.toNat x303)).toInt fun x304 => ev_ck (x1 + 4) fun x305 => ev_if ((0 : Int) ≤ x305 ∧ x305 < (L : Int)) (ev_b (xs (Int.toNat x305)).toInt fun x306 => ev_bd (jm_329 Q x300 x302 x304 x306 s297) fun x308 s307 => ev_bd (jm_220 Q  s307) fun x310 s309 => if x310 = x298 then (ev_jn (fun  (s318 : ev_St) => K2272  s318) fun K893 => if x298 ≠ 0 then (K893  s309) else (ev_if ((0 : Int) ≤ 0 ∧ 0 < (ev_aln 723 : Int)) (ev_b (s309.2.1 723 (Int.toNat 0)) fun y320 => ev_b (ev_i2l x308) fun y321 => ev_b (ev_lcmp y320 y321) fun x322 => if x322 = 0 then (K893  s309) else (some (0, s309))))) else (some (0, s309))))))))))
def ja_896 (Q L : Nat) (xs : Nat → Int32) (x1 : Int) (K2272 : ev_St → Option ((Int) × ev_St)) (s8 : ev_St) : Option (Int × ev_St) := ev_ck (x1 + 1) fun x325 => ev_if ((0 : Int) ≤ x325 ∧ x325 < (L : Int)) (ev_b (xs (Int.toNat x325)).toInt fun x326 => ev_ck (x1 + 2) fun x327 => ev_if ((0 : Int) ≤ x327 ∧ x327 < (L : Int)) (ev_b (xs (Int.toNat x327)).toInt fun x328 => ev_ck (x1 + 3) fun x329 => ev_if ((0 : Int) ≤ x329 ∧ x329 < (L : Int)) (ev_b (xs (Int.toNat x329)).toInt fun x330 => ev_ck (x1 + 4) fun x331 => ev_if ((0 : Int) ≤ x331 ∧ x331 < (L : Int)) (ev_b (xs (Int.toNat x331)).toInt fun x332 => ev_ck (x1 + 5) fun x333 => ev_if ((0 : Int) ≤ x333 ∧ x333 < (L : Int)) (ev_b (xs (Int.toNat x333)).toInt fun x334 => ev_bd (jm_375 Q ((0 + 1)) x326 x328 x330 x332 x334 ((723 + 1)) s8) fun x336 s335 => ev_ck (x1 + 1) fun x337 => ev_if ((0 : Int) ≤ x337 ∧ x337 < (L : Int)) (ev_b (xs (Int.toNat x337)).toInt fun x338 => ev_ck (x1 + 2) fun x339 => ev_if ((0 : Int) ≤ x339 ∧ x339 < (L : Int)) (ev_b (xs (Int.toNat x339)).toInt fun x340 => ev_ck (x1 + 3) fun x341 => ev_if ((0 : Int) ≤ x341 ∧ x341 < (L : Int)) (ev_b (xs (Int.toNat x341)).toInt fun x342 => ev_ck (x1 + 4) fun x343 => ev_if ((0 : Int) ≤ x343 ∧ x343 < (L : Int)) (ev_b (xs (Int.toNat x343)).toInt fun x344 => ev_ck (x1 + 5) fun x345 => ev_if ((0 : Int) ≤ x345 ∧ x345 < (L : Int)) (ev_b (xs (Int.toNat x345)).toInt fun x346 => ev_bd (jm_330 Q x338 x340 x342 x344 x346 s335) fun x348 s347 => ev_bd (jm_220 Q  s347) fun x350 s349 => if x350 = x336 then (ev_jn (fun  (s358 : ev_St) => K2272  s358) fun K997 => if x336 ≠ 0 then (K997  s349) else (ev_if ((0 : Int) ≤ 0 ∧ 0 < (ev_aln 723 : Int)) (ev_b (s349.2.1 723 (Int.toNat 0)) fun y360 => ev_b (ev_i2l x348) fun y361 => ev_b (ev_lcmp y360 y361) fun x362 => if x362 = 0 then (K997  s349) else (some (0, s349))))) else (some (0, s349))))))))))))
def ja_1000 (Q L : Nat) (xs : Nat → Int32) (x1 : Int) (K2272 : ev_St → Option ((Int) × ev_St)) (s8 : ev_St) : Option (Int × ev_St) := ev_ck (x1 + 1) fun x365 => ev_if ((0 : Int) ≤ x365 ∧ x365 < (L : Int)) (ev_b (xs (Int.toNat x365)).toInt fun x366 => ev_ck (x1 + 2) fun x367 => ev_if ((0 : Int) ≤ x367 ∧ x367 < (L : Int)) (ev_b (xs (Int.toNat x367)).toInt fun x368 => ev_ck (x1 + 3) fun x369 => ev_if ((0 : Int) ≤ x369 ∧ x369 < (L : Int)) (ev_b (xs (Int.toNat x369)).toInt fun x370 => ev_bd (jm_376 Q ((0 + 1)) x366 x368 x370 ((723 + 1)) s8) fun x372 s371 => ev_ck (x1 + 1) fun x373 => ev_if ((0 : Int) ≤ x373 ∧ x373 < (L : Int)) (ev_b (xs (Int.toNat x373)).toInt fun x374 => ev_ck (x1 + 2) fun x375 => ev_if ((0 : Int) ≤ x375 ∧ x375 < (L : Int)) (ev_b (xs (Int.toNat x375)).toInt fun x376 => ev_ck (x1 + 3) fun x377 => ev_if ((0 : Int) ≤ x377 ∧ x377 < (L : Int)) (ev_b (xs (Int.toNat x377)).toInt fun x378 => ev_bd (jm_331 Q x374 x376 x378 s371) fun x380 s379 => ev_bd (jm_220 Q  s379) fun x382 s381 => if x382 = x372 then (ev_jn (fun  (s390 : ev_St) => K2272  s390) fun K1077 => if x372 ≠ 0 then (K1077  s381) else (ev_if ((0 : Int) ≤ 0 ∧ 0 < (ev_aln 723 : Int)) (ev_b (s381.2.1 723 (Int.toNat 0)) fun y392 => ev_b (ev_i2l x380) fun y393 => ev_b (ev_lcmp y392 y393) fun x394 => if x394 = 0 then (K1077  s381) else (some (0, s381))))) else (some (0, s381))))))))
def ja_1080 (Q L : Nat) (xs : Nat → Int32) (x1 : Int) (K2272 : ev_St → Option ((Int) × ev_St)) (s8 : ev_St) : Option (Int × ev_St) := ev_ck (x1 + 1) fun x397 => ev_if ((0 : Int) ≤ x397 ∧ x397 < (L : Int)) (ev_b (xs (Int.toNat x397)).toInt fun x398 => ev_ck (x1 + 2) fun x399 => ev_if ((0 : Int) ≤ x399 ∧ x399 < (L : Int)) (ev_b (xs (Int.toNat x399)).toInt fun x400 => ev_ck (x1 + 3) fun x401 => ev_if ((0 : Int) ≤ x401 ∧ x401 < (L : Int)) (ev_b (xs (Int.toNat x401)).toInt fun x402 => ev_bd (jm_377 Q ((0 + 1)) x398 x400 x402 ((723 + 1)) s8) fun x404 s403 => ev_ck (x1 + 1) fun x405 => ev_if ((0 : Int) ≤ x405 ∧ x405 < (L : Int)) (ev_b (xs (Int.toNat x405)).toInt fun x406 => ev_ck (x1 + 2) fun x407 => ev_if ((0 : Int) ≤ x407 ∧ x407 < (L : Int)) (ev_b (xs (Int.toNat x407)).toInt fun x408 => ev_ck (x1 + 3) fun x409 => ev_if ((0 : Int) ≤ x409 ∧ x409 < (L : Int)) (ev_b (xs (Int.toNat x409)).toInt fun x410 => ev_bd (jm_332 Q x406 x408 x410 s403) fun x412 s411 => ev_bd (jm_220 Q  s411) fun x414 s413 => if x414 = x404 then (ev_jn (fun  (s422 : ev_St) => K2272  s422) fun K1157 => if x404 ≠ 0 then (K1157  s413) else (ev_if ((0 : Int) ≤ 0 ∧ 0 < (ev_aln 723 : Int)) (ev_b (s413.2.1 723 (Int.toNat 0)) fun y424 => ev_b (ev_i2l x412) fun y425 => ev_b (ev_lcmp y424 y425) fun x426 => if x426 = 0 then (K1157  s413) else (some (0, s413))))) else (some (0, s413))))))))
def ja_1160 (Q L : Nat) (xs : Nat → Int32) (x1 : Int) (K2272 : ev_St → Option ((Int) × ev_St)) (s8 : ev_St) : Option (Int × ev_St) := ev_ck (x1 + 1) fun x429 => ev_if ((0 : Int) ≤ x429 ∧ x429 < (L : Int)) (ev_b (xs (Int.toNat x429)).toInt fun x430 => ev_ck (x1 + 2) fun x431 => ev_if ((0 : Int) ≤ x431 ∧ x431 < (L : Int)) (ev_b (xs (Int.toNat x431)).toInt fun x432 => ev_bd (jm_378 Q ((0 + 1)) x430 x432 ((723 + 1)) s8) fun x434 s433 => ev_ck (x1 + 1) fun x435 => ev_if ((0 : Int) ≤ x435 ∧ x435 < (L : Int)) (ev_b (xs (Int.toNat x435)).toInt fun x436 => ev_ck (x1 + 2) fun x437 => ev_if ((0 : Int) ≤ x437 ∧ x437 < (L : Int)) (ev_b (xs (Int.toNat x437)).toInt fun x438 => ev_bd (jm_334 Q x436 x438 s433) fun x440 s439 => ev_bd (jm_220 Q  s439) fun x442 s441 => if x442 = x434 then (ev_jn (fun  (s450 : ev_St) => K2272  s450) fun K1225 => if x434 ≠ 0 then (K1225  s441) else (ev_if ((0 : Int) ≤ 0 ∧ 0 < (ev_aln 723 : Int)) (ev_b (s441.2.1 723 (Int.toNat 0)) fun y452 => ev_b (ev_i2l x440) fun y453 => ev_b (ev_lcmp y452 y453) fun x454 => if x454 = 0 then (K1225  s441) else (some (0, s441))))) else (some (0, s441))))))
def ja_1228 (Q L : Nat) (xs : Nat → Int32) (x1 : Int) (K2272 : ev_St → Option ((Int) × ev_St)) (s8 : ev_St) : Option (Int × ev_St) := ev_ck (x1 + 1) fun x457 => ev_if ((0 : Int) ≤ x457 ∧ x457 < (L : Int)) (ev_b (xs (Int.toNat x457)).toInt fun x458 => ev_ck (x1 + 2) fun x459 => ev_if ((0 : Int) ≤ x459 ∧ x459 < (L : Int)) (ev_b (xs (Int.toNat x459)).toInt fun x460 => ev_ck (x1 + 3) fun x461 => ev_if ((0 : Int) ≤ x461 ∧ x461 < (L : Int)) (ev_b (xs (Int.toNat x461)).toInt fun x462 => ev_bd (jm_379 Q ((0 + 1)) x458 x460 x462 ((723 + 1)) s8) fun x464 s463 => ev_ck (x1 + 1) fun x465 => ev_if ((0 : Int) ≤ x465 ∧ x465 < (L : Int)) (ev_b (xs (Int.toNat x465)).toInt fun x466 => ev_ck (x1 + 2) fun x467 => ev_if ((0 : Int) ≤ x467 ∧ x467 < (L : Int)) (ev_b (xs (Int.toNat x467)).toInt fun x468 => ev_ck (x1 + 3) fun x469 => ev_if ((0 : Int) ≤ x469 ∧ x469 < (L : Int)) (ev_b (xs (Int.toNat x469)).toInt fun x470 => ev_bd (jm_335 Q x466 x468 x470 s463) fun x472 s471 => ev_bd (jm_220 Q  s471) fun x474 s473 => if x474 = x464 then (ev_jn (fun  (s482 : ev_St) => K2272  s482) fun K1305 => if x464 ≠ 0 then (K1305  s473) else (ev_if ((0 : Int) ≤ 0 ∧ 0 < (ev_aln 723 : Int)) (ev_b (s473.2.1 723 (Int.toNat 0)) fun y484 => ev_b (ev_i2l x472) fun y485 => ev_b (ev_lcmp y484 y485) fun x486 => if x486 = 0 then (K1305  s473) else (some (0, s473))))) else (some (0, s473))))))))
def ja_1308 (Q L : Nat) (xs : Nat → Int32) (x1 : Int) (K2272 : ev_St → Option ((Int) × ev_St)) (s8 : ev_St) : Option (Int × ev_St) := ev_ck (x1 + 1) fun x489 => ev_if ((0 : Int) ≤ x489 ∧ x489 < (L : Int)) (ev_b (xs (Int.toNat x489)).toInt fun x490 => ev_bd (jm_380 Q ((0 + 1)) x490 ((723 + 1)) s8) fun x492 s491 => ev_ck (x1 + 1) fun x493 => ev_if ((0 : Int) ≤ x493 ∧ x493 < (L : Int)) (ev_b (xs (Int.toNat x493)).toInt fun x494 => ev_bd (jm_346 Q x494 s491) fun x496 s495 => ev_bd (jm_220 Q  s495) fun x498 s497 => if x498 = x492 then (ev_jn (fun  (s506 : ev_St) => K2272  s506) fun K1361 => if x492 ≠ 0 then (K1361  s497) else (ev_if ((0 : Int) ≤ 0 ∧ 0 < (ev_aln 723 : Int)) (ev_b (s497.2.1 723 (Int.toNat 0)) fun y508 => ev_b (ev_i2l x496) fun y509 => ev_b (ev_lcmp y508 y509) fun x510 => if x510 = 0 then (K1361  s497) else (some (0, s497))))) else (some (0, s497))))
def ja_1364 (Q L : Nat) (xs : Nat → Int32) (x1 : Int) (K2272 : ev_St → Option ((Int) × ev_St)) (s8 : ev_St) : Option (Int × ev_St) := ev_ck (x1 + 1) fun x513 => ev_if ((0 : Int) ≤ x513 ∧ x513 < (L : Int)) (ev_b (xs (Int.toNat x513)).toInt fun x514 => ev_bd (jm_381 Q ((0 + 1)) x514 ((723 + 1)) s8) fun x516 s515 => ev_ck (x1 + 1) fun x517 => ev_if ((0 : Int) ≤ x517 ∧ x517 < (L : Int)) (ev_b (xs (Int.toNat x517)).toInt fun x518 => ev_bd (jm_347 Q x518 s515) fun x520 s519 => ev_bd (jm_220 Q  s519) fun x522 s521 => if x522 = x516 then (ev_jn (fun  (s530 : ev_St) => K2272  s530) fun K1417 => if x516 ≠ 0 then (K1417  s521) else (ev_if ((0 : Int) ≤ 0 ∧ 0 < (ev_aln 723 : Int)) (ev_b (s521.2.1 723 (Int.toNat 0)) fun y532 => ev_b (ev_i2l x520) fun y533 => ev_b (ev_lcmp y532 y533) fun x534 => if x534 = 0 then (K1417  s521) else (some (0, s521))))) else (some (0, s521))))
def ja_1420 (Q L : Nat) (xs : Nat → Int32) (x1 : Int) (K2272 : ev_St → Option ((Int) × ev_St)) (s8 : ev_St) : Option (Int × ev_St) := ev_ck (x1 + 1) fun x537 => ev_if ((0 : Int) ≤ x537 ∧ x537 < (L : Int)) (ev_b (xs (Int.toNat x537)).toInt fun x538 => ev_ck (x1 + 2) fun x539 => ev_if ((0 : Int) ≤ x539 ∧ x539 < (L : Int)) (ev_b (xs (Int.toNat x539)).toInt fun x540 => ev_bd (jm_382 Q ((0 + 1)) x538 x540 ((723 + 1)) s8) fun x542 s541 => ev_ck (x1 + 1) fun x543 => ev_if ((0 : Int) ≤ x543 ∧ x543 < (L : Int)) (ev_b (xs (Int.toNat x543)).toInt fun x544 => ev_ck (x1 + 2) fun x545 => ev_if ((0 : Int) ≤ x545 ∧ x545 < (L : Int)) (ev_b (xs (Int.toNat x545)).toInt fun x546 => ev_bd (jm_348 Q x544 x546 s541) fun x548 s547 => ev_bd (jm_220 Q  s547) fun x550 s549 => if x550 = x542 then (ev_jn (fun  (s558 : ev_St) => K2272  s558) fun K1485 => if x542 ≠ 0 then (K1485  s549) else (ev_if ((0 : Int) ≤ 0 ∧ 0 < (ev_aln 723 : Int)) (ev_b (s549.2.1 723 (Int.toNat 0)) fun y560 => ev_b (ev_i2l x548) fun y561 => ev_b (ev_lcmp y560 y561) fun x562 => if x562 = 0 then (K1485  s549) else (some (0, s549))))) else (some (0, s549))))))
def ja_1488 (Q L : Nat) (xs : Nat → Int32) (x1 : Int) (K2272 : ev_St → Option ((Int) × ev_St)) (s8 : ev_St) : Option (Int × ev_St) := ev_ck (x1 + 1) fun x565 => ev_if ((0 : Int) ≤ x565 ∧ x565 < (L : Int)) (ev_b (xs (Int.toNat x565)).toInt fun x566 => ev_ck (x1 + 2) fun x567 => ev_if ((0 : Int) ≤ x567 ∧ x567 < (L : Int)) (ev_b (xs (Int.toNat x567)).toInt fun x568 => ev_ck (x1 + 3) fun x569 => ev_if ((0 : Int) ≤ x569 ∧ x569 < (L : Int)) (ev_b (xs (Int.toNat x569)).toInt fun x570 => ev_ck (x1 + 4) fun x571 => ev_if ((0 : Int) ≤ x571 ∧ x571 < (L : Int)) (ev_b (xs (Int.toNat x571)).toInt fun x572 => ev_bd (jm_383 Q ((0 + 1)) x566 x568 x570 x572 ((723 + 1)) s8) fun x574 s573 => ev_ck (x1 + 1) fun x575 => ev_if ((0 : Int) ≤ x575 ∧ x575 < (L : Int)) (ev_b (xs (Int.toNat x575)).toInt fun x576 => ev_ck (x1 + 2) fun x577 => ev_if ((0 : Int) ≤ x577 ∧ x577 < (L : Int)) (ev_b (xs (Int.toNat x577)).toInt fun x578 => ev_ck (x1 + 3) fun x579 => ev_if ((0 : Int) ≤ x579 ∧ x579 < (L : Int)) (ev_b (xs (Int.toNat x579)).toInt fun x580 => ev_ck (x1 + 4) fun x581 => ev_if ((0 : Int) ≤ x581 ∧ x581 < (L : Int)) (ev_b (xs (Int.toNat x581)).toInt fun x582 => ev_bd (jm_351 Q x576 x578 x580 x582 s573) fun x584 s583 => ev_bd (jm_220 Q  s583) fun x586 s585 => if x586 = x574 then (ev_jn (fun  (s594 : ev_St) => K2272  s594) fun K1577 => if x574 ≠ 0 then (K1577  s585) else (ev_if ((0 : Int) ≤ 0 ∧ 0 < (ev_aln 723 : Int)) (ev_b (s585.2.1 723 (Int.toNat 0)) fun y596 => ev_b (ev_i2l x584) fun y597 => ev_b (ev_lcmp y596 y597) fun x598 => if x598 = 0 then (K1577  s585) else (some (0, s585))))) else (some (0, s585))))))))))
def ja_1580 (Q L : Nat) (xs : Nat → Int32) (x1 : Int) (K2272 : ev_St → Option ((Int) × ev_St)) (s8 : ev_St) : Option (Int × ev_St) := ev_ck (x1 + 1) fun x601 => ev_if ((0 : Int) ≤ x601 ∧ x601 < (L : Int)) (ev_b (xs (Int.toNat x601)).toInt fun x602 => ev_ck (x1 + 2) fun x603 => ev_if ((0 : Int) ≤ x603 ∧ x603 < (L : Int)) (ev_b (xs (Int.toNat x603)).toInt fun x604 => ev_ck (x1 + 3) fun x605 => ev_if ((0 : Int) ≤ x605 ∧ x605 < (L : Int)) (ev_b (xs (Int.toNat x605)).toInt fun x606 => ev_jn (fun (x609 : Int) (x608 : Int) (x607 : Int) (s616 : ev_St) => ev_bd (jm_384 Q ((0 + 1)) x607 x608 x609 ((723 + 1)) s616) fun x618 s617 => ev_ck (x1 + 1) fun x619 => ev_if ((0 : Int) ≤ x619 ∧ x619 < (L : Int)) (ev_b (xs (Int.toNat x619)).toInt fun x620 => ev_ck (x1 + 2) fun x621 => ev_if ((0 : Int) ≤ x621 ∧ x621 < (L : Int)) (ev_b (xs (Int.toNat x621)).toInt fun x622 => ev_ck (x1 + 3) fun x623 => ev_if ((0 : Int) ≤ x623 ∧ x623 < (L : Int)) (ev_b (xs (Int.toNat x623)).toInt fun x624 => ev_jn (fun (x625 : Int) (x628 : Int) (x627 : Int) (x626 : Int) (s636 : ev_St) => ev_bd (jm_352 Q x626 x627 x628 s636) fun x638 s637 => ev_bd (jm_220 Q  s637) fun x640 s639 => if x640 = x625 then (ev_jn (fun  (s648 : ev_St) => K2272  s648) fun K1673 => if x625 ≠ 0 then (K1673  s639) else (ev_if ((0 : Int) ≤ 0 ∧ 0 < (ev_aln 723 : Int)) (ev_b (s639.2.1 723 (Int.toNat 0)) fun y650 => ev_b (ev_i2l x638) fun y651 => ev_b (ev_lcmp y650 y651) fun x652 => if x652 = 0 then (K1673  s639) else (some (0, s639))))) else (some (0, s639))) fun K1640 => if x624 = 0 then (K1640 x618 0 x622 x620 s617) else (K1640 x618 1 x622 x620 s617))))) fun K1607 => if x606 = 0 then (K1607 0 x604 x602 s8) else (K1607 1 x604 x602 s8))))
def ja_1676 (Q L : Nat) (xs : Nat → Int32) (x1 : Int) (K2272 : ev_St → Option ((Int) × ev_St)) (s8 : ev_St) : Option (Int × ev_St) := ev_ck (x1 + 1) fun x657 => ev_if ((0 : Int) ≤ x657 ∧ x657 < (L : Int)) (ev_b (xs (Int.toNat x657)).toInt fun x658 => ev_bd (jm_385 Q ((0 + 1)) x658 ((723 + 1)) s8) fun x660 s659 => ev_ck (x1 + 1) fun x661 => ev_if ((0 : Int) ≤ x661 ∧ x661 < (L : Int)) (ev_b (xs (Int.toNat x661)).toInt fun x662 => ev_bd (jm_353 Q x662 s659) fun x664 s663 => ev_bd (jm_220 Q  s663) fun x666 s665 => if x666 = x660 then (ev_jn (fun  (s674 : ev_St) => K2272  s674) fun K1729 => if x660 ≠ 0 then (K1729  s665) else (ev_if ((0 : Int) ≤ 0 ∧ 0 < (ev_aln 723 : Int)) (ev_b (s665.2.1 723 (Int.toNat 0)) fun y676 => ev_b (ev_i2l x664) fun y677 => ev_b (ev_lcmp y676 y677) fun x678 => if x678 = 0 then (K1729  s665) else (some (0, s665))))) else (some (0, s665))))
def ja_1732 (Q L : Nat) (xs : Nat → Int32)  (K2272 : ev_St → Option ((Int) × ev_St)) (s8 : ev_St) : Option (Int × ev_St) := ev_bd (jm_386 Q ((0 + 1)) ((723 + 1)) s8) fun x682 s681 => ev_bd (jm_354 Q  s681) fun x684 s683 => ev_bd (jm_220 Q  s683) fun x686 s685 => if x686 = x682 then (ev_jn (fun  (s694 : ev_St) => K2272  s694) fun K1773 => if x682 ≠ 0 then (K1773  s685) else (ev_if ((0 : Int) ≤ 0 ∧ 0 < (ev_aln 723 : Int)) (ev_b (s685.2.1 723 (Int.toNat 0)) fun y696 => ev_b (ev_i2l x684) fun y697 => ev_b (ev_lcmp y696 y697) fun x698 => if x698 = 0 then (K1773  s685) else (some (0, s685))))) else (some (0, s685))
def ja_1776 (Q L : Nat) (xs : Nat → Int32)  (K2272 : ev_St → Option ((Int) × ev_St)) (s8 : ev_St) : Option (Int × ev_St) := ev_bd (jm_387 Q ((0 + 1)) ((723 + 1)) s8) fun x702 s701 => ev_bd (jm_355 Q  s701) fun x704 s703 => ev_bd (jm_220 Q  s703) fun x706 s705 => if x706 = x702 then (ev_jn (fun  (s714 : ev_St) => K2272  s714) fun K1817 => if x702 ≠ 0 then (K1817  s705) else (ev_if ((0 : Int) ≤ 0 ∧ 0 < (ev_aln 723 : Int)) (ev_b (s705.2.1 723 (Int.toNat 0)) fun y716 => ev_b (ev_i2l x704) fun y717 => ev_b (ev_lcmp y716 y717) fun x718 => if x718 = 0 then (K1817  s705) else (some (0, s705))))) else (some (0, s705))
def ja_1820 (Q L : Nat) (xs : Nat → Int32)  (K2272 : ev_St → Option ((Int) × ev_St)) (s8 : ev_St) : Option (Int × ev_St) := ev_bd (jm_388 Q ((0 + 1)) ((723 + 1)) s8) fun x722 s721 => ev_bd (jm_357 Q  s721) fun x724 s723 => ev_bd (jm_220 Q  s723) fun x726 s725 => if x726 = x722 then (ev_jn (fun  (s734 : ev_St) => K2272  s734) fun K1861 => if x722 ≠ 0 then (K1861  s725) else (ev_if ((0 : Int) ≤ 0 ∧ 0 < (ev_aln 723 : Int)) (ev_b (s725.2.1 723 (Int.toNat 0)) fun y736 => ev_b (ev_i2l x724) fun y737 => ev_b (ev_lcmp y736 y737) fun x738 => if x738 = 0 then (K1861  s725) else (some (0, s725))))) else (some (0, s725))
def ja_1864 (Q L : Nat) (xs : Nat → Int32)  (K2272 : ev_St → Option ((Int) × ev_St)) (s8 : ev_St) : Option (Int × ev_St) := ev_bd (jm_389 Q ((0 + 1)) ((723 + 1)) s8) fun x742 s741 => ev_bd (jm_358 Q  s741) fun x744 s743 => ev_bd (jm_220 Q  s743) fun x746 s745 => if x746 = x742 then (ev_jn (fun  (s754 : ev_St) => K2272  s754) fun K1905 => if x742 ≠ 0 then (K1905  s745) else (ev_if ((0 : Int) ≤ 0 ∧ 0 < (ev_aln 723 : Int)) (ev_b (s745.2.1 723 (Int.toNat 0)) fun y756 => ev_b (ev_i2l x744) fun y757 => ev_b (ev_lcmp y756 y757) fun x758 => if x758 = 0 then (K1905  s745) else (some (0, s745))))) else (some (0, s745))
def ja_1908 (Q L : Nat) (xs : Nat → Int32)  (K2272 : ev_St → Option ((Int) × ev_St)) (s8 : ev_St) : Option (Int × ev_St) := ev_bd (jm_390 Q ((0 + 1)) ((723 + 1)) s8) fun x762 s761 => ev_bd (jm_359 Q  s761) fun x764 s763 => ev_bd (jm_220 Q  s763) fun x766 s765 => if x766 = x762 then (ev_jn (fun  (s774 : ev_St) => K2272  s774) fun K1949 => if x762 ≠ 0 then (K1949  s765) else (ev_if ((0 : Int) ≤ 0 ∧ 0 < (ev_aln 723 : Int)) (ev_b (s765.2.1 723 (Int.toNat 0)) fun y776 => ev_b (ev_i2l x764) fun y777 => ev_b (ev_lcmp y776 y777) fun x778 => if x778 = 0 then (K1949  s765) else (some (0, s765))))) else (some (0, s765))
def ja_1952 (Q L : Nat) (xs : Nat → Int32) (x1 : Int) (K2272 : ev_St → Option ((Int) × ev_St)) (s8 : ev_St) : Option (Int × ev_St) := ev_ck (x1 + 1) fun x781 => ev_if ((0 : Int) ≤ x781 ∧ x781 < (L : Int)) (ev_b (xs (Int.toNat x781)).toInt fun x782 => ev_ck (x1 + 2) fun x783 => ev_if ((0 : Int) ≤ x783 ∧ x783 < (L : Int)) (ev_b (xs (Int.toNat x783)).toInt fun x784 => ev_bd (jm_391 Q ((0 + 1)) x782 x784 ((723 + 1)) s8) fun x786 s785 => ev_ck (x1 + 1) fun x787 => ev_if ((0 : Int) ≤ x787 ∧ x787 < (L : Int)) (ev_b (xs (Int.toNat x787)).toInt fun x788 => ev_ck (x1 + 2) fun x789 => ev_if ((0 : Int) ≤ x789 ∧ x789 < (L : Int)) (ev_b (xs (Int.toNat x789)).toInt fun x790 => ev_bd (jm_361 Q x788 x790 s785) fun x792 s791 => ev_bd (jm_220 Q  s791) fun x794 s793 => if x794 = x786 then (ev_jn (fun  (s802 : ev_St) => K2272  s802) fun K2017 => if x786 ≠ 0 then (K2017  s793) else (ev_if ((0 : Int) ≤ 0 ∧ 0 < (ev_aln 723 : Int)) (ev_b (s793.2.1 723 (Int.toNat 0)) fun y804 => ev_b (ev_i2l x792) fun y805 => ev_b (ev_lcmp y804 y805) fun x806 => if x806 = 0 then (K2017  s793) else (some (0, s793))))) else (some (0, s793))))))
def ja_2020 (Q L : Nat) (xs : Nat → Int32) (x1 : Int) (K2272 : ev_St → Option ((Int) × ev_St)) (s8 : ev_St) : Option (Int × ev_St) := ev_ck (x1 + 1) fun x809 => ev_if ((0 : Int) ≤ x809 ∧ x809 < (L : Int)) (ev_b (xs (Int.toNat x809)).toInt fun x810 => ev_ck (x1 + 2) fun x811 => ev_if ((0 : Int) ≤ x811 ∧ x811 < (L : Int)) (ev_b (xs (Int.toNat x811)).toInt fun x812 => ev_jn (fun (x814 : Int) (x813 : Int) (s821 : ev_St) => ev_bd (jm_392 Q ((0 + 1)) x813 x814 ((723 + 1)) s821) fun x823 s822 => ev_ck (x1 + 1) fun x824 => ev_if ((0 : Int) ≤ x824 ∧ x824 < (L : Int)) (ev_b (xs (Int.toNat x824)).toInt fun x825 => ev_ck (x1 + 2) fun x826 => ev_if ((0 : Int) ≤ x826 ∧ x826 < (L : Int)) (ev_b (xs (Int.toNat x826)).toInt fun x827 => ev_jn (fun (x828 : Int) (x830 : Int) (x829 : Int) (s838 : ev_St) => ev_bd (jm_321 Q x829 x830 s838) fun x840 s839 => ev_bd (jm_220 Q  s839) fun x842 s841 => if x842 = x828 then (ev_jn (fun  (s850 : ev_St) => K2272  s850) fun K2101 => if x828 ≠ 0 then (K2101  s841) else (ev_if ((0 : Int) ≤ 0 ∧ 0 < (ev_aln 723 : Int)) (ev_b (s841.2.1 723 (Int.toNat 0)) fun y852 => ev_b (ev_i2l x840) fun y853 => ev_b (ev_lcmp y852 y853) fun x854 => if x854 = 0 then (K2101  s841) else (some (0, s841))))) else (some (0, s841))) fun K2068 => if x827 = 0 then (K2068 x823 0 x825 s822) else (K2068 x823 1 x825 s822)))) fun K2041 => if x812 = 0 then (K2041 0 x810 s8) else (K2041 1 x810 s8)))
def ja_2104 (Q L : Nat) (xs : Nat → Int32) (x1 : Int) (K2272 : ev_St → Option ((Int) × ev_St)) (s8 : ev_St) : Option (Int × ev_St) := ev_ck (x1 + 1) fun x859 => ev_if ((0 : Int) ≤ x859 ∧ x859 < (L : Int)) (ev_b (xs (Int.toNat x859)).toInt fun x860 => ev_bd (jm_393 Q ((0 + 1)) x860 ((723 + 1)) s8) fun x862 s861 => ev_ck (x1 + 1) fun x863 => ev_if ((0 : Int) ≤ x863 ∧ x863 < (L : Int)) (ev_b (xs (Int.toNat x863)).toInt fun x864 => ev_bd (jm_322 Q x864 s861) fun x866 s865 => ev_bd (jm_220 Q  s865) fun x868 s867 => if x868 = x862 then (ev_jn (fun  (s876 : ev_St) => K2272  s876) fun K2157 => if x862 ≠ 0 then (K2157  s867) else (ev_if ((0 : Int) ≤ 0 ∧ 0 < (ev_aln 723 : Int)) (ev_b (s867.2.1 723 (Int.toNat 0)) fun y878 => ev_b (ev_i2l x866) fun y879 => ev_b (ev_lcmp y878 y879) fun x880 => if x880 = 0 then (K2157  s867) else (some (0, s867))))) else (some (0, s867))))
def ja_2160 (Q L : Nat) (xs : Nat → Int32) (x1 : Int) (K2272 : ev_St → Option ((Int) × ev_St)) (s8 : ev_St) : Option (Int × ev_St) := ev_ck (x1 + 1) fun x883 => ev_if ((0 : Int) ≤ x883 ∧ x883 < (L : Int)) (ev_b (xs (Int.toNat x883)).toInt fun x884 => ev_bd (jm_394 Q ((0 + 1)) x884 ((723 + 1)) s8) fun x886 s885 => ev_ck (x1 + 1) fun x887 => ev_if ((0 : Int) ≤ x887 ∧ x887 < (L : Int)) (ev_b (xs (Int.toNat x887)).toInt fun x888 => ev_bd (jm_323 Q x888 s885) fun x890 s889 => ev_bd (jm_220 Q  s889) fun x892 s891 => if x892 = x886 then (ev_jn (fun  (s900 : ev_St) => K2272  s900) fun K2213 => if x886 ≠ 0 then (K2213  s891) else (ev_if ((0 : Int) ≤ 0 ∧ 0 < (ev_aln 723 : Int)) (ev_b (s891.2.1 723 (Int.toNat 0)) fun y902 => ev_b (ev_i2l x890) fun y903 => ev_b (ev_lcmp y902 y903) fun x904 => if x904 = 0 then (K2213  s891) else (some (0, s891))))) else (some (0, s891))))
def ja_2216 (Q L : Nat) (xs : Nat → Int32) (x1 : Int) (K2272 : ev_St → Option ((Int) × ev_St)) (s8 : ev_St) : Option (Int × ev_St) := ev_ck (x1 + 1) fun x907 => ev_if ((0 : Int) ≤ x907 ∧ x907 < (L : Int)) (ev_b (xs (Int.toNat x907)).toInt fun x908 => ev_bd (jm_395 Q ((0 + 1)) x908 ((723 + 1)) s8) fun x910 s909 => ev_ck (x1 + 1) fun x911 => ev_if ((0 : Int) ≤ x911 ∧ x911 < (L : Int)) (ev_b (xs (Int.toNat x911)).toInt fun x912 => ev_bd (jm_324 Q x912 s909) fun x914 s913 => ev_bd (jm_220 Q  s913) fun x916 s915 => if x916 = x910 then (ev_jn (fun  (s924 : ev_St) => K2272  s924) fun K2269 => if x910 ≠ 0 then (K2269  s915) else (ev_if ((0 : Int) ≤ 0 ∧ 0 < (ev_aln 723 : Int)) (ev_b (s915.2.1 723 (Int.toNat 0)) fun y926 => ev_b (ev_i2l x914) fun y927 => ev_b (ev_lcmp y926 y927) fun x928 => if x928 = 0 then (K2269  s915) else (some (0, s915))))) else (some (0, s915))))
def jb_law_23 (Q : Nat) (L : Nat) (xs : Nat → Int32)  (K23 : Int → ev_St → Option ((Int) × ev_St)) (x1 : Int) (s8 : ev_St) : Option ((Int) × ev_St) := ev_ck ((L : Int) - 6) fun x9 => if x9 < x1 then (some (1, s8)) else (ev_if ((0 : Int) ≤ x1 ∧ x1 < (L : Int)) (ev_b (xs (Int.toNat x1)).toInt fun x11 => ev_b (ev_iand x11 63) fun x12 => ev_jn (fun  (s19 : ev_St) => ev_ck (x1 + 6) fun x20 => K23 x20 s19) fun K2272 => if x12 = 0 then (ja_188 Q L xs x1 K2272 s8) else (if x12 = 1 then (ja_244 Q L xs  K2272 s8) else (if x12 = 2 then (ja_257 Q L xs x1 K2272 s8) else (if x12 = 3 then (ja_313 Q L xs  K2272 s8) else (if x12 = 4 then (ja_357 Q L xs  K2272 s8) else (if x12 = 5 then (ja_401 Q L xs x1 K2272 s8) else (if x12 = 6 then (ja_457 Q L xs x1 K2272 s8) else (if x12 = 7 then (ja_513 Q L xs x1 K2272 s8) else (if x12 = 8 then (ja_588 Q L xs x1 K2272 s8) else (if x12 = 9 then (ja_656 Q L xs x1 K2272 s8) else (if x12 = 10 then (ja_712 Q L xs x1 K2272 s8) else (if x12 = 11 then (ja_804 Q L xs x1 K2272 s8) else (if x12 = 12 then (ja_896 Q L xs x1 K2272 s8) else (if x12 = 13 then (ja_1000 Q L xs x1 K2272 s8) else (if x12 = 14 then (ja_1080 Q L xs x1 K2272 s8) else (if x12 = 15 then (ja_1160 Q L xs x1 K2272 s8) else (if x12 = 16 then (ja_1228 Q L xs x1 K2272 s8) else (if x12 = 17 then (ja_1308 Q L xs x1 K2272 s8) else (if x12 = 18 then (ja_1364 Q L xs x1 K2272 s8) else (if x12 = 19 then (ja_1420 Q L xs x1 K2272 s8) else (if x12 = 20 then (ja_1488 Q L xs x1 K2272 s8) else (if x12 = 21 then (ja_1580 Q L xs x1 K2272 s8) else (if x12 = 22 then (ja_1676 Q L xs x1 K2272 s8) else (if x12 = 23 then (ja_1732 Q L xs  K2272 s8) else (if x12 = 24 then (ja_1776 Q L xs  K2272 s8) else (if x12 = 25 then (ja_1820 Q L xs  K2272 s8) else (if x12 = 26 then (ja_1864 Q L xs  K2272 s8) else (if x12 = 27 then (ja_1908 Q L xs  K2272 s8) else (if x12 = 28 then (ja_1952 Q L xs x1 K2272 s8) else (if x12 = 29 then (ja_2020 Q L xs x1 K2272 s8) else (if x12 = 30 then (ja_2104 Q L xs x1 K2272 s8) else (if x12 = 31 then (ja_2160 Q L xs x1 K2272 s8) else (if x12 = 32 then (ja_2216 Q L xs x1 K2272 s8) else (K2272  s8)))))))))))))))))))))))))))))))))))
def jl_law_23 (Q : Nat) (L : Nat) (xs : Nat → Int32)  : Nat → Int → ev_St → Option ((Int) × ev_St)
  | 0 => fun _ _ => none
  | q + 1 => jb_law_23 Q L xs  (jl_law_23 Q L xs  q)
theorem jbt_law_23  (Q : Nat) (L : Nat) (xs : Nat → Int32) (hL : L ≤ 3072)   (K23 : Int → ev_St → Option ((Int) × ev_St)) (hK23 : ∀ (x1 : Int) (hx1 : ev_rng x1), ∀ (s8 : ev_St) (w2 : List (Nat × Value)), ev_lk w2 0 = some (.retAddr 0) → ev_lk w2 1 = some (.ref 0) → ev_lk w2 2 = some (.ref 621) → ev_lk w2 3 = some (.ref 723) → ev_lk w2 4 = some (.int (Int32.ofInt x1)) → ev_w (some (L, xs)) ev_Mlaw 12 23 w2 [] s8 (K23 x1 s8) ev_eI ev_bl) : ∀ (x1 : Int) (hx1 : ev_rng x1), ∀ (s8 : ev_St) (w2 : List (Nat × Value)), ev_lk w2 0 = some (.retAddr 0) → ev_lk w2 1 = some (.ref 0) → ev_lk w2 2 = some (.ref 621) → ev_lk w2 3 = some (.ref 723) → ev_lk w2 4 = some (.int (Int32.ofInt x1)) → ev_w (some (L, xs)) ev_Mlaw 12 23 w2 [] s8 (jb_law_23 Q L xs  K23 x1 s8) ev_eI ev_bl := by
  intro x1 hx1 s8 w2 e3 e4 e5 e6 e7
  unfold jb_law_23
  refine ev_r_iload (pc := 23) (k := 4) (v := Int32.ofInt x1) (by decide +kernel) (by exact e7) ?_
  refine ev_r_aload_n (pc := 25) (k := 0) (v := .retAddr 0) trivial (by decide +kernel) (by exact e3) ?_
  refine ev_r_xlen (pc := 26) (by decide +kernel) ?_
  refine ev_r_bipush (pc := 27) (k := 6) (by decide +kernel) (by decide +kernel) ?_
  refine ev_r_isub (pc := 29) (by decide +kernel) ?_
  intro x9 hx9
  refine ev_r_icmp (pc := 30) (q := .gt) (o := 2248) (t := 2278) (c := x9 < x1) (by decide +kernel) (ev_k_gt hx1 hx9) (by decide +kernel) ?_ ?_
  · intro c10
    refine ev_r_iconst (pc := 2278) (k := 1) (by decide +kernel) ?_
    exact ev_r_ireturn (pc := 2279) (x := 1) (v := Int32.ofInt 1) (ty := .boolean) (by decide : ev_bl 1) (by decide +kernel) (by decide +kernel) (ev_ret_bl (by decide : ev_bl 1)) rfl
  · intro c10
    refine ev_r_aload_n (pc := 33) (k := 0) (v := .retAddr 0) trivial (by decide +kernel) (by exact e3) ?_
    refine ev_r_iload (pc := 34) (k := 4) (v := Int32.ofInt x1) (by decide +kernel) (by exact e7) ?_
    refine ev_r_xald (pc := 36) hx1 (by decide +kernel) ?_
    intro x11 hx11
    refine ev_r_bipush (pc := 37) (k := 63) (by decide +kernel) (by decide +kernel) ?_
    refine ev_r_iand (pc := 39) (by decide +kernel) ?_
    intro x12 hx12
    refine ev_r_jn (Q := fun K => ∀ (s19 : ev_St) (w13 : List (Nat × Value)), ev_lk w13 0 = some (.retAddr 0) → ev_lk w13 1 = some (.ref 0) → ev_lk w13 2 = some (.ref 621) → ev_lk w13 3 = some (.ref 723) → ev_lk w13 4 = some (.int (Int32.ofInt x1)) → ev_w (some (L, xs)) ev_Mlaw 12 2272 w13 [] s19 (K  s19) ev_eI ev_bl) ?_ ?_
    · intro  s19 w13 e14 e15 e16 e17 e18
      refine ev_r_iinc (pc := 2272) (k := 4) (c := 6) (x := x1) (by decide +kernel) (by decide +kernel) (by exact e18) (fun _ => rfl) ?_
      intro x20 hx20
      refine ev_r_goto (pc := 2275) (o := (-2252)) (t := 23) (by decide +kernel) (by decide +kernel) ?_
      exact hK23 x20 hx20 s19 _ (by exact (ev_l1 e14 (by decide) (by decide))) (by exact (ev_l1 e15 (by decide) (by decide))) (by exact (ev_l1 e16 (by decide) (by decide))) (by exact (ev_lk_st1 e17 (by decide) rfl)) (by exact ev_lk_st1_self)
    · intro K2272 hK2272
      refine ev_r_ite ?_ ?_
      · intro c21
        refine ev_r_sw (pc := 40) (i := (.tableswitch 2232 0 32 #[148, 204, 217, 273, 317, 361, 417, 473, 548, 616, 672, 764, 856, 960, 1040, 1120, 1188, 1268, 1324, 1380, 1448, 1540, 1636, 1692, 1736, 1780, 1824, 1868, 1912, 1980, 2064, 2120, 2176])) (len := 148) (pc' := 188) (by decide +kernel) (by rw [c21]; rw [ev_pure_tsw]; exact ev_tsw_c (o := 148) (by decide) (by decide) rfl (by decide +kernel)) ?_
        unfold ja_188
        refine ev_r_aload_n (pc := 188) (k := 1) (v := .ref 0) trivial (by decide +kernel) (by exact e4) ?_
        refine ev_r_aload_n (pc := 189) (k := 0) (v := .retAddr 0) trivial (by decide +kernel) (by exact e3) ?_
        refine ev_r_iload (pc := 190) (k := 4) (v := Int32.ofInt x1) (by decide +kernel) (by exact e7) ?_
        refine ev_r_iconst (pc := 192) (k := 1) (by decide +kernel) ?_
        refine ev_r_iadd (pc := 193) (by decide +kernel) ?_
        intro x22 hx22
        refine ev_r_xald (pc := 194) hx22 (by decide +kernel) ?_
        intro x23 hx23
        refine ev_r_aload_n (pc := 195) (k := 3) (v := .ref 723) trivial (by decide +kernel) (by exact e6) ?_
        refine ev_r_stat (pc := 196) (y := 125) (kind := 8) (mi := 364) (na := 3) (as := [ev_nv ((0 + 1)), .int (Int32.ofInt x23), ev_nv ((723 + 1))]) (rest := []) (encc := ev_oI) (Q := ev_rng) (fun x S1 h => jt_364 12 (by omega) Q ((0 + 1)) x23 ((723 + 1)) (by exact (Or.inr ev_ob_0)) hx23 (by exact (Or.inr ev_ab_723)) s8 x S1 h) (Or.inr (Or.inr rfl)) (by decide +kernel) (by decide +kernel) (by decide +kernel) (by decide +kernel) rfl (by (try simp only [ev_sum, ev_nv_cat]); first | done | rfl) ?_
        intro x25 s24 hx25
        show ev_w _ _ _ _ _ [.int (Int32.ofInt x25)] _ _ _ _
        refine ev_r_istore (pc := 199) (k := 5) (by decide +kernel) (by decide +kernel) rfl ?_
        refine ev_r_aload_n (pc := 201) (k := 2) (v := .ref 621) trivial (by decide +kernel) (by exact (ev_l1 e5 (by decide) (by decide))) ?_
        refine ev_r_aload_n (pc := 202) (k := 0) (v := .retAddr 0) trivial (by decide +kernel) (by exact (ev_l1 e3 (by decide) (by decide))) ?_
        refine ev_r_iload (pc := 203) (k := 4) (v := Int32.ofInt x1) (by decide +kernel) (by exact (ev_lk_st1 e7 (by decide) rfl)) ?_
        refine ev_r_iconst (pc := 205) (k := 1) (by decide +kernel) ?_
        refine ev_r_iadd (pc := 206) (by decide +kernel) ?_
        intro x26 hx26
        refine ev_r_xald (pc := 207) hx26 (by decide +kernel) ?_
        intro x27 hx27
        refine ev_r_virt (pc := 208) (y := 130) (mi := 230) (na := 1) (k := 621) (as := [.int (Int32.ofInt x27)]) (rest := []) (encc := ev_oI) (Q := ev_rng) (fun x S1 h => jt_230 12 (by omega) Q x27 hx27 s24 x S1 h) (by exact ev_ob_621) (by decide +kernel) (by decide +kernel) (by decide +kernel) (by decide +kernel) rfl (by (try simp only [ev_sum, ev_nv_cat]); first | done | rfl) ?_
        intro x29 s28 hx29
        show ev_w _ _ _ _ _ [.int (Int32.ofInt x29)] _ _ _ _
        refine ev_r_istore (pc := 211) (k := 6) (by decide +kernel) (by decide +kernel) rfl ?_
        refine ev_r_aload_n (pc := 213) (k := 2) (v := .ref 621) trivial (by decide +kernel) (by exact (ev_l1 (ev_l1 e5 (by decide) (by decide)) (by decide) (by decide))) ?_
        refine ev_r_virt (pc := 214) (y := 131) (mi := 220) (na := 0) (k := 621) (as := []) (rest := []) (encc := ev_oI) (Q := ev_rng) (fun x S1 h => jt_220 12 (by omega) Q   s28 x S1 h) (by exact ev_ob_621) (by decide +kernel) (by decide +kernel) (by decide +kernel) (by decide +kernel) rfl (by (try simp only [ev_sum, ev_nv_cat]); first | done | rfl) ?_
        intro x31 s30 hx31
        show ev_w _ _ _ _ _ [.int (Int32.ofInt x31)] _ _ _ _
        refine ev_r_iload (pc := 217) (k := 5) (v := Int32.ofInt x25) (by decide +kernel) (by exact (ev_lk_st1 ev_lk_st1_self (by decide) rfl)) ?_
        refine ev_r_icmp (pc := 219) (q := .eq) (o := 5) (t := 224) (c := x31 = x25) (by decide +kernel) (ev_k_eq hx31 hx25) (by decide +kernel) ?_ ?_
        · intro c32
          refine ev_r_iload (pc := 224) (k := 5) (v := Int32.ofInt x25) (by decide +kernel) (by exact (ev_lk_st1 ev_lk_st1_self (by decide) rfl)) ?_
          refine ev_r_jn (Q := fun K => ∀ (s39 : ev_St) (w33 : List (Nat × Value)), ev_lk w33 0 = some (.retAddr 0) → ev_lk w33 1 = some (.ref 0) → ev_lk w33 2 = some (.ref 621) → ev_lk w33 3 = some (.ref 723) → ev_lk w33 4 = some (.int (Int32.ofInt x1)) → ev_w (some (L, xs)) ev_Mlaw 12 241 w33 [] s39 (K  s39) ev_eI ev_bl) ?_ ?_
          · intro  s39 w33 e34 e35 e36 e37 e38
            refine ev_r_goto (pc := 241) (o := 2031) (t := 2272) (by decide +kernel) (by decide +kernel) ?_
            exact hK2272  s39 _ (by exact e34) (by exact e35) (by exact e36) (by exact e37) (by exact e38)
          · intro K241 hK241
            refine ev_r_if (pc := 226) (q := .ne) (o := 15) (t := 241) (c := x25 ≠ 0) (by decide +kernel) (ev_k_ne hx25 ev_rng0) (by decide +kernel) ?_ ?_
            · intro c40
              exact hK241  s30 _ (by exact (ev_l1 (ev_l1 e3 (by decide) (by decide)) (by decide) (by decide))) (by exact (ev_l1 (ev_l1 e4 (by decide) (by decide)) (by decide) (by decide))) (by exact (ev_l1 (ev_l1 e5 (by decide) (by decide)) (by decide) (by decide))) (by exact (ev_l1 (ev_l1 e6 (by decide) (by decide)) (by decide) (by decide))) (by exact (ev_l1 (ev_lk_st1 e7 (by decide) rfl) (by decide) (by decide)))
            · intro c40
              refine ev_r_aload_n (pc := 229) (k := 3) (v := .ref 723) trivial (by decide +kernel) (by exact (ev_l1 (ev_l1 e6 (by decide) (by decide)) (by decide) (by decide))) ?_
              refine ev_r_iconst (pc := 230) (k := 0) (by decide +kernel) ?_
              refine ev_r_lald (pc := 231) (by decide) (by decide +kernel) (by exact ev_ab_723) ?_
              intro y41
              refine ev_r_iload (pc := 232) (k := 6) (v := Int32.ofInt x29) (by decide +kernel) (by exact ev_lk_st1_self) ?_
              refine ev_r_toL (pc := 234) (i := .i2l) (len := 1) (pc' := 235) (by decide +kernel) rfl ?_
              intro y42
              refine ev_r_toI (pc := 235) (i := .lcmp) (len := 1) (pc' := 236) (by decide +kernel) rfl ?_
              intro x43 hx43
              refine ev_r_if (pc := 236) (q := .eq) (o := 5) (t := 241) (c := x43 = 0) (by decide +kernel) (ev_k_eq hx43 ev_rng0) (by decide +kernel) ?_ ?_
              · intro c44
                exact hK241  s30 _ (by exact (ev_l1 (ev_l1 e3 (by decide) (by decide)) (by decide) (by decide))) (by exact (ev_l1 (ev_l1 e4 (by decide) (by decide)) (by decide) (by decide))) (by exact (ev_l1 (ev_l1 e5 (by decide) (by decide)) (by decide) (by decide))) (by exact (ev_l1 (ev_l1 e6 (by decide) (by decide)) (by decide) (by decide))) (by exact (ev_l1 (ev_lk_st1 e7 (by decide) rfl) (by decide) (by decide)))
              · intro c44
                refine ev_r_iconst (pc := 239) (k := 0) (by decide +kernel) ?_
                exact ev_r_ireturn (pc := 240) (x := 0) (v := Int32.ofInt 0) (ty := .boolean) (by decide : ev_bl 0) (by decide +kernel) (by decide +kernel) (ev_ret_bl (by decide : ev_bl 0)) rfl
        · intro c32
          refine ev_r_iconst (pc := 222) (k := 0) (by decide +kernel) ?_
          exact ev_r_ireturn (pc := 223) (x := 0) (v := Int32.ofInt 0) (ty := .boolean) (by decide : ev_bl 0) (by decide +kernel) (by decide +kernel) (ev_ret_bl (by decide : ev_bl 0)) rfl
      · intro c21
        refine ev_r_ite ?_ ?_
        · intro c45
          refine ev_r_sw (pc := 40) (i := (.tableswitch 2232 0 32 #[148, 204, 217, 273, 317, 361, 417, 473, 548, 616, 672, 764, 856, 960, 1040, 1120, 1188, 1268, 1324, 1380, 1448, 1540, 1636, 1692, 1736, 1780, 1824, 1868, 1912, 1980, 2064, 2120, 2176])) (len := 148) (pc' := 244) (by decide +kernel) (by rw [c45]; rw [ev_pure_tsw]; exact ev_tsw_c (o := 204) (by decide) (by decide) rfl (by decide +kernel)) ?_
          unfold ja_244
          refine ev_r_aload_n (pc := 244) (k := 1) (v := .ref 0) trivial (by decide +kernel) (by exact e4) ?_
          refine ev_r_virt (pc := 245) (y := 134) (mi := 167) (na := 0) (k := 0) (as := []) (rest := []) (encc := ev_oI) (Q := ev_rng) (fun x S1 h => jt_167 12 (by omega) Q   s8 x S1 h) (by exact ev_ob_0) (by decide +kernel) (by decide +kernel) (by decide +kernel) (by decide +kernel) rfl (by (try simp only [ev_sum, ev_nv_cat]); first | done | rfl) ?_
          intro x47 s46 hx47
          show ev_w _ _ _ _ _ [.int (Int32.ofInt x47)] _ _ _ _
          refine ev_r_aload_n (pc := 248) (k := 2) (v := .ref 621) trivial (by decide +kernel) (by exact e5) ?_
          refine ev_r_virt (pc := 249) (y := 137) (mi := 231) (na := 0) (k := 621) (as := []) (rest := [.int (Int32.ofInt x47)]) (encc := ev_oI) (Q := ev_rng) (fun x S1 h => jt_231 12 (by omega) Q   s46 x S1 h) (by exact ev_ob_621) (by decide +kernel) (by decide +kernel) (by decide +kernel) (by decide +kernel) rfl (by (try simp only [ev_sum, ev_nv_cat]); first | done | rfl) ?_
          intro x49 s48 hx49
          show ev_w _ _ _ _ _ [.int (Int32.ofInt x49), .int (Int32.ofInt x47)] _ _ _ _
          refine ev_r_icmp (pc := 252) (q := .eq) (o := 2020) (t := 2272) (c := x47 = x49) (by decide +kernel) (ev_k_eq hx47 hx49) (by decide +kernel) ?_ ?_
          · intro c50
            exact hK2272  s48 _ (by exact e3) (by exact e4) (by exact e5) (by exact e6) (by exact e7)
          · intro c50
            refine ev_r_iconst (pc := 255) (k := 0) (by decide +kernel) ?_
            exact ev_r_ireturn (pc := 256) (x := 0) (v := Int32.ofInt 0) (ty := .boolean) (by decide : ev_bl 0) (by decide +kernel) (by decide +kernel) (ev_ret_bl (by decide : ev_bl 0)) rfl
        · intro c45
          refine ev_r_ite ?_ ?_
          · intro c51
            refine ev_r_sw (pc := 40) (i := (.tableswitch 2232 0 32 #[148, 204, 217, 273, 317, 361, 417, 473, 548, 616, 672, 764, 856, 960, 1040, 1120, 1188, 1268, 1324, 1380, 1448, 1540, 1636, 1692, 1736, 1780, 1824, 1868, 1912, 1980, 2064, 2120, 2176])) (len := 148) (pc' := 257) (by decide +kernel) (by rw [c51]; rw [ev_pure_tsw]; exact ev_tsw_c (o := 217) (by decide) (by decide) rfl (by decide +kernel)) ?_
            unfold ja_257
            refine ev_r_aload_n (pc := 257) (k := 1) (v := .ref 0) trivial (by decide +kernel) (by exact e4) ?_
            refine ev_r_aload_n (pc := 258) (k := 0) (v := .retAddr 0) trivial (by decide +kernel) (by exact e3) ?_
            refine ev_r_iload (pc := 259) (k := 4) (v := Int32.ofInt x1) (by decide +kernel) (by exact e7) ?_
            refine ev_r_iconst (pc := 261) (k := 1) (by decide +kernel) ?_
            refine ev_r_iadd (pc := 262) (by decide +kernel) ?_
            intro x52 hx52
            refine ev_r_xald (pc := 263) hx52 (by decide +kernel) ?_
            intro x53 hx53
            refine ev_r_aload_n (pc := 264) (k := 3) (v := .ref 723) trivial (by decide +kernel) (by exact e6) ?_
            refine ev_r_stat (pc := 265) (y := 138) (kind := 8) (mi := 365) (na := 3) (as := [ev_nv ((0 + 1)), .int (Int32.ofInt x53), ev_nv ((723 + 1))]) (rest := []) (encc := ev_oI) (Q := ev_rng) (fun x S1 h => jt_365 12 (by omega) Q ((0 + 1)) x53 ((723 + 1)) (by exact (Or.inr ev_ob_0)) hx53 (by exact (Or.inr ev_ab_723)) s8 x S1 h) (Or.inr (Or.inr rfl)) (by decide +kernel) (by decide +kernel) (by decide +kernel) (by decide +kernel) rfl (by (try simp only [ev_sum, ev_nv_cat]); first | done | rfl) ?_
            intro x55 s54 hx55
            show ev_w _ _ _ _ _ [.int (Int32.ofInt x55)] _ _ _ _
            refine ev_r_istore (pc := 268) (k := 5) (by decide +kernel) (by decide +kernel) rfl ?_
            refine ev_r_aload_n (pc := 270) (k := 2) (v := .ref 621) trivial (by decide +kernel) (by exact (ev_l1 e5 (by decide) (by decide))) ?_
            refine ev_r_aload_n (pc := 271) (k := 0) (v := .retAddr 0) trivial (by decide +kernel) (by exact (ev_l1 e3 (by decide) (by decide))) ?_
            refine ev_r_iload (pc := 272) (k := 4) (v := Int32.ofInt x1) (by decide +kernel) (by exact (ev_lk_st1 e7 (by decide) rfl)) ?_
            refine ev_r_iconst (pc := 274) (k := 1) (by decide +kernel) ?_
            refine ev_r_iadd (pc := 275) (by decide +kernel) ?_
            intro x56 hx56
            refine ev_r_xald (pc := 276) hx56 (by decide +kernel) ?_
            intro x57 hx57
            refine ev_r_virt (pc := 277) (y := 140) (mi := 271) (na := 1) (k := 621) (as := [.int (Int32.ofInt x57)]) (rest := []) (encc := ev_oI) (Q := ev_rng) (fun x S1 h => jt_271 12 (by omega) Q x57 hx57 s54 x S1 h) (by exact ev_ob_621) (by decide +kernel) (by decide +kernel) (by decide +kernel) (by decide +kernel) rfl (by (try simp only [ev_sum, ev_nv_cat]); first | done | rfl) ?_
            intro x59 s58 hx59
            show ev_w _ _ _ _ _ [.int (Int32.ofInt x59)] _ _ _ _
            refine ev_r_istore (pc := 280) (k := 6) (by decide +kernel) (by decide +kernel) rfl ?_
            refine ev_r_aload_n (pc := 282) (k := 2) (v := .ref 621) trivial (by decide +kernel) (by exact (ev_l1 (ev_l1 e5 (by decide) (by decide)) (by decide) (by decide))) ?_
            refine ev_r_virt (pc := 283) (y := 131) (mi := 220) (na := 0) (k := 621) (as := []) (rest := []) (encc := ev_oI) (Q := ev_rng) (fun x S1 h => jt_220 12 (by omega) Q   s58 x S1 h) (by exact ev_ob_621) (by decide +kernel) (by decide +kernel) (by decide +kernel) (by decide +kernel) rfl (by (try simp only [ev_sum, ev_nv_cat]); first | done | rfl) ?_
            intro x61 s60 hx61
            show ev_w _ _ _ _ _ [.int (Int32.ofInt x61)] _ _ _ _
            refine ev_r_iload (pc := 286) (k := 5) (v := Int32.ofInt x55) (by decide +kernel) (by exact (ev_lk_st1 ev_lk_st1_self (by decide) rfl)) ?_
            refine ev_r_icmp (pc := 288) (q := .eq) (o := 5) (t := 293) (c := x61 = x55) (by decide +kernel) (ev_k_eq hx61 hx55) (by decide +kernel) ?_ ?_
            · intro c62
              refine ev_r_iload (pc := 293) (k := 5) (v := Int32.ofInt x55) (by decide +kernel) (by exact (ev_lk_st1 ev_lk_st1_self (by decide) rfl)) ?_
              refine ev_r_jn (Q := fun K => ∀ (s69 : ev_St) (w63 : List (Nat × Value)), ev_lk w63 0 = some (.retAddr 0) → ev_lk w63 1 = some (.ref 0) → ev_lk w63 2 = some (.ref 621) → ev_lk w63 3 = some (.ref 723) → ev_lk w63 4 = some (.int (Int32.ofInt x1)) → ev_w (some (L, xs)) ev_Mlaw 12 310 w63 [] s69 (K  s69) ev_eI ev_bl) ?_ ?_
              · intro  s69 w63 e64 e65 e66 e67 e68
                refine ev_r_goto (pc := 310) (o := 1962) (t := 2272) (by decide +kernel) (by decide +kernel) ?_
                exact hK2272  s69 _ (by exact e64) (by exact e65) (by exact e66) (by exact e67) (by exact e68)
              · intro K310 hK310
                refine ev_r_if (pc := 295) (q := .ne) (o := 15) (t := 310) (c := x55 ≠ 0) (by decide +kernel) (ev_k_ne hx55 ev_rng0) (by decide +kernel) ?_ ?_
                · intro c70
                  exact hK310  s60 _ (by exact (ev_l1 (ev_l1 e3 (by decide) (by decide)) (by decide) (by decide))) (by exact (ev_l1 (ev_l1 e4 (by decide) (by decide)) (by decide) (by decide))) (by exact (ev_l1 (ev_l1 e5 (by decide) (by decide)) (by decide) (by decide))) (by exact (ev_l1 (ev_l1 e6 (by decide) (by decide)) (by decide) (by decide))) (by exact (ev_l1 (ev_lk_st1 e7 (by decide) rfl) (by decide) (by decide)))
                · intro c70
                  refine ev_r_aload_n (pc := 298) (k := 3) (v := .ref 723) trivial (by decide +kernel) (by exact (ev_l1 (ev_l1 e6 (by decide) (by decide)) (by decide) (by decide))) ?_
                  refine ev_r_iconst (pc := 299) (k := 0) (by decide +kernel) ?_
                  refine ev_r_lald (pc := 300) (by decide) (by decide +kernel) (by exact ev_ab_723) ?_
                  intro y71
                  refine ev_r_iload (pc := 301) (k := 6) (v := Int32.ofInt x59) (by decide +kernel) (by exact ev_lk_st1_self) ?_
                  refine ev_r_toL (pc := 303) (i := .i2l) (len := 1) (pc' := 304) (by decide +kernel) rfl ?_
                  intro y72
                  refine ev_r_toI (pc := 304) (i := .lcmp) (len := 1) (pc' := 305) (by decide +kernel) rfl ?_
                  intro x73 hx73
                  refine ev_r_if (pc := 305) (q := .eq) (o := 5) (t := 310) (c := x73 = 0) (by decide +kernel) (ev_k_eq hx73 ev_rng0) (by decide +kernel) ?_ ?_
                  · intro c74
                    exact hK310  s60 _ (by exact (ev_l1 (ev_l1 e3 (by decide) (by decide)) (by decide) (by decide))) (by exact (ev_l1 (ev_l1 e4 (by decide) (by decide)) (by decide) (by decide))) (by exact (ev_l1 (ev_l1 e5 (by decide) (by decide)) (by decide) (by decide))) (by exact (ev_l1 (ev_l1 e6 (by decide) (by decide)) (by decide) (by decide))) (by exact (ev_l1 (ev_lk_st1 e7 (by decide) rfl) (by decide) (by decide)))
                  · intro c74
                    refine ev_r_iconst (pc := 308) (k := 0) (by decide +kernel) ?_
                    exact ev_r_ireturn (pc := 309) (x := 0) (v := Int32.ofInt 0) (ty := .boolean) (by decide : ev_bl 0) (by decide +kernel) (by decide +kernel) (ev_ret_bl (by decide : ev_bl 0)) rfl
            · intro c62
              refine ev_r_iconst (pc := 291) (k := 0) (by decide +kernel) ?_
              exact ev_r_ireturn (pc := 292) (x := 0) (v := Int32.ofInt 0) (ty := .boolean) (by decide : ev_bl 0) (by decide +kernel) (by decide +kernel) (ev_ret_bl (by decide : ev_bl 0)) rfl
          · intro c51
            refine ev_r_ite ?_ ?_
            · intro c75
              refine ev_r_sw (pc := 40) (i := (.tableswitch 2232 0 32 #[148, 204, 217, 273, 317, 361, 417, 473, 548, 616, 672, 764, 856, 960, 1040, 1120, 1188, 1268, 1324, 1380, 1448, 1540, 1636, 1692, 1736, 1780, 1824, 1868, 1912, 1980, 2064, 2120, 2176])) (len := 148) (pc' := 313) (by decide +kernel) (by rw [c75]; rw [ev_pure_tsw]; exact ev_tsw_c (o := 273) (by decide) (by decide) rfl (by decide +kernel)) ?_
              unfold ja_313
              refine ev_r_aload_n (pc := 313) (k := 1) (v := .ref 0) trivial (by decide +kernel) (by exact e4) ?_
              refine ev_r_aload_n (pc := 314) (k := 3) (v := .ref 723) trivial (by decide +kernel) (by exact e6) ?_
              refine ev_r_stat (pc := 315) (y := 141) (kind := 8) (mi := 366) (na := 2) (as := [ev_nv ((0 + 1)), ev_nv ((723 + 1))]) (rest := []) (encc := ev_oI) (Q := ev_rng) (fun x S1 h => jt_366 12 (by omega) Q ((0 + 1)) ((723 + 1)) (by exact (Or.inr ev_ob_0)) (by exact (Or.inr ev_ab_723)) s8 x S1 h) (Or.inr (Or.inr rfl)) (by decide +kernel) (by decide +kernel) (by decide +kernel) (by decide +kernel) rfl (by (try simp only [ev_sum, ev_nv_cat]); first | done | rfl) ?_
              intro x77 s76 hx77
              show ev_w _ _ _ _ _ [.int (Int32.ofInt x77)] _ _ _ _
              refine ev_r_istore (pc := 318) (k := 5) (by decide +kernel) (by decide +kernel) rfl ?_
              refine ev_r_aload_n (pc := 320) (k := 2) (v := .ref 621) trivial (by decide +kernel) (by exact (ev_l1 e5 (by decide) (by decide))) ?_
              refine ev_r_virt (pc := 321) (y := 144) (mi := 272) (na := 0) (k := 621) (as := []) (rest := []) (encc := ev_oI) (Q := ev_rng) (fun x S1 h => jt_272 12 (by omega) Q   s76 x S1 h) (by exact ev_ob_621) (by decide +kernel) (by decide +kernel) (by decide +kernel) (by decide +kernel) rfl (by (try simp only [ev_sum, ev_nv_cat]); first | done | rfl) ?_
              intro x79 s78 hx79
              show ev_w _ _ _ _ _ [.int (Int32.ofInt x79)] _ _ _ _
              refine ev_r_istore (pc := 324) (k := 6) (by decide +kernel) (by decide +kernel) rfl ?_
              refine ev_r_aload_n (pc := 326) (k := 2) (v := .ref 621) trivial (by decide +kernel) (by exact (ev_l1 (ev_l1 e5 (by decide) (by decide)) (by decide) (by decide))) ?_
              refine ev_r_virt (pc := 327) (y := 131) (mi := 220) (na := 0) (k := 621) (as := []) (rest := []) (encc := ev_oI) (Q := ev_rng) (fun x S1 h => jt_220 12 (by omega) Q   s78 x S1 h) (by exact ev_ob_621) (by decide +kernel) (by decide +kernel) (by decide +kernel) (by decide +kernel) rfl (by (try simp only [ev_sum, ev_nv_cat]); first | done | rfl) ?_
              intro x81 s80 hx81
              show ev_w _ _ _ _ _ [.int (Int32.ofInt x81)] _ _ _ _
              refine ev_r_iload (pc := 330) (k := 5) (v := Int32.ofInt x77) (by decide +kernel) (by exact (ev_lk_st1 ev_lk_st1_self (by decide) rfl)) ?_
              refine ev_r_icmp (pc := 332) (q := .eq) (o := 5) (t := 337) (c := x81 = x77) (by decide +kernel) (ev_k_eq hx81 hx77) (by decide +kernel) ?_ ?_
              · intro c82
                refine ev_r_iload (pc := 337) (k := 5) (v := Int32.ofInt x77) (by decide +kernel) (by exact (ev_lk_st1 ev_lk_st1_self (by decide) rfl)) ?_
                refine ev_r_jn (Q := fun K => ∀ (s89 : ev_St) (w83 : List (Nat × Value)), ev_lk w83 0 = some (.retAddr 0) → ev_lk w83 1 = some (.ref 0) → ev_lk w83 2 = some (.ref 621) → ev_lk w83 3 = some (.ref 723) → ev_lk w83 4 = some (.int (Int32.ofInt x1)) → ev_w (some (L, xs)) ev_Mlaw 12 354 w83 [] s89 (K  s89) ev_eI ev_bl) ?_ ?_
                · intro  s89 w83 e84 e85 e86 e87 e88
                  refine ev_r_goto (pc := 354) (o := 1918) (t := 2272) (by decide +kernel) (by decide +kernel) ?_
                  exact hK2272  s89 _ (by exact e84) (by exact e85) (by exact e86) (by exact e87) (by exact e88)
                · intro K354 hK354
                  refine ev_r_if (pc := 339) (q := .ne) (o := 15) (t := 354) (c := x77 ≠ 0) (by decide +kernel) (ev_k_ne hx77 ev_rng0) (by decide +kernel) ?_ ?_
                  · intro c90
                    exact hK354  s80 _ (by exact (ev_l1 (ev_l1 e3 (by decide) (by decide)) (by decide) (by decide))) (by exact (ev_l1 (ev_l1 e4 (by decide) (by decide)) (by decide) (by decide))) (by exact (ev_l1 (ev_l1 e5 (by decide) (by decide)) (by decide) (by decide))) (by exact (ev_l1 (ev_l1 e6 (by decide) (by decide)) (by decide) (by decide))) (by exact (ev_l1 (ev_lk_st1 e7 (by decide) rfl) (by decide) (by decide)))
                  · intro c90
                    refine ev_r_aload_n (pc := 342) (k := 3) (v := .ref 723) trivial (by decide +kernel) (by exact (ev_l1 (ev_l1 e6 (by decide) (by decide)) (by decide) (by decide))) ?_
                    refine ev_r_iconst (pc := 343) (k := 0) (by decide +kernel) ?_
                    refine ev_r_lald (pc := 344) (by decide) (by decide +kernel) (by exact ev_ab_723) ?_
                    intro y91
                    refine ev_r_iload (pc := 345) (k := 6) (v := Int32.ofInt x79) (by decide +kernel) (by exact ev_lk_st1_self) ?_
                    refine ev_r_toL (pc := 347) (i := .i2l) (len := 1) (pc' := 348) (by decide +kernel) rfl ?_
                    intro y92
                    refine ev_r_toI (pc := 348) (i := .lcmp) (len := 1) (pc' := 349) (by decide +kernel) rfl ?_
                    intro x93 hx93
                    refine ev_r_if (pc := 349) (q := .eq) (o := 5) (t := 354) (c := x93 = 0) (by decide +kernel) (ev_k_eq hx93 ev_rng0) (by decide +kernel) ?_ ?_
                    · intro c94
                      exact hK354  s80 _ (by exact (ev_l1 (ev_l1 e3 (by decide) (by decide)) (by decide) (by decide))) (by exact (ev_l1 (ev_l1 e4 (by decide) (by decide)) (by decide) (by decide))) (by exact (ev_l1 (ev_l1 e5 (by decide) (by decide)) (by decide) (by decide))) (by exact (ev_l1 (ev_l1 e6 (by decide) (by decide)) (by decide) (by decide))) (by exact (ev_l1 (ev_lk_st1 e7 (by decide) rfl) (by decide) (by decide)))
                    · intro c94
                      refine ev_r_iconst (pc := 352) (k := 0) (by decide +kernel) ?_
                      exact ev_r_ireturn (pc := 353) (x := 0) (v := Int32.ofInt 0) (ty := .boolean) (by decide : ev_bl 0) (by decide +kernel) (by decide +kernel) (ev_ret_bl (by decide : ev_bl 0)) rfl
              · intro c82
                refine ev_r_iconst (pc := 335) (k := 0) (by decide +kernel) ?_
                exact ev_r_ireturn (pc := 336) (x := 0) (v := Int32.ofInt 0) (ty := .boolean) (by decide : ev_bl 0) (by decide +kernel) (by decide +kernel) (ev_ret_bl (by decide : ev_bl 0)) rfl
            · intro c75
              refine ev_r_ite ?_ ?_
              · intro c95
                refine ev_r_sw (pc := 40) (i := (.tableswitch 2232 0 32 #[148, 204, 217, 273, 317, 361, 417, 473, 548, 616, 672, 764, 856, 960, 1040, 1120, 1188, 1268, 1324, 1380, 1448, 1540, 1636, 1692, 1736, 1780, 1824, 1868, 1912, 1980, 2064, 2120, 2176])) (len := 148) (pc' := 357) (by decide +kernel) (by rw [c95]; rw [ev_pure_tsw]; exact ev_tsw_c (o := 317) (by decide) (by decide) rfl (by decide +kernel)) ?_
                unfold ja_357
                refine ev_r_aload_n (pc := 357) (k := 1) (v := .ref 0) trivial (by decide +kernel) (by exact e4) ?_
                refine ev_r_aload_n (pc := 358) (k := 3) (v := .ref 723) trivial (by decide +kernel) (by exact e6) ?_
                refine ev_r_stat (pc := 359) (y := 145) (kind := 8) (mi := 367) (na := 2) (as := [ev_nv ((0 + 1)), ev_nv ((723 + 1))]) (rest := []) (encc := ev_oI) (Q := ev_rng) (fun x S1 h => jt_367 12 (by omega) Q ((0 + 1)) ((723 + 1)) (by exact (Or.inr ev_ob_0)) (by exact (Or.inr ev_ab_723)) s8 x S1 h) (Or.inr (Or.inr rfl)) (by decide +kernel) (by decide +kernel) (by decide +kernel) (by decide +kernel) rfl (by (try simp only [ev_sum, ev_nv_cat]); first | done | rfl) ?_
                intro x97 s96 hx97
                show ev_w _ _ _ _ _ [.int (Int32.ofInt x97)] _ _ _ _
                refine ev_r_istore (pc := 362) (k := 5) (by decide +kernel) (by decide +kernel) rfl ?_
                refine ev_r_aload_n (pc := 364) (k := 2) (v := .ref 621) trivial (by decide +kernel) (by exact (ev_l1 e5 (by decide) (by decide))) ?_
                refine ev_r_virt (pc := 365) (y := 147) (mi := 337) (na := 0) (k := 621) (as := []) (rest := []) (encc := ev_oI) (Q := ev_rng) (fun x S1 h => jt_337 12 (by omega) Q   s96 x S1 h) (by exact ev_ob_621) (by decide +kernel) (by decide +kernel) (by decide +kernel) (by decide +kernel) rfl (by (try simp only [ev_sum, ev_nv_cat]); first | done | rfl) ?_
                intro x99 s98 hx99
                show ev_w _ _ _ _ _ [.int (Int32.ofInt x99)] _ _ _ _
                refine ev_r_istore (pc := 368) (k := 6) (by decide +kernel) (by decide +kernel) rfl ?_
                refine ev_r_aload_n (pc := 370) (k := 2) (v := .ref 621) trivial (by decide +kernel) (by exact (ev_l1 (ev_l1 e5 (by decide) (by decide)) (by decide) (by decide))) ?_
                refine ev_r_virt (pc := 371) (y := 131) (mi := 220) (na := 0) (k := 621) (as := []) (rest := []) (encc := ev_oI) (Q := ev_rng) (fun x S1 h => jt_220 12 (by omega) Q   s98 x S1 h) (by exact ev_ob_621) (by decide +kernel) (by decide +kernel) (by decide +kernel) (by decide +kernel) rfl (by (try simp only [ev_sum, ev_nv_cat]); first | done | rfl) ?_
                intro x101 s100 hx101
                show ev_w _ _ _ _ _ [.int (Int32.ofInt x101)] _ _ _ _
                refine ev_r_iload (pc := 374) (k := 5) (v := Int32.ofInt x97) (by decide +kernel) (by exact (ev_lk_st1 ev_lk_st1_self (by decide) rfl)) ?_
                refine ev_r_icmp (pc := 376) (q := .eq) (o := 5) (t := 381) (c := x101 = x97) (by decide +kernel) (ev_k_eq hx101 hx97) (by decide +kernel) ?_ ?_
                · intro c102
                  refine ev_r_iload (pc := 381) (k := 5) (v := Int32.ofInt x97) (by decide +kernel) (by exact (ev_lk_st1 ev_lk_st1_self (by decide) rfl)) ?_
                  refine ev_r_jn (Q := fun K => ∀ (s109 : ev_St) (w103 : List (Nat × Value)), ev_lk w103 0 = some (.retAddr 0) → ev_lk w103 1 = some (.ref 0) → ev_lk w103 2 = some (.ref 621) → ev_lk w103 3 = some (.ref 723) → ev_lk w103 4 = some (.int (Int32.ofInt x1)) → ev_w (some (L, xs)) ev_Mlaw 12 398 w103 [] s109 (K  s109) ev_eI ev_bl) ?_ ?_
                  · intro  s109 w103 e104 e105 e106 e107 e108
                    refine ev_r_goto (pc := 398) (o := 1874) (t := 2272) (by decide +kernel) (by decide +kernel) ?_
                    exact hK2272  s109 _ (by exact e104) (by exact e105) (by exact e106) (by exact e107) (by exact e108)
                  · intro K398 hK398
                    refine ev_r_if (pc := 383) (q := .ne) (o := 15) (t := 398) (c := x97 ≠ 0) (by decide +kernel) (ev_k_ne hx97 ev_rng0) (by decide +kernel) ?_ ?_
                    · intro c110
                      exact hK398  s100 _ (by exact (ev_l1 (ev_l1 e3 (by decide) (by decide)) (by decide) (by decide))) (by exact (ev_l1 (ev_l1 e4 (by decide) (by decide)) (by decide) (by decide))) (by exact (ev_l1 (ev_l1 e5 (by decide) (by decide)) (by decide) (by decide))) (by exact (ev_l1 (ev_l1 e6 (by decide) (by decide)) (by decide) (by decide))) (by exact (ev_l1 (ev_lk_st1 e7 (by decide) rfl) (by decide) (by decide)))
                    · intro c110
                      refine ev_r_aload_n (pc := 386) (k := 3) (v := .ref 723) trivial (by decide +kernel) (by exact (ev_l1 (ev_l1 e6 (by decide) (by decide)) (by decide) (by decide))) ?_
                      refine ev_r_iconst (pc := 387) (k := 0) (by decide +kernel) ?_
                      refine ev_r_lald (pc := 388) (by decide) (by decide +kernel) (by exact ev_ab_723) ?_
                      intro y111
                      refine ev_r_iload (pc := 389) (k := 6) (v := Int32.ofInt x99) (by decide +kernel) (by exact ev_lk_st1_self) ?_
                      refine ev_r_toL (pc := 391) (i := .i2l) (len := 1) (pc' := 392) (by decide +kernel) rfl ?_
                      intro y112
                      refine ev_r_toI (pc := 392) (i := .lcmp) (len := 1) (pc' := 393) (by decide +kernel) rfl ?_
                      intro x113 hx113
                      refine ev_r_if (pc := 393) (q := .eq) (o := 5) (t := 398) (c := x113 = 0) (by decide +kernel) (ev_k_eq hx113 ev_rng0) (by decide +kernel) ?_ ?_
                      · intro c114
                        exact hK398  s100 _ (by exact (ev_l1 (ev_l1 e3 (by decide) (by decide)) (by decide) (by decide))) (by exact (ev_l1 (ev_l1 e4 (by decide) (by decide)) (by decide) (by decide))) (by exact (ev_l1 (ev_l1 e5 (by decide) (by decide)) (by decide) (by decide))) (by exact (ev_l1 (ev_l1 e6 (by decide) (by decide)) (by decide) (by decide))) (by exact (ev_l1 (ev_lk_st1 e7 (by decide) rfl) (by decide) (by decide)))
                      · intro c114
                        refine ev_r_iconst (pc := 396) (k := 0) (by decide +kernel) ?_
                        exact ev_r_ireturn (pc := 397) (x := 0) (v := Int32.ofInt 0) (ty := .boolean) (by decide : ev_bl 0) (by decide +kernel) (by decide +kernel) (ev_ret_bl (by decide : ev_bl 0)) rfl
                · intro c102
                  refine ev_r_iconst (pc := 379) (k := 0) (by decide +kernel) ?_
                  exact ev_r_ireturn (pc := 380) (x := 0) (v := Int32.ofInt 0) (ty := .boolean) (by decide : ev_bl 0) (by decide +kernel) (by decide +kernel) (ev_ret_bl (by decide : ev_bl 0)) rfl
              · intro c95
                refine ev_r_ite ?_ ?_
                · intro c115
                  refine ev_r_sw (pc := 40) (i := (.tableswitch 2232 0 32 #[148, 204, 217, 273, 317, 361, 417, 473, 548, 616, 672, 764, 856, 960, 1040, 1120, 1188, 1268, 1324, 1380, 1448, 1540, 1636, 1692, 1736, 1780, 1824, 1868, 1912, 1980, 2064, 2120, 2176])) (len := 148) (pc' := 401) (by decide +kernel) (by rw [c115]; rw [ev_pure_tsw]; exact ev_tsw_c (o := 361) (by decide) (by decide) rfl (by decide +kernel)) ?_
                  unfold ja_401
                  refine ev_r_aload_n (pc := 401) (k := 1) (v := .ref 0) trivial (by decide +kernel) (by exact e4) ?_
                  refine ev_r_aload_n (pc := 402) (k := 0) (v := .retAddr 0) trivial (by decide +kernel) (by exact e3) ?_
                  refine ev_r_iload (pc := 403) (k := 4) (v := Int32.ofInt x1) (by decide +kernel) (by exact e7) ?_
                  refine ev_r_iconst (pc := 405) (k := 1) (by decide +kernel) ?_
                  refine ev_r_iadd (pc := 406) (by decide +kernel) ?_
                  intro x116 hx116
                  refine ev_r_xald (pc := 407) hx116 (by decide +kernel) ?_
                  intro x117 hx117
                  refine ev_r_aload_n (pc := 408) (k := 3) (v := .ref 723) trivial (by decide +kernel) (by exact e6) ?_
                  refine ev_r_stat (pc := 409) (y := 148) (kind := 8) (mi := 368) (na := 3) (as := [ev_nv ((0 + 1)), .int (Int32.ofInt x117), ev_nv ((723 + 1))]) (rest := []) (encc := ev_oI) (Q := ev_rng) (fun x S1 h => jt_368 12 (by omega) Q ((0 + 1)) x117 ((723 + 1)) (by exact (Or.inr ev_ob_0)) hx117 (by exact (Or.inr ev_ab_723)) s8 x S1 h) (Or.inr (Or.inr rfl)) (by decide +kernel) (by decide +kernel) (by decide +kernel) (by decide +kernel) rfl (by (try simp only [ev_sum, ev_nv_cat]); first | done | rfl) ?_
                  intro x119 s118 hx119
                  show ev_w _ _ _ _ _ [.int (Int32.ofInt x119)] _ _ _ _
                  refine ev_r_istore (pc := 412) (k := 5) (by decide +kernel) (by decide +kernel) rfl ?_
                  refine ev_r_aload_n (pc := 414) (k := 2) (v := .ref 621) trivial (by decide +kernel) (by exact (ev_l1 e5 (by decide) (by decide))) ?_
                  refine ev_r_aload_n (pc := 415) (k := 0) (v := .retAddr 0) trivial (by decide +kernel) (by exact (ev_l1 e3 (by decide) (by decide))) ?_
                  refine ev_r_iload (pc := 416) (k := 4) (v := Int32.ofInt x1) (by decide +kernel) (by exact (ev_lk_st1 e7 (by decide) rfl)) ?_
                  refine ev_r_iconst (pc := 418) (k := 1) (by decide +kernel) ?_
                  refine ev_r_iadd (pc := 419) (by decide +kernel) ?_
                  intro x120 hx120
                  refine ev_r_xald (pc := 420) hx120 (by decide +kernel) ?_
                  intro x121 hx121
                  refine ev_r_virt (pc := 421) (y := 150) (mi := 274) (na := 1) (k := 621) (as := [.int (Int32.ofInt x121)]) (rest := []) (encc := ev_oI) (Q := ev_rng) (fun x S1 h => jt_274 12 (by omega) Q x121 hx121 s118 x S1 h) (by exact ev_ob_621) (by decide +kernel) (by decide +kernel) (by decide +kernel) (by decide +kernel) rfl (by (try simp only [ev_sum, ev_nv_cat]); first | done | rfl) ?_
                  intro x123 s122 hx123
                  show ev_w _ _ _ _ _ [.int (Int32.ofInt x123)] _ _ _ _
                  refine ev_r_istore (pc := 424) (k := 6) (by decide +kernel) (by decide +kernel) rfl ?_
                  refine ev_r_aload_n (pc := 426) (k := 2) (v := .ref 621) trivial (by decide +kernel) (by exact (ev_l1 (ev_l1 e5 (by decide) (by decide)) (by decide) (by decide))) ?_
                  refine ev_r_virt (pc := 427) (y := 131) (mi := 220) (na := 0) (k := 621) (as := []) (rest := []) (encc := ev_oI) (Q := ev_rng) (fun x S1 h => jt_220 12 (by omega) Q   s122 x S1 h) (by exact ev_ob_621) (by decide +kernel) (by decide +kernel) (by decide +kernel) (by decide +kernel) rfl (by (try simp only [ev_sum, ev_nv_cat]); first | done | rfl) ?_
                  intro x125 s124 hx125
                  show ev_w _ _ _ _ _ [.int (Int32.ofInt x125)] _ _ _ _
                  refine ev_r_iload (pc := 430) (k := 5) (v := Int32.ofInt x119) (by decide +kernel) (by exact (ev_lk_st1 ev_lk_st1_self (by decide) rfl)) ?_
                  refine ev_r_icmp (pc := 432) (q := .eq) (o := 5) (t := 437) (c := x125 = x119) (by decide +kernel) (ev_k_eq hx125 hx119) (by decide +kernel) ?_ ?_
                  · intro c126
                    refine ev_r_iload (pc := 437) (k := 5) (v := Int32.ofInt x119) (by decide +kernel) (by exact (ev_lk_st1 ev_lk_st1_self (by decide) rfl)) ?_
                    refine ev_r_jn (Q := fun K => ∀ (s133 : ev_St) (w127 : List (Nat × Value)), ev_lk w127 0 = some (.retAddr 0) → ev_lk w127 1 = some (.ref 0) → ev_lk w127 2 = some (.ref 621) → ev_lk w127 3 = some (.ref 723) → ev_lk w127 4 = some (.int (Int32.ofInt x1)) → ev_w (some (L, xs)) ev_Mlaw 12 454 w127 [] s133 (K  s133) ev_eI ev_bl) ?_ ?_
                    · intro  s133 w127 e128 e129 e130 e131 e132
                      refine ev_r_goto (pc := 454) (o := 1818) (t := 2272) (by decide +kernel) (by decide +kernel) ?_
                      exact hK2272  s133 _ (by exact e128) (by exact e129) (by exact e130) (by exact e131) (by exact e132)
                    · intro K454 hK454
                      refine ev_r_if (pc := 439) (q := .ne) (o := 15) (t := 454) (c := x119 ≠ 0) (by decide +kernel) (ev_k_ne hx119 ev_rng0) (by decide +kernel) ?_ ?_
                      · intro c134
                        exact hK454  s124 _ (by exact (ev_l1 (ev_l1 e3 (by decide) (by decide)) (by decide) (by decide))) (by exact (ev_l1 (ev_l1 e4 (by decide) (by decide)) (by decide) (by decide))) (by exact (ev_l1 (ev_l1 e5 (by decide) (by decide)) (by decide) (by decide))) (by exact (ev_l1 (ev_l1 e6 (by decide) (by decide)) (by decide) (by decide))) (by exact (ev_l1 (ev_lk_st1 e7 (by decide) rfl) (by decide) (by decide)))
                      · intro c134
                        refine ev_r_aload_n (pc := 442) (k := 3) (v := .ref 723) trivial (by decide +kernel) (by exact (ev_l1 (ev_l1 e6 (by decide) (by decide)) (by decide) (by decide))) ?_
                        refine ev_r_iconst (pc := 443) (k := 0) (by decide +kernel) ?_
                        refine ev_r_lald (pc := 444) (by decide) (by decide +kernel) (by exact ev_ab_723) ?_
                        intro y135
                        refine ev_r_iload (pc := 445) (k := 6) (v := Int32.ofInt x123) (by decide +kernel) (by exact ev_lk_st1_self) ?_
                        refine ev_r_toL (pc := 447) (i := .i2l) (len := 1) (pc' := 448) (by decide +kernel) rfl ?_
                        intro y136
                        refine ev_r_toI (pc := 448) (i := .lcmp) (len := 1) (pc' := 449) (by decide +kernel) rfl ?_
                        intro x137 hx137
                        refine ev_r_if (pc := 449) (q := .eq) (o := 5) (t := 454) (c := x137 = 0) (by decide +kernel) (ev_k_eq hx137 ev_rng0) (by decide +kernel) ?_ ?_
                        · intro c138
                          exact hK454  s124 _ (by exact (ev_l1 (ev_l1 e3 (by decide) (by decide)) (by decide) (by decide))) (by exact (ev_l1 (ev_l1 e4 (by decide) (by decide)) (by decide) (by decide))) (by exact (ev_l1 (ev_l1 e5 (by decide) (by decide)) (by decide) (by decide))) (by exact (ev_l1 (ev_l1 e6 (by decide) (by decide)) (by decide) (by decide))) (by exact (ev_l1 (ev_lk_st1 e7 (by decide) rfl) (by decide) (by decide)))
                        · intro c138
                          refine ev_r_iconst (pc := 452) (k := 0) (by decide +kernel) ?_
                          exact ev_r_ireturn (pc := 453) (x := 0) (v := Int32.ofInt 0) (ty := .boolean) (by decide : ev_bl 0) (by decide +kernel) (by decide +kernel) (ev_ret_bl (by decide : ev_bl 0)) rfl
                  · intro c126
                    refine ev_r_iconst (pc := 435) (k := 0) (by decide +kernel) ?_
                    exact ev_r_ireturn (pc := 436) (x := 0) (v := Int32.ofInt 0) (ty := .boolean) (by decide : ev_bl 0) (by decide +kernel) (by decide +kernel) (ev_ret_bl (by decide : ev_bl 0)) rfl
                · intro c115
                  refine ev_r_ite ?_ ?_
                  · intro c139
                    refine ev_r_sw (pc := 40) (i := (.tableswitch 2232 0 32 #[148, 204, 217, 273, 317, 361, 417, 473, 548, 616, 672, 764, 856, 960, 1040, 1120, 1188, 1268, 1324, 1380, 1448, 1540, 1636, 1692, 1736, 1780, 1824, 1868, 1912, 1980, 2064, 2120, 2176])) (len := 148) (pc' := 457) (by decide +kernel) (by rw [c139]; rw [ev_pure_tsw]; exact ev_tsw_c (o := 417) (by decide) (by decide) rfl (by decide +kernel)) ?_
                    unfold ja_457
                    refine ev_r_aload_n (pc := 457) (k := 1) (v := .ref 0) trivial (by decide +kernel) (by exact e4) ?_
                    refine ev_r_aload_n (pc := 458) (k := 0) (v := .retAddr 0) trivial (by decide +kernel) (by exact e3) ?_
                    refine ev_r_iload (pc := 459) (k := 4) (v := Int32.ofInt x1) (by decide +kernel) (by exact e7) ?_
                    refine ev_r_iconst (pc := 461) (k := 1) (by decide +kernel) ?_
                    refine ev_r_iadd (pc := 462) (by decide +kernel) ?_
                    intro x140 hx140
                    refine ev_r_xald (pc := 463) hx140 (by decide +kernel) ?_
                    intro x141 hx141
                    refine ev_r_aload_n (pc := 464) (k := 3) (v := .ref 723) trivial (by decide +kernel) (by exact e6) ?_
                    refine ev_r_stat (pc := 465) (y := 151) (kind := 8) (mi := 369) (na := 3) (as := [ev_nv ((0 + 1)), .int (Int32.ofInt x141), ev_nv ((723 + 1))]) (rest := []) (encc := ev_oI) (Q := ev_rng) (fun x S1 h => jt_369 12 (by omega) Q ((0 + 1)) x141 ((723 + 1)) (by exact (Or.inr ev_ob_0)) hx141 (by exact (Or.inr ev_ab_723)) s8 x S1 h) (Or.inr (Or.inr rfl)) (by decide +kernel) (by decide +kernel) (by decide +kernel) (by decide +kernel) rfl (by (try simp only [ev_sum, ev_nv_cat]); first | done | rfl) ?_
                    intro x143 s142 hx143
                    show ev_w _ _ _ _ _ [.int (Int32.ofInt x143)] _ _ _ _
                    refine ev_r_istore (pc := 468) (k := 5) (by decide +kernel) (by decide +kernel) rfl ?_
                    refine ev_r_aload_n (pc := 470) (k := 2) (v := .ref 621) trivial (by decide +kernel) (by exact (ev_l1 e5 (by decide) (by decide))) ?_
                    refine ev_r_aload_n (pc := 471) (k := 0) (v := .retAddr 0) trivial (by decide +kernel) (by exact (ev_l1 e3 (by decide) (by decide))) ?_
                    refine ev_r_iload (pc := 472) (k := 4) (v := Int32.ofInt x1) (by decide +kernel) (by exact (ev_lk_st1 e7 (by decide) rfl)) ?_
                    refine ev_r_iconst (pc := 474) (k := 1) (by decide +kernel) ?_
                    refine ev_r_iadd (pc := 475) (by decide +kernel) ?_
                    intro x144 hx144
                    refine ev_r_xald (pc := 476) hx144 (by decide +kernel) ?_
                    intro x145 hx145
                    refine ev_r_virt (pc := 477) (y := 153) (mi := 275) (na := 1) (k := 621) (as := [.int (Int32.ofInt x145)]) (rest := []) (encc := ev_oI) (Q := ev_rng) (fun x S1 h => jt_275 12 (by omega) Q x145 hx145 s142 x S1 h) (by exact ev_ob_621) (by decide +kernel) (by decide +kernel) (by decide +kernel) (by decide +kernel) rfl (by (try simp only [ev_sum, ev_nv_cat]); first | done | rfl) ?_
                    intro x147 s146 hx147
                    show ev_w _ _ _ _ _ [.int (Int32.ofInt x147)] _ _ _ _
                    refine ev_r_istore (pc := 480) (k := 6) (by decide +kernel) (by decide +kernel) rfl ?_
                    refine ev_r_aload_n (pc := 482) (k := 2) (v := .ref 621) trivial (by decide +kernel) (by exact (ev_l1 (ev_l1 e5 (by decide) (by decide)) (by decide) (by decide))) ?_
                    refine ev_r_virt (pc := 483) (y := 131) (mi := 220) (na := 0) (k := 621) (as := []) (rest := []) (encc := ev_oI) (Q := ev_rng) (fun x S1 h => jt_220 12 (by omega) Q   s146 x S1 h) (by exact ev_ob_621) (by decide +kernel) (by decide +kernel) (by decide +kernel) (by decide +kernel) rfl (by (try simp only [ev_sum, ev_nv_cat]); first | done | rfl) ?_
                    intro x149 s148 hx149
                    show ev_w _ _ _ _ _ [.int (Int32.ofInt x149)] _ _ _ _
                    refine ev_r_iload (pc := 486) (k := 5) (v := Int32.ofInt x143) (by decide +kernel) (by exact (ev_lk_st1 ev_lk_st1_self (by decide) rfl)) ?_
                    refine ev_r_icmp (pc := 488) (q := .eq) (o := 5) (t := 493) (c := x149 = x143) (by decide +kernel) (ev_k_eq hx149 hx143) (by decide +kernel) ?_ ?_
                    · intro c150
                      refine ev_r_iload (pc := 493) (k := 5) (v := Int32.ofInt x143) (by decide +kernel) (by exact (ev_lk_st1 ev_lk_st1_self (by decide) rfl)) ?_
                      refine ev_r_jn (Q := fun K => ∀ (s157 : ev_St) (w151 : List (Nat × Value)), ev_lk w151 0 = some (.retAddr 0) → ev_lk w151 1 = some (.ref 0) → ev_lk w151 2 = some (.ref 621) → ev_lk w151 3 = some (.ref 723) → ev_lk w151 4 = some (.int (Int32.ofInt x1)) → ev_w (some (L, xs)) ev_Mlaw 12 510 w151 [] s157 (K  s157) ev_eI ev_bl) ?_ ?_
                      · intro  s157 w151 e152 e153 e154 e155 e156
                        refine ev_r_goto (pc := 510) (o := 1762) (t := 2272) (by decide +kernel) (by decide +kernel) ?_
                        exact hK2272  s157 _ (by exact e152) (by exact e153) (by exact e154) (by exact e155) (by exact e156)
                      · intro K510 hK510
                        refine ev_r_if (pc := 495) (q := .ne) (o := 15) (t := 510) (c := x143 ≠ 0) (by decide +kernel) (ev_k_ne hx143 ev_rng0) (by decide +kernel) ?_ ?_
                        · intro c158
                          exact hK510  s148 _ (by exact (ev_l1 (ev_l1 e3 (by decide) (by decide)) (by decide) (by decide))) (by exact (ev_l1 (ev_l1 e4 (by decide) (by decide)) (by decide) (by decide))) (by exact (ev_l1 (ev_l1 e5 (by decide) (by decide)) (by decide) (by decide))) (by exact (ev_l1 (ev_l1 e6 (by decide) (by decide)) (by decide) (by decide))) (by exact (ev_l1 (ev_lk_st1 e7 (by decide) rfl) (by decide) (by decide)))
                        · intro c158
                          refine ev_r_aload_n (pc := 498) (k := 3) (v := .ref 723) trivial (by decide +kernel) (by exact (ev_l1 (ev_l1 e6 (by decide) (by decide)) (by decide) (by decide))) ?_
                          refine ev_r_iconst (pc := 499) (k := 0) (by decide +kernel) ?_
                          refine ev_r_lald (pc := 500) (by decide) (by decide +kernel) (by exact ev_ab_723) ?_
                          intro y159
                          refine ev_r_iload (pc := 501) (k := 6) (v := Int32.ofInt x147) (by decide +kernel) (by exact ev_lk_st1_self) ?_
                          refine ev_r_toL (pc := 503) (i := .i2l) (len := 1) (pc' := 504) (by decide +kernel) rfl ?_
                          intro y160
                          refine ev_r_toI (pc := 504) (i := .lcmp) (len := 1) (pc' := 505) (by decide +kernel) rfl ?_
                          intro x161 hx161
                          refine ev_r_if (pc := 505) (q := .eq) (o := 5) (t := 510) (c := x161 = 0) (by decide +kernel) (ev_k_eq hx161 ev_rng0) (by decide +kernel) ?_ ?_
                          · intro c162
                            exact hK510  s148 _ (by exact (ev_l1 (ev_l1 e3 (by decide) (by decide)) (by decide) (by decide))) (by exact (ev_l1 (ev_l1 e4 (by decide) (by decide)) (by decide) (by decide))) (by exact (ev_l1 (ev_l1 e5 (by decide) (by decide)) (by decide) (by decide))) (by exact (ev_l1 (ev_l1 e6 (by decide) (by decide)) (by decide) (by decide))) (by exact (ev_l1 (ev_lk_st1 e7 (by decide) rfl) (by decide) (by decide)))
                          · intro c162
                            refine ev_r_iconst (pc := 508) (k := 0) (by decide +kernel) ?_
                            exact ev_r_ireturn (pc := 509) (x := 0) (v := Int32.ofInt 0) (ty := .boolean) (by decide : ev_bl 0) (by decide +kernel) (by decide +kernel) (ev_ret_bl (by decide : ev_bl 0)) rfl
                    · intro c150
                      refine ev_r_iconst (pc := 491) (k := 0) (by decide +kernel) ?_
                      exact ev_r_ireturn (pc := 492) (x := 0) (v := Int32.ofInt 0) (ty := .boolean) (by decide : ev_bl 0) (by decide +kernel) (by decide +kernel) (ev_ret_bl (by decide : ev_bl 0)) rfl
                  · intro c139
                    refine ev_r_ite ?_ ?_
                    · intro c163
                      refine ev_r_sw (pc := 40) (i := (.tableswitch 2232 0 32 #[148, 204, 217, 273, 317, 361, 417, 473, 548, 616, 672, 764, 856, 960, 1040, 1120, 1188, 1268, 1324, 1380, 1448, 1540, 1636, 1692, 1736, 1780, 1824, 1868, 1912, 1980, 2064, 2120, 2176])) (len := 148) (pc' := 513) (by decide +kernel) (by rw [c163]; rw [ev_pure_tsw]; exact ev_tsw_c (o := 473) (by decide) (by decide) rfl (by decide +kernel)) ?_
                      unfold ja_513
                      refine ev_r_aload_n (pc := 513) (k := 1) (v := .ref 0) trivial (by decide +kernel) (by exact e4) ?_
                      refine ev_r_aload_n (pc := 514) (k := 0) (v := .retAddr 0) trivial (by decide +kernel) (by exact e3) ?_
                      refine ev_r_iload (pc := 515) (k := 4) (v := Int32.ofInt x1) (by decide +kernel) (by exact e7) ?_
                      refine ev_r_iconst (pc := 517) (k := 1) (by decide +kernel) ?_
                      refine ev_r_iadd (pc := 518) (by decide +kernel) ?_
                      intro x164 hx164
                      refine ev_r_xald (pc := 519) hx164 (by decide +kernel) ?_
                      intro x165 hx165
                      refine ev_r_aload_n (pc := 520) (k := 0) (v := .retAddr 0) trivial (by decide +kernel) (by exact e3) ?_
                      refine ev_r_iload (pc := 521) (k := 4) (v := Int32.ofInt x1) (by decide +kernel) (by exact e7) ?_
                      refine ev_r_iconst (pc := 523) (k := 2) (by decide +kernel) ?_
                      refine ev_r_iadd (pc := 524) (by decide +kernel) ?_
                      intro x166 hx166
                      refine ev_r_xald (pc := 525) hx166 (by decide +kernel) ?_
                      intro x167 hx167
                      refine ev_r_aload_n (pc := 526) (k := 3) (v := .ref 723) trivial (by decide +kernel) (by exact e6) ?_
                      refine ev_r_stat (pc := 527) (y := 154) (kind := 8) (mi := 370) (na := 4) (as := [ev_nv ((0 + 1)), .int (Int32.ofInt x165), .int (Int32.ofInt x167), ev_nv ((723 + 1))]) (rest := []) (encc := ev_oI) (Q := ev_rng) (fun x S1 h => jt_370 12 (by omega) Q ((0 + 1)) x165 x167 ((723 + 1)) (by exact (Or.inr ev_ob_0)) hx165 hx167 (by exact (Or.inr ev_ab_723)) s8 x S1 h) (Or.inr (Or.inr rfl)) (by decide +kernel) (by decide +kernel) (by decide +kernel) (by decide +kernel) rfl (by (try simp only [ev_sum, ev_nv_cat]); first | done | rfl) ?_
                      intro x169 s168 hx169
                      show ev_w _ _ _ _ _ [.int (Int32.ofInt x169)] _ _ _ _
                      refine ev_r_istore (pc := 530) (k := 5) (by decide +kernel) (by decide +kernel) rfl ?_
                      refine ev_r_aload_n (pc := 532) (k := 2) (v := .ref 621) trivial (by decide +kernel) (by exact (ev_l1 e5 (by decide) (by decide))) ?_
                      refine ev_r_aload_n (pc := 533) (k := 0) (v := .retAddr 0) trivial (by decide +kernel) (by exact (ev_l1 e3 (by decide) (by decide))) ?_
                      refine ev_r_iload (pc := 534) (k := 4) (v := Int32.ofInt x1) (by decide +kernel) (by exact (ev_lk_st1 e7 (by decide) rfl)) ?_
                      refine ev_r_iconst (pc := 536) (k := 1) (by decide +kernel) ?_
                      refine ev_r_iadd (pc := 537) (by decide +kernel) ?_
                      intro x170 hx170
                      refine ev_r_xald (pc := 538) hx170 (by decide +kernel) ?_
                      intro x171 hx171
                      refine ev_r_aload_n (pc := 539) (k := 0) (v := .retAddr 0) trivial (by decide +kernel) (by exact (ev_l1 e3 (by decide) (by decide))) ?_
                      refine ev_r_iload (pc := 540) (k := 4) (v := Int32.ofInt x1) (by decide +kernel) (by exact (ev_lk_st1 e7 (by decide) rfl)) ?_
                      refine ev_r_iconst (pc := 542) (k := 2) (by decide +kernel) ?_
                      refine ev_r_iadd (pc := 543) (by decide +kernel) ?_
                      intro x172 hx172
                      refine ev_r_xald (pc := 544) hx172 (by decide +kernel) ?_
                      intro x173 hx173
                      refine ev_r_virt (pc := 545) (y := 157) (mi := 277) (na := 2) (k := 621) (as := [.int (Int32.ofInt x171), .int (Int32.ofInt x173)]) (rest := []) (encc := ev_oI) (Q := ev_bl) (fun x S1 h => jt_277 12 (by omega) Q x171 x173 hx171 hx173 s168 x S1 h) (by exact ev_ob_621) (by decide +kernel) (by decide +kernel) (by decide +kernel) (by decide +kernel) rfl (by (try simp only [ev_sum, ev_nv_cat]); first | done | rfl) ?_
                      intro x175 s174 hx175
                      replace hx175 := ev_bl_rng hx175
                      show ev_w _ _ _ _ _ [.int (Int32.ofInt x175)] _ _ _ _
                      refine ev_r_istore (pc := 548) (k := 6) (by decide +kernel) (by decide +kernel) rfl ?_
                      refine ev_r_aload_n (pc := 550) (k := 2) (v := .ref 621) trivial (by decide +kernel) (by exact (ev_l1 (ev_l1 e5 (by decide) (by decide)) (by decide) (by decide))) ?_
                      refine ev_r_virt (pc := 551) (y := 131) (mi := 220) (na := 0) (k := 621) (as := []) (rest := []) (encc := ev_oI) (Q := ev_rng) (fun x S1 h => jt_220 12 (by omega) Q   s174 x S1 h) (by exact ev_ob_621) (by decide +kernel) (by decide +kernel) (by decide +kernel) (by decide +kernel) rfl (by (try simp only [ev_sum, ev_nv_cat]); first | done | rfl) ?_
                      intro x177 s176 hx177
                      show ev_w _ _ _ _ _ [.int (Int32.ofInt x177)] _ _ _ _
                      refine ev_r_iload (pc := 554) (k := 5) (v := Int32.ofInt x169) (by decide +kernel) (by exact (ev_lk_st1 ev_lk_st1_self (by decide) rfl)) ?_
                      refine ev_r_icmp (pc := 556) (q := .eq) (o := 5) (t := 561) (c := x177 = x169) (by decide +kernel) (ev_k_eq hx177 hx169) (by decide +kernel) ?_ ?_
                      · intro c178
                        refine ev_r_iload (pc := 561) (k := 5) (v := Int32.ofInt x169) (by decide +kernel) (by exact (ev_lk_st1 ev_lk_st1_self (by decide) rfl)) ?_
                        refine ev_r_jn (Q := fun K => ∀ (s185 : ev_St) (w179 : List (Nat × Value)), ev_lk w179 0 = some (.retAddr 0) → ev_lk w179 1 = some (.ref 0) → ev_lk w179 2 = some (.ref 621) → ev_lk w179 3 = some (.ref 723) → ev_lk w179 4 = some (.int (Int32.ofInt x1)) → ev_w (some (L, xs)) ev_Mlaw 12 585 w179 [] s185 (K  s185) ev_eI ev_bl) ?_ ?_
                        · intro  s185 w179 e180 e181 e182 e183 e184
                          refine ev_r_goto (pc := 585) (o := 1687) (t := 2272) (by decide +kernel) (by decide +kernel) ?_
                          exact hK2272  s185 _ (by exact e180) (by exact e181) (by exact e182) (by exact e183) (by exact e184)
                        · intro K585 hK585
                          refine ev_r_if (pc := 563) (q := .ne) (o := 22) (t := 585) (c := x169 ≠ 0) (by decide +kernel) (ev_k_ne hx169 ev_rng0) (by decide +kernel) ?_ ?_
                          · intro c186
                            exact hK585  s176 _ (by exact (ev_l1 (ev_l1 e3 (by decide) (by decide)) (by decide) (by decide))) (by exact (ev_l1 (ev_l1 e4 (by decide) (by decide)) (by decide) (by decide))) (by exact (ev_l1 (ev_l1 e5 (by decide) (by decide)) (by decide) (by decide))) (by exact (ev_l1 (ev_l1 e6 (by decide) (by decide)) (by decide) (by decide))) (by exact (ev_l1 (ev_lk_st1 e7 (by decide) rfl) (by decide) (by decide)))
                          · intro c186
                            refine ev_r_aload_n (pc := 566) (k := 3) (v := .ref 723) trivial (by decide +kernel) (by exact (ev_l1 (ev_l1 e6 (by decide) (by decide)) (by decide) (by decide))) ?_
                            refine ev_r_iconst (pc := 567) (k := 0) (by decide +kernel) ?_
                            refine ev_r_lald (pc := 568) (by decide) (by decide +kernel) (by exact ev_ab_723) ?_
                            intro y187
                            refine ev_r_iload (pc := 569) (k := 6) (v := Int32.ofInt x175) (by decide +kernel) (by exact ev_lk_st1_self) ?_
                            refine ev_r_jn (Q := fun K => ∀ (y189 : Int64), ∀ (y188 : Int64), ∀ (s196 : ev_St) (w190 : List (Nat × Value)), ev_lk w190 0 = some (.retAddr 0) → ev_lk w190 1 = some (.ref 0) → ev_lk w190 2 = some (.ref 621) → ev_lk w190 3 = some (.ref 723) → ev_lk w190 4 = some (.int (Int32.ofInt x1)) → ev_w (some (L, xs)) ev_Mlaw 12 579 w190 [.long y189, .long y188] s196 (K y189 y188 s196) ev_eI ev_bl) ?_ ?_
                            · intro y189 y188 s196 w190 e191 e192 e193 e194 e195
                              refine ev_r_toI (pc := 579) (i := .lcmp) (len := 1) (pc' := 580) (by decide +kernel) rfl ?_
                              intro x197 hx197
                              refine ev_r_if (pc := 580) (q := .eq) (o := 5) (t := 585) (c := x197 = 0) (by decide +kernel) (ev_k_eq hx197 ev_rng0) (by decide +kernel) ?_ ?_
                              · intro c198
                                exact hK585  s196 _ (by exact e191) (by exact e192) (by exact e193) (by exact e194) (by exact e195)
                              · intro c198
                                refine ev_r_iconst (pc := 583) (k := 0) (by decide +kernel) ?_
                                exact ev_r_ireturn (pc := 584) (x := 0) (v := Int32.ofInt 0) (ty := .boolean) (by decide : ev_bl 0) (by decide +kernel) (by decide +kernel) (ev_ret_bl (by decide : ev_bl 0)) rfl
                            · intro K579 hK579
                              refine ev_r_if (pc := 571) (q := .eq) (o := 7) (t := 578) (c := x175 = 0) (by decide +kernel) (ev_k_eq hx175 ev_rng0) (by decide +kernel) ?_ ?_
                              · intro c199
                                refine ev_r_lconst (pc := 578) (c := 0) (by decide +kernel) ?_
                                exact hK579 ((Int64.ofNat ((0 : Fin 2) : Nat))) y187 s176 _ (by exact (ev_l1 (ev_l1 e3 (by decide) (by decide)) (by decide) (by decide))) (by exact (ev_l1 (ev_l1 e4 (by decide) (by decide)) (by decide) (by decide))) (by exact (ev_l1 (ev_l1 e5 (by decide) (by decide)) (by decide) (by decide))) (by exact (ev_l1 (ev_l1 e6 (by decide) (by decide)) (by decide) (by decide))) (by exact (ev_l1 (ev_lk_st1 e7 (by decide) rfl) (by decide) (by decide)))
                              · intro c199
                                refine ev_r_lconst (pc := 574) (c := 1) (by decide +kernel) ?_
                                refine ev_r_goto (pc := 575) (o := 4) (t := 579) (by decide +kernel) (by decide +kernel) ?_
                                exact hK579 ((Int64.ofNat ((1 : Fin 2) : Nat))) y187 s176 _ (by exact (ev_l1 (ev_l1 e3 (by decide) (by decide)) (by decide) (by decide))) (by exact (ev_l1 (ev_l1 e4 (by decide) (by decide)) (by decide) (by decide))) (by exact (ev_l1 (ev_l1 e5 (by decide) (by decide)) (by decide) (by decide))) (by exact (ev_l1 (ev_l1 e6 (by decide) (by decide)) (by decide) (by decide))) (by exact (ev_l1 (ev_lk_st1 e7 (by decide) rfl) (by decide) (by decide)))
                      · intro c178
                        refine ev_r_iconst (pc := 559) (k := 0) (by decide +kernel) ?_
                        exact ev_r_ireturn (pc := 560) (x := 0) (v := Int32.ofInt 0) (ty := .boolean) (by decide : ev_bl 0) (by decide +kernel) (by decide +kernel) (ev_ret_bl (by decide : ev_bl 0)) rfl
                    · intro c163
                      refine ev_r_ite ?_ ?_
                      · intro c200
                        refine ev_r_sw (pc := 40) (i := (.tableswitch 2232 0 32 #[148, 204, 217, 273, 317, 361, 417, 473, 548, 616, 672, 764, 856, 960, 1040, 1120, 1188, 1268, 1324, 1380, 1448, 1540, 1636, 1692, 1736, 1780, 1824, 1868, 1912, 1980, 2064, 2120, 2176])) (len := 148) (pc' := 588) (by decide +kernel) (by rw [c200]; rw [ev_pure_tsw]; exact ev_tsw_c (o := 548) (by decide) (by decide) rfl (by decide +kernel)) ?_
                        unfold ja_588
                        refine ev_r_aload_n (pc := 588) (k := 1) (v := .ref 0) trivial (by decide +kernel) (by exact e4) ?_
                        refine ev_r_aload_n (pc := 589) (k := 0) (v := .retAddr 0) trivial (by decide +kernel) (by exact e3) ?_
                        refine ev_r_iload (pc := 590) (k := 4) (v := Int32.ofInt x1) (by decide +kernel) (by exact e7) ?_
                        refine ev_r_iconst (pc := 592) (k := 1) (by decide +kernel) ?_
                        refine ev_r_iadd (pc := 593) (by decide +kernel) ?_
                        intro x201 hx201
                        refine ev_r_xald (pc := 594) hx201 (by decide +kernel) ?_
                        intro x202 hx202
                        refine ev_r_aload_n (pc := 595) (k := 0) (v := .retAddr 0) trivial (by decide +kernel) (by exact e3) ?_
                        refine ev_r_iload (pc := 596) (k := 4) (v := Int32.ofInt x1) (by decide +kernel) (by exact e7) ?_
                        refine ev_r_iconst (pc := 598) (k := 2) (by decide +kernel) ?_
                        refine ev_r_iadd (pc := 599) (by decide +kernel) ?_
                        intro x203 hx203
                        refine ev_r_xald (pc := 600) hx203 (by decide +kernel) ?_
                        intro x204 hx204
                        refine ev_r_aload_n (pc := 601) (k := 3) (v := .ref 723) trivial (by decide +kernel) (by exact e6) ?_
                        refine ev_r_stat (pc := 602) (y := 158) (kind := 8) (mi := 371) (na := 4) (as := [ev_nv ((0 + 1)), .int (Int32.ofInt x202), .int (Int32.ofInt x204), ev_nv ((723 + 1))]) (rest := []) (encc := ev_oI) (Q := ev_rng) (fun x S1 h => jt_371 12 (by omega) Q ((0 + 1)) x202 x204 ((723 + 1)) (by exact (Or.inr ev_ob_0)) hx202 hx204 (by exact (Or.inr ev_ab_723)) s8 x S1 h) (Or.inr (Or.inr rfl)) (by decide +kernel) (by decide +kernel) (by decide +kernel) (by decide +kernel) rfl (by (try simp only [ev_sum, ev_nv_cat]); first | done | rfl) ?_
                        intro x206 s205 hx206
                        show ev_w _ _ _ _ _ [.int (Int32.ofInt x206)] _ _ _ _
                        refine ev_r_istore (pc := 605) (k := 5) (by decide +kernel) (by decide +kernel) rfl ?_
                        refine ev_r_aload_n (pc := 607) (k := 2) (v := .ref 621) trivial (by decide +kernel) (by exact (ev_l1 e5 (by decide) (by decide))) ?_
                        refine ev_r_aload_n (pc := 608) (k := 0) (v := .retAddr 0) trivial (by decide +kernel) (by exact (ev_l1 e3 (by decide) (by decide))) ?_
                        refine ev_r_iload (pc := 609) (k := 4) (v := Int32.ofInt x1) (by decide +kernel) (by exact (ev_lk_st1 e7 (by decide) rfl)) ?_
                        refine ev_r_iconst (pc := 611) (k := 1) (by decide +kernel) ?_
                        refine ev_r_iadd (pc := 612) (by decide +kernel) ?_
                        intro x207 hx207
                        refine ev_r_xald (pc := 613) hx207 (by decide +kernel) ?_
                        intro x208 hx208
                        refine ev_r_aload_n (pc := 614) (k := 0) (v := .retAddr 0) trivial (by decide +kernel) (by exact (ev_l1 e3 (by decide) (by decide))) ?_
                        refine ev_r_iload (pc := 615) (k := 4) (v := Int32.ofInt x1) (by decide +kernel) (by exact (ev_lk_st1 e7 (by decide) rfl)) ?_
                        refine ev_r_iconst (pc := 617) (k := 2) (by decide +kernel) ?_
                        refine ev_r_iadd (pc := 618) (by decide +kernel) ?_
                        intro x209 hx209
                        refine ev_r_xald (pc := 619) hx209 (by decide +kernel) ?_
                        intro x210 hx210
                        refine ev_r_virt (pc := 620) (y := 160) (mi := 279) (na := 2) (k := 621) (as := [.int (Int32.ofInt x208), .int (Int32.ofInt x210)]) (rest := []) (encc := ev_oI) (Q := ev_rng) (fun x S1 h => jt_279 12 (by omega) Q x208 x210 hx208 hx210 s205 x S1 h) (by exact ev_ob_621) (by decide +kernel) (by decide +kernel) (by decide +kernel) (by decide +kernel) rfl (by (try simp only [ev_sum, ev_nv_cat]); first | done | rfl) ?_
                        intro x212 s211 hx212
                        show ev_w _ _ _ _ _ [.int (Int32.ofInt x212)] _ _ _ _
                        refine ev_r_istore (pc := 623) (k := 6) (by decide +kernel) (by decide +kernel) rfl ?_
                        refine ev_r_aload_n (pc := 625) (k := 2) (v := .ref 621) trivial (by decide +kernel) (by exact (ev_l1 (ev_l1 e5 (by decide) (by decide)) (by decide) (by decide))) ?_
                        refine ev_r_virt (pc := 626) (y := 131) (mi := 220) (na := 0) (k := 621) (as := []) (rest := []) (encc := ev_oI) (Q := ev_rng) (fun x S1 h => jt_220 12 (by omega) Q   s211 x S1 h) (by exact ev_ob_621) (by decide +kernel) (by decide +kernel) (by decide +kernel) (by decide +kernel) rfl (by (try simp only [ev_sum, ev_nv_cat]); first | done | rfl) ?_
                        intro x214 s213 hx214
                        show ev_w _ _ _ _ _ [.int (Int32.ofInt x214)] _ _ _ _
                        refine ev_r_iload (pc := 629) (k := 5) (v := Int32.ofInt x206) (by decide +kernel) (by exact (ev_lk_st1 ev_lk_st1_self (by decide) rfl)) ?_
                        refine ev_r_icmp (pc := 631) (q := .eq) (o := 5) (t := 636) (c := x214 = x206) (by decide +kernel) (ev_k_eq hx214 hx206) (by decide +kernel) ?_ ?_
                        · intro c215
                          refine ev_r_iload (pc := 636) (k := 5) (v := Int32.ofInt x206) (by decide +kernel) (by exact (ev_lk_st1 ev_lk_st1_self (by decide) rfl)) ?_
                          refine ev_r_jn (Q := fun K => ∀ (s222 : ev_St) (w216 : List (Nat × Value)), ev_lk w216 0 = some (.retAddr 0) → ev_lk w216 1 = some (.ref 0) → ev_lk w216 2 = some (.ref 621) → ev_lk w216 3 = some (.ref 723) → ev_lk w216 4 = some (.int (Int32.ofInt x1)) → ev_w (some (L, xs)) ev_Mlaw 12 653 w216 [] s222 (K  s222) ev_eI ev_bl) ?_ ?_
                          · intro  s222 w216 e217 e218 e219 e220 e221
                            refine ev_r_goto (pc := 653) (o := 1619) (t := 2272) (by decide +kernel) (by decide +kernel) ?_
                            exact hK2272  s222 _ (by exact e217) (by exact e218) (by exact e219) (by exact e220) (by exact e221)
                          · intro K653 hK653
                            refine ev_r_if (pc := 638) (q := .ne) (o := 15) (t := 653) (c := x206 ≠ 0) (by decide +kernel) (ev_k_ne hx206 ev_rng0) (by decide +kernel) ?_ ?_
                            · intro c223
                              exact hK653  s213 _ (by exact (ev_l1 (ev_l1 e3 (by decide) (by decide)) (by decide) (by decide))) (by exact (ev_l1 (ev_l1 e4 (by decide) (by decide)) (by decide) (by decide))) (by exact (ev_l1 (ev_l1 e5 (by decide) (by decide)) (by decide) (by decide))) (by exact (ev_l1 (ev_l1 e6 (by decide) (by decide)) (by decide) (by decide))) (by exact (ev_l1 (ev_lk_st1 e7 (by decide) rfl) (by decide) (by decide)))
                            · intro c223
                              refine ev_r_aload_n (pc := 641) (k := 3) (v := .ref 723) trivial (by decide +kernel) (by exact (ev_l1 (ev_l1 e6 (by decide) (by decide)) (by decide) (by decide))) ?_
                              refine ev_r_iconst (pc := 642) (k := 0) (by decide +kernel) ?_
                              refine ev_r_lald (pc := 643) (by decide) (by decide +kernel) (by exact ev_ab_723) ?_
                              intro y224
                              refine ev_r_iload (pc := 644) (k := 6) (v := Int32.ofInt x212) (by decide +kernel) (by exact ev_lk_st1_self) ?_
                              refine ev_r_toL (pc := 646) (i := .i2l) (len := 1) (pc' := 647) (by decide +kernel) rfl ?_
                              intro y225
                              refine ev_r_toI (pc := 647) (i := .lcmp) (len := 1) (pc' := 648) (by decide +kernel) rfl ?_
                              intro x226 hx226
                              refine ev_r_if (pc := 648) (q := .eq) (o := 5) (t := 653) (c := x226 = 0) (by decide +kernel) (ev_k_eq hx226 ev_rng0) (by decide +kernel) ?_ ?_
                              · intro c227
                                exact hK653  s213 _ (by exact (ev_l1 (ev_l1 e3 (by decide) (by decide)) (by decide) (by decide))) (by exact (ev_l1 (ev_l1 e4 (by decide) (by decide)) (by decide) (by decide))) (by exact (ev_l1 (ev_l1 e5 (by decide) (by decide)) (by decide) (by decide))) (by exact (ev_l1 (ev_l1 e6 (by decide) (by decide)) (by decide) (by decide))) (by exact (ev_l1 (ev_lk_st1 e7 (by decide) rfl) (by decide) (by decide)))
                              · intro c227
                                refine ev_r_iconst (pc := 651) (k := 0) (by decide +kernel) ?_
                                exact ev_r_ireturn (pc := 652) (x := 0) (v := Int32.ofInt 0) (ty := .boolean) (by decide : ev_bl 0) (by decide +kernel) (by decide +kernel) (ev_ret_bl (by decide : ev_bl 0)) rfl
                        · intro c215
                          refine ev_r_iconst (pc := 634) (k := 0) (by decide +kernel) ?_
                          exact ev_r_ireturn (pc := 635) (x := 0) (v := Int32.ofInt 0) (ty := .boolean) (by decide : ev_bl 0) (by decide +kernel) (by decide +kernel) (ev_ret_bl (by decide : ev_bl 0)) rfl
                      · intro c200
                        refine ev_r_ite ?_ ?_
                        · intro c228
                          refine ev_r_sw (pc := 40) (i := (.tableswitch 2232 0 32 #[148, 204, 217, 273, 317, 361, 417, 473, 548, 616, 672, 764, 856, 960, 1040, 1120, 1188, 1268, 1324, 1380, 1448, 1540, 1636, 1692, 1736, 1780, 1824, 1868, 1912, 1980, 2064, 2120, 2176])) (len := 148) (pc' := 656) (by decide +kernel) (by rw [c228]; rw [ev_pure_tsw]; exact ev_tsw_c (o := 616) (by decide) (by decide) rfl (by decide +kernel)) ?_
                          unfold ja_656
                          refine ev_r_aload_n (pc := 656) (k := 1) (v := .ref 0) trivial (by decide +kernel) (by exact e4) ?_
                          refine ev_r_aload_n (pc := 657) (k := 0) (v := .retAddr 0) trivial (by decide +kernel) (by exact e3) ?_
                          refine ev_r_iload (pc := 658) (k := 4) (v := Int32.ofInt x1) (by decide +kernel) (by exact e7) ?_
                          refine ev_r_iconst (pc := 660) (k := 1) (by decide +kernel) ?_
                          refine ev_r_iadd (pc := 661) (by decide +kernel) ?_
                          intro x229 hx229
                          refine ev_r_xald (pc := 662) hx229 (by decide +kernel) ?_
                          intro x230 hx230
                          refine ev_r_aload_n (pc := 663) (k := 3) (v := .ref 723) trivial (by decide +kernel) (by exact e6) ?_
                          refine ev_r_stat (pc := 664) (y := 161) (kind := 8) (mi := 372) (na := 3) (as := [ev_nv ((0 + 1)), .int (Int32.ofInt x230), ev_nv ((723 + 1))]) (rest := []) (encc := ev_oI) (Q := ev_rng) (fun x S1 h => jt_372 12 (by omega) Q ((0 + 1)) x230 ((723 + 1)) (by exact (Or.inr ev_ob_0)) hx230 (by exact (Or.inr ev_ab_723)) s8 x S1 h) (Or.inr (Or.inr rfl)) (by decide +kernel) (by decide +kernel) (by decide +kernel) (by decide +kernel) rfl (by (try simp only [ev_sum, ev_nv_cat]); first | done | rfl) ?_
                          intro x232 s231 hx232
                          show ev_w _ _ _ _ _ [.int (Int32.ofInt x232)] _ _ _ _
                          refine ev_r_istore (pc := 667) (k := 5) (by decide +kernel) (by decide +kernel) rfl ?_
                          refine ev_r_aload_n (pc := 669) (k := 2) (v := .ref 621) trivial (by decide +kernel) (by exact (ev_l1 e5 (by decide) (by decide))) ?_
                          refine ev_r_aload_n (pc := 670) (k := 0) (v := .retAddr 0) trivial (by decide +kernel) (by exact (ev_l1 e3 (by decide) (by decide))) ?_
                          refine ev_r_iload (pc := 671) (k := 4) (v := Int32.ofInt x1) (by decide +kernel) (by exact (ev_lk_st1 e7 (by decide) rfl)) ?_
                          refine ev_r_iconst (pc := 673) (k := 1) (by decide +kernel) ?_
                          refine ev_r_iadd (pc := 674) (by decide +kernel) ?_
                          intro x233 hx233
                          refine ev_r_xald (pc := 675) hx233 (by decide +kernel) ?_
                          intro x234 hx234
                          refine ev_r_virt (pc := 676) (y := 163) (mi := 287) (na := 1) (k := 621) (as := [.int (Int32.ofInt x234)]) (rest := []) (encc := ev_oI) (Q := ev_rng) (fun x S1 h => jt_287 12 (by omega) Q x234 hx234 s231 x S1 h) (by exact ev_ob_621) (by decide +kernel) (by decide +kernel) (by decide +kernel) (by decide +kernel) rfl (by (try simp only [ev_sum, ev_nv_cat]); first | done | rfl) ?_
                          intro x236 s235 hx236
                          show ev_w _ _ _ _ _ [.int (Int32.ofInt x236)] _ _ _ _
                          refine ev_r_istore (pc := 679) (k := 6) (by decide +kernel) (by decide +kernel) rfl ?_
                          refine ev_r_aload_n (pc := 681) (k := 2) (v := .ref 621) trivial (by decide +kernel) (by exact (ev_l1 (ev_l1 e5 (by decide) (by decide)) (by decide) (by decide))) ?_
                          refine ev_r_virt (pc := 682) (y := 131) (mi := 220) (na := 0) (k := 621) (as := []) (rest := []) (encc := ev_oI) (Q := ev_rng) (fun x S1 h => jt_220 12 (by omega) Q   s235 x S1 h) (by exact ev_ob_621) (by decide +kernel) (by decide +kernel) (by decide +kernel) (by decide +kernel) rfl (by (try simp only [ev_sum, ev_nv_cat]); first | done | rfl) ?_
                          intro x238 s237 hx238
                          show ev_w _ _ _ _ _ [.int (Int32.ofInt x238)] _ _ _ _
                          refine ev_r_iload (pc := 685) (k := 5) (v := Int32.ofInt x232) (by decide +kernel) (by exact (ev_lk_st1 ev_lk_st1_self (by decide) rfl)) ?_
                          refine ev_r_icmp (pc := 687) (q := .eq) (o := 5) (t := 692) (c := x238 = x232) (by decide +kernel) (ev_k_eq hx238 hx232) (by decide +kernel) ?_ ?_
                          · intro c239
                            refine ev_r_iload (pc := 692) (k := 5) (v := Int32.ofInt x232) (by decide +kernel) (by exact (ev_lk_st1 ev_lk_st1_self (by decide) rfl)) ?_
                            refine ev_r_jn (Q := fun K => ∀ (s246 : ev_St) (w240 : List (Nat × Value)), ev_lk w240 0 = some (.retAddr 0) → ev_lk w240 1 = some (.ref 0) → ev_lk w240 2 = some (.ref 621) → ev_lk w240 3 = some (.ref 723) → ev_lk w240 4 = some (.int (Int32.ofInt x1)) → ev_w (some (L, xs)) ev_Mlaw 12 709 w240 [] s246 (K  s246) ev_eI ev_bl) ?_ ?_
                            · intro  s246 w240 e241 e242 e243 e244 e245
                              refine ev_r_goto (pc := 709) (o := 1563) (t := 2272) (by decide +kernel) (by decide +kernel) ?_
                              exact hK2272  s246 _ (by exact e241) (by exact e242) (by exact e243) (by exact e244) (by exact e245)
                            · intro K709 hK709
                              refine ev_r_if (pc := 694) (q := .ne) (o := 15) (t := 709) (c := x232 ≠ 0) (by decide +kernel) (ev_k_ne hx232 ev_rng0) (by decide +kernel) ?_ ?_
                              · intro c247
                                exact hK709  s237 _ (by exact (ev_l1 (ev_l1 e3 (by decide) (by decide)) (by decide) (by decide))) (by exact (ev_l1 (ev_l1 e4 (by decide) (by decide)) (by decide) (by decide))) (by exact (ev_l1 (ev_l1 e5 (by decide) (by decide)) (by decide) (by decide))) (by exact (ev_l1 (ev_l1 e6 (by decide) (by decide)) (by decide) (by decide))) (by exact (ev_l1 (ev_lk_st1 e7 (by decide) rfl) (by decide) (by decide)))
                              · intro c247
                                refine ev_r_aload_n (pc := 697) (k := 3) (v := .ref 723) trivial (by decide +kernel) (by exact (ev_l1 (ev_l1 e6 (by decide) (by decide)) (by decide) (by decide))) ?_
                                refine ev_r_iconst (pc := 698) (k := 0) (by decide +kernel) ?_
                                refine ev_r_lald (pc := 699) (by decide) (by decide +kernel) (by exact ev_ab_723) ?_
                                intro y248
                                refine ev_r_iload (pc := 700) (k := 6) (v := Int32.ofInt x236) (by decide +kernel) (by exact ev_lk_st1_self) ?_
                                refine ev_r_toL (pc := 702) (i := .i2l) (len := 1) (pc' := 703) (by decide +kernel) rfl ?_
                                intro y249
                                refine ev_r_toI (pc := 703) (i := .lcmp) (len := 1) (pc' := 704) (by decide +kernel) rfl ?_
                                intro x250 hx250
                                refine ev_r_if (pc := 704) (q := .eq) (o := 5) (t := 709) (c := x250 = 0) (by decide +kernel) (ev_k_eq hx250 ev_rng0) (by decide +kernel) ?_ ?_
                                · intro c251
                                  exact hK709  s237 _ (by exact (ev_l1 (ev_l1 e3 (by decide) (by decide)) (by decide) (by decide))) (by exact (ev_l1 (ev_l1 e4 (by decide) (by decide)) (by decide) (by decide))) (by exact (ev_l1 (ev_l1 e5 (by decide) (by decide)) (by decide) (by decide))) (by exact (ev_l1 (ev_l1 e6 (by decide) (by decide)) (by decide) (by decide))) (by exact (ev_l1 (ev_lk_st1 e7 (by decide) rfl) (by decide) (by decide)))
                                · intro c251
                                  refine ev_r_iconst (pc := 707) (k := 0) (by decide +kernel) ?_
                                  exact ev_r_ireturn (pc := 708) (x := 0) (v := Int32.ofInt 0) (ty := .boolean) (by decide : ev_bl 0) (by decide +kernel) (by decide +kernel) (ev_ret_bl (by decide : ev_bl 0)) rfl
                          · intro c239
                            refine ev_r_iconst (pc := 690) (k := 0) (by decide +kernel) ?_
                            exact ev_r_ireturn (pc := 691) (x := 0) (v := Int32.ofInt 0) (ty := .boolean) (by decide : ev_bl 0) (by decide +kernel) (by decide +kernel) (ev_ret_bl (by decide : ev_bl 0)) rfl
                        · intro c228
                          refine ev_r_ite ?_ ?_
                          · intro c252
                            refine ev_r_sw (pc := 40) (i := (.tableswitch 2232 0 32 #[148, 204, 217, 273, 317, 361, 417, 473, 548, 616, 672, 764, 856, 960, 1040, 1120, 1188, 1268, 1324, 1380, 1448, 1540, 1636, 1692, 1736, 1780, 1824, 1868, 1912, 1980, 2064, 2120, 2176])) (len := 148) (pc' := 712) (by decide +kernel) (by rw [c252]; rw [ev_pure_tsw]; exact ev_tsw_c (o := 672) (by decide) (by decide) rfl (by decide +kernel)) ?_
                            unfold ja_712
                            refine ev_r_aload_n (pc := 712) (k := 1) (v := .ref 0) trivial (by decide +kernel) (by exact e4) ?_
                            refine ev_r_aload_n (pc := 713) (k := 0) (v := .retAddr 0) trivial (by decide +kernel) (by exact e3) ?_
                            refine ev_r_iload (pc := 714) (k := 4) (v := Int32.ofInt x1) (by decide +kernel) (by exact e7) ?_
                            refine ev_r_iconst (pc := 716) (k := 1) (by decide +kernel) ?_
                            refine ev_r_iadd (pc := 717) (by decide +kernel) ?_
                            intro x253 hx253
                            refine ev_r_xald (pc := 718) hx253 (by decide +kernel) ?_
                            intro x254 hx254
                            refine ev_r_aload_n (pc := 719) (k := 0) (v := .retAddr 0) trivial (by decide +kernel) (by exact e3) ?_
                            refine ev_r_iload (pc := 720) (k := 4) (v := Int32.ofInt x1) (by decide +kernel) (by exact e7) ?_
                            refine ev_r_iconst (pc := 722) (k := 2) (by decide +kernel) ?_
                            refine ev_r_iadd (pc := 723) (by decide +kernel) ?_
                            intro x255 hx255
                            refine ev_r_xald (pc := 724) hx255 (by decide +kernel) ?_
                            intro x256 hx256
                            refine ev_r_aload_n (pc := 725) (k := 0) (v := .retAddr 0) trivial (by decide +kernel) (by exact e3) ?_
                            refine ev_r_iload (pc := 726) (k := 4) (v := Int32.ofInt x1) (by decide +kernel) (by exact e7) ?_
                            refine ev_r_iconst (pc := 728) (k := 3) (by decide +kernel) ?_
                            refine ev_r_iadd (pc := 729) (by decide +kernel) ?_
                            intro x257 hx257
                            refine ev_r_xald (pc := 730) hx257 (by decide +kernel) ?_
                            intro x258 hx258
                            refine ev_r_aload_n (pc := 731) (k := 0) (v := .retAddr 0) trivial (by decide +kernel) (by exact e3) ?_
                            refine ev_r_iload (pc := 732) (k := 4) (v := Int32.ofInt x1) (by decide +kernel) (by exact e7) ?_
                            refine ev_r_iconst (pc := 734) (k := 4) (by decide +kernel) ?_
                            refine ev_r_iadd (pc := 735) (by decide +kernel) ?_
                            intro x259 hx259
                            refine ev_r_xald (pc := 736) hx259 (by decide +kernel) ?_
                            intro x260 hx260
                            refine ev_r_aload_n (pc := 737) (k := 3) (v := .ref 723) trivial (by decide +kernel) (by exact e6) ?_
                            refine ev_r_stat (pc := 738) (y := 164) (kind := 8) (mi := 373) (na := 6) (as := [ev_nv ((0 + 1)), .int (Int32.ofInt x254), .int (Int32.ofInt x256), .int (Int32.ofInt x258), .int (Int32.ofInt x260), ev_nv ((723 + 1))]) (rest := []) (encc := ev_oI) (Q := ev_rng) (fun x S1 h => jt_373 12 (by omega) Q ((0 + 1)) x254 x256 x258 x260 ((723 + 1)) (by exact (Or.inr ev_ob_0)) hx254 hx256 hx258 hx260 (by exact (Or.inr ev_ab_723)) s8 x S1 h) (Or.inr (Or.inr rfl)) (by decide +kernel) (by decide +kernel) (by decide +kernel) (by decide +kernel) rfl (by (try simp only [ev_sum, ev_nv_cat]); first | done | rfl) ?_
                            intro x262 s261 hx262
                            show ev_w _ _ _ _ _ [.int (Int32.ofInt x262)] _ _ _ _
                            refine ev_r_istore (pc := 741) (k := 5) (by decide +kernel) (by decide +kernel) rfl ?_
                            refine ev_r_aload_n (pc := 743) (k := 2) (v := .ref 621) trivial (by decide +kernel) (by exact (ev_l1 e5 (by decide) (by decide))) ?_
                            refine ev_r_aload_n (pc := 744) (k := 0) (v := .retAddr 0) trivial (by decide +kernel) (by exact (ev_l1 e3 (by decide) (by decide))) ?_
                            refine ev_r_iload (pc := 745) (k := 4) (v := Int32.ofInt x1) (by decide +kernel) (by exact (ev_lk_st1 e7 (by decide) rfl)) ?_
                            refine ev_r_iconst (pc := 747) (k := 1) (by decide +kernel) ?_
                            refine ev_r_iadd (pc := 748) (by decide +kernel) ?_
                            intro x263 hx263
                            refine ev_r_xald (pc := 749) hx263 (by decide +kernel) ?_
                            intro x264 hx264
                            refine ev_r_aload_n (pc := 750) (k := 0) (v := .retAddr 0) trivial (by decide +kernel) (by exact (ev_l1 e3 (by decide) (by decide))) ?_
                            refine ev_r_iload (pc := 751) (k := 4) (v := Int32.ofInt x1) (by decide +kernel) (by exact (ev_lk_st1 e7 (by decide) rfl)) ?_
                            refine ev_r_iconst (pc := 753) (k := 2) (by decide +kernel) ?_
                            refine ev_r_iadd (pc := 754) (by decide +kernel) ?_
                            intro x265 hx265
                            refine ev_r_xald (pc := 755) hx265 (by decide +kernel) ?_
                            intro x266 hx266
                            refine ev_r_aload_n (pc := 756) (k := 0) (v := .retAddr 0) trivial (by decide +kernel) (by exact (ev_l1 e3 (by decide) (by decide))) ?_
                            refine ev_r_iload (pc := 757) (k := 4) (v := Int32.ofInt x1) (by decide +kernel) (by exact (ev_lk_st1 e7 (by decide) rfl)) ?_
                            refine ev_r_iconst (pc := 759) (k := 3) (by decide +kernel) ?_
                            refine ev_r_iadd (pc := 760) (by decide +kernel) ?_
                            intro x267 hx267
                            refine ev_r_xald (pc := 761) hx267 (by decide +kernel) ?_
                            intro x268 hx268
                            refine ev_r_aload_n (pc := 762) (k := 0) (v := .retAddr 0) trivial (by decide +kernel) (by exact (ev_l1 e3 (by decide) (by decide))) ?_
                            refine ev_r_iload (pc := 763) (k := 4) (v := Int32.ofInt x1) (by decide +kernel) (by exact (ev_lk_st1 e7 (by decide) rfl)) ?_
                            refine ev_r_iconst (pc := 765) (k := 4) (by decide +kernel) ?_
                            refine ev_r_iadd (pc := 766) (by decide +kernel) ?_
                            intro x269 hx269
                            refine ev_r_xald (pc := 767) hx269 (by decide +kernel) ?_
                            intro x270 hx270
                            refine ev_r_virt (pc := 768) (y := 167) (mi := 328) (na := 4) (k := 621) (as := [.int (Int32.ofInt x264), .int (Int32.ofInt x266), .int (Int32.ofInt x268), .int (Int32.ofInt x270)]) (rest := []) (encc := ev_oI) (Q := ev_rng) (fun x S1 h => jt_328 12 (by omega) Q x264 x266 x268 x270 hx264 hx266 hx268 hx270 s261 x S1 h) (by exact ev_ob_621) (by decide +kernel) (by decide +kernel) (by decide +kernel) (by decide +kernel) rfl (by (try simp only [ev_sum, ev_nv_cat]); first | done | rfl) ?_
                            intro x272 s271 hx272
                            show ev_w _ _ _ _ _ [.int (Int32.ofInt x272)] _ _ _ _
                            refine ev_r_istore (pc := 771) (k := 6) (by decide +kernel) (by decide +kernel) rfl ?_
                            refine ev_r_aload_n (pc := 773) (k := 2) (v := .ref 621) trivial (by decide +kernel) (by exact (ev_l1 (ev_l1 e5 (by decide) (by decide)) (by decide) (by decide))) ?_
                            refine ev_r_virt (pc := 774) (y := 131) (mi := 220) (na := 0) (k := 621) (as := []) (rest := []) (encc := ev_oI) (Q := ev_rng) (fun x S1 h => jt_220 12 (by omega) Q   s271 x S1 h) (by exact ev_ob_621) (by decide +kernel) (by decide +kernel) (by decide +kernel) (by decide +kernel) rfl (by (try simp only [ev_sum, ev_nv_cat]); first | done | rfl) ?_
                            intro x274 s273 hx274
                            show ev_w _ _ _ _ _ [.int (Int32.ofInt x274)] _ _ _ _
                            refine ev_r_iload (pc := 777) (k := 5) (v := Int32.ofInt x262) (by decide +kernel) (by exact (ev_lk_st1 ev_lk_st1_self (by decide) rfl)) ?_
                            refine ev_r_icmp (pc := 779) (q := .eq) (o := 5) (t := 784) (c := x274 = x262) (by decide +kernel) (ev_k_eq hx274 hx262) (by decide +kernel) ?_ ?_
                            · intro c275
                              refine ev_r_iload (pc := 784) (k := 5) (v := Int32.ofInt x262) (by decide +kernel) (by exact (ev_lk_st1 ev_lk_st1_self (by decide) rfl)) ?_
                              refine ev_r_jn (Q := fun K => ∀ (s282 : ev_St) (w276 : List (Nat × Value)), ev_lk w276 0 = some (.retAddr 0) → ev_lk w276 1 = some (.ref 0) → ev_lk w276 2 = some (.ref 621) → ev_lk w276 3 = some (.ref 723) → ev_lk w276 4 = some (.int (Int32.ofInt x1)) → ev_w (some (L, xs)) ev_Mlaw 12 801 w276 [] s282 (K  s282) ev_eI ev_bl) ?_ ?_
                              · intro  s282 w276 e277 e278 e279 e280 e281
                                refine ev_r_goto (pc := 801) (o := 1471) (t := 2272) (by decide +kernel) (by decide +kernel) ?_
                                exact hK2272  s282 _ (by exact e277) (by exact e278) (by exact e279) (by exact e280) (by exact e281)
                              · intro K801 hK801
                                refine ev_r_if (pc := 786) (q := .ne) (o := 15) (t := 801) (c := x262 ≠ 0) (by decide +kernel) (ev_k_ne hx262 ev_rng0) (by decide +kernel) ?_ ?_
                                · intro c283
                                  exact hK801  s273 _ (by exact (ev_l1 (ev_l1 e3 (by decide) (by decide)) (by decide) (by decide))) (by exact (ev_l1 (ev_l1 e4 (by decide) (by decide)) (by decide) (by decide))) (by exact (ev_l1 (ev_l1 e5 (by decide) (by decide)) (by decide) (by decide))) (by exact (ev_l1 (ev_l1 e6 (by decide) (by decide)) (by decide) (by decide))) (by exact (ev_l1 (ev_lk_st1 e7 (by decide) rfl) (by decide) (by decide)))
                                · intro c283
                                  refine ev_r_aload_n (pc := 789) (k := 3) (v := .ref 723) trivial (by decide +kernel) (by exact (ev_l1 (ev_l1 e6 (by decide) (by decide)) (by decide) (by decide))) ?_
                                  refine ev_r_iconst (pc := 790) (k := 0) (by decide +kernel) ?_
                                  refine ev_r_lald (pc := 791) (by decide) (by decide +kernel) (by exact ev_ab_723) ?_
                                  intro y284
                                  refine ev_r_iload (pc := 792) (k := 6) (v := Int32.ofInt x272) (by decide +kernel) (by exact ev_lk_st1_self) ?_
                                  refine ev_r_toL (pc := 794) (i := .i2l) (len := 1) (pc' := 795) (by decide +kernel) rfl ?_
                                  intro y285
                                  refine ev_r_toI (pc := 795) (i := .lcmp) (len := 1) (pc' := 796) (by decide +kernel) rfl ?_
                                  intro x286 hx286
                                  refine ev_r_if (pc := 796) (q := .eq) (o := 5) (t := 801) (c := x286 = 0) (by decide +kernel) (ev_k_eq hx286 ev_rng0) (by decide +kernel) ?_ ?_
                                  · intro c287
                                    exact hK801  s273 _ (by exact (ev_l1 (ev_l1 e3 (by decide) (by decide)) (by decide) (by decide))) (by exact (ev_l1 (ev_l1 e4 (by decide) (by decide)) (by decide) (by decide))) (by exact (ev_l1 (ev_l1 e5 (by decide) (by decide)) (by decide) (by decide))) (by exact (ev_l1 (ev_l1 e6 (by decide) (by decide)) (by decide) (by decide))) (by exact (ev_l1 (ev_lk_st1 e7 (by decide) rfl) (by decide) (by decide)))
                                  · intro c287
                                    refine ev_r_iconst (pc := 799) (k := 0) (by decide +kernel) ?_
                                    exact ev_r_ireturn (pc := 800) (x := 0) (v := Int32.ofInt 0) (ty := .boolean) (by decide : ev_bl 0) (by decide +kernel) (by decide +kernel) (ev_ret_bl (by decide : ev_bl 0)) rfl
                            · intro c275
                              refine ev_r_iconst (pc := 782) (k := 0) (by decide +kernel) ?_
                              exact ev_r_ireturn (pc := 783) (x := 0) (v := Int32.ofInt 0) (ty := .boolean) (by decide : ev_bl 0) (by decide +kernel) (by decide +kernel) (ev_ret_bl (by decide : ev_bl 0)) rfl
                          · intro c252
                            refine ev_r_ite ?_ ?_
                            · intro c288
                              refine ev_r_sw (pc := 40) (i := (.tableswitch 2232 0 32 #[148, 204, 217, 273, 317, 361, 417, 473, 548, 616, 672, 764, 856, 960, 1040, 1120, 1188, 1268, 1324, 1380, 1448, 1540, 1636, 1692, 1736, 1780, 1824, 1868, 1912, 1980, 2064, 2120, 2176])) (len := 148) (pc' := 804) (by decide +kernel) (by rw [c288]; rw [ev_pure_tsw]; exact ev_tsw_c (o := 764) (by decide) (by decide) rfl (by decide +kernel)) ?_
                              unfold ja_804
                              refine ev_r_aload_n (pc := 804) (k := 1) (v := .ref 0) trivial (by decide +kernel) (by exact e4) ?_
                              refine ev_r_aload_n (pc := 805) (k := 0) (v := .retAddr 0) trivial (by decide +kernel) (by exact e3) ?_
                              refine ev_r_iload (pc := 806) (k := 4) (v := Int32.ofInt x1) (by decide +kernel) (by exact e7) ?_
                              refine ev_r_iconst (pc := 808) (k := 1) (by decide +kernel) ?_
                              refine ev_r_iadd (pc := 809) (by decide +kernel) ?_
                              intro x289 hx289
                              refine ev_r_xald (pc := 810) hx289 (by decide +kernel) ?_
                              intro x290 hx290
                              refine ev_r_aload_n (pc := 811) (k := 0) (v := .retAddr 0) trivial (by decide +kernel) (by exact e3) ?_
                              refine ev_r_iload (pc := 812) (k := 4) (v := Int32.ofInt x1) (by decide +kernel) (by exact e7) ?_
                              refine ev_r_iconst (pc := 814) (k := 2) (by decide +kernel) ?_
                              refine ev_r_iadd (pc := 815) (by decide +kernel) ?_
                              intro x291 hx291
                              refine ev_r_xald (pc := 816) hx291 (by decide +kernel) ?_
                              intro x292 hx292
                              refine ev_r_aload_n (pc := 817) (k := 0) (v := .retAddr 0) trivial (by decide +kernel) (by exact e3) ?_
                              refine ev_r_iload (pc := 818) (k := 4) (v := Int32.ofInt x1) (by decide +kernel) (by exact e7) ?_
                              refine ev_r_iconst (pc := 820) (k := 3) (by decide +kernel) ?_
                              refine ev_r_iadd (pc := 821) (by decide +kernel) ?_
                              intro x293 hx293
                              refine ev_r_xald (pc := 822) hx293 (by decide +kernel) ?_
                              intro x294 hx294
                              refine ev_r_aload_n (pc := 823) (k := 0) (v := .retAddr 0) trivial (by decide +kernel) (by exact e3) ?_
                              refine ev_r_iload (pc := 824) (k := 4) (v := Int32.ofInt x1) (by decide +kernel) (by exact e7) ?_
                              refine ev_r_iconst (pc := 826) (k := 4) (by decide +kernel) ?_
                              refine ev_r_iadd (pc := 827) (by decide +kernel) ?_
                              intro x295 hx295
                              refine ev_r_xald (pc := 828) hx295 (by decide +kernel) ?_
                              intro x296 hx296
                              refine ev_r_aload_n (pc := 829) (k := 3) (v := .ref 723) trivial (by decide +kernel) (by exact e6) ?_
                              refine ev_r_stat (pc := 830) (y := 168) (kind := 8) (mi := 374) (na := 6) (as := [ev_nv ((0 + 1)), .int (Int32.ofInt x290), .int (Int32.ofInt x292), .int (Int32.ofInt x294), .int (Int32.ofInt x296), ev_nv ((723 + 1))]) (rest := []) (encc := ev_oI) (Q := ev_rng) (fun x S1 h => jt_374 12 (by omega) Q ((0 + 1)) x290 x292 x294 x296 ((723 + 1)) (by exact (Or.inr ev_ob_0)) hx290 hx292 hx294 hx296 (by exact (Or.inr ev_ab_723)) s8 x S1 h) (Or.inr (Or.inr rfl)) (by decide +kernel) (by decide +kernel) (by decide +kernel) (by decide +kernel) rfl (by (try simp only [ev_sum, ev_nv_cat]); first | done | rfl) ?_
                              intro x298 s297 hx298
                              show ev_w _ _ _ _ _ [.int (Int32.ofInt x298)] _ _ _ _
                              refine ev_r_istore (pc := 833) (k := 5) (by decide +kernel) (by decide +kernel) rfl ?_
                              refine ev_r_aload_n (pc := 835) (k := 2) (v := .ref 621) trivial (by decide +kernel) (by exact (ev_l1 e5 (by decide) (by decide))) ?_
                              refine ev_r_aload_n (pc := 836) (k := 0) (v := .retAddr 0) trivial (by decide +kernel) (by exact (ev_l1 e3 (by decide) (by decide))) ?_
                              refine ev_r_iload (pc := 837) (k := 4) (v := Int32.ofInt x1) (by decide +kernel) (by exact (ev_lk_st1 e7 (by decide) rfl)) ?_
                              refine ev_r_iconst (pc := 839) (k := 1) (by decide +kernel) ?_
                              refine ev_r_iadd (pc := 840) (by decide +kernel) ?_
                              intro x299 hx299
                              refine ev_r_xald (pc := 841) hx299 (by decide +kernel) ?_
                              intro x300 hx300
                              refine ev_r_aload_n (pc := 842) (k := 0) (v := .retAddr 0) trivial (by decide +kernel) (by exact (ev_l1 e3 (by decide) (by decide))) ?_
                              refine ev_r_iload (pc := 843) (k := 4) (v := Int32.ofInt x1) (by decide +kernel) (by exact (ev_lk_st1 e7 (by decide) rfl)) ?_
                              refine ev_r_iconst (pc := 845) (k := 2) (by decide +kernel) ?_
                              refine ev_r_iadd (pc := 846) (by decide +kernel) ?_
                              intro x301 hx301
                              refine ev_r_xald (pc := 847) hx301 (by decide +kernel) ?_
                              intro x302 hx302
                              refine ev_r_aload_n (pc := 848) (k := 0) (v := .retAddr 0) trivial (by decide +kernel) (by exact (ev_l1 e3 (by decide) (by decide))) ?_
                              refine ev_r_iload (pc := 849) (k := 4) (v := Int32.ofInt x1) (by decide +kernel) (by exact (ev_lk_st1 e7 (by decide) rfl)) ?_
                              refine ev_r_iconst (pc := 851) (k := 3) (by decide +kernel) ?_
                              refine ev_r_iadd (pc := 852) (by decide +kernel) ?_
                              intro x303 hx303
                              refine ev_r_xald (pc := 853) hx303 (by decide +kernel) ?_
                              intro x304 hx304
                              refine ev_r_aload_n (pc := 854) (k := 0) (v := .retAddr 0) trivial (by decide +kernel) (by exact (ev_l1 e3 (by decide) (by decide))) ?_
                              refine ev_r_iload (pc := 855) (k := 4) (v := Int32.ofInt x1) (by decide +kernel) (by exact (ev_lk_st1 e7 (by decide) rfl)) ?_
                              refine ev_r_iconst (pc := 857) (k := 4) (by decide +kernel) ?_
                              refine ev_r_iadd (pc := 858) (by decide +kernel) ?_
                              intro x305 hx305
                              refine ev_r_xald (pc := 859) hx305 (by decide +kernel) ?_
                              intro x306 hx306
                              refine ev_r_virt (pc := 860) (y := 170) (mi := 329) (na := 4) (k := 621) (as := [.int (Int32.ofInt x300), .int (Int32.ofInt x302), .int (Int32.ofInt x304), .int (Int32.ofInt x306)]) (rest := []) (encc := ev_oI) (Q := ev_rng) (fun x S1 h => jt_329 12 (by omega) Q x300 x302 x304 x306 hx300 hx302 hx304 hx306 s297 x S1 h) (by exact ev_ob_621) (by decide +kernel) (by decide +kernel) (by decide +kernel) (by decide +kernel) rfl (by (try simp only [ev_sum, ev_nv_cat]); first | done | rfl) ?_
                              intro x308 s307 hx308
                              show ev_w _ _ _ _ _ [.int (Int32.ofInt x308)] _ _ _ _
                              refine ev_r_istore (pc := 863) (k := 6) (by decide +kernel) (by decide +kernel) rfl ?_
                              refine ev_r_aload_n (pc := 865) (k := 2) (v := .ref 621) trivial (by decide +kernel) (by exact (ev_l1 (ev_l1 e5 (by decide) (by decide)) (by decide) (by decide))) ?_
                              refine ev_r_virt (pc := 866) (y := 131) (mi := 220) (na := 0) (k := 621) (as := []) (rest := []) (encc := ev_oI) (Q := ev_rng) (fun x S1 h => jt_220 12 (by omega) Q   s307 x S1 h) (by exact ev_ob_621) (by decide +kernel) (by decide +kernel) (by decide +kernel) (by decide +kernel) rfl (by (try simp only [ev_sum, ev_nv_cat]); first | done | rfl) ?_
                              intro x310 s309 hx310
                              show ev_w _ _ _ _ _ [.int (Int32.ofInt x310)] _ _ _ _
                              refine ev_r_iload (pc := 869) (k := 5) (v := Int32.ofInt x298) (by decide +kernel) (by exact (ev_lk_st1 ev_lk_st1_self (by decide) rfl)) ?_
                              refine ev_r_icmp (pc := 871) (q := .eq) (o := 5) (t := 876) (c := x310 = x298) (by decide +kernel) (ev_k_eq hx310 hx298) (by decide +kernel) ?_ ?_
                              · intro c311
                                refine ev_r_iload (pc := 876) (k := 5) (v := Int32.ofInt x298) (by decide +kernel) (by exact (ev_lk_st1 ev_lk_st1_self (by decide) rfl)) ?_
                                refine ev_r_jn (Q := fun K => ∀ (s318 : ev_St) (w312 : List (Nat × Value)), ev_lk w312 0 = some (.retAddr 0) → ev_lk w312 1 = some (.ref 0) → ev_lk w312 2 = some (.ref 621) → ev_lk w312 3 = some (.ref 723) → ev_lk w312 4 = some (.int (Int32.ofInt x1)) → ev_w (some (L, xs)) ev_Mlaw 12 893 w312 [] s318 (K  s318) ev_eI ev_bl) ?_ ?_
                                · intro  s318 w312 e313 e314 e315 e316 e317
                                  refine ev_r_goto (pc := 893) (o := 1379) (t := 2272) (by decide +kernel) (by decide +kernel) ?_
                                  exact hK2272  s318 _ (by exact e313) (by exact e314) (by exact e315) (by exact e316) (by exact e317)
                                · intro K893 hK893
                                  refine ev_r_if (pc := 878) (q := .ne) (o := 15) (t := 893) (c := x298 ≠ 0) (by decide +kernel) (ev_k_ne hx298 ev_rng0) (by decide +kernel) ?_ ?_
                                  · intro c319
                                    exact hK893  s309 _ (by exact (ev_l1 (ev_l1 e3 (by decide) (by decide)) (by decide) (by decide))) (by exact (ev_l1 (ev_l1 e4 (by decide) (by decide)) (by decide) (by decide))) (by exact (ev_l1 (ev_l1 e5 (by decide) (by decide)) (by decide) (by decide))) (by exact (ev_l1 (ev_l1 e6 (by decide) (by decide)) (by decide) (by decide))) (by exact (ev_l1 (ev_lk_st1 e7 (by decide) rfl) (by decide) (by decide)))
                                  · intro c319
                                    refine ev_r_aload_n (pc := 881) (k := 3) (v := .ref 723) trivial (by decide +kernel) (by exact (ev_l1 (ev_l1 e6 (by decide) (by decide)) (by decide) (by decide))) ?_
                                    refine ev_r_iconst (pc := 882) (k := 0) (by decide +kernel) ?_
                                    refine ev_r_lald (pc := 883) (by decide) (by decide +kernel) (by exact ev_ab_723) ?_
                                    intro y320
                                    refine ev_r_iload (pc := 884) (k := 6) (v := Int32.ofInt x308) (by decide +kernel) (by exact ev_lk_st1_self) ?_
                                    refine ev_r_toL (pc := 886) (i := .i2l) (len := 1) (pc' := 887) (by decide +kernel) rfl ?_
                                    intro y321
                                    refine ev_r_toI (pc := 887) (i := .lcmp) (len := 1) (pc' := 888) (by decide +kernel) rfl ?_
                                    intro x322 hx322
                                    refine ev_r_if (pc := 888) (q := .eq) (o := 5) (t := 893) (c := x322 = 0) (by decide +kernel) (ev_k_eq hx322 ev_rng0) (by decide +kernel) ?_ ?_
                                    · intro c323
                                      exact hK893  s309 _ (by exact (ev_l1 (ev_l1 e3 (by decide) (by decide)) (by decide) (by decide))) (by exact (ev_l1 (ev_l1 e4 (by decide) (by decide)) (by decide) (by decide))) (by exact (ev_l1 (ev_l1 e5 (by decide) (by decide)) (by decide) (by decide))) (by exact (ev_l1 (ev_l1 e6 (by decide) (by decide)) (by decide) (by decide))) (by exact (ev_l1 (ev_lk_st1 e7 (by decide) rfl) (by decide) (by decide)))
                                    · intro c323
                                      refine ev_r_iconst (pc := 891) (k := 0) (by decide +kernel) ?_
                                      exact ev_r_ireturn (pc := 892) (x := 0) (v := Int32.ofInt 0) (ty := .boolean) (by decide : ev_bl 0) (by decide +kernel) (by decide +kernel) (ev_ret_bl (by decide : ev_bl 0)) rfl
                              · intro c311
                                refine ev_r_iconst (pc := 874) (k := 0) (by decide +kernel) ?_
                                exact ev_r_ireturn (pc := 875) (x := 0) (v := Int32.ofInt 0) (ty := .boolean) (by decide : ev_bl 0) (by decide +kernel) (by decide +kernel) (ev_ret_bl (by decide : ev_bl 0)) rfl
                            · intro c288
                              refine ev_r_ite ?_ ?_
                              · intro c324
                                refine ev_r_sw (pc := 40) (i := (.tableswitch 2232 0 32 #[148, 204, 217, 273, 317, 361, 417, 473, 548, 616, 672, 764, 856, 960, 1040, 1120, 1188, 1268, 1324, 1380, 1448, 1540, 1636, 1692, 1736, 1780, 1824, 1868, 1912, 1980, 2064, 2120, 2176])) (len := 148) (pc' := 896) (by decide +kernel) (by rw [c324]; rw [ev_pure_tsw]; exact ev_tsw_c (o := 856) (by decide) (by decide) rfl (by decide +kernel)) ?_
                                unfold ja_896
                                refine ev_r_aload_n (pc := 896) (k := 1) (v := .ref 0) trivial (by decide +kernel) (by exact e4) ?_
                                refine ev_r_aload_n (pc := 897) (k := 0) (v := .retAddr 0) trivial (by decide +kernel) (by exact e3) ?_
                                refine ev_r_iload (pc := 898) (k := 4) (v := Int32.ofInt x1) (by decide +kernel) (by exact e7) ?_
                                refine ev_r_iconst (pc := 900) (k := 1) (by decide +kernel) ?_
                                refine ev_r_iadd (pc := 901) (by decide +kernel) ?_
                                intro x325 hx325
                                refine ev_r_xald (pc := 902) hx325 (by decide +kernel) ?_
                                intro x326 hx326
                                refine ev_r_aload_n (pc := 903) (k := 0) (v := .retAddr 0) trivial (by decide +kernel) (by exact e3) ?_
                                refine ev_r_iload (pc := 904) (k := 4) (v := Int32.ofInt x1) (by decide +kernel) (by exact e7) ?_
                                refine ev_r_iconst (pc := 906) (k := 2) (by decide +kernel) ?_
                                refine ev_r_iadd (pc := 907) (by decide +kernel) ?_
                                intro x327 hx327
                                refine ev_r_xald (pc := 908) hx327 (by decide +kernel) ?_
                                intro x328 hx328
                                refine ev_r_aload_n (pc := 909) (k := 0) (v := .retAddr 0) trivial (by decide +kernel) (by exact e3) ?_
                                refine ev_r_iload (pc := 910) (k := 4) (v := Int32.ofInt x1) (by decide +kernel) (by exact e7) ?_
                                refine ev_r_iconst (pc := 912) (k := 3) (by decide +kernel) ?_
                                refine ev_r_iadd (pc := 913) (by decide +kernel) ?_
                                intro x329 hx329
                                refine ev_r_xald (pc := 914) hx329 (by decide +kernel) ?_
                                intro x330 hx330
                                refine ev_r_aload_n (pc := 915) (k := 0) (v := .retAddr 0) trivial (by decide +kernel) (by exact e3) ?_
                                refine ev_r_iload (pc := 916) (k := 4) (v := Int32.ofInt x1) (by decide +kernel) (by exact e7) ?_
                                refine ev_r_iconst (pc := 918) (k := 4) (by decide +kernel) ?_
                                refine ev_r_iadd (pc := 919) (by decide +kernel) ?_
                                intro x331 hx331
                                refine ev_r_xald (pc := 920) hx331 (by decide +kernel) ?_
                                intro x332 hx332
                                refine ev_r_aload_n (pc := 921) (k := 0) (v := .retAddr 0) trivial (by decide +kernel) (by exact e3) ?_
                                refine ev_r_iload (pc := 922) (k := 4) (v := Int32.ofInt x1) (by decide +kernel) (by exact e7) ?_
                                refine ev_r_iconst (pc := 924) (k := 5) (by decide +kernel) ?_
                                refine ev_r_iadd (pc := 925) (by decide +kernel) ?_
                                intro x333 hx333
                                refine ev_r_xald (pc := 926) hx333 (by decide +kernel) ?_
                                intro x334 hx334
                                refine ev_r_aload_n (pc := 927) (k := 3) (v := .ref 723) trivial (by decide +kernel) (by exact e6) ?_
                                refine ev_r_stat (pc := 928) (y := 171) (kind := 8) (mi := 375) (na := 7) (as := [ev_nv ((0 + 1)), .int (Int32.ofInt x326), .int (Int32.ofInt x328), .int (Int32.ofInt x330), .int (Int32.ofInt x332), .int (Int32.ofInt x334), ev_nv ((723 + 1))]) (rest := []) (encc := ev_oI) (Q := ev_rng) (fun x S1 h => jt_375 12 (by omega) Q ((0 + 1)) x326 x328 x330 x332 x334 ((723 + 1)) (by exact (Or.inr ev_ob_0)) hx326 hx328 hx330 hx332 hx334 (by exact (Or.inr ev_ab_723)) s8 x S1 h) (Or.inr (Or.inr rfl)) (by decide +kernel) (by decide +kernel) (by decide +kernel) (by decide +kernel) rfl (by (try simp only [ev_sum, ev_nv_cat]); first | done | rfl) ?_
                                intro x336 s335 hx336
                                show ev_w _ _ _ _ _ [.int (Int32.ofInt x336)] _ _ _ _
                                refine ev_r_istore (pc := 931) (k := 5) (by decide +kernel) (by decide +kernel) rfl ?_
                                refine ev_r_aload_n (pc := 933) (k := 2) (v := .ref 621) trivial (by decide +kernel) (by exact (ev_l1 e5 (by decide) (by decide))) ?_
                                refine ev_r_aload_n (pc := 934) (k := 0) (v := .retAddr 0) trivial (by decide +kernel) (by exact (ev_l1 e3 (by decide) (by decide))) ?_
                                refine ev_r_iload (pc := 935) (k := 4) (v := Int32.ofInt x1) (by decide +kernel) (by exact (ev_lk_st1 e7 (by decide) rfl)) ?_
                                refine ev_r_iconst (pc := 937) (k := 1) (by decide +kernel) ?_
                                refine ev_r_iadd (pc := 938) (by decide +kernel) ?_
                                intro x337 hx337
                                refine ev_r_xald (pc := 939) hx337 (by decide +kernel) ?_
                                intro x338 hx338
                                refine ev_r_aload_n (pc := 940) (k := 0) (v := .retAddr 0) trivial (by decide +kernel) (by exact (ev_l1 e3 (by decide) (by decide))) ?_
                                refine ev_r_iload (pc := 941) (k := 4) (v := Int32.ofInt x1) (by decide +kernel) (by exact (ev_lk_st1 e7 (by decide) rfl)) ?_
                                refine ev_r_iconst (pc := 943) (k := 2) (by decide +kernel) ?_
                                refine ev_r_iadd (pc := 944) (by decide +kernel) ?_
                                intro x339 hx339
                                refine ev_r_xald (pc := 945) hx339 (by decide +kernel) ?_
                                intro x340 hx340
                                refine ev_r_aload_n (pc := 946) (k := 0) (v := .retAddr 0) trivial (by decide +kernel) (by exact (ev_l1 e3 (by decide) (by decide))) ?_
                                refine ev_r_iload (pc := 947) (k := 4) (v := Int32.ofInt x1) (by decide +kernel) (by exact (ev_lk_st1 e7 (by decide) rfl)) ?_
                                refine ev_r_iconst (pc := 949) (k := 3) (by decide +kernel) ?_
                                refine ev_r_iadd (pc := 950) (by decide +kernel) ?_
                                intro x341 hx341
                                refine ev_r_xald (pc := 951) hx341 (by decide +kernel) ?_
                                intro x342 hx342
                                refine ev_r_aload_n (pc := 952) (k := 0) (v := .retAddr 0) trivial (by decide +kernel) (by exact (ev_l1 e3 (by decide) (by decide))) ?_
                                refine ev_r_iload (pc := 953) (k := 4) (v := Int32.ofInt x1) (by decide +kernel) (by exact (ev_lk_st1 e7 (by decide) rfl)) ?_
                                refine ev_r_iconst (pc := 955) (k := 4) (by decide +kernel) ?_
                                refine ev_r_iadd (pc := 956) (by decide +kernel) ?_
                                intro x343 hx343
                                refine ev_r_xald (pc := 957) hx343 (by decide +kernel) ?_
                                intro x344 hx344
                                refine ev_r_aload_n (pc := 958) (k := 0) (v := .retAddr 0) trivial (by decide +kernel) (by exact (ev_l1 e3 (by decide) (by decide))) ?_
                                refine ev_r_iload (pc := 959) (k := 4) (v := Int32.ofInt x1) (by decide +kernel) (by exact (ev_lk_st1 e7 (by decide) rfl)) ?_
                                refine ev_r_iconst (pc := 961) (k := 5) (by decide +kernel) ?_
                                refine ev_r_iadd (pc := 962) (by decide +kernel) ?_
                                intro x345 hx345
                                refine ev_r_xald (pc := 963) hx345 (by decide +kernel) ?_
                                intro x346 hx346
                                refine ev_r_virt (pc := 964) (y := 174) (mi := 330) (na := 5) (k := 621) (as := [.int (Int32.ofInt x338), .int (Int32.ofInt x340), .int (Int32.ofInt x342), .int (Int32.ofInt x344), .int (Int32.ofInt x346)]) (rest := []) (encc := ev_oI) (Q := ev_rng) (fun x S1 h => jt_330 12 (by omega) Q x338 x340 x342 x344 x346 hx338 hx340 hx342 hx344 hx346 s335 x S1 h) (by exact ev_ob_621) (by decide +kernel) (by decide +kernel) (by decide +kernel) (by decide +kernel) rfl (by (try simp only [ev_sum, ev_nv_cat]); first | done | rfl) ?_
                                intro x348 s347 hx348
                                show ev_w _ _ _ _ _ [.int (Int32.ofInt x348)] _ _ _ _
                                refine ev_r_istore (pc := 967) (k := 6) (by decide +kernel) (by decide +kernel) rfl ?_
                                refine ev_r_aload_n (pc := 969) (k := 2) (v := .ref 621) trivial (by decide +kernel) (by exact (ev_l1 (ev_l1 e5 (by decide) (by decide)) (by decide) (by decide))) ?_
                                refine ev_r_virt (pc := 970) (y := 131) (mi := 220) (na := 0) (k := 621) (as := []) (rest := []) (encc := ev_oI) (Q := ev_rng) (fun x S1 h => jt_220 12 (by omega) Q   s347 x S1 h) (by exact ev_ob_621) (by decide +kernel) (by decide +kernel) (by decide +kernel) (by decide +kernel) rfl (by (try simp only [ev_sum, ev_nv_cat]); first | done | rfl) ?_
                                intro x350 s349 hx350
                                show ev_w _ _ _ _ _ [.int (Int32.ofInt x350)] _ _ _ _
                                refine ev_r_iload (pc := 973) (k := 5) (v := Int32.ofInt x336) (by decide +kernel) (by exact (ev_lk_st1 ev_lk_st1_self (by decide) rfl)) ?_
                                refine ev_r_icmp (pc := 975) (q := .eq) (o := 5) (t := 980) (c := x350 = x336) (by decide +kernel) (ev_k_eq hx350 hx336) (by decide +kernel) ?_ ?_
                                · intro c351
                                  refine ev_r_iload (pc := 980) (k := 5) (v := Int32.ofInt x336) (by decide +kernel) (by exact (ev_lk_st1 ev_lk_st1_self (by decide) rfl)) ?_
                                  refine ev_r_jn (Q := fun K => ∀ (s358 : ev_St) (w352 : List (Nat × Value)), ev_lk w352 0 = some (.retAddr 0) → ev_lk w352 1 = some (.ref 0) → ev_lk w352 2 = some (.ref 621) → ev_lk w352 3 = some (.ref 723) → ev_lk w352 4 = some (.int (Int32.ofInt x1)) → ev_w (some (L, xs)) ev_Mlaw 12 997 w352 [] s358 (K  s358) ev_eI ev_bl) ?_ ?_
                                  · intro  s358 w352 e353 e354 e355 e356 e357
                                    refine ev_r_goto (pc := 997) (o := 1275) (t := 2272) (by decide +kernel) (by decide +kernel) ?_
                                    exact hK2272  s358 _ (by exact e353) (by exact e354) (by exact e355) (by exact e356) (by exact e357)
                                  · intro K997 hK997
                                    refine ev_r_if (pc := 982) (q := .ne) (o := 15) (t := 997) (c := x336 ≠ 0) (by decide +kernel) (ev_k_ne hx336 ev_rng0) (by decide +kernel) ?_ ?_
                                    · intro c359
                                      exact hK997  s349 _ (by exact (ev_l1 (ev_l1 e3 (by decide) (by decide)) (by decide) (by decide))) (by exact (ev_l1 (ev_l1 e4 (by decide) (by decide)) (by decide) (by decide))) (by exact (ev_l1 (ev_l1 e5 (by decide) (by decide)) (by decide) (by decide))) (by exact (ev_l1 (ev_l1 e6 (by decide) (by decide)) (by decide) (by decide))) (by exact (ev_l1 (ev_lk_st1 e7 (by decide) rfl) (by decide) (by decide)))
                                    · intro c359
                                      refine ev_r_aload_n (pc := 985) (k := 3) (v := .ref 723) trivial (by decide +kernel) (by exact (ev_l1 (ev_l1 e6 (by decide) (by decide)) (by decide) (by decide))) ?_
                                      refine ev_r_iconst (pc := 986) (k := 0) (by decide +kernel) ?_
                                      refine ev_r_lald (pc := 987) (by decide) (by decide +kernel) (by exact ev_ab_723) ?_
                                      intro y360
                                      refine ev_r_iload (pc := 988) (k := 6) (v := Int32.ofInt x348) (by decide +kernel) (by exact ev_lk_st1_self) ?_
                                      refine ev_r_toL (pc := 990) (i := .i2l) (len := 1) (pc' := 991) (by decide +kernel) rfl ?_
                                      intro y361
                                      refine ev_r_toI (pc := 991) (i := .lcmp) (len := 1) (pc' := 992) (by decide +kernel) rfl ?_
                                      intro x362 hx362
                                      refine ev_r_if (pc := 992) (q := .eq) (o := 5) (t := 997) (c := x362 = 0) (by decide +kernel) (ev_k_eq hx362 ev_rng0) (by decide +kernel) ?_ ?_
                                      · intro c363
                                        exact hK997  s349 _ (by exact (ev_l1 (ev_l1 e3 (by decide) (by decide)) (by decide) (by decide))) (by exact (ev_l1 (ev_l1 e4 (by decide) (by decide)) (by decide) (by decide))) (by exact (ev_l1 (ev_l1 e5 (by decide) (by decide)) (by decide) (by decide))) (by exact (ev_l1 (ev_l1 e6 (by decide) (by decide)) (by decide) (by decide))) (by exact (ev_l1 (ev_lk_st1 e7 (by decide) rfl) (by decide) (by decide)))
                                      · intro c363
                                        refine ev_r_iconst (pc := 995) (k := 0) (by decide +kernel) ?_
                                        exact ev_r_ireturn (pc := 996) (x := 0) (v := Int32.ofInt 0) (ty := .boolean) (by decide : ev_bl 0) (by decide +kernel) (by decide +kernel) (ev_ret_bl (by decide : ev_bl 0)) rfl
                                · intro c351
                                  refine ev_r_iconst (pc := 978) (k := 0) (by decide +kernel) ?_
                                  exact ev_r_ireturn (pc := 979) (x := 0) (v := Int32.ofInt 0) (ty := .boolean) (by decide : ev_bl 0) (by decide +kernel) (by decide +kernel) (ev_ret_bl (by decide : ev_bl 0)) rfl
                              · intro c324
                                refine ev_r_ite ?_ ?_
                                · intro c364
                                  refine ev_r_sw (pc := 40) (i := (.tableswitch 2232 0 32 #[148, 204, 217, 273, 317, 361, 417, 473, 548, 616, 672, 764, 856, 960, 1040, 1120, 1188, 1268, 1324, 1380, 1448, 1540, 1636, 1692, 1736, 1780, 1824, 1868, 1912, 1980, 2064, 2120, 2176])) (len := 148) (pc' := 1000) (by decide +kernel) (by rw [c364]; rw [ev_pure_tsw]; exact ev_tsw_c (o := 960) (by decide) (by decide) rfl (by decide +kernel)) ?_
                                  unfold ja_1000
                                  refine ev_r_aload_n (pc := 1000) (k := 1) (v := .ref 0) trivial (by decide +kernel) (by exact e4) ?_
                                  refine ev_r_aload_n (pc := 1001) (k := 0) (v := .retAddr 0) trivial (by decide +kernel) (by exact e3) ?_
                                  refine ev_r_iload (pc := 1002) (k := 4) (v := Int32.ofInt x1) (by decide +kernel) (by exact e7) ?_
                                  refine ev_r_iconst (pc := 1004) (k := 1) (by decide +kernel) ?_
                                  refine ev_r_iadd (pc := 1005) (by decide +kernel) ?_
                                  intro x365 hx365
                                  refine ev_r_xald (pc := 1006) hx365 (by decide +kernel) ?_
                                  intro x366 hx366
                                  refine ev_r_aload_n (pc := 1007) (k := 0) (v := .retAddr 0) trivial (by decide +kernel) (by exact e3) ?_
                                  refine ev_r_iload (pc := 1008) (k := 4) (v := Int32.ofInt x1) (by decide +kernel) (by exact e7) ?_
                                  refine ev_r_iconst (pc := 1010) (k := 2) (by decide +kernel) ?_
                                  refine ev_r_iadd (pc := 1011) (by decide +kernel) ?_
                                  intro x367 hx367
                                  refine ev_r_xald (pc := 1012) hx367 (by decide +kernel) ?_
                                  intro x368 hx368
                                  refine ev_r_aload_n (pc := 1013) (k := 0) (v := .retAddr 0) trivial (by decide +kernel) (by exact e3) ?_
                                  refine ev_r_iload (pc := 1014) (k := 4) (v := Int32.ofInt x1) (by decide +kernel) (by exact e7) ?_
                                  refine ev_r_iconst (pc := 1016) (k := 3) (by decide +kernel) ?_
                                  refine ev_r_iadd (pc := 1017) (by decide +kernel) ?_
                                  intro x369 hx369
                                  refine ev_r_xald (pc := 1018) hx369 (by decide +kernel) ?_
                                  intro x370 hx370
                                  refine ev_r_aload_n (pc := 1019) (k := 3) (v := .ref 723) trivial (by decide +kernel) (by exact e6) ?_
                                  refine ev_r_stat (pc := 1020) (y := 175) (kind := 8) (mi := 376) (na := 5) (as := [ev_nv ((0 + 1)), .int (Int32.ofInt x366), .int (Int32.ofInt x368), .int (Int32.ofInt x370), ev_nv ((723 + 1))]) (rest := []) (encc := ev_oI) (Q := ev_rng) (fun x S1 h => jt_376 12 (by omega) Q ((0 + 1)) x366 x368 x370 ((723 + 1)) (by exact (Or.inr ev_ob_0)) hx366 hx368 hx370 (by exact (Or.inr ev_ab_723)) s8 x S1 h) (Or.inr (Or.inr rfl)) (by decide +kernel) (by decide +kernel) (by decide +kernel) (by decide +kernel) rfl (by (try simp only [ev_sum, ev_nv_cat]); first | done | rfl) ?_
                                  intro x372 s371 hx372
                                  show ev_w _ _ _ _ _ [.int (Int32.ofInt x372)] _ _ _ _
                                  refine ev_r_istore (pc := 1023) (k := 5) (by decide +kernel) (by decide +kernel) rfl ?_
                                  refine ev_r_aload_n (pc := 1025) (k := 2) (v := .ref 621) trivial (by decide +kernel) (by exact (ev_l1 e5 (by decide) (by decide))) ?_
                                  refine ev_r_aload_n (pc := 1026) (k := 0) (v := .retAddr 0) trivial (by decide +kernel) (by exact (ev_l1 e3 (by decide) (by decide))) ?_
                                  refine ev_r_iload (pc := 1027) (k := 4) (v := Int32.ofInt x1) (by decide +kernel) (by exact (ev_lk_st1 e7 (by decide) rfl)) ?_
                                  refine ev_r_iconst (pc := 1029) (k := 1) (by decide +kernel) ?_
                                  refine ev_r_iadd (pc := 1030) (by decide +kernel) ?_
                                  intro x373 hx373
                                  refine ev_r_xald (pc := 1031) hx373 (by decide +kernel) ?_
                                  intro x374 hx374
                                  refine ev_r_aload_n (pc := 1032) (k := 0) (v := .retAddr 0) trivial (by decide +kernel) (by exact (ev_l1 e3 (by decide) (by decide))) ?_
                                  refine ev_r_iload (pc := 1033) (k := 4) (v := Int32.ofInt x1) (by decide +kernel) (by exact (ev_lk_st1 e7 (by decide) rfl)) ?_
                                  refine ev_r_iconst (pc := 1035) (k := 2) (by decide +kernel) ?_
                                  refine ev_r_iadd (pc := 1036) (by decide +kernel) ?_
                                  intro x375 hx375
                                  refine ev_r_xald (pc := 1037) hx375 (by decide +kernel) ?_
                                  intro x376 hx376
                                  refine ev_r_aload_n (pc := 1038) (k := 0) (v := .retAddr 0) trivial (by decide +kernel) (by exact (ev_l1 e3 (by decide) (by decide))) ?_
                                  refine ev_r_iload (pc := 1039) (k := 4) (v := Int32.ofInt x1) (by decide +kernel) (by exact (ev_lk_st1 e7 (by decide) rfl)) ?_
                                  refine ev_r_iconst (pc := 1041) (k := 3) (by decide +kernel) ?_
                                  refine ev_r_iadd (pc := 1042) (by decide +kernel) ?_
                                  intro x377 hx377
                                  refine ev_r_xald (pc := 1043) hx377 (by decide +kernel) ?_
                                  intro x378 hx378
                                  refine ev_r_virt (pc := 1044) (y := 178) (mi := 331) (na := 3) (k := 621) (as := [.int (Int32.ofInt x374), .int (Int32.ofInt x376), .int (Int32.ofInt x378)]) (rest := []) (encc := ev_oI) (Q := ev_rng) (fun x S1 h => jt_331 12 (by omega) Q x374 x376 x378 hx374 hx376 hx378 s371 x S1 h) (by exact ev_ob_621) (by decide +kernel) (by decide +kernel) (by decide +kernel) (by decide +kernel) rfl (by (try simp only [ev_sum, ev_nv_cat]); first | done | rfl) ?_
                                  intro x380 s379 hx380
                                  show ev_w _ _ _ _ _ [.int (Int32.ofInt x380)] _ _ _ _
                                  refine ev_r_istore (pc := 1047) (k := 6) (by decide +kernel) (by decide +kernel) rfl ?_
                                  refine ev_r_aload_n (pc := 1049) (k := 2) (v := .ref 621) trivial (by decide +kernel) (by exact (ev_l1 (ev_l1 e5 (by decide) (by decide)) (by decide) (by decide))) ?_
                                  refine ev_r_virt (pc := 1050) (y := 131) (mi := 220) (na := 0) (k := 621) (as := []) (rest := []) (encc := ev_oI) (Q := ev_rng) (fun x S1 h => jt_220 12 (by omega) Q   s379 x S1 h) (by exact ev_ob_621) (by decide +kernel) (by decide +kernel) (by decide +kernel) (by decide +kernel) rfl (by (try simp only [ev_sum, ev_nv_cat]); first | done | rfl) ?_
                                  intro x382 s381 hx382
                                  show ev_w _ _ _ _ _ [.int (Int32.ofInt x382)] _ _ _ _
                                  refine ev_r_iload (pc := 1053) (k := 5) (v := Int32.ofInt x372) (by decide +kernel) (by exact (ev_lk_st1 ev_lk_st1_self (by decide) rfl)) ?_
                                  refine ev_r_icmp (pc := 1055) (q := .eq) (o := 5) (t := 1060) (c := x382 = x372) (by decide +kernel) (ev_k_eq hx382 hx372) (by decide +kernel) ?_ ?_
                                  · intro c383
                                    refine ev_r_iload (pc := 1060) (k := 5) (v := Int32.ofInt x372) (by decide +kernel) (by exact (ev_lk_st1 ev_lk_st1_self (by decide) rfl)) ?_
                                    refine ev_r_jn (Q := fun K => ∀ (s390 : ev_St) (w384 : List (Nat × Value)), ev_lk w384 0 = some (.retAddr 0) → ev_lk w384 1 = some (.ref 0) → ev_lk w384 2 = some (.ref 621) → ev_lk w384 3 = some (.ref 723) → ev_lk w384 4 = some (.int (Int32.ofInt x1)) → ev_w (some (L, xs)) ev_Mlaw 12 1077 w384 [] s390 (K  s390) ev_eI ev_bl) ?_ ?_
                                    · intro  s390 w384 e385 e386 e387 e388 e389
                                      refine ev_r_goto (pc := 1077) (o := 1195) (t := 2272) (by decide +kernel) (by decide +kernel) ?_
                                      exact hK2272  s390 _ (by exact e385) (by exact e386) (by exact e387) (by exact e388) (by exact e389)
                                    · intro K1077 hK1077
                                      refine ev_r_if (pc := 1062) (q := .ne) (o := 15) (t := 1077) (c := x372 ≠ 0) (by decide +kernel) (ev_k_ne hx372 ev_rng0) (by decide +kernel) ?_ ?_
                                      · intro c391
                                        exact hK1077  s381 _ (by exact (ev_l1 (ev_l1 e3 (by decide) (by decide)) (by decide) (by decide))) (by exact (ev_l1 (ev_l1 e4 (by decide) (by decide)) (by decide) (by decide))) (by exact (ev_l1 (ev_l1 e5 (by decide) (by decide)) (by decide) (by decide))) (by exact (ev_l1 (ev_l1 e6 (by decide) (by decide)) (by decide) (by decide))) (by exact (ev_l1 (ev_lk_st1 e7 (by decide) rfl) (by decide) (by decide)))
                                      · intro c391
                                        refine ev_r_aload_n (pc := 1065) (k := 3) (v := .ref 723) trivial (by decide +kernel) (by exact (ev_l1 (ev_l1 e6 (by decide) (by decide)) (by decide) (by decide))) ?_
                                        refine ev_r_iconst (pc := 1066) (k := 0) (by decide +kernel) ?_
                                        refine ev_r_lald (pc := 1067) (by decide) (by decide +kernel) (by exact ev_ab_723) ?_
                                        intro y392
                                        refine ev_r_iload (pc := 1068) (k := 6) (v := Int32.ofInt x380) (by decide +kernel) (by exact ev_lk_st1_self) ?_
                                        refine ev_r_toL (pc := 1070) (i := .i2l) (len := 1) (pc' := 1071) (by decide +kernel) rfl ?_
                                        intro y393
                                        refine ev_r_toI (pc := 1071) (i := .lcmp) (len := 1) (pc' := 1072) (by decide +kernel) rfl ?_
                                        intro x394 hx394
                                        refine ev_r_if (pc := 1072) (q := .eq) (o := 5) (t := 1077) (c := x394 = 0) (by decide +kernel) (ev_k_eq hx394 ev_rng0) (by decide +kernel) ?_ ?_
                                        · intro c395
                                          exact hK1077  s381 _ (by exact (ev_l1 (ev_l1 e3 (by decide) (by decide)) (by decide) (by decide))) (by exact (ev_l1 (ev_l1 e4 (by decide) (by decide)) (by decide) (by decide))) (by exact (ev_l1 (ev_l1 e5 (by decide) (by decide)) (by decide) (by decide))) (by exact (ev_l1 (ev_l1 e6 (by decide) (by decide)) (by decide) (by decide))) (by exact (ev_l1 (ev_lk_st1 e7 (by decide) rfl) (by decide) (by decide)))
                                        · intro c395
                                          refine ev_r_iconst (pc := 1075) (k := 0) (by decide +kernel) ?_
                                          exact ev_r_ireturn (pc := 1076) (x := 0) (v := Int32.ofInt 0) (ty := .boolean) (by decide : ev_bl 0) (by decide +kernel) (by decide +kernel) (ev_ret_bl (by decide : ev_bl 0)) rfl
                                  · intro c383
                                    refine ev_r_iconst (pc := 1058) (k := 0) (by decide +kernel) ?_
                                    exact ev_r_ireturn (pc := 1059) (x := 0) (v := Int32.ofInt 0) (ty := .boolean) (by decide : ev_bl 0) (by decide +kernel) (by decide +kernel) (ev_ret_bl (by decide : ev_bl 0)) rfl
                                · intro c364
                                  refine ev_r_ite ?_ ?_
                                  · intro c396
                                    refine ev_r_sw (pc := 40) (i := (.tableswitch 2232 0 32 #[148, 204, 217, 273, 317, 361, 417, 473, 548, 616, 672, 764, 856, 960, 1040, 1120, 1188, 1268, 1324, 1380, 1448, 1540, 1636, 1692, 1736, 1780, 1824, 1868, 1912, 1980, 2064, 2120, 2176])) (len := 148) (pc' := 1080) (by decide +kernel) (by rw [c396]; rw [ev_pure_tsw]; exact ev_tsw_c (o := 1040) (by decide) (by decide) rfl (by decide +kernel)) ?_
                                    unfold ja_1080
                                    refine ev_r_aload_n (pc := 1080) (k := 1) (v := .ref 0) trivial (by decide +kernel) (by exact e4) ?_
                                    refine ev_r_aload_n (pc := 1081) (k := 0) (v := .retAddr 0) trivial (by decide +kernel) (by exact e3) ?_
                                    refine ev_r_iload (pc := 1082) (k := 4) (v := Int32.ofInt x1) (by decide +kernel) (by exact e7) ?_
                                    refine ev_r_iconst (pc := 1084) (k := 1) (by decide +kernel) ?_
                                    refine ev_r_iadd (pc := 1085) (by decide +kernel) ?_
                                    intro x397 hx397
                                    refine ev_r_xald (pc := 1086) hx397 (by decide +kernel) ?_
                                    intro x398 hx398
                                    refine ev_r_aload_n (pc := 1087) (k := 0) (v := .retAddr 0) trivial (by decide +kernel) (by exact e3) ?_
                                    refine ev_r_iload (pc := 1088) (k := 4) (v := Int32.ofInt x1) (by decide +kernel) (by exact e7) ?_
                                    refine ev_r_iconst (pc := 1090) (k := 2) (by decide +kernel) ?_
                                    refine ev_r_iadd (pc := 1091) (by decide +kernel) ?_
                                    intro x399 hx399
                                    refine ev_r_xald (pc := 1092) hx399 (by decide +kernel) ?_
                                    intro x400 hx400
                                    refine ev_r_aload_n (pc := 1093) (k := 0) (v := .retAddr 0) trivial (by decide +kernel) (by exact e3) ?_
                                    refine ev_r_iload (pc := 1094) (k := 4) (v := Int32.ofInt x1) (by decide +kernel) (by exact e7) ?_
                                    refine ev_r_iconst (pc := 1096) (k := 3) (by decide +kernel) ?_
                                    refine ev_r_iadd (pc := 1097) (by decide +kernel) ?_
                                    intro x401 hx401
                                    refine ev_r_xald (pc := 1098) hx401 (by decide +kernel) ?_
                                    intro x402 hx402
                                    refine ev_r_aload_n (pc := 1099) (k := 3) (v := .ref 723) trivial (by decide +kernel) (by exact e6) ?_
                                    refine ev_r_stat (pc := 1100) (y := 179) (kind := 8) (mi := 377) (na := 5) (as := [ev_nv ((0 + 1)), .int (Int32.ofInt x398), .int (Int32.ofInt x400), .int (Int32.ofInt x402), ev_nv ((723 + 1))]) (rest := []) (encc := ev_oI) (Q := ev_rng) (fun x S1 h => jt_377 12 (by omega) Q ((0 + 1)) x398 x400 x402 ((723 + 1)) (by exact (Or.inr ev_ob_0)) hx398 hx400 hx402 (by exact (Or.inr ev_ab_723)) s8 x S1 h) (Or.inr (Or.inr rfl)) (by decide +kernel) (by decide +kernel) (by decide +kernel) (by decide +kernel) rfl (by (try simp only [ev_sum, ev_nv_cat]); first | done | rfl) ?_
                                    intro x404 s403 hx404
                                    show ev_w _ _ _ _ _ [.int (Int32.ofInt x404)] _ _ _ _
                                    refine ev_r_istore (pc := 1103) (k := 5) (by decide +kernel) (by decide +kernel) rfl ?_
                                    refine ev_r_aload_n (pc := 1105) (k := 2) (v := .ref 621) trivial (by decide +kernel) (by exact (ev_l1 e5 (by decide) (by decide))) ?_
                                    refine ev_r_aload_n (pc := 1106) (k := 0) (v := .retAddr 0) trivial (by decide +kernel) (by exact (ev_l1 e3 (by decide) (by decide))) ?_
                                    refine ev_r_iload (pc := 1107) (k := 4) (v := Int32.ofInt x1) (by decide +kernel) (by exact (ev_lk_st1 e7 (by decide) rfl)) ?_
                                    refine ev_r_iconst (pc := 1109) (k := 1) (by decide +kernel) ?_
                                    refine ev_r_iadd (pc := 1110) (by decide +kernel) ?_
                                    intro x405 hx405
                                    refine ev_r_xald (pc := 1111) hx405 (by decide +kernel) ?_
                                    intro x406 hx406
                                    refine ev_r_aload_n (pc := 1112) (k := 0) (v := .retAddr 0) trivial (by decide +kernel) (by exact (ev_l1 e3 (by decide) (by decide))) ?_
                                    refine ev_r_iload (pc := 1113) (k := 4) (v := Int32.ofInt x1) (by decide +kernel) (by exact (ev_lk_st1 e7 (by decide) rfl)) ?_
                                    refine ev_r_iconst (pc := 1115) (k := 2) (by decide +kernel) ?_
                                    refine ev_r_iadd (pc := 1116) (by decide +kernel) ?_
                                    intro x407 hx407
                                    refine ev_r_xald (pc := 1117) hx407 (by decide +kernel) ?_
                                    intro x408 hx408
                                    refine ev_r_aload_n (pc := 1118) (k := 0) (v := .retAddr 0) trivial (by decide +kernel) (by exact (ev_l1 e3 (by decide) (by decide))) ?_
                                    refine ev_r_iload (pc := 1119) (k := 4) (v := Int32.ofInt x1) (by decide +kernel) (by exact (ev_lk_st1 e7 (by decide) rfl)) ?_
                                    refine ev_r_iconst (pc := 1121) (k := 3) (by decide +kernel) ?_
                                    refine ev_r_iadd (pc := 1122) (by decide +kernel) ?_
                                    intro x409 hx409
                                    refine ev_r_xald (pc := 1123) hx409 (by decide +kernel) ?_
                                    intro x410 hx410
                                    refine ev_r_virt (pc := 1124) (y := 181) (mi := 332) (na := 3) (k := 621) (as := [.int (Int32.ofInt x406), .int (Int32.ofInt x408), .int (Int32.ofInt x410)]) (rest := []) (encc := ev_oI) (Q := ev_rng) (fun x S1 h => jt_332 12 (by omega) Q x406 x408 x410 hx406 hx408 hx410 s403 x S1 h) (by exact ev_ob_621) (by decide +kernel) (by decide +kernel) (by decide +kernel) (by decide +kernel) rfl (by (try simp only [ev_sum, ev_nv_cat]); first | done | rfl) ?_
                                    intro x412 s411 hx412
                                    show ev_w _ _ _ _ _ [.int (Int32.ofInt x412)] _ _ _ _
                                    refine ev_r_istore (pc := 1127) (k := 6) (by decide +kernel) (by decide +kernel) rfl ?_
                                    refine ev_r_aload_n (pc := 1129) (k := 2) (v := .ref 621) trivial (by decide +kernel) (by exact (ev_l1 (ev_l1 e5 (by decide) (by decide)) (by decide) (by decide))) ?_
                                    refine ev_r_virt (pc := 1130) (y := 131) (mi := 220) (na := 0) (k := 621) (as := []) (rest := []) (encc := ev_oI) (Q := ev_rng) (fun x S1 h => jt_220 12 (by omega) Q   s411 x S1 h) (by exact ev_ob_621) (by decide +kernel) (by decide +kernel) (by decide +kernel) (by decide +kernel) rfl (by (try simp only [ev_sum, ev_nv_cat]); first | done | rfl) ?_
                                    intro x414 s413 hx414
                                    show ev_w _ _ _ _ _ [.int (Int32.ofInt x414)] _ _ _ _
                                    refine ev_r_iload (pc := 1133) (k := 5) (v := Int32.ofInt x404) (by decide +kernel) (by exact (ev_lk_st1 ev_lk_st1_self (by decide) rfl)) ?_
                                    refine ev_r_icmp (pc := 1135) (q := .eq) (o := 5) (t := 1140) (c := x414 = x404) (by decide +kernel) (ev_k_eq hx414 hx404) (by decide +kernel) ?_ ?_
                                    · intro c415
                                      refine ev_r_iload (pc := 1140) (k := 5) (v := Int32.ofInt x404) (by decide +kernel) (by exact (ev_lk_st1 ev_lk_st1_self (by decide) rfl)) ?_
                                      refine ev_r_jn (Q := fun K => ∀ (s422 : ev_St) (w416 : List (Nat × Value)), ev_lk w416 0 = some (.retAddr 0) → ev_lk w416 1 = some (.ref 0) → ev_lk w416 2 = some (.ref 621) → ev_lk w416 3 = some (.ref 723) → ev_lk w416 4 = some (.int (Int32.ofInt x1)) → ev_w (some (L, xs)) ev_Mlaw 12 1157 w416 [] s422 (K  s422) ev_eI ev_bl) ?_ ?_
                                      · intro  s422 w416 e417 e418 e419 e420 e421
                                        refine ev_r_goto (pc := 1157) (o := 1115) (t := 2272) (by decide +kernel) (by decide +kernel) ?_
                                        exact hK2272  s422 _ (by exact e417) (by exact e418) (by exact e419) (by exact e420) (by exact e421)
                                      · intro K1157 hK1157
                                        refine ev_r_if (pc := 1142) (q := .ne) (o := 15) (t := 1157) (c := x404 ≠ 0) (by decide +kernel) (ev_k_ne hx404 ev_rng0) (by decide +kernel) ?_ ?_
                                        · intro c423
                                          exact hK1157  s413 _ (by exact (ev_l1 (ev_l1 e3 (by decide) (by decide)) (by decide) (by decide))) (by exact (ev_l1 (ev_l1 e4 (by decide) (by decide)) (by decide) (by decide))) (by exact (ev_l1 (ev_l1 e5 (by decide) (by decide)) (by decide) (by decide))) (by exact (ev_l1 (ev_l1 e6 (by decide) (by decide)) (by decide) (by decide))) (by exact (ev_l1 (ev_lk_st1 e7 (by decide) rfl) (by decide) (by decide)))
                                        · intro c423
                                          refine ev_r_aload_n (pc := 1145) (k := 3) (v := .ref 723) trivial (by decide +kernel) (by exact (ev_l1 (ev_l1 e6 (by decide) (by decide)) (by decide) (by decide))) ?_
                                          refine ev_r_iconst (pc := 1146) (k := 0) (by decide +kernel) ?_
                                          refine ev_r_lald (pc := 1147) (by decide) (by decide +kernel) (by exact ev_ab_723) ?_
                                          intro y424
                                          refine ev_r_iload (pc := 1148) (k := 6) (v := Int32.ofInt x412) (by decide +kernel) (by exact ev_lk_st1_self) ?_
                                          refine ev_r_toL (pc := 1150) (i := .i2l) (len := 1) (pc' := 1151) (by decide +kernel) rfl ?_
                                          intro y425
                                          refine ev_r_toI (pc := 1151) (i := .lcmp) (len := 1) (pc' := 1152) (by decide +kernel) rfl ?_
                                          intro x426 hx426
                                          refine ev_r_if (pc := 1152) (q := .eq) (o := 5) (t := 1157) (c := x426 = 0) (by decide +kernel) (ev_k_eq hx426 ev_rng0) (by decide +kernel) ?_ ?_
                                          · intro c427
                                            exact hK1157  s413 _ (by exact (ev_l1 (ev_l1 e3 (by decide) (by decide)) (by decide) (by decide))) (by exact (ev_l1 (ev_l1 e4 (by decide) (by decide)) (by decide) (by decide))) (by exact (ev_l1 (ev_l1 e5 (by decide) (by decide)) (by decide) (by decide))) (by exact (ev_l1 (ev_l1 e6 (by decide) (by decide)) (by decide) (by decide))) (by exact (ev_l1 (ev_lk_st1 e7 (by decide) rfl) (by decide) (by decide)))
                                          · intro c427
                                            refine ev_r_iconst (pc := 1155) (k := 0) (by decide +kernel) ?_
                                            exact ev_r_ireturn (pc := 1156) (x := 0) (v := Int32.ofInt 0) (ty := .boolean) (by decide : ev_bl 0) (by decide +kernel) (by decide +kernel) (ev_ret_bl (by decide : ev_bl 0)) rfl
                                    · intro c415
                                      refine ev_r_iconst (pc := 1138) (k := 0) (by decide +kernel) ?_
                                      exact ev_r_ireturn (pc := 1139) (x := 0) (v := Int32.ofInt 0) (ty := .boolean) (by decide : ev_bl 0) (by decide +kernel) (by decide +kernel) (ev_ret_bl (by decide : ev_bl 0)) rfl
                                  · intro c396
                                    refine ev_r_ite ?_ ?_
                                    · intro c428
                                      refine ev_r_sw (pc := 40) (i := (.tableswitch 2232 0 32 #[148, 204, 217, 273, 317, 361, 417, 473, 548, 616, 672, 764, 856, 960, 1040, 1120, 1188, 1268, 1324, 1380, 1448, 1540, 1636, 1692, 1736, 1780, 1824, 1868, 1912, 1980, 2064, 2120, 2176])) (len := 148) (pc' := 1160) (by decide +kernel) (by rw [c428]; rw [ev_pure_tsw]; exact ev_tsw_c (o := 1120) (by decide) (by decide) rfl (by decide +kernel)) ?_
                                      unfold ja_1160
                                      refine ev_r_aload_n (pc := 1160) (k := 1) (v := .ref 0) trivial (by decide +kernel) (by exact e4) ?_
                                      refine ev_r_aload_n (pc := 1161) (k := 0) (v := .retAddr 0) trivial (by decide +kernel) (by exact e3) ?_
                                      refine ev_r_iload (pc := 1162) (k := 4) (v := Int32.ofInt x1) (by decide +kernel) (by exact e7) ?_
                                      refine ev_r_iconst (pc := 1164) (k := 1) (by decide +kernel) ?_
                                      refine ev_r_iadd (pc := 1165) (by decide +kernel) ?_
                                      intro x429 hx429
                                      refine ev_r_xald (pc := 1166) hx429 (by decide +kernel) ?_
                                      intro x430 hx430
                                      refine ev_r_aload_n (pc := 1167) (k := 0) (v := .retAddr 0) trivial (by decide +kernel) (by exact e3) ?_
                                      refine ev_r_iload (pc := 1168) (k := 4) (v := Int32.ofInt x1) (by decide +kernel) (by exact e7) ?_
                                      refine ev_r_iconst (pc := 1170) (k := 2) (by decide +kernel) ?_
                                      refine ev_r_iadd (pc := 1171) (by decide +kernel) ?_
                                      intro x431 hx431
                                      refine ev_r_xald (pc := 1172) hx431 (by decide +kernel) ?_
                                      intro x432 hx432
                                      refine ev_r_aload_n (pc := 1173) (k := 3) (v := .ref 723) trivial (by decide +kernel) (by exact e6) ?_
                                      refine ev_r_stat (pc := 1174) (y := 182) (kind := 8) (mi := 378) (na := 4) (as := [ev_nv ((0 + 1)), .int (Int32.ofInt x430), .int (Int32.ofInt x432), ev_nv ((723 + 1))]) (rest := []) (encc := ev_oI) (Q := ev_rng) (fun x S1 h => jt_378 12 (by omega) Q ((0 + 1)) x430 x432 ((723 + 1)) (by exact (Or.inr ev_ob_0)) hx430 hx432 (by exact (Or.inr ev_ab_723)) s8 x S1 h) (Or.inr (Or.inr rfl)) (by decide +kernel) (by decide +kernel) (by decide +kernel) (by decide +kernel) rfl (by (try simp only [ev_sum, ev_nv_cat]); first | done | rfl) ?_
                                      intro x434 s433 hx434
                                      show ev_w _ _ _ _ _ [.int (Int32.ofInt x434)] _ _ _ _
                                      refine ev_r_istore (pc := 1177) (k := 5) (by decide +kernel) (by decide +kernel) rfl ?_
                                      refine ev_r_aload_n (pc := 1179) (k := 2) (v := .ref 621) trivial (by decide +kernel) (by exact (ev_l1 e5 (by decide) (by decide))) ?_
                                      refine ev_r_aload_n (pc := 1180) (k := 0) (v := .retAddr 0) trivial (by decide +kernel) (by exact (ev_l1 e3 (by decide) (by decide))) ?_
                                      refine ev_r_iload (pc := 1181) (k := 4) (v := Int32.ofInt x1) (by decide +kernel) (by exact (ev_lk_st1 e7 (by decide) rfl)) ?_
                                      refine ev_r_iconst (pc := 1183) (k := 1) (by decide +kernel) ?_
                                      refine ev_r_iadd (pc := 1184) (by decide +kernel) ?_
                                      intro x435 hx435
                                      refine ev_r_xald (pc := 1185) hx435 (by decide +kernel) ?_
                                      intro x436 hx436
                                      refine ev_r_aload_n (pc := 1186) (k := 0) (v := .retAddr 0) trivial (by decide +kernel) (by exact (ev_l1 e3 (by decide) (by decide))) ?_
                                      refine ev_r_iload (pc := 1187) (k := 4) (v := Int32.ofInt x1) (by decide +kernel) (by exact (ev_lk_st1 e7 (by decide) rfl)) ?_
                                      refine ev_r_iconst (pc := 1189) (k := 2) (by decide +kernel) ?_
                                      refine ev_r_iadd (pc := 1190) (by decide +kernel) ?_
                                      intro x437 hx437
                                      refine ev_r_xald (pc := 1191) hx437 (by decide +kernel) ?_
                                      intro x438 hx438
                                      refine ev_r_virt (pc := 1192) (y := 184) (mi := 334) (na := 2) (k := 621) (as := [.int (Int32.ofInt x436), .int (Int32.ofInt x438)]) (rest := []) (encc := ev_oI) (Q := ev_rng) (fun x S1 h => jt_334 12 (by omega) Q x436 x438 hx436 hx438 s433 x S1 h) (by exact ev_ob_621) (by decide +kernel) (by decide +kernel) (by decide +kernel) (by decide +kernel) rfl (by (try simp only [ev_sum, ev_nv_cat]); first | done | rfl) ?_
                                      intro x440 s439 hx440
                                      show ev_w _ _ _ _ _ [.int (Int32.ofInt x440)] _ _ _ _
                                      refine ev_r_istore (pc := 1195) (k := 6) (by decide +kernel) (by decide +kernel) rfl ?_
                                      refine ev_r_aload_n (pc := 1197) (k := 2) (v := .ref 621) trivial (by decide +kernel) (by exact (ev_l1 (ev_l1 e5 (by decide) (by decide)) (by decide) (by decide))) ?_
                                      refine ev_r_virt (pc := 1198) (y := 131) (mi := 220) (na := 0) (k := 621) (as := []) (rest := []) (encc := ev_oI) (Q := ev_rng) (fun x S1 h => jt_220 12 (by omega) Q   s439 x S1 h) (by exact ev_ob_621) (by decide +kernel) (by decide +kernel) (by decide +kernel) (by decide +kernel) rfl (by (try simp only [ev_sum, ev_nv_cat]); first | done | rfl) ?_
                                      intro x442 s441 hx442
                                      show ev_w _ _ _ _ _ [.int (Int32.ofInt x442)] _ _ _ _
                                      refine ev_r_iload (pc := 1201) (k := 5) (v := Int32.ofInt x434) (by decide +kernel) (by exact (ev_lk_st1 ev_lk_st1_self (by decide) rfl)) ?_
                                      refine ev_r_icmp (pc := 1203) (q := .eq) (o := 5) (t := 1208) (c := x442 = x434) (by decide +kernel) (ev_k_eq hx442 hx434) (by decide +kernel) ?_ ?_
                                      · intro c443
                                        refine ev_r_iload (pc := 1208) (k := 5) (v := Int32.ofInt x434) (by decide +kernel) (by exact (ev_lk_st1 ev_lk_st1_self (by decide) rfl)) ?_
                                        refine ev_r_jn (Q := fun K => ∀ (s450 : ev_St) (w444 : List (Nat × Value)), ev_lk w444 0 = some (.retAddr 0) → ev_lk w444 1 = some (.ref 0) → ev_lk w444 2 = some (.ref 621) → ev_lk w444 3 = some (.ref 723) → ev_lk w444 4 = some (.int (Int32.ofInt x1)) → ev_w (some (L, xs)) ev_Mlaw 12 1225 w444 [] s450 (K  s450) ev_eI ev_bl) ?_ ?_
                                        · intro  s450 w444 e445 e446 e447 e448 e449
                                          refine ev_r_goto (pc := 1225) (o := 1047) (t := 2272) (by decide +kernel) (by decide +kernel) ?_
                                          exact hK2272  s450 _ (by exact e445) (by exact e446) (by exact e447) (by exact e448) (by exact e449)
                                        · intro K1225 hK1225
                                          refine ev_r_if (pc := 1210) (q := .ne) (o := 15) (t := 1225) (c := x434 ≠ 0) (by decide +kernel) (ev_k_ne hx434 ev_rng0) (by decide +kernel) ?_ ?_
                                          · intro c451
                                            exact hK1225  s441 _ (by exact (ev_l1 (ev_l1 e3 (by decide) (by decide)) (by decide) (by decide))) (by exact (ev_l1 (ev_l1 e4 (by decide) (by decide)) (by decide) (by decide))) (by exact (ev_l1 (ev_l1 e5 (by decide) (by decide)) (by decide) (by decide))) (by exact (ev_l1 (ev_l1 e6 (by decide) (by decide)) (by decide) (by decide))) (by exact (ev_l1 (ev_lk_st1 e7 (by decide) rfl) (by decide) (by decide)))
                                          · intro c451
                                            refine ev_r_aload_n (pc := 1213) (k := 3) (v := .ref 723) trivial (by decide +kernel) (by exact (ev_l1 (ev_l1 e6 (by decide) (by decide)) (by decide) (by decide))) ?_
                                            refine ev_r_iconst (pc := 1214) (k := 0) (by decide +kernel) ?_
                                            refine ev_r_lald (pc := 1215) (by decide) (by decide +kernel) (by exact ev_ab_723) ?_
                                            intro y452
                                            refine ev_r_iload (pc := 1216) (k := 6) (v := Int32.ofInt x440) (by decide +kernel) (by exact ev_lk_st1_self) ?_
                                            refine ev_r_toL (pc := 1218) (i := .i2l) (len := 1) (pc' := 1219) (by decide +kernel) rfl ?_
                                            intro y453
                                            refine ev_r_toI (pc := 1219) (i := .lcmp) (len := 1) (pc' := 1220) (by decide +kernel) rfl ?_
                                            intro x454 hx454
                                            refine ev_r_if (pc := 1220) (q := .eq) (o := 5) (t := 1225) (c := x454 = 0) (by decide +kernel) (ev_k_eq hx454 ev_rng0) (by decide +kernel) ?_ ?_
                                            · intro c455
                                              exact hK1225  s441 _ (by exact (ev_l1 (ev_l1 e3 (by decide) (by decide)) (by decide) (by decide))) (by exact (ev_l1 (ev_l1 e4 (by decide) (by decide)) (by decide) (by decide))) (by exact (ev_l1 (ev_l1 e5 (by decide) (by decide)) (by decide) (by decide))) (by exact (ev_l1 (ev_l1 e6 (by decide) (by decide)) (by decide) (by decide))) (by exact (ev_l1 (ev_lk_st1 e7 (by decide) rfl) (by decide) (by decide)))
                                            · intro c455
                                              refine ev_r_iconst (pc := 1223) (k := 0) (by decide +kernel) ?_
                                              exact ev_r_ireturn (pc := 1224) (x := 0) (v := Int32.ofInt 0) (ty := .boolean) (by decide : ev_bl 0) (by decide +kernel) (by decide +kernel) (ev_ret_bl (by decide : ev_bl 0)) rfl
                                      · intro c443
                                        refine ev_r_iconst (pc := 1206) (k := 0) (by decide +kernel) ?_
                                        exact ev_r_ireturn (pc := 1207) (x := 0) (v := Int32.ofInt 0) (ty := .boolean) (by decide : ev_bl 0) (by decide +kernel) (by decide +kernel) (ev_ret_bl (by decide : ev_bl 0)) rfl
                                    · intro c428
                                      refine ev_r_ite ?_ ?_
                                      · intro c456
                                        refine ev_r_sw (pc := 40) (i := (.tableswitch 2232 0 32 #[148, 204, 217, 273, 317, 361, 417, 473, 548, 616, 672, 764, 856, 960, 1040, 1120, 1188, 1268, 1324, 1380, 1448, 1540, 1636, 1692, 1736, 1780, 1824, 1868, 1912, 1980, 2064, 2120, 2176])) (len := 148) (pc' := 1228) (by decide +kernel) (by rw [c456]; rw [ev_pure_tsw]; exact ev_tsw_c (o := 1188) (by decide) (by decide) rfl (by decide +kernel)) ?_
                                        unfold ja_1228
                                        refine ev_r_aload_n (pc := 1228) (k := 1) (v := .ref 0) trivial (by decide +kernel) (by exact e4) ?_
                                        refine ev_r_aload_n (pc := 1229) (k := 0) (v := .retAddr 0) trivial (by decide +kernel) (by exact e3) ?_
                                        refine ev_r_iload (pc := 1230) (k := 4) (v := Int32.ofInt x1) (by decide +kernel) (by exact e7) ?_
                                        refine ev_r_iconst (pc := 1232) (k := 1) (by decide +kernel) ?_
                                        refine ev_r_iadd (pc := 1233) (by decide +kernel) ?_
                                        intro x457 hx457
                                        refine ev_r_xald (pc := 1234) hx457 (by decide +kernel) ?_
                                        intro x458 hx458
                                        refine ev_r_aload_n (pc := 1235) (k := 0) (v := .retAddr 0) trivial (by decide +kernel) (by exact e3) ?_
                                        refine ev_r_iload (pc := 1236) (k := 4) (v := Int32.ofInt x1) (by decide +kernel) (by exact e7) ?_
                                        refine ev_r_iconst (pc := 1238) (k := 2) (by decide +kernel) ?_
                                        refine ev_r_iadd (pc := 1239) (by decide +kernel) ?_
                                        intro x459 hx459
                                        refine ev_r_xald (pc := 1240) hx459 (by decide +kernel) ?_
                                        intro x460 hx460
                                        refine ev_r_aload_n (pc := 1241) (k := 0) (v := .retAddr 0) trivial (by decide +kernel) (by exact e3) ?_
                                        refine ev_r_iload (pc := 1242) (k := 4) (v := Int32.ofInt x1) (by decide +kernel) (by exact e7) ?_
                                        refine ev_r_iconst (pc := 1244) (k := 3) (by decide +kernel) ?_
                                        refine ev_r_iadd (pc := 1245) (by decide +kernel) ?_
                                        intro x461 hx461
                                        refine ev_r_xald (pc := 1246) hx461 (by decide +kernel) ?_
                                        intro x462 hx462
                                        refine ev_r_aload_n (pc := 1247) (k := 3) (v := .ref 723) trivial (by decide +kernel) (by exact e6) ?_
                                        refine ev_r_stat (pc := 1248) (y := 185) (kind := 8) (mi := 379) (na := 5) (as := [ev_nv ((0 + 1)), .int (Int32.ofInt x458), .int (Int32.ofInt x460), .int (Int32.ofInt x462), ev_nv ((723 + 1))]) (rest := []) (encc := ev_oI) (Q := ev_rng) (fun x S1 h => jt_379 12 (by omega) Q ((0 + 1)) x458 x460 x462 ((723 + 1)) (by exact (Or.inr ev_ob_0)) hx458 hx460 hx462 (by exact (Or.inr ev_ab_723)) s8 x S1 h) (Or.inr (Or.inr rfl)) (by decide +kernel) (by decide +kernel) (by decide +kernel) (by decide +kernel) rfl (by (try simp only [ev_sum, ev_nv_cat]); first | done | rfl) ?_
                                        intro x464 s463 hx464
                                        show ev_w _ _ _ _ _ [.int (Int32.ofInt x464)] _ _ _ _
                                        refine ev_r_istore (pc := 1251) (k := 5) (by decide +kernel) (by decide +kernel) rfl ?_
                                        refine ev_r_aload_n (pc := 1253) (k := 2) (v := .ref 621) trivial (by decide +kernel) (by exact (ev_l1 e5 (by decide) (by decide))) ?_
                                        refine ev_r_aload_n (pc := 1254) (k := 0) (v := .retAddr 0) trivial (by decide +kernel) (by exact (ev_l1 e3 (by decide) (by decide))) ?_
                                        refine ev_r_iload (pc := 1255) (k := 4) (v := Int32.ofInt x1) (by decide +kernel) (by exact (ev_lk_st1 e7 (by decide) rfl)) ?_
                                        refine ev_r_iconst (pc := 1257) (k := 1) (by decide +kernel) ?_
                                        refine ev_r_iadd (pc := 1258) (by decide +kernel) ?_
                                        intro x465 hx465
                                        refine ev_r_xald (pc := 1259) hx465 (by decide +kernel) ?_
                                        intro x466 hx466
                                        refine ev_r_aload_n (pc := 1260) (k := 0) (v := .retAddr 0) trivial (by decide +kernel) (by exact (ev_l1 e3 (by decide) (by decide))) ?_
                                        refine ev_r_iload (pc := 1261) (k := 4) (v := Int32.ofInt x1) (by decide +kernel) (by exact (ev_lk_st1 e7 (by decide) rfl)) ?_
                                        refine ev_r_iconst (pc := 1263) (k := 2) (by decide +kernel) ?_
                                        refine ev_r_iadd (pc := 1264) (by decide +kernel) ?_
                                        intro x467 hx467
                                        refine ev_r_xald (pc := 1265) hx467 (by decide +kernel) ?_
                                        intro x468 hx468
                                        refine ev_r_aload_n (pc := 1266) (k := 0) (v := .retAddr 0) trivial (by decide +kernel) (by exact (ev_l1 e3 (by decide) (by decide))) ?_
                                        refine ev_r_iload (pc := 1267) (k := 4) (v := Int32.ofInt x1) (by decide +kernel) (by exact (ev_lk_st1 e7 (by decide) rfl)) ?_
                                        refine ev_r_iconst (pc := 1269) (k := 3) (by decide +kernel) ?_
                                        refine ev_r_iadd (pc := 1270) (by decide +kernel) ?_
                                        intro x469 hx469
                                        refine ev_r_xald (pc := 1271) hx469 (by decide +kernel) ?_
                                        intro x470 hx470
                                        refine ev_r_virt (pc := 1272) (y := 187) (mi := 335) (na := 3) (k := 621) (as := [.int (Int32.ofInt x466), .int (Int32.ofInt x468), .int (Int32.ofInt x470)]) (rest := []) (encc := ev_oI) (Q := ev_rng) (fun x S1 h => jt_335 12 (by omega) Q x466 x468 x470 hx466 hx468 hx470 s463 x S1 h) (by exact ev_ob_621) (by decide +kernel) (by decide +kernel) (by decide +kernel) (by decide +kernel) rfl (by (try simp only [ev_sum, ev_nv_cat]); first | done | rfl) ?_
                                        intro x472 s471 hx472
                                        show ev_w _ _ _ _ _ [.int (Int32.ofInt x472)] _ _ _ _
                                        refine ev_r_istore (pc := 1275) (k := 6) (by decide +kernel) (by decide +kernel) rfl ?_
                                        refine ev_r_aload_n (pc := 1277) (k := 2) (v := .ref 621) trivial (by decide +kernel) (by exact (ev_l1 (ev_l1 e5 (by decide) (by decide)) (by decide) (by decide))) ?_
                                        refine ev_r_virt (pc := 1278) (y := 131) (mi := 220) (na := 0) (k := 621) (as := []) (rest := []) (encc := ev_oI) (Q := ev_rng) (fun x S1 h => jt_220 12 (by omega) Q   s471 x S1 h) (by exact ev_ob_621) (by decide +kernel) (by decide +kernel) (by decide +kernel) (by decide +kernel) rfl (by (try simp only [ev_sum, ev_nv_cat]); first | done | rfl) ?_
                                        intro x474 s473 hx474
                                        show ev_w _ _ _ _ _ [.int (Int32.ofInt x474)] _ _ _ _
                                        refine ev_r_iload (pc := 1281) (k := 5) (v := Int32.ofInt x464) (by decide +kernel) (by exact (ev_lk_st1 ev_lk_st1_self (by decide) rfl)) ?_
                                        refine ev_r_icmp (pc := 1283) (q := .eq) (o := 5) (t := 1288) (c := x474 = x464) (by decide +kernel) (ev_k_eq hx474 hx464) (by decide +kernel) ?_ ?_
                                        · intro c475
                                          refine ev_r_iload (pc := 1288) (k := 5) (v := Int32.ofInt x464) (by decide +kernel) (by exact (ev_lk_st1 ev_lk_st1_self (by decide) rfl)) ?_
                                          refine ev_r_jn (Q := fun K => ∀ (s482 : ev_St) (w476 : List (Nat × Value)), ev_lk w476 0 = some (.retAddr 0) → ev_lk w476 1 = some (.ref 0) → ev_lk w476 2 = some (.ref 621) → ev_lk w476 3 = some (.ref 723) → ev_lk w476 4 = some (.int (Int32.ofInt x1)) → ev_w (some (L, xs)) ev_Mlaw 12 1305 w476 [] s482 (K  s482) ev_eI ev_bl) ?_ ?_
                                          · intro  s482 w476 e477 e478 e479 e480 e481
                                            refine ev_r_goto (pc := 1305) (o := 967) (t := 2272) (by decide +kernel) (by decide +kernel) ?_
                                            exact hK2272  s482 _ (by exact e477) (by exact e478) (by exact e479) (by exact e480) (by exact e481)
                                          · intro K1305 hK1305
                                            refine ev_r_if (pc := 1290) (q := .ne) (o := 15) (t := 1305) (c := x464 ≠ 0) (by decide +kernel) (ev_k_ne hx464 ev_rng0) (by decide +kernel) ?_ ?_
                                            · intro c483
                                              exact hK1305  s473 _ (by exact (ev_l1 (ev_l1 e3 (by decide) (by decide)) (by decide) (by decide))) (by exact (ev_l1 (ev_l1 e4 (by decide) (by decide)) (by decide) (by decide))) (by exact (ev_l1 (ev_l1 e5 (by decide) (by decide)) (by decide) (by decide))) (by exact (ev_l1 (ev_l1 e6 (by decide) (by decide)) (by decide) (by decide))) (by exact (ev_l1 (ev_lk_st1 e7 (by decide) rfl) (by decide) (by decide)))
                                            · intro c483
                                              refine ev_r_aload_n (pc := 1293) (k := 3) (v := .ref 723) trivial (by decide +kernel) (by exact (ev_l1 (ev_l1 e6 (by decide) (by decide)) (by decide) (by decide))) ?_
                                              refine ev_r_iconst (pc := 1294) (k := 0) (by decide +kernel) ?_
                                              refine ev_r_lald (pc := 1295) (by decide) (by decide +kernel) (by exact ev_ab_723) ?_
                                              intro y484
                                              refine ev_r_iload (pc := 1296) (k := 6) (v := Int32.ofInt x472) (by decide +kernel) (by exact ev_lk_st1_self) ?_
                                              refine ev_r_toL (pc := 1298) (i := .i2l) (len := 1) (pc' := 1299) (by decide +kernel) rfl ?_
                                              intro y485
                                              refine ev_r_toI (pc := 1299) (i := .lcmp) (len := 1) (pc' := 1300) (by decide +kernel) rfl ?_
                                              intro x486 hx486
                                              refine ev_r_if (pc := 1300) (q := .eq) (o := 5) (t := 1305) (c := x486 = 0) (by decide +kernel) (ev_k_eq hx486 ev_rng0) (by decide +kernel) ?_ ?_
                                              · intro c487
                                                exact hK1305  s473 _ (by exact (ev_l1 (ev_l1 e3 (by decide) (by decide)) (by decide) (by decide))) (by exact (ev_l1 (ev_l1 e4 (by decide) (by decide)) (by decide) (by decide))) (by exact (ev_l1 (ev_l1 e5 (by decide) (by decide)) (by decide) (by decide))) (by exact (ev_l1 (ev_l1 e6 (by decide) (by decide)) (by decide) (by decide))) (by exact (ev_l1 (ev_lk_st1 e7 (by decide) rfl) (by decide) (by decide)))
                                              · intro c487
                                                refine ev_r_iconst (pc := 1303) (k := 0) (by decide +kernel) ?_
                                                exact ev_r_ireturn (pc := 1304) (x := 0) (v := Int32.ofInt 0) (ty := .boolean) (by decide : ev_bl 0) (by decide +kernel) (by decide +kernel) (ev_ret_bl (by decide : ev_bl 0)) rfl
                                        · intro c475
                                          refine ev_r_iconst (pc := 1286) (k := 0) (by decide +kernel) ?_
                                          exact ev_r_ireturn (pc := 1287) (x := 0) (v := Int32.ofInt 0) (ty := .boolean) (by decide : ev_bl 0) (by decide +kernel) (by decide +kernel) (ev_ret_bl (by decide : ev_bl 0)) rfl
                                      · intro c456
                                        refine ev_r_ite ?_ ?_
                                        · intro c488
                                          refine ev_r_sw (pc := 40) (i := (.tableswitch 2232 0 32 #[148, 204, 217, 273, 317, 361, 417, 473, 548, 616, 672, 764, 856, 960, 1040, 1120, 1188, 1268, 1324, 1380, 1448, 1540, 1636, 1692, 1736, 1780, 1824, 1868, 1912, 1980, 2064, 2120, 2176])) (len := 148) (pc' := 1308) (by decide +kernel) (by rw [c488]; rw [ev_pure_tsw]; exact ev_tsw_c (o := 1268) (by decide) (by decide) rfl (by decide +kernel)) ?_
                                          unfold ja_1308
                                          refine ev_r_aload_n (pc := 1308) (k := 1) (v := .ref 0) trivial (by decide +kernel) (by exact e4) ?_
                                          refine ev_r_aload_n (pc := 1309) (k := 0) (v := .retAddr 0) trivial (by decide +kernel) (by exact e3) ?_
                                          refine ev_r_iload (pc := 1310) (k := 4) (v := Int32.ofInt x1) (by decide +kernel) (by exact e7) ?_
                                          refine ev_r_iconst (pc := 1312) (k := 1) (by decide +kernel) ?_
                                          refine ev_r_iadd (pc := 1313) (by decide +kernel) ?_
                                          intro x489 hx489
                                          refine ev_r_xald (pc := 1314) hx489 (by decide +kernel) ?_
                                          intro x490 hx490
                                          refine ev_r_aload_n (pc := 1315) (k := 3) (v := .ref 723) trivial (by decide +kernel) (by exact e6) ?_
                                          refine ev_r_stat (pc := 1316) (y := 188) (kind := 8) (mi := 380) (na := 3) (as := [ev_nv ((0 + 1)), .int (Int32.ofInt x490), ev_nv ((723 + 1))]) (rest := []) (encc := ev_oI) (Q := ev_rng) (fun x S1 h => jt_380 12 (by omega) Q ((0 + 1)) x490 ((723 + 1)) (by exact (Or.inr ev_ob_0)) hx490 (by exact (Or.inr ev_ab_723)) s8 x S1 h) (Or.inr (Or.inr rfl)) (by decide +kernel) (by decide +kernel) (by decide +kernel) (by decide +kernel) rfl (by (try simp only [ev_sum, ev_nv_cat]); first | done | rfl) ?_
                                          intro x492 s491 hx492
                                          show ev_w _ _ _ _ _ [.int (Int32.ofInt x492)] _ _ _ _
                                          refine ev_r_istore (pc := 1319) (k := 5) (by decide +kernel) (by decide +kernel) rfl ?_
                                          refine ev_r_aload_n (pc := 1321) (k := 2) (v := .ref 621) trivial (by decide +kernel) (by exact (ev_l1 e5 (by decide) (by decide))) ?_
                                          refine ev_r_aload_n (pc := 1322) (k := 0) (v := .retAddr 0) trivial (by decide +kernel) (by exact (ev_l1 e3 (by decide) (by decide))) ?_
                                          refine ev_r_iload (pc := 1323) (k := 4) (v := Int32.ofInt x1) (by decide +kernel) (by exact (ev_lk_st1 e7 (by decide) rfl)) ?_
                                          refine ev_r_iconst (pc := 1325) (k := 1) (by decide +kernel) ?_
                                          refine ev_r_iadd (pc := 1326) (by decide +kernel) ?_
                                          intro x493 hx493
                                          refine ev_r_xald (pc := 1327) hx493 (by decide +kernel) ?_
                                          intro x494 hx494
                                          refine ev_r_virt (pc := 1328) (y := 190) (mi := 346) (na := 1) (k := 621) (as := [.int (Int32.ofInt x494)]) (rest := []) (encc := ev_oI) (Q := ev_rng) (fun x S1 h => jt_346 12 (by omega) Q x494 hx494 s491 x S1 h) (by exact ev_ob_621) (by decide +kernel) (by decide +kernel) (by decide +kernel) (by decide +kernel) rfl (by (try simp only [ev_sum, ev_nv_cat]); first | done | rfl) ?_
                                          intro x496 s495 hx496
                                          show ev_w _ _ _ _ _ [.int (Int32.ofInt x496)] _ _ _ _
                                          refine ev_r_istore (pc := 1331) (k := 6) (by decide +kernel) (by decide +kernel) rfl ?_
                                          refine ev_r_aload_n (pc := 1333) (k := 2) (v := .ref 621) trivial (by decide +kernel) (by exact (ev_l1 (ev_l1 e5 (by decide) (by decide)) (by decide) (by decide))) ?_
                                          refine ev_r_virt (pc := 1334) (y := 131) (mi := 220) (na := 0) (k := 621) (as := []) (rest := []) (encc := ev_oI) (Q := ev_rng) (fun x S1 h => jt_220 12 (by omega) Q   s495 x S1 h) (by exact ev_ob_621) (by decide +kernel) (by decide +kernel) (by decide +kernel) (by decide +kernel) rfl (by (try simp only [ev_sum, ev_nv_cat]); first | done | rfl) ?_
                                          intro x498 s497 hx498
                                          show ev_w _ _ _ _ _ [.int (Int32.ofInt x498)] _ _ _ _
                                          refine ev_r_iload (pc := 1337) (k := 5) (v := Int32.ofInt x492) (by decide +kernel) (by exact (ev_lk_st1 ev_lk_st1_self (by decide) rfl)) ?_
                                          refine ev_r_icmp (pc := 1339) (q := .eq) (o := 5) (t := 1344) (c := x498 = x492) (by decide +kernel) (ev_k_eq hx498 hx492) (by decide +kernel) ?_ ?_
                                          · intro c499
                                            refine ev_r_iload (pc := 1344) (k := 5) (v := Int32.ofInt x492) (by decide +kernel) (by exact (ev_lk_st1 ev_lk_st1_self (by decide) rfl)) ?_
                                            refine ev_r_jn (Q := fun K => ∀ (s506 : ev_St) (w500 : List (Nat × Value)), ev_lk w500 0 = some (.retAddr 0) → ev_lk w500 1 = some (.ref 0) → ev_lk w500 2 = some (.ref 621) → ev_lk w500 3 = some (.ref 723) → ev_lk w500 4 = some (.int (Int32.ofInt x1)) → ev_w (some (L, xs)) ev_Mlaw 12 1361 w500 [] s506 (K  s506) ev_eI ev_bl) ?_ ?_
                                            · intro  s506 w500 e501 e502 e503 e504 e505
                                              refine ev_r_goto (pc := 1361) (o := 911) (t := 2272) (by decide +kernel) (by decide +kernel) ?_
                                              exact hK2272  s506 _ (by exact e501) (by exact e502) (by exact e503) (by exact e504) (by exact e505)
                                            · intro K1361 hK1361
                                              refine ev_r_if (pc := 1346) (q := .ne) (o := 15) (t := 1361) (c := x492 ≠ 0) (by decide +kernel) (ev_k_ne hx492 ev_rng0) (by decide +kernel) ?_ ?_
                                              · intro c507
                                                exact hK1361  s497 _ (by exact (ev_l1 (ev_l1 e3 (by decide) (by decide)) (by decide) (by decide))) (by exact (ev_l1 (ev_l1 e4 (by decide) (by decide)) (by decide) (by decide))) (by exact (ev_l1 (ev_l1 e5 (by decide) (by decide)) (by decide) (by decide))) (by exact (ev_l1 (ev_l1 e6 (by decide) (by decide)) (by decide) (by decide))) (by exact (ev_l1 (ev_lk_st1 e7 (by decide) rfl) (by decide) (by decide)))
                                              · intro c507
                                                refine ev_r_aload_n (pc := 1349) (k := 3) (v := .ref 723) trivial (by decide +kernel) (by exact (ev_l1 (ev_l1 e6 (by decide) (by decide)) (by decide) (by decide))) ?_
                                                refine ev_r_iconst (pc := 1350) (k := 0) (by decide +kernel) ?_
                                                refine ev_r_lald (pc := 1351) (by decide) (by decide +kernel) (by exact ev_ab_723) ?_
                                                intro y508
                                                refine ev_r_iload (pc := 1352) (k := 6) (v := Int32.ofInt x496) (by decide +kernel) (by exact ev_lk_st1_self) ?_
                                                refine ev_r_toL (pc := 1354) (i := .i2l) (len := 1) (pc' := 1355) (by decide +kernel) rfl ?_
                                                intro y509
                                                refine ev_r_toI (pc := 1355) (i := .lcmp) (len := 1) (pc' := 1356) (by decide +kernel) rfl ?_
                                                intro x510 hx510
                                                refine ev_r_if (pc := 1356) (q := .eq) (o := 5) (t := 1361) (c := x510 = 0) (by decide +kernel) (ev_k_eq hx510 ev_rng0) (by decide +kernel) ?_ ?_
                                                · intro c511
                                                  exact hK1361  s497 _ (by exact (ev_l1 (ev_l1 e3 (by decide) (by decide)) (by decide) (by decide))) (by exact (ev_l1 (ev_l1 e4 (by decide) (by decide)) (by decide) (by decide))) (by exact (ev_l1 (ev_l1 e5 (by decide) (by decide)) (by decide) (by decide))) (by exact (ev_l1 (ev_l1 e6 (by decide) (by decide)) (by decide) (by decide))) (by exact (ev_l1 (ev_lk_st1 e7 (by decide) rfl) (by decide) (by decide)))
                                                · intro c511
                                                  refine ev_r_iconst (pc := 1359) (k := 0) (by decide +kernel) ?_
                                                  exact ev_r_ireturn (pc := 1360) (x := 0) (v := Int32.ofInt 0) (ty := .boolean) (by decide : ev_bl 0) (by decide +kernel) (by decide +kernel) (ev_ret_bl (by decide : ev_bl 0)) rfl
                                          · intro c499
                                            refine ev_r_iconst (pc := 1342) (k := 0) (by decide +kernel) ?_
                                            exact ev_r_ireturn (pc := 1343) (x := 0) (v := Int32.ofInt 0) (ty := .boolean) (by decide : ev_bl 0) (by decide +kernel) (by decide +kernel) (ev_ret_bl (by decide : ev_bl 0)) rfl
                                        · intro c488
                                          refine ev_r_ite ?_ ?_
                                          · intro c512
                                            refine ev_r_sw (pc := 40) (i := (.tableswitch 2232 0 32 #[148, 204, 217, 273, 317, 361, 417, 473, 548, 616, 672, 764, 856, 960, 1040, 1120, 1188, 1268, 1324, 1380, 1448, 1540, 1636, 1692, 1736, 1780, 1824, 1868, 1912, 1980, 2064, 2120, 2176])) (len := 148) (pc' := 1364) (by decide +kernel) (by rw [c512]; rw [ev_pure_tsw]; exact ev_tsw_c (o := 1324) (by decide) (by decide) rfl (by decide +kernel)) ?_
                                            unfold ja_1364
                                            refine ev_r_aload_n (pc := 1364) (k := 1) (v := .ref 0) trivial (by decide +kernel) (by exact e4) ?_
                                            refine ev_r_aload_n (pc := 1365) (k := 0) (v := .retAddr 0) trivial (by decide +kernel) (by exact e3) ?_
                                            refine ev_r_iload (pc := 1366) (k := 4) (v := Int32.ofInt x1) (by decide +kernel) (by exact e7) ?_
                                            refine ev_r_iconst (pc := 1368) (k := 1) (by decide +kernel) ?_
                                            refine ev_r_iadd (pc := 1369) (by decide +kernel) ?_
                                            intro x513 hx513
                                            refine ev_r_xald (pc := 1370) hx513 (by decide +kernel) ?_
                                            intro x514 hx514
                                            refine ev_r_aload_n (pc := 1371) (k := 3) (v := .ref 723) trivial (by decide +kernel) (by exact e6) ?_
                                            refine ev_r_stat (pc := 1372) (y := 191) (kind := 8) (mi := 381) (na := 3) (as := [ev_nv ((0 + 1)), .int (Int32.ofInt x514), ev_nv ((723 + 1))]) (rest := []) (encc := ev_oI) (Q := ev_rng) (fun x S1 h => jt_381 12 (by omega) Q ((0 + 1)) x514 ((723 + 1)) (by exact (Or.inr ev_ob_0)) hx514 (by exact (Or.inr ev_ab_723)) s8 x S1 h) (Or.inr (Or.inr rfl)) (by decide +kernel) (by decide +kernel) (by decide +kernel) (by decide +kernel) rfl (by (try simp only [ev_sum, ev_nv_cat]); first | done | rfl) ?_
                                            intro x516 s515 hx516
                                            show ev_w _ _ _ _ _ [.int (Int32.ofInt x516)] _ _ _ _
                                            refine ev_r_istore (pc := 1375) (k := 5) (by decide +kernel) (by decide +kernel) rfl ?_
                                            refine ev_r_aload_n (pc := 1377) (k := 2) (v := .ref 621) trivial (by decide +kernel) (by exact (ev_l1 e5 (by decide) (by decide))) ?_
                                            refine ev_r_aload_n (pc := 1378) (k := 0) (v := .retAddr 0) trivial (by decide +kernel) (by exact (ev_l1 e3 (by decide) (by decide))) ?_
                                            refine ev_r_iload (pc := 1379) (k := 4) (v := Int32.ofInt x1) (by decide +kernel) (by exact (ev_lk_st1 e7 (by decide) rfl)) ?_
                                            refine ev_r_iconst (pc := 1381) (k := 1) (by decide +kernel) ?_
                                            refine ev_r_iadd (pc := 1382) (by decide +kernel) ?_
                                            intro x517 hx517
                                            refine ev_r_xald (pc := 1383) hx517 (by decide +kernel) ?_
                                            intro x518 hx518
                                            refine ev_r_virt (pc := 1384) (y := 193) (mi := 347) (na := 1) (k := 621) (as := [.int (Int32.ofInt x518)]) (rest := []) (encc := ev_oI) (Q := ev_rng) (fun x S1 h => jt_347 12 (by omega) Q x518 hx518 s515 x S1 h) (by exact ev_ob_621) (by decide +kernel) (by decide +kernel) (by decide +kernel) (by decide +kernel) rfl (by (try simp only [ev_sum, ev_nv_cat]); first | done | rfl) ?_
                                            intro x520 s519 hx520
                                            show ev_w _ _ _ _ _ [.int (Int32.ofInt x520)] _ _ _ _
                                            refine ev_r_istore (pc := 1387) (k := 6) (by decide +kernel) (by decide +kernel) rfl ?_
                                            refine ev_r_aload_n (pc := 1389) (k := 2) (v := .ref 621) trivial (by decide +kernel) (by exact (ev_l1 (ev_l1 e5 (by decide) (by decide)) (by decide) (by decide))) ?_
                                            refine ev_r_virt (pc := 1390) (y := 131) (mi := 220) (na := 0) (k := 621) (as := []) (rest := []) (encc := ev_oI) (Q := ev_rng) (fun x S1 h => jt_220 12 (by omega) Q   s519 x S1 h) (by exact ev_ob_621) (by decide +kernel) (by decide +kernel) (by decide +kernel) (by decide +kernel) rfl (by (try simp only [ev_sum, ev_nv_cat]); first | done | rfl) ?_
                                            intro x522 s521 hx522
                                            show ev_w _ _ _ _ _ [.int (Int32.ofInt x522)] _ _ _ _
                                            refine ev_r_iload (pc := 1393) (k := 5) (v := Int32.ofInt x516) (by decide +kernel) (by exact (ev_lk_st1 ev_lk_st1_self (by decide) rfl)) ?_
                                            refine ev_r_icmp (pc := 1395) (q := .eq) (o := 5) (t := 1400) (c := x522 = x516) (by decide +kernel) (ev_k_eq hx522 hx516) (by decide +kernel) ?_ ?_
                                            · intro c523
                                              refine ev_r_iload (pc := 1400) (k := 5) (v := Int32.ofInt x516) (by decide +kernel) (by exact (ev_lk_st1 ev_lk_st1_self (by decide) rfl)) ?_
                                              refine ev_r_jn (Q := fun K => ∀ (s530 : ev_St) (w524 : List (Nat × Value)), ev_lk w524 0 = some (.retAddr 0) → ev_lk w524 1 = some (.ref 0) → ev_lk w524 2 = some (.ref 621) → ev_lk w524 3 = some (.ref 723) → ev_lk w524 4 = some (.int (Int32.ofInt x1)) → ev_w (some (L, xs)) ev_Mlaw 12 1417 w524 [] s530 (K  s530) ev_eI ev_bl) ?_ ?_
                                              · intro  s530 w524 e525 e526 e527 e528 e529
                                                refine ev_r_goto (pc := 1417) (o := 855) (t := 2272) (by decide +kernel) (by decide +kernel) ?_
                                                exact hK2272  s530 _ (by exact e525) (by exact e526) (by exact e527) (by exact e528) (by exact e529)
                                              · intro K1417 hK1417
                                                refine ev_r_if (pc := 1402) (q := .ne) (o := 15) (t := 1417) (c := x516 ≠ 0) (by decide +kernel) (ev_k_ne hx516 ev_rng0) (by decide +kernel) ?_ ?_
                                                · intro c531
                                                  exact hK1417  s521 _ (by exact (ev_l1 (ev_l1 e3 (by decide) (by decide)) (by decide) (by decide))) (by exact (ev_l1 (ev_l1 e4 (by decide) (by decide)) (by decide) (by decide))) (by exact (ev_l1 (ev_l1 e5 (by decide) (by decide)) (by decide) (by decide))) (by exact (ev_l1 (ev_l1 e6 (by decide) (by decide)) (by decide) (by decide))) (by exact (ev_l1 (ev_lk_st1 e7 (by decide) rfl) (by decide) (by decide)))
                                                · intro c531
                                                  refine ev_r_aload_n (pc := 1405) (k := 3) (v := .ref 723) trivial (by decide +kernel) (by exact (ev_l1 (ev_l1 e6 (by decide) (by decide)) (by decide) (by decide))) ?_
                                                  refine ev_r_iconst (pc := 1406) (k := 0) (by decide +kernel) ?_
                                                  refine ev_r_lald (pc := 1407) (by decide) (by decide +kernel) (by exact ev_ab_723) ?_
                                                  intro y532
                                                  refine ev_r_iload (pc := 1408) (k := 6) (v := Int32.ofInt x520) (by decide +kernel) (by exact ev_lk_st1_self) ?_
                                                  refine ev_r_toL (pc := 1410) (i := .i2l) (len := 1) (pc' := 1411) (by decide +kernel) rfl ?_
                                                  intro y533
                                                  refine ev_r_toI (pc := 1411) (i := .lcmp) (len := 1) (pc' := 1412) (by decide +kernel) rfl ?_
                                                  intro x534 hx534
                                                  refine ev_r_if (pc := 1412) (q := .eq) (o := 5) (t := 1417) (c := x534 = 0) (by decide +kernel) (ev_k_eq hx534 ev_rng0) (by decide +kernel) ?_ ?_
                                                  · intro c535
                                                    exact hK1417  s521 _ (by exact (ev_l1 (ev_l1 e3 (by decide) (by decide)) (by decide) (by decide))) (by exact (ev_l1 (ev_l1 e4 (by decide) (by decide)) (by decide) (by decide))) (by exact (ev_l1 (ev_l1 e5 (by decide) (by decide)) (by decide) (by decide))) (by exact (ev_l1 (ev_l1 e6 (by decide) (by decide)) (by decide) (by decide))) (by exact (ev_l1 (ev_lk_st1 e7 (by decide) rfl) (by decide) (by decide)))
                                                  · intro c535
                                                    refine ev_r_iconst (pc := 1415) (k := 0) (by decide +kernel) ?_
                                                    exact ev_r_ireturn (pc := 1416) (x := 0) (v := Int32.ofInt 0) (ty := .boolean) (by decide : ev_bl 0) (by decide +kernel) (by decide +kernel) (ev_ret_bl (by decide : ev_bl 0)) rfl
                                            · intro c523
                                              refine ev_r_iconst (pc := 1398) (k := 0) (by decide +kernel) ?_
                                              exact ev_r_ireturn (pc := 1399) (x := 0) (v := Int32.ofInt 0) (ty := .boolean) (by decide : ev_bl 0) (by decide +kernel) (by decide +kernel) (ev_ret_bl (by decide : ev_bl 0)) rfl
                                          · intro c512
                                            refine ev_r_ite ?_ ?_
                                            · intro c536
                                              refine ev_r_sw (pc := 40) (i := (.tableswitch 2232 0 32 #[148, 204, 217, 273, 317, 361, 417, 473, 548, 616, 672, 764, 856, 960, 1040, 1120, 1188, 1268, 1324, 1380, 1448, 1540, 1636, 1692, 1736, 1780, 1824, 1868, 1912, 1980, 2064, 2120, 2176])) (len := 148) (pc' := 1420) (by decide +kernel) (by rw [c536]; rw [ev_pure_tsw]; exact ev_tsw_c (o := 1380) (by decide) (by decide) rfl (by decide +kernel)) ?_
                                              unfold ja_1420
                                              refine ev_r_aload_n (pc := 1420) (k := 1) (v := .ref 0) trivial (by decide +kernel) (by exact e4) ?_
                                              refine ev_r_aload_n (pc := 1421) (k := 0) (v := .retAddr 0) trivial (by decide +kernel) (by exact e3) ?_
                                              refine ev_r_iload (pc := 1422) (k := 4) (v := Int32.ofInt x1) (by decide +kernel) (by exact e7) ?_
                                              refine ev_r_iconst (pc := 1424) (k := 1) (by decide +kernel) ?_
                                              refine ev_r_iadd (pc := 1425) (by decide +kernel) ?_
                                              intro x537 hx537
                                              refine ev_r_xald (pc := 1426) hx537 (by decide +kernel) ?_
                                              intro x538 hx538
                                              refine ev_r_aload_n (pc := 1427) (k := 0) (v := .retAddr 0) trivial (by decide +kernel) (by exact e3) ?_
                                              refine ev_r_iload (pc := 1428) (k := 4) (v := Int32.ofInt x1) (by decide +kernel) (by exact e7) ?_
                                              refine ev_r_iconst (pc := 1430) (k := 2) (by decide +kernel) ?_
                                              refine ev_r_iadd (pc := 1431) (by decide +kernel) ?_
                                              intro x539 hx539
                                              refine ev_r_xald (pc := 1432) hx539 (by decide +kernel) ?_
                                              intro x540 hx540
                                              refine ev_r_aload_n (pc := 1433) (k := 3) (v := .ref 723) trivial (by decide +kernel) (by exact e6) ?_
                                              refine ev_r_stat (pc := 1434) (y := 194) (kind := 8) (mi := 382) (na := 4) (as := [ev_nv ((0 + 1)), .int (Int32.ofInt x538), .int (Int32.ofInt x540), ev_nv ((723 + 1))]) (rest := []) (encc := ev_oI) (Q := ev_rng) (fun x S1 h => jt_382 12 (by omega) Q ((0 + 1)) x538 x540 ((723 + 1)) (by exact (Or.inr ev_ob_0)) hx538 hx540 (by exact (Or.inr ev_ab_723)) s8 x S1 h) (Or.inr (Or.inr rfl)) (by decide +kernel) (by decide +kernel) (by decide +kernel) (by decide +kernel) rfl (by (try simp only [ev_sum, ev_nv_cat]); first | done | rfl) ?_
                                              intro x542 s541 hx542
                                              show ev_w _ _ _ _ _ [.int (Int32.ofInt x542)] _ _ _ _
                                              refine ev_r_istore (pc := 1437) (k := 5) (by decide +kernel) (by decide +kernel) rfl ?_
                                              refine ev_r_aload_n (pc := 1439) (k := 2) (v := .ref 621) trivial (by decide +kernel) (by exact (ev_l1 e5 (by decide) (by decide))) ?_
                                              refine ev_r_aload_n (pc := 1440) (k := 0) (v := .retAddr 0) trivial (by decide +kernel) (by exact (ev_l1 e3 (by decide) (by decide))) ?_
                                              refine ev_r_iload (pc := 1441) (k := 4) (v := Int32.ofInt x1) (by decide +kernel) (by exact (ev_lk_st1 e7 (by decide) rfl)) ?_
                                              refine ev_r_iconst (pc := 1443) (k := 1) (by decide +kernel) ?_
                                              refine ev_r_iadd (pc := 1444) (by decide +kernel) ?_
                                              intro x543 hx543
                                              refine ev_r_xald (pc := 1445) hx543 (by decide +kernel) ?_
                                              intro x544 hx544
                                              refine ev_r_aload_n (pc := 1446) (k := 0) (v := .retAddr 0) trivial (by decide +kernel) (by exact (ev_l1 e3 (by decide) (by decide))) ?_
                                              refine ev_r_iload (pc := 1447) (k := 4) (v := Int32.ofInt x1) (by decide +kernel) (by exact (ev_lk_st1 e7 (by decide) rfl)) ?_
                                              refine ev_r_iconst (pc := 1449) (k := 2) (by decide +kernel) ?_
                                              refine ev_r_iadd (pc := 1450) (by decide +kernel) ?_
                                              intro x545 hx545
                                              refine ev_r_xald (pc := 1451) hx545 (by decide +kernel) ?_
                                              intro x546 hx546
                                              refine ev_r_virt (pc := 1452) (y := 196) (mi := 348) (na := 2) (k := 621) (as := [.int (Int32.ofInt x544), .int (Int32.ofInt x546)]) (rest := []) (encc := ev_oI) (Q := ev_rng) (fun x S1 h => jt_348 12 (by omega) Q x544 x546 hx544 hx546 s541 x S1 h) (by exact ev_ob_621) (by decide +kernel) (by decide +kernel) (by decide +kernel) (by decide +kernel) rfl (by (try simp only [ev_sum, ev_nv_cat]); first | done | rfl) ?_
                                              intro x548 s547 hx548
                                              show ev_w _ _ _ _ _ [.int (Int32.ofInt x548)] _ _ _ _
                                              refine ev_r_istore (pc := 1455) (k := 6) (by decide +kernel) (by decide +kernel) rfl ?_
                                              refine ev_r_aload_n (pc := 1457) (k := 2) (v := .ref 621) trivial (by decide +kernel) (by exact (ev_l1 (ev_l1 e5 (by decide) (by decide)) (by decide) (by decide))) ?_
                                              refine ev_r_virt (pc := 1458) (y := 131) (mi := 220) (na := 0) (k := 621) (as := []) (rest := []) (encc := ev_oI) (Q := ev_rng) (fun x S1 h => jt_220 12 (by omega) Q   s547 x S1 h) (by exact ev_ob_621) (by decide +kernel) (by decide +kernel) (by decide +kernel) (by decide +kernel) rfl (by (try simp only [ev_sum, ev_nv_cat]); first | done | rfl) ?_
                                              intro x550 s549 hx550
                                              show ev_w _ _ _ _ _ [.int (Int32.ofInt x550)] _ _ _ _
                                              refine ev_r_iload (pc := 1461) (k := 5) (v := Int32.ofInt x542) (by decide +kernel) (by exact (ev_lk_st1 ev_lk_st1_self (by decide) rfl)) ?_
                                              refine ev_r_icmp (pc := 1463) (q := .eq) (o := 5) (t := 1468) (c := x550 = x542) (by decide +kernel) (ev_k_eq hx550 hx542) (by decide +kernel) ?_ ?_
                                              · intro c551
                                                refine ev_r_iload (pc := 1468) (k := 5) (v := Int32.ofInt x542) (by decide +kernel) (by exact (ev_lk_st1 ev_lk_st1_self (by decide) rfl)) ?_
                                                refine ev_r_jn (Q := fun K => ∀ (s558 : ev_St) (w552 : List (Nat × Value)), ev_lk w552 0 = some (.retAddr 0) → ev_lk w552 1 = some (.ref 0) → ev_lk w552 2 = some (.ref 621) → ev_lk w552 3 = some (.ref 723) → ev_lk w552 4 = some (.int (Int32.ofInt x1)) → ev_w (some (L, xs)) ev_Mlaw 12 1485 w552 [] s558 (K  s558) ev_eI ev_bl) ?_ ?_
                                                · intro  s558 w552 e553 e554 e555 e556 e557
                                                  refine ev_r_goto (pc := 1485) (o := 787) (t := 2272) (by decide +kernel) (by decide +kernel) ?_
                                                  exact hK2272  s558 _ (by exact e553) (by exact e554) (by exact e555) (by exact e556) (by exact e557)
                                                · intro K1485 hK1485
                                                  refine ev_r_if (pc := 1470) (q := .ne) (o := 15) (t := 1485) (c := x542 ≠ 0) (by decide +kernel) (ev_k_ne hx542 ev_rng0) (by decide +kernel) ?_ ?_
                                                  · intro c559
                                                    exact hK1485  s549 _ (by exact (ev_l1 (ev_l1 e3 (by decide) (by decide)) (by decide) (by decide))) (by exact (ev_l1 (ev_l1 e4 (by decide) (by decide)) (by decide) (by decide))) (by exact (ev_l1 (ev_l1 e5 (by decide) (by decide)) (by decide) (by decide))) (by exact (ev_l1 (ev_l1 e6 (by decide) (by decide)) (by decide) (by decide))) (by exact (ev_l1 (ev_lk_st1 e7 (by decide) rfl) (by decide) (by decide)))
                                                  · intro c559
                                                    refine ev_r_aload_n (pc := 1473) (k := 3) (v := .ref 723) trivial (by decide +kernel) (by exact (ev_l1 (ev_l1 e6 (by decide) (by decide)) (by decide) (by decide))) ?_
                                                    refine ev_r_iconst (pc := 1474) (k := 0) (by decide +kernel) ?_
                                                    refine ev_r_lald (pc := 1475) (by decide) (by decide +kernel) (by exact ev_ab_723) ?_
                                                    intro y560
                                                    refine ev_r_iload (pc := 1476) (k := 6) (v := Int32.ofInt x548) (by decide +kernel) (by exact ev_lk_st1_self) ?_
                                                    refine ev_r_toL (pc := 1478) (i := .i2l) (len := 1) (pc' := 1479) (by decide +kernel) rfl ?_
                                                    intro y561
                                                    refine ev_r_toI (pc := 1479) (i := .lcmp) (len := 1) (pc' := 1480) (by decide +kernel) rfl ?_
                                                    intro x562 hx562
                                                    refine ev_r_if (pc := 1480) (q := .eq) (o := 5) (t := 1485) (c := x562 = 0) (by decide +kernel) (ev_k_eq hx562 ev_rng0) (by decide +kernel) ?_ ?_
                                                    · intro c563
                                                      exact hK1485  s549 _ (by exact (ev_l1 (ev_l1 e3 (by decide) (by decide)) (by decide) (by decide))) (by exact (ev_l1 (ev_l1 e4 (by decide) (by decide)) (by decide) (by decide))) (by exact (ev_l1 (ev_l1 e5 (by decide) (by decide)) (by decide) (by decide))) (by exact (ev_l1 (ev_l1 e6 (by decide) (by decide)) (by decide) (by decide))) (by exact (ev_l1 (ev_lk_st1 e7 (by decide) rfl) (by decide) (by decide)))
                                                    · intro c563
                                                      refine ev_r_iconst (pc := 1483) (k := 0) (by decide +kernel) ?_
                                                      exact ev_r_ireturn (pc := 1484) (x := 0) (v := Int32.ofInt 0) (ty := .boolean) (by decide : ev_bl 0) (by decide +kernel) (by decide +kernel) (ev_ret_bl (by decide : ev_bl 0)) rfl
                                              · intro c551
                                                refine ev_r_iconst (pc := 1466) (k := 0) (by decide +kernel) ?_
                                                exact ev_r_ireturn (pc := 1467) (x := 0) (v := Int32.ofInt 0) (ty := .boolean) (by decide : ev_bl 0) (by decide +kernel) (by decide +kernel) (ev_ret_bl (by decide : ev_bl 0)) rfl
                                            · intro c536
                                              refine ev_r_ite ?_ ?_
                                              · intro c564
                                                refine ev_r_sw (pc := 40) (i := (.tableswitch 2232 0 32 #[148, 204, 217, 273, 317, 361, 417, 473, 548, 616, 672, 764, 856, 960, 1040, 1120, 1188, 1268, 1324, 1380, 1448, 1540, 1636, 1692, 1736, 1780, 1824, 1868, 1912, 1980, 2064, 2120, 2176])) (len := 148) (pc' := 1488) (by decide +kernel) (by rw [c564]; rw [ev_pure_tsw]; exact ev_tsw_c (o := 1448) (by decide) (by decide) rfl (by decide +kernel)) ?_
                                                unfold ja_1488
                                                refine ev_r_aload_n (pc := 1488) (k := 1) (v := .ref 0) trivial (by decide +kernel) (by exact e4) ?_
                                                refine ev_r_aload_n (pc := 1489) (k := 0) (v := .retAddr 0) trivial (by decide +kernel) (by exact e3) ?_
                                                refine ev_r_iload (pc := 1490) (k := 4) (v := Int32.ofInt x1) (by decide +kernel) (by exact e7) ?_
                                                refine ev_r_iconst (pc := 1492) (k := 1) (by decide +kernel) ?_
                                                refine ev_r_iadd (pc := 1493) (by decide +kernel) ?_
                                                intro x565 hx565
                                                refine ev_r_xald (pc := 1494) hx565 (by decide +kernel) ?_
                                                intro x566 hx566
                                                refine ev_r_aload_n (pc := 1495) (k := 0) (v := .retAddr 0) trivial (by decide +kernel) (by exact e3) ?_
                                                refine ev_r_iload (pc := 1496) (k := 4) (v := Int32.ofInt x1) (by decide +kernel) (by exact e7) ?_
                                                refine ev_r_iconst (pc := 1498) (k := 2) (by decide +kernel) ?_
                                                refine ev_r_iadd (pc := 1499) (by decide +kernel) ?_
                                                intro x567 hx567
                                                refine ev_r_xald (pc := 1500) hx567 (by decide +kernel) ?_
                                                intro x568 hx568
                                                refine ev_r_aload_n (pc := 1501) (k := 0) (v := .retAddr 0) trivial (by decide +kernel) (by exact e3) ?_
                                                refine ev_r_iload (pc := 1502) (k := 4) (v := Int32.ofInt x1) (by decide +kernel) (by exact e7) ?_
                                                refine ev_r_iconst (pc := 1504) (k := 3) (by decide +kernel) ?_
                                                refine ev_r_iadd (pc := 1505) (by decide +kernel) ?_
                                                intro x569 hx569
                                                refine ev_r_xald (pc := 1506) hx569 (by decide +kernel) ?_
                                                intro x570 hx570
                                                refine ev_r_aload_n (pc := 1507) (k := 0) (v := .retAddr 0) trivial (by decide +kernel) (by exact e3) ?_
                                                refine ev_r_iload (pc := 1508) (k := 4) (v := Int32.ofInt x1) (by decide +kernel) (by exact e7) ?_
                                                refine ev_r_iconst (pc := 1510) (k := 4) (by decide +kernel) ?_
                                                refine ev_r_iadd (pc := 1511) (by decide +kernel) ?_
                                                intro x571 hx571
                                                refine ev_r_xald (pc := 1512) hx571 (by decide +kernel) ?_
                                                intro x572 hx572
                                                refine ev_r_aload_n (pc := 1513) (k := 3) (v := .ref 723) trivial (by decide +kernel) (by exact e6) ?_
                                                refine ev_r_stat (pc := 1514) (y := 197) (kind := 8) (mi := 383) (na := 6) (as := [ev_nv ((0 + 1)), .int (Int32.ofInt x566), .int (Int32.ofInt x568), .int (Int32.ofInt x570), .int (Int32.ofInt x572), ev_nv ((723 + 1))]) (rest := []) (encc := ev_oI) (Q := ev_rng) (fun x S1 h => jt_383 12 (by omega) Q ((0 + 1)) x566 x568 x570 x572 ((723 + 1)) (by exact (Or.inr ev_ob_0)) hx566 hx568 hx570 hx572 (by exact (Or.inr ev_ab_723)) s8 x S1 h) (Or.inr (Or.inr rfl)) (by decide +kernel) (by decide +kernel) (by decide +kernel) (by decide +kernel) rfl (by (try simp only [ev_sum, ev_nv_cat]); first | done | rfl) ?_
                                                intro x574 s573 hx574
                                                show ev_w _ _ _ _ _ [.int (Int32.ofInt x574)] _ _ _ _
                                                refine ev_r_istore (pc := 1517) (k := 5) (by decide +kernel) (by decide +kernel) rfl ?_
                                                refine ev_r_aload_n (pc := 1519) (k := 2) (v := .ref 621) trivial (by decide +kernel) (by exact (ev_l1 e5 (by decide) (by decide))) ?_
                                                refine ev_r_aload_n (pc := 1520) (k := 0) (v := .retAddr 0) trivial (by decide +kernel) (by exact (ev_l1 e3 (by decide) (by decide))) ?_
                                                refine ev_r_iload (pc := 1521) (k := 4) (v := Int32.ofInt x1) (by decide +kernel) (by exact (ev_lk_st1 e7 (by decide) rfl)) ?_
                                                refine ev_r_iconst (pc := 1523) (k := 1) (by decide +kernel) ?_
                                                refine ev_r_iadd (pc := 1524) (by decide +kernel) ?_
                                                intro x575 hx575
                                                refine ev_r_xald (pc := 1525) hx575 (by decide +kernel) ?_
                                                intro x576 hx576
                                                refine ev_r_aload_n (pc := 1526) (k := 0) (v := .retAddr 0) trivial (by decide +kernel) (by exact (ev_l1 e3 (by decide) (by decide))) ?_
                                                refine ev_r_iload (pc := 1527) (k := 4) (v := Int32.ofInt x1) (by decide +kernel) (by exact (ev_lk_st1 e7 (by decide) rfl)) ?_
                                                refine ev_r_iconst (pc := 1529) (k := 2) (by decide +kernel) ?_
                                                refine ev_r_iadd (pc := 1530) (by decide +kernel) ?_
                                                intro x577 hx577
                                                refine ev_r_xald (pc := 1531) hx577 (by decide +kernel) ?_
                                                intro x578 hx578
                                                refine ev_r_aload_n (pc := 1532) (k := 0) (v := .retAddr 0) trivial (by decide +kernel) (by exact (ev_l1 e3 (by decide) (by decide))) ?_
                                                refine ev_r_iload (pc := 1533) (k := 4) (v := Int32.ofInt x1) (by decide +kernel) (by exact (ev_lk_st1 e7 (by decide) rfl)) ?_
                                                refine ev_r_iconst (pc := 1535) (k := 3) (by decide +kernel) ?_
                                                refine ev_r_iadd (pc := 1536) (by decide +kernel) ?_
                                                intro x579 hx579
                                                refine ev_r_xald (pc := 1537) hx579 (by decide +kernel) ?_
                                                intro x580 hx580
                                                refine ev_r_aload_n (pc := 1538) (k := 0) (v := .retAddr 0) trivial (by decide +kernel) (by exact (ev_l1 e3 (by decide) (by decide))) ?_
                                                refine ev_r_iload (pc := 1539) (k := 4) (v := Int32.ofInt x1) (by decide +kernel) (by exact (ev_lk_st1 e7 (by decide) rfl)) ?_
                                                refine ev_r_iconst (pc := 1541) (k := 4) (by decide +kernel) ?_
                                                refine ev_r_iadd (pc := 1542) (by decide +kernel) ?_
                                                intro x581 hx581
                                                refine ev_r_xald (pc := 1543) hx581 (by decide +kernel) ?_
                                                intro x582 hx582
                                                refine ev_r_virt (pc := 1544) (y := 199) (mi := 351) (na := 4) (k := 621) (as := [.int (Int32.ofInt x576), .int (Int32.ofInt x578), .int (Int32.ofInt x580), .int (Int32.ofInt x582)]) (rest := []) (encc := ev_oI) (Q := ev_rng) (fun x S1 h => jt_351 12 (by omega) Q x576 x578 x580 x582 hx576 hx578 hx580 hx582 s573 x S1 h) (by exact ev_ob_621) (by decide +kernel) (by decide +kernel) (by decide +kernel) (by decide +kernel) rfl (by (try simp only [ev_sum, ev_nv_cat]); first | done | rfl) ?_
                                                intro x584 s583 hx584
                                                show ev_w _ _ _ _ _ [.int (Int32.ofInt x584)] _ _ _ _
                                                refine ev_r_istore (pc := 1547) (k := 6) (by decide +kernel) (by decide +kernel) rfl ?_
                                                refine ev_r_aload_n (pc := 1549) (k := 2) (v := .ref 621) trivial (by decide +kernel) (by exact (ev_l1 (ev_l1 e5 (by decide) (by decide)) (by decide) (by decide))) ?_
                                                refine ev_r_virt (pc := 1550) (y := 131) (mi := 220) (na := 0) (k := 621) (as := []) (rest := []) (encc := ev_oI) (Q := ev_rng) (fun x S1 h => jt_220 12 (by omega) Q   s583 x S1 h) (by exact ev_ob_621) (by decide +kernel) (by decide +kernel) (by decide +kernel) (by decide +kernel) rfl (by (try simp only [ev_sum, ev_nv_cat]); first | done | rfl) ?_
                                                intro x586 s585 hx586
                                                show ev_w _ _ _ _ _ [.int (Int32.ofInt x586)] _ _ _ _
                                                refine ev_r_iload (pc := 1553) (k := 5) (v := Int32.ofInt x574) (by decide +kernel) (by exact (ev_lk_st1 ev_lk_st1_self (by decide) rfl)) ?_
                                                refine ev_r_icmp (pc := 1555) (q := .eq) (o := 5) (t := 1560) (c := x586 = x574) (by decide +kernel) (ev_k_eq hx586 hx574) (by decide +kernel) ?_ ?_
                                                · intro c587
                                                  refine ev_r_iload (pc := 1560) (k := 5) (v := Int32.ofInt x574) (by decide +kernel) (by exact (ev_lk_st1 ev_lk_st1_self (by decide) rfl)) ?_
                                                  refine ev_r_jn (Q := fun K => ∀ (s594 : ev_St) (w588 : List (Nat × Value)), ev_lk w588 0 = some (.retAddr 0) → ev_lk w588 1 = some (.ref 0) → ev_lk w588 2 = some (.ref 621) → ev_lk w588 3 = some (.ref 723) → ev_lk w588 4 = some (.int (Int32.ofInt x1)) → ev_w (some (L, xs)) ev_Mlaw 12 1577 w588 [] s594 (K  s594) ev_eI ev_bl) ?_ ?_
                                                  · intro  s594 w588 e589 e590 e591 e592 e593
                                                    refine ev_r_goto (pc := 1577) (o := 695) (t := 2272) (by decide +kernel) (by decide +kernel) ?_
                                                    exact hK2272  s594 _ (by exact e589) (by exact e590) (by exact e591) (by exact e592) (by exact e593)
                                                  · intro K1577 hK1577
                                                    refine ev_r_if (pc := 1562) (q := .ne) (o := 15) (t := 1577) (c := x574 ≠ 0) (by decide +kernel) (ev_k_ne hx574 ev_rng0) (by decide +kernel) ?_ ?_
                                                    · intro c595
                                                      exact hK1577  s585 _ (by exact (ev_l1 (ev_l1 e3 (by decide) (by decide)) (by decide) (by decide))) (by exact (ev_l1 (ev_l1 e4 (by decide) (by decide)) (by decide) (by decide))) (by exact (ev_l1 (ev_l1 e5 (by decide) (by decide)) (by decide) (by decide))) (by exact (ev_l1 (ev_l1 e6 (by decide) (by decide)) (by decide) (by decide))) (by exact (ev_l1 (ev_lk_st1 e7 (by decide) rfl) (by decide) (by decide)))
                                                    · intro c595
                                                      refine ev_r_aload_n (pc := 1565) (k := 3) (v := .ref 723) trivial (by decide +kernel) (by exact (ev_l1 (ev_l1 e6 (by decide) (by decide)) (by decide) (by decide))) ?_
                                                      refine ev_r_iconst (pc := 1566) (k := 0) (by decide +kernel) ?_
                                                      refine ev_r_lald (pc := 1567) (by decide) (by decide +kernel) (by exact ev_ab_723) ?_
                                                      intro y596
                                                      refine ev_r_iload (pc := 1568) (k := 6) (v := Int32.ofInt x584) (by decide +kernel) (by exact ev_lk_st1_self) ?_
                                                      refine ev_r_toL (pc := 1570) (i := .i2l) (len := 1) (pc' := 1571) (by decide +kernel) rfl ?_
                                                      intro y597
                                                      refine ev_r_toI (pc := 1571) (i := .lcmp) (len := 1) (pc' := 1572) (by decide +kernel) rfl ?_
                                                      intro x598 hx598
                                                      refine ev_r_if (pc := 1572) (q := .eq) (o := 5) (t := 1577) (c := x598 = 0) (by decide +kernel) (ev_k_eq hx598 ev_rng0) (by decide +kernel) ?_ ?_
                                                      · intro c599
                                                        exact hK1577  s585 _ (by exact (ev_l1 (ev_l1 e3 (by decide) (by decide)) (by decide) (by decide))) (by exact (ev_l1 (ev_l1 e4 (by decide) (by decide)) (by decide) (by decide))) (by exact (ev_l1 (ev_l1 e5 (by decide) (by decide)) (by decide) (by decide))) (by exact (ev_l1 (ev_l1 e6 (by decide) (by decide)) (by decide) (by decide))) (by exact (ev_l1 (ev_lk_st1 e7 (by decide) rfl) (by decide) (by decide)))
                                                      · intro c599
                                                        refine ev_r_iconst (pc := 1575) (k := 0) (by decide +kernel) ?_
                                                        exact ev_r_ireturn (pc := 1576) (x := 0) (v := Int32.ofInt 0) (ty := .boolean) (by decide : ev_bl 0) (by decide +kernel) (by decide +kernel) (ev_ret_bl (by decide : ev_bl 0)) rfl
                                                · intro c587
                                                  refine ev_r_iconst (pc := 1558) (k := 0) (by decide +kernel) ?_
                                                  exact ev_r_ireturn (pc := 1559) (x := 0) (v := Int32.ofInt 0) (ty := .boolean) (by decide : ev_bl 0) (by decide +kernel) (by decide +kernel) (ev_ret_bl (by decide : ev_bl 0)) rfl
                                              · intro c564
                                                refine ev_r_ite ?_ ?_
                                                · intro c600
                                                  refine ev_r_sw (pc := 40) (i := (.tableswitch 2232 0 32 #[148, 204, 217, 273, 317, 361, 417, 473, 548, 616, 672, 764, 856, 960, 1040, 1120, 1188, 1268, 1324, 1380, 1448, 1540, 1636, 1692, 1736, 1780, 1824, 1868, 1912, 1980, 2064, 2120, 2176])) (len := 148) (pc' := 1580) (by decide +kernel) (by rw [c600]; rw [ev_pure_tsw]; exact ev_tsw_c (o := 1540) (by decide) (by decide) rfl (by decide +kernel)) ?_
                                                  unfold ja_1580
                                                  refine ev_r_aload_n (pc := 1580) (k := 1) (v := .ref 0) trivial (by decide +kernel) (by exact e4) ?_
                                                  refine ev_r_aload_n (pc := 1581) (k := 0) (v := .retAddr 0) trivial (by decide +kernel) (by exact e3) ?_
                                                  refine ev_r_iload (pc := 1582) (k := 4) (v := Int32.ofInt x1) (by decide +kernel) (by exact e7) ?_
                                                  refine ev_r_iconst (pc := 1584) (k := 1) (by decide +kernel) ?_
                                                  refine ev_r_iadd (pc := 1585) (by decide +kernel) ?_
                                                  intro x601 hx601
                                                  refine ev_r_xald (pc := 1586) hx601 (by decide +kernel) ?_
                                                  intro x602 hx602
                                                  refine ev_r_aload_n (pc := 1587) (k := 0) (v := .retAddr 0) trivial (by decide +kernel) (by exact e3) ?_
                                                  refine ev_r_iload (pc := 1588) (k := 4) (v := Int32.ofInt x1) (by decide +kernel) (by exact e7) ?_
                                                  refine ev_r_iconst (pc := 1590) (k := 2) (by decide +kernel) ?_
                                                  refine ev_r_iadd (pc := 1591) (by decide +kernel) ?_
                                                  intro x603 hx603
                                                  refine ev_r_xald (pc := 1592) hx603 (by decide +kernel) ?_
                                                  intro x604 hx604
                                                  refine ev_r_aload_n (pc := 1593) (k := 0) (v := .retAddr 0) trivial (by decide +kernel) (by exact e3) ?_
                                                  refine ev_r_iload (pc := 1594) (k := 4) (v := Int32.ofInt x1) (by decide +kernel) (by exact e7) ?_
                                                  refine ev_r_iconst (pc := 1596) (k := 3) (by decide +kernel) ?_
                                                  refine ev_r_iadd (pc := 1597) (by decide +kernel) ?_
                                                  intro x605 hx605
                                                  refine ev_r_xald (pc := 1598) hx605 (by decide +kernel) ?_
                                                  intro x606 hx606
                                                  refine ev_r_jn (Q := fun K => ∀ (x609 : Int) (hx609 : ev_rng x609), ∀ (x608 : Int) (hx608 : ev_rng x608), ∀ (x607 : Int) (hx607 : ev_rng x607), ∀ (s616 : ev_St) (w610 : List (Nat × Value)), ev_lk w610 0 = some (.retAddr 0) → ev_lk w610 1 = some (.ref 0) → ev_lk w610 2 = some (.ref 621) → ev_lk w610 3 = some (.ref 723) → ev_lk w610 4 = some (.int (Int32.ofInt x1)) → ev_w (some (L, xs)) ev_Mlaw 12 1607 w610 [.int (Int32.ofInt x609), .int (Int32.ofInt x608), .int (Int32.ofInt x607), .ref 0] s616 (K x609 x608 x607 s616) ev_eI ev_bl) ?_ ?_
                                                  · intro x609 hx609 x608 hx608 x607 hx607 s616 w610 e611 e612 e613 e614 e615
                                                    refine ev_r_aload_n (pc := 1607) (k := 3) (v := .ref 723) trivial (by decide +kernel) (by exact e614) ?_
                                                    refine ev_r_stat (pc := 1608) (y := 200) (kind := 8) (mi := 384) (na := 5) (as := [ev_nv ((0 + 1)), .int (Int32.ofInt x607), .int (Int32.ofInt x608), .int (Int32.ofInt x609), ev_nv ((723 + 1))]) (rest := []) (encc := ev_oI) (Q := ev_rng) (fun x S1 h => jt_384 12 (by omega) Q ((0 + 1)) x607 x608 x609 ((723 + 1)) (by exact (Or.inr ev_ob_0)) hx607 hx608 hx609 (by exact (Or.inr ev_ab_723)) s616 x S1 h) (Or.inr (Or.inr rfl)) (by decide +kernel) (by decide +kernel) (by decide +kernel) (by decide +kernel) rfl (by (try simp only [ev_sum, ev_nv_cat]); first | done | rfl) ?_
                                                    intro x618 s617 hx618
                                                    show ev_w _ _ _ _ _ [.int (Int32.ofInt x618)] _ _ _ _
                                                    refine ev_r_istore (pc := 1611) (k := 5) (by decide +kernel) (by decide +kernel) rfl ?_
                                                    refine ev_r_aload_n (pc := 1613) (k := 2) (v := .ref 621) trivial (by decide +kernel) (by exact (ev_l1 e613 (by decide) (by decide))) ?_
                                                    refine ev_r_aload_n (pc := 1614) (k := 0) (v := .retAddr 0) trivial (by decide +kernel) (by exact (ev_l1 e611 (by decide) (by decide))) ?_
                                                    refine ev_r_iload (pc := 1615) (k := 4) (v := Int32.ofInt x1) (by decide +kernel) (by exact (ev_lk_st1 e615 (by decide) rfl)) ?_
                                                    refine ev_r_iconst (pc := 1617) (k := 1) (by decide +kernel) ?_
                                                    refine ev_r_iadd (pc := 1618) (by decide +kernel) ?_
                                                    intro x619 hx619
                                                    refine ev_r_xald (pc := 1619) hx619 (by decide +kernel) ?_
                                                    intro x620 hx620
                                                    refine ev_r_aload_n (pc := 1620) (k := 0) (v := .retAddr 0) trivial (by decide +kernel) (by exact (ev_l1 e611 (by decide) (by decide))) ?_
                                                    refine ev_r_iload (pc := 1621) (k := 4) (v := Int32.ofInt x1) (by decide +kernel) (by exact (ev_lk_st1 e615 (by decide) rfl)) ?_
                                                    refine ev_r_iconst (pc := 1623) (k := 2) (by decide +kernel) ?_
                                                    refine ev_r_iadd (pc := 1624) (by decide +kernel) ?_
                                                    intro x621 hx621
                                                    refine ev_r_xald (pc := 1625) hx621 (by decide +kernel) ?_
                                                    intro x622 hx622
                                                    refine ev_r_aload_n (pc := 1626) (k := 0) (v := .retAddr 0) trivial (by decide +kernel) (by exact (ev_l1 e611 (by decide) (by decide))) ?_
                                                    refine ev_r_iload (pc := 1627) (k := 4) (v := Int32.ofInt x1) (by decide +kernel) (by exact (ev_lk_st1 e615 (by decide) rfl)) ?_
                                                    refine ev_r_iconst (pc := 1629) (k := 3) (by decide +kernel) ?_
                                                    refine ev_r_iadd (pc := 1630) (by decide +kernel) ?_
                                                    intro x623 hx623
                                                    refine ev_r_xald (pc := 1631) hx623 (by decide +kernel) ?_
                                                    intro x624 hx624
                                                    refine ev_r_jn (Q := fun K => ∀ (x625 : Int) (hx625 : ev_rng x625), ∀ (x628 : Int) (hx628 : ev_rng x628), ∀ (x627 : Int) (hx627 : ev_rng x627), ∀ (x626 : Int) (hx626 : ev_rng x626), ∀ (s636 : ev_St) (w629 : List (Nat × Value)), ev_lk w629 0 = some (.retAddr 0) → ev_lk w629 1 = some (.ref 0) → ev_lk w629 2 = some (.ref 621) → ev_lk w629 3 = some (.ref 723) → ev_lk w629 4 = some (.int (Int32.ofInt x1)) → ev_lk w629 5 = some (.int (Int32.ofInt x625)) → ev_w (some (L, xs)) ev_Mlaw 12 1640 w629 [.int (Int32.ofInt x628), .int (Int32.ofInt x627), .int (Int32.ofInt x626), .ref 621] s636 (K x625 x628 x627 x626 s636) ev_eI ev_bl) ?_ ?_
                                                    · intro x625 hx625 x628 hx628 x627 hx627 x626 hx626 s636 w629 e630 e631 e632 e633 e634 e635
                                                      refine ev_r_virt (pc := 1640) (y := 203) (mi := 352) (na := 3) (k := 621) (as := [.int (Int32.ofInt x626), .int (Int32.ofInt x627), .int (Int32.ofInt x628)]) (rest := []) (encc := ev_oI) (Q := ev_rng) (fun x S1 h => jt_352 12 (by omega) Q x626 x627 x628 hx626 hx627 hx628 s636 x S1 h) (by exact ev_ob_621) (by decide +kernel) (by decide +kernel) (by decide +kernel) (by decide +kernel) rfl (by (try simp only [ev_sum, ev_nv_cat]); first | done | rfl) ?_
                                                      intro x638 s637 hx638
                                                      show ev_w _ _ _ _ _ [.int (Int32.ofInt x638)] _ _ _ _
                                                      refine ev_r_istore (pc := 1643) (k := 6) (by decide +kernel) (by decide +kernel) rfl ?_
                                                      refine ev_r_aload_n (pc := 1645) (k := 2) (v := .ref 621) trivial (by decide +kernel) (by exact (ev_l1 e632 (by decide) (by decide))) ?_
                                                      refine ev_r_virt (pc := 1646) (y := 131) (mi := 220) (na := 0) (k := 621) (as := []) (rest := []) (encc := ev_oI) (Q := ev_rng) (fun x S1 h => jt_220 12 (by omega) Q   s637 x S1 h) (by exact ev_ob_621) (by decide +kernel) (by decide +kernel) (by decide +kernel) (by decide +kernel) rfl (by (try simp only [ev_sum, ev_nv_cat]); first | done | rfl) ?_
                                                      intro x640 s639 hx640
                                                      show ev_w _ _ _ _ _ [.int (Int32.ofInt x640)] _ _ _ _
                                                      refine ev_r_iload (pc := 1649) (k := 5) (v := Int32.ofInt x625) (by decide +kernel) (by exact (ev_lk_st1 e635 (by decide) rfl)) ?_
                                                      refine ev_r_icmp (pc := 1651) (q := .eq) (o := 5) (t := 1656) (c := x640 = x625) (by decide +kernel) (ev_k_eq hx640 hx625) (by decide +kernel) ?_ ?_
                                                      · intro c641
                                                        refine ev_r_iload (pc := 1656) (k := 5) (v := Int32.ofInt x625) (by decide +kernel) (by exact (ev_lk_st1 e635 (by decide) rfl)) ?_
                                                        refine ev_r_jn (Q := fun K => ∀ (s648 : ev_St) (w642 : List (Nat × Value)), ev_lk w642 0 = some (.retAddr 0) → ev_lk w642 1 = some (.ref 0) → ev_lk w642 2 = some (.ref 621) → ev_lk w642 3 = some (.ref 723) → ev_lk w642 4 = some (.int (Int32.ofInt x1)) → ev_w (some (L, xs)) ev_Mlaw 12 1673 w642 [] s648 (K  s648) ev_eI ev_bl) ?_ ?_
                                                        · intro  s648 w642 e643 e644 e645 e646 e647
                                                          refine ev_r_goto (pc := 1673) (o := 599) (t := 2272) (by decide +kernel) (by decide +kernel) ?_
                                                          exact hK2272  s648 _ (by exact e643) (by exact e644) (by exact e645) (by exact e646) (by exact e647)
                                                        · intro K1673 hK1673
                                                          refine ev_r_if (pc := 1658) (q := .ne) (o := 15) (t := 1673) (c := x625 ≠ 0) (by decide +kernel) (ev_k_ne hx625 ev_rng0) (by decide +kernel) ?_ ?_
                                                          · intro c649
                                                            exact hK1673  s639 _ (by exact (ev_l1 e630 (by decide) (by decide))) (by exact (ev_l1 e631 (by decide) (by decide))) (by exact (ev_l1 e632 (by decide) (by decide))) (by exact (ev_l1 e633 (by decide) (by decide))) (by exact (ev_l1 e634 (by decide) (by decide)))
                                                          · intro c649
                                                            refine ev_r_aload_n (pc := 1661) (k := 3) (v := .ref 723) trivial (by decide +kernel) (by exact (ev_l1 e633 (by decide) (by decide))) ?_
                                                            refine ev_r_iconst (pc := 1662) (k := 0) (by decide +kernel) ?_
                                                            refine ev_r_lald (pc := 1663) (by decide) (by decide +kernel) (by exact ev_ab_723) ?_
                                                            intro y650
                                                            refine ev_r_iload (pc := 1664) (k := 6) (v := Int32.ofInt x638) (by decide +kernel) (by exact ev_lk_st1_self) ?_
                                                            refine ev_r_toL (pc := 1666) (i := .i2l) (len := 1) (pc' := 1667) (by decide +kernel) rfl ?_
                                                            intro y651
                                                            refine ev_r_toI (pc := 1667) (i := .lcmp) (len := 1) (pc' := 1668) (by decide +kernel) rfl ?_
                                                            intro x652 hx652
                                                            refine ev_r_if (pc := 1668) (q := .eq) (o := 5) (t := 1673) (c := x652 = 0) (by decide +kernel) (ev_k_eq hx652 ev_rng0) (by decide +kernel) ?_ ?_
                                                            · intro c653
                                                              exact hK1673  s639 _ (by exact (ev_l1 e630 (by decide) (by decide))) (by exact (ev_l1 e631 (by decide) (by decide))) (by exact (ev_l1 e632 (by decide) (by decide))) (by exact (ev_l1 e633 (by decide) (by decide))) (by exact (ev_l1 e634 (by decide) (by decide)))
                                                            · intro c653
                                                              refine ev_r_iconst (pc := 1671) (k := 0) (by decide +kernel) ?_
                                                              exact ev_r_ireturn (pc := 1672) (x := 0) (v := Int32.ofInt 0) (ty := .boolean) (by decide : ev_bl 0) (by decide +kernel) (by decide +kernel) (ev_ret_bl (by decide : ev_bl 0)) rfl
                                                      · intro c641
                                                        refine ev_r_iconst (pc := 1654) (k := 0) (by decide +kernel) ?_
                                                        exact ev_r_ireturn (pc := 1655) (x := 0) (v := Int32.ofInt 0) (ty := .boolean) (by decide : ev_bl 0) (by decide +kernel) (by decide +kernel) (ev_ret_bl (by decide : ev_bl 0)) rfl
                                                    · intro K1640 hK1640
                                                      refine ev_r_if (pc := 1632) (q := .eq) (o := 7) (t := 1639) (c := x624 = 0) (by decide +kernel) (ev_k_eq hx624 ev_rng0) (by decide +kernel) ?_ ?_
                                                      · intro c654
                                                        refine ev_r_iconst (pc := 1639) (k := 0) (by decide +kernel) ?_
                                                        exact hK1640 x618 hx618 0 (by decide) x622 hx622 x620 hx620 s617 _ (by exact (ev_l1 e611 (by decide) (by decide))) (by exact (ev_l1 e612 (by decide) (by decide))) (by exact (ev_l1 e613 (by decide) (by decide))) (by exact (ev_l1 e614 (by decide) (by decide))) (by exact (ev_lk_st1 e615 (by decide) rfl)) (by exact ev_lk_st1_self)
                                                      · intro c654
                                                        refine ev_r_iconst (pc := 1635) (k := 1) (by decide +kernel) ?_
                                                        refine ev_r_goto (pc := 1636) (o := 4) (t := 1640) (by decide +kernel) (by decide +kernel) ?_
                                                        exact hK1640 x618 hx618 1 (by decide) x622 hx622 x620 hx620 s617 _ (by exact (ev_l1 e611 (by decide) (by decide))) (by exact (ev_l1 e612 (by decide) (by decide))) (by exact (ev_l1 e613 (by decide) (by decide))) (by exact (ev_l1 e614 (by decide) (by decide))) (by exact (ev_lk_st1 e615 (by decide) rfl)) (by exact ev_lk_st1_self)
                                                  · intro K1607 hK1607
                                                    refine ev_r_if (pc := 1599) (q := .eq) (o := 7) (t := 1606) (c := x606 = 0) (by decide +kernel) (ev_k_eq hx606 ev_rng0) (by decide +kernel) ?_ ?_
                                                    · intro c655
                                                      refine ev_r_iconst (pc := 1606) (k := 0) (by decide +kernel) ?_
                                                      exact hK1607 0 (by decide) x604 hx604 x602 hx602 s8 _ (by exact e3) (by exact e4) (by exact e5) (by exact e6) (by exact e7)
                                                    · intro c655
                                                      refine ev_r_iconst (pc := 1602) (k := 1) (by decide +kernel) ?_
                                                      refine ev_r_goto (pc := 1603) (o := 4) (t := 1607) (by decide +kernel) (by decide +kernel) ?_
                                                      exact hK1607 1 (by decide) x604 hx604 x602 hx602 s8 _ (by exact e3) (by exact e4) (by exact e5) (by exact e6) (by exact e7)
                                                · intro c600
                                                  refine ev_r_ite ?_ ?_
                                                  · intro c656
                                                    refine ev_r_sw (pc := 40) (i := (.tableswitch 2232 0 32 #[148, 204, 217, 273, 317, 361, 417, 473, 548, 616, 672, 764, 856, 960, 1040, 1120, 1188, 1268, 1324, 1380, 1448, 1540, 1636, 1692, 1736, 1780, 1824, 1868, 1912, 1980, 2064, 2120, 2176])) (len := 148) (pc' := 1676) (by decide +kernel) (by rw [c656]; rw [ev_pure_tsw]; exact ev_tsw_c (o := 1636) (by decide) (by decide) rfl (by decide +kernel)) ?_
                                                    unfold ja_1676
                                                    refine ev_r_aload_n (pc := 1676) (k := 1) (v := .ref 0) trivial (by decide +kernel) (by exact e4) ?_
                                                    refine ev_r_aload_n (pc := 1677) (k := 0) (v := .retAddr 0) trivial (by decide +kernel) (by exact e3) ?_
                                                    refine ev_r_iload (pc := 1678) (k := 4) (v := Int32.ofInt x1) (by decide +kernel) (by exact e7) ?_
                                                    refine ev_r_iconst (pc := 1680) (k := 1) (by decide +kernel) ?_
                                                    refine ev_r_iadd (pc := 1681) (by decide +kernel) ?_
                                                    intro x657 hx657
                                                    refine ev_r_xald (pc := 1682) hx657 (by decide +kernel) ?_
                                                    intro x658 hx658
                                                    refine ev_r_aload_n (pc := 1683) (k := 3) (v := .ref 723) trivial (by decide +kernel) (by exact e6) ?_
                                                    refine ev_r_stat (pc := 1684) (y := 204) (kind := 8) (mi := 385) (na := 3) (as := [ev_nv ((0 + 1)), .int (Int32.ofInt x658), ev_nv ((723 + 1))]) (rest := []) (encc := ev_oI) (Q := ev_rng) (fun x S1 h => jt_385 12 (by omega) Q ((0 + 1)) x658 ((723 + 1)) (by exact (Or.inr ev_ob_0)) hx658 (by exact (Or.inr ev_ab_723)) s8 x S1 h) (Or.inr (Or.inr rfl)) (by decide +kernel) (by decide +kernel) (by decide +kernel) (by decide +kernel) rfl (by (try simp only [ev_sum, ev_nv_cat]); first | done | rfl) ?_
                                                    intro x660 s659 hx660
                                                    show ev_w _ _ _ _ _ [.int (Int32.ofInt x660)] _ _ _ _
                                                    refine ev_r_istore (pc := 1687) (k := 5) (by decide +kernel) (by decide +kernel) rfl ?_
                                                    refine ev_r_aload_n (pc := 1689) (k := 2) (v := .ref 621) trivial (by decide +kernel) (by exact (ev_l1 e5 (by decide) (by decide))) ?_
                                                    refine ev_r_aload_n (pc := 1690) (k := 0) (v := .retAddr 0) trivial (by decide +kernel) (by exact (ev_l1 e3 (by decide) (by decide))) ?_
                                                    refine ev_r_iload (pc := 1691) (k := 4) (v := Int32.ofInt x1) (by decide +kernel) (by exact (ev_lk_st1 e7 (by decide) rfl)) ?_
                                                    refine ev_r_iconst (pc := 1693) (k := 1) (by decide +kernel) ?_
                                                    refine ev_r_iadd (pc := 1694) (by decide +kernel) ?_
                                                    intro x661 hx661
                                                    refine ev_r_xald (pc := 1695) hx661 (by decide +kernel) ?_
                                                    intro x662 hx662
                                                    refine ev_r_virt (pc := 1696) (y := 206) (mi := 353) (na := 1) (k := 621) (as := [.int (Int32.ofInt x662)]) (rest := []) (encc := ev_oI) (Q := ev_rng) (fun x S1 h => jt_353 12 (by omega) Q x662 hx662 s659 x S1 h) (by exact ev_ob_621) (by decide +kernel) (by decide +kernel) (by decide +kernel) (by decide +kernel) rfl (by (try simp only [ev_sum, ev_nv_cat]); first | done | rfl) ?_
                                                    intro x664 s663 hx664
                                                    show ev_w _ _ _ _ _ [.int (Int32.ofInt x664)] _ _ _ _
                                                    refine ev_r_istore (pc := 1699) (k := 6) (by decide +kernel) (by decide +kernel) rfl ?_
                                                    refine ev_r_aload_n (pc := 1701) (k := 2) (v := .ref 621) trivial (by decide +kernel) (by exact (ev_l1 (ev_l1 e5 (by decide) (by decide)) (by decide) (by decide))) ?_
                                                    refine ev_r_virt (pc := 1702) (y := 131) (mi := 220) (na := 0) (k := 621) (as := []) (rest := []) (encc := ev_oI) (Q := ev_rng) (fun x S1 h => jt_220 12 (by omega) Q   s663 x S1 h) (by exact ev_ob_621) (by decide +kernel) (by decide +kernel) (by decide +kernel) (by decide +kernel) rfl (by (try simp only [ev_sum, ev_nv_cat]); first | done | rfl) ?_
                                                    intro x666 s665 hx666
                                                    show ev_w _ _ _ _ _ [.int (Int32.ofInt x666)] _ _ _ _
                                                    refine ev_r_iload (pc := 1705) (k := 5) (v := Int32.ofInt x660) (by decide +kernel) (by exact (ev_lk_st1 ev_lk_st1_self (by decide) rfl)) ?_
                                                    refine ev_r_icmp (pc := 1707) (q := .eq) (o := 5) (t := 1712) (c := x666 = x660) (by decide +kernel) (ev_k_eq hx666 hx660) (by decide +kernel) ?_ ?_
                                                    · intro c667
                                                      refine ev_r_iload (pc := 1712) (k := 5) (v := Int32.ofInt x660) (by decide +kernel) (by exact (ev_lk_st1 ev_lk_st1_self (by decide) rfl)) ?_
                                                      refine ev_r_jn (Q := fun K => ∀ (s674 : ev_St) (w668 : List (Nat × Value)), ev_lk w668 0 = some (.retAddr 0) → ev_lk w668 1 = some (.ref 0) → ev_lk w668 2 = some (.ref 621) → ev_lk w668 3 = some (.ref 723) → ev_lk w668 4 = some (.int (Int32.ofInt x1)) → ev_w (some (L, xs)) ev_Mlaw 12 1729 w668 [] s674 (K  s674) ev_eI ev_bl) ?_ ?_
                                                      · intro  s674 w668 e669 e670 e671 e672 e673
                                                        refine ev_r_goto (pc := 1729) (o := 543) (t := 2272) (by decide +kernel) (by decide +kernel) ?_
                                                        exact hK2272  s674 _ (by exact e669) (by exact e670) (by exact e671) (by exact e672) (by exact e673)
                                                      · intro K1729 hK1729
                                                        refine ev_r_if (pc := 1714) (q := .ne) (o := 15) (t := 1729) (c := x660 ≠ 0) (by decide +kernel) (ev_k_ne hx660 ev_rng0) (by decide +kernel) ?_ ?_
                                                        · intro c675
                                                          exact hK1729  s665 _ (by exact (ev_l1 (ev_l1 e3 (by decide) (by decide)) (by decide) (by decide))) (by exact (ev_l1 (ev_l1 e4 (by decide) (by decide)) (by decide) (by decide))) (by exact (ev_l1 (ev_l1 e5 (by decide) (by decide)) (by decide) (by decide))) (by exact (ev_l1 (ev_l1 e6 (by decide) (by decide)) (by decide) (by decide))) (by exact (ev_l1 (ev_lk_st1 e7 (by decide) rfl) (by decide) (by decide)))
                                                        · intro c675
                                                          refine ev_r_aload_n (pc := 1717) (k := 3) (v := .ref 723) trivial (by decide +kernel) (by exact (ev_l1 (ev_l1 e6 (by decide) (by decide)) (by decide) (by decide))) ?_
                                                          refine ev_r_iconst (pc := 1718) (k := 0) (by decide +kernel) ?_
                                                          refine ev_r_lald (pc := 1719) (by decide) (by decide +kernel) (by exact ev_ab_723) ?_
                                                          intro y676
                                                          refine ev_r_iload (pc := 1720) (k := 6) (v := Int32.ofInt x664) (by decide +kernel) (by exact ev_lk_st1_self) ?_
                                                          refine ev_r_toL (pc := 1722) (i := .i2l) (len := 1) (pc' := 1723) (by decide +kernel) rfl ?_
                                                          intro y677
                                                          refine ev_r_toI (pc := 1723) (i := .lcmp) (len := 1) (pc' := 1724) (by decide +kernel) rfl ?_
                                                          intro x678 hx678
                                                          refine ev_r_if (pc := 1724) (q := .eq) (o := 5) (t := 1729) (c := x678 = 0) (by decide +kernel) (ev_k_eq hx678 ev_rng0) (by decide +kernel) ?_ ?_
                                                          · intro c679
                                                            exact hK1729  s665 _ (by exact (ev_l1 (ev_l1 e3 (by decide) (by decide)) (by decide) (by decide))) (by exact (ev_l1 (ev_l1 e4 (by decide) (by decide)) (by decide) (by decide))) (by exact (ev_l1 (ev_l1 e5 (by decide) (by decide)) (by decide) (by decide))) (by exact (ev_l1 (ev_l1 e6 (by decide) (by decide)) (by decide) (by decide))) (by exact (ev_l1 (ev_lk_st1 e7 (by decide) rfl) (by decide) (by decide)))
                                                          · intro c679
                                                            refine ev_r_iconst (pc := 1727) (k := 0) (by decide +kernel) ?_
                                                            exact ev_r_ireturn (pc := 1728) (x := 0) (v := Int32.ofInt 0) (ty := .boolean) (by decide : ev_bl 0) (by decide +kernel) (by decide +kernel) (ev_ret_bl (by decide : ev_bl 0)) rfl
                                                    · intro c667
                                                      refine ev_r_iconst (pc := 1710) (k := 0) (by decide +kernel) ?_
                                                      exact ev_r_ireturn (pc := 1711) (x := 0) (v := Int32.ofInt 0) (ty := .boolean) (by decide : ev_bl 0) (by decide +kernel) (by decide +kernel) (ev_ret_bl (by decide : ev_bl 0)) rfl
                                                  · intro c656
                                                    refine ev_r_ite ?_ ?_
                                                    · intro c680
                                                      refine ev_r_sw (pc := 40) (i := (.tableswitch 2232 0 32 #[148, 204, 217, 273, 317, 361, 417, 473, 548, 616, 672, 764, 856, 960, 1040, 1120, 1188, 1268, 1324, 1380, 1448, 1540, 1636, 1692, 1736, 1780, 1824, 1868, 1912, 1980, 2064, 2120, 2176])) (len := 148) (pc' := 1732) (by decide +kernel) (by rw [c680]; rw [ev_pure_tsw]; exact ev_tsw_c (o := 1692) (by decide) (by decide) rfl (by decide +kernel)) ?_
                                                      unfold ja_1732
                                                      refine ev_r_aload_n (pc := 1732) (k := 1) (v := .ref 0) trivial (by decide +kernel) (by exact e4) ?_
                                                      refine ev_r_aload_n (pc := 1733) (k := 3) (v := .ref 723) trivial (by decide +kernel) (by exact e6) ?_
                                                      refine ev_r_stat (pc := 1734) (y := 207) (kind := 8) (mi := 386) (na := 2) (as := [ev_nv ((0 + 1)), ev_nv ((723 + 1))]) (rest := []) (encc := ev_oI) (Q := ev_rng) (fun x S1 h => jt_386 12 (by omega) Q ((0 + 1)) ((723 + 1)) (by exact (Or.inr ev_ob_0)) (by exact (Or.inr ev_ab_723)) s8 x S1 h) (Or.inr (Or.inr rfl)) (by decide +kernel) (by decide +kernel) (by decide +kernel) (by decide +kernel) rfl (by (try simp only [ev_sum, ev_nv_cat]); first | done | rfl) ?_
                                                      intro x682 s681 hx682
                                                      show ev_w _ _ _ _ _ [.int (Int32.ofInt x682)] _ _ _ _
                                                      refine ev_r_istore (pc := 1737) (k := 5) (by decide +kernel) (by decide +kernel) rfl ?_
                                                      refine ev_r_aload_n (pc := 1739) (k := 2) (v := .ref 621) trivial (by decide +kernel) (by exact (ev_l1 e5 (by decide) (by decide))) ?_
                                                      refine ev_r_virt (pc := 1740) (y := 209) (mi := 354) (na := 0) (k := 621) (as := []) (rest := []) (encc := ev_oI) (Q := ev_rng) (fun x S1 h => jt_354 12 (by omega) Q   s681 x S1 h) (by exact ev_ob_621) (by decide +kernel) (by decide +kernel) (by decide +kernel) (by decide +kernel) rfl (by (try simp only [ev_sum, ev_nv_cat]); first | done | rfl) ?_
                                                      intro x684 s683 hx684
                                                      show ev_w _ _ _ _ _ [.int (Int32.ofInt x684)] _ _ _ _
                                                      refine ev_r_istore (pc := 1743) (k := 6) (by decide +kernel) (by decide +kernel) rfl ?_
                                                      refine ev_r_aload_n (pc := 1745) (k := 2) (v := .ref 621) trivial (by decide +kernel) (by exact (ev_l1 (ev_l1 e5 (by decide) (by decide)) (by decide) (by decide))) ?_
                                                      refine ev_r_virt (pc := 1746) (y := 131) (mi := 220) (na := 0) (k := 621) (as := []) (rest := []) (encc := ev_oI) (Q := ev_rng) (fun x S1 h => jt_220 12 (by omega) Q   s683 x S1 h) (by exact ev_ob_621) (by decide +kernel) (by decide +kernel) (by decide +kernel) (by decide +kernel) rfl (by (try simp only [ev_sum, ev_nv_cat]); first | done | rfl) ?_
                                                      intro x686 s685 hx686
                                                      show ev_w _ _ _ _ _ [.int (Int32.ofInt x686)] _ _ _ _
                                                      refine ev_r_iload (pc := 1749) (k := 5) (v := Int32.ofInt x682) (by decide +kernel) (by exact (ev_lk_st1 ev_lk_st1_self (by decide) rfl)) ?_
                                                      refine ev_r_icmp (pc := 1751) (q := .eq) (o := 5) (t := 1756) (c := x686 = x682) (by decide +kernel) (ev_k_eq hx686 hx682) (by decide +kernel) ?_ ?_
                                                      · intro c687
                                                        refine ev_r_iload (pc := 1756) (k := 5) (v := Int32.ofInt x682) (by decide +kernel) (by exact (ev_lk_st1 ev_lk_st1_self (by decide) rfl)) ?_
                                                        refine ev_r_jn (Q := fun K => ∀ (s694 : ev_St) (w688 : List (Nat × Value)), ev_lk w688 0 = some (.retAddr 0) → ev_lk w688 1 = some (.ref 0) → ev_lk w688 2 = some (.ref 621) → ev_lk w688 3 = some (.ref 723) → ev_lk w688 4 = some (.int (Int32.ofInt x1)) → ev_w (some (L, xs)) ev_Mlaw 12 1773 w688 [] s694 (K  s694) ev_eI ev_bl) ?_ ?_
                                                        · intro  s694 w688 e689 e690 e691 e692 e693
                                                          refine ev_r_goto (pc := 1773) (o := 499) (t := 2272) (by decide +kernel) (by decide +kernel) ?_
                                                          exact hK2272  s694 _ (by exact e689) (by exact e690) (by exact e691) (by exact e692) (by exact e693)
                                                        · intro K1773 hK1773
                                                          refine ev_r_if (pc := 1758) (q := .ne) (o := 15) (t := 1773) (c := x682 ≠ 0) (by decide +kernel) (ev_k_ne hx682 ev_rng0) (by decide +kernel) ?_ ?_
                                                          · intro c695
                                                            exact hK1773  s685 _ (by exact (ev_l1 (ev_l1 e3 (by decide) (by decide)) (by decide) (by decide))) (by exact (ev_l1 (ev_l1 e4 (by decide) (by decide)) (by decide) (by decide))) (by exact (ev_l1 (ev_l1 e5 (by decide) (by decide)) (by decide) (by decide))) (by exact (ev_l1 (ev_l1 e6 (by decide) (by decide)) (by decide) (by decide))) (by exact (ev_l1 (ev_lk_st1 e7 (by decide) rfl) (by decide) (by decide)))
                                                          · intro c695
                                                            refine ev_r_aload_n (pc := 1761) (k := 3) (v := .ref 723) trivial (by decide +kernel) (by exact (ev_l1 (ev_l1 e6 (by decide) (by decide)) (by decide) (by decide))) ?_
                                                            refine ev_r_iconst (pc := 1762) (k := 0) (by decide +kernel) ?_
                                                            refine ev_r_lald (pc := 1763) (by decide) (by decide +kernel) (by exact ev_ab_723) ?_
                                                            intro y696
                                                            refine ev_r_iload (pc := 1764) (k := 6) (v := Int32.ofInt x684) (by decide +kernel) (by exact ev_lk_st1_self) ?_
                                                            refine ev_r_toL (pc := 1766) (i := .i2l) (len := 1) (pc' := 1767) (by decide +kernel) rfl ?_
                                                            intro y697
                                                            refine ev_r_toI (pc := 1767) (i := .lcmp) (len := 1) (pc' := 1768) (by decide +kernel) rfl ?_
                                                            intro x698 hx698
                                                            refine ev_r_if (pc := 1768) (q := .eq) (o := 5) (t := 1773) (c := x698 = 0) (by decide +kernel) (ev_k_eq hx698 ev_rng0) (by decide +kernel) ?_ ?_
                                                            · intro c699
                                                              exact hK1773  s685 _ (by exact (ev_l1 (ev_l1 e3 (by decide) (by decide)) (by decide) (by decide))) (by exact (ev_l1 (ev_l1 e4 (by decide) (by decide)) (by decide) (by decide))) (by exact (ev_l1 (ev_l1 e5 (by decide) (by decide)) (by decide) (by decide))) (by exact (ev_l1 (ev_l1 e6 (by decide) (by decide)) (by decide) (by decide))) (by exact (ev_l1 (ev_lk_st1 e7 (by decide) rfl) (by decide) (by decide)))
                                                            · intro c699
                                                              refine ev_r_iconst (pc := 1771) (k := 0) (by decide +kernel) ?_
                                                              exact ev_r_ireturn (pc := 1772) (x := 0) (v := Int32.ofInt 0) (ty := .boolean) (by decide : ev_bl 0) (by decide +kernel) (by decide +kernel) (ev_ret_bl (by decide : ev_bl 0)) rfl
                                                      · intro c687
                                                        refine ev_r_iconst (pc := 1754) (k := 0) (by decide +kernel) ?_
                                                        exact ev_r_ireturn (pc := 1755) (x := 0) (v := Int32.ofInt 0) (ty := .boolean) (by decide : ev_bl 0) (by decide +kernel) (by decide +kernel) (ev_ret_bl (by decide : ev_bl 0)) rfl
                                                    · intro c680
                                                      refine ev_r_ite ?_ ?_
                                                      · intro c700
                                                        refine ev_r_sw (pc := 40) (i := (.tableswitch 2232 0 32 #[148, 204, 217, 273, 317, 361, 417, 473, 548, 616, 672, 764, 856, 960, 1040, 1120, 1188, 1268, 1324, 1380, 1448, 1540, 1636, 1692, 1736, 1780, 1824, 1868, 1912, 1980, 2064, 2120, 2176])) (len := 148) (pc' := 1776) (by decide +kernel) (by rw [c700]; rw [ev_pure_tsw]; exact ev_tsw_c (o := 1736) (by decide) (by decide) rfl (by decide +kernel)) ?_
                                                        unfold ja_1776
                                                        refine ev_r_aload_n (pc := 1776) (k := 1) (v := .ref 0) trivial (by decide +kernel) (by exact e4) ?_
                                                        refine ev_r_aload_n (pc := 1777) (k := 3) (v := .ref 723) trivial (by decide +kernel) (by exact e6) ?_
                                                        refine ev_r_stat (pc := 1778) (y := 210) (kind := 8) (mi := 387) (na := 2) (as := [ev_nv ((0 + 1)), ev_nv ((723 + 1))]) (rest := []) (encc := ev_oI) (Q := ev_rng) (fun x S1 h => jt_387 12 (by omega) Q ((0 + 1)) ((723 + 1)) (by exact (Or.inr ev_ob_0)) (by exact (Or.inr ev_ab_723)) s8 x S1 h) (Or.inr (Or.inr rfl)) (by decide +kernel) (by decide +kernel) (by decide +kernel) (by decide +kernel) rfl (by (try simp only [ev_sum, ev_nv_cat]); first | done | rfl) ?_
                                                        intro x702 s701 hx702
                                                        show ev_w _ _ _ _ _ [.int (Int32.ofInt x702)] _ _ _ _
                                                        refine ev_r_istore (pc := 1781) (k := 5) (by decide +kernel) (by decide +kernel) rfl ?_
                                                        refine ev_r_aload_n (pc := 1783) (k := 2) (v := .ref 621) trivial (by decide +kernel) (by exact (ev_l1 e5 (by decide) (by decide))) ?_
                                                        refine ev_r_virt (pc := 1784) (y := 212) (mi := 355) (na := 0) (k := 621) (as := []) (rest := []) (encc := ev_oI) (Q := ev_rng) (fun x S1 h => jt_355 12 (by omega) Q   s701 x S1 h) (by exact ev_ob_621) (by decide +kernel) (by decide +kernel) (by decide +kernel) (by decide +kernel) rfl (by (try simp only [ev_sum, ev_nv_cat]); first | done | rfl) ?_
                                                        intro x704 s703 hx704
                                                        show ev_w _ _ _ _ _ [.int (Int32.ofInt x704)] _ _ _ _
                                                        refine ev_r_istore (pc := 1787) (k := 6) (by decide +kernel) (by decide +kernel) rfl ?_
                                                        refine ev_r_aload_n (pc := 1789) (k := 2) (v := .ref 621) trivial (by decide +kernel) (by exact (ev_l1 (ev_l1 e5 (by decide) (by decide)) (by decide) (by decide))) ?_
                                                        refine ev_r_virt (pc := 1790) (y := 131) (mi := 220) (na := 0) (k := 621) (as := []) (rest := []) (encc := ev_oI) (Q := ev_rng) (fun x S1 h => jt_220 12 (by omega) Q   s703 x S1 h) (by exact ev_ob_621) (by decide +kernel) (by decide +kernel) (by decide +kernel) (by decide +kernel) rfl (by (try simp only [ev_sum, ev_nv_cat]); first | done | rfl) ?_
                                                        intro x706 s705 hx706
                                                        show ev_w _ _ _ _ _ [.int (Int32.ofInt x706)] _ _ _ _
                                                        refine ev_r_iload (pc := 1793) (k := 5) (v := Int32.ofInt x702) (by decide +kernel) (by exact (ev_lk_st1 ev_lk_st1_self (by decide) rfl)) ?_
                                                        refine ev_r_icmp (pc := 1795) (q := .eq) (o := 5) (t := 1800) (c := x706 = x702) (by decide +kernel) (ev_k_eq hx706 hx702) (by decide +kernel) ?_ ?_
                                                        · intro c707
                                                          refine ev_r_iload (pc := 1800) (k := 5) (v := Int32.ofInt x702) (by decide +kernel) (by exact (ev_lk_st1 ev_lk_st1_self (by decide) rfl)) ?_
                                                          refine ev_r_jn (Q := fun K => ∀ (s714 : ev_St) (w708 : List (Nat × Value)), ev_lk w708 0 = some (.retAddr 0) → ev_lk w708 1 = some (.ref 0) → ev_lk w708 2 = some (.ref 621) → ev_lk w708 3 = some (.ref 723) → ev_lk w708 4 = some (.int (Int32.ofInt x1)) → ev_w (some (L, xs)) ev_Mlaw 12 1817 w708 [] s714 (K  s714) ev_eI ev_bl) ?_ ?_
                                                          · intro  s714 w708 e709 e710 e711 e712 e713
                                                            refine ev_r_goto (pc := 1817) (o := 455) (t := 2272) (by decide +kernel) (by decide +kernel) ?_
                                                            exact hK2272  s714 _ (by exact e709) (by exact e710) (by exact e711) (by exact e712) (by exact e713)
                                                          · intro K1817 hK1817
                                                            refine ev_r_if (pc := 1802) (q := .ne) (o := 15) (t := 1817) (c := x702 ≠ 0) (by decide +kernel) (ev_k_ne hx702 ev_rng0) (by decide +kernel) ?_ ?_
                                                            · intro c715
                                                              exact hK1817  s705 _ (by exact (ev_l1 (ev_l1 e3 (by decide) (by decide)) (by decide) (by decide))) (by exact (ev_l1 (ev_l1 e4 (by decide) (by decide)) (by decide) (by decide))) (by exact (ev_l1 (ev_l1 e5 (by decide) (by decide)) (by decide) (by decide))) (by exact (ev_l1 (ev_l1 e6 (by decide) (by decide)) (by decide) (by decide))) (by exact (ev_l1 (ev_lk_st1 e7 (by decide) rfl) (by decide) (by decide)))
                                                            · intro c715
                                                              refine ev_r_aload_n (pc := 1805) (k := 3) (v := .ref 723) trivial (by decide +kernel) (by exact (ev_l1 (ev_l1 e6 (by decide) (by decide)) (by decide) (by decide))) ?_
                                                              refine ev_r_iconst (pc := 1806) (k := 0) (by decide +kernel) ?_
                                                              refine ev_r_lald (pc := 1807) (by decide) (by decide +kernel) (by exact ev_ab_723) ?_
                                                              intro y716
                                                              refine ev_r_iload (pc := 1808) (k := 6) (v := Int32.ofInt x704) (by decide +kernel) (by exact ev_lk_st1_self) ?_
                                                              refine ev_r_toL (pc := 1810) (i := .i2l) (len := 1) (pc' := 1811) (by decide +kernel) rfl ?_
                                                              intro y717
                                                              refine ev_r_toI (pc := 1811) (i := .lcmp) (len := 1) (pc' := 1812) (by decide +kernel) rfl ?_
                                                              intro x718 hx718
                                                              refine ev_r_if (pc := 1812) (q := .eq) (o := 5) (t := 1817) (c := x718 = 0) (by decide +kernel) (ev_k_eq hx718 ev_rng0) (by decide +kernel) ?_ ?_
                                                              · intro c719
                                                                exact hK1817  s705 _ (by exact (ev_l1 (ev_l1 e3 (by decide) (by decide)) (by decide) (by decide))) (by exact (ev_l1 (ev_l1 e4 (by decide) (by decide)) (by decide) (by decide))) (by exact (ev_l1 (ev_l1 e5 (by decide) (by decide)) (by decide) (by decide))) (by exact (ev_l1 (ev_l1 e6 (by decide) (by decide)) (by decide) (by decide))) (by exact (ev_l1 (ev_lk_st1 e7 (by decide) rfl) (by decide) (by decide)))
                                                              · intro c719
                                                                refine ev_r_iconst (pc := 1815) (k := 0) (by decide +kernel) ?_
                                                                exact ev_r_ireturn (pc := 1816) (x := 0) (v := Int32.ofInt 0) (ty := .boolean) (by decide : ev_bl 0) (by decide +kernel) (by decide +kernel) (ev_ret_bl (by decide : ev_bl 0)) rfl
                                                        · intro c707
                                                          refine ev_r_iconst (pc := 1798) (k := 0) (by decide +kernel) ?_
                                                          exact ev_r_ireturn (pc := 1799) (x := 0) (v := Int32.ofInt 0) (ty := .boolean) (by decide : ev_bl 0) (by decide +kernel) (by decide +kernel) (ev_ret_bl (by decide : ev_bl 0)) rfl
                                                      · intro c700
                                                        refine ev_r_ite ?_ ?_
                                                        · intro c720
                                                          refine ev_r_sw (pc := 40) (i := (.tableswitch 2232 0 32 #[148, 204, 217, 273, 317, 361, 417, 473, 548, 616, 672, 764, 856, 960, 1040, 1120, 1188, 1268, 1324, 1380, 1448, 1540, 1636, 1692, 1736, 1780, 1824, 1868, 1912, 1980, 2064, 2120, 2176])) (len := 148) (pc' := 1820) (by decide +kernel) (by rw [c720]; rw [ev_pure_tsw]; exact ev_tsw_c (o := 1780) (by decide) (by decide) rfl (by decide +kernel)) ?_
                                                          unfold ja_1820
                                                          refine ev_r_aload_n (pc := 1820) (k := 1) (v := .ref 0) trivial (by decide +kernel) (by exact e4) ?_
                                                          refine ev_r_aload_n (pc := 1821) (k := 3) (v := .ref 723) trivial (by decide +kernel) (by exact e6) ?_
                                                          refine ev_r_stat (pc := 1822) (y := 213) (kind := 8) (mi := 388) (na := 2) (as := [ev_nv ((0 + 1)), ev_nv ((723 + 1))]) (rest := []) (encc := ev_oI) (Q := ev_rng) (fun x S1 h => jt_388 12 (by omega) Q ((0 + 1)) ((723 + 1)) (by exact (Or.inr ev_ob_0)) (by exact (Or.inr ev_ab_723)) s8 x S1 h) (Or.inr (Or.inr rfl)) (by decide +kernel) (by decide +kernel) (by decide +kernel) (by decide +kernel) rfl (by (try simp only [ev_sum, ev_nv_cat]); first | done | rfl) ?_
                                                          intro x722 s721 hx722
                                                          show ev_w _ _ _ _ _ [.int (Int32.ofInt x722)] _ _ _ _
                                                          refine ev_r_istore (pc := 1825) (k := 5) (by decide +kernel) (by decide +kernel) rfl ?_
                                                          refine ev_r_aload_n (pc := 1827) (k := 2) (v := .ref 621) trivial (by decide +kernel) (by exact (ev_l1 e5 (by decide) (by decide))) ?_
                                                          refine ev_r_virt (pc := 1828) (y := 215) (mi := 357) (na := 0) (k := 621) (as := []) (rest := []) (encc := ev_oI) (Q := ev_rng) (fun x S1 h => jt_357 12 (by omega) Q   s721 x S1 h) (by exact ev_ob_621) (by decide +kernel) (by decide +kernel) (by decide +kernel) (by decide +kernel) rfl (by (try simp only [ev_sum, ev_nv_cat]); first | done | rfl) ?_
                                                          intro x724 s723 hx724
                                                          show ev_w _ _ _ _ _ [.int (Int32.ofInt x724)] _ _ _ _
                                                          refine ev_r_istore (pc := 1831) (k := 6) (by decide +kernel) (by decide +kernel) rfl ?_
                                                          refine ev_r_aload_n (pc := 1833) (k := 2) (v := .ref 621) trivial (by decide +kernel) (by exact (ev_l1 (ev_l1 e5 (by decide) (by decide)) (by decide) (by decide))) ?_
                                                          refine ev_r_virt (pc := 1834) (y := 131) (mi := 220) (na := 0) (k := 621) (as := []) (rest := []) (encc := ev_oI) (Q := ev_rng) (fun x S1 h => jt_220 12 (by omega) Q   s723 x S1 h) (by exact ev_ob_621) (by decide +kernel) (by decide +kernel) (by decide +kernel) (by decide +kernel) rfl (by (try simp only [ev_sum, ev_nv_cat]); first | done | rfl) ?_
                                                          intro x726 s725 hx726
                                                          show ev_w _ _ _ _ _ [.int (Int32.ofInt x726)] _ _ _ _
                                                          refine ev_r_iload (pc := 1837) (k := 5) (v := Int32.ofInt x722) (by decide +kernel) (by exact (ev_lk_st1 ev_lk_st1_self (by decide) rfl)) ?_
                                                          refine ev_r_icmp (pc := 1839) (q := .eq) (o := 5) (t := 1844) (c := x726 = x722) (by decide +kernel) (ev_k_eq hx726 hx722) (by decide +kernel) ?_ ?_
                                                          · intro c727
                                                            refine ev_r_iload (pc := 1844) (k := 5) (v := Int32.ofInt x722) (by decide +kernel) (by exact (ev_lk_st1 ev_lk_st1_self (by decide) rfl)) ?_
                                                            refine ev_r_jn (Q := fun K => ∀ (s734 : ev_St) (w728 : List (Nat × Value)), ev_lk w728 0 = some (.retAddr 0) → ev_lk w728 1 = some (.ref 0) → ev_lk w728 2 = some (.ref 621) → ev_lk w728 3 = some (.ref 723) → ev_lk w728 4 = some (.int (Int32.ofInt x1)) → ev_w (some (L, xs)) ev_Mlaw 12 1861 w728 [] s734 (K  s734) ev_eI ev_bl) ?_ ?_
                                                            · intro  s734 w728 e729 e730 e731 e732 e733
                                                              refine ev_r_goto (pc := 1861) (o := 411) (t := 2272) (by decide +kernel) (by decide +kernel) ?_
                                                              exact hK2272  s734 _ (by exact e729) (by exact e730) (by exact e731) (by exact e732) (by exact e733)
                                                            · intro K1861 hK1861
                                                              refine ev_r_if (pc := 1846) (q := .ne) (o := 15) (t := 1861) (c := x722 ≠ 0) (by decide +kernel) (ev_k_ne hx722 ev_rng0) (by decide +kernel) ?_ ?_
                                                              · intro c735
                                                                exact hK1861  s725 _ (by exact (ev_l1 (ev_l1 e3 (by decide) (by decide)) (by decide) (by decide))) (by exact (ev_l1 (ev_l1 e4 (by decide) (by decide)) (by decide) (by decide))) (by exact (ev_l1 (ev_l1 e5 (by decide) (by decide)) (by decide) (by decide))) (by exact (ev_l1 (ev_l1 e6 (by decide) (by decide)) (by decide) (by decide))) (by exact (ev_l1 (ev_lk_st1 e7 (by decide) rfl) (by decide) (by decide)))
                                                              · intro c735
                                                                refine ev_r_aload_n (pc := 1849) (k := 3) (v := .ref 723) trivial (by decide +kernel) (by exact (ev_l1 (ev_l1 e6 (by decide) (by decide)) (by decide) (by decide))) ?_
                                                                refine ev_r_iconst (pc := 1850) (k := 0) (by decide +kernel) ?_
                                                                refine ev_r_lald (pc := 1851) (by decide) (by decide +kernel) (by exact ev_ab_723) ?_
                                                                intro y736
                                                                refine ev_r_iload (pc := 1852) (k := 6) (v := Int32.ofInt x724) (by decide +kernel) (by exact ev_lk_st1_self) ?_
                                                                refine ev_r_toL (pc := 1854) (i := .i2l) (len := 1) (pc' := 1855) (by decide +kernel) rfl ?_
                                                                intro y737
                                                                refine ev_r_toI (pc := 1855) (i := .lcmp) (len := 1) (pc' := 1856) (by decide +kernel) rfl ?_
                                                                intro x738 hx738
                                                                refine ev_r_if (pc := 1856) (q := .eq) (o := 5) (t := 1861) (c := x738 = 0) (by decide +kernel) (ev_k_eq hx738 ev_rng0) (by decide +kernel) ?_ ?_
                                                                · intro c739
                                                                  exact hK1861  s725 _ (by exact (ev_l1 (ev_l1 e3 (by decide) (by decide)) (by decide) (by decide))) (by exact (ev_l1 (ev_l1 e4 (by decide) (by decide)) (by decide) (by decide))) (by exact (ev_l1 (ev_l1 e5 (by decide) (by decide)) (by decide) (by decide))) (by exact (ev_l1 (ev_l1 e6 (by decide) (by decide)) (by decide) (by decide))) (by exact (ev_l1 (ev_lk_st1 e7 (by decide) rfl) (by decide) (by decide)))
                                                                · intro c739
                                                                  refine ev_r_iconst (pc := 1859) (k := 0) (by decide +kernel) ?_
                                                                  exact ev_r_ireturn (pc := 1860) (x := 0) (v := Int32.ofInt 0) (ty := .boolean) (by decide : ev_bl 0) (by decide +kernel) (by decide +kernel) (ev_ret_bl (by decide : ev_bl 0)) rfl
                                                          · intro c727
                                                            refine ev_r_iconst (pc := 1842) (k := 0) (by decide +kernel) ?_
                                                            exact ev_r_ireturn (pc := 1843) (x := 0) (v := Int32.ofInt 0) (ty := .boolean) (by decide : ev_bl 0) (by decide +kernel) (by decide +kernel) (ev_ret_bl (by decide : ev_bl 0)) rfl
                                                        · intro c720
                                                          refine ev_r_ite ?_ ?_
                                                          · intro c740
                                                            refine ev_r_sw (pc := 40) (i := (.tableswitch 2232 0 32 #[148, 204, 217, 273, 317, 361, 417, 473, 548, 616, 672, 764, 856, 960, 1040, 1120, 1188, 1268, 1324, 1380, 1448, 1540, 1636, 1692, 1736, 1780, 1824, 1868, 1912, 1980, 2064, 2120, 2176])) (len := 148) (pc' := 1864) (by decide +kernel) (by rw [c740]; rw [ev_pure_tsw]; exact ev_tsw_c (o := 1824) (by decide) (by decide) rfl (by decide +kernel)) ?_
                                                            unfold ja_1864
                                                            refine ev_r_aload_n (pc := 1864) (k := 1) (v := .ref 0) trivial (by decide +kernel) (by exact e4) ?_
                                                            refine ev_r_aload_n (pc := 1865) (k := 3) (v := .ref 723) trivial (by decide +kernel) (by exact e6) ?_
                                                            refine ev_r_stat (pc := 1866) (y := 216) (kind := 8) (mi := 389) (na := 2) (as := [ev_nv ((0 + 1)), ev_nv ((723 + 1))]) (rest := []) (encc := ev_oI) (Q := ev_rng) (fun x S1 h => jt_389 12 (by omega) Q ((0 + 1)) ((723 + 1)) (by exact (Or.inr ev_ob_0)) (by exact (Or.inr ev_ab_723)) s8 x S1 h) (Or.inr (Or.inr rfl)) (by decide +kernel) (by decide +kernel) (by decide +kernel) (by decide +kernel) rfl (by (try simp only [ev_sum, ev_nv_cat]); first | done | rfl) ?_
                                                            intro x742 s741 hx742
                                                            show ev_w _ _ _ _ _ [.int (Int32.ofInt x742)] _ _ _ _
                                                            refine ev_r_istore (pc := 1869) (k := 5) (by decide +kernel) (by decide +kernel) rfl ?_
                                                            refine ev_r_aload_n (pc := 1871) (k := 2) (v := .ref 621) trivial (by decide +kernel) (by exact (ev_l1 e5 (by decide) (by decide))) ?_
                                                            refine ev_r_virt (pc := 1872) (y := 218) (mi := 358) (na := 0) (k := 621) (as := []) (rest := []) (encc := ev_oI) (Q := ev_rng) (fun x S1 h => jt_358 12 (by omega) Q   s741 x S1 h) (by exact ev_ob_621) (by decide +kernel) (by decide +kernel) (by decide +kernel) (by decide +kernel) rfl (by (try simp only [ev_sum, ev_nv_cat]); first | done | rfl) ?_
                                                            intro x744 s743 hx744
                                                            show ev_w _ _ _ _ _ [.int (Int32.ofInt x744)] _ _ _ _
                                                            refine ev_r_istore (pc := 1875) (k := 6) (by decide +kernel) (by decide +kernel) rfl ?_
                                                            refine ev_r_aload_n (pc := 1877) (k := 2) (v := .ref 621) trivial (by decide +kernel) (by exact (ev_l1 (ev_l1 e5 (by decide) (by decide)) (by decide) (by decide))) ?_
                                                            refine ev_r_virt (pc := 1878) (y := 131) (mi := 220) (na := 0) (k := 621) (as := []) (rest := []) (encc := ev_oI) (Q := ev_rng) (fun x S1 h => jt_220 12 (by omega) Q   s743 x S1 h) (by exact ev_ob_621) (by decide +kernel) (by decide +kernel) (by decide +kernel) (by decide +kernel) rfl (by (try simp only [ev_sum, ev_nv_cat]); first | done | rfl) ?_
                                                            intro x746 s745 hx746
                                                            show ev_w _ _ _ _ _ [.int (Int32.ofInt x746)] _ _ _ _
                                                            refine ev_r_iload (pc := 1881) (k := 5) (v := Int32.ofInt x742) (by decide +kernel) (by exact (ev_lk_st1 ev_lk_st1_self (by decide) rfl)) ?_
                                                            refine ev_r_icmp (pc := 1883) (q := .eq) (o := 5) (t := 1888) (c := x746 = x742) (by decide +kernel) (ev_k_eq hx746 hx742) (by decide +kernel) ?_ ?_
                                                            · intro c747
                                                              refine ev_r_iload (pc := 1888) (k := 5) (v := Int32.ofInt x742) (by decide +kernel) (by exact (ev_lk_st1 ev_lk_st1_self (by decide) rfl)) ?_
                                                              refine ev_r_jn (Q := fun K => ∀ (s754 : ev_St) (w748 : List (Nat × Value)), ev_lk w748 0 = some (.retAddr 0) → ev_lk w748 1 = some (.ref 0) → ev_lk w748 2 = some (.ref 621) → ev_lk w748 3 = some (.ref 723) → ev_lk w748 4 = some (.int (Int32.ofInt x1)) → ev_w (some (L, xs)) ev_Mlaw 12 1905 w748 [] s754 (K  s754) ev_eI ev_bl) ?_ ?_
                                                              · intro  s754 w748 e749 e750 e751 e752 e753
                                                                refine ev_r_goto (pc := 1905) (o := 367) (t := 2272) (by decide +kernel) (by decide +kernel) ?_
                                                                exact hK2272  s754 _ (by exact e749) (by exact e750) (by exact e751) (by exact e752) (by exact e753)
                                                              · intro K1905 hK1905
                                                                refine ev_r_if (pc := 1890) (q := .ne) (o := 15) (t := 1905) (c := x742 ≠ 0) (by decide +kernel) (ev_k_ne hx742 ev_rng0) (by decide +kernel) ?_ ?_
                                                                · intro c755
                                                                  exact hK1905  s745 _ (by exact (ev_l1 (ev_l1 e3 (by decide) (by decide)) (by decide) (by decide))) (by exact (ev_l1 (ev_l1 e4 (by decide) (by decide)) (by decide) (by decide))) (by exact (ev_l1 (ev_l1 e5 (by decide) (by decide)) (by decide) (by decide))) (by exact (ev_l1 (ev_l1 e6 (by decide) (by decide)) (by decide) (by decide))) (by exact (ev_l1 (ev_lk_st1 e7 (by decide) rfl) (by decide) (by decide)))
                                                                · intro c755
                                                                  refine ev_r_aload_n (pc := 1893) (k := 3) (v := .ref 723) trivial (by decide +kernel) (by exact (ev_l1 (ev_l1 e6 (by decide) (by decide)) (by decide) (by decide))) ?_
                                                                  refine ev_r_iconst (pc := 1894) (k := 0) (by decide +kernel) ?_
                                                                  refine ev_r_lald (pc := 1895) (by decide) (by decide +kernel) (by exact ev_ab_723) ?_
                                                                  intro y756
                                                                  refine ev_r_iload (pc := 1896) (k := 6) (v := Int32.ofInt x744) (by decide +kernel) (by exact ev_lk_st1_self) ?_
                                                                  refine ev_r_toL (pc := 1898) (i := .i2l) (len := 1) (pc' := 1899) (by decide +kernel) rfl ?_
                                                                  intro y757
                                                                  refine ev_r_toI (pc := 1899) (i := .lcmp) (len := 1) (pc' := 1900) (by decide +kernel) rfl ?_
                                                                  intro x758 hx758
                                                                  refine ev_r_if (pc := 1900) (q := .eq) (o := 5) (t := 1905) (c := x758 = 0) (by decide +kernel) (ev_k_eq hx758 ev_rng0) (by decide +kernel) ?_ ?_
                                                                  · intro c759
                                                                    exact hK1905  s745 _ (by exact (ev_l1 (ev_l1 e3 (by decide) (by decide)) (by decide) (by decide))) (by exact (ev_l1 (ev_l1 e4 (by decide) (by decide)) (by decide) (by decide))) (by exact (ev_l1 (ev_l1 e5 (by decide) (by decide)) (by decide) (by decide))) (by exact (ev_l1 (ev_l1 e6 (by decide) (by decide)) (by decide) (by decide))) (by exact (ev_l1 (ev_lk_st1 e7 (by decide) rfl) (by decide) (by decide)))
                                                                  · intro c759
                                                                    refine ev_r_iconst (pc := 1903) (k := 0) (by decide +kernel) ?_
                                                                    exact ev_r_ireturn (pc := 1904) (x := 0) (v := Int32.ofInt 0) (ty := .boolean) (by decide : ev_bl 0) (by decide +kernel) (by decide +kernel) (ev_ret_bl (by decide : ev_bl 0)) rfl
                                                            · intro c747
                                                              refine ev_r_iconst (pc := 1886) (k := 0) (by decide +kernel) ?_
                                                              exact ev_r_ireturn (pc := 1887) (x := 0) (v := Int32.ofInt 0) (ty := .boolean) (by decide : ev_bl 0) (by decide +kernel) (by decide +kernel) (ev_ret_bl (by decide : ev_bl 0)) rfl
                                                          · intro c740
                                                            refine ev_r_ite ?_ ?_
                                                            · intro c760
                                                              refine ev_r_sw (pc := 40) (i := (.tableswitch 2232 0 32 #[148, 204, 217, 273, 317, 361, 417, 473, 548, 616, 672, 764, 856, 960, 1040, 1120, 1188, 1268, 1324, 1380, 1448, 1540, 1636, 1692, 1736, 1780, 1824, 1868, 1912, 1980, 2064, 2120, 2176])) (len := 148) (pc' := 1908) (by decide +kernel) (by rw [c760]; rw [ev_pure_tsw]; exact ev_tsw_c (o := 1868) (by decide) (by decide) rfl (by decide +kernel)) ?_
                                                              unfold ja_1908
                                                              refine ev_r_aload_n (pc := 1908) (k := 1) (v := .ref 0) trivial (by decide +kernel) (by exact e4) ?_
                                                              refine ev_r_aload_n (pc := 1909) (k := 3) (v := .ref 723) trivial (by decide +kernel) (by exact e6) ?_
                                                              refine ev_r_stat (pc := 1910) (y := 219) (kind := 8) (mi := 390) (na := 2) (as := [ev_nv ((0 + 1)), ev_nv ((723 + 1))]) (rest := []) (encc := ev_oI) (Q := ev_rng) (fun x S1 h => jt_390 12 (by omega) Q ((0 + 1)) ((723 + 1)) (by exact (Or.inr ev_ob_0)) (by exact (Or.inr ev_ab_723)) s8 x S1 h) (Or.inr (Or.inr rfl)) (by decide +kernel) (by decide +kernel) (by decide +kernel) (by decide +kernel) rfl (by (try simp only [ev_sum, ev_nv_cat]); first | done | rfl) ?_
                                                              intro x762 s761 hx762
                                                              show ev_w _ _ _ _ _ [.int (Int32.ofInt x762)] _ _ _ _
                                                              refine ev_r_istore (pc := 1913) (k := 5) (by decide +kernel) (by decide +kernel) rfl ?_
                                                              refine ev_r_aload_n (pc := 1915) (k := 2) (v := .ref 621) trivial (by decide +kernel) (by exact (ev_l1 e5 (by decide) (by decide))) ?_
                                                              refine ev_r_virt (pc := 1916) (y := 221) (mi := 359) (na := 0) (k := 621) (as := []) (rest := []) (encc := ev_oI) (Q := ev_rng) (fun x S1 h => jt_359 12 (by omega) Q   s761 x S1 h) (by exact ev_ob_621) (by decide +kernel) (by decide +kernel) (by decide +kernel) (by decide +kernel) rfl (by (try simp only [ev_sum, ev_nv_cat]); first | done | rfl) ?_
                                                              intro x764 s763 hx764
                                                              show ev_w _ _ _ _ _ [.int (Int32.ofInt x764)] _ _ _ _
                                                              refine ev_r_istore (pc := 1919) (k := 6) (by decide +kernel) (by decide +kernel) rfl ?_
                                                              refine ev_r_aload_n (pc := 1921) (k := 2) (v := .ref 621) trivial (by decide +kernel) (by exact (ev_l1 (ev_l1 e5 (by decide) (by decide)) (by decide) (by decide))) ?_
                                                              refine ev_r_virt (pc := 1922) (y := 131) (mi := 220) (na := 0) (k := 621) (as := []) (rest := []) (encc := ev_oI) (Q := ev_rng) (fun x S1 h => jt_220 12 (by omega) Q   s763 x S1 h) (by exact ev_ob_621) (by decide +kernel) (by decide +kernel) (by decide +kernel) (by decide +kernel) rfl (by (try simp only [ev_sum, ev_nv_cat]); first | done | rfl) ?_
                                                              intro x766 s765 hx766
                                                              show ev_w _ _ _ _ _ [.int (Int32.ofInt x766)] _ _ _ _
                                                              refine ev_r_iload (pc := 1925) (k := 5) (v := Int32.ofInt x762) (by decide +kernel) (by exact (ev_lk_st1 ev_lk_st1_self (by decide) rfl)) ?_
                                                              refine ev_r_icmp (pc := 1927) (q := .eq) (o := 5) (t := 1932) (c := x766 = x762) (by decide +kernel) (ev_k_eq hx766 hx762) (by decide +kernel) ?_ ?_
                                                              · intro c767
                                                                refine ev_r_iload (pc := 1932) (k := 5) (v := Int32.ofInt x762) (by decide +kernel) (by exact (ev_lk_st1 ev_lk_st1_self (by decide) rfl)) ?_
                                                                refine ev_r_jn (Q := fun K => ∀ (s774 : ev_St) (w768 : List (Nat × Value)), ev_lk w768 0 = some (.retAddr 0) → ev_lk w768 1 = some (.ref 0) → ev_lk w768 2 = some (.ref 621) → ev_lk w768 3 = some (.ref 723) → ev_lk w768 4 = some (.int (Int32.ofInt x1)) → ev_w (some (L, xs)) ev_Mlaw 12 1949 w768 [] s774 (K  s774) ev_eI ev_bl) ?_ ?_
                                                                · intro  s774 w768 e769 e770 e771 e772 e773
                                                                  refine ev_r_goto (pc := 1949) (o := 323) (t := 2272) (by decide +kernel) (by decide +kernel) ?_
                                                                  exact hK2272  s774 _ (by exact e769) (by exact e770) (by exact e771) (by exact e772) (by exact e773)
                                                                · intro K1949 hK1949
                                                                  refine ev_r_if (pc := 1934) (q := .ne) (o := 15) (t := 1949) (c := x762 ≠ 0) (by decide +kernel) (ev_k_ne hx762 ev_rng0) (by decide +kernel) ?_ ?_
                                                                  · intro c775
                                                                    exact hK1949  s765 _ (by exact (ev_l1 (ev_l1 e3 (by decide) (by decide)) (by decide) (by decide))) (by exact (ev_l1 (ev_l1 e4 (by decide) (by decide)) (by decide) (by decide))) (by exact (ev_l1 (ev_l1 e5 (by decide) (by decide)) (by decide) (by decide))) (by exact (ev_l1 (ev_l1 e6 (by decide) (by decide)) (by decide) (by decide))) (by exact (ev_l1 (ev_lk_st1 e7 (by decide) rfl) (by decide) (by decide)))
                                                                  · intro c775
                                                                    refine ev_r_aload_n (pc := 1937) (k := 3) (v := .ref 723) trivial (by decide +kernel) (by exact (ev_l1 (ev_l1 e6 (by decide) (by decide)) (by decide) (by decide))) ?_
                                                                    refine ev_r_iconst (pc := 1938) (k := 0) (by decide +kernel) ?_
                                                                    refine ev_r_lald (pc := 1939) (by decide) (by decide +kernel) (by exact ev_ab_723) ?_
                                                                    intro y776
                                                                    refine ev_r_iload (pc := 1940) (k := 6) (v := Int32.ofInt x764) (by decide +kernel) (by exact ev_lk_st1_self) ?_
                                                                    refine ev_r_toL (pc := 1942) (i := .i2l) (len := 1) (pc' := 1943) (by decide +kernel) rfl ?_
                                                                    intro y777
                                                                    refine ev_r_toI (pc := 1943) (i := .lcmp) (len := 1) (pc' := 1944) (by decide +kernel) rfl ?_
                                                                    intro x778 hx778
                                                                    refine ev_r_if (pc := 1944) (q := .eq) (o := 5) (t := 1949) (c := x778 = 0) (by decide +kernel) (ev_k_eq hx778 ev_rng0) (by decide +kernel) ?_ ?_
                                                                    · intro c779
                                                                      exact hK1949  s765 _ (by exact (ev_l1 (ev_l1 e3 (by decide) (by decide)) (by decide) (by decide))) (by exact (ev_l1 (ev_l1 e4 (by decide) (by decide)) (by decide) (by decide))) (by exact (ev_l1 (ev_l1 e5 (by decide) (by decide)) (by decide) (by decide))) (by exact (ev_l1 (ev_l1 e6 (by decide) (by decide)) (by decide) (by decide))) (by exact (ev_l1 (ev_lk_st1 e7 (by decide) rfl) (by decide) (by decide)))
                                                                    · intro c779
                                                                      refine ev_r_iconst (pc := 1947) (k := 0) (by decide +kernel) ?_
                                                                      exact ev_r_ireturn (pc := 1948) (x := 0) (v := Int32.ofInt 0) (ty := .boolean) (by decide : ev_bl 0) (by decide +kernel) (by decide +kernel) (ev_ret_bl (by decide : ev_bl 0)) rfl
                                                              · intro c767
                                                                refine ev_r_iconst (pc := 1930) (k := 0) (by decide +kernel) ?_
                                                                exact ev_r_ireturn (pc := 1931) (x := 0) (v := Int32.ofInt 0) (ty := .boolean) (by decide : ev_bl 0) (by decide +kernel) (by decide +kernel) (ev_ret_bl (by decide : ev_bl 0)) rfl
                                                            · intro c760
                                                              refine ev_r_ite ?_ ?_
                                                              · intro c780
                                                                refine ev_r_sw (pc := 40) (i := (.tableswitch 2232 0 32 #[148, 204, 217, 273, 317, 361, 417, 473, 548, 616, 672, 764, 856, 960, 1040, 1120, 1188, 1268, 1324, 1380, 1448, 1540, 1636, 1692, 1736, 1780, 1824, 1868, 1912, 1980, 2064, 2120, 2176])) (len := 148) (pc' := 1952) (by decide +kernel) (by rw [c780]; rw [ev_pure_tsw]; exact ev_tsw_c (o := 1912) (by decide) (by decide) rfl (by decide +kernel)) ?_
                                                                unfold ja_1952
                                                                refine ev_r_aload_n (pc := 1952) (k := 1) (v := .ref 0) trivial (by decide +kernel) (by exact e4) ?_
                                                                refine ev_r_aload_n (pc := 1953) (k := 0) (v := .retAddr 0) trivial (by decide +kernel) (by exact e3) ?_
                                                                refine ev_r_iload (pc := 1954) (k := 4) (v := Int32.ofInt x1) (by decide +kernel) (by exact e7) ?_
                                                                refine ev_r_iconst (pc := 1956) (k := 1) (by decide +kernel) ?_
                                                                refine ev_r_iadd (pc := 1957) (by decide +kernel) ?_
                                                                intro x781 hx781
                                                                refine ev_r_xald (pc := 1958) hx781 (by decide +kernel) ?_
                                                                intro x782 hx782
                                                                refine ev_r_aload_n (pc := 1959) (k := 0) (v := .retAddr 0) trivial (by decide +kernel) (by exact e3) ?_
                                                                refine ev_r_iload (pc := 1960) (k := 4) (v := Int32.ofInt x1) (by decide +kernel) (by exact e7) ?_
                                                                refine ev_r_iconst (pc := 1962) (k := 2) (by decide +kernel) ?_
                                                                refine ev_r_iadd (pc := 1963) (by decide +kernel) ?_
                                                                intro x783 hx783
                                                                refine ev_r_xald (pc := 1964) hx783 (by decide +kernel) ?_
                                                                intro x784 hx784
                                                                refine ev_r_aload_n (pc := 1965) (k := 3) (v := .ref 723) trivial (by decide +kernel) (by exact e6) ?_
                                                                refine ev_r_stat (pc := 1966) (y := 222) (kind := 8) (mi := 391) (na := 4) (as := [ev_nv ((0 + 1)), .int (Int32.ofInt x782), .int (Int32.ofInt x784), ev_nv ((723 + 1))]) (rest := []) (encc := ev_oI) (Q := ev_rng) (fun x S1 h => jt_391 12 (by omega) Q ((0 + 1)) x782 x784 ((723 + 1)) (by exact (Or.inr ev_ob_0)) hx782 hx784 (by exact (Or.inr ev_ab_723)) s8 x S1 h) (Or.inr (Or.inr rfl)) (by decide +kernel) (by decide +kernel) (by decide +kernel) (by decide +kernel) rfl (by (try simp only [ev_sum, ev_nv_cat]); first | done | rfl) ?_
                                                                intro x786 s785 hx786
                                                                show ev_w _ _ _ _ _ [.int (Int32.ofInt x786)] _ _ _ _
                                                                refine ev_r_istore (pc := 1969) (k := 5) (by decide +kernel) (by decide +kernel) rfl ?_
                                                                refine ev_r_aload_n (pc := 1971) (k := 2) (v := .ref 621) trivial (by decide +kernel) (by exact (ev_l1 e5 (by decide) (by decide))) ?_
                                                                refine ev_r_aload_n (pc := 1972) (k := 0) (v := .retAddr 0) trivial (by decide +kernel) (by exact (ev_l1 e3 (by decide) (by decide))) ?_
                                                                refine ev_r_iload (pc := 1973) (k := 4) (v := Int32.ofInt x1) (by decide +kernel) (by exact (ev_lk_st1 e7 (by decide) rfl)) ?_
                                                                refine ev_r_iconst (pc := 1975) (k := 1) (by decide +kernel) ?_
                                                                refine ev_r_iadd (pc := 1976) (by decide +kernel) ?_
                                                                intro x787 hx787
                                                                refine ev_r_xald (pc := 1977) hx787 (by decide +kernel) ?_
                                                                intro x788 hx788
                                                                refine ev_r_aload_n (pc := 1978) (k := 0) (v := .retAddr 0) trivial (by decide +kernel) (by exact (ev_l1 e3 (by decide) (by decide))) ?_
                                                                refine ev_r_iload (pc := 1979) (k := 4) (v := Int32.ofInt x1) (by decide +kernel) (by exact (ev_lk_st1 e7 (by decide) rfl)) ?_
                                                                refine ev_r_iconst (pc := 1981) (k := 2) (by decide +kernel) ?_
                                                                refine ev_r_iadd (pc := 1982) (by decide +kernel) ?_
                                                                intro x789 hx789
                                                                refine ev_r_xald (pc := 1983) hx789 (by decide +kernel) ?_
                                                                intro x790 hx790
                                                                refine ev_r_virt (pc := 1984) (y := 224) (mi := 361) (na := 2) (k := 621) (as := [.int (Int32.ofInt x788), .int (Int32.ofInt x790)]) (rest := []) (encc := ev_oI) (Q := ev_rng) (fun x S1 h => jt_361 12 (by omega) Q x788 x790 hx788 hx790 s785 x S1 h) (by exact ev_ob_621) (by decide +kernel) (by decide +kernel) (by decide +kernel) (by decide +kernel) rfl (by (try simp only [ev_sum, ev_nv_cat]); first | done | rfl) ?_
                                                                intro x792 s791 hx792
                                                                show ev_w _ _ _ _ _ [.int (Int32.ofInt x792)] _ _ _ _
                                                                refine ev_r_istore (pc := 1987) (k := 6) (by decide +kernel) (by decide +kernel) rfl ?_
                                                                refine ev_r_aload_n (pc := 1989) (k := 2) (v := .ref 621) trivial (by decide +kernel) (by exact (ev_l1 (ev_l1 e5 (by decide) (by decide)) (by decide) (by decide))) ?_
                                                                refine ev_r_virt (pc := 1990) (y := 131) (mi := 220) (na := 0) (k := 621) (as := []) (rest := []) (encc := ev_oI) (Q := ev_rng) (fun x S1 h => jt_220 12 (by omega) Q   s791 x S1 h) (by exact ev_ob_621) (by decide +kernel) (by decide +kernel) (by decide +kernel) (by decide +kernel) rfl (by (try simp only [ev_sum, ev_nv_cat]); first | done | rfl) ?_
                                                                intro x794 s793 hx794
                                                                show ev_w _ _ _ _ _ [.int (Int32.ofInt x794)] _ _ _ _
                                                                refine ev_r_iload (pc := 1993) (k := 5) (v := Int32.ofInt x786) (by decide +kernel) (by exact (ev_lk_st1 ev_lk_st1_self (by decide) rfl)) ?_
                                                                refine ev_r_icmp (pc := 1995) (q := .eq) (o := 5) (t := 2000) (c := x794 = x786) (by decide +kernel) (ev_k_eq hx794 hx786) (by decide +kernel) ?_ ?_
                                                                · intro c795
                                                                  refine ev_r_iload (pc := 2000) (k := 5) (v := Int32.ofInt x786) (by decide +kernel) (by exact (ev_lk_st1 ev_lk_st1_self (by decide) rfl)) ?_
                                                                  refine ev_r_jn (Q := fun K => ∀ (s802 : ev_St) (w796 : List (Nat × Value)), ev_lk w796 0 = some (.retAddr 0) → ev_lk w796 1 = some (.ref 0) → ev_lk w796 2 = some (.ref 621) → ev_lk w796 3 = some (.ref 723) → ev_lk w796 4 = some (.int (Int32.ofInt x1)) → ev_w (some (L, xs)) ev_Mlaw 12 2017 w796 [] s802 (K  s802) ev_eI ev_bl) ?_ ?_
                                                                  · intro  s802 w796 e797 e798 e799 e800 e801
                                                                    refine ev_r_goto (pc := 2017) (o := 255) (t := 2272) (by decide +kernel) (by decide +kernel) ?_
                                                                    exact hK2272  s802 _ (by exact e797) (by exact e798) (by exact e799) (by exact e800) (by exact e801)
                                                                  · intro K2017 hK2017
                                                                    refine ev_r_if (pc := 2002) (q := .ne) (o := 15) (t := 2017) (c := x786 ≠ 0) (by decide +kernel) (ev_k_ne hx786 ev_rng0) (by decide +kernel) ?_ ?_
                                                                    · intro c803
                                                                      exact hK2017  s793 _ (by exact (ev_l1 (ev_l1 e3 (by decide) (by decide)) (by decide) (by decide))) (by exact (ev_l1 (ev_l1 e4 (by decide) (by decide)) (by decide) (by decide))) (by exact (ev_l1 (ev_l1 e5 (by decide) (by decide)) (by decide) (by decide))) (by exact (ev_l1 (ev_l1 e6 (by decide) (by decide)) (by decide) (by decide))) (by exact (ev_l1 (ev_lk_st1 e7 (by decide) rfl) (by decide) (by decide)))
                                                                    · intro c803
                                                                      refine ev_r_aload_n (pc := 2005) (k := 3) (v := .ref 723) trivial (by decide +kernel) (by exact (ev_l1 (ev_l1 e6 (by decide) (by decide)) (by decide) (by decide))) ?_
                                                                      refine ev_r_iconst (pc := 2006) (k := 0) (by decide +kernel) ?_
                                                                      refine ev_r_lald (pc := 2007) (by decide) (by decide +kernel) (by exact ev_ab_723) ?_
                                                                      intro y804
                                                                      refine ev_r_iload (pc := 2008) (k := 6) (v := Int32.ofInt x792) (by decide +kernel) (by exact ev_lk_st1_self) ?_
                                                                      refine ev_r_toL (pc := 2010) (i := .i2l) (len := 1) (pc' := 2011) (by decide +kernel) rfl ?_
                                                                      intro y805
                                                                      refine ev_r_toI (pc := 2011) (i := .lcmp) (len := 1) (pc' := 2012) (by decide +kernel) rfl ?_
                                                                      intro x806 hx806
                                                                      refine ev_r_if (pc := 2012) (q := .eq) (o := 5) (t := 2017) (c := x806 = 0) (by decide +kernel) (ev_k_eq hx806 ev_rng0) (by decide +kernel) ?_ ?_
                                                                      · intro c807
                                                                        exact hK2017  s793 _ (by exact (ev_l1 (ev_l1 e3 (by decide) (by decide)) (by decide) (by decide))) (by exact (ev_l1 (ev_l1 e4 (by decide) (by decide)) (by decide) (by decide))) (by exact (ev_l1 (ev_l1 e5 (by decide) (by decide)) (by decide) (by decide))) (by exact (ev_l1 (ev_l1 e6 (by decide) (by decide)) (by decide) (by decide))) (by exact (ev_l1 (ev_lk_st1 e7 (by decide) rfl) (by decide) (by decide)))
                                                                      · intro c807
                                                                        refine ev_r_iconst (pc := 2015) (k := 0) (by decide +kernel) ?_
                                                                        exact ev_r_ireturn (pc := 2016) (x := 0) (v := Int32.ofInt 0) (ty := .boolean) (by decide : ev_bl 0) (by decide +kernel) (by decide +kernel) (ev_ret_bl (by decide : ev_bl 0)) rfl
                                                                · intro c795
                                                                  refine ev_r_iconst (pc := 1998) (k := 0) (by decide +kernel) ?_
                                                                  exact ev_r_ireturn (pc := 1999) (x := 0) (v := Int32.ofInt 0) (ty := .boolean) (by decide : ev_bl 0) (by decide +kernel) (by decide +kernel) (ev_ret_bl (by decide : ev_bl 0)) rfl
                                                              · intro c780
                                                                refine ev_r_ite ?_ ?_
                                                                · intro c808
                                                                  refine ev_r_sw (pc := 40) (i := (.tableswitch 2232 0 32 #[148, 204, 217, 273, 317, 361, 417, 473, 548, 616, 672, 764, 856, 960, 1040, 1120, 1188, 1268, 1324, 1380, 1448, 1540, 1636, 1692, 1736, 1780, 1824, 1868, 1912, 1980, 2064, 2120, 2176])) (len := 148) (pc' := 2020) (by decide +kernel) (by rw [c808]; rw [ev_pure_tsw]; exact ev_tsw_c (o := 1980) (by decide) (by decide) rfl (by decide +kernel)) ?_
                                                                  unfold ja_2020
                                                                  refine ev_r_aload_n (pc := 2020) (k := 1) (v := .ref 0) trivial (by decide +kernel) (by exact e4) ?_
                                                                  refine ev_r_aload_n (pc := 2021) (k := 0) (v := .retAddr 0) trivial (by decide +kernel) (by exact e3) ?_
                                                                  refine ev_r_iload (pc := 2022) (k := 4) (v := Int32.ofInt x1) (by decide +kernel) (by exact e7) ?_
                                                                  refine ev_r_iconst (pc := 2024) (k := 1) (by decide +kernel) ?_
                                                                  refine ev_r_iadd (pc := 2025) (by decide +kernel) ?_
                                                                  intro x809 hx809
                                                                  refine ev_r_xald (pc := 2026) hx809 (by decide +kernel) ?_
                                                                  intro x810 hx810
                                                                  refine ev_r_aload_n (pc := 2027) (k := 0) (v := .retAddr 0) trivial (by decide +kernel) (by exact e3) ?_
                                                                  refine ev_r_iload (pc := 2028) (k := 4) (v := Int32.ofInt x1) (by decide +kernel) (by exact e7) ?_
                                                                  refine ev_r_iconst (pc := 2030) (k := 2) (by decide +kernel) ?_
                                                                  refine ev_r_iadd (pc := 2031) (by decide +kernel) ?_
                                                                  intro x811 hx811
                                                                  refine ev_r_xald (pc := 2032) hx811 (by decide +kernel) ?_
                                                                  intro x812 hx812
                                                                  refine ev_r_jn (Q := fun K => ∀ (x814 : Int) (hx814 : ev_rng x814), ∀ (x813 : Int) (hx813 : ev_rng x813), ∀ (s821 : ev_St) (w815 : List (Nat × Value)), ev_lk w815 0 = some (.retAddr 0) → ev_lk w815 1 = some (.ref 0) → ev_lk w815 2 = some (.ref 621) → ev_lk w815 3 = some (.ref 723) → ev_lk w815 4 = some (.int (Int32.ofInt x1)) → ev_w (some (L, xs)) ev_Mlaw 12 2041 w815 [.int (Int32.ofInt x814), .int (Int32.ofInt x813), .ref 0] s821 (K x814 x813 s821) ev_eI ev_bl) ?_ ?_
                                                                  · intro x814 hx814 x813 hx813 s821 w815 e816 e817 e818 e819 e820
                                                                    refine ev_r_aload_n (pc := 2041) (k := 3) (v := .ref 723) trivial (by decide +kernel) (by exact e819) ?_
                                                                    refine ev_r_stat (pc := 2042) (y := 225) (kind := 8) (mi := 392) (na := 4) (as := [ev_nv ((0 + 1)), .int (Int32.ofInt x813), .int (Int32.ofInt x814), ev_nv ((723 + 1))]) (rest := []) (encc := ev_oI) (Q := ev_rng) (fun x S1 h => jt_392 12 (by omega) Q ((0 + 1)) x813 x814 ((723 + 1)) (by exact (Or.inr ev_ob_0)) hx813 hx814 (by exact (Or.inr ev_ab_723)) s821 x S1 h) (Or.inr (Or.inr rfl)) (by decide +kernel) (by decide +kernel) (by decide +kernel) (by decide +kernel) rfl (by (try simp only [ev_sum, ev_nv_cat]); first | done | rfl) ?_
                                                                    intro x823 s822 hx823
                                                                    show ev_w _ _ _ _ _ [.int (Int32.ofInt x823)] _ _ _ _
                                                                    refine ev_r_istore (pc := 2045) (k := 5) (by decide +kernel) (by decide +kernel) rfl ?_
                                                                    refine ev_r_aload_n (pc := 2047) (k := 2) (v := .ref 621) trivial (by decide +kernel) (by exact (ev_l1 e818 (by decide) (by decide))) ?_
                                                                    refine ev_r_aload_n (pc := 2048) (k := 0) (v := .retAddr 0) trivial (by decide +kernel) (by exact (ev_l1 e816 (by decide) (by decide))) ?_
                                                                    refine ev_r_iload (pc := 2049) (k := 4) (v := Int32.ofInt x1) (by decide +kernel) (by exact (ev_lk_st1 e820 (by decide) rfl)) ?_
                                                                    refine ev_r_iconst (pc := 2051) (k := 1) (by decide +kernel) ?_
                                                                    refine ev_r_iadd (pc := 2052) (by decide +kernel) ?_
                                                                    intro x824 hx824
                                                                    refine ev_r_xald (pc := 2053) hx824 (by decide +kernel) ?_
                                                                    intro x825 hx825
                                                                    refine ev_r_aload_n (pc := 2054) (k := 0) (v := .retAddr 0) trivial (by decide +kernel) (by exact (ev_l1 e816 (by decide) (by decide))) ?_
                                                                    refine ev_r_iload (pc := 2055) (k := 4) (v := Int32.ofInt x1) (by decide +kernel) (by exact (ev_lk_st1 e820 (by decide) rfl)) ?_
                                                                    refine ev_r_iconst (pc := 2057) (k := 2) (by decide +kernel) ?_
                                                                    refine ev_r_iadd (pc := 2058) (by decide +kernel) ?_
                                                                    intro x826 hx826
                                                                    refine ev_r_xald (pc := 2059) hx826 (by decide +kernel) ?_
                                                                    intro x827 hx827
                                                                    refine ev_r_jn (Q := fun K => ∀ (x828 : Int) (hx828 : ev_rng x828), ∀ (x830 : Int) (hx830 : ev_rng x830), ∀ (x829 : Int) (hx829 : ev_rng x829), ∀ (s838 : ev_St) (w831 : List (Nat × Value)), ev_lk w831 0 = some (.retAddr 0) → ev_lk w831 1 = some (.ref 0) → ev_lk w831 2 = some (.ref 621) → ev_lk w831 3 = some (.ref 723) → ev_lk w831 4 = some (.int (Int32.ofInt x1)) → ev_lk w831 5 = some (.int (Int32.ofInt x828)) → ev_w (some (L, xs)) ev_Mlaw 12 2068 w831 [.int (Int32.ofInt x830), .int (Int32.ofInt x829), .ref 621] s838 (K x828 x830 x829 s838) ev_eI ev_bl) ?_ ?_
                                                                    · intro x828 hx828 x830 hx830 x829 hx829 s838 w831 e832 e833 e834 e835 e836 e837
                                                                      refine ev_r_virt (pc := 2068) (y := 228) (mi := 321) (na := 2) (k := 621) (as := [.int (Int32.ofInt x829), .int (Int32.ofInt x830)]) (rest := []) (encc := ev_oI) (Q := ev_rng) (fun x S1 h => jt_321 12 (by omega) Q x829 x830 hx829 hx830 s838 x S1 h) (by exact ev_ob_621) (by decide +kernel) (by decide +kernel) (by decide +kernel) (by decide +kernel) rfl (by (try simp only [ev_sum, ev_nv_cat]); first | done | rfl) ?_
                                                                      intro x840 s839 hx840
                                                                      show ev_w _ _ _ _ _ [.int (Int32.ofInt x840)] _ _ _ _
                                                                      refine ev_r_istore (pc := 2071) (k := 6) (by decide +kernel) (by decide +kernel) rfl ?_
                                                                      refine ev_r_aload_n (pc := 2073) (k := 2) (v := .ref 621) trivial (by decide +kernel) (by exact (ev_l1 e834 (by decide) (by decide))) ?_
                                                                      refine ev_r_virt (pc := 2074) (y := 131) (mi := 220) (na := 0) (k := 621) (as := []) (rest := []) (encc := ev_oI) (Q := ev_rng) (fun x S1 h => jt_220 12 (by omega) Q   s839 x S1 h) (by exact ev_ob_621) (by decide +kernel) (by decide +kernel) (by decide +kernel) (by decide +kernel) rfl (by (try simp only [ev_sum, ev_nv_cat]); first | done | rfl) ?_
                                                                      intro x842 s841 hx842
                                                                      show ev_w _ _ _ _ _ [.int (Int32.ofInt x842)] _ _ _ _
                                                                      refine ev_r_iload (pc := 2077) (k := 5) (v := Int32.ofInt x828) (by decide +kernel) (by exact (ev_lk_st1 e837 (by decide) rfl)) ?_
                                                                      refine ev_r_icmp (pc := 2079) (q := .eq) (o := 5) (t := 2084) (c := x842 = x828) (by decide +kernel) (ev_k_eq hx842 hx828) (by decide +kernel) ?_ ?_
                                                                      · intro c843
                                                                        refine ev_r_iload (pc := 2084) (k := 5) (v := Int32.ofInt x828) (by decide +kernel) (by exact (ev_lk_st1 e837 (by decide) rfl)) ?_
                                                                        refine ev_r_jn (Q := fun K => ∀ (s850 : ev_St) (w844 : List (Nat × Value)), ev_lk w844 0 = some (.retAddr 0) → ev_lk w844 1 = some (.ref 0) → ev_lk w844 2 = some (.ref 621) → ev_lk w844 3 = some (.ref 723) → ev_lk w844 4 = some (.int (Int32.ofInt x1)) → ev_w (some (L, xs)) ev_Mlaw 12 2101 w844 [] s850 (K  s850) ev_eI ev_bl) ?_ ?_
                                                                        · intro  s850 w844 e845 e846 e847 e848 e849
                                                                          refine ev_r_goto (pc := 2101) (o := 171) (t := 2272) (by decide +kernel) (by decide +kernel) ?_
                                                                          exact hK2272  s850 _ (by exact e845) (by exact e846) (by exact e847) (by exact e848) (by exact e849)
                                                                        · intro K2101 hK2101
                                                                          refine ev_r_if (pc := 2086) (q := .ne) (o := 15) (t := 2101) (c := x828 ≠ 0) (by decide +kernel) (ev_k_ne hx828 ev_rng0) (by decide +kernel) ?_ ?_
                                                                          · intro c851
                                                                            exact hK2101  s841 _ (by exact (ev_l1 e832 (by decide) (by decide))) (by exact (ev_l1 e833 (by decide) (by decide))) (by exact (ev_l1 e834 (by decide) (by decide))) (by exact (ev_l1 e835 (by decide) (by decide))) (by exact (ev_l1 e836 (by decide) (by decide)))
                                                                          · intro c851
                                                                            refine ev_r_aload_n (pc := 2089) (k := 3) (v := .ref 723) trivial (by decide +kernel) (by exact (ev_l1 e835 (by decide) (by decide))) ?_
                                                                            refine ev_r_iconst (pc := 2090) (k := 0) (by decide +kernel) ?_
                                                                            refine ev_r_lald (pc := 2091) (by decide) (by decide +kernel) (by exact ev_ab_723) ?_
                                                                            intro y852
                                                                            refine ev_r_iload (pc := 2092) (k := 6) (v := Int32.ofInt x840) (by decide +kernel) (by exact ev_lk_st1_self) ?_
                                                                            refine ev_r_toL (pc := 2094) (i := .i2l) (len := 1) (pc' := 2095) (by decide +kernel) rfl ?_
                                                                            intro y853
                                                                            refine ev_r_toI (pc := 2095) (i := .lcmp) (len := 1) (pc' := 2096) (by decide +kernel) rfl ?_
                                                                            intro x854 hx854
                                                                            refine ev_r_if (pc := 2096) (q := .eq) (o := 5) (t := 2101) (c := x854 = 0) (by decide +kernel) (ev_k_eq hx854 ev_rng0) (by decide +kernel) ?_ ?_
                                                                            · intro c855
                                                                              exact hK2101  s841 _ (by exact (ev_l1 e832 (by decide) (by decide))) (by exact (ev_l1 e833 (by decide) (by decide))) (by exact (ev_l1 e834 (by decide) (by decide))) (by exact (ev_l1 e835 (by decide) (by decide))) (by exact (ev_l1 e836 (by decide) (by decide)))
                                                                            · intro c855
                                                                              refine ev_r_iconst (pc := 2099) (k := 0) (by decide +kernel) ?_
                                                                              exact ev_r_ireturn (pc := 2100) (x := 0) (v := Int32.ofInt 0) (ty := .boolean) (by decide : ev_bl 0) (by decide +kernel) (by decide +kernel) (ev_ret_bl (by decide : ev_bl 0)) rfl
                                                                      · intro c843
                                                                        refine ev_r_iconst (pc := 2082) (k := 0) (by decide +kernel) ?_
                                                                        exact ev_r_ireturn (pc := 2083) (x := 0) (v := Int32.ofInt 0) (ty := .boolean) (by decide : ev_bl 0) (by decide +kernel) (by decide +kernel) (ev_ret_bl (by decide : ev_bl 0)) rfl
                                                                    · intro K2068 hK2068
                                                                      refine ev_r_if (pc := 2060) (q := .eq) (o := 7) (t := 2067) (c := x827 = 0) (by decide +kernel) (ev_k_eq hx827 ev_rng0) (by decide +kernel) ?_ ?_
                                                                      · intro c856
                                                                        refine ev_r_iconst (pc := 2067) (k := 0) (by decide +kernel) ?_
                                                                        exact hK2068 x823 hx823 0 (by decide) x825 hx825 s822 _ (by exact (ev_l1 e816 (by decide) (by decide))) (by exact (ev_l1 e817 (by decide) (by decide))) (by exact (ev_l1 e818 (by decide) (by decide))) (by exact (ev_l1 e819 (by decide) (by decide))) (by exact (ev_lk_st1 e820 (by decide) rfl)) (by exact ev_lk_st1_self)
                                                                      · intro c856
                                                                        refine ev_r_iconst (pc := 2063) (k := 1) (by decide +kernel) ?_
                                                                        refine ev_r_goto (pc := 2064) (o := 4) (t := 2068) (by decide +kernel) (by decide +kernel) ?_
                                                                        exact hK2068 x823 hx823 1 (by decide) x825 hx825 s822 _ (by exact (ev_l1 e816 (by decide) (by decide))) (by exact (ev_l1 e817 (by decide) (by decide))) (by exact (ev_l1 e818 (by decide) (by decide))) (by exact (ev_l1 e819 (by decide) (by decide))) (by exact (ev_lk_st1 e820 (by decide) rfl)) (by exact ev_lk_st1_self)
                                                                  · intro K2041 hK2041
                                                                    refine ev_r_if (pc := 2033) (q := .eq) (o := 7) (t := 2040) (c := x812 = 0) (by decide +kernel) (ev_k_eq hx812 ev_rng0) (by decide +kernel) ?_ ?_
                                                                    · intro c857
                                                                      refine ev_r_iconst (pc := 2040) (k := 0) (by decide +kernel) ?_
                                                                      exact hK2041 0 (by decide) x810 hx810 s8 _ (by exact e3) (by exact e4) (by exact e5) (by exact e6) (by exact e7)
                                                                    · intro c857
                                                                      refine ev_r_iconst (pc := 2036) (k := 1) (by decide +kernel) ?_
                                                                      refine ev_r_goto (pc := 2037) (o := 4) (t := 2041) (by decide +kernel) (by decide +kernel) ?_
                                                                      exact hK2041 1 (by decide) x810 hx810 s8 _ (by exact e3) (by exact e4) (by exact e5) (by exact e6) (by exact e7)
                                                                · intro c808
                                                                  refine ev_r_ite ?_ ?_
                                                                  · intro c858
                                                                    refine ev_r_sw (pc := 40) (i := (.tableswitch 2232 0 32 #[148, 204, 217, 273, 317, 361, 417, 473, 548, 616, 672, 764, 856, 960, 1040, 1120, 1188, 1268, 1324, 1380, 1448, 1540, 1636, 1692, 1736, 1780, 1824, 1868, 1912, 1980, 2064, 2120, 2176])) (len := 148) (pc' := 2104) (by decide +kernel) (by rw [c858]; rw [ev_pure_tsw]; exact ev_tsw_c (o := 2064) (by decide) (by decide) rfl (by decide +kernel)) ?_
                                                                    unfold ja_2104
                                                                    refine ev_r_aload_n (pc := 2104) (k := 1) (v := .ref 0) trivial (by decide +kernel) (by exact e4) ?_
                                                                    refine ev_r_aload_n (pc := 2105) (k := 0) (v := .retAddr 0) trivial (by decide +kernel) (by exact e3) ?_
                                                                    refine ev_r_iload (pc := 2106) (k := 4) (v := Int32.ofInt x1) (by decide +kernel) (by exact e7) ?_
                                                                    refine ev_r_iconst (pc := 2108) (k := 1) (by decide +kernel) ?_
                                                                    refine ev_r_iadd (pc := 2109) (by decide +kernel) ?_
                                                                    intro x859 hx859
                                                                    refine ev_r_xald (pc := 2110) hx859 (by decide +kernel) ?_
                                                                    intro x860 hx860
                                                                    refine ev_r_aload_n (pc := 2111) (k := 3) (v := .ref 723) trivial (by decide +kernel) (by exact e6) ?_
                                                                    refine ev_r_stat (pc := 2112) (y := 229) (kind := 8) (mi := 393) (na := 3) (as := [ev_nv ((0 + 1)), .int (Int32.ofInt x860), ev_nv ((723 + 1))]) (rest := []) (encc := ev_oI) (Q := ev_rng) (fun x S1 h => jt_393 12 (by omega) Q ((0 + 1)) x860 ((723 + 1)) (by exact (Or.inr ev_ob_0)) hx860 (by exact (Or.inr ev_ab_723)) s8 x S1 h) (Or.inr (Or.inr rfl)) (by decide +kernel) (by decide +kernel) (by decide +kernel) (by decide +kernel) rfl (by (try simp only [ev_sum, ev_nv_cat]); first | done | rfl) ?_
                                                                    intro x862 s861 hx862
                                                                    show ev_w _ _ _ _ _ [.int (Int32.ofInt x862)] _ _ _ _
                                                                    refine ev_r_istore (pc := 2115) (k := 5) (by decide +kernel) (by decide +kernel) rfl ?_
                                                                    refine ev_r_aload_n (pc := 2117) (k := 2) (v := .ref 621) trivial (by decide +kernel) (by exact (ev_l1 e5 (by decide) (by decide))) ?_
                                                                    refine ev_r_aload_n (pc := 2118) (k := 0) (v := .retAddr 0) trivial (by decide +kernel) (by exact (ev_l1 e3 (by decide) (by decide))) ?_
                                                                    refine ev_r_iload (pc := 2119) (k := 4) (v := Int32.ofInt x1) (by decide +kernel) (by exact (ev_lk_st1 e7 (by decide) rfl)) ?_
                                                                    refine ev_r_iconst (pc := 2121) (k := 1) (by decide +kernel) ?_
                                                                    refine ev_r_iadd (pc := 2122) (by decide +kernel) ?_
                                                                    intro x863 hx863
                                                                    refine ev_r_xald (pc := 2123) hx863 (by decide +kernel) ?_
                                                                    intro x864 hx864
                                                                    refine ev_r_virt (pc := 2124) (y := 231) (mi := 322) (na := 1) (k := 621) (as := [.int (Int32.ofInt x864)]) (rest := []) (encc := ev_oI) (Q := ev_rng) (fun x S1 h => jt_322 12 (by omega) Q x864 hx864 s861 x S1 h) (by exact ev_ob_621) (by decide +kernel) (by decide +kernel) (by decide +kernel) (by decide +kernel) rfl (by (try simp only [ev_sum, ev_nv_cat]); first | done | rfl) ?_
                                                                    intro x866 s865 hx866
                                                                    show ev_w _ _ _ _ _ [.int (Int32.ofInt x866)] _ _ _ _
                                                                    refine ev_r_istore (pc := 2127) (k := 6) (by decide +kernel) (by decide +kernel) rfl ?_
                                                                    refine ev_r_aload_n (pc := 2129) (k := 2) (v := .ref 621) trivial (by decide +kernel) (by exact (ev_l1 (ev_l1 e5 (by decide) (by decide)) (by decide) (by decide))) ?_
                                                                    refine ev_r_virt (pc := 2130) (y := 131) (mi := 220) (na := 0) (k := 621) (as := []) (rest := []) (encc := ev_oI) (Q := ev_rng) (fun x S1 h => jt_220 12 (by omega) Q   s865 x S1 h) (by exact ev_ob_621) (by decide +kernel) (by decide +kernel) (by decide +kernel) (by decide +kernel) rfl (by (try simp only [ev_sum, ev_nv_cat]); first | done | rfl) ?_
                                                                    intro x868 s867 hx868
                                                                    show ev_w _ _ _ _ _ [.int (Int32.ofInt x868)] _ _ _ _
                                                                    refine ev_r_iload (pc := 2133) (k := 5) (v := Int32.ofInt x862) (by decide +kernel) (by exact (ev_lk_st1 ev_lk_st1_self (by decide) rfl)) ?_
                                                                    refine ev_r_icmp (pc := 2135) (q := .eq) (o := 5) (t := 2140) (c := x868 = x862) (by decide +kernel) (ev_k_eq hx868 hx862) (by decide +kernel) ?_ ?_
                                                                    · intro c869
                                                                      refine ev_r_iload (pc := 2140) (k := 5) (v := Int32.ofInt x862) (by decide +kernel) (by exact (ev_lk_st1 ev_lk_st1_self (by decide) rfl)) ?_
                                                                      refine ev_r_jn (Q := fun K => ∀ (s876 : ev_St) (w870 : List (Nat × Value)), ev_lk w870 0 = some (.retAddr 0) → ev_lk w870 1 = some (.ref 0) → ev_lk w870 2 = some (.ref 621) → ev_lk w870 3 = some (.ref 723) → ev_lk w870 4 = some (.int (Int32.ofInt x1)) → ev_w (some (L, xs)) ev_Mlaw 12 2157 w870 [] s876 (K  s876) ev_eI ev_bl) ?_ ?_
                                                                      · intro  s876 w870 e871 e872 e873 e874 e875
                                                                        refine ev_r_goto (pc := 2157) (o := 115) (t := 2272) (by decide +kernel) (by decide +kernel) ?_
                                                                        exact hK2272  s876 _ (by exact e871) (by exact e872) (by exact e873) (by exact e874) (by exact e875)
                                                                      · intro K2157 hK2157
                                                                        refine ev_r_if (pc := 2142) (q := .ne) (o := 15) (t := 2157) (c := x862 ≠ 0) (by decide +kernel) (ev_k_ne hx862 ev_rng0) (by decide +kernel) ?_ ?_
                                                                        · intro c877
                                                                          exact hK2157  s867 _ (by exact (ev_l1 (ev_l1 e3 (by decide) (by decide)) (by decide) (by decide))) (by exact (ev_l1 (ev_l1 e4 (by decide) (by decide)) (by decide) (by decide))) (by exact (ev_l1 (ev_l1 e5 (by decide) (by decide)) (by decide) (by decide))) (by exact (ev_l1 (ev_l1 e6 (by decide) (by decide)) (by decide) (by decide))) (by exact (ev_l1 (ev_lk_st1 e7 (by decide) rfl) (by decide) (by decide)))
                                                                        · intro c877
                                                                          refine ev_r_aload_n (pc := 2145) (k := 3) (v := .ref 723) trivial (by decide +kernel) (by exact (ev_l1 (ev_l1 e6 (by decide) (by decide)) (by decide) (by decide))) ?_
                                                                          refine ev_r_iconst (pc := 2146) (k := 0) (by decide +kernel) ?_
                                                                          refine ev_r_lald (pc := 2147) (by decide) (by decide +kernel) (by exact ev_ab_723) ?_
                                                                          intro y878
                                                                          refine ev_r_iload (pc := 2148) (k := 6) (v := Int32.ofInt x866) (by decide +kernel) (by exact ev_lk_st1_self) ?_
                                                                          refine ev_r_toL (pc := 2150) (i := .i2l) (len := 1) (pc' := 2151) (by decide +kernel) rfl ?_
                                                                          intro y879
                                                                          refine ev_r_toI (pc := 2151) (i := .lcmp) (len := 1) (pc' := 2152) (by decide +kernel) rfl ?_
                                                                          intro x880 hx880
                                                                          refine ev_r_if (pc := 2152) (q := .eq) (o := 5) (t := 2157) (c := x880 = 0) (by decide +kernel) (ev_k_eq hx880 ev_rng0) (by decide +kernel) ?_ ?_
                                                                          · intro c881
                                                                            exact hK2157  s867 _ (by exact (ev_l1 (ev_l1 e3 (by decide) (by decide)) (by decide) (by decide))) (by exact (ev_l1 (ev_l1 e4 (by decide) (by decide)) (by decide) (by decide))) (by exact (ev_l1 (ev_l1 e5 (by decide) (by decide)) (by decide) (by decide))) (by exact (ev_l1 (ev_l1 e6 (by decide) (by decide)) (by decide) (by decide))) (by exact (ev_l1 (ev_lk_st1 e7 (by decide) rfl) (by decide) (by decide)))
                                                                          · intro c881
                                                                            refine ev_r_iconst (pc := 2155) (k := 0) (by decide +kernel) ?_
                                                                            exact ev_r_ireturn (pc := 2156) (x := 0) (v := Int32.ofInt 0) (ty := .boolean) (by decide : ev_bl 0) (by decide +kernel) (by decide +kernel) (ev_ret_bl (by decide : ev_bl 0)) rfl
                                                                    · intro c869
                                                                      refine ev_r_iconst (pc := 2138) (k := 0) (by decide +kernel) ?_
                                                                      exact ev_r_ireturn (pc := 2139) (x := 0) (v := Int32.ofInt 0) (ty := .boolean) (by decide : ev_bl 0) (by decide +kernel) (by decide +kernel) (ev_ret_bl (by decide : ev_bl 0)) rfl
                                                                  · intro c858
                                                                    refine ev_r_ite ?_ ?_
                                                                    · intro c882
                                                                      refine ev_r_sw (pc := 40) (i := (.tableswitch 2232 0 32 #[148, 204, 217, 273, 317, 361, 417, 473, 548, 616, 672, 764, 856, 960, 1040, 1120, 1188, 1268, 1324, 1380, 1448, 1540, 1636, 1692, 1736, 1780, 1824, 1868, 1912, 1980, 2064, 2120, 2176])) (len := 148) (pc' := 2160) (by decide +kernel) (by rw [c882]; rw [ev_pure_tsw]; exact ev_tsw_c (o := 2120) (by decide) (by decide) rfl (by decide +kernel)) ?_
                                                                      unfold ja_2160
                                                                      refine ev_r_aload_n (pc := 2160) (k := 1) (v := .ref 0) trivial (by decide +kernel) (by exact e4) ?_
                                                                      refine ev_r_aload_n (pc := 2161) (k := 0) (v := .retAddr 0) trivial (by decide +kernel) (by exact e3) ?_
                                                                      refine ev_r_iload (pc := 2162) (k := 4) (v := Int32.ofInt x1) (by decide +kernel) (by exact e7) ?_
                                                                      refine ev_r_iconst (pc := 2164) (k := 1) (by decide +kernel) ?_
                                                                      refine ev_r_iadd (pc := 2165) (by decide +kernel) ?_
                                                                      intro x883 hx883
                                                                      refine ev_r_xald (pc := 2166) hx883 (by decide +kernel) ?_
                                                                      intro x884 hx884
                                                                      refine ev_r_aload_n (pc := 2167) (k := 3) (v := .ref 723) trivial (by decide +kernel) (by exact e6) ?_
                                                                      refine ev_r_stat (pc := 2168) (y := 232) (kind := 8) (mi := 394) (na := 3) (as := [ev_nv ((0 + 1)), .int (Int32.ofInt x884), ev_nv ((723 + 1))]) (rest := []) (encc := ev_oI) (Q := ev_rng) (fun x S1 h => jt_394 12 (by omega) Q ((0 + 1)) x884 ((723 + 1)) (by exact (Or.inr ev_ob_0)) hx884 (by exact (Or.inr ev_ab_723)) s8 x S1 h) (Or.inr (Or.inr rfl)) (by decide +kernel) (by decide +kernel) (by decide +kernel) (by decide +kernel) rfl (by (try simp only [ev_sum, ev_nv_cat]); first | done | rfl) ?_
                                                                      intro x886 s885 hx886
                                                                      show ev_w _ _ _ _ _ [.int (Int32.ofInt x886)] _ _ _ _
                                                                      refine ev_r_istore (pc := 2171) (k := 5) (by decide +kernel) (by decide +kernel) rfl ?_
                                                                      refine ev_r_aload_n (pc := 2173) (k := 2) (v := .ref 621) trivial (by decide +kernel) (by exact (ev_l1 e5 (by decide) (by decide))) ?_
                                                                      refine ev_r_aload_n (pc := 2174) (k := 0) (v := .retAddr 0) trivial (by decide +kernel) (by exact (ev_l1 e3 (by decide) (by decide))) ?_
                                                                      refine ev_r_iload (pc := 2175) (k := 4) (v := Int32.ofInt x1) (by decide +kernel) (by exact (ev_lk_st1 e7 (by decide) rfl)) ?_
                                                                      refine ev_r_iconst (pc := 2177) (k := 1) (by decide +kernel) ?_
                                                                      refine ev_r_iadd (pc := 2178) (by decide +kernel) ?_
                                                                      intro x887 hx887
                                                                      refine ev_r_xald (pc := 2179) hx887 (by decide +kernel) ?_
                                                                      intro x888 hx888
                                                                      refine ev_r_virt (pc := 2180) (y := 234) (mi := 323) (na := 1) (k := 621) (as := [.int (Int32.ofInt x888)]) (rest := []) (encc := ev_oI) (Q := ev_rng) (fun x S1 h => jt_323 12 (by omega) Q x888 hx888 s885 x S1 h) (by exact ev_ob_621) (by decide +kernel) (by decide +kernel) (by decide +kernel) (by decide +kernel) rfl (by (try simp only [ev_sum, ev_nv_cat]); first | done | rfl) ?_
                                                                      intro x890 s889 hx890
                                                                      show ev_w _ _ _ _ _ [.int (Int32.ofInt x890)] _ _ _ _
                                                                      refine ev_r_istore (pc := 2183) (k := 6) (by decide +kernel) (by decide +kernel) rfl ?_
                                                                      refine ev_r_aload_n (pc := 2185) (k := 2) (v := .ref 621) trivial (by decide +kernel) (by exact (ev_l1 (ev_l1 e5 (by decide) (by decide)) (by decide) (by decide))) ?_
                                                                      refine ev_r_virt (pc := 2186) (y := 131) (mi := 220) (na := 0) (k := 621) (as := []) (rest := []) (encc := ev_oI) (Q := ev_rng) (fun x S1 h => jt_220 12 (by omega) Q   s889 x S1 h) (by exact ev_ob_621) (by decide +kernel) (by decide +kernel) (by decide +kernel) (by decide +kernel) rfl (by (try simp only [ev_sum, ev_nv_cat]); first | done | rfl) ?_
                                                                      intro x892 s891 hx892
                                                                      show ev_w _ _ _ _ _ [.int (Int32.ofInt x892)] _ _ _ _
                                                                      refine ev_r_iload (pc := 2189) (k := 5) (v := Int32.ofInt x886) (by decide +kernel) (by exact (ev_lk_st1 ev_lk_st1_self (by decide) rfl)) ?_
                                                                      refine ev_r_icmp (pc := 2191) (q := .eq) (o := 5) (t := 2196) (c := x892 = x886) (by decide +kernel) (ev_k_eq hx892 hx886) (by decide +kernel) ?_ ?_
                                                                      · intro c893
                                                                        refine ev_r_iload (pc := 2196) (k := 5) (v := Int32.ofInt x886) (by decide +kernel) (by exact (ev_lk_st1 ev_lk_st1_self (by decide) rfl)) ?_
                                                                        refine ev_r_jn (Q := fun K => ∀ (s900 : ev_St) (w894 : List (Nat × Value)), ev_lk w894 0 = some (.retAddr 0) → ev_lk w894 1 = some (.ref 0) → ev_lk w894 2 = some (.ref 621) → ev_lk w894 3 = some (.ref 723) → ev_lk w894 4 = some (.int (Int32.ofInt x1)) → ev_w (some (L, xs)) ev_Mlaw 12 2213 w894 [] s900 (K  s900) ev_eI ev_bl) ?_ ?_
                                                                        · intro  s900 w894 e895 e896 e897 e898 e899
                                                                          refine ev_r_goto (pc := 2213) (o := 59) (t := 2272) (by decide +kernel) (by decide +kernel) ?_
                                                                          exact hK2272  s900 _ (by exact e895) (by exact e896) (by exact e897) (by exact e898) (by exact e899)
                                                                        · intro K2213 hK2213
                                                                          refine ev_r_if (pc := 2198) (q := .ne) (o := 15) (t := 2213) (c := x886 ≠ 0) (by decide +kernel) (ev_k_ne hx886 ev_rng0) (by decide +kernel) ?_ ?_
                                                                          · intro c901
                                                                            exact hK2213  s891 _ (by exact (ev_l1 (ev_l1 e3 (by decide) (by decide)) (by decide) (by decide))) (by exact (ev_l1 (ev_l1 e4 (by decide) (by decide)) (by decide) (by decide))) (by exact (ev_l1 (ev_l1 e5 (by decide) (by decide)) (by decide) (by decide))) (by exact (ev_l1 (ev_l1 e6 (by decide) (by decide)) (by decide) (by decide))) (by exact (ev_l1 (ev_lk_st1 e7 (by decide) rfl) (by decide) (by decide)))
                                                                          · intro c901
                                                                            refine ev_r_aload_n (pc := 2201) (k := 3) (v := .ref 723) trivial (by decide +kernel) (by exact (ev_l1 (ev_l1 e6 (by decide) (by decide)) (by decide) (by decide))) ?_
                                                                            refine ev_r_iconst (pc := 2202) (k := 0) (by decide +kernel) ?_
                                                                            refine ev_r_lald (pc := 2203) (by decide) (by decide +kernel) (by exact ev_ab_723) ?_
                                                                            intro y902
                                                                            refine ev_r_iload (pc := 2204) (k := 6) (v := Int32.ofInt x890) (by decide +kernel) (by exact ev_lk_st1_self) ?_
                                                                            refine ev_r_toL (pc := 2206) (i := .i2l) (len := 1) (pc' := 2207) (by decide +kernel) rfl ?_
                                                                            intro y903
                                                                            refine ev_r_toI (pc := 2207) (i := .lcmp) (len := 1) (pc' := 2208) (by decide +kernel) rfl ?_
                                                                            intro x904 hx904
                                                                            refine ev_r_if (pc := 2208) (q := .eq) (o := 5) (t := 2213) (c := x904 = 0) (by decide +kernel) (ev_k_eq hx904 ev_rng0) (by decide +kernel) ?_ ?_
                                                                            · intro c905
                                                                              exact hK2213  s891 _ (by exact (ev_l1 (ev_l1 e3 (by decide) (by decide)) (by decide) (by decide))) (by exact (ev_l1 (ev_l1 e4 (by decide) (by decide)) (by decide) (by decide))) (by exact (ev_l1 (ev_l1 e5 (by decide) (by decide)) (by decide) (by decide))) (by exact (ev_l1 (ev_l1 e6 (by decide) (by decide)) (by decide) (by decide))) (by exact (ev_l1 (ev_lk_st1 e7 (by decide) rfl) (by decide) (by decide)))
                                                                            · intro c905
                                                                              refine ev_r_iconst (pc := 2211) (k := 0) (by decide +kernel) ?_
                                                                              exact ev_r_ireturn (pc := 2212) (x := 0) (v := Int32.ofInt 0) (ty := .boolean) (by decide : ev_bl 0) (by decide +kernel) (by decide +kernel) (ev_ret_bl (by decide : ev_bl 0)) rfl
                                                                      · intro c893
                                                                        refine ev_r_iconst (pc := 2194) (k := 0) (by decide +kernel) ?_
                                                                        exact ev_r_ireturn (pc := 2195) (x := 0) (v := Int32.ofInt 0) (ty := .boolean) (by decide : ev_bl 0) (by decide +kernel) (by decide +kernel) (ev_ret_bl (by decide : ev_bl 0)) rfl
                                                                    · intro c882
                                                                      refine ev_r_ite ?_ ?_
                                                                      · intro c906
                                                                        refine ev_r_sw (pc := 40) (i := (.tableswitch 2232 0 32 #[148, 204, 217, 273, 317, 361, 417, 473, 548, 616, 672, 764, 856, 960, 1040, 1120, 1188, 1268, 1324, 1380, 1448, 1540, 1636, 1692, 1736, 1780, 1824, 1868, 1912, 1980, 2064, 2120, 2176])) (len := 148) (pc' := 2216) (by decide +kernel) (by rw [c906]; rw [ev_pure_tsw]; exact ev_tsw_c (o := 2176) (by decide) (by decide) rfl (by decide +kernel)) ?_
                                                                        unfold ja_2216
                                                                        refine ev_r_aload_n (pc := 2216) (k := 1) (v := .ref 0) trivial (by decide +kernel) (by exact e4) ?_
                                                                        refine ev_r_aload_n (pc := 2217) (k := 0) (v := .retAddr 0) trivial (by decide +kernel) (by exact e3) ?_
                                                                        refine ev_r_iload (pc := 2218) (k := 4) (v := Int32.ofInt x1) (by decide +kernel) (by exact e7) ?_
                                                                        refine ev_r_iconst (pc := 2220) (k := 1) (by decide +kernel) ?_
                                                                        refine ev_r_iadd (pc := 2221) (by decide +kernel) ?_
                                                                        intro x907 hx907
                                                                        refine ev_r_xald (pc := 2222) hx907 (by decide +kernel) ?_
                                                                        intro x908 hx908
                                                                        refine ev_r_aload_n (pc := 2223) (k := 3) (v := .ref 723) trivial (by decide +kernel) (by exact e6) ?_
                                                                        refine ev_r_stat (pc := 2224) (y := 235) (kind := 8) (mi := 395) (na := 3) (as := [ev_nv ((0 + 1)), .int (Int32.ofInt x908), ev_nv ((723 + 1))]) (rest := []) (encc := ev_oI) (Q := ev_rng) (fun x S1 h => jt_395 12 (by omega) Q ((0 + 1)) x908 ((723 + 1)) (by exact (Or.inr ev_ob_0)) hx908 (by exact (Or.inr ev_ab_723)) s8 x S1 h) (Or.inr (Or.inr rfl)) (by decide +kernel) (by decide +kernel) (by decide +kernel) (by decide +kernel) rfl (by (try simp only [ev_sum, ev_nv_cat]); first | done | rfl) ?_
                                                                        intro x910 s909 hx910
                                                                        show ev_w _ _ _ _ _ [.int (Int32.ofInt x910)] _ _ _ _
                                                                        refine ev_r_istore (pc := 2227) (k := 5) (by decide +kernel) (by decide +kernel) rfl ?_
                                                                        refine ev_r_aload_n (pc := 2229) (k := 2) (v := .ref 621) trivial (by decide +kernel) (by exact (ev_l1 e5 (by decide) (by decide))) ?_
                                                                        refine ev_r_aload_n (pc := 2230) (k := 0) (v := .retAddr 0) trivial (by decide +kernel) (by exact (ev_l1 e3 (by decide) (by decide))) ?_
                                                                        refine ev_r_iload (pc := 2231) (k := 4) (v := Int32.ofInt x1) (by decide +kernel) (by exact (ev_lk_st1 e7 (by decide) rfl)) ?_
                                                                        refine ev_r_iconst (pc := 2233) (k := 1) (by decide +kernel) ?_
                                                                        refine ev_r_iadd (pc := 2234) (by decide +kernel) ?_
                                                                        intro x911 hx911
                                                                        refine ev_r_xald (pc := 2235) hx911 (by decide +kernel) ?_
                                                                        intro x912 hx912
                                                                        refine ev_r_virt (pc := 2236) (y := 237) (mi := 324) (na := 1) (k := 621) (as := [.int (Int32.ofInt x912)]) (rest := []) (encc := ev_oI) (Q := ev_rng) (fun x S1 h => jt_324 12 (by omega) Q x912 hx912 s909 x S1 h) (by exact ev_ob_621) (by decide +kernel) (by decide +kernel) (by decide +kernel) (by decide +kernel) rfl (by (try simp only [ev_sum, ev_nv_cat]); first | done | rfl) ?_
                                                                        intro x914 s913 hx914
                                                                        show ev_w _ _ _ _ _ [.int (Int32.ofInt x914)] _ _ _ _
                                                                        refine ev_r_istore (pc := 2239) (k := 6) (by decide +kernel) (by decide +kernel) rfl ?_
                                                                        refine ev_r_aload_n (pc := 2241) (k := 2) (v := .ref 621) trivial (by decide +kernel) (by exact (ev_l1 (ev_l1 e5 (by decide) (by decide)) (by decide) (by decide))) ?_
                                                                        refine ev_r_virt (pc := 2242) (y := 131) (mi := 220) (na := 0) (k := 621) (as := []) (rest := []) (encc := ev_oI) (Q := ev_rng) (fun x S1 h => jt_220 12 (by omega) Q   s913 x S1 h) (by exact ev_ob_621) (by decide +kernel) (by decide +kernel) (by decide +kernel) (by decide +kernel) rfl (by (try simp only [ev_sum, ev_nv_cat]); first | done | rfl) ?_
                                                                        intro x916 s915 hx916
                                                                        show ev_w _ _ _ _ _ [.int (Int32.ofInt x916)] _ _ _ _
                                                                        refine ev_r_iload (pc := 2245) (k := 5) (v := Int32.ofInt x910) (by decide +kernel) (by exact (ev_lk_st1 ev_lk_st1_self (by decide) rfl)) ?_
                                                                        refine ev_r_icmp (pc := 2247) (q := .eq) (o := 5) (t := 2252) (c := x916 = x910) (by decide +kernel) (ev_k_eq hx916 hx910) (by decide +kernel) ?_ ?_
                                                                        · intro c917
                                                                          refine ev_r_iload (pc := 2252) (k := 5) (v := Int32.ofInt x910) (by decide +kernel) (by exact (ev_lk_st1 ev_lk_st1_self (by decide) rfl)) ?_
                                                                          refine ev_r_jn (Q := fun K => ∀ (s924 : ev_St) (w918 : List (Nat × Value)), ev_lk w918 0 = some (.retAddr 0) → ev_lk w918 1 = some (.ref 0) → ev_lk w918 2 = some (.ref 621) → ev_lk w918 3 = some (.ref 723) → ev_lk w918 4 = some (.int (Int32.ofInt x1)) → ev_w (some (L, xs)) ev_Mlaw 12 2269 w918 [] s924 (K  s924) ev_eI ev_bl) ?_ ?_
                                                                          · intro  s924 w918 e919 e920 e921 e922 e923
                                                                            refine ev_r_goto (pc := 2269) (o := 3) (t := 2272) (by decide +kernel) (by decide +kernel) ?_
                                                                            exact hK2272  s924 _ (by exact e919) (by exact e920) (by exact e921) (by exact e922) (by exact e923)
                                                                          · intro K2269 hK2269
                                                                            refine ev_r_if (pc := 2254) (q := .ne) (o := 15) (t := 2269) (c := x910 ≠ 0) (by decide +kernel) (ev_k_ne hx910 ev_rng0) (by decide +kernel) ?_ ?_
                                                                            · intro c925
                                                                              exact hK2269  s915 _ (by exact (ev_l1 (ev_l1 e3 (by decide) (by decide)) (by decide) (by decide))) (by exact (ev_l1 (ev_l1 e4 (by decide) (by decide)) (by decide) (by decide))) (by exact (ev_l1 (ev_l1 e5 (by decide) (by decide)) (by decide) (by decide))) (by exact (ev_l1 (ev_l1 e6 (by decide) (by decide)) (by decide) (by decide))) (by exact (ev_l1 (ev_lk_st1 e7 (by decide) rfl) (by decide) (by decide)))
                                                                            · intro c925
                                                                              refine ev_r_aload_n (pc := 2257) (k := 3) (v := .ref 723) trivial (by decide +kernel) (by exact (ev_l1 (ev_l1 e6 (by decide) (by decide)) (by decide) (by decide))) ?_
                                                                              refine ev_r_iconst (pc := 2258) (k := 0) (by decide +kernel) ?_
                                                                              refine ev_r_lald (pc := 2259) (by decide) (by decide +kernel) (by exact ev_ab_723) ?_
                                                                              intro y926
                                                                              refine ev_r_iload (pc := 2260) (k := 6) (v := Int32.ofInt x914) (by decide +kernel) (by exact ev_lk_st1_self) ?_
                                                                              refine ev_r_toL (pc := 2262) (i := .i2l) (len := 1) (pc' := 2263) (by decide +kernel) rfl ?_
                                                                              intro y927
                                                                              refine ev_r_toI (pc := 2263) (i := .lcmp) (len := 1) (pc' := 2264) (by decide +kernel) rfl ?_
                                                                              intro x928 hx928
                                                                              refine ev_r_if (pc := 2264) (q := .eq) (o := 5) (t := 2269) (c := x928 = 0) (by decide +kernel) (ev_k_eq hx928 ev_rng0) (by decide +kernel) ?_ ?_
                                                                              · intro c929
                                                                                exact hK2269  s915 _ (by exact (ev_l1 (ev_l1 e3 (by decide) (by decide)) (by decide) (by decide))) (by exact (ev_l1 (ev_l1 e4 (by decide) (by decide)) (by decide) (by decide))) (by exact (ev_l1 (ev_l1 e5 (by decide) (by decide)) (by decide) (by decide))) (by exact (ev_l1 (ev_l1 e6 (by decide) (by decide)) (by decide) (by decide))) (by exact (ev_l1 (ev_lk_st1 e7 (by decide) rfl) (by decide) (by decide)))
                                                                              · intro c929
                                                                                refine ev_r_iconst (pc := 2267) (k := 0) (by decide +kernel) ?_
                                                                                exact ev_r_ireturn (pc := 2268) (x := 0) (v := Int32.ofInt 0) (ty := .boolean) (by decide : ev_bl 0) (by decide +kernel) (by decide +kernel) (ev_ret_bl (by decide : ev_bl 0)) rfl
                                                                        · intro c917
                                                                          refine ev_r_iconst (pc := 2250) (k := 0) (by decide +kernel) ?_
                                                                          exact ev_r_ireturn (pc := 2251) (x := 0) (v := Int32.ofInt 0) (ty := .boolean) (by decide : ev_bl 0) (by decide +kernel) (by decide +kernel) (ev_ret_bl (by decide : ev_bl 0)) rfl
                                                                      · intro c906
                                                                        refine ev_r_sw (pc := 40) (i := (.tableswitch 2232 0 32 #[148, 204, 217, 273, 317, 361, 417, 473, 548, 616, 672, 764, 856, 960, 1040, 1120, 1188, 1268, 1324, 1380, 1448, 1540, 1636, 1692, 1736, 1780, 1824, 1868, 1912, 1980, 2064, 2120, 2176])) (len := 148) (pc' := 2272) (by decide +kernel) (by rw [ev_pure_tsw]; exact ev_tsw_d hx12 (by omega) (by decide +kernel)) ?_
                                                                        exact hK2272  s8 _ (by exact e3) (by exact e4) (by exact e5) (by exact e6) (by exact e7)
theorem jlt_law_23  (Q : Nat) (L : Nat) (xs : Nat → Int32) (hL : L ≤ 3072)   : ∀ q : Nat, ∀ (x1 : Int) (hx1 : ev_rng x1), ∀ (s8 : ev_St) (w2 : List (Nat × Value)), ev_lk w2 0 = some (.retAddr 0) → ev_lk w2 1 = some (.ref 0) → ev_lk w2 2 = some (.ref 621) → ev_lk w2 3 = some (.ref 723) → ev_lk w2 4 = some (.int (Int32.ofInt x1)) → ev_w (some (L, xs)) ev_Mlaw 12 23 w2 [] s8 (jl_law_23 Q L xs  q x1 s8) ev_eI ev_bl := by
  intro q
  induction q with
  | zero =>
    intro x1 hx1 s8 w2 e3 e4 e5 e6 e7
    exact ev_w_none
  | succ q ih => exact jbt_law_23  Q L xs hL   _ ih
