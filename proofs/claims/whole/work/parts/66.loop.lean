/-! the law's loop -/
def BD (T : zT) (xv : Nat → Int32) (L y1 y2 y3 : Nat) (x10 : Int32) (h11 : zH) (J13 : zH → Option Int32) : Option Int32 := (zsc xv L x10).bind fun x14 => if (x14 &&& 31) = 0 then ((zsc xv L (x10 + 1)).bind fun x15 => zb2 (FL_append T y1 x15 y3 h11) fun x17 h18 => (zsc xv L (x10 + 1)).bind fun x19 => zb2 (FX7_append T y2 x19 h18) fun x21 h22 => (FX7_thrown T y2 h22).bind fun x24 => if x24 = x17 then (zJ (fun (u9 : Unit) => J13 h22) (fun J25 => if x17 = 0 then ((zli T h22 y3 0).bind fun x26 => if (lg_cmp x26 x21.toInt64) = 0 then (J25 ()) else (none)) else (J25 ()))) else (none)) else (if (x14 &&& 31) = 1 then (zb2 (FX6_clearText T y1 h11) fun x28 h29 => zb2 (FX7_clearText T y2 h29) fun x31 h32 => if x28 = x31 then (J13 h32) else (none)) else (if (x14 &&& 31) = 2 then (zb2 (FX6_errorPosition T y1 h11) fun x34 h35 => zb2 (FX7_errorPosition T y2 h35) fun x37 h38 => if x34 = x37 then (J13 h38) else (none)) else (if (x14 &&& 31) = 3 then (zb2 (FL_load T y1 y3 h11) fun x40 h41 => zb2 (FX7_load T y2 h41) fun x43 h44 => (FX7_thrown T y2 h44).bind fun x46 => if x46 = x40 then (zJ (fun (u9 : Unit) => J13 h44) (fun J47 => if x40 = 0 then ((zli T h44 y3 0).bind fun x48 => if (lg_cmp x48 x43.toInt64) = 0 then (J47 ()) else (none)) else (J47 ()))) else (none)) else (if (x14 &&& 31) = 4 then ((zsc xv L (x10 + 1)).bind fun x49 => zb2 (FL_about T y1 x49 y3 h11) fun x51 h52 => (zsc xv L (x10 + 1)).bind fun x53 => zb2 (FX7_about T y2 x53 h52) fun x55 h56 => (FX7_thrown T y2 h56).bind fun x58 => if x58 = x51 then (zJ (fun (u9 : Unit) => J13 h56) (fun J59 => if x51 = 0 then ((zli T h56 y3 0).bind fun x60 => if (lg_cmp x60 x55.toInt64) = 0 then (J59 ()) else (none)) else (J59 ()))) else (none)) else (if (x14 &&& 31) = 5 then ((zsc xv L (x10 + 1)).bind fun x61 => (zsc xv L (x10 + 2)).bind fun x62 => zb2 (FL_letter T y1 x61 x62 y3 h11) fun x64 h65 => (zsc xv L (x10 + 1)).bind fun x66 => (zsc xv L (x10 + 2)).bind fun x67 => zb2 (FX7_letter T y2 x66 x67 h65) fun x69 h70 => (FX7_thrown T y2 h70).bind fun x72 => if x72 = x64 then (zJ (fun (u9 : Unit) => J13 h70) (fun J73 => if x64 = 0 then ((zli T h70 y3 0).bind fun x74 => if (lg_cmp x74 x69.toInt64) = 0 then (J73 ()) else (none)) else (J73 ()))) else (none)) else (if (x14 &&& 31) = 6 then ((zsc xv L (x10 + 1)).bind fun x75 => (zsc xv L (x10 + 2)).bind fun x76 => zb2 (FL_marks T y1 x75 x76 y3 h11) fun x78 h79 => (zsc xv L (x10 + 1)).bind fun x80 => (zsc xv L (x10 + 2)).bind fun x81 => zb2 (FX7_marks T y2 x80 x81 h79) fun x83 h84 => (FX7_thrown T y2 h84).bind fun x86 => if x86 = x78 then (zJ (fun (u9 : Unit) => J13 h84) (fun J87 => if x78 = 0 then ((zli T h84 y3 0).bind fun x88 => if (lg_cmp x88 x83.toInt64) = 0 then (J87 ()) else (none)) else (J87 ()))) else (none)) else (if (x14 &&& 31) = 7 then ((zsc xv L (x10 + 1)).bind fun x89 => (zsc xv L (x10 + 2)).bind fun x90 => (zsc xv L (x10 + 3)).bind fun x91 => (zsc xv L (x10 + 4)).bind fun x92 => zb2 (FL_mark T y1 x89 x90 x91 x92 y3 h11) fun x94 h95 => (zsc xv L (x10 + 1)).bind fun x96 => (zsc xv L (x10 + 2)).bind fun x97 => (zsc xv L (x10 + 3)).bind fun x98 => (zsc xv L (x10 + 4)).bind fun x99 => zb2 (FX7_mark T y2 x96 x97 x98 x99 h95) fun x101 h102 => (FX7_thrown T y2 h102).bind fun x104 => if x104 = x94 then (zJ (fun (u9 : Unit) => J13 h102) (fun J105 => if x94 = 0 then ((zli T h102 y3 0).bind fun x106 => if (lg_cmp x106 x101.toInt64) = 0 then (J105 ()) else (none)) else (J105 ()))) else (none)) else (if (x14 &&& 31) = 8 then ((zsc xv L (x10 + 1)).bind fun x107 => (zsc xv L (x10 + 2)).bind fun x108 => zb2 (FL_wordLength T y1 x107 x108 y3 h11) fun x110 h111 => (zsc xv L (x10 + 1)).bind fun x112 => (zsc xv L (x10 + 2)).bind fun x113 => zb2 (FX7_wordLength T y2 x112 x113 h111) fun x115 h116 => (FX7_thrown T y2 h116).bind fun x118 => if x118 = x110 then (zJ (fun (u9 : Unit) => J13 h116) (fun J119 => if x110 = 0 then ((zli T h116 y3 0).bind fun x120 => if (lg_cmp x120 x115.toInt64) = 0 then (J119 ()) else (none)) else (J119 ()))) else (none)) else (if (x14 &&& 31) = 9 then ((zsc xv L (x10 + 1)).bind fun x121 => (zsc xv L (x10 + 2)).bind fun x122 => (zsc xv L (x10 + 3)).bind fun x123 => zb2 (FL_sign T y1 x121 x122 x123 y3 h11) fun x125 h126 => (zsc xv L (x10 + 1)).bind fun x127 => (zsc xv L (x10 + 2)).bind fun x128 => (zsc xv L (x10 + 3)).bind fun x129 => zb2 (FX7_sign T y2 x127 x128 x129 h126) fun x131 h132 => (FX7_thrown T y2 h132).bind fun x134 => if x134 = x125 then (zJ (fun (u9 : Unit) => J13 h132) (fun J135 => if x125 = 0 then ((zli T h132 y3 0).bind fun x136 => if (lg_cmp x136 x131.toInt64) = 0 then (J135 ()) else (none)) else (J135 ()))) else (none)) else (if (x14 &&& 31) = 10 then ((zsc xv L (x10 + 1)).bind fun x137 => (zsc xv L (x10 + 2)).bind fun x138 => (zsc xv L (x10 + 3)).bind fun x139 => zb2 (FL_wordAt T y1 x137 x138 x139 y3 h11) fun x141 h142 => (zsc xv L (x10 + 1)).bind fun x143 => (zsc xv L (x10 + 2)).bind fun x144 => (zsc xv L (x10 + 3)).bind fun x145 => zb2 (FX7_wordAt T y2 x143 x144 x145 h142) fun x147 h148 => (FX7_thrown T y2 h148).bind fun x150 => if x150 = x141 then (zJ (fun (u9 : Unit) => J13 h148) (fun J151 => if x141 = 0 then ((zli T h148 y3 0).bind fun x152 => if (lg_cmp x152 x147.toInt64) = 0 then (J151 ()) else (none)) else (J151 ()))) else (none)) else (if (x14 &&& 31) = 11 then ((zsc xv L (x10 + 1)).bind fun x153 => (zsc xv L (x10 + 2)).bind fun x154 => (zsc xv L (x10 + 3)).bind fun x155 => (zsc xv L (x10 + 4)).bind fun x156 => (zsc xv L (x10 + 5)).bind fun x157 => zb2 (FL_write T y1 x153 x154 x155 x156 x157 y3 h11) fun x159 h160 => (zsc xv L (x10 + 1)).bind fun x161 => (zsc xv L (x10 + 2)).bind fun x162 => (zsc xv L (x10 + 3)).bind fun x163 => (zsc xv L (x10 + 4)).bind fun x164 => (zsc xv L (x10 + 5)).bind fun x165 => zb2 (FX7_write T y2 x161 x162 x163 x164 x165 h160) fun x167 h168 => (FX7_thrown T y2 h168).bind fun x170 => if x170 = x159 then (zJ (fun (u9 : Unit) => J13 h168) (fun J171 => if x159 = 0 then ((zli T h168 y3 0).bind fun x172 => if (lg_cmp x172 x167.toInt64) = 0 then (J171 ()) else (none)) else (J171 ()))) else (none)) else (if (x14 &&& 31) = 12 then ((zsc xv L (x10 + 1)).bind fun x173 => (zsc xv L (x10 + 2)).bind fun x174 => (zsc xv L (x10 + 3)).bind fun x175 => zb2 (FL_erase T y1 x173 x174 x175 y3 h11) fun x177 h178 => (zsc xv L (x10 + 1)).bind fun x179 => (zsc xv L (x10 + 2)).bind fun x180 => (zsc xv L (x10 + 3)).bind fun x181 => zb2 (FX7_erase T y2 x179 x180 x181 h178) fun x183 h184 => (FX7_thrown T y2 h184).bind fun x186 => if x186 = x177 then (zJ (fun (u9 : Unit) => J13 h184) (fun J187 => if x177 = 0 then ((zli T h184 y3 0).bind fun x188 => if (lg_cmp x188 x183.toInt64) = 0 then (J187 ()) else (none)) else (J187 ()))) else (none)) else (if (x14 &&& 31) = 13 then ((zsc xv L (x10 + 1)).bind fun x189 => (zsc xv L (x10 + 2)).bind fun x190 => (zsc xv L (x10 + 3)).bind fun x191 => (zsc xv L (x10 + 4)).bind fun x192 => zb2 (FL_decide T y1 x189 x190 x191 x192 y3 h11) fun x194 h195 => (zsc xv L (x10 + 1)).bind fun x196 => (zsc xv L (x10 + 2)).bind fun x197 => (zsc xv L (x10 + 3)).bind fun x198 => (zsc xv L (x10 + 4)).bind fun x199 => zb2 (FX7_decide T y2 x196 x197 x198 x199 h195) fun x201 h202 => (FX7_thrown T y2 h202).bind fun x204 => if x204 = x194 then (zJ (fun (u9 : Unit) => J13 h202) (fun J205 => if x194 = 0 then ((zli T h202 y3 0).bind fun x206 => if (lg_cmp x206 x201.toInt64) = 0 then (J205 ()) else (none)) else (J205 ()))) else (none)) else (if (x14 &&& 31) = 14 then ((zsc xv L (x10 + 1)).bind fun x207 => (zsc xv L (x10 + 2)).bind fun x208 => (zsc xv L (x10 + 3)).bind fun x209 => (zsc xv L (x10 + 4)).bind fun x210 => zb2 (FL_setLetter T y1 x207 x208 x209 x210 y3 h11) fun x212 h213 => (zsc xv L (x10 + 1)).bind fun x214 => (zsc xv L (x10 + 2)).bind fun x215 => (zsc xv L (x10 + 3)).bind fun x216 => (zsc xv L (x10 + 4)).bind fun x217 => zb2 (FX7_setLetter T y2 x214 x215 x216 x217 h213) fun x219 h220 => (FX7_thrown T y2 h220).bind fun x222 => if x222 = x212 then (zJ (fun (u9 : Unit) => J13 h220) (fun J223 => if x212 = 0 then ((zli T h220 y3 0).bind fun x224 => if (lg_cmp x224 x219.toInt64) = 0 then (J223 ()) else (none)) else (J223 ()))) else (none)) else (if (x14 &&& 31) = 15 then ((zsc xv L (x10 + 1)).bind fun x225 => zb2 (FL_setMargin T y1 x225 y3 h11) fun x227 h228 => (zsc xv L (x10 + 1)).bind fun x229 => zb2 (FX7_setMargin T y2 x229 h228) fun x231 h232 => (FX7_thrown T y2 h232).bind fun x234 => if x234 = x227 then (zJ (fun (u9 : Unit) => J13 h232) (fun J235 => if x227 = 0 then ((zli T h232 y3 0).bind fun x236 => if (lg_cmp x236 x231.toInt64) = 0 then (J235 ()) else (none)) else (J235 ()))) else (none)) else (if (x14 &&& 31) = 16 then ((zsc xv L (x10 + 1)).bind fun x237 => zb2 (FL_setGap T y1 x237 y3 h11) fun x239 h240 => (zsc xv L (x10 + 1)).bind fun x241 => zb2 (FX7_setGap T y2 x241 h240) fun x243 h244 => (FX7_thrown T y2 h244).bind fun x246 => if x246 = x239 then (zJ (fun (u9 : Unit) => J13 h244) (fun J247 => if x239 = 0 then ((zli T h244 y3 0).bind fun x248 => if (lg_cmp x248 x243.toInt64) = 0 then (J247 ()) else (none)) else (J247 ()))) else (none)) else (if (x14 &&& 31) = 17 then (zb2 (FX6_turn T y1 h11) fun x250 h251 => zb2 (FX7_turn T y2 h251) fun x253 h254 => if x250 = x253 then (J13 h254) else (none)) else (if (x14 &&& 31) = 18 then (zb2 (FL_undo T y1 y3 h11) fun x256 h257 => zb2 (FX7_undo T y2 h257) fun x259 h260 => (FX7_thrown T y2 h260).bind fun x262 => if x262 = x256 then (zJ (fun (u9 : Unit) => J13 h260) (fun J263 => if x256 = 0 then ((zli T h260 y3 0).bind fun x264 => if (lg_cmp x264 x259.toInt64) = 0 then (J263 ()) else (none)) else (J263 ()))) else (none)) else (if (x14 &&& 31) = 19 then ((zsc xv L (x10 + 1)).bind fun x265 => (zsc xv L (x10 + 2)).bind fun x266 => (zsc xv L (x10 + 3)).bind fun x267 => (zsc xv L (x10 + 4)).bind fun x268 => zb2 (FL_find T y1 x265 x266 ((zlshl x267.toInt64 32) ||| (x268.toInt64 &&& (4294967295 : Int64))) y3 h11) fun x270 h271 => (zsc xv L (x10 + 1)).bind fun x272 => (zsc xv L (x10 + 2)).bind fun x273 => (zsc xv L (x10 + 3)).bind fun x274 => (zsc xv L (x10 + 4)).bind fun x275 => zb2 (FX7_find T y2 x272 x273 ((zlshl x274.toInt64 32) ||| (x275.toInt64 &&& (4294967295 : Int64))) h271) fun x277 h278 => (FX7_thrown T y2 h278).bind fun x280 => if x280 = x270 then (zJ (fun (u9 : Unit) => J13 h278) (fun J281 => if x270 = 0 then ((zli T h278 y3 0).bind fun x282 => if (lg_cmp x282 x277.toInt64) = 0 then (J281 ()) else (none)) else (J281 ()))) else (none)) else (if (x14 &&& 31) = 20 then (zb2 (FX6_shared T y1 h11) fun x284 h285 => zb2 (FX7_shared T y2 h285) fun x287 h288 => if x284 = x287 then (J13 h288) else (none)) else (if (x14 &&& 31) = 21 then ((zsc xv L (x10 + 1)).bind fun x289 => (zsc xv L (x10 + 2)).bind fun x290 => zb2 (FL_count T y1 x289 x290 y3 h11) fun x292 h293 => (zsc xv L (x10 + 1)).bind fun x294 => (zsc xv L (x10 + 2)).bind fun x295 => zb2 (FX7_count T y2 x294 x295 h293) fun x297 h298 => (FX7_thrown T y2 h298).bind fun x300 => if x300 = x292 then (zJ (fun (u9 : Unit) => J13 h298) (fun J301 => if x292 = 0 then ((zli T h298 y3 0).bind fun x302 => if (lg_cmp x302 x297.toInt64) = 0 then (J301 ()) else (none)) else (J301 ()))) else (none)) else (if (x14 &&& 31) = 22 then ((zsc xv L (x10 + 1)).bind fun x303 => zb2 (FL_bestPen T y1 x303 y3 h11) fun x305 h306 => (zsc xv L (x10 + 1)).bind fun x307 => zb2 (FX7_bestPen T y2 x307 h306) fun x309 h310 => (FX7_thrown T y2 h310).bind fun x312 => if x312 = x305 then (zJ (fun (u9 : Unit) => J13 h310) (fun J313 => if x305 = 0 then ((zli T h310 y3 0).bind fun x314 => if (lg_cmp x314 x309.toInt64) = 0 then (J313 ()) else (none)) else (J313 ()))) else (none)) else (if (x14 &&& 31) = 23 then (zb2 (FX6_greatestMargin T y1 h11) fun x316 h317 => zb2 (FX7_greatestMargin T y2 h317) fun x319 h320 => if x316 = x319 then (J13 h320) else (none)) else (if (x14 &&& 31) = 24 then ((zsc xv L (x10 + 1)).bind fun x321 => zb2 (FL_bestDecision T y1 x321 y3 h11) fun x323 h324 => (zsc xv L (x10 + 1)).bind fun x325 => zb2 (FX7_bestDecision T y2 x325 h324) fun x327 h328 => (FX7_thrown T y2 h328).bind fun x330 => if x330 = x323 then (zJ (fun (u9 : Unit) => J13 h328) (fun J331 => if x323 = 0 then ((zli T h328 y3 0).bind fun x332 => if (lg_cmp x332 x327.toInt64) = 0 then (J331 ()) else (none)) else (J331 ()))) else (none)) else (if (x14 &&& 31) = 25 then ((zsc xv L (x10 + 1)).bind fun x333 => (zsc xv L (x10 + 2)).bind fun x334 => zb2 (FL_wordsWith T y1 x333 x334 y3 h11) fun x336 h337 => (zsc xv L (x10 + 1)).bind fun x338 => (zsc xv L (x10 + 2)).bind fun x339 => zb2 (FX7_wordsWith T y2 x338 x339 h337) fun x341 h342 => (FX7_thrown T y2 h342).bind fun x344 => if x344 = x336 then (zJ (fun (u9 : Unit) => J13 h342) (fun J345 => if x336 = 0 then ((zli T h342 y3 0).bind fun x346 => if (lg_cmp x346 x341.toInt64) = 0 then (J345 ()) else (none)) else (J345 ()))) else (none)) else (if (x14 &&& 31) = 26 then ((zsc xv L (x10 + 1)).bind fun x347 => (zsc xv L (x10 + 2)).bind fun x348 => (zsc xv L (x10 + 3)).bind fun x349 => zb2 (FL_runScript T y1 x347 ((zlshl x348.toInt64 32) ||| (x349.toInt64 &&& (4294967295 : Int64))) y3 h11) fun x351 h352 => (zsc xv L (x10 + 1)).bind fun x353 => (zsc xv L (x10 + 2)).bind fun x354 => (zsc xv L (x10 + 3)).bind fun x355 => zb2 (FX7_runScript T y2 x353 ((zlshl x354.toInt64 32) ||| (x355.toInt64 &&& (4294967295 : Int64))) h352) fun x357 h358 => (FX7_thrown T y2 h358).bind fun x360 => if x360 = x351 then (zJ (fun (u9 : Unit) => J13 h358) (fun J361 => if x351 = 0 then ((zli T h358 y3 0).bind fun x362 => if (lg_cmp x362 x357.toInt64) = 0 then (J361 ()) else (none)) else (J361 ()))) else (none)) else (if (x14 &&& 31) = 27 then ((zsc xv L (x10 + 1)).bind fun x363 => (zsc xv L (x10 + 2)).bind fun x364 => (zsc xv L (x10 + 3)).bind fun x365 => zb2 (FL_simulate T y1 ((zlshl x363.toInt64 32) ||| (x364.toInt64 &&& (4294967295 : Int64))) x365 y3 h11) fun x367 h368 => (zsc xv L (x10 + 1)).bind fun x369 => (zsc xv L (x10 + 2)).bind fun x370 => (zsc xv L (x10 + 3)).bind fun x371 => zb2 (FX7_simulate T y2 ((zlshl x369.toInt64 32) ||| (x370.toInt64 &&& (4294967295 : Int64))) x371 h368) fun x373 h374 => (FX7_thrown T y2 h374).bind fun x376 => if x376 = x367 then (zJ (fun (u9 : Unit) => J13 h374) (fun J377 => if x367 = 0 then ((zli T h374 y3 0).bind fun x378 => if (lg_cmp x378 x373.toInt64) = 0 then (J377 ()) else (none)) else (J377 ()))) else (none)) else (if (x14 &&& 31) = 28 then ((zsc xv L (x10 + 1)).bind fun x379 => zb2 (FL_save T y1 x379 y3 h11) fun x381 h382 => (zsc xv L (x10 + 1)).bind fun x383 => zb2 (FX7_save T y2 x383 h382) fun x385 h386 => (FX7_thrown T y2 h386).bind fun x388 => if x388 = x381 then (zJ (fun (u9 : Unit) => J13 h386) (fun J389 => if x381 = 0 then ((zli T h386 y3 0).bind fun x390 => if (lg_cmp x390 x385.toInt64) = 0 then (J389 ()) else (none)) else (J389 ()))) else (none)) else (if (x14 &&& 31) = 29 then ((zsc xv L (x10 + 1)).bind fun x391 => zb2 (FL_restore T y1 x391 y3 h11) fun x393 h394 => (zsc xv L (x10 + 1)).bind fun x395 => zb2 (FX7_restore T y2 x395 h394) fun x397 h398 => (FX7_thrown T y2 h398).bind fun x400 => if x400 = x393 then (zJ (fun (u9 : Unit) => J13 h398) (fun J401 => if x393 = 0 then ((zli T h398 y3 0).bind fun x402 => if (lg_cmp x402 x397.toInt64) = 0 then (J401 ()) else (none)) else (J401 ()))) else (none)) else (J13 h11))))))))))))))))))))))))))))))
theorem ll_form (T : zT) (xv : Nat → Int32) (L y1 y2 y3 k : Nat) (x10 : Int32) (h : zH) : LL_law_23 T xv L y1 y2 y3 (k + 1) x10 h = if ((Int32.ofNat L) - 6) < x10 then (some 1) else BD T xv L y1 y2 y3 x10 h (fun (h12 : zH) => LL_law_23 T xv L y1 y2 y3 k (x10 + 6) h12) := rfl
section Ll
variable {T : zT} {h : zH} {b o L : Nat} {xv : Nat → Int32}
theorem zsc_at {i : Int} (i1 : 0 ≤ i) (i2 : i < L) (hL : L ≤ 3072) : ∃ z, (-2147483648 ≤ z ∧ z < 2147483648) ∧ zsc xv L (iZ i) = some (iZ z) := by
  obtain ⟨z, z1, z2, e⟩ := iZ_any (xv i.toNat)
  refine ⟨z, ⟨z1, z2⟩, ?_⟩
  unfold zsc
  rw [if_pos ((iZ_in (by omega) (by omega)).mpr ⟨i1, by omega⟩), iZ_clamp (by omega) (by omega), e]
theorem seg_fin {c val : Int} {x : Int64} {h2 : zH} {J13 : zH → Option Int32} (hc : 0 ≤ c ∧ c < 10) (hv : -2147483648 ≤ val ∧ val < 2147483648) (hF : Fin T h2 b o c x) (hz : c = 0 → x = lZ val) : ((FX7_thrown T (b + 354) h2).bind fun x24 => if x24 = iZ c then (zJ (fun (_ : Unit) => J13 h2) (fun J25 => if iZ c = 0 then ((zli T h2 o 0).bind fun x26 => if (lg_cmp x26 (iZ val).toInt64) = 0 then (J25 ()) else none) else (J25 ()))) else none) = J13 h2 := by
  obtain ⟨n, tx, d, cnt, nxt, dd, fl, ds, fs, v, tx7, r, D, kp, kb, S, R, e⟩ := hF
  exact seg_ok hc hv (by rw [thrown_eq S.mo0, e]) (fun ec => by rw [out_get S.2.2.2.1, hz ec])
theorem Fin.inv {c : Int} {x : Int64} (hF : Fin T h b o c x) : Inv T h b o := ⟨c, x, hF⟩
set_option maxRecDepth 20000 in
set_option maxHeartbeats 8000000 in
theorem bd_ok (hI : Inv T h b o) (hL : L ≤ 3072) {i : Int} (i1 : 0 ≤ i) (i2 : i + 6 ≤ L) (J13 : zH → Option Int32) : ∃ h2, BD T xv L b (b + 354) o (iZ i) h J13 = J13 h2 ∧ Inv T h2 b o := by
  obtain ⟨c0, x0, n, tx, d, cnt, nxt, dd, fl, ds, fs, v, tx7, r, D, kp, kb, S, R, -⟩ := id hI
  obtain ⟨z0, b0, s0⟩ := zsc_at (xv := xv) i1 (show i < L by omega) hL
  obtain ⟨z1, b1, t1⟩ := zsc_at (xv := xv) (i := i + 1) (by omega) (show i + 1 < L by omega) hL
  have s1 : zsc xv L (iZ i + 1) = some (iZ z1) := by rw [q1, iZ_add]; exact t1
  obtain ⟨z2, b2, t2⟩ := zsc_at (xv := xv) (i := i + 2) (by omega) (show i + 2 < L by omega) hL
  have s2 : zsc xv L (iZ i + 2) = some (iZ z2) := by rw [q2, iZ_add]; exact t2
  obtain ⟨z3, b3, t3⟩ := zsc_at (xv := xv) (i := i + 3) (by omega) (show i + 3 < L by omega) hL
  have s3 : zsc xv L (iZ i + 3) = some (iZ z3) := by rw [q3, iZ_add]; exact t3
  obtain ⟨z4, b4, t4⟩ := zsc_at (xv := xv) (i := i + 4) (by omega) (show i + 4 < L by omega) hL
  have s4 : zsc xv L (iZ i + 4) = some (iZ z4) := by rw [q4, iZ_add]; exact t4
  obtain ⟨z5, b5, t5⟩ := zsc_at (xv := xv) (i := i + 5) (by omega) (show i + 5 < L by omega) hL
  have s5 : zsc xv L (iZ i + 5) = some (iZ z5) := by rw [q5, iZ_add]; exact t5
  unfold BD
  rw [s0, zsn]
  by_cases c0 : (iZ z0 &&& 31) = 0
  · rw [if_pos c0]
    obtain ⟨c, val, h1, h2, x, f1, f2, hc, hv, hF, hz⟩ := c_append S R b1.1 b1.2
    refine ⟨h2, ?_, hF.inv⟩
    rw [s1, zsn, f1, zb2n, zsn, f2, zb2n]
    exact seg_fin hc hv hF hz
  rw [if_neg c0]
  by_cases c1 : (iZ z0 &&& 31) = 1
  · rw [if_pos c1]
    obtain ⟨z, h1, h2, f1, f2, hN⟩ := c_clear S R
    refine ⟨h2, ?_, hN⟩
    rw [f1, zb2n, f2, zb2n, if_pos rfl]
  rw [if_neg c1]
  by_cases c2 : (iZ z0 &&& 31) = 2
  · rw [if_pos c2]
    obtain ⟨z, h1, h2, f1, f2, hN⟩ := c_errpos S R
    refine ⟨h2, ?_, hN⟩
    rw [f1, zb2n, f2, zb2n, if_pos rfl]
  rw [if_neg c2]
  by_cases c3 : (iZ z0 &&& 31) = 3
  · rw [if_pos c3]
    obtain ⟨c, val, h1, h2, x, f1, f2, hc, hv, hF, hz⟩ := c_load S R 
    refine ⟨h2, ?_, hF.inv⟩
    rw [f1, zb2n, f2, zb2n]
    exact seg_fin hc hv hF hz
  rw [if_neg c3]
  by_cases c4 : (iZ z0 &&& 31) = 4
  · rw [if_pos c4]
    obtain ⟨c, val, h1, h2, x, f1, f2, hc, hv, hF, hz⟩ := c_about S R b1.1 b1.2
    refine ⟨h2, ?_, hF.inv⟩
    rw [s1, zsn, f1, zb2n, zsn, f2, zb2n]
    exact seg_fin hc hv hF hz
  rw [if_neg c4]
  by_cases c5 : (iZ z0 &&& 31) = 5
  · rw [if_pos c5]
    obtain ⟨c, val, h1, h2, x, f1, f2, hc, hv, hF, hz⟩ := c_letter S R b1.1 b1.2 b2.1 b2.2
    refine ⟨h2, ?_, hF.inv⟩
    rw [s1, zsn, s2, zsn, f1, zb2n, zsn, zsn, f2, zb2n]
    exact seg_fin hc hv hF hz
  rw [if_neg c5]
  by_cases c6 : (iZ z0 &&& 31) = 6
  · rw [if_pos c6]
    obtain ⟨c, val, h1, h2, x, f1, f2, hc, hv, hF, hz⟩ := c_marks S R b1.1 b1.2 b2.1 b2.2
    refine ⟨h2, ?_, hF.inv⟩
    rw [s1, zsn, s2, zsn, f1, zb2n, zsn, zsn, f2, zb2n]
    exact seg_fin hc hv hF hz
  rw [if_neg c6]
  by_cases c7 : (iZ z0 &&& 31) = 7
  · rw [if_pos c7]
    obtain ⟨c, val, h1, h2, x, f1, f2, hc, hv, hF, hz⟩ := c_mark S R b1.1 b1.2 b2.1 b2.2 b3.1 b3.2 b4.1 b4.2
    refine ⟨h2, ?_, hF.inv⟩
    rw [s1, zsn, s2, zsn, s3, zsn, s4, zsn, f1, zb2n, zsn, zsn, zsn, zsn, f2, zb2n]
    exact seg_fin hc hv hF hz
  rw [if_neg c7]
  by_cases c8 : (iZ z0 &&& 31) = 8
  · rw [if_pos c8]
    obtain ⟨c, val, h1, h2, x, f1, f2, hc, hv, hF, hz⟩ := c_wlen S R b1.1 b1.2 b2.1 b2.2
    refine ⟨h2, ?_, hF.inv⟩
    rw [s1, zsn, s2, zsn, f1, zb2n, zsn, zsn, f2, zb2n]
    exact seg_fin hc hv hF hz
  rw [if_neg c8]
  by_cases c9 : (iZ z0 &&& 31) = 9
  · rw [if_pos c9]
    obtain ⟨c, val, h1, h2, x, f1, f2, hc, hv, hF, hz⟩ := c_sign S R b1.1 b1.2 b2.1 b2.2 b3.1 b3.2
    refine ⟨h2, ?_, hF.inv⟩
    rw [s1, zsn, s2, zsn, s3, zsn, f1, zb2n, zsn, zsn, zsn, f2, zb2n]
    exact seg_fin hc hv hF hz
  rw [if_neg c9]
  by_cases c10 : (iZ z0 &&& 31) = 10
  · rw [if_pos c10]
    obtain ⟨c, val, h1, h2, x, f1, f2, hc, hv, hF, hz⟩ := c_wordAt S R b1.1 b1.2 b2.1 b2.2 b3.1 b3.2
    refine ⟨h2, ?_, hF.inv⟩
    rw [s1, zsn, s2, zsn, s3, zsn, f1, zb2n, zsn, zsn, zsn, f2, zb2n]
    exact seg_fin hc hv hF hz
  rw [if_neg c10]
  by_cases c11 : (iZ z0 &&& 31) = 11
  · rw [if_pos c11]
    obtain ⟨c, val, h1, h2, x, f1, f2, hc, hv, hF, hz⟩ := c_write S R b1.1 b1.2 b2.1 b2.2 b3.1 b3.2 b4.1 b4.2 b5.1 b5.2
    refine ⟨h2, ?_, hF.inv⟩
    rw [s1, zsn, s2, zsn, s3, zsn, s4, zsn, s5, zsn, f1, zb2n, zsn, zsn, zsn, zsn, zsn, f2, zb2n]
    exact seg_fin hc hv hF hz
  rw [if_neg c11]
  by_cases c12 : (iZ z0 &&& 31) = 12
  · rw [if_pos c12]
    obtain ⟨c, val, h1, h2, x, f1, f2, hc, hv, hF, hz⟩ := c_erase S R b1.1 b1.2 b2.1 b2.2 b3.1 b3.2
    refine ⟨h2, ?_, hF.inv⟩
    rw [s1, zsn, s2, zsn, s3, zsn, f1, zb2n, zsn, zsn, zsn, f2, zb2n]
    exact seg_fin hc hv hF hz
  rw [if_neg c12]
  by_cases c13 : (iZ z0 &&& 31) = 13
  · rw [if_pos c13]
    obtain ⟨c, val, h1, h2, x, f1, f2, hc, hv, hF, hz⟩ := c_decide S R b1.1 b1.2 b2.1 b2.2 b3.1 b3.2 b4.1 b4.2
    refine ⟨h2, ?_, hF.inv⟩
    rw [s1, zsn, s2, zsn, s3, zsn, s4, zsn, f1, zb2n, zsn, zsn, zsn, zsn, f2, zb2n]
    exact seg_fin hc hv hF hz
  rw [if_neg c13]
  by_cases c14 : (iZ z0 &&& 31) = 14
  · rw [if_pos c14]
    obtain ⟨c, val, h1, h2, x, f1, f2, hc, hv, hF, hz⟩ := c_setLetter S R b1.1 b1.2 b2.1 b2.2 b3.1 b3.2 b4.1 b4.2
    refine ⟨h2, ?_, hF.inv⟩
    rw [s1, zsn, s2, zsn, s3, zsn, s4, zsn, f1, zb2n, zsn, zsn, zsn, zsn, f2, zb2n]
    exact seg_fin hc hv hF hz
  rw [if_neg c14]
  by_cases c15 : (iZ z0 &&& 31) = 15
  · rw [if_pos c15]
    obtain ⟨c, val, h1, h2, x, f1, f2, hc, hv, hF, hz⟩ := c_setMargin S R b1.1 b1.2
    refine ⟨h2, ?_, hF.inv⟩
    rw [s1, zsn, f1, zb2n, zsn, f2, zb2n]
    exact seg_fin hc hv hF hz
  rw [if_neg c15]
  by_cases c16 : (iZ z0 &&& 31) = 16
  · rw [if_pos c16]
    obtain ⟨c, val, h1, h2, x, f1, f2, hc, hv, hF, hz⟩ := c_setGap S R b1.1 b1.2
    refine ⟨h2, ?_, hF.inv⟩
    rw [s1, zsn, f1, zb2n, zsn, f2, zb2n]
    exact seg_fin hc hv hF hz
  rw [if_neg c16]
  by_cases c17 : (iZ z0 &&& 31) = 17
  · rw [if_pos c17]
    obtain ⟨z, h1, h2, f1, f2, hN⟩ := c_turn S R
    refine ⟨h2, ?_, hN⟩
    rw [f1, zb2n, f2, zb2n, if_pos rfl]
  rw [if_neg c17]
  by_cases c18 : (iZ z0 &&& 31) = 18
  · rw [if_pos c18]
    obtain ⟨c, val, h1, h2, x, f1, f2, hc, hv, hF, hz⟩ := c_undo S R 
    refine ⟨h2, ?_, hF.inv⟩
    rw [f1, zb2n, f2, zb2n]
    exact seg_fin hc hv hF hz
  rw [if_neg c18]
  by_cases c19 : (iZ z0 &&& 31) = 19
  · rw [if_pos c19]
    obtain ⟨c, val, h1, h2, x, f1, f2, hc, hv, hF, hz⟩ := c_find S R ((zlshl (iZ z3).toInt64 32) ||| ((iZ z4).toInt64 &&& (4294967295 : Int64))) b1.1 b1.2 b2.1 b2.2
    refine ⟨h2, ?_, hF.inv⟩
    rw [s1, zsn, s2, zsn, s3, zsn, s4, zsn, f1, zb2n, zsn, zsn, zsn, zsn, f2, zb2n]
    exact seg_fin hc hv hF hz
  rw [if_neg c19]
  by_cases c20 : (iZ z0 &&& 31) = 20
  · rw [if_pos c20]
    obtain ⟨z, h1, h2, f1, f2, hN⟩ := c_shared S R
    refine ⟨h2, ?_, hN⟩
    rw [f1, zb2n, f2, zb2n, if_pos rfl]
  rw [if_neg c20]
  by_cases c21 : (iZ z0 &&& 31) = 21
  · rw [if_pos c21]
    obtain ⟨c, val, h1, h2, x, f1, f2, hc, hv, hF, hz⟩ := c_count S R b1.1 b1.2 b2.1 b2.2
    refine ⟨h2, ?_, hF.inv⟩
    rw [s1, zsn, s2, zsn, f1, zb2n, zsn, zsn, f2, zb2n]
    exact seg_fin hc hv hF hz
  rw [if_neg c21]
  by_cases c22 : (iZ z0 &&& 31) = 22
  · rw [if_pos c22]
    obtain ⟨c, val, h1, h2, x, f1, f2, hc, hv, hF, hz⟩ := c_bestPen S R b1.1 b1.2
    refine ⟨h2, ?_, hF.inv⟩
    rw [s1, zsn, f1, zb2n, zsn, f2, zb2n]
    exact seg_fin hc hv hF hz
  rw [if_neg c22]
  by_cases c23 : (iZ z0 &&& 31) = 23
  · rw [if_pos c23]
    obtain ⟨z, h1, h2, f1, f2, hN⟩ := c_margin S R
    refine ⟨h2, ?_, hN⟩
    rw [f1, zb2n, f2, zb2n, if_pos rfl]
  rw [if_neg c23]
  by_cases c24 : (iZ z0 &&& 31) = 24
  · rw [if_pos c24]
    obtain ⟨c, val, h1, h2, x, f1, f2, hc, hv, hF, hz⟩ := c_bestDecision S R b1.1 b1.2
    refine ⟨h2, ?_, hF.inv⟩
    rw [s1, zsn, f1, zb2n, zsn, f2, zb2n]
    exact seg_fin hc hv hF hz
  rw [if_neg c24]
  by_cases c25 : (iZ z0 &&& 31) = 25
  · rw [if_pos c25]
    obtain ⟨c, val, h1, h2, x, f1, f2, hc, hv, hF, hz⟩ := c_wordsWith S R b1.1 b1.2 b2.1 b2.2
    refine ⟨h2, ?_, hF.inv⟩
    rw [s1, zsn, s2, zsn, f1, zb2n, zsn, zsn, f2, zb2n]
    exact seg_fin hc hv hF hz
  rw [if_neg c25]
  by_cases c26 : (iZ z0 &&& 31) = 26
  · rw [if_pos c26]
    obtain ⟨c, val, h1, h2, x, f1, f2, hc, hv, hF, hz⟩ := c_runScript S R ((zlshl (iZ z2).toInt64 32) ||| ((iZ z3).toInt64 &&& (4294967295 : Int64))) b1.1 b1.2
    refine ⟨h2, ?_, hF.inv⟩
    rw [s1, zsn, s2, zsn, s3, zsn, f1, zb2n, zsn, zsn, zsn, f2, zb2n]
    exact seg_fin hc hv hF hz
  rw [if_neg c26]
  by_cases c27 : (iZ z0 &&& 31) = 27
  · rw [if_pos c27]
    obtain ⟨c, val, h1, h2, x, f1, f2, hc, hv, hF, hz⟩ := c_simulate S R ((zlshl (iZ z1).toInt64 32) ||| ((iZ z2).toInt64 &&& (4294967295 : Int64))) b3.1 b3.2
    refine ⟨h2, ?_, hF.inv⟩
    rw [s1, zsn, s2, zsn, s3, zsn, f1, zb2n, zsn, zsn, zsn, f2, zb2n]
    exact seg_fin hc hv hF hz
  rw [if_neg c27]
  by_cases c28 : (iZ z0 &&& 31) = 28
  · rw [if_pos c28]
    obtain ⟨c, val, h1, h2, x, f1, f2, hc, hv, hF, hz⟩ := c_save S R b1.1 b1.2
    refine ⟨h2, ?_, hF.inv⟩
    rw [s1, zsn, f1, zb2n, zsn, f2, zb2n]
    exact seg_fin hc hv hF hz
  rw [if_neg c28]
  by_cases c29 : (iZ z0 &&& 31) = 29
  · rw [if_pos c29]
    obtain ⟨c, val, h1, h2, x, f1, f2, hc, hv, hF, hz⟩ := c_restore S R b1.1 b1.2
    refine ⟨h2, ?_, hF.inv⟩
    rw [s1, zsn, f1, zb2n, zsn, f2, zb2n]
    exact seg_fin hc hv hF hz
  rw [if_neg c29]
  exact ⟨h, rfl, hI⟩
theorem law_loop (hL : L ≤ 3072) : ∀ (k : Nat) (i : Int) (h : zH), 0 ≤ i → i ≤ L → (L : Int) - i + 6 ≤ 6 * k → Inv T h b o → LL_law_23 T xv L b (b + 354) o k (iZ i) h = some 1 := by
  intro k
  induction k with
  | zero => intro i h h1 h2 h3 hI; omega
  | succ k ih =>
    intro i h h1 h2 h3 hI
    rw [ll_form, iZ_nat, q6, iZ_sub]
    by_cases c : (L : Int) - 6 < i
    · rw [if_pos (by rw [iZ_lt (by omega) (by omega) (by omega) (by omega)]; exact c)]
    · rw [if_neg (by rw [iZ_lt (by omega) (by omega) (by omega) (by omega)]; exact c)]
      obtain ⟨h2', e, hI2⟩ := bd_ok (xv := xv) hI hL h1 (by omega) (fun (h12 : zH) => LL_law_23 T xv L b (b + 354) o k (iZ i + iZ 6) h12)
      rw [e, iZ_add]
      exact ih (i + 6) h2' (by omega) (by omega) (by omega) hI2
end Ll
