/-! ===== a machine over numbers alone: the shape of the heap after the constructors is fixed, only ints and longs change; written by wip/whole/gen_sy.py ===== -/
/-- what changes: an int at each place of each cell (133 0: how many were thrown; 134 0: the length of the script; 1000000: the script; a long takes two places) -/
abbrev sy_M : Type := Nat → Nat → Int32
abbrev sy_O : Type := Option (xe_R × sy_M)
abbrev sy_K : Type := Nat → List Value → List Value → sy_M → sy_O
def sy_t0 : Type := Nat
def sy_t1 : Type := sy_t0
def sy_t2 : Type := sy_t1
def sy_t3 : Type := sy_t2
def sy_t4 : Type := sy_t3
def sy_t5 : Type := sy_t4
def sy_t6 : Type := sy_t5
def sy_t7 : Type := sy_t6
def sy_t8 : Type := sy_t7
def sy_t9 : Type := sy_t8
def sy_t10 : Type := sy_t9
def sy_t11 : Type := sy_t10
def sy_t12 : Type := sy_t11
def sy_t13 : Type := sy_t12
def sy_t14 : Type := sy_t13
def sy_t15 : Type := sy_t14
def sy_t16 : Type := sy_t15
def sy_t17 : Type := sy_t16
def sy_t18 : Type := sy_t17
def sy_t19 : Type := sy_t18
def sy_t20 : Type := sy_t19
def sy_t21 : Type := sy_t20
def sy_t22 : Type := sy_t21
def sy_t23 : Type := sy_t22
def sy_t24 : Type := sy_t23
def sy_t25 : Type := sy_t24
def sy_t26 : Type := sy_t25
def sy_t27 : Type := sy_t26
def sy_t28 : Type := sy_t27
def sy_t29 : Type := sy_t28
def sy_t30 : Type := sy_t29
def sy_t31 : Type := sy_t30
def sy_t32 : Type := sy_t31
def sy_t33 : Type := sy_t32
def sy_t34 : Type := sy_t33
def sy_t35 : Type := sy_t34
def sy_t36 : Type := sy_t35
def sy_t37 : Type := sy_t36
def sy_t38 : Type := sy_t37
def sy_t39 : Type := sy_t38
def sy_t40 : Type := sy_t39
def sy_t41 : Type := sy_t40
def sy_t42 : Type := sy_t41
def sy_t43 : Type := sy_t42
def sy_t44 : Type := sy_t43
def sy_t45 : Type := sy_t44
def sy_t46 : Type := sy_t45
def sy_t47 : Type := sy_t46
def sy_t48 : Type := sy_t47
def sy_t49 : Type := sy_t48
def sy_t50 : Type := sy_t49
def sy_t51 : Type := sy_t50
def sy_t52 : Type := sy_t51
def sy_t53 : Type := sy_t52
def sy_t54 : Type := sy_t53
def sy_t55 : Type := sy_t54
def sy_t56 : Type := sy_t55
def sy_t57 : Type := sy_t56
def sy_t58 : Type := sy_t57
def sy_t59 : Type := sy_t58
def sy_t60 : Type := sy_t59
def sy_t61 : Type := sy_t60
def sy_t62 : Type := sy_t61
def sy_t63 : Type := sy_t62
def sy_t64 : Type := sy_t63
def sy_t65 : Type := sy_t64
def sy_t66 : Type := sy_t65
def sy_t67 : Type := sy_t66
def sy_t68 : Type := sy_t67
def sy_t69 : Type := sy_t68
def sy_t70 : Type := sy_t69
def sy_t71 : Type := sy_t70
def sy_t72 : Type := sy_t71
def sy_t73 : Type := sy_t72
def sy_t74 : Type := sy_t73
def sy_t75 : Type := sy_t74
def sy_t76 : Type := sy_t75
def sy_t77 : Type := sy_t76
def sy_t78 : Type := sy_t77
def sy_t79 : Type := sy_t78
def sy_t80 : Type := sy_t79
def sy_t81 : Type := sy_t80
def sy_t82 : Type := sy_t81
def sy_t83 : Type := sy_t82
def sy_t84 : Type := sy_t83
def sy_t85 : Type := sy_t84
def sy_t86 : Type := sy_t85
def sy_t87 : Type := sy_t86
def sy_t88 : Type := sy_t87
def sy_t89 : Type := sy_t88
def sy_t90 : Type := sy_t89
def sy_t91 : Type := sy_t90
def sy_t92 : Type := sy_t91
def sy_t93 : Type := sy_t92
def sy_t94 : Type := sy_t93
def sy_t95 : Type := sy_t94
def sy_t96 : Type := sy_t95
def sy_t97 : Type := sy_t96
def sy_t98 : Type := sy_t97
def sy_t99 : Type := sy_t98
def sy_t100 : Type := sy_t99
def sy_t101 : Type := sy_t100
def sy_t102 : Type := sy_t101
def sy_t103 : Type := sy_t102
def sy_t104 : Type := sy_t103
def sy_t105 : Type := sy_t104
def sy_t106 : Type := sy_t105
def sy_t107 : Type := sy_t106
def sy_t108 : Type := sy_t107
def sy_t109 : Type := sy_t108
def sy_t110 : Type := sy_t109
def sy_t111 : Type := sy_t110
def sy_t112 : Type := sy_t111
def sy_t113 : Type := sy_t112
def sy_t114 : Type := sy_t113
def sy_t115 : Type := sy_t114
def sy_t116 : Type := sy_t115
def sy_t117 : Type := sy_t116
def sy_t118 : Type := sy_t117
def sy_t119 : Type := sy_t118
def sy_t120 : Type := sy_t119
def sy_t121 : Type := sy_t120
def sy_t122 : Type := sy_t121
def sy_t123 : Type := sy_t122
def sy_t124 : Type := sy_t123
def sy_t125 : Type := sy_t124
def sy_t126 : Type := sy_t125
def sy_t127 : Type := sy_t126
def sy_t128 : Type := sy_t127
def sy_t129 : Type := sy_t128
def sy_t130 : Type := sy_t129
def sy_t131 : Type := sy_t130
def sy_t132 : Type := sy_t131
def sy_t133 : Type := sy_t132
def sy_t134 : Type := sy_t133
def sy_t135 : Type := sy_t134
def sy_t136 : Type := sy_t135
def sy_t137 : Type := sy_t136
def sy_t138 : Type := sy_t137
def sy_t139 : Type := sy_t138
def sy_t140 : Type := sy_t139
def sy_t141 : Type := sy_t140
def sy_t142 : Type := sy_t141
def sy_t143 : Type := sy_t142
def sy_t144 : Type := sy_t143
def sy_t145 : Type := sy_t144
def sy_t146 : Type := sy_t145
def sy_t147 : Type := sy_t146
def sy_t148 : Type := sy_t147
def sy_t149 : Type := sy_t148
def sy_t150 : Type := sy_t149
def sy_t151 : Type := sy_t150
def sy_t152 : Type := sy_t151
def sy_t153 : Type := sy_t152
def sy_t154 : Type := sy_t153
def sy_t155 : Type := sy_t154
def sy_t156 : Type := sy_t155
def sy_t157 : Type := sy_t156
def sy_t158 : Type := sy_t157
def sy_t159 : Type := sy_t158
def sy_t160 : Type := sy_t159
def sy_t161 : Type := sy_t160
def sy_t162 : Type := sy_t161
def sy_t163 : Type := sy_t162
def sy_t164 : Type := sy_t163
def sy_t165 : Type := sy_t164
def sy_t166 : Type := sy_t165
def sy_t167 : Type := sy_t166
def sy_t168 : Type := sy_t167
def sy_t169 : Type := sy_t168
def sy_t170 : Type := sy_t169
def sy_t171 : Type := sy_t170
def sy_t172 : Type := sy_t171
def sy_t173 : Type := sy_t172
def sy_t174 : Type := sy_t173
def sy_t175 : Type := sy_t174
def sy_t176 : Type := sy_t175
def sy_t177 : Type := sy_t176
def sy_t178 : Type := sy_t177
def sy_t179 : Type := sy_t178
def sy_t180 : Type := sy_t179
def sy_t181 : Type := sy_t180
def sy_t182 : Type := sy_t181
def sy_t183 : Type := sy_t182
def sy_t184 : Type := sy_t183
def sy_t185 : Type := sy_t184
def sy_t186 : Type := sy_t185
def sy_t187 : Type := sy_t186
def sy_t188 : Type := sy_t187
def sy_t189 : Type := sy_t188
def sy_t190 : Type := sy_t189
def sy_t191 : Type := sy_t190
def sy_t192 : Type := sy_t191
def sy_t193 : Type := sy_t192
def sy_t194 : Type := sy_t193
def sy_t195 : Type := sy_t194
def sy_t196 : Type := sy_t195
def sy_t197 : Type := sy_t196
def sy_t198 : Type := sy_t197
def sy_t199 : Type := sy_t198
def sy_t200 : Type := sy_t199
def sy_t201 : Type := sy_t200
def sy_t202 : Type := sy_t201
def sy_t203 : Type := sy_t202
def sy_t204 : Type := sy_t203
def sy_t205 : Type := sy_t204
def sy_t206 : Type := sy_t205
def sy_t207 : Type := sy_t206
def sy_t208 : Type := sy_t207
def sy_t209 : Type := sy_t208
def sy_t210 : Type := sy_t209
def sy_t211 : Type := sy_t210
def sy_t212 : Type := sy_t211
def sy_t213 : Type := sy_t212
def sy_t214 : Type := sy_t213
def sy_t215 : Type := sy_t214
def sy_t216 : Type := sy_t215
def sy_t217 : Type := sy_t216
def sy_t218 : Type := sy_t217
def sy_t219 : Type := sy_t218
def sy_t220 : Type := sy_t219
def sy_t221 : Type := sy_t220
def sy_t222 : Type := sy_t221
def sy_t223 : Type := sy_t222
def sy_t224 : Type := sy_t223
def sy_t225 : Type := sy_t224
def sy_t226 : Type := sy_t225
def sy_t227 : Type := sy_t226
def sy_t228 : Type := sy_t227
def sy_t229 : Type := sy_t228
def sy_t230 : Type := sy_t229
def sy_t231 : Type := sy_t230
def sy_t232 : Type := sy_t231
def sy_t233 : Type := sy_t232
def sy_t234 : Type := sy_t233
def sy_t235 : Type := sy_t234
def sy_t236 : Type := sy_t235
def sy_t237 : Type := sy_t236
def sy_t238 : Type := sy_t237
def sy_t239 : Type := sy_t238
def sy_t240 : Type := sy_t239
def sy_t241 : Type := sy_t240
def sy_t242 : Type := sy_t241
def sy_t243 : Type := sy_t242
def sy_t244 : Type := sy_t243
def sy_t245 : Type := sy_t244
def sy_t246 : Type := sy_t245
def sy_t247 : Type := sy_t246
def sy_t248 : Type := sy_t247
def sy_t249 : Type := sy_t248
def sy_t250 : Type := sy_t249
def sy_t251 : Type := sy_t250
def sy_t252 : Type := sy_t251
def sy_t253 : Type := sy_t252
def sy_t254 : Type := sy_t253
def sy_t255 : Type := sy_t254
def sy_t256 : Type := sy_t255
def sy_t257 : Type := sy_t256
def sy_t258 : Type := sy_t257
def sy_t259 : Type := sy_t258
def sy_t260 : Type := sy_t259
def sy_t261 : Type := sy_t260
def sy_t262 : Type := sy_t261
def sy_t263 : Type := sy_t262
def sy_t264 : Type := sy_t263
def sy_t265 : Type := sy_t264
def sy_t266 : Type := sy_t265
def sy_t267 : Type := sy_t266
def sy_t268 : Type := sy_t267
def sy_t269 : Type := sy_t268
def sy_t270 : Type := sy_t269
def sy_t271 : Type := sy_t270
def sy_t272 : Type := sy_t271
def sy_t273 : Type := sy_t272
def sy_t274 : Type := sy_t273
def sy_t275 : Type := sy_t274
def sy_t276 : Type := sy_t275
def sy_t277 : Type := sy_t276
def sy_t278 : Type := sy_t277
def sy_t279 : Type := sy_t278
def sy_t280 : Type := sy_t279
def sy_t281 : Type := sy_t280
def sy_t282 : Type := sy_t281
def sy_t283 : Type := sy_t282
def sy_t284 : Type := sy_t283
def sy_t285 : Type := sy_t284
def sy_t286 : Type := sy_t285
def sy_t287 : Type := sy_t286
def sy_t288 : Type := sy_t287
def sy_t289 : Type := sy_t288
def sy_t290 : Type := sy_t289
def sy_t291 : Type := sy_t290
def sy_t292 : Type := sy_t291
def sy_t293 : Type := sy_t292
def sy_t294 : Type := sy_t293
def sy_t295 : Type := sy_t294
def sy_t296 : Type := sy_t295
def sy_t297 : Type := sy_t296
def sy_t298 : Type := sy_t297
def sy_t299 : Type := sy_t298
def sy_t300 : Type := sy_t299
def sy_t301 : Type := sy_t300
def sy_t302 : Type := sy_t301
def sy_t303 : Type := sy_t302
def sy_t304 : Type := sy_t303
def sy_t305 : Type := sy_t304
def sy_t306 : Type := sy_t305
def sy_t307 : Type := sy_t306
def sy_t308 : Type := sy_t307
def sy_t309 : Type := sy_t308
def sy_t310 : Type := sy_t309
def sy_t311 : Type := sy_t310
def sy_t312 : Type := sy_t311
def sy_t313 : Type := sy_t312
def sy_t314 : Type := sy_t313
def sy_t315 : Type := sy_t314
def sy_t316 : Type := sy_t315
def sy_t317 : Type := sy_t316
def sy_t318 : Type := sy_t317
def sy_t319 : Type := sy_t318
def sy_t320 : Type := sy_t319
def sy_t321 : Type := sy_t320
def sy_t322 : Type := sy_t321
def sy_t323 : Type := sy_t322
def sy_t324 : Type := sy_t323
def sy_t325 : Type := sy_t324
def sy_t326 : Type := sy_t325
def sy_t327 : Type := sy_t326
def sy_t328 : Type := sy_t327
def sy_t329 : Type := sy_t328
def sy_t330 : Type := sy_t329
def sy_t331 : Type := sy_t330
def sy_t332 : Type := sy_t331
def sy_t333 : Type := sy_t332
def sy_t334 : Type := sy_t333
def sy_t335 : Type := sy_t334
def sy_t336 : Type := sy_t335
def sy_t337 : Type := sy_t336
def sy_t338 : Type := sy_t337
def sy_t339 : Type := sy_t338
def sy_t340 : Type := sy_t339
/-- a tall word: what holds it is unfolded ahead of all others -/
def sy_tall : Type := sy_t340
/-- a test; four of them, by what is tested, so that they are told apart quickly -/
def sy_bx (c : Bool) (A : sy_O) : sy_O := match c with
  | true => A
  | false => none
def sy_bb (c : Bool) (A : sy_O) : sy_O := (fun (_ : Type) => match c with
  | true => A
  | false => none) sy_t3
def sy_bs (c : Bool) (A : sy_O) : sy_O := (fun (_ : Type) => match c with
  | true => A
  | false => none) sy_t320
def sy_b (c : Bool) (A : sy_O) : sy_O := (fun (_ : Type) => match c with
  | true => A
  | false => none) sy_tall
/-- a whole number that fits; one that is not below 0 -/
def sy_rg (m : Nat) (n : Int) : Bool := match n with
  | .ofNat k => Nat.ble k m
  | .negSucc k => Nat.ble k m
def sy_nn (n : Int) : Bool := match n with
  | .ofNat _ => true
  | .negSucc _ => false
def sy_ri (v : Int32) (M : sy_M) : sy_O := some (.inl (some (.int v)), M)
def sy_rv (M : sy_M) : sy_O := some (.inl none, M)
def sy_rt (c : Nat) (M : sy_M) : sy_O := some (.inr c, M)
def sy_rr (a : Nat) (M : sy_M) : sy_O := some (.inl (some (.ref a)), M)
def sy_rn (M : sy_M) : sy_O := some (.inl (some .null), M)
def sy_bi (x : sy_O) (k : Int32 → sy_M → sy_O) : sy_O := match x with
  | some (.inl (some (.int v)), M) => k v M
  | some (.inr c, M) => some (.inr c, M)
  | _ => none
def sy_bv (x : sy_O) (k : sy_M → sy_O) : sy_O := match x with
  | some (.inl none, M) => k M
  | some (.inr c, M) => some (.inr c, M)
  | _ => none
def sy_br (x : sy_O) (k : Nat → sy_M → sy_O) (kn : sy_M → sy_O) : sy_O := match x with
  | some (.inl (some (.ref a)), M) => k a M
  | some (.inl (some .null), M) => kn M
  | some (.inr c, M) => some (.inr c, M)
  | _ => none
def sy_hi (x : sy_O) (k : Int32 → sy_M → sy_O) (kt : Nat → sy_M → sy_O) : sy_O := match x with
  | some (.inl (some (.int v)), M) => k v M
  | some (.inr c, M) => kt c M
  | _ => none
/-- a place is written -/
def sy_upd (M : sy_M) (a j : Nat) (v : Int32) : sy_M := fun b i => if b = a then (if i = j then v else M b i) else M b i
/-- longs: two places -/
def sy_rl (M : sy_M) (a j : Nat) : Int64 := Int64.ofInt ((M a (2 * j + 1)).toInt * 4294967296 + (M a (2 * j)).toInt % 4294967296)
def sy_wl (M : sy_M) (a j : Nat) (v : Int64) : sy_M := sy_upd (sy_upd M a (2 * j) (Int32.ofInt (v.toInt % 4294967296))) a (2 * j + 1) (Int32.ofInt (v.toInt / 4294967296))
def sy_cpy (M : sy_M) (b sp a dp n : Nat) : sy_M := fun c i => if c = a then (if dp ≤ i ∧ i < dp + n then M b (sp + (i - dp)) else M c i) else M c i
/-- the cells: tag, length, references -/
def zSH : List (Nat × Nat × List (Nat × Nat)) := [(10, 18, [(0, 1), (1, 6), (2, 9), (3, 14), (4, 19), (5, 24), (6, 29), (7, 35), (8, 41), (9, 47), (10, 48), (11, 49), (12, 53), (13, 57), (14, 119), (15, 120)]), (9, 8, [(0, 2), (1, 3), (2, 4), (3, 5)]), (1000, 400, []), (1000, 401, []), (1000, 401, []), (1000, 401, []), (1, 3, [(0, 7), (1, 8)]), (1000, 20, []), (1000, 20, []), (2, 14, [(0, 10), (1, 11), (2, 12)]), (1000, 63, []), (1000, 49, []), (6, 4, [(1, 13)]), (1000, 300, []), (2, 14, [(0, 15), (1, 16), (2, 17)]), (1000, 63, []), (1000, 49, []), (6, 4, [(1, 18)]), (1000, 300, []), (2, 14, [(0, 20), (1, 21), (2, 22)]), (1000, 63, []), (1000, 49, []), (6, 4, [(1, 23)]), (1000, 0, []), (2, 14, [(0, 25), (1, 26), (2, 27)]), (1000, 63, []), (1000, 49, []), (6, 4, [(1, 28)]), (1000, 300, []), (4, 7, [(0, 30), (1, 31), (2, 32), (3, 33), (4, 34)]), (1000, 12, []), (1000, 12, []), (1000, 12, []), (1000, 12, []), (1000, 512, []), (4, 7, [(0, 36), (1, 37), (2, 38), (3, 39), (4, 40)]), (1000, 12, []), (1000, 12, []), (1000, 12, []), (1000, 12, []), (1000, 512, []), (4, 7, [(0, 42), (1, 43), (2, 44), (3, 45), (4, 46)]), (1000, 12, []), (1000, 12, []), (1000, 12, []), (1000, 12, []), (1000, 512, []), (3, 2, [(0, 1), (1, 14)]), (5, 2, [(0, 1), (1, 35)]), (7, 3, [(0, 50), (1, 51), (2, 52)]), (1000, 48, []), (1000, 48, []), (1000, 9, []), (8, 5, [(0, 54), (1, 55), (2, 56)]), (1000, 49, []), (1000, 7, []), (1000, 7, []), (0, 3, [(0, 58)]), (1004, 12, [(0, 59), (1, 64), (2, 69), (3, 74), (4, 79), (5, 84), (6, 89), (7, 94), (8, 99), (9, 104), (10, 109), (11, 114)]), (2, 14, [(0, 60), (1, 61), (2, 62)]), (1000, 63, []), (1000, 49, []), (6, 4, [(1, 63)]), (1000, 300, []), (2, 14, [(0, 65), (1, 66), (2, 67)]), (1000, 63, []), (1000, 49, []), (6, 4, [(1, 68)]), (1000, 300, []), (2, 14, [(0, 70), (1, 71), (2, 72)]), (1000, 63, []), (1000, 49, []), (6, 4, [(1, 73)]), (1000, 300, []), (2, 14, [(0, 75), (1, 76), (2, 77)]), (1000, 63, []), (1000, 49, []), (6, 4, [(1, 78)]), (1000, 300, []), (2, 14, [(0, 80), (1, 81), (2, 82)]), (1000, 63, []), (1000, 49, []), (6, 4, [(1, 83)]), (1000, 300, []), (2, 14, [(0, 85), (1, 86), (2, 87)]), (1000, 63, []), (1000, 49, []), (6, 4, [(1, 88)]), (1000, 300, []), (2, 14, [(0, 90), (1, 91), (2, 92)]), (1000, 63, []), (1000, 49, []), (6, 4, [(1, 93)]), (1000, 300, []), (2, 14, [(0, 95), (1, 96), (2, 97)]), (1000, 63, []), (1000, 49, []), (6, 4, [(1, 98)]), (1000, 300, []), (2, 14, [(0, 100), (1, 101), (2, 102)]), (1000, 63, []), (1000, 49, []), (6, 4, [(1, 103)]), (1000, 300, []), (2, 14, [(0, 105), (1, 106), (2, 107)]), (1000, 63, []), (1000, 49, []), (6, 4, [(1, 108)]), (1000, 300, []), (2, 14, [(0, 110), (1, 111), (2, 112)]), (1000, 63, []), (1000, 49, []), (6, 4, [(1, 113)]), (1000, 300, []), (2, 14, [(0, 115), (1, 116), (2, 117)]), (1000, 63, []), (1000, 49, []), (6, 4, [(1, 118)]), (1000, 300, []), (1001, 7, []), (1000, 7, []), (11, 26, [(1, 122), (2, 123), (4, 124), (5, 125), (7, 126), (14, 127), (22, 128), (23, 129), (24, 130), (25, 131)]), (1000, 826, []), (1000, 826, []), (1000, 426, []), (1000, 5112, []), (1000, 400, []), (1000, 7, []), (1000, 7, []), (1000, 7, []), (1000, 128, []), (1002, 336, []), (1001, 1, [])]
/-- reference fields by class and place: beside the object, or fixed -/
def zRF : List (Nat × Nat × Bool × Nat) := [(0, 0, false, 58), (1, 0, false, 7), (1, 1, false, 8), (2, 0, true, 1), (2, 1, true, 2), (2, 2, true, 3), (3, 0, false, 1), (3, 1, false, 14), (4, 0, true, 1), (4, 1, true, 2), (4, 2, true, 3), (4, 3, true, 4), (4, 4, true, 5), (5, 0, false, 1), (5, 1, false, 35), (6, 1, true, 1), (7, 0, false, 50), (7, 1, false, 51), (7, 2, false, 52), (8, 0, false, 54), (8, 1, false, 55), (8, 2, false, 56), (9, 0, false, 2), (9, 1, false, 3), (9, 2, false, 4), (9, 3, false, 5), (10, 0, false, 1), (10, 1, false, 6), (10, 2, false, 9), (10, 3, false, 14), (10, 4, false, 19), (10, 5, false, 24), (10, 6, false, 29), (10, 7, false, 35), (10, 8, false, 41), (10, 9, false, 47), (10, 10, false, 48), (10, 11, false, 49), (10, 12, false, 53), (10, 13, false, 57), (10, 14, false, 119), (10, 15, false, 120), (11, 1, false, 122), (11, 2, false, 123), (11, 4, false, 124), (11, 5, false, 125), (11, 7, false, 126), (11, 14, false, 127), (11, 22, false, 128), (11, 23, false, 129), (11, 24, false, 130), (11, 25, false, 131)]
def sy_rft (i : Nat) : Option (Bool × Nat) := (bif Nat.blt i 192 then (bif Nat.blt i 96 then (bif Nat.blt i 48 then (bif Nat.blt i 24 then (bif Nat.blt i 12 then (bif Nat.blt i 6 then (bif Nat.blt i 3 then (bif Nat.blt i 1 then some (false, 58) else none) else none) else none) else none) else (bif Nat.blt i 36 then (bif Nat.blt i 30 then none else (bif Nat.blt i 33 then (bif Nat.blt i 31 then none else (bif Nat.blt i 32 then none else some (false, 7))) else (bif Nat.blt i 34 then some (false, 8) else none))) else none)) else (bif Nat.blt i 72 then (bif Nat.blt i 60 then none else (bif Nat.blt i 66 then (bif Nat.blt i 63 then none else (bif Nat.blt i 64 then none else (bif Nat.blt i 65 then some (true, 1) else some (true, 2)))) else (bif Nat.blt i 69 then (bif Nat.blt i 67 then some (true, 3) else none) else none))) else none)) else (bif Nat.blt i 144 then (bif Nat.blt i 120 then (bif Nat.blt i 108 then (bif Nat.blt i 102 then (bif Nat.blt i 99 then (bif Nat.blt i 97 then some (false, 1) else (bif Nat.blt i 98 then some (false, 14) else none)) else none) else none) else none) else (bif Nat.blt i 132 then (bif Nat.blt i 126 then none else (bif Nat.blt i 129 then (bif Nat.blt i 127 then none else (bif Nat.blt i 128 then none else some (true, 1))) else (bif Nat.blt i 130 then some (true, 2) else (bif Nat.blt i 131 then some (true, 3) else some (true, 4))))) else (bif Nat.blt i 138 then (bif Nat.blt i 135 then (bif Nat.blt i 133 then some (true, 5) else none) else none) else none))) else (bif Nat.blt i 168 then (bif Nat.blt i 156 then none else (bif Nat.blt i 162 then (bif Nat.blt i 159 then none else (bif Nat.blt i 160 then none else (bif Nat.blt i 161 then some (false, 1) else some (false, 35)))) else none)) else none))) else (bif Nat.blt i 288 then (bif Nat.blt i 240 then (bif Nat.blt i 216 then (bif Nat.blt i 204 then (bif Nat.blt i 198 then (bif Nat.blt i 195 then (bif Nat.blt i 193 then none else (bif Nat.blt i 194 then some (true, 1) else none)) else none) else none) else none) else (bif Nat.blt i 228 then (bif Nat.blt i 222 then none else (bif Nat.blt i 225 then (bif Nat.blt i 223 then none else (bif Nat.blt i 224 then none else some (false, 50))) else (bif Nat.blt i 226 then some (false, 51) else (bif Nat.blt i 227 then some (false, 52) else none)))) else none)) else (bif Nat.blt i 264 then (bif Nat.blt i 252 then none else (bif Nat.blt i 258 then (bif Nat.blt i 255 then none else (bif Nat.blt i 256 then none else (bif Nat.blt i 257 then some (false, 54) else some (false, 55)))) else (bif Nat.blt i 261 then (bif Nat.blt i 259 then some (false, 56) else none) else none))) else none)) else (bif Nat.blt i 336 then (bif Nat.blt i 312 then (bif Nat.blt i 300 then (bif Nat.blt i 294 then (bif Nat.blt i 291 then (bif Nat.blt i 289 then some (false, 2) else (bif Nat.blt i 290 then some (false, 3) else some (false, 4))) else (bif Nat.blt i 292 then some (false, 5) else none)) else none) else none) else (bif Nat.blt i 324 then (bif Nat.blt i 318 then none else (bif Nat.blt i 321 then (bif Nat.blt i 319 then none else (bif Nat.blt i 320 then none else some (false, 1))) else (bif Nat.blt i 322 then some (false, 6) else (bif Nat.blt i 323 then some (false, 9) else some (false, 14))))) else (bif Nat.blt i 330 then (bif Nat.blt i 327 then (bif Nat.blt i 325 then some (false, 19) else (bif Nat.blt i 326 then some (false, 24) else some (false, 29))) else (bif Nat.blt i 328 then some (false, 35) else (bif Nat.blt i 329 then some (false, 41) else some (false, 47)))) else (bif Nat.blt i 333 then (bif Nat.blt i 331 then some (false, 48) else (bif Nat.blt i 332 then some (false, 49) else some (false, 53))) else (bif Nat.blt i 334 then some (false, 57) else (bif Nat.blt i 335 then some (false, 119) else some (false, 120))))))) else (bif Nat.blt i 360 then (bif Nat.blt i 348 then none else (bif Nat.blt i 354 then (bif Nat.blt i 351 then none else (bif Nat.blt i 352 then none else (bif Nat.blt i 353 then none else some (false, 122)))) else (bif Nat.blt i 357 then (bif Nat.blt i 355 then some (false, 123) else (bif Nat.blt i 356 then none else some (false, 124))) else (bif Nat.blt i 358 then some (false, 125) else (bif Nat.blt i 359 then none else some (false, 126)))))) else (bif Nat.blt i 372 then (bif Nat.blt i 366 then none else (bif Nat.blt i 369 then (bif Nat.blt i 367 then some (false, 127) else none) else none)) else (bif Nat.blt i 378 then (bif Nat.blt i 375 then (bif Nat.blt i 373 then none else (bif Nat.blt i 374 then none else some (false, 128))) else (bif Nat.blt i 376 then some (false, 129) else (bif Nat.blt i 377 then some (false, 130) else some (false, 131)))) else none))))))
def sy_rowt (a : Nat) : Option (Nat × Nat × List (Nat × Nat)) := (bif Nat.blt a 66 then (bif Nat.blt a 33 then (bif Nat.blt a 16 then (bif Nat.blt a 8 then (bif Nat.blt a 4 then (bif Nat.blt a 2 then (bif Nat.blt a 1 then some (10, 18, [(0, 1), (1, 6), (2, 9), (3, 14), (4, 19), (5, 24), (6, 29), (7, 35), (8, 41), (9, 47), (10, 48), (11, 49), (12, 53), (13, 57), (14, 119), (15, 120)]) else some (9, 8, [(0, 2), (1, 3), (2, 4), (3, 5)])) else (bif Nat.blt a 3 then some (1000, 400, []) else some (1000, 401, []))) else (bif Nat.blt a 6 then (bif Nat.blt a 5 then some (1000, 401, []) else some (1000, 401, [])) else (bif Nat.blt a 7 then some (1, 3, [(0, 7), (1, 8)]) else some (1000, 20, [])))) else (bif Nat.blt a 12 then (bif Nat.blt a 10 then (bif Nat.blt a 9 then some (1000, 20, []) else some (2, 14, [(0, 10), (1, 11), (2, 12)])) else (bif Nat.blt a 11 then some (1000, 63, []) else some (1000, 49, []))) else (bif Nat.blt a 14 then (bif Nat.blt a 13 then some (6, 4, [(1, 13)]) else some (1000, 300, [])) else (bif Nat.blt a 15 then some (2, 14, [(0, 15), (1, 16), (2, 17)]) else some (1000, 63, []))))) else (bif Nat.blt a 24 then (bif Nat.blt a 20 then (bif Nat.blt a 18 then (bif Nat.blt a 17 then some (1000, 49, []) else some (6, 4, [(1, 18)])) else (bif Nat.blt a 19 then some (1000, 300, []) else some (2, 14, [(0, 20), (1, 21), (2, 22)]))) else (bif Nat.blt a 22 then (bif Nat.blt a 21 then some (1000, 63, []) else some (1000, 49, [])) else (bif Nat.blt a 23 then some (6, 4, [(1, 23)]) else some (1000, 0, [])))) else (bif Nat.blt a 28 then (bif Nat.blt a 26 then (bif Nat.blt a 25 then some (2, 14, [(0, 25), (1, 26), (2, 27)]) else some (1000, 63, [])) else (bif Nat.blt a 27 then some (1000, 49, []) else some (6, 4, [(1, 28)]))) else (bif Nat.blt a 30 then (bif Nat.blt a 29 then some (1000, 300, []) else some (4, 7, [(0, 30), (1, 31), (2, 32), (3, 33), (4, 34)])) else (bif Nat.blt a 31 then some (1000, 12, []) else (bif Nat.blt a 32 then some (1000, 12, []) else some (1000, 12, []))))))) else (bif Nat.blt a 49 then (bif Nat.blt a 41 then (bif Nat.blt a 37 then (bif Nat.blt a 35 then (bif Nat.blt a 34 then some (1000, 12, []) else some (1000, 512, [])) else (bif Nat.blt a 36 then some (4, 7, [(0, 36), (1, 37), (2, 38), (3, 39), (4, 40)]) else some (1000, 12, []))) else (bif Nat.blt a 39 then (bif Nat.blt a 38 then some (1000, 12, []) else some (1000, 12, [])) else (bif Nat.blt a 40 then some (1000, 12, []) else some (1000, 512, [])))) else (bif Nat.blt a 45 then (bif Nat.blt a 43 then (bif Nat.blt a 42 then some (4, 7, [(0, 42), (1, 43), (2, 44), (3, 45), (4, 46)]) else some (1000, 12, [])) else (bif Nat.blt a 44 then some (1000, 12, []) else some (1000, 12, []))) else (bif Nat.blt a 47 then (bif Nat.blt a 46 then some (1000, 12, []) else some (1000, 512, [])) else (bif Nat.blt a 48 then some (3, 2, [(0, 1), (1, 14)]) else some (5, 2, [(0, 1), (1, 35)]))))) else (bif Nat.blt a 57 then (bif Nat.blt a 53 then (bif Nat.blt a 51 then (bif Nat.blt a 50 then some (7, 3, [(0, 50), (1, 51), (2, 52)]) else some (1000, 48, [])) else (bif Nat.blt a 52 then some (1000, 48, []) else some (1000, 9, []))) else (bif Nat.blt a 55 then (bif Nat.blt a 54 then some (8, 5, [(0, 54), (1, 55), (2, 56)]) else some (1000, 49, [])) else (bif Nat.blt a 56 then some (1000, 7, []) else some (1000, 7, [])))) else (bif Nat.blt a 61 then (bif Nat.blt a 59 then (bif Nat.blt a 58 then some (0, 3, [(0, 58)]) else some (1004, 12, [(0, 59), (1, 64), (2, 69), (3, 74), (4, 79), (5, 84), (6, 89), (7, 94), (8, 99), (9, 104), (10, 109), (11, 114)])) else (bif Nat.blt a 60 then some (2, 14, [(0, 60), (1, 61), (2, 62)]) else some (1000, 63, []))) else (bif Nat.blt a 63 then (bif Nat.blt a 62 then some (1000, 49, []) else some (6, 4, [(1, 63)])) else (bif Nat.blt a 64 then some (1000, 300, []) else (bif Nat.blt a 65 then some (2, 14, [(0, 65), (1, 66), (2, 67)]) else some (1000, 63, [])))))))) else (bif Nat.blt a 99 then (bif Nat.blt a 82 then (bif Nat.blt a 74 then (bif Nat.blt a 70 then (bif Nat.blt a 68 then (bif Nat.blt a 67 then some (1000, 49, []) else some (6, 4, [(1, 68)])) else (bif Nat.blt a 69 then some (1000, 300, []) else some (2, 14, [(0, 70), (1, 71), (2, 72)]))) else (bif Nat.blt a 72 then (bif Nat.blt a 71 then some (1000, 63, []) else some (1000, 49, [])) else (bif Nat.blt a 73 then some (6, 4, [(1, 73)]) else some (1000, 300, [])))) else (bif Nat.blt a 78 then (bif Nat.blt a 76 then (bif Nat.blt a 75 then some (2, 14, [(0, 75), (1, 76), (2, 77)]) else some (1000, 63, [])) else (bif Nat.blt a 77 then some (1000, 49, []) else some (6, 4, [(1, 78)]))) else (bif Nat.blt a 80 then (bif Nat.blt a 79 then some (1000, 300, []) else some (2, 14, [(0, 80), (1, 81), (2, 82)])) else (bif Nat.blt a 81 then some (1000, 63, []) else some (1000, 49, []))))) else (bif Nat.blt a 90 then (bif Nat.blt a 86 then (bif Nat.blt a 84 then (bif Nat.blt a 83 then some (6, 4, [(1, 83)]) else some (1000, 300, [])) else (bif Nat.blt a 85 then some (2, 14, [(0, 85), (1, 86), (2, 87)]) else some (1000, 63, []))) else (bif Nat.blt a 88 then (bif Nat.blt a 87 then some (1000, 49, []) else some (6, 4, [(1, 88)])) else (bif Nat.blt a 89 then some (1000, 300, []) else some (2, 14, [(0, 90), (1, 91), (2, 92)])))) else (bif Nat.blt a 94 then (bif Nat.blt a 92 then (bif Nat.blt a 91 then some (1000, 63, []) else some (1000, 49, [])) else (bif Nat.blt a 93 then some (6, 4, [(1, 93)]) else some (1000, 300, []))) else (bif Nat.blt a 96 then (bif Nat.blt a 95 then some (2, 14, [(0, 95), (1, 96), (2, 97)]) else some (1000, 63, [])) else (bif Nat.blt a 97 then some (1000, 49, []) else (bif Nat.blt a 98 then some (6, 4, [(1, 98)]) else some (1000, 300, []))))))) else (bif Nat.blt a 116 then (bif Nat.blt a 107 then (bif Nat.blt a 103 then (bif Nat.blt a 101 then (bif Nat.blt a 100 then some (2, 14, [(0, 100), (1, 101), (2, 102)]) else some (1000, 63, [])) else (bif Nat.blt a 102 then some (1000, 49, []) else some (6, 4, [(1, 103)]))) else (bif Nat.blt a 105 then (bif Nat.blt a 104 then some (1000, 300, []) else some (2, 14, [(0, 105), (1, 106), (2, 107)])) else (bif Nat.blt a 106 then some (1000, 63, []) else some (1000, 49, [])))) else (bif Nat.blt a 111 then (bif Nat.blt a 109 then (bif Nat.blt a 108 then some (6, 4, [(1, 108)]) else some (1000, 300, [])) else (bif Nat.blt a 110 then some (2, 14, [(0, 110), (1, 111), (2, 112)]) else some (1000, 63, []))) else (bif Nat.blt a 113 then (bif Nat.blt a 112 then some (1000, 49, []) else some (6, 4, [(1, 113)])) else (bif Nat.blt a 114 then some (1000, 300, []) else (bif Nat.blt a 115 then some (2, 14, [(0, 115), (1, 116), (2, 117)]) else some (1000, 63, [])))))) else (bif Nat.blt a 124 then (bif Nat.blt a 120 then (bif Nat.blt a 118 then (bif Nat.blt a 117 then some (1000, 49, []) else some (6, 4, [(1, 118)])) else (bif Nat.blt a 119 then some (1000, 300, []) else some (1001, 7, []))) else (bif Nat.blt a 122 then (bif Nat.blt a 121 then some (1000, 7, []) else some (11, 26, [(1, 122), (2, 123), (4, 124), (5, 125), (7, 126), (14, 127), (22, 128), (23, 129), (24, 130), (25, 131)])) else (bif Nat.blt a 123 then some (1000, 826, []) else some (1000, 826, [])))) else (bif Nat.blt a 128 then (bif Nat.blt a 126 then (bif Nat.blt a 125 then some (1000, 426, []) else some (1000, 5112, [])) else (bif Nat.blt a 127 then some (1000, 400, []) else some (1000, 7, []))) else (bif Nat.blt a 130 then (bif Nat.blt a 129 then some (1000, 7, []) else some (1000, 7, [])) else (bif Nat.blt a 131 then some (1000, 128, []) else (bif Nat.blt a 132 then some (1002, 336, []) else some (1001, 1, [])))))))))
def sy_rfa : List (Nat × Nat × Bool × Nat) → Nat → Nat → Option (Bool × Nat)
  | [], _, _ => none
  | r :: l, c, k => bif Nat.beq r.1 c && Nat.beq r.2.1 k then some r.2.2 else sy_rfa l c k
def sy_rf (c k : Nat) : Option (Bool × Nat) := bif Nat.blt c 12 then (bif Nat.blt k 32 then sy_rft (c * 32 + k) else none) else none
def sy_rowa : List (Nat × Nat × List (Nat × Nat)) → Nat → Option (Nat × Nat × List (Nat × Nat))
  | [], _ => none
  | r :: l, a => bif Nat.beq a 0 then some r else sy_rowa l (a - 1)
def sy_row (a : Nat) : Option (Nat × Nat × List (Nat × Nat)) := bif Nat.blt a 133 then sy_rowt a else none
/-- how many fields a class has -/
def sy_cnt (c : Nat) : Nat := (bif Nat.blt c 6 then (bif Nat.blt c 3 then (bif Nat.blt c 1 then 3 else (bif Nat.blt c 2 then 3 else 14)) else (bif Nat.blt c 4 then 2 else (bif Nat.blt c 5 then 7 else 2))) else (bif Nat.blt c 9 then (bif Nat.blt c 7 then 4 else (bif Nat.blt c 8 then 3 else 5)) else (bif Nat.blt c 10 then 8 else (bif Nat.blt c 11 then 18 else 26))))
def sy_cn (c : Nat) : Nat := bif Nat.blt c 12 then sy_cnt c else 0
def sy_is (c a : Nat) : Bool := match sy_row a with
  | some r => Nat.beq r.1 c
  | none => false
def sy_ln (t a : Nat) : Nat := match sy_row a with
  | some r => bif Nat.beq r.1 t then r.2.1 else 0
  | none => 0
/-- the length of an int array of ours -/
def sy_li (a : Nat) : Nat := sy_ln 1000 a
/-- the same, or the script's -/
def sy_len (M : sy_M) (a : Nat) : Nat := bif Nat.beq a 1000000 then (M 134 0).toNatClampNeg else sy_li a
def sy_ia (a : Nat) : Bool := sy_is 1000 a
def sy_bo (x : Int32) : Bool := decide (x = 0) || decide (x = 1)
def sy_tx (a : Nat) : Option (List Int32) := bif Nat.blt a 1500000 then none else zbyt[a - 1500000]?
def sy_st (a : Nat) : Bool := (sy_tx a).isSome
def sy_sl (a : Nat) : Nat := match sy_tx a with
  | some b => b.length
  | none => 0
def sy_sc (a j : Nat) : Int32 := match sy_tx a with
  | some b => b.getD j 0
  | none => 0
def sy_cok (b a : Nat) (sp dp n : Int32) : Bool := sy_ia a && (sy_ia b && (decide (0 ≤ n) && (decide (0 ≤ dp) && (decide (0 ≤ sp) && (decide (sp.toNatClampNeg + n.toNatClampNeg ≤ sy_li b) && decide (dp.toNatClampNeg + n.toNatClampNeg ≤ sy_li a))))))
/-- the callees: number, kind (0 an int, 1 nothing, 2 a reference, 3 an int and throws are caught), what they do -/
abbrev sy_C : Type := List (Nat × Nat × (List Value → sy_M → (sy_O → sy_O) → sy_O))
/-- places in a method where another function goes on -/
abbrev sy_U : Type := List (Nat × (List Value → List Value → sy_M → sy_O))
def sy_find : sy_C → Nat → Option (Nat × (List Value → sy_M → (sy_O → sy_O) → sy_O))
  | [], _ => none
  | r :: l, y => bif Nat.beq r.1 y then some r.2 else sy_find l y
def sy_hs : List (Nat × Nat × Nat × Nat) → Nat → Nat → (Nat → sy_O) → sy_O
  | [], _, _, _ => none
  | r :: l, pc, c, k => (fun (_ : Type) => match Nat.ble r.1 pc && Nat.blt pc r.2.1 with
    | true => if c = r.2.2.2 then k r.2.2.1 else sy_hs l pc c k
    | false => sy_hs l pc c k) sy_tall
/-- a list, written out -/
def sy_nl : List Value → (List Value → sy_O) → sy_O
  | [], k => (fun (_ : Type) => k []) sy_tall
  | v :: l, k => (fun (_ : Type) => sy_nl l (fun l1 => k (v :: l1))) sy_tall
def sy_kp (b : List Bool) (ls : List Value) (k : List Value → sy_O) : sy_O := (fun (_ : Type) => match b with
  | [] => k ls
  | _ => sy_nl (xe_keep b ls) k) sy_tall
def sy_back (q : xe_M) (pc : Nat) (ls rest : List Value) (kd : Nat) (o : sy_O) (k : sy_K) : sy_O := (fun (_ : Type) => match kd, xe_hand q with
  | 0, [] => sy_bi o (fun v M1 => k (pc + 3) ls (.int v :: rest) M1)
  | 1, [] => sy_bv o (fun M1 => k (pc + 3) ls rest M1)
  | 2, [] => sy_br o (fun a M1 => k (pc + 3) ls (.ref a :: rest) M1) (fun M1 => k (pc + 3) ls (.null :: rest) M1)
  | 3, hs => sy_hi o (fun v M1 => k (pc + 3) ls (.int v :: rest) M1) (fun c M1 => sy_hs hs pc c (fun p => k p ls [.ref (133 + (M1 133 0).toNatClampNeg - 1)] M1))
  | _, _ => none) sy_tall
def sy_inv (q : xe_M) (ct : sy_C) (pc y : Nat) (as ls rest : List Value) (M : sy_M) (k : sy_K) : sy_O := sy_b (Nat.ble (xe_cat rest) 8) (match sy_find ct y with
  | some (kd, f) => f as M (fun o => sy_back q pc ls rest kd o k)
  | none => none)
def sy_rc (as : List Value) (c : Nat) : Bool := match as with
  | .ref a :: _ => sy_is c a
  | _ => false
def sy_call (lk : Nat → xe_L) (q : xe_M) (ct : sy_C) (kd pc idx : Nat) (ls st : List Value) (M : sy_M) (k : sy_K) : sy_O := (fun (_ : Type) => match lk idx with
  | (3, y, n, _) => match xe_pop n [] st with
    | some (as, rest) => sy_b (Nat.beq kd 0) (sy_inv q ct pc y as ls rest M k)
    | none => none
  | (4, y, n, c) => match xe_pop (n + 1) [] st with
    | some (as, rest) => sy_b (Nat.beq kd 1) (sy_bs (sy_rc as c.toNat) (sy_inv q ct pc y as ls rest M k))
    | none => none
  | (8, y, n, c) => match xe_pop (n + 1) [] st with
    | some (as, rest) => sy_b (Nat.beq kd 1) (sy_bs (sy_rc as c.toNat) (sy_inv q ct pc y as ls rest M k))
    | none => none
  | (5, y, y2, c) => match xe_pop 1 [] st with
    | some (as, rest) => (match Nat.beq kd 1 && sy_rc as c.toNat with
      | true => sy_inv q ct pc y as ls rest M k
      | false => sy_b (Nat.beq kd 1 && sy_rc as (c.toNat + 2)) (sy_inv q ct pc y2 as ls rest M k))
    | none => none
  | (9, _, _, _) => match st with
    | .int n :: .int dp :: .ref a :: .int sp :: .ref b :: rest => sy_b (Nat.beq kd 0 && Nat.ble (xe_cat rest) 8) (sy_bb (sy_cok b a sp dp n) (k (pc + 3) ls rest (sy_cpy M b sp.toNatClampNeg a dp.toNatClampNeg n.toNatClampNeg)))
    | _ => none
  | (17, 0, _, _) => match st with
    | .ref a :: rest => sy_b (Nat.beq kd 1 && Nat.ble (xe_cat rest) 8) (sy_bb (sy_st a) (k (pc + 3) ls (.int (sy_sl a).toInt32 :: rest) M))
    | _ => none
  | (17, 1, _, _) => match st with
    | .int i :: .ref a :: rest => sy_b (Nat.beq kd 1 && Nat.ble (xe_cat rest) 8) (sy_bx (sy_st a && xe_in i (sy_sl a)) (k (pc + 3) ls (.int (sy_sc a i.toNatClampNeg) :: rest) M))
    | _ => none
  | _ => none) sy_tall
def sy_jump (pc : Nat) (off : Int) (ls st : List Value) (M : sy_M) (k : sy_K) : sy_O := sy_b (sy_nn ((pc : Int) + off)) (k ((pc : Int) + off).toNat ls st M)
/-- a branch: whether it is told by 'equal' or 'less', and which way -/
def sy_if (c : ClassFile.Cond) (x y : Int32) (t f : sy_O) : sy_O := (fun (_ : Type) => match c with
  | .eq => if x = y then t else f
  | .ne => if x = y then f else t
  | .lt => if x < y then t else f
  | .ge => if x < y then f else t
  | .gt => if y < x then t else f
  | .le => if y < x then f else t) sy_tall
def sy_sw (pc : Nat) (x : Int32) (dflt : Int) (ls st : List Value) (M : sy_M) (k : sy_K) : Int → List Int → sy_O
  | _, [] => sy_jump pc dflt ls st M k
  | lo, o :: os => (fun (_ : Type) => if x = Int32.ofInt lo then sy_jump pc o ls st M k else sy_sw pc x dflt ls st M k (lo + 1) os) sy_tall
def sy_getf (lk : Nat → xe_L) (q : xe_M) (pc idx : Nat) (ls st : List Value) (M : sy_M) (k : sy_K) : sy_O := (fun (_ : Type) => match st with
  | .ref a :: rest => match lk idx with
    | (1, ci, j, _) => sy_b (Nat.blt j (sy_cn ci)) (sy_bs (sy_is ci a) (match sy_rf ci j with
      | none => k (pc + 3) ls (.int (M a j) :: rest) M
      | some (true, n) => k (pc + 3) ls (.ref (a + n) :: rest) M
      | some (false, n) => k (pc + 3) ls (.ref n :: rest) M))
    | (2, ci, j, c) => sy_b (Nat.beq j 0 && ((Nat.beq a 47 && Nat.beq ci 3) || (Nat.beq a 48 && Nat.beq c.toNat 5))) (k (pc + 3) ls (.ref 1 :: rest) M)
    | _ => none
  | _ => none) sy_tall
def sy_putf (lk : Nat → xe_L) (q : xe_M) (pc idx : Nat) (ls st : List Value) (M : sy_M) (k : sy_K) : sy_O := (fun (_ : Type) => match st with
  | .int x :: .ref a :: rest => match lk idx with
    | (1, ci, j, c) => sy_b (Nat.blt j (sy_cn ci)) (sy_bs (sy_is ci a) (match sy_rf ci j with
      | none => sy_b ((Nat.beq (c.toNat / 10) 0 || Nat.beq (c.toNat / 10) 2) && Nat.blt (c.toNat % 10) 2) (sy_bb (Nat.beq (c.toNat / 10) 0 || sy_bo x) (k (pc + 3) ls rest (sy_upd M a j x)))
      | some _ => none))
    | _ => none
  | _ => none) sy_tall
def sy_new (lk : Nat → xe_L) (q : xe_M) (pc idx : Nat) (ls st : List Value) (M : sy_M) : sy_O := (fun (_ : Type) => match lk idx, xe_hand q with
  | (10, c, 6, _), [] => sy_b (Nat.ble (xe_cat st) 8) (sy_bx (xe_in (M 133 0) 100000) (sy_rt c (sy_upd M 133 0 (M 133 0 + 1))))
  | _, _ => none) sy_tall
/-- one instruction; k goes on -/
def sy_step (lk : Nat → xe_L) (q : xe_M) (ct : sy_C) (pc : Nat) (i : Instr) (ls st : List Value) (M : sy_M) (k : sy_K) : sy_O := (fun (_ : Type) => match i with
  | .iconst n => k (pc + 1) ls (.int (Int32.ofInt n) :: st) M
  | .bipush n => sy_b (sy_rg 127 n) (k (pc + 2) ls (.int (Int32.ofInt n) :: st) M)
  | .sipush n => sy_b (sy_rg 32767 n) (k (pc + 3) ls (.int (Int32.ofInt n) :: st) M)
  | .lconst n => k (pc + 1) ls (.long (Int64.ofNat (n : Nat)) :: st) M
  | .aconst_null => k (pc + 1) ls (.null :: st) M
  | .iload k1 => match ls[k1]? with
    | some (.int x) => k (pc + 2) ls (.int x :: st) M
    | _ => none
  | .iload_n k1 => match ls[(k1 : Nat)]? with
    | some (.int x) => k (pc + 1) ls (.int x :: st) M
    | _ => none
  | .lload k1 => match ls[k1]? with
    | some (.long x) => k (pc + 2) ls (.long x :: st) M
    | _ => none
  | .lload_n k1 => match ls[(k1 : Nat)]? with
    | some (.long x) => k (pc + 1) ls (.long x :: st) M
    | _ => none
  | .aload k1 => match ls[k1]? with
    | some (.ref x) => k (pc + 2) ls (.ref x :: st) M
    | some .null => k (pc + 2) ls (.null :: st) M
    | _ => none
  | .aload_n k1 => match ls[(k1 : Nat)]? with
    | some (.ref x) => k (pc + 1) ls (.ref x :: st) M
    | some .null => k (pc + 1) ls (.null :: st) M
    | _ => none
  | .istore k1 => match st with
    | .int x :: rest => sy_b (Nat.blt k1 ls.length) (sy_nl (xe_set1 ls k1 (.int x)) (fun l => k (pc + 2) l rest M))
    | _ => none
  | .istore_n k1 => match st with
    | .int x :: rest => sy_b (Nat.blt (k1 : Nat) ls.length) (sy_nl (xe_set1 ls k1 (.int x)) (fun l => k (pc + 1) l rest M))
    | _ => none
  | .lstore k1 => match st with
    | .long x :: rest => sy_b (Nat.blt (k1 + 1) ls.length) (sy_nl (xe_set2 ls k1 (.long x)) (fun l => k (pc + 2) l rest M))
    | _ => none
  | .lstore_n k1 => match st with
    | .long x :: rest => sy_b (Nat.blt ((k1 : Nat) + 1) ls.length) (sy_nl (xe_set2 ls k1 (.long x)) (fun l => k (pc + 1) l rest M))
    | _ => none
  | .astore k1 => match st with
    | .ref x :: rest => sy_b (Nat.blt k1 ls.length) (sy_nl (xe_set1 ls k1 (.ref x)) (fun l => k (pc + 2) l rest M))
    | .null :: rest => sy_b (Nat.blt k1 ls.length) (sy_nl (xe_set1 ls k1 .null) (fun l => k (pc + 2) l rest M))
    | _ => none
  | .astore_n k1 => match st with
    | .ref x :: rest => sy_b (Nat.blt (k1 : Nat) ls.length) (sy_nl (xe_set1 ls k1 (.ref x)) (fun l => k (pc + 1) l rest M))
    | .null :: rest => sy_b (Nat.blt (k1 : Nat) ls.length) (sy_nl (xe_set1 ls k1 .null) (fun l => k (pc + 1) l rest M))
    | _ => none
  | .iinc k1 n => match ls[k1]? with
    | some (.int x) => sy_nl (xe_set1 ls k1 (.int (x + Int32.ofInt n))) (fun l => k (pc + 3) l st M)
    | _ => none
  | .iadd => match st with
    | .int y :: .int x :: rest => k (pc + 1) ls (.int (x + y) :: rest) M
    | _ => none
  | .isub => match st with
    | .int y :: .int x :: rest => k (pc + 1) ls (.int (x - y) :: rest) M
    | _ => none
  | .imul => match st with
    | .int y :: .int x :: rest => k (pc + 1) ls (.int (x * y) :: rest) M
    | _ => none
  | .iand => match st with
    | .int y :: .int x :: rest => k (pc + 1) ls (.int (x &&& y) :: rest) M
    | _ => none
  | .ior => match st with
    | .int y :: .int x :: rest => k (pc + 1) ls (.int (x ||| y) :: rest) M
    | _ => none
  | .ixor => match st with
    | .int y :: .int x :: rest => k (pc + 1) ls (.int (x ^^^ y) :: rest) M
    | _ => none
  | .ishl => match st with
    | .int y :: .int x :: rest => k (pc + 1) ls (.int (x <<< (y &&& 31)) :: rest) M
    | _ => none
  | .ishr => match st with
    | .int y :: .int x :: rest => k (pc + 1) ls (.int (x >>> (y &&& 31)) :: rest) M
    | _ => none
  | .iushr => match st with
    | .int y :: .int x :: rest => k (pc + 1) ls (.int ((x.toUInt32 >>> (y.toUInt32 &&& Int32.toUInt32 31)).toInt32) :: rest) M
    | _ => none
  | .idiv => match st with
    | .int y :: .int x :: rest => if y = 0 then none else k (pc + 1) ls (.int (x / y) :: rest) M
    | _ => none
  | .irem => match st with
    | .int y :: .int x :: rest => if y = 0 then none else k (pc + 1) ls (.int (x - x / y * y) :: rest) M
    | _ => none
  | .ineg => match st with
    | .int x :: rest => k (pc + 1) ls (.int (-x) :: rest) M
    | _ => none
  | .ladd => match st with
    | .long y :: .long x :: rest => k (pc + 1) ls (.long (x + y) :: rest) M
    | _ => none
  | .lmul => match st with
    | .long y :: .long x :: rest => k (pc + 1) ls (.long (x * y) :: rest) M
    | _ => none
  | .ldiv => match st with
    | .long y :: .long x :: rest => if y = 0 then none else k (pc + 1) ls (.long (x / y) :: rest) M
    | _ => none
  | .lcmp => match st with
    | .long y :: .long x :: rest => k (pc + 1) ls (.int (lg_cmp x y) :: rest) M
    | _ => none
  | .i2l => match st with
    | .int x :: rest => k (pc + 1) ls (.long x.toInt64 :: rest) M
    | _ => none
  | .l2i => match st with
    | .long x :: rest => k (pc + 1) ls (.int x.toInt32 :: rest) M
    | _ => none
  | .i2c => match st with
    | .int x :: rest => k (pc + 1) ls (.int (x.toUInt32 % 65536).toInt32 :: rest) M
    | _ => none
  | .dup => match st with
    | v :: rest => sy_b (Nat.beq v.category 1) (k (pc + 1) ls (v :: v :: rest) M)
    | _ => none
  | .dup2 => match st with
    | v :: w :: rest => sy_b (Nat.beq v.category 1 && Nat.beq w.category 1) (k (pc + 1) ls (v :: w :: v :: w :: rest) M)
    | _ => none
  | .pop => match st with
    | v :: rest => sy_b (Nat.beq v.category 1) (k (pc + 1) ls rest M)
    | _ => none
  | .goto off => sy_jump pc off ls st M k
  | .ifCond c off => match st with
    | .int x :: rest => sy_b (sy_nn ((pc : Int) + off)) (sy_if c x 0 (k ((pc : Int) + off).toNat ls rest M) (k (pc + 3) ls rest M))
    | _ => none
  | .if_icmp c off => match st with
    | .int y :: .int x :: rest => sy_b (sy_nn ((pc : Int) + off)) (sy_if c x y (k ((pc : Int) + off).toNat ls rest M) (k (pc + 3) ls rest M))
    | _ => none
  | .ifnonnull off => match st with
    | .ref _ :: rest => sy_jump pc off ls rest M k
    | .null :: rest => k (pc + 3) ls rest M
    | _ => none
  | .tableswitch dflt lo hi offs => match st with
    | .int x :: rest => sy_b (decide (lo + (offs.toList.length : Int) = hi + 1 ∧ -1000 ≤ lo ∧ hi ≤ 1000)) (sy_sw pc x dflt ls rest M k lo offs.toList)
    | _ => none
  | .ldc idx => match lk idx with
    | (13, _, _, c) => k (pc + 2) ls (.int (Int32.ofInt c) :: st) M
    | (14, a, _, _) => k (pc + 2) ls (.ref a :: st) M
    | _ => none
  | .ldc_w idx => match lk idx with
    | (13, _, _, c) => k (pc + 3) ls (.int (Int32.ofInt c) :: st) M
    | _ => none
  | .ldc2_w idx => match lk idx with
    | (15, _, _, c) => k (pc + 3) ls (.long (Int64.ofInt c) :: st) M
    | _ => none
  | .getfield idx => sy_getf lk q pc idx ls st M k
  | .putfield idx => sy_putf lk q pc idx ls st M k
  | .arraylength => match st with
    | .ref a :: rest => sy_bb (sy_ia a || Nat.beq a 1000000) (k (pc + 1) ls (.int (sy_len M a).toInt32 :: rest) M)
    | _ => none
  | .iaload => match st with
    | .int i :: .ref a :: rest => sy_bx (xe_in i (sy_len M a)) (k (pc + 1) ls (.int (M a i.toNatClampNeg) :: rest) M)
    | _ => none
  | .baload => match st with
    | .int i :: .ref a :: rest => sy_bx (xe_in i (sy_ln 1002 a)) (k (pc + 1) ls (.int (M a i.toNatClampNeg) :: rest) M)
    | _ => none
  | .laload => match st with
    | .int i :: .ref a :: rest => sy_bx (xe_in i (sy_ln 1001 a)) (k (pc + 1) ls (.long (sy_rl M a i.toNatClampNeg) :: rest) M)
    | _ => none
  | .aaload => match st with
    | .int i :: .ref a :: rest => sy_b (Nat.beq a 58) (sy_bx (xe_in i 12) (k (pc + 1) ls (.ref (59 + 5 * i.toNatClampNeg) :: rest) M))
    | _ => none
  | .iastore => match st with
    | .int v :: .int i :: .ref a :: rest => sy_bx (xe_in i (sy_li a)) (k (pc + 1) ls rest (sy_upd M a i.toNatClampNeg v))
    | _ => none
  | .bastore => match st with
    | .int v :: .int i :: .ref a :: rest => sy_bx (xe_in i (sy_ln 1002 a)) (sy_bb (sy_bo v) (k (pc + 1) ls rest (sy_upd M a i.toNatClampNeg v)))
    | _ => none
  | .lastore => match st with
    | .long v :: .int i :: .ref a :: rest => sy_bx (xe_in i (sy_ln 1001 a)) (k (pc + 1) ls rest (sy_wl M a i.toNatClampNeg v))
    | _ => none
  | .new idx => sy_new lk q pc idx ls st M
  | .invokestatic idx => sy_call lk q ct 0 pc idx ls st M k
  | .invokevirtual idx => sy_call lk q ct 1 pc idx ls st M k
  | .invokespecial idx => sy_call lk q ct 2 pc idx ls st M k
  | .ireturn => match st with
    | [.int x] => (match xe_rk q with
      | 0 => sy_ri x M
      | 1 => sy_bb (sy_bo x) (sy_ri x M)
      | _ => none)
    | _ => none
  | .areturn => match st with
    | [.ref a] => sy_b (Nat.beq (xe_rk q) 4) (sy_rr a M)
    | [.null] => sy_b (Nat.beq (xe_rk q) 4) (sy_rn M)
    | _ => none
  | .return_ => match st with
    | [] => sy_b (Nat.beq (xe_rk q % 100) 3) (sy_rv M)
    | _ => none
  | _ => none) sy_tall
def sy_go : sy_U → Nat → List Value → List Value → sy_M → sy_O → sy_O
  | [], _, _, _, _, z => z
  | r :: l, pc, ls, st, M, z => (fun (_ : Type) => match Nat.beq r.1 pc with
    | true => r.2 ls st M
    | false => sy_go l pc ls st M z) sy_tall
def sy_srch : List xe_I → Nat → Option (xe_I × List xe_I)
  | [], _ => none
  | r :: t, pc => bif Nat.beq r.1 pc then some (r, t) else sy_srch t pc
def sy_ftch (C : List xe_I) : List xe_I → Nat → Option (xe_I × List xe_I)
  | [], pc => sy_srch C pc
  | r :: t, pc => bif Nat.beq r.1 pc then some (r, t) else sy_srch C pc
def sy_run (lk : Nat → xe_L) (q : xe_M) (C : List xe_I) (ct : sy_C) (cu : sy_U) : Nat → List xe_I → Nat → List Value → List Value → sy_M → sy_O
  | 0, _, _, _, _, _ => none
  | n + 1, rest, pc, ls, st, M => match sy_ftch C rest pc with
    | none => none
    | some (r, t) => sy_kp r.2.2.2 ls fun ls0 => sy_step lk q ct r.1 r.2.1 ls0 st M (fun pc1 ls1 st1 M1 => sy_go cu pc1 ls1 st1 M1 (sy_run lk q C ct cu n t pc1 ls1 st1 M1))
/-- what a list of values begins with -/
def sy_xi (l : List Value) (f : Int32 → List Value → sy_O) : sy_O := (fun (_ : Type) => match l with
  | .int x :: r => f x r
  | _ => none) sy_tall
def sy_xl (l : List Value) (f : Int64 → List Value → sy_O) : sy_O := (fun (_ : Type) => match l with
  | .long x :: r => f x r
  | _ => none) sy_tall
def sy_xa (l : List Value) (f : Nat → List Value → sy_O) : sy_O := (fun (_ : Type) => match l with
  | .ref x :: r => f x r
  | _ => none) sy_tall
def sy_xc (a : Nat) (l : List Value) (f : List Value → sy_O) : sy_O := (fun (_ : Type) => match l with
  | .ref x :: r => sy_b (Nat.beq x a) (f r)
  | _ => none) sy_tall
def sy_xv (l : List Value) (f : Value → List Value → sy_O) : sy_O := (fun (_ : Type) => match l with
  | v :: r => f v r
  | _ => none) sy_tall
def sy_xo (l : List Value) (f : List Value → sy_O) : sy_O := (fun (_ : Type) => match l with
  | .retAddr 0 :: r => f r
  | _ => none) sy_tall
def sy_xn (l : List Value) (f : sy_O) : sy_O := (fun (_ : Type) => match l with
  | [] => f
  | _ => none) sy_tall
