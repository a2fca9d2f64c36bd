def Y_L_law_ : en_Y := (yL_law_, cL_law_, 8, (some .boolean), [])
def Y_X0_init : en_Y := (yX0_init, cX0_init, 2, none, [])
def Y_X1_init : en_Y := (yX1_init, cX1_init, 1, none, [])
def Y_X2_init : en_Y := (yX2_init, cX2_init, 2, none, [])
def Y_X3_init : en_Y := (yX3_init, cX3_init, 1, none, [])
def Y_X4_init : en_Y := (yX4_init, cX4_init, 2, none, [])
def Y_X5_init : en_Y := (yX5_init, cX5_init, 1, none, [])
def Y_X6_init : en_Y := (yX6_init, cX6_init, 1, none, [])
def Y_X7_init : en_Y := (yX7_init, cX7_init, 1, none, [])
def Y_X8_init : en_Y := (yX8_init, cX8_init, 2, none, [])
def Y_X9_init : en_Y := (yX9_init, cX9_init, 1, none, [])
def Y_X10_init : en_Y := (yX10_init, cX10_init, 2, none, [])
def Y_X11_init : en_Y := (yX11_init, cX11_init, 1, none, [])
theorem tw_127 : Cond.classLink RL 8 RX10 ∈ en_T := List.mem_filter.mpr ⟨List.mem_of_getElem? (i := 127) (by decide +kernel), by decide +kernel⟩
theorem tw_128 : Cond.instantiable RX10 19 ∈ en_T := List.mem_filter.mpr ⟨List.mem_of_getElem? (i := 128) (by decide +kernel), by decide +kernel⟩
theorem tw_129 : Cond.methodLink RL 127 yX10_init ∈ en_T := List.mem_filter.mpr ⟨List.mem_of_getElem? (i := 129) (by decide +kernel), by decide +kernel⟩
theorem tw_130 : Cond.instanceMethod yX10_init ∈ en_T := List.mem_filter.mpr ⟨List.mem_of_getElem? (i := 130) (by decide +kernel), by decide +kernel⟩
theorem tw_131 : Cond.code yX10_init cX10_init 2 none ∈ en_T := List.mem_filter.mpr ⟨List.mem_of_getElem? (i := 131) (by decide +kernel), by decide +kernel⟩
theorem tw_132 : Cond.methodLink RX10 3 Lib.objectInit ∈ en_T := List.mem_filter.mpr ⟨List.mem_of_getElem? (i := 132) (by decide +kernel), by decide +kernel⟩
theorem tw_135 : Cond.classLink RX10 20 RX3 ∈ en_T := List.mem_filter.mpr ⟨List.mem_of_getElem? (i := 135) (by decide +kernel), by decide +kernel⟩
theorem tw_136 : Cond.instantiable RX3 9 ∈ en_T := List.mem_filter.mpr ⟨List.mem_of_getElem? (i := 136) (by decide +kernel), by decide +kernel⟩
theorem tw_138 : Cond.instanceMethod yX3_init ∈ en_T := List.mem_filter.mpr ⟨List.mem_of_getElem? (i := 138) (by decide +kernel), by decide +kernel⟩
theorem tw_139 : Cond.code yX3_init cX3_init 1 none ∈ en_T := List.mem_filter.mpr ⟨List.mem_of_getElem? (i := 139) (by decide +kernel), by decide +kernel⟩
theorem tw_140 : Cond.methodLink RX3 3 Lib.objectInit ∈ en_T := List.mem_filter.mpr ⟨List.mem_of_getElem? (i := 140) (by decide +kernel), by decide +kernel⟩
theorem tw_189 : Cond.classLink RX10 30 RX1 ∈ en_T := List.mem_filter.mpr ⟨List.mem_of_getElem? (i := 189) (by decide +kernel), by decide +kernel⟩
theorem tw_191 : Cond.classLink RX10 39 RX9 ∈ en_T := List.mem_filter.mpr ⟨List.mem_of_getElem? (i := 191) (by decide +kernel), by decide +kernel⟩
theorem tw_193 : Cond.classLink RX10 48 RX6 ∈ en_T := List.mem_filter.mpr ⟨List.mem_of_getElem? (i := 193) (by decide +kernel), by decide +kernel⟩
theorem tw_194 : Cond.instantiable RX6 12 ∈ en_T := List.mem_filter.mpr ⟨List.mem_of_getElem? (i := 194) (by decide +kernel), by decide +kernel⟩
theorem tw_196 : Cond.instanceMethod yX6_init ∈ en_T := List.mem_filter.mpr ⟨List.mem_of_getElem? (i := 196) (by decide +kernel), by decide +kernel⟩
theorem tw_197 : Cond.code yX6_init cX6_init 1 none ∈ en_T := List.mem_filter.mpr ⟨List.mem_of_getElem? (i := 197) (by decide +kernel), by decide +kernel⟩
theorem tw_198 : Cond.methodLink RX6 3 Lib.objectInit ∈ en_T := List.mem_filter.mpr ⟨List.mem_of_getElem? (i := 198) (by decide +kernel), by decide +kernel⟩
theorem tw_264 : Cond.classLink RX10 66 RX7 ∈ en_T := List.mem_filter.mpr ⟨List.mem_of_getElem? (i := 264) (by decide +kernel), by decide +kernel⟩
theorem tw_265 : Cond.instantiable RX7 9 ∈ en_T := List.mem_filter.mpr ⟨List.mem_of_getElem? (i := 265) (by decide +kernel), by decide +kernel⟩
theorem tw_267 : Cond.instanceMethod yX7_init ∈ en_T := List.mem_filter.mpr ⟨List.mem_of_getElem? (i := 267) (by decide +kernel), by decide +kernel⟩
theorem tw_268 : Cond.code yX7_init cX7_init 1 none ∈ en_T := List.mem_filter.mpr ⟨List.mem_of_getElem? (i := 268) (by decide +kernel), by decide +kernel⟩
theorem tw_269 : Cond.methodLink RX7 3 Lib.objectInit ∈ en_T := List.mem_filter.mpr ⟨List.mem_of_getElem? (i := 269) (by decide +kernel), by decide +kernel⟩
theorem tw_301 : Cond.classLink RX10 73 RX0 ∈ en_T := List.mem_filter.mpr ⟨List.mem_of_getElem? (i := 301) (by decide +kernel), by decide +kernel⟩
theorem tw_302 : Cond.instantiable RX0 4 ∈ en_T := List.mem_filter.mpr ⟨List.mem_of_getElem? (i := 302) (by decide +kernel), by decide +kernel⟩
theorem tw_303 : Cond.methodLink RX10 75 yX0_init ∈ en_T := List.mem_filter.mpr ⟨List.mem_of_getElem? (i := 303) (by decide +kernel), by decide +kernel⟩
theorem tw_304 : Cond.instanceMethod yX0_init ∈ en_T := List.mem_filter.mpr ⟨List.mem_of_getElem? (i := 304) (by decide +kernel), by decide +kernel⟩
theorem tw_305 : Cond.code yX0_init cX0_init 2 none ∈ en_T := List.mem_filter.mpr ⟨List.mem_of_getElem? (i := 305) (by decide +kernel), by decide +kernel⟩
theorem tw_306 : Cond.methodLink RX0 3 Lib.objectInit ∈ en_T := List.mem_filter.mpr ⟨List.mem_of_getElem? (i := 306) (by decide +kernel), by decide +kernel⟩
theorem tw_320 : Cond.classLink RX10 82 RX2 ∈ en_T := List.mem_filter.mpr ⟨List.mem_of_getElem? (i := 320) (by decide +kernel), by decide +kernel⟩
theorem tw_321 : Cond.instantiable RX2 4 ∈ en_T := List.mem_filter.mpr ⟨List.mem_of_getElem? (i := 321) (by decide +kernel), by decide +kernel⟩
theorem tw_322 : Cond.methodLink RX10 84 yX2_init ∈ en_T := List.mem_filter.mpr ⟨List.mem_of_getElem? (i := 322) (by decide +kernel), by decide +kernel⟩
theorem tw_323 : Cond.instanceMethod yX2_init ∈ en_T := List.mem_filter.mpr ⟨List.mem_of_getElem? (i := 323) (by decide +kernel), by decide +kernel⟩
theorem tw_324 : Cond.code yX2_init cX2_init 2 none ∈ en_T := List.mem_filter.mpr ⟨List.mem_of_getElem? (i := 324) (by decide +kernel), by decide +kernel⟩
theorem tw_325 : Cond.methodLink RX2 3 Lib.objectInit ∈ en_T := List.mem_filter.mpr ⟨List.mem_of_getElem? (i := 325) (by decide +kernel), by decide +kernel⟩
theorem tw_326 : Cond.classLink RX2 9 RX1 ∈ en_T := List.mem_filter.mpr ⟨List.mem_of_getElem? (i := 326) (by decide +kernel), by decide +kernel⟩
theorem tw_327 : Cond.instantiable RX1 4 ∈ en_T := List.mem_filter.mpr ⟨List.mem_of_getElem? (i := 327) (by decide +kernel), by decide +kernel⟩
theorem tw_329 : Cond.instanceMethod yX1_init ∈ en_T := List.mem_filter.mpr ⟨List.mem_of_getElem? (i := 329) (by decide +kernel), by decide +kernel⟩
theorem tw_330 : Cond.code yX1_init cX1_init 1 none ∈ en_T := List.mem_filter.mpr ⟨List.mem_of_getElem? (i := 330) (by decide +kernel), by decide +kernel⟩
theorem tw_331 : Cond.methodLink RX1 3 Lib.objectInit ∈ en_T := List.mem_filter.mpr ⟨List.mem_of_getElem? (i := 331) (by decide +kernel), by decide +kernel⟩
theorem tw_361 : Cond.classLink RX10 89 RX4 ∈ en_T := List.mem_filter.mpr ⟨List.mem_of_getElem? (i := 361) (by decide +kernel), by decide +kernel⟩
theorem tw_362 : Cond.instantiable RX4 6 ∈ en_T := List.mem_filter.mpr ⟨List.mem_of_getElem? (i := 362) (by decide +kernel), by decide +kernel⟩
theorem tw_363 : Cond.methodLink RX10 91 yX4_init ∈ en_T := List.mem_filter.mpr ⟨List.mem_of_getElem? (i := 363) (by decide +kernel), by decide +kernel⟩
theorem tw_364 : Cond.instanceMethod yX4_init ∈ en_T := List.mem_filter.mpr ⟨List.mem_of_getElem? (i := 364) (by decide +kernel), by decide +kernel⟩
theorem tw_365 : Cond.code yX4_init cX4_init 2 none ∈ en_T := List.mem_filter.mpr ⟨List.mem_of_getElem? (i := 365) (by decide +kernel), by decide +kernel⟩
theorem tw_366 : Cond.methodLink RX4 3 Lib.objectInit ∈ en_T := List.mem_filter.mpr ⟨List.mem_of_getElem? (i := 366) (by decide +kernel), by decide +kernel⟩
theorem tw_386 : Cond.classLink RX10 98 RX8 ∈ en_T := List.mem_filter.mpr ⟨List.mem_of_getElem? (i := 386) (by decide +kernel), by decide +kernel⟩
theorem tw_387 : Cond.instantiable RX8 5 ∈ en_T := List.mem_filter.mpr ⟨List.mem_of_getElem? (i := 387) (by decide +kernel), by decide +kernel⟩
theorem tw_388 : Cond.methodLink RX10 100 yX8_init ∈ en_T := List.mem_filter.mpr ⟨List.mem_of_getElem? (i := 388) (by decide +kernel), by decide +kernel⟩
theorem tw_389 : Cond.instanceMethod yX8_init ∈ en_T := List.mem_filter.mpr ⟨List.mem_of_getElem? (i := 389) (by decide +kernel), by decide +kernel⟩
theorem tw_390 : Cond.code yX8_init cX8_init 2 none ∈ en_T := List.mem_filter.mpr ⟨List.mem_of_getElem? (i := 390) (by decide +kernel), by decide +kernel⟩
theorem tw_391 : Cond.methodLink RX8 3 Lib.objectInit ∈ en_T := List.mem_filter.mpr ⟨List.mem_of_getElem? (i := 391) (by decide +kernel), by decide +kernel⟩
theorem tw_392 : Cond.classLink RX8 9 RX6 ∈ en_T := List.mem_filter.mpr ⟨List.mem_of_getElem? (i := 392) (by decide +kernel), by decide +kernel⟩
theorem tw_412 : Cond.classLink RX10 107 RX5 ∈ en_T := List.mem_filter.mpr ⟨List.mem_of_getElem? (i := 412) (by decide +kernel), by decide +kernel⟩
theorem tw_413 : Cond.instantiable RX5 3 ∈ en_T := List.mem_filter.mpr ⟨List.mem_of_getElem? (i := 413) (by decide +kernel), by decide +kernel⟩
theorem tw_415 : Cond.instanceMethod yX5_init ∈ en_T := List.mem_filter.mpr ⟨List.mem_of_getElem? (i := 415) (by decide +kernel), by decide +kernel⟩
theorem tw_416 : Cond.code yX5_init cX5_init 1 none ∈ en_T := List.mem_filter.mpr ⟨List.mem_of_getElem? (i := 416) (by decide +kernel), by decide +kernel⟩
theorem tw_417 : Cond.methodLink RX5 3 Lib.objectInit ∈ en_T := List.mem_filter.mpr ⟨List.mem_of_getElem? (i := 417) (by decide +kernel), by decide +kernel⟩
theorem tw_430 : Cond.instantiable RX9 5 ∈ en_T := List.mem_filter.mpr ⟨List.mem_of_getElem? (i := 430) (by decide +kernel), by decide +kernel⟩
theorem tw_432 : Cond.instanceMethod yX9_init ∈ en_T := List.mem_filter.mpr ⟨List.mem_of_getElem? (i := 432) (by decide +kernel), by decide +kernel⟩
theorem tw_433 : Cond.code yX9_init cX9_init 1 none ∈ en_T := List.mem_filter.mpr ⟨List.mem_of_getElem? (i := 433) (by decide +kernel), by decide +kernel⟩
theorem tw_434 : Cond.methodLink RX9 1 Lib.objectInit ∈ en_T := List.mem_filter.mpr ⟨List.mem_of_getElem? (i := 434) (by decide +kernel), by decide +kernel⟩
theorem tw_515 : Cond.methodLink RL 131 yX10_feed ∈ en_T := List.mem_filter.mpr ⟨List.mem_of_getElem? (i := 515) (by decide +kernel), by decide +kernel⟩
theorem tw_523 : Cond.methodLink RL 151 yX10_fault ∈ en_T := List.mem_filter.mpr ⟨List.mem_of_getElem? (i := 523) (by decide +kernel), by decide +kernel⟩
theorem tw_527 : Cond.methodLink RL 189 yX10_horn ∈ en_T := List.mem_filter.mpr ⟨List.mem_of_getElem? (i := 527) (by decide +kernel), by decide +kernel⟩
theorem tw_539 : Cond.methodLink RL 199 yX10_drop ∈ en_T := List.mem_filter.mpr ⟨List.mem_of_getElem? (i := 539) (by decide +kernel), by decide +kernel⟩
theorem tw_543 : Cond.methodLink RL 218 yX10_lost ∈ en_T := List.mem_filter.mpr ⟨List.mem_of_getElem? (i := 543) (by decide +kernel), by decide +kernel⟩
theorem tw_554 : Cond.methodLink RL 266 yX10_image ∈ en_T := List.mem_filter.mpr ⟨List.mem_of_getElem? (i := 554) (by decide +kernel), by decide +kernel⟩
theorem tw_565 : Cond.methodLink RL 270 yX10_restore ∈ en_T := List.mem_filter.mpr ⟨List.mem_of_getElem? (i := 565) (by decide +kernel), by decide +kernel⟩
theorem tw_569 : Cond.methodLink RL 274 yX10_status ∈ en_T := List.mem_filter.mpr ⟨List.mem_of_getElem? (i := 569) (by decide +kernel), by decide +kernel⟩
theorem tw_573 : Cond.methodLink RL 278 yX10_count ∈ en_T := List.mem_filter.mpr ⟨List.mem_of_getElem? (i := 573) (by decide +kernel), by decide +kernel⟩
theorem tw_581 : Cond.methodLink RL 135 yL_beach ∈ en_T := List.mem_filter.mpr ⟨List.mem_of_getElem? (i := 581) (by decide +kernel), by decide +kernel⟩
theorem tw_828 : Cond.methodLink RL 145 yL_law ∈ en_T := List.mem_filter.mpr ⟨List.mem_of_getElem? (i := 828) (by decide +kernel), by decide +kernel⟩
theorem tw_940 : Cond.methodLink RL 148 yL_year ∈ en_T := List.mem_filter.mpr ⟨List.mem_of_getElem? (i := 940) (by decide +kernel), by decide +kernel⟩
theorem tw_962 : Cond.methodLink RL 155 yL_told ∈ en_T := List.mem_filter.mpr ⟨List.mem_of_getElem? (i := 962) (by decide +kernel), by decide +kernel⟩
theorem tw_969 : Cond.methodLink RL 158 yL_stones ∈ en_T := List.mem_filter.mpr ⟨List.mem_of_getElem? (i := 969) (by decide +kernel), by decide +kernel⟩
theorem tw_1008 : Cond.methodLink RL 162 yL_cell ∈ en_T := List.mem_filter.mpr ⟨List.mem_of_getElem? (i := 1008) (by decide +kernel), by decide +kernel⟩
theorem tw_1015 : Cond.methodLink RL 166 yL_put ∈ en_T := List.mem_filter.mpr ⟨List.mem_of_getElem? (i := 1015) (by decide +kernel), by decide +kernel⟩
theorem tw_1024 : Cond.methodLink RL 170 yL_says ∈ en_T := List.mem_filter.mpr ⟨List.mem_of_getElem? (i := 1024) (by decide +kernel), by decide +kernel⟩
theorem tw_1084 : Cond.methodLink RL 174 yL_wave ∈ en_T := List.mem_filter.mpr ⟨List.mem_of_getElem? (i := 1084) (by decide +kernel), by decide +kernel⟩
theorem tw_1157 : Cond.methodLink RL 177 yL_run ∈ en_T := List.mem_filter.mpr ⟨List.mem_of_getElem? (i := 1157) (by decide +kernel), by decide +kernel⟩
theorem tw_1179 : Cond.methodLink RL 180 yL_lots ∈ en_T := List.mem_filter.mpr ⟨List.mem_of_getElem? (i := 1179) (by decide +kernel), by decide +kernel⟩
theorem tw_1191 : Cond.methodLink RL 183 yL_mean ∈ en_T := List.mem_filter.mpr ⟨List.mem_of_getElem? (i := 1191) (by decide +kernel), by decide +kernel⟩
theorem tw_1204 : Cond.methodLink RL 186 yL_order ∈ en_T := List.mem_filter.mpr ⟨List.mem_of_getElem? (i := 1204) (by decide +kernel), by decide +kernel⟩
theorem tw_1229 : Cond.methodLink RL 193 yL_sound ∈ en_T := List.mem_filter.mpr ⟨List.mem_of_getElem? (i := 1229) (by decide +kernel), by decide +kernel⟩
theorem tw_1237 : Cond.methodLink RL 196 yL_take ∈ en_T := List.mem_filter.mpr ⟨List.mem_of_getElem? (i := 1237) (by decide +kernel), by decide +kernel⟩
theorem tw_1244 : Cond.methodLink RL 203 yL_word ∈ en_T := List.mem_filter.mpr ⟨List.mem_of_getElem? (i := 1244) (by decide +kernel), by decide +kernel⟩
theorem tw_1259 : Cond.methodLink RL 206 yL_odds ∈ en_T := List.mem_filter.mpr ⟨List.mem_of_getElem? (i := 1259) (by decide +kernel), by decide +kernel⟩
theorem tw_1284 : Cond.methodLink RL 209 yL_where ∈ en_T := List.mem_filter.mpr ⟨List.mem_of_getElem? (i := 1284) (by decide +kernel), by decide +kernel⟩
theorem tw_1311 : Cond.methodLink RL 212 yL_found ∈ en_T := List.mem_filter.mpr ⟨List.mem_of_getElem? (i := 1311) (by decide +kernel), by decide +kernel⟩
theorem tw_1318 : Cond.methodLink RL 215 yL_miles ∈ en_T := List.mem_filter.mpr ⟨List.mem_of_getElem? (i := 1318) (by decide +kernel), by decide +kernel⟩
theorem tw_1326 : Cond.methodLink RL 222 yL_look ∈ en_T := List.mem_filter.mpr ⟨List.mem_of_getElem? (i := 1326) (by decide +kernel), by decide +kernel⟩
theorem tw_1341 : Cond.methodLink RL 225 yL_left ∈ en_T := List.mem_filter.mpr ⟨List.mem_of_getElem? (i := 1341) (by decide +kernel), by decide +kernel⟩
theorem tw_1354 : Cond.methodLink RL 228 yL_sample ∈ en_T := List.mem_filter.mpr ⟨List.mem_of_getElem? (i := 1354) (by decide +kernel), by decide +kernel⟩
theorem tw_1362 : Cond.methodLink RL 231 yL_which ∈ en_T := List.mem_filter.mpr ⟨List.mem_of_getElem? (i := 1362) (by decide +kernel), by decide +kernel⟩
theorem tw_1379 : Cond.methodLink RL 234 yL_cost ∈ en_T := List.mem_filter.mpr ⟨List.mem_of_getElem? (i := 1379) (by decide +kernel), by decide +kernel⟩
theorem tw_1395 : Cond.methodLink RL 238 yL_raised ∈ en_T := List.mem_filter.mpr ⟨List.mem_of_getElem? (i := 1395) (by decide +kernel), by decide +kernel⟩
theorem tw_1420 : Cond.methodLink RL 241 yL_brought ∈ en_T := List.mem_filter.mpr ⟨List.mem_of_getElem? (i := 1420) (by decide +kernel), by decide +kernel⟩
theorem tw_1433 : Cond.methodLink RL 244 yL_sums ∈ en_T := List.mem_filter.mpr ⟨List.mem_of_getElem? (i := 1433) (by decide +kernel), by decide +kernel⟩
theorem tw_1440 : Cond.methodLink RL 247 yL_last ∈ en_T := List.mem_filter.mpr ⟨List.mem_of_getElem? (i := 1440) (by decide +kernel), by decide +kernel⟩
theorem tw_1452 : Cond.methodLink RL 250 yL_like ∈ en_T := List.mem_filter.mpr ⟨List.mem_of_getElem? (i := 1452) (by decide +kernel), by decide +kernel⟩
theorem tw_1461 : Cond.methodLink RL 253 yL_walls ∈ en_T := List.mem_filter.mpr ⟨List.mem_of_getElem? (i := 1461) (by decide +kernel), by decide +kernel⟩
theorem tw_1472 : Cond.methodLink RL 257 yL_high ∈ en_T := List.mem_filter.mpr ⟨List.mem_of_getElem? (i := 1472) (by decide +kernel), by decide +kernel⟩
theorem tw_1483 : Cond.methodLink RL 260 yL_one ∈ en_T := List.mem_filter.mpr ⟨List.mem_of_getElem? (i := 1483) (by decide +kernel), by decide +kernel⟩
theorem tw_1495 : Cond.methodLink RL 263 yL_seen ∈ en_T := List.mem_filter.mpr ⟨List.mem_of_getElem? (i := 1495) (by decide +kernel), by decide +kernel⟩
theorem tw_1502 : Cond.methodLink RL 141 yX11_thrown ∈ en_T := List.mem_filter.mpr ⟨List.mem_of_getElem? (i := 1502) (by decide +kernel), by decide +kernel⟩
theorem tw_1506 : Cond.classLink RL 128 RX11 ∈ en_T := List.mem_filter.mpr ⟨List.mem_of_getElem? (i := 1506) (by decide +kernel), by decide +kernel⟩
theorem tw_1507 : Cond.instantiable RX11 34 ∈ en_T := List.mem_filter.mpr ⟨List.mem_of_getElem? (i := 1507) (by decide +kernel), by decide +kernel⟩
theorem tw_1508 : Cond.methodLink RL 130 yX11_init ∈ en_T := List.mem_filter.mpr ⟨List.mem_of_getElem? (i := 1508) (by decide +kernel), by decide +kernel⟩
theorem tw_1509 : Cond.instanceMethod yX11_init ∈ en_T := List.mem_filter.mpr ⟨List.mem_of_getElem? (i := 1509) (by decide +kernel), by decide +kernel⟩
theorem tw_1510 : Cond.code yX11_init cX11_init 1 none ∈ en_T := List.mem_filter.mpr ⟨List.mem_of_getElem? (i := 1510) (by decide +kernel), by decide +kernel⟩
theorem tw_1511 : Cond.methodLink RX11 11 Lib.objectInit ∈ en_T := List.mem_filter.mpr ⟨List.mem_of_getElem? (i := 1511) (by decide +kernel), by decide +kernel⟩
theorem tw_1615 : Cond.methodLink RL 134 yX11_feed ∈ en_T := List.mem_filter.mpr ⟨List.mem_of_getElem? (i := 1615) (by decide +kernel), by decide +kernel⟩
theorem tw_1619 : Cond.methodLink RL 154 yX11_fault ∈ en_T := List.mem_filter.mpr ⟨List.mem_of_getElem? (i := 1619) (by decide +kernel), by decide +kernel⟩
theorem tw_1623 : Cond.methodLink RL 140 yX11_beach ∈ en_T := List.mem_filter.mpr ⟨List.mem_of_getElem? (i := 1623) (by decide +kernel), by decide +kernel⟩
theorem tw_1719 : Cond.methodLink RL 147 yX11_law ∈ en_T := List.mem_filter.mpr ⟨List.mem_of_getElem? (i := 1719) (by decide +kernel), by decide +kernel⟩
theorem tw_1779 : Cond.methodLink RL 150 yX11_year ∈ en_T := List.mem_filter.mpr ⟨List.mem_of_getElem? (i := 1779) (by decide +kernel), by decide +kernel⟩
theorem tw_1785 : Cond.methodLink RL 157 yX11_told ∈ en_T := List.mem_filter.mpr ⟨List.mem_of_getElem? (i := 1785) (by decide +kernel), by decide +kernel⟩
theorem tw_1792 : Cond.methodLink RL 161 yX11_stones ∈ en_T := List.mem_filter.mpr ⟨List.mem_of_getElem? (i := 1792) (by decide +kernel), by decide +kernel⟩
theorem tw_1804 : Cond.methodLink RL 165 yX11_cell ∈ en_T := List.mem_filter.mpr ⟨List.mem_of_getElem? (i := 1804) (by decide +kernel), by decide +kernel⟩
theorem tw_1808 : Cond.methodLink RL 169 yX11_put ∈ en_T := List.mem_filter.mpr ⟨List.mem_of_getElem? (i := 1808) (by decide +kernel), by decide +kernel⟩
theorem tw_1812 : Cond.methodLink RL 173 yX11_says ∈ en_T := List.mem_filter.mpr ⟨List.mem_of_getElem? (i := 1812) (by decide +kernel), by decide +kernel⟩
theorem tw_1844 : Cond.methodLink RL 176 yX11_wave ∈ en_T := List.mem_filter.mpr ⟨List.mem_of_getElem? (i := 1844) (by decide +kernel), by decide +kernel⟩
theorem tw_1875 : Cond.methodLink RL 179 yX11_run ∈ en_T := List.mem_filter.mpr ⟨List.mem_of_getElem? (i := 1875) (by decide +kernel), by decide +kernel⟩
theorem tw_1887 : Cond.methodLink RL 182 yX11_lots ∈ en_T := List.mem_filter.mpr ⟨List.mem_of_getElem? (i := 1887) (by decide +kernel), by decide +kernel⟩
theorem tw_1892 : Cond.methodLink RL 185 yX11_mean ∈ en_T := List.mem_filter.mpr ⟨List.mem_of_getElem? (i := 1892) (by decide +kernel), by decide +kernel⟩
theorem tw_1901 : Cond.methodLink RL 188 yX11_order ∈ en_T := List.mem_filter.mpr ⟨List.mem_of_getElem? (i := 1901) (by decide +kernel), by decide +kernel⟩
theorem tw_1921 : Cond.methodLink RL 192 yX11_horn ∈ en_T := List.mem_filter.mpr ⟨List.mem_of_getElem? (i := 1921) (by decide +kernel), by decide +kernel⟩
theorem tw_1925 : Cond.methodLink RL 195 yX11_sound ∈ en_T := List.mem_filter.mpr ⟨List.mem_of_getElem? (i := 1925) (by decide +kernel), by decide +kernel⟩
theorem tw_1929 : Cond.methodLink RL 198 yX11_take ∈ en_T := List.mem_filter.mpr ⟨List.mem_of_getElem? (i := 1929) (by decide +kernel), by decide +kernel⟩
theorem tw_1933 : Cond.methodLink RL 202 yX11_drop ∈ en_T := List.mem_filter.mpr ⟨List.mem_of_getElem? (i := 1933) (by decide +kernel), by decide +kernel⟩
theorem tw_1937 : Cond.methodLink RL 205 yX11_word_ ∈ en_T := List.mem_filter.mpr ⟨List.mem_of_getElem? (i := 1937) (by decide +kernel), by decide +kernel⟩
theorem tw_1945 : Cond.methodLink RL 208 yX11_odds ∈ en_T := List.mem_filter.mpr ⟨List.mem_of_getElem? (i := 1945) (by decide +kernel), by decide +kernel⟩
theorem tw_1957 : Cond.methodLink RL 211 yX11_where ∈ en_T := List.mem_filter.mpr ⟨List.mem_of_getElem? (i := 1957) (by decide +kernel), by decide +kernel⟩
theorem tw_1961 : Cond.methodLink RL 214 yX11_found ∈ en_T := List.mem_filter.mpr ⟨List.mem_of_getElem? (i := 1961) (by decide +kernel), by decide +kernel⟩
theorem tw_1965 : Cond.methodLink RL 217 yX11_miles ∈ en_T := List.mem_filter.mpr ⟨List.mem_of_getElem? (i := 1965) (by decide +kernel), by decide +kernel⟩
theorem tw_1969 : Cond.methodLink RL 221 yX11_lost ∈ en_T := List.mem_filter.mpr ⟨List.mem_of_getElem? (i := 1969) (by decide +kernel), by decide +kernel⟩
theorem tw_1973 : Cond.methodLink RL 224 yX11_look ∈ en_T := List.mem_filter.mpr ⟨List.mem_of_getElem? (i := 1973) (by decide +kernel), by decide +kernel⟩
theorem tw_1977 : Cond.methodLink RL 227 yX11_left ∈ en_T := List.mem_filter.mpr ⟨List.mem_of_getElem? (i := 1977) (by decide +kernel), by decide +kernel⟩
theorem tw_1989 : Cond.methodLink RL 230 yX11_sample ∈ en_T := List.mem_filter.mpr ⟨List.mem_of_getElem? (i := 1989) (by decide +kernel), by decide +kernel⟩
theorem tw_1994 : Cond.methodLink RL 233 yX11_which ∈ en_T := List.mem_filter.mpr ⟨List.mem_of_getElem? (i := 1994) (by decide +kernel), by decide +kernel⟩
theorem tw_2002 : Cond.methodLink RL 237 yX11_cost ∈ en_T := List.mem_filter.mpr ⟨List.mem_of_getElem? (i := 2002) (by decide +kernel), by decide +kernel⟩
theorem tw_2006 : Cond.methodLink RL 240 yX11_raised ∈ en_T := List.mem_filter.mpr ⟨List.mem_of_getElem? (i := 2006) (by decide +kernel), by decide +kernel⟩
theorem tw_2017 : Cond.methodLink RL 243 yX11_brought ∈ en_T := List.mem_filter.mpr ⟨List.mem_of_getElem? (i := 2017) (by decide +kernel), by decide +kernel⟩
theorem tw_2021 : Cond.methodLink RL 249 yX11_last ∈ en_T := List.mem_filter.mpr ⟨List.mem_of_getElem? (i := 2021) (by decide +kernel), by decide +kernel⟩
theorem tw_2025 : Cond.methodLink RL 252 yX11_like ∈ en_T := List.mem_filter.mpr ⟨List.mem_of_getElem? (i := 2025) (by decide +kernel), by decide +kernel⟩
theorem tw_2033 : Cond.methodLink RL 256 yX11_walls ∈ en_T := List.mem_filter.mpr ⟨List.mem_of_getElem? (i := 2033) (by decide +kernel), by decide +kernel⟩
theorem tw_2037 : Cond.methodLink RL 259 yX11_high ∈ en_T := List.mem_filter.mpr ⟨List.mem_of_getElem? (i := 2037) (by decide +kernel), by decide +kernel⟩
theorem tw_2041 : Cond.methodLink RL 262 yX11_one ∈ en_T := List.mem_filter.mpr ⟨List.mem_of_getElem? (i := 2041) (by decide +kernel), by decide +kernel⟩
theorem tw_2049 : Cond.methodLink RL 265 yX11_seen ∈ en_T := List.mem_filter.mpr ⟨List.mem_of_getElem? (i := 2049) (by decide +kernel), by decide +kernel⟩
theorem tw_2053 : Cond.methodLink RL 246 yX11_sums ∈ en_T := List.mem_filter.mpr ⟨List.mem_of_getElem? (i := 2053) (by decide +kernel), by decide +kernel⟩
theorem tw_2057 : Cond.methodLink RL 269 yX11_image ∈ en_T := List.mem_filter.mpr ⟨List.mem_of_getElem? (i := 2057) (by decide +kernel), by decide +kernel⟩
theorem tw_2061 : Cond.methodLink RL 273 yX11_restore ∈ en_T := List.mem_filter.mpr ⟨List.mem_of_getElem? (i := 2061) (by decide +kernel), by decide +kernel⟩
theorem tw_2065 : Cond.methodLink RL 277 yX11_status ∈ en_T := List.mem_filter.mpr ⟨List.mem_of_getElem? (i := 2065) (by decide +kernel), by decide +kernel⟩
theorem tw_2069 : Cond.methodLink RL 281 yX11_count ∈ en_T := List.mem_filter.mpr ⟨List.mem_of_getElem? (i := 2069) (by decide +kernel), by decide +kernel⟩
theorem tw_oin : Cond.instanceMethod Lib.objectInit ∈ en_T := List.mem_filter.mpr ⟨List.mem_of_getElem? (i := 133) (by decide +kernel), by decide +kernel⟩
theorem tw_oco : Cond.code Lib.objectInit ⟨#[0xb1]⟩ 1 none ∈ en_T := List.mem_filter.mpr ⟨List.mem_of_getElem? (i := 134) (by decide +kernel), by decide +kernel⟩
theorem tw_arr_byte : Cond.arrayClass (newarray.typeOf .byte) ∈ en_T := List.mem_filter.mpr ⟨List.mem_of_getElem? (i := 187) (by decide +kernel), by decide +kernel⟩
theorem tw_arr_int : Cond.arrayClass (newarray.typeOf .int) ∈ en_T := List.mem_filter.mpr ⟨List.mem_of_getElem? (i := 188) (by decide +kernel), by decide +kernel⟩
theorem tw_arr_long : Cond.arrayClass (newarray.typeOf .long) ∈ en_T := List.mem_filter.mpr ⟨List.mem_of_getElem? (i := 428) (by decide +kernel), by decide +kernel⟩
theorem cal_X0_init : en_Cal Y_X0_init 1 := ⟨rfl, tw_104, tw_305, ⟨by decide, by decide, by decide +kernel⟩, Nat.le_of_ble_eq_true rfl⟩
theorem calI_X0_init : Cond.instanceMethod Y_X0_init.1 ∈ en_T := tw_304
theorem cal_X1_init : en_Cal Y_X1_init 0 := ⟨rfl, tw_106, tw_330, ⟨by decide, by decide, by decide +kernel⟩, Nat.le_of_ble_eq_true rfl⟩
theorem calI_X1_init : Cond.instanceMethod Y_X1_init.1 ∈ en_T := tw_329
theorem cal_X2_init : en_Cal Y_X2_init 1 := ⟨rfl, tw_105, tw_324, ⟨by decide, by decide, by decide +kernel⟩, Nat.le_of_ble_eq_true rfl⟩
theorem calI_X2_init : Cond.instanceMethod Y_X2_init.1 ∈ en_T := tw_323
theorem cal_X3_init : en_Cal Y_X3_init 0 := ⟨rfl, tw_101, tw_139, ⟨by decide, by decide, by decide +kernel⟩, Nat.le_of_ble_eq_true rfl⟩
theorem calI_X3_init : Cond.instanceMethod Y_X3_init.1 ∈ en_T := tw_138
theorem cal_X4_init : en_Cal Y_X4_init 1 := ⟨rfl, tw_107, tw_365, ⟨by decide, by decide, by decide +kernel⟩, Nat.le_of_ble_eq_true rfl⟩
theorem calI_X4_init : Cond.instanceMethod Y_X4_init.1 ∈ en_T := tw_364
theorem cal_X5_init : en_Cal Y_X5_init 0 := ⟨rfl, tw_109, tw_416, ⟨by decide, by decide, by decide +kernel⟩, Nat.le_of_ble_eq_true rfl⟩
theorem calI_X5_init : Cond.instanceMethod Y_X5_init.1 ∈ en_T := tw_415
theorem cal_X6_init : en_Cal Y_X6_init 0 := ⟨rfl, tw_102, tw_197, ⟨by decide, by decide, by decide +kernel⟩, Nat.le_of_ble_eq_true rfl⟩
theorem calI_X6_init : Cond.instanceMethod Y_X6_init.1 ∈ en_T := tw_196
theorem cal_X7_init : en_Cal Y_X7_init 0 := ⟨rfl, tw_103, tw_268, ⟨by decide, by decide, by decide +kernel⟩, Nat.le_of_ble_eq_true rfl⟩
theorem calI_X7_init : Cond.instanceMethod Y_X7_init.1 ∈ en_T := tw_267
theorem cal_X8_init : en_Cal Y_X8_init 1 := ⟨rfl, tw_108, tw_390, ⟨by decide, by decide, by decide +kernel⟩, Nat.le_of_ble_eq_true rfl⟩
theorem calI_X8_init : Cond.instanceMethod Y_X8_init.1 ∈ en_T := tw_389
theorem cal_X9_init : en_Cal Y_X9_init 0 := ⟨rfl, tw_110, tw_433, ⟨by decide, by decide, by decide +kernel⟩, Nat.le_of_ble_eq_true rfl⟩
theorem calI_X9_init : Cond.instanceMethod Y_X9_init.1 ∈ en_T := tw_432
theorem cal_X10_init : en_Cal Y_X10_init 0 := ⟨rfl, tw_100, tw_131, ⟨by decide, by decide, by decide +kernel⟩, Nat.le_of_ble_eq_true rfl⟩
theorem calI_X10_init : Cond.instanceMethod Y_X10_init.1 ∈ en_T := tw_130
theorem cal_X11_init : en_Cal Y_X11_init 0 := ⟨rfl, tw_111, tw_1510, ⟨by decide, by decide, by decide +kernel⟩, Nat.le_of_ble_eq_true rfl⟩
theorem calI_X11_init : Cond.instanceMethod Y_X11_init.1 ∈ en_T := tw_1509
