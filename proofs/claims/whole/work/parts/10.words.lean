abbrev wN : en_Wd := (134, false)
def kv (G : en_G) (Y : en_Y) (d : Nat) (w w' : en_Wd) (K : en_K) (pc : Nat) : en_Kont := fun ls st hi hl hr uc us => en_V G Y d w w' K pc ls st hi hl hr uc us
theorem sn_kv {G : en_G} {Y : en_Y} {d : Nat} {w w' : en_Wd} {K : en_K} {pc : Nat} : en_S G Y d w w' K (kv G Y d w w' K pc) pc := fun _ _ _ _ _ _ _ h => h
theorem en_sw_to {ks : List en_Kont} {offs : Array Int} {pc : Nat} {tg : Nat → Nat} (h : ∀ j, j < ks.length → ∃ off, offs[j]? = some off ∧ (pc : Int) + off = (tg j : Int)) : ∀ j : Nat, j < ks.length → ∃ off, offs[j]? = some off ∧ (pc : Int) + off = (tg j : Int) := h
theorem en_sw_ks {G : en_G} {Y : en_Y} {d : Nat} {w w' : en_Wd} {K : en_K} (ts : List Nat) {ks : List en_Kont} (hk : ks = ts.map (fun t => kv G Y d w w' K t)) : ∀ (j : Nat) (k : en_Kont), ks[j]? = some k → en_S G Y d w w' K k (ts.getD j 0) := by
  intro j k h
  subst hk
  rw [List.getElem?_map] at h
  cases e : ts[j]? with
  | none => rw [e] at h; cases h
  | some t =>
    rw [e] at h
    cases h
    rw [List.getD_eq_getElem?_getD, e]
    exact sn_kv
theorem cl_X0 : en_Cl 0 RX0 TX0 4 := ⟨Nat.le_of_ble_eq_true rfl, rfl, fun w h => List.mem_filter.mpr ⟨inX0 w h, (by decide +kernel : ∀ w ∈ wsX00, goodWord w = true) w h⟩, tyX0_ok, nmX0⟩
theorem cl_X1 : en_Cl 1 RX1 TX1 4 := ⟨Nat.le_of_ble_eq_true rfl, rfl, fun w h => List.mem_filter.mpr ⟨inX1 w h, (by decide +kernel : ∀ w ∈ wsX10, goodWord w = true) w h⟩, tyX1_ok, nmX1⟩
theorem cl_X2 : en_Cl 2 RX2 TX2 4 := ⟨Nat.le_of_ble_eq_true rfl, rfl, fun w h => List.mem_filter.mpr ⟨inX2 w h, (by decide +kernel : ∀ w ∈ wsX20, goodWord w = true) w h⟩, tyX2_ok, nmX2⟩
theorem cl_X3 : en_Cl 3 RX3 TX3 9 := ⟨Nat.le_of_ble_eq_true rfl, rfl, fun w h => List.mem_filter.mpr ⟨inX3 w h, (by decide +kernel : ∀ w ∈ wsX30, goodWord w = true) w h⟩, tyX3_ok, nmX3⟩
theorem cl_X4 : en_Cl 4 RX4 TX4 6 := ⟨Nat.le_of_ble_eq_true rfl, rfl, fun w h => List.mem_filter.mpr ⟨inX4 w h, (by decide +kernel : ∀ w ∈ wsX40, goodWord w = true) w h⟩, tyX4_ok, nmX4⟩
theorem cl_X5 : en_Cl 5 RX5 TX5 3 := ⟨Nat.le_of_ble_eq_true rfl, rfl, fun w h => List.mem_filter.mpr ⟨inX5 w h, (by decide +kernel : ∀ w ∈ wsX50, goodWord w = true) w h⟩, tyX5_ok, nmX5⟩
theorem cl_X6 : en_Cl 6 RX6 TX6 12 := ⟨Nat.le_of_ble_eq_true rfl, rfl, fun w h => List.mem_filter.mpr ⟨inX6 w h, (by decide +kernel : ∀ w ∈ wsX60, goodWord w = true) w h⟩, tyX6_ok, nmX6⟩
theorem cl_X7 : en_Cl 7 RX7 TX7 9 := ⟨Nat.le_of_ble_eq_true rfl, rfl, fun w h => List.mem_filter.mpr ⟨inX7 w h, (by decide +kernel : ∀ w ∈ wsX70, goodWord w = true) w h⟩, tyX7_ok, nmX7⟩
theorem cl_X8 : en_Cl 8 RX8 TX8 5 := ⟨Nat.le_of_ble_eq_true rfl, rfl, fun w h => List.mem_filter.mpr ⟨inX8 w h, (by decide +kernel : ∀ w ∈ wsX80, goodWord w = true) w h⟩, tyX8_ok, nmX8⟩
theorem cl_X9 : en_Cl 9 RX9 TX9 5 := ⟨Nat.le_of_ble_eq_true rfl, rfl, fun w h => List.mem_filter.mpr ⟨inX9 w h, (by decide +kernel : ∀ w ∈ wsX90, goodWord w = true) w h⟩, tyX9_ok, nmX9⟩
theorem cl_X10 : en_Cl 10 RX10 TX10 19 := ⟨Nat.le_of_ble_eq_true rfl, rfl, fun w h => List.mem_filter.mpr ⟨inX10 w h, (by decide +kernel : ∀ w ∈ wsX100, goodWord w = true) w h⟩, tyX10_ok, nmX10⟩
theorem cl_X11 : en_Cl 11 RX11 TX11 34 := ⟨Nat.le_of_ble_eq_true rfl, rfl, fun w h => List.mem_filter.mpr ⟨inX11 w h, (by decide +kernel : ∀ w ∈ wsX110, goodWord w = true) w h⟩, tyX11_ok, nmX11⟩
def Y_J9_min_7cf53 : en_Y := (yJ9_min_7cf53, cJ9_min_7cf53, 2, (some .int), [])
def Y_X6_add : en_Y := (yX6_add, cX6_add, 3, none, [])
def Y_X6_allIn : en_Y := (yX6_allIn, cX6_allIn, 5, (some .int), [])
def Y_X6_haul : en_Y := (yX6_haul, cX6_haul, 8, none, [])
def Y_X6_heapAt : en_Y := (yX6_heapAt, cX6_heapAt, 3, (some .int), [])
def Y_X6_horns : en_Y := (yX6_horns, cX6_horns, 3, (some .int), [])
def Y_X6_inCell : en_Y := (yX6_inCell, cX6_inCell, 7, (some .int), [])
def Y_X6_isHorn : en_Y := (yX6_isHorn, cX6_isHorn, 3, (some .boolean), [])
def Y_X6_known : en_Y := (yX6_known, cX6_known, 6, (some .int), [])
def Y_X6_meanOf : en_Y := (yX6_meanOf, cX6_meanOf, 7, (some .int), [])
def Y_X6_pairs : en_Y := (yX6_pairs, cX6_pairs, 7, (some .int), [])
def Y_X6_partIn : en_Y := (yX6_partIn, cX6_partIn, 9, (some .int), [])
def Y_X6_richest : en_Y := (yX6_richest, cX6_richest, 8, (some .int), [])
def Y_X6_sampled : en_Y := (yX6_sampled, cX6_sampled, 4, (some .int), [])
def Y_X6_share : en_Y := (yX6_share, cX6_share, 6, (some .int), [])
def Y_X6_soundOf : en_Y := (yX6_soundOf, cX6_soundOf, 3, (some .int), [])
def Y_X6_wordOf : en_Y := (yX6_wordOf, cX6_wordOf, 5, (some .long), [])
theorem tw_102 : Cond.initialized RX6 ∈ en_T := List.mem_filter.mpr ⟨List.mem_of_getElem? (i := 102) (by decide +kernel), by decide +kernel⟩
theorem tw_117 : Cond.initialized RJ9 ∈ en_T := List.mem_filter.mpr ⟨List.mem_of_getElem? (i := 117) (by decide +kernel), by decide +kernel⟩
theorem tw_199 : Cond.fieldLink RX6 9 "ShingleBank$Shore" "cells" "I" ∈ en_T := List.mem_filter.mpr ⟨List.mem_of_getElem? (i := 199) (by decide +kernel), by decide +kernel⟩
theorem tw_204 : Cond.fieldLink RX6 15 "ShingleBank$Shore" "sizes" "I" ∈ en_T := List.mem_filter.mpr ⟨List.mem_of_getElem? (i := 204) (by decide +kernel), by decide +kernel⟩
theorem tw_208 : Cond.fieldLink RX6 18 "ShingleBank$Shore" "heaps" "[I" ∈ en_T := List.mem_filter.mpr ⟨List.mem_of_getElem? (i := 208) (by decide +kernel), by decide +kernel⟩
theorem tw_222 : Cond.fieldLink RX6 31 "ShingleBank$Shore" "samples" "[I" ∈ en_T := List.mem_filter.mpr ⟨List.mem_of_getElem? (i := 222) (by decide +kernel), by decide +kernel⟩
theorem tw_225 : Cond.fieldLink RX6 34 "ShingleBank$Shore" "hand" "[I" ∈ en_T := List.mem_filter.mpr ⟨List.mem_of_getElem? (i := 225) (by decide +kernel), by decide +kernel⟩
theorem tw_227 : Cond.fieldLink RX6 37 "ShingleBank$Shore" "inHand" "I" ∈ en_T := List.mem_filter.mpr ⟨List.mem_of_getElem? (i := 227) (by decide +kernel), by decide +kernel⟩
theorem tw_229 : Cond.fieldLink RX6 40 "ShingleBank$Shore" "totals" "[I" ∈ en_T := List.mem_filter.mpr ⟨List.mem_of_getElem? (i := 229) (by decide +kernel), by decide +kernel⟩
theorem tw_232 : Cond.fieldLink RX6 43 "ShingleBank$Shore" "painted" "I" ∈ en_T := List.mem_filter.mpr ⟨List.mem_of_getElem? (i := 232) (by decide +kernel), by decide +kernel⟩
theorem tw_532 : Cond.instanceMethod yX6_isHorn ∈ en_T := List.mem_filter.mpr ⟨List.mem_of_getElem? (i := 532) (by decide +kernel), by decide +kernel⟩
theorem tw_533 : Cond.selects RX6 yX6_isHorn yX6_isHorn ∈ en_T := List.mem_filter.mpr ⟨List.mem_of_getElem? (i := 533) (by decide +kernel), by decide +kernel⟩
theorem tw_534 : Cond.code yX6_isHorn cX6_isHorn 3 (some .boolean) ∈ en_T := List.mem_filter.mpr ⟨List.mem_of_getElem? (i := 534) (by decide +kernel), by decide +kernel⟩
theorem tw_535 : Cond.methodLink RX6 76 yX6_allIn ∈ en_T := List.mem_filter.mpr ⟨List.mem_of_getElem? (i := 535) (by decide +kernel), by decide +kernel⟩
theorem tw_536 : Cond.instanceMethod yX6_allIn ∈ en_T := List.mem_filter.mpr ⟨List.mem_of_getElem? (i := 536) (by decide +kernel), by decide +kernel⟩
theorem tw_537 : Cond.selects RX6 yX6_allIn yX6_allIn ∈ en_T := List.mem_filter.mpr ⟨List.mem_of_getElem? (i := 537) (by decide +kernel), by decide +kernel⟩
theorem tw_538 : Cond.code yX6_allIn cX6_allIn 5 (some .int) ∈ en_T := List.mem_filter.mpr ⟨List.mem_of_getElem? (i := 538) (by decide +kernel), by decide +kernel⟩
theorem tw_548 : Cond.instanceMethod yX6_inCell ∈ en_T := List.mem_filter.mpr ⟨List.mem_of_getElem? (i := 548) (by decide +kernel), by decide +kernel⟩
theorem tw_549 : Cond.selects RX6 yX6_inCell yX6_inCell ∈ en_T := List.mem_filter.mpr ⟨List.mem_of_getElem? (i := 549) (by decide +kernel), by decide +kernel⟩
theorem tw_550 : Cond.code yX6_inCell cX6_inCell 7 (some .int) ∈ en_T := List.mem_filter.mpr ⟨List.mem_of_getElem? (i := 550) (by decide +kernel), by decide +kernel⟩
theorem tw_551 : Cond.methodLink RX6 72 yX6_heapAt ∈ en_T := List.mem_filter.mpr ⟨List.mem_of_getElem? (i := 551) (by decide +kernel), by decide +kernel⟩
theorem tw_552 : Cond.static yX6_heapAt ∈ en_T := List.mem_filter.mpr ⟨List.mem_of_getElem? (i := 552) (by decide +kernel), by decide +kernel⟩
theorem tw_553 : Cond.code yX6_heapAt cX6_heapAt 3 (some .int) ∈ en_T := List.mem_filter.mpr ⟨List.mem_of_getElem? (i := 553) (by decide +kernel), by decide +kernel⟩
theorem tw_578 : Cond.instanceMethod yX6_sampled ∈ en_T := List.mem_filter.mpr ⟨List.mem_of_getElem? (i := 578) (by decide +kernel), by decide +kernel⟩
theorem tw_579 : Cond.selects RX6 yX6_sampled yX6_sampled ∈ en_T := List.mem_filter.mpr ⟨List.mem_of_getElem? (i := 579) (by decide +kernel), by decide +kernel⟩
theorem tw_580 : Cond.code yX6_sampled cX6_sampled 4 (some .int) ∈ en_T := List.mem_filter.mpr ⟨List.mem_of_getElem? (i := 580) (by decide +kernel), by decide +kernel⟩
theorem tw_680 : Cond.static yJ9_min_7cf53 ∈ en_T := List.mem_filter.mpr ⟨List.mem_of_getElem? (i := 680) (by decide +kernel), by decide +kernel⟩
theorem tw_681 : Cond.code yJ9_min_7cf53 cJ9_min_7cf53 2 (some .int) ∈ en_T := List.mem_filter.mpr ⟨List.mem_of_getElem? (i := 681) (by decide +kernel), by decide +kernel⟩
theorem tw_825 : Cond.instanceMethod yX6_add ∈ en_T := List.mem_filter.mpr ⟨List.mem_of_getElem? (i := 825) (by decide +kernel), by decide +kernel⟩
theorem tw_826 : Cond.selects RX6 yX6_add yX6_add ∈ en_T := List.mem_filter.mpr ⟨List.mem_of_getElem? (i := 826) (by decide +kernel), by decide +kernel⟩
theorem tw_827 : Cond.code yX6_add cX6_add 3 none ∈ en_T := List.mem_filter.mpr ⟨List.mem_of_getElem? (i := 827) (by decide +kernel), by decide +kernel⟩
theorem tw_1153 : Cond.instanceMethod yX6_haul ∈ en_T := List.mem_filter.mpr ⟨List.mem_of_getElem? (i := 1153) (by decide +kernel), by decide +kernel⟩
theorem tw_1154 : Cond.selects RX6 yX6_haul yX6_haul ∈ en_T := List.mem_filter.mpr ⟨List.mem_of_getElem? (i := 1154) (by decide +kernel), by decide +kernel⟩
theorem tw_1155 : Cond.code yX6_haul cX6_haul 8 none ∈ en_T := List.mem_filter.mpr ⟨List.mem_of_getElem? (i := 1155) (by decide +kernel), by decide +kernel⟩
theorem tw_1156 : Cond.methodLink RX6 99 yJ9_min_7cf53 ∈ en_T := List.mem_filter.mpr ⟨List.mem_of_getElem? (i := 1156) (by decide +kernel), by decide +kernel⟩
theorem tw_1199 : Cond.instanceMethod yX6_meanOf ∈ en_T := List.mem_filter.mpr ⟨List.mem_of_getElem? (i := 1199) (by decide +kernel), by decide +kernel⟩
theorem tw_1200 : Cond.selects RX6 yX6_meanOf yX6_meanOf ∈ en_T := List.mem_filter.mpr ⟨List.mem_of_getElem? (i := 1200) (by decide +kernel), by decide +kernel⟩
theorem tw_1201 : Cond.code yX6_meanOf cX6_meanOf 7 (some .int) ∈ en_T := List.mem_filter.mpr ⟨List.mem_of_getElem? (i := 1201) (by decide +kernel), by decide +kernel⟩
theorem tw_1202 : Cond.methodLink RX6 80 yX6_inCell ∈ en_T := List.mem_filter.mpr ⟨List.mem_of_getElem? (i := 1202) (by decide +kernel), by decide +kernel⟩
theorem tw_1203 : Cond.constantLong RX6 83 (jL 1000) ∈ en_T := List.mem_filter.mpr ⟨List.mem_of_getElem? (i := 1203) (by decide +kernel), by decide +kernel⟩
theorem tw_1212 : Cond.instanceMethod yX6_pairs ∈ en_T := List.mem_filter.mpr ⟨List.mem_of_getElem? (i := 1212) (by decide +kernel), by decide +kernel⟩
theorem tw_1213 : Cond.selects RX6 yX6_pairs yX6_pairs ∈ en_T := List.mem_filter.mpr ⟨List.mem_of_getElem? (i := 1213) (by decide +kernel), by decide +kernel⟩
theorem tw_1214 : Cond.code yX6_pairs cX6_pairs 7 (some .int) ∈ en_T := List.mem_filter.mpr ⟨List.mem_of_getElem? (i := 1214) (by decide +kernel), by decide +kernel⟩
theorem tw_1215 : Cond.methodLink RX6 85 yX6_meanOf ∈ en_T := List.mem_filter.mpr ⟨List.mem_of_getElem? (i := 1215) (by decide +kernel), by decide +kernel⟩
theorem tw_1217 : Cond.instanceMethod yX6_horns ∈ en_T := List.mem_filter.mpr ⟨List.mem_of_getElem? (i := 1217) (by decide +kernel), by decide +kernel⟩
theorem tw_1218 : Cond.selects RX6 yX6_horns yX6_horns ∈ en_T := List.mem_filter.mpr ⟨List.mem_of_getElem? (i := 1218) (by decide +kernel), by decide +kernel⟩
theorem tw_1219 : Cond.code yX6_horns cX6_horns 3 (some .int) ∈ en_T := List.mem_filter.mpr ⟨List.mem_of_getElem? (i := 1219) (by decide +kernel), by decide +kernel⟩
theorem tw_1220 : Cond.methodLink RX6 88 yX6_isHorn ∈ en_T := List.mem_filter.mpr ⟨List.mem_of_getElem? (i := 1220) (by decide +kernel), by decide +kernel⟩
theorem tw_1222 : Cond.instanceMethod yX6_known ∈ en_T := List.mem_filter.mpr ⟨List.mem_of_getElem? (i := 1222) (by decide +kernel), by decide +kernel⟩
theorem tw_1223 : Cond.selects RX6 yX6_known yX6_known ∈ en_T := List.mem_filter.mpr ⟨List.mem_of_getElem? (i := 1223) (by decide +kernel), by decide +kernel⟩
theorem tw_1224 : Cond.code yX6_known cX6_known 6 (some .int) ∈ en_T := List.mem_filter.mpr ⟨List.mem_of_getElem? (i := 1224) (by decide +kernel), by decide +kernel⟩
theorem tw_1225 : Cond.methodLink RX6 92 yX6_soundOf ∈ en_T := List.mem_filter.mpr ⟨List.mem_of_getElem? (i := 1225) (by decide +kernel), by decide +kernel⟩
theorem tw_1226 : Cond.instanceMethod yX6_soundOf ∈ en_T := List.mem_filter.mpr ⟨List.mem_of_getElem? (i := 1226) (by decide +kernel), by decide +kernel⟩
theorem tw_1227 : Cond.selects RX6 yX6_soundOf yX6_soundOf ∈ en_T := List.mem_filter.mpr ⟨List.mem_of_getElem? (i := 1227) (by decide +kernel), by decide +kernel⟩
theorem tw_1228 : Cond.code yX6_soundOf cX6_soundOf 3 (some .int) ∈ en_T := List.mem_filter.mpr ⟨List.mem_of_getElem? (i := 1228) (by decide +kernel), by decide +kernel⟩
theorem tw_1252 : Cond.instanceMethod yX6_wordOf ∈ en_T := List.mem_filter.mpr ⟨List.mem_of_getElem? (i := 1252) (by decide +kernel), by decide +kernel⟩
theorem tw_1253 : Cond.selects RX6 yX6_wordOf yX6_wordOf ∈ en_T := List.mem_filter.mpr ⟨List.mem_of_getElem? (i := 1253) (by decide +kernel), by decide +kernel⟩
theorem tw_1254 : Cond.code yX6_wordOf cX6_wordOf 5 (some .long) ∈ en_T := List.mem_filter.mpr ⟨List.mem_of_getElem? (i := 1254) (by decide +kernel), by decide +kernel⟩
theorem tw_1255 : Cond.methodLink RX6 95 yX6_share ∈ en_T := List.mem_filter.mpr ⟨List.mem_of_getElem? (i := 1255) (by decide +kernel), by decide +kernel⟩
theorem tw_1256 : Cond.instanceMethod yX6_share ∈ en_T := List.mem_filter.mpr ⟨List.mem_of_getElem? (i := 1256) (by decide +kernel), by decide +kernel⟩
theorem tw_1257 : Cond.selects RX6 yX6_share yX6_share ∈ en_T := List.mem_filter.mpr ⟨List.mem_of_getElem? (i := 1257) (by decide +kernel), by decide +kernel⟩
theorem tw_1258 : Cond.code yX6_share cX6_share 6 (some .int) ∈ en_T := List.mem_filter.mpr ⟨List.mem_of_getElem? (i := 1258) (by decide +kernel), by decide +kernel⟩
theorem tw_1334 : Cond.instanceMethod yX6_richest ∈ en_T := List.mem_filter.mpr ⟨List.mem_of_getElem? (i := 1334) (by decide +kernel), by decide +kernel⟩
theorem tw_1335 : Cond.selects RX6 yX6_richest yX6_richest ∈ en_T := List.mem_filter.mpr ⟨List.mem_of_getElem? (i := 1335) (by decide +kernel), by decide +kernel⟩
theorem tw_1336 : Cond.code yX6_richest cX6_richest 8 (some .int) ∈ en_T := List.mem_filter.mpr ⟨List.mem_of_getElem? (i := 1336) (by decide +kernel), by decide +kernel⟩
theorem tw_1338 : Cond.instanceMethod yX6_partIn ∈ en_T := List.mem_filter.mpr ⟨List.mem_of_getElem? (i := 1338) (by decide +kernel), by decide +kernel⟩
theorem tw_1339 : Cond.selects RX6 yX6_partIn yX6_partIn ∈ en_T := List.mem_filter.mpr ⟨List.mem_of_getElem? (i := 1339) (by decide +kernel), by decide +kernel⟩
theorem tw_1340 : Cond.code yX6_partIn cX6_partIn 9 (some .int) ∈ en_T := List.mem_filter.mpr ⟨List.mem_of_getElem? (i := 1340) (by decide +kernel), by decide +kernel⟩
theorem cal_J9_min_7cf53 : en_Cal Y_J9_min_7cf53 2 := ⟨rfl, tw_117, tw_681, ⟨by decide, by decide, by decide +kernel⟩, Nat.le_of_ble_eq_true rfl⟩
theorem calS_J9_min_7cf53 : Cond.static Y_J9_min_7cf53.1 ∈ en_T := tw_680
theorem cal_X6_add : en_Cal Y_X6_add 2 := ⟨rfl, tw_102, tw_827, ⟨by decide, by decide, by decide +kernel⟩, Nat.le_of_ble_eq_true rfl⟩
theorem calV_X6_add : en_CalV Y_X6_add := ⟨tw_825, tw_826⟩
theorem cal_X6_allIn : en_Cal Y_X6_allIn 1 := ⟨rfl, tw_102, tw_538, ⟨by decide, by decide, by decide +kernel⟩, Nat.le_of_ble_eq_true rfl⟩
theorem calV_X6_allIn : en_CalV Y_X6_allIn := ⟨tw_536, tw_537⟩
theorem cal_X6_haul : en_Cal Y_X6_haul 3 := ⟨rfl, tw_102, tw_1155, ⟨by decide, by decide, by decide +kernel⟩, Nat.le_of_ble_eq_true rfl⟩
theorem calV_X6_haul : en_CalV Y_X6_haul := ⟨tw_1153, tw_1154⟩
theorem cal_X6_heapAt : en_Cal Y_X6_heapAt 3 := ⟨rfl, tw_102, tw_553, ⟨by decide, by decide, by decide +kernel⟩, Nat.le_of_ble_eq_true rfl⟩
theorem calS_X6_heapAt : Cond.static Y_X6_heapAt.1 ∈ en_T := tw_552
theorem cal_X6_horns : en_Cal Y_X6_horns 0 := ⟨rfl, tw_102, tw_1219, ⟨by decide, by decide, by decide +kernel⟩, Nat.le_of_ble_eq_true rfl⟩
theorem calV_X6_horns : en_CalV Y_X6_horns := ⟨tw_1217, tw_1218⟩
theorem cal_X6_inCell : en_Cal Y_X6_inCell 3 := ⟨rfl, tw_102, tw_550, ⟨by decide, by decide, by decide +kernel⟩, Nat.le_of_ble_eq_true rfl⟩
theorem calV_X6_inCell : en_CalV Y_X6_inCell := ⟨tw_548, tw_549⟩
theorem cal_X6_isHorn : en_Cal Y_X6_isHorn 1 := ⟨rfl, tw_102, tw_534, ⟨by decide, by decide, by decide +kernel⟩, Nat.le_of_ble_eq_true rfl⟩
theorem calV_X6_isHorn : en_CalV Y_X6_isHorn := ⟨tw_532, tw_533⟩
theorem cal_X6_known : en_Cal Y_X6_known 0 := ⟨rfl, tw_102, tw_1224, ⟨by decide, by decide, by decide +kernel⟩, Nat.le_of_ble_eq_true rfl⟩
theorem calV_X6_known : en_CalV Y_X6_known := ⟨tw_1222, tw_1223⟩
theorem cal_X6_meanOf : en_Cal Y_X6_meanOf 1 := ⟨rfl, tw_102, tw_1201, ⟨by decide, by decide, by decide +kernel⟩, Nat.le_of_ble_eq_true rfl⟩
theorem calV_X6_meanOf : en_CalV Y_X6_meanOf := ⟨tw_1199, tw_1200⟩
theorem cal_X6_pairs : en_Cal Y_X6_pairs 1 := ⟨rfl, tw_102, tw_1214, ⟨by decide, by decide, by decide +kernel⟩, Nat.le_of_ble_eq_true rfl⟩
theorem calV_X6_pairs : en_CalV Y_X6_pairs := ⟨tw_1212, tw_1213⟩
theorem cal_X6_partIn : en_Cal Y_X6_partIn 2 := ⟨rfl, tw_102, tw_1340, ⟨by decide, by decide, by decide +kernel⟩, Nat.le_of_ble_eq_true rfl⟩
theorem calV_X6_partIn : en_CalV Y_X6_partIn := ⟨tw_1338, tw_1339⟩
theorem cal_X6_richest : en_Cal Y_X6_richest 2 := ⟨rfl, tw_102, tw_1336, ⟨by decide, by decide, by decide +kernel⟩, Nat.le_of_ble_eq_true rfl⟩
theorem calV_X6_richest : en_CalV Y_X6_richest := ⟨tw_1334, tw_1335⟩
theorem cal_X6_sampled : en_Cal Y_X6_sampled 0 := ⟨rfl, tw_102, tw_580, ⟨by decide, by decide, by decide +kernel⟩, Nat.le_of_ble_eq_true rfl⟩
theorem calV_X6_sampled : en_CalV Y_X6_sampled := ⟨tw_578, tw_579⟩
theorem cal_X6_share : en_Cal Y_X6_share 2 := ⟨rfl, tw_102, tw_1258, ⟨by decide, by decide, by decide +kernel⟩, Nat.le_of_ble_eq_true rfl⟩
theorem calV_X6_share : en_CalV Y_X6_share := ⟨tw_1256, tw_1257⟩
theorem cal_X6_soundOf : en_Cal Y_X6_soundOf 1 := ⟨rfl, tw_102, tw_1228, ⟨by decide, by decide, by decide +kernel⟩, Nat.le_of_ble_eq_true rfl⟩
theorem calV_X6_soundOf : en_CalV Y_X6_soundOf := ⟨tw_1226, tw_1227⟩
theorem cal_X6_wordOf : en_Cal Y_X6_wordOf 1 := ⟨rfl, tw_102, tw_1254, ⟨by decide, by decide, by decide +kernel⟩, Nat.le_of_ble_eq_true rfl⟩
theorem calV_X6_wordOf : en_CalV Y_X6_wordOf := ⟨tw_1252, tw_1253⟩
