abbrev wN : en_Wd := (134, false)
def kv (G : en_G) (Y : en_Y) (d : Nat) (w w' : en_Wd) (K : en_K) (pc : Nat) : en_Kont := fun ls st hi hl hr uc us => en_V G Y d w w' K pc ls st hi hl hr uc us
theorem sn_kv {G : en_G} {Y : en_Y} {d : Nat} {w w' : en_Wd} {K : en_K} {pc : Nat} : en_S G Y d w w' K (kv G Y d w w' K pc) pc := fun _ _ _ _ _ _ _ h => h
theorem en_sw_to {ks : List en_Kont} {offs : Array Int} {pc : Nat} {tg : Nat → Nat} (h : ∀ j, j < ks.length → ∃ off, offs[j]? = some off ∧ (pc : Int) + off = (tg j : Int)) : ∀ j : Nat, j < ks.length → ∃ off, offs[j]? = some off ∧ (pc : Int) + off = (tg j : Int) := h
theorem en_sw_ks {G : en_G} {Y : en_Y} {d : Nat} {w w' : en_Wd} {K : en_K} (ts : List Nat) {ks : List en_Kont} (hk : ks = ts.map (fun t => kv G Y d w w' K t)) : ∀ (j : Nat) (k : en_Kont), ks[j]? = some k → en_S G Y d w w' K k (ts.getD j 0) := by
  intro j k h
  subst hk
  rw [List.getElem?_map] at h
  cases e : ts[j]? with
  | none => rw [e] at h; cases h
  | some t =>
    rw [e] at h
    cases h
    rw [List.getD_eq_getElem?_getD, e]
    exact sn_kv
theorem cl_X0 : en_Cl 0 RX0 TX0 4 := ⟨Nat.le_of_ble_eq_true rfl, rfl, fun w h => List.mem_filter.mpr ⟨inX0 w h, (by decide +kernel : ∀ w ∈ wsX00, goodWord w = true) w h⟩, tyX0_ok, nmX0⟩
theorem cl_X1 : en_Cl 1 RX1 TX1 4 := ⟨Nat.le_of_ble_eq_true rfl, rfl, fun w h => List.mem_filter.mpr ⟨inX1 w h, (by decide +kernel : ∀ w ∈ wsX10, goodWord w = true) w h⟩, tyX1_ok, nmX1⟩
theorem cl_X2 : en_Cl 2 RX2 TX2 4 := ⟨Nat.le_of_ble_eq_true rfl, rfl, fun w h => List.mem_filter.mpr ⟨inX2 w h, (by decide +kernel : ∀ w ∈ wsX20, goodWord w = true) w h⟩, tyX2_ok, nmX2⟩
theorem cl_X3 : en_Cl 3 RX3 TX3 9 := ⟨Nat.le_of_ble_eq_true rfl, rfl, fun w h => List.mem_filter.mpr ⟨inX3 w h, (by decide +kernel : ∀ w ∈ wsX30, goodWord w = true) w h⟩, tyX3_ok, nmX3⟩
theorem cl_X4 : en_Cl 4 RX4 TX4 6 := ⟨Nat.le_of_ble_eq_true rfl, rfl, fun w h => List.mem_filter.mpr ⟨inX4 w h, (by decide +kernel : ∀ w ∈ wsX40, goodWord w = true) w h⟩, tyX4_ok, nmX4⟩
theorem cl_X5 : en_Cl 5 RX5 TX5 3 := ⟨Nat.le_of_ble_eq_true rfl, rfl, fun w h => List.mem_filter.mpr ⟨inX5 w h, (by decide +kernel : ∀ w ∈ wsX50, goodWord w = true) w h⟩, tyX5_ok, nmX5⟩
theorem cl_X6 : en_Cl 6 RX6 TX6 12 := ⟨Nat.le_of_ble_eq_true rfl, rfl, fun w h => List.mem_filter.mpr ⟨inX6 w h, (by decide +kernel : ∀ w ∈ wsX60, goodWord w = true) w h⟩, tyX6_ok, nmX6⟩
theorem cl_X7 : en_Cl 7 RX7 TX7 9 := ⟨Nat.le_of_ble_eq_true rfl, rfl, fun w h => List.mem_filter.mpr ⟨inX7 w h, (by decide +kernel : ∀ w ∈ wsX70, goodWord w = true) w h⟩, tyX7_ok, nmX7⟩
theorem cl_X8 : en_Cl 8 RX8 TX8 5 := ⟨Nat.le_of_ble_eq_true rfl, rfl, fun w h => List.mem_filter.mpr ⟨inX8 w h, (by decide +kernel : ∀ w ∈ wsX80, goodWord w = true) w h⟩, tyX8_ok, nmX8⟩
theorem cl_X9 : en_Cl 9 RX9 TX9 5 := ⟨Nat.le_of_ble_eq_true rfl, rfl, fun w h => List.mem_filter.mpr ⟨inX9 w h, (by decide +kernel : ∀ w ∈ wsX90, goodWord w = true) w h⟩, tyX9_ok, nmX9⟩
theorem cl_X10 : en_Cl 10 RX10 TX10 19 := ⟨Nat.le_of_ble_eq_true rfl, rfl, fun w h => List.mem_filter.mpr ⟨inX10 w h, (by decide +kernel : ∀ w ∈ wsX100, goodWord w = true) w h⟩, tyX10_ok, nmX10⟩
theorem cl_X11 : en_Cl 11 RX11 TX11 34 := ⟨Nat.le_of_ble_eq_true rfl, rfl, fun w h => List.mem_filter.mpr ⟨inX11 w h, (by decide +kernel : ∀ w ∈ wsX110, goodWord w = true) w h⟩, tyX11_ok, nmX11⟩
def Y_J0_charAt_5068e : en_Y := (yJ0_charAt_5068e, cJ0_charAt_5068e, 2, (some .char), [])
def Y_J0_checkIndex_df160 : en_Y := (yJ0_checkIndex_df160, cJ0_checkIndex_df160, 2, none, [])
def Y_J0_coder_7d493 : en_Y := (yJ0_coder_7d493, cJ0_coder_7d493, 1, (some .byte), [])
def Y_J0_isLatin1_aae02 : en_Y := (yJ0_isLatin1_aae02, cJ0_isLatin1_aae02, 1, (some .boolean), [])
def Y_J0_length_8abf5 : en_Y := (yJ0_length_8abf5, cJ0_length_8abf5, 1, (some .int), [])
def Y_J1_charAt_3b067 : en_Y := (yJ1_charAt_3b067, cJ1_charAt_3b067, 2, (some .char), [])
def Y_J3_checkIndex_8e157 : en_Y := (yJ3_checkIndex_8e157, cJ3_checkIndex_8e157, 3, (some .int), [])
def Y_J6_bitCount_0f7a4 : en_Y := (yJ6_bitCount_0f7a4, cJ6_bitCount_0f7a4, 1, (some .int), [])
def Y_J7_fill_53178 : en_Y := (yJ7_fill_53178, cJ7_fill_53178, 4, none, [])
def Y_J9_abs_0f7a4 : en_Y := (yJ9_abs_0f7a4, cJ9_abs_0f7a4, 1, (some .int), [])
def Y_J9_min_7cf53 : en_Y := (yJ9_min_7cf53, cJ9_min_7cf53, 2, (some .int), [])
def Y_L_beach : en_Y := (yL_beach, cL_beach, 4, (some .int), [(0, 9, 12, 13)])
def Y_L_brought : en_Y := (yL_brought, cL_brought, 7, (some .int), [(0, 14, 17, 42), (0, 14, 21, 13), (0, 14, 25, 47)])
def Y_L_cell : en_Y := (yL_cell, cL_cell, 5, (some .int), [(0, 10, 13, 28), (0, 10, 17, 13)])
def Y_L_cost : en_Y := (yL_cost, cL_cost, 8, (some .int), [(0, 16, 19, 28), (0, 16, 23, 42), (0, 16, 27, 13), (0, 16, 31, 47)])
def Y_L_found : en_Y := (yL_found, cL_found, 5, (some .int), [(0, 10, 13, 13)])
def Y_L_high : en_Y := (yL_high, cL_high, 5, (some .int), [(0, 10, 13, 42), (0, 10, 17, 47)])
def Y_L_last : en_Y := (yL_last, cL_last, 7, (some .int), [(0, 14, 17, 28), (0, 14, 21, 42), (0, 14, 25, 13), (0, 14, 29, 47)])
def Y_L_law : en_Y := (yL_law, cL_law, 4, (some .int), [(0, 9, 12, 13)])
def Y_L_left : en_Y := (yL_left, cL_left, 7, (some .int), [(0, 14, 17, 28), (0, 14, 21, 42), (0, 14, 25, 13), (0, 14, 29, 47)])
def Y_L_like : en_Y := (yL_like, cL_like, 5, (some .int), [(0, 10, 13, 28)])
def Y_L_look : en_Y := (yL_look, cL_look, 6, (some .int), [(0, 12, 15, 13)])
def Y_L_lots : en_Y := (yL_lots, cL_lots, 7, (some .int), [(0, 14, 17, 42), (0, 14, 21, 13), (0, 14, 25, 47)])
def Y_L_mean : en_Y := (yL_mean, cL_mean, 4, (some .int), [(0, 9, 12, 28)])
def Y_L_miles : en_Y := (yL_miles, cL_miles, 4, (some .int), [(0, 9, 12, 13)])
def Y_L_odds : en_Y := (yL_odds, cL_odds, 4, (some .int), [(0, 9, 12, 28)])
def Y_L_one : en_Y := (yL_one, cL_one, 4, (some .int), [(0, 9, 12, 13)])
def Y_L_order : en_Y := (yL_order, cL_order, 4, (some .int), [(0, 9, 12, 13)])
def Y_L_put : en_Y := (yL_put, cL_put, 7, (some .int), [(0, 14, 17, 28), (0, 14, 21, 13)])
def Y_L_raised : en_Y := (yL_raised, cL_raised, 8, (some .int), [(0, 16, 19, 42), (0, 16, 23, 13), (0, 16, 27, 47)])
def Y_L_run : en_Y := (yL_run, cL_run, 5, (some .int), [(0, 10, 13, 42), (0, 10, 17, 47)])
def Y_L_sample : en_Y := (yL_sample, cL_sample, 6, (some .int), [(0, 12, 15, 28), (0, 12, 19, 13)])
def Y_L_says : en_Y := (yL_says, cL_says, 11, (some .int), [(0, 22, 25, 28), (0, 22, 29, 42), (0, 22, 33, 13)])
def Y_L_seen : en_Y := (yL_seen, cL_seen, 5, (some .int), [(0, 10, 13, 13)])
def Y_L_sound : en_Y := (yL_sound, cL_sound, 4, (some .int), [(0, 9, 12, 28)])
def Y_L_stones : en_Y := (yL_stones, cL_stones, 6, (some .int), [(0, 12, 15, 28), (0, 12, 19, 13)])
def Y_L_sums : en_Y := (yL_sums, cL_sums, 4, (some .int), [(0, 9, 12, 13)])
def Y_L_take : en_Y := (yL_take, cL_take, 5, (some .int), [(0, 10, 13, 13)])
def Y_L_told : en_Y := (yL_told, cL_told, 4, (some .int), [(0, 9, 12, 13)])
def Y_L_walls : en_Y := (yL_walls, cL_walls, 9, (some .int), [(0, 18, 21, 28), (0, 18, 25, 42), (0, 18, 29, 13), (0, 18, 33, 47)])
def Y_L_wave : en_Y := (yL_wave, cL_wave, 7, (some .int), [(0, 14, 17, 42), (0, 14, 21, 13), (0, 14, 25, 47)])
def Y_L_where : en_Y := (yL_where, cL_where, 4, (some .int), [(0, 9, 12, 13)])
def Y_L_which : en_Y := (yL_which, cL_which, 5, (some .int), [(0, 10, 13, 42), (0, 10, 17, 13), (0, 10, 21, 47)])
def Y_L_word : en_Y := (yL_word, cL_word, 4, (some .int), [(0, 8, 11, 28)])
def Y_L_year : en_Y := (yL_year, cL_year, 4, (some .int), [(0, 9, 12, 13)])
def Y_X0_beginOther : en_Y := (yX0_beginOther, cX0_beginOther, 2, none, [])
def Y_X0_needHeap : en_Y := (yX0_needHeap, cX0_needHeap, 5, (some .int), [])
def Y_X0_readBeach : en_Y := (yX0_readBeach, cX0_readBeach, 5, (some .int), [])
def Y_X0_readClause : en_Y := (yX0_readClause, cX0_readClause, 4, none, [])
def Y_X0_readExtent : en_Y := (yX0_readExtent, cX0_readExtent, 4, none, [])
def Y_X0_readHeap : en_Y := (yX0_readHeap, cX0_readHeap, 4, none, [])
def Y_X0_readLorry : en_Y := (yX0_readLorry, cX0_readLorry, 6, none, [])
def Y_X0_readSpring : en_Y := (yX0_readSpring, cX0_readSpring, 4, none, [])
def Y_X0_readWave : en_Y := (yX0_readWave, cX0_readWave, 7, none, [])
def Y_X0_readYear : en_Y := (yX0_readYear, cX0_readYear, 5, (some .int), [])
def Y_X10_beach : en_Y := (yX10_beach, cX10_beach, 4, (some .int), [])
def Y_X10_brought : en_Y := (yX10_brought, cX10_brought, 5, (some .int), [])
def Y_X10_cell : en_Y := (yX10_cell, cX10_cell, 3, (some .int), [])
def Y_X10_cost : en_Y := (yX10_cost, cX10_cost, 7, (some .int), [])
def Y_X10_count : en_Y := (yX10_count, cX10_count, 2, (some .int), [])
def Y_X10_drop : en_Y := (yX10_drop, cX10_drop, 2, (some .int), [])
def Y_X10_fault : en_Y := (yX10_fault, cX10_fault, 1, (some .int), [])
def Y_X10_feed : en_Y := (yX10_feed, cX10_feed, 6, (some .int), [])
def Y_X10_found : en_Y := (yX10_found, cX10_found, 5, (some .int), [])
def Y_X10_high : en_Y := (yX10_high, cX10_high, 3, (some .int), [])
def Y_X10_horn : en_Y := (yX10_horn, cX10_horn, 4, (some .int), [])
def Y_X10_image : en_Y := (yX10_image, cX10_image, 1, (some .int), [])
def Y_X10_isCell : en_Y := (yX10_isCell, cX10_isCell, 2, (some .boolean), [])
def Y_X10_isSize : en_Y := (yX10_isSize, cX10_isSize, 2, (some .boolean), [])
def Y_X10_isStuff : en_Y := (yX10_isStuff, cX10_isStuff, 1, (some .boolean), [])
def Y_X10_isWave : en_Y := (yX10_isWave, cX10_isWave, 3, (some .boolean), [])
def Y_X10_isWithin : en_Y := (yX10_isWithin, cX10_isWithin, 3, (some .boolean), [])
def Y_X10_last : en_Y := (yX10_last, cX10_last, 5, (some .int), [])
def Y_X10_law : en_Y := (yX10_law, cX10_law, 3, (some .int), [])
def Y_X10_left : en_Y := (yX10_left, cX10_left, 5, (some .int), [])
def Y_X10_like : en_Y := (yX10_like, cX10_like, 5, (some .int), [])
def Y_X10_look : en_Y := (yX10_look, cX10_look, 5, (some .int), [])
def Y_X10_lost : en_Y := (yX10_lost, cX10_lost, 3, (some .int), [])
def Y_X10_lots : en_Y := (yX10_lots, cX10_lots, 5, (some .int), [])
def Y_X10_mean : en_Y := (yX10_mean, cX10_mean, 2, (some .int), [])
def Y_X10_miles : en_Y := (yX10_miles, cX10_miles, 8, (some .int), [])
def Y_X10_needHours : en_Y := (yX10_needHours, cX10_needHours, 1, none, [])
def Y_X10_needLaw : en_Y := (yX10_needLaw, cX10_needLaw, 2, none, [])
def Y_X10_needPlace : en_Y := (yX10_needPlace, cX10_needPlace, 2, none, [])
def Y_X10_needRight : en_Y := (yX10_needRight, cX10_needRight, 2, none, [])
def Y_X10_needYear : en_Y := (yX10_needYear, cX10_needYear, 2, none, [])
def Y_X10_odds : en_Y := (yX10_odds, cX10_odds, 2, (some .int), [])
def Y_X10_one : en_Y := (yX10_one, cX10_one, 7, (some .int), [])
def Y_X10_order : en_Y := (yX10_order, cX10_order, 2, (some .int), [])
def Y_X10_put : en_Y := (yX10_put, cX10_put, 6, (some .int), [])
def Y_X10_raised : en_Y := (yX10_raised, cX10_raised, 6, (some .int), [])
def Y_X10_restore : en_Y := (yX10_restore, cX10_restore, 1, (some .int), [])
def Y_X10_run : en_Y := (yX10_run, cX10_run, 3, (some .int), [])
def Y_X10_sample : en_Y := (yX10_sample, cX10_sample, 6, (some .int), [])
def Y_X10_says : en_Y := (yX10_says, cX10_says, 9, (some .int), [])
def Y_X10_seen : en_Y := (yX10_seen, cX10_seen, 3, (some .int), [])
def Y_X10_sound : en_Y := (yX10_sound, cX10_sound, 2, (some .int), [])
def Y_X10_status : en_Y := (yX10_status, cX10_status, 2, (some .int), [])
def Y_X10_stones : en_Y := (yX10_stones, cX10_stones, 6, (some .int), [])
def Y_X10_sums : en_Y := (yX10_sums, cX10_sums, 2, (some .int), [])
def Y_X10_take : en_Y := (yX10_take, cX10_take, 3, (some .int), [])
def Y_X10_tapeNumber : en_Y := (yX10_tapeNumber, cX10_tapeNumber, 3, none, [])
def Y_X10_told : en_Y := (yX10_told, cX10_told, 2, (some .int), [])
def Y_X10_walls : en_Y := (yX10_walls, cX10_walls, 7, (some .int), [])
def Y_X10_wave : en_Y := (yX10_wave, cX10_wave, 5, (some .int), [])
def Y_X10_where : en_Y := (yX10_where, cX10_where, 2, (some .int), [])
def Y_X10_which : en_Y := (yX10_which, cX10_which, 3, (some .int), [])
def Y_X10_word : en_Y := (yX10_word, cX10_word, 2, (some .long), [])
def Y_X10_year : en_Y := (yX10_year, cX10_year, 3, (some .int), [])
def Y_X11_all : en_Y := (yX11_all, cX11_all, 5, (some .int), [])
def Y_X11_allOf : en_Y := (yX11_allOf, cX11_allOf, 1, none, [])
def Y_X11_allWords : en_Y := (yX11_allWords, cX11_allWords, 4, (some .long), [])
def Y_X11_anyOf : en_Y := (yX11_anyOf, cX11_anyOf, 1, none, [])
def Y_X11_beach : en_Y := (yX11_beach, cX11_beach, 7, (some .int), [])
def Y_X11_begins : en_Y := (yX11_begins, cX11_begins, 2, none, [])
def Y_X11_brings : en_Y := (yX11_brings, cX11_brings, 9, none, [])
def Y_X11_brought : en_Y := (yX11_brought, cX11_brought, 10, (some .int), [])
def Y_X11_byAll : en_Y := (yX11_byAll, cX11_byAll, 9, (some .int), [])
def Y_X11_cell : en_Y := (yX11_cell, cX11_cell, 3, (some .int), [])
def Y_X11_comesBack : en_Y := (yX11_comesBack, cX11_comesBack, 2, none, [])
def Y_X11_cost : en_Y := (yX11_cost, cX11_cost, 9, (some .int), [])
def Y_X11_count : en_Y := (yX11_count, cX11_count, 4, (some .int), [])
def Y_X11_drop : en_Y := (yX11_drop, cX11_drop, 2, (some .int), [])
def Y_X11_emit : en_Y := (yX11_emit, cX11_emit, 3, none, [])
def Y_X11_farNear : en_Y := (yX11_farNear, cX11_farNear, 9, (some .int), [])
def Y_X11_farOf : en_Y := (yX11_farOf, cX11_farOf, 7, (some .long), [])
def Y_X11_fault : en_Y := (yX11_fault, cX11_fault, 1, (some .int), [])
def Y_X11_feed : en_Y := (yX11_feed, cX11_feed, 8, (some .int), [])
def Y_X11_fine : en_Y := (yX11_fine, cX11_fine, 1, (some .boolean), [])
def Y_X11_found : en_Y := (yX11_found, cX11_found, 5, (some .int), [])
def Y_X11_goes : en_Y := (yX11_goes, cX11_goes, 10, none, [])
def Y_X11_held : en_Y := (yX11_held, cX11_held, 1, (some .int), [])
def Y_X11_here : en_Y := (yX11_here, cX11_here, 1, (some .int), [])
def Y_X11_high : en_Y := (yX11_high, cX11_high, 7, (some .int), [])
def Y_X11_horn : en_Y := (yX11_horn, cX11_horn, 4, (some .int), [])
def Y_X11_hour : en_Y := (yX11_hour, cX11_hour, 8, (some .int), [])
def Y_X11_image : en_Y := (yX11_image, cX11_image, 2, (some .int), [])
def Y_X11_isCell : en_Y := (yX11_isCell, cX11_isCell, 3, (some .boolean), [])
def Y_X11_isClause : en_Y := (yX11_isClause, cX11_isClause, 1, (some .boolean), [])
def Y_X11_isDigit : en_Y := (yX11_isDigit, cX11_isDigit, 1, (some .boolean), [])
def Y_X11_isHorn : en_Y := (yX11_isHorn, cX11_isHorn, 3, (some .boolean), [])
def Y_X11_isKnown : en_Y := (yX11_isKnown, cX11_isKnown, 3, (some .boolean), [])
def Y_X11_isLaw : en_Y := (yX11_isLaw, cX11_isLaw, 3, (some .boolean), [])
def Y_X11_isMore : en_Y := (yX11_isMore, cX11_isMore, 1, (some .boolean), [])
def Y_X11_isNow : en_Y := (yX11_isNow, cX11_isNow, 2, (some .boolean), [])
def Y_X11_isSize : en_Y := (yX11_isSize, cX11_isSize, 2, (some .boolean), [])
def Y_X11_isSmall : en_Y := (yX11_isSmall, cX11_isSmall, 1, (some .boolean), [])
def Y_X11_isWave : en_Y := (yX11_isWave, cX11_isWave, 3, (some .boolean), [])
def Y_X11_isYear : en_Y := (yX11_isYear, cX11_isYear, 3, (some .boolean), [])
def Y_X11_keeps : en_Y := (yX11_keeps, cX11_keeps, 2, none, [])
def Y_X11_keyword : en_Y := (yX11_keyword, cX11_keyword, 2, none, [])
def Y_X11_last : en_Y := (yX11_last, cX11_last, 7, (some .int), [])
def Y_X11_law : en_Y := (yX11_law, cX11_law, 4, (some .int), [])
def Y_X11_left : en_Y := (yX11_left, cX11_left, 6, (some .int), [])
def Y_X11_like : en_Y := (yX11_like, cX11_like, 7, (some .int), [])
def Y_X11_look : en_Y := (yX11_look, cX11_look, 12, (some .int), [])
def Y_X11_lost : en_Y := (yX11_lost, cX11_lost, 4, (some .int), [])
def Y_X11_lots : en_Y := (yX11_lots, cX11_lots, 8, (some .int), [])
def Y_X11_may : en_Y := (yX11_may, cX11_may, 4, (some .boolean), [])
def Y_X11_mean : en_Y := (yX11_mean, cX11_mean, 2, (some .int), [])
def Y_X11_meanOf : en_Y := (yX11_meanOf, cX11_meanOf, 6, (some .int), [])
def Y_X11_miles : en_Y := (yX11_miles, cX11_miles, 7, (some .int), [])
def Y_X11_moves : en_Y := (yX11_moves, cX11_moves, 12, (some .int), [])
def Y_X11_name : en_Y := (yX11_name, cX11_name, 6, none, [])
def Y_X11_nameOf : en_Y := (yX11_nameOf, cX11_nameOf, 1, (some .int), [])
def Y_X11_nameSize : en_Y := (yX11_nameSize, cX11_nameSize, 9, none, [])
def Y_X11_odds : en_Y := (yX11_odds, cX11_odds, 2, (some .int), [])
def Y_X11_of : en_Y := (yX11_of, cX11_of, 3, (some .int), [])
def Y_X11_one : en_Y := (yX11_one, cX11_one, 7, (some .int), [])
def Y_X11_oneOf : en_Y := (yX11_oneOf, cX11_oneOf, 2, none, [])
def Y_X11_ones : en_Y := (yX11_ones, cX11_ones, 3, (some .int), [])
def Y_X11_opensOne : en_Y := (yX11_opensOne, cX11_opensOne, 2, none, [])
def Y_X11_order : en_Y := (yX11_order, cX11_order, 4, (some .int), [])
def Y_X11_overs : en_Y := (yX11_overs, cX11_overs, 8, none, [])
def Y_X11_oversNow : en_Y := (yX11_oversNow, cX11_oversNow, 3, (some .int), [])
def Y_X11_pairs : en_Y := (yX11_pairs, cX11_pairs, 5, (some .int), [])
def Y_X11_pass : en_Y := (yX11_pass, cX11_pass, 1, none, [])
def Y_X11_product : en_Y := (yX11_product, cX11_product, 2, none, [])
def Y_X11_put : en_Y := (yX11_put, cX11_put, 5, (some .int), [])
def Y_X11_raised : en_Y := (yX11_raised, cX11_raised, 11, (some .int), [])
def Y_X11_readCell : en_Y := (yX11_readCell, cX11_readCell, 1, (some .int), [])
def Y_X11_readClause : en_Y := (yX11_readClause, cX11_readClause, 4, none, [])
def Y_X11_readHeap : en_Y := (yX11_readHeap, cX11_readHeap, 5, none, [])
def Y_X11_readLorry : en_Y := (yX11_readLorry, cX11_readLorry, 7, none, [])
def Y_X11_readNumber : en_Y := (yX11_readNumber, cX11_readNumber, 6, (some .int), [])
def Y_X11_readSize : en_Y := (yX11_readSize, cX11_readSize, 1, (some .int), [])
def Y_X11_readSpring : en_Y := (yX11_readSpring, cX11_readSpring, 6, none, [])
def Y_X11_restore : en_Y := (yX11_restore, cX11_restore, 2, (some .int), [])
def Y_X11_result : en_Y := (yX11_result, cX11_result, 2, (some .int), [])
def Y_X11_run : en_Y := (yX11_run, cX11_run, 3, (some .int), [])
def Y_X11_runs : en_Y := (yX11_runs, cX11_runs, 6, (some .int), [])
def Y_X11_sample : en_Y := (yX11_sample, cX11_sample, 6, (some .int), [])
def Y_X11_says : en_Y := (yX11_says, cX11_says, 9, (some .int), [])
def Y_X11_seen : en_Y := (yX11_seen, cX11_seen, 3, (some .int), [])
def Y_X11_shareOf : en_Y := (yX11_shareOf, cX11_shareOf, 4, (some .int), [])
def Y_X11_sign : en_Y := (yX11_sign, cX11_sign, 2, none, [])
def Y_X11_sound : en_Y := (yX11_sound, cX11_sound, 2, (some .int), [])
def Y_X11_soundOf : en_Y := (yX11_soundOf, cX11_soundOf, 2, (some .int), [])
def Y_X11_status : en_Y := (yX11_status, cX11_status, 2, (some .int), [])
def Y_X11_stone : en_Y := (yX11_stone, cX11_stone, 3, (some .int), [])
def Y_X11_stones : en_Y := (yX11_stones, cX11_stones, 8, (some .int), [])
def Y_X11_sums : en_Y := (yX11_sums, cX11_sums, 2, (some .int), [])
def Y_X11_take : en_Y := (yX11_take, cX11_take, 3, (some .int), [])
def Y_X11_thrown : en_Y := (yX11_thrown, cX11_thrown, 1, (some .int), [])
def Y_X11_told : en_Y := (yX11_told, cX11_told, 2, (some .int), [])
def Y_X11_unit : en_Y := (yX11_unit, cX11_unit, 3, none, [])
def Y_X11_walls : en_Y := (yX11_walls, cX11_walls, 11, (some .int), [])
def Y_X11_wave : en_Y := (yX11_wave, cX11_wave, 5, (some .int), [])
def Y_X11_where : en_Y := (yX11_where, cX11_where, 12, (some .int), [])
def Y_X11_which : en_Y := (yX11_which, cX11_which, 9, (some .int), [])
def Y_X11_whole : en_Y := (yX11_whole, cX11_whole, 2, none, [])
def Y_X11_wholeOf : en_Y := (yX11_wholeOf, cX11_wholeOf, 4, (some .int), [])
def Y_X11_within : en_Y := (yX11_within, cX11_within, 3, (some .boolean), [])
def Y_X11_word : en_Y := (yX11_word, cX11_word, 4, (some .int), [])
def Y_X11_wordOf : en_Y := (yX11_wordOf, cX11_wordOf, 6, (some .long), [])
def Y_X11_word_ : en_Y := (yX11_word_, cX11_word_, 2, (some .long), [])
def Y_X11_worked : en_Y := (yX11_worked, cX11_worked, 8, (some .int), [])
def Y_X11_wrong : en_Y := (yX11_wrong, cX11_wrong, 3, none, [])
def Y_X11_year : en_Y := (yX11_year, cX11_year, 4, (some .int), [])
def Y_X1_aim : en_Y := (yX1_aim, cX1_aim, 2, none, [])
def Y_X1_clear : en_Y := (yX1_clear, cX1_clear, 1, none, [])
def Y_X1_emit : en_Y := (yX1_emit, cX1_emit, 2, none, [])
def Y_X1_emitJump : en_Y := (yX1_emitJump, cX1_emitJump, 2, (some .int), [])
def Y_X1_joined : en_Y := (yX1_joined, cX1_joined, 3, (some .int), [])
def Y_X1_value : en_Y := (yX1_value, cX1_value, 10, (some .int), [])
def Y_X2_comparisonTold : en_Y := (yX2_comparisonTold, cX2_comparisonTold, 1, (some .int), [])
def Y_X2_enters : en_Y := (yX2_enters, cX2_enters, 1, (some .boolean), [])
def Y_X2_nameTold : en_Y := (yX2_nameTold, cX2_nameTold, 1, (some .int), [])
def Y_X2_readBoth : en_Y := (yX2_readBoth, cX2_readBoth, 2, none, [])
def Y_X2_readChoice : en_Y := (yX2_readChoice, cX2_readChoice, 3, none, [])
def Y_X2_readCondition : en_Y := (yX2_readCondition, cX2_readCondition, 2, none, [])
def Y_X2_readFactor : en_Y := (yX2_readFactor, cX2_readFactor, 2, none, [])
def Y_X2_readLaw : en_Y := (yX2_readLaw, cX2_readLaw, 5, (some .int), [])
def Y_X2_readRule : en_Y := (yX2_readRule, cX2_readRule, 2, none, [])
def Y_X2_readTerm : en_Y := (yX2_readTerm, cX2_readTerm, 3, none, [])
def Y_X2_readTest : en_Y := (yX2_readTest, cX2_readTest, 2, none, [])
def Y_X2_readValue : en_Y := (yX2_readValue, cX2_readValue, 3, none, [])
def Y_X2_ruleTold : en_Y := (yX2_ruleTold, cX2_ruleTold, 1, (some .int), [])
def Y_X3_addLorry : en_Y := (yX3_addLorry, cX3_addLorry, 6, none, [])
def Y_X3_addSpring : en_Y := (yX3_addSpring, cX3_addSpring, 3, none, [])
def Y_X3_clear : en_Y := (yX3_clear, cX3_clear, 1, none, [])
def Y_X4_aimFrom : en_Y := (yX4_aimFrom, cX4_aimFrom, 4, none, [])
def Y_X4_arrive : en_Y := (yX4_arrive, cX4_arrive, 5, none, [])
def Y_X4_ask : en_Y := (yX4_ask, cX4_ask, 9, (some .int), [])
def Y_X4_carryCell : en_Y := (yX4_carryCell, cX4_carryCell, 11, (some .int), [])
def Y_X4_carryHeap : en_Y := (yX4_carryHeap, cX4_carryHeap, 6, (some .int), [])
def Y_X4_drive : en_Y := (yX4_drive, cX4_drive, 5, none, [])
def Y_X4_flow : en_Y := (yX4_flow, cX4_flow, 4, none, [])
def Y_X4_follow : en_Y := (yX4_follow, cX4_follow, 2, none, [])
def Y_X4_goOver : en_Y := (yX4_goOver, cX4_goOver, 5, none, [])
def Y_X4_held : en_Y := (yX4_held, cX4_held, 1, (some .int), [])
def Y_X4_lowered : en_Y := (yX4_lowered, cX4_lowered, 1, (some .int), [])
def Y_X4_oversIn : en_Y := (yX4_oversIn, cX4_oversIn, 11, (some .int), [])
def Y_X4_reach : en_Y := (yX4_reach, cX4_reach, 4, (some .int), [])
def Y_X4_roll : en_Y := (yX4_roll, cX4_roll, 5, (some .int), [])
def Y_X4_rollLots : en_Y := (yX4_rollLots, cX4_rollLots, 9, (some .int), [])
def Y_X4_rollYear : en_Y := (yX4_rollYear, cX4_rollYear, 7, (some .int), [])
def Y_X4_setPlace : en_Y := (yX4_setPlace, cX4_setPlace, 3, none, [])
def Y_X4_setSize : en_Y := (yX4_setSize, cX4_setSize, 5, none, [])
def Y_X4_setWave : en_Y := (yX4_setWave, cX4_setWave, 4, none, [])
def Y_X4_setWaveOf : en_Y := (yX4_setWaveOf, cX4_setWaveOf, 3, none, [])
def Y_X5_begin : en_Y := (yX5_begin, cX5_begin, 2, none, [])
def Y_X5_farFrom : en_Y := (yX5_farFrom, cX5_farFrom, 5, (some .long), [])
def Y_X5_feelHand : en_Y := (yX5_feelHand, cX5_feelHand, 3, none, [])
def Y_X5_feelStone : en_Y := (yX5_feelStone, cX5_feelStone, 4, none, [])
def Y_X5_guess : en_Y := (yX5_guess, cX5_guess, 3, (some .int), [])
def Y_X5_howFar : en_Y := (yX5_howFar, cX5_howFar, 1, (some .int), [])
def Y_X5_keep : en_Y := (yX5_keep, cX5_keep, 4, none, [])
def Y_X5_near : en_Y := (yX5_near, cX5_near, 3, (some .int), [])
def Y_X5_oddsOf : en_Y := (yX5_oddsOf, cX5_oddsOf, 2, (some .int), [])
def Y_X6_add : en_Y := (yX6_add, cX6_add, 3, none, [])
def Y_X6_allIn : en_Y := (yX6_allIn, cX6_allIn, 5, (some .int), [])
def Y_X6_begin : en_Y := (yX6_begin, cX6_begin, 3, none, [])
def Y_X6_copy : en_Y := (yX6_copy, cX6_copy, 2, none, [])
def Y_X6_haul : en_Y := (yX6_haul, cX6_haul, 8, none, [])
def Y_X6_heapAt : en_Y := (yX6_heapAt, cX6_heapAt, 3, (some .int), [])
def Y_X6_horns : en_Y := (yX6_horns, cX6_horns, 3, (some .int), [])
def Y_X6_inCell : en_Y := (yX6_inCell, cX6_inCell, 7, (some .int), [])
def Y_X6_isHorn : en_Y := (yX6_isHorn, cX6_isHorn, 3, (some .boolean), [])
def Y_X6_known : en_Y := (yX6_known, cX6_known, 6, (some .int), [])
def Y_X6_meanOf : en_Y := (yX6_meanOf, cX6_meanOf, 7, (some .int), [])
def Y_X6_pairs : en_Y := (yX6_pairs, cX6_pairs, 7, (some .int), [])
def Y_X6_partIn : en_Y := (yX6_partIn, cX6_partIn, 9, (some .int), [])
def Y_X6_richest : en_Y := (yX6_richest, cX6_richest, 8, (some .int), [])
def Y_X6_sampled : en_Y := (yX6_sampled, cX6_sampled, 4, (some .int), [])
def Y_X6_share : en_Y := (yX6_share, cX6_share, 6, (some .int), [])
def Y_X6_soundOf : en_Y := (yX6_soundOf, cX6_soundOf, 3, (some .int), [])
def Y_X6_wordOf : en_Y := (yX6_wordOf, cX6_wordOf, 5, (some .long), [])
def Y_X7_fail : en_Y := (yX7_fail, cX7_fail, 2, none, [])
def Y_X7_hasMore : en_Y := (yX7_hasMore, cX7_hasMore, 1, (some .boolean), [])
def Y_X7_hasNumber : en_Y := (yX7_hasNumber, cX7_hasNumber, 1, (some .boolean), [])
def Y_X7_isDigit : en_Y := (yX7_isDigit, cX7_isDigit, 1, (some .boolean), [])
def Y_X7_isLetter : en_Y := (yX7_isLetter, cX7_isLetter, 1, (some .boolean), [])
def Y_X7_isNumber : en_Y := (yX7_isNumber, cX7_isNumber, 2, (some .boolean), [])
def Y_X7_isSign : en_Y := (yX7_isSign, cX7_isSign, 2, (some .boolean), [])
def Y_X7_isWord : en_Y := (yX7_isWord, cX7_isWord, 3, (some .boolean), [])
def Y_X7_needNumber : en_Y := (yX7_needNumber, cX7_needNumber, 4, (some .int), [])
def Y_X7_needSign : en_Y := (yX7_needSign, cX7_needSign, 2, none, [])
def Y_X7_needWord : en_Y := (yX7_needWord, cX7_needWord, 2, none, [])
def Y_X7_open : en_Y := (yX7_open, cX7_open, 3, none, [])
def Y_X7_step : en_Y := (yX7_step, cX7_step, 1, none, [])
def Y_X8_apartFrom : en_Y := (yX8_apartFrom, cX8_apartFrom, 6, (some .int), [])
def Y_X8_behind : en_Y := (yX8_behind, cX8_behind, 4, (some (.object "ShingleBank$Shore")), [])
def Y_X8_behindWall : en_Y := (yX8_behindWall, cX8_behindWall, 6, (some (.object "ShingleBank$Shore")), [])
def Y_X8_bring : en_Y := (yX8_bring, cX8_bring, 8, none, [])
def Y_X8_buildWalls : en_Y := (yX8_buildWalls, cX8_buildWalls, 4, none, [])
def Y_X8_fewerBy : en_Y := (yX8_fewerBy, cX8_fewerBy, 4, (some .int), [])
def Y_X8_leastDry : en_Y := (yX8_leastDry, cX8_leastDry, 7, (some .int), [])
def Y_X8_nearest : en_Y := (yX8_nearest, cX8_nearest, 7, none, [])
def Y_X8_raise : en_Y := (yX8_raise, cX8_raise, 9, none, [])
def Y_X8_wall : en_Y := (yX8_wall, cX8_wall, 9, none, [])
def Y_X8_yearsTillFewer : en_Y := (yX8_yearsTillFewer, cX8_yearsTillFewer, 7, (some .int), [])
def Y_X9_add : en_Y := (yX9_add, cX9_add, 5, none, [])
theorem tw_0 : Cond.selects RX10 yX10_tapeNumber yX10_tapeNumber ∈ en_T := List.mem_filter.mpr ⟨List.mem_of_getElem? (i := 0) (by decide +kernel), by decide +kernel⟩
theorem tw_1 : Cond.selects RX10 yX10_needRight yX10_needRight ∈ en_T := List.mem_filter.mpr ⟨List.mem_of_getElem? (i := 1) (by decide +kernel), by decide +kernel⟩
theorem tw_3 : Cond.selects RX0 yX0_readClause yX0_readClause ∈ en_T := List.mem_filter.mpr ⟨List.mem_of_getElem? (i := 3) (by decide +kernel), by decide +kernel⟩
theorem tw_4 : Cond.selects RX0 yX0_readExtent yX0_readExtent ∈ en_T := List.mem_filter.mpr ⟨List.mem_of_getElem? (i := 4) (by decide +kernel), by decide +kernel⟩
theorem tw_5 : Cond.selects RX0 yX0_readHeap yX0_readHeap ∈ en_T := List.mem_filter.mpr ⟨List.mem_of_getElem? (i := 5) (by decide +kernel), by decide +kernel⟩
theorem tw_6 : Cond.selects RX0 yX0_beginOther yX0_beginOther ∈ en_T := List.mem_filter.mpr ⟨List.mem_of_getElem? (i := 6) (by decide +kernel), by decide +kernel⟩
theorem tw_7 : Cond.selects RX0 yX0_needHeap yX0_needHeap ∈ en_T := List.mem_filter.mpr ⟨List.mem_of_getElem? (i := 7) (by decide +kernel), by decide +kernel⟩
theorem tw_8 : Cond.selects RX0 yX0_readSpring yX0_readSpring ∈ en_T := List.mem_filter.mpr ⟨List.mem_of_getElem? (i := 8) (by decide +kernel), by decide +kernel⟩
theorem tw_9 : Cond.selects RX0 yX0_readLorry yX0_readLorry ∈ en_T := List.mem_filter.mpr ⟨List.mem_of_getElem? (i := 9) (by decide +kernel), by decide +kernel⟩
theorem tw_10 : Cond.selects RX2 yX2_readRule yX2_readRule ∈ en_T := List.mem_filter.mpr ⟨List.mem_of_getElem? (i := 10) (by decide +kernel), by decide +kernel⟩
theorem tw_11 : Cond.selects RX2 yX2_ruleTold yX2_ruleTold ∈ en_T := List.mem_filter.mpr ⟨List.mem_of_getElem? (i := 11) (by decide +kernel), by decide +kernel⟩
theorem tw_12 : Cond.selects RX2 yX2_readValue yX2_readValue ∈ en_T := List.mem_filter.mpr ⟨List.mem_of_getElem? (i := 12) (by decide +kernel), by decide +kernel⟩
theorem tw_13 : Cond.selects RX2 yX2_readChoice yX2_readChoice ∈ en_T := List.mem_filter.mpr ⟨List.mem_of_getElem? (i := 13) (by decide +kernel), by decide +kernel⟩
theorem tw_14 : Cond.selects RX2 yX2_enters yX2_enters ∈ en_T := List.mem_filter.mpr ⟨List.mem_of_getElem? (i := 14) (by decide +kernel), by decide +kernel⟩
theorem tw_15 : Cond.selects RX2 yX2_readCondition yX2_readCondition ∈ en_T := List.mem_filter.mpr ⟨List.mem_of_getElem? (i := 15) (by decide +kernel), by decide +kernel⟩
theorem tw_16 : Cond.selects RX2 yX2_readBoth yX2_readBoth ∈ en_T := List.mem_filter.mpr ⟨List.mem_of_getElem? (i := 16) (by decide +kernel), by decide +kernel⟩
theorem tw_17 : Cond.selects RX2 yX2_readTest yX2_readTest ∈ en_T := List.mem_filter.mpr ⟨List.mem_of_getElem? (i := 17) (by decide +kernel), by decide +kernel⟩
theorem tw_18 : Cond.selects RX2 yX2_comparisonTold yX2_comparisonTold ∈ en_T := List.mem_filter.mpr ⟨List.mem_of_getElem? (i := 18) (by decide +kernel), by decide +kernel⟩
theorem tw_19 : Cond.selects RX2 yX2_readTerm yX2_readTerm ∈ en_T := List.mem_filter.mpr ⟨List.mem_of_getElem? (i := 19) (by decide +kernel), by decide +kernel⟩
theorem tw_20 : Cond.selects RX2 yX2_readFactor yX2_readFactor ∈ en_T := List.mem_filter.mpr ⟨List.mem_of_getElem? (i := 20) (by decide +kernel), by decide +kernel⟩
theorem tw_21 : Cond.selects RX2 yX2_nameTold yX2_nameTold ∈ en_T := List.mem_filter.mpr ⟨List.mem_of_getElem? (i := 21) (by decide +kernel), by decide +kernel⟩
theorem tw_22 : Cond.selects RX0 yX0_readWave yX0_readWave ∈ en_T := List.mem_filter.mpr ⟨List.mem_of_getElem? (i := 22) (by decide +kernel), by decide +kernel⟩
theorem tw_23 : Cond.selects RX10 yX10_isCell yX10_isCell ∈ en_T := List.mem_filter.mpr ⟨List.mem_of_getElem? (i := 23) (by decide +kernel), by decide +kernel⟩
theorem tw_24 : Cond.selects RX10 yX10_needPlace yX10_needPlace ∈ en_T := List.mem_filter.mpr ⟨List.mem_of_getElem? (i := 24) (by decide +kernel), by decide +kernel⟩
theorem tw_25 : Cond.selects RX10 yX10_isSize yX10_isSize ∈ en_T := List.mem_filter.mpr ⟨List.mem_of_getElem? (i := 25) (by decide +kernel), by decide +kernel⟩
theorem tw_26 : Cond.selects RX10 yX10_needLaw yX10_needLaw ∈ en_T := List.mem_filter.mpr ⟨List.mem_of_getElem? (i := 26) (by decide +kernel), by decide +kernel⟩
theorem tw_27 : Cond.selects RX4 yX4_setPlace yX4_setPlace ∈ en_T := List.mem_filter.mpr ⟨List.mem_of_getElem? (i := 27) (by decide +kernel), by decide +kernel⟩
theorem tw_28 : Cond.selects RX4 yX4_setSize yX4_setSize ∈ en_T := List.mem_filter.mpr ⟨List.mem_of_getElem? (i := 28) (by decide +kernel), by decide +kernel⟩
theorem tw_29 : Cond.selects RX10 yX10_needHours yX10_needHours ∈ en_T := List.mem_filter.mpr ⟨List.mem_of_getElem? (i := 29) (by decide +kernel), by decide +kernel⟩
theorem tw_30 : Cond.selects RX4 yX4_carryCell yX4_carryCell ∈ en_T := List.mem_filter.mpr ⟨List.mem_of_getElem? (i := 30) (by decide +kernel), by decide +kernel⟩
theorem tw_31 : Cond.selects RX4 yX4_aimFrom yX4_aimFrom ∈ en_T := List.mem_filter.mpr ⟨List.mem_of_getElem? (i := 31) (by decide +kernel), by decide +kernel⟩
theorem tw_32 : Cond.selects RX4 yX4_carryHeap yX4_carryHeap ∈ en_T := List.mem_filter.mpr ⟨List.mem_of_getElem? (i := 32) (by decide +kernel), by decide +kernel⟩
theorem tw_33 : Cond.selects RX4 yX4_arrive yX4_arrive ∈ en_T := List.mem_filter.mpr ⟨List.mem_of_getElem? (i := 33) (by decide +kernel), by decide +kernel⟩
theorem tw_34 : Cond.selects RX4 yX4_flow yX4_flow ∈ en_T := List.mem_filter.mpr ⟨List.mem_of_getElem? (i := 34) (by decide +kernel), by decide +kernel⟩
theorem tw_35 : Cond.selects RX4 yX4_drive yX4_drive ∈ en_T := List.mem_filter.mpr ⟨List.mem_of_getElem? (i := 35) (by decide +kernel), by decide +kernel⟩
theorem tw_36 : Cond.selects RX10 yX10_needYear yX10_needYear ∈ en_T := List.mem_filter.mpr ⟨List.mem_of_getElem? (i := 36) (by decide +kernel), by decide +kernel⟩
theorem tw_37 : Cond.selects RX4 yX4_setWaveOf yX4_setWaveOf ∈ en_T := List.mem_filter.mpr ⟨List.mem_of_getElem? (i := 37) (by decide +kernel), by decide +kernel⟩
theorem tw_38 : Cond.selects RX5 yX5_begin yX5_begin ∈ en_T := List.mem_filter.mpr ⟨List.mem_of_getElem? (i := 38) (by decide +kernel), by decide +kernel⟩
theorem tw_39 : Cond.selects RX5 yX5_keep yX5_keep ∈ en_T := List.mem_filter.mpr ⟨List.mem_of_getElem? (i := 39) (by decide +kernel), by decide +kernel⟩
theorem tw_40 : Cond.selects RX5 yX5_farFrom yX5_farFrom ∈ en_T := List.mem_filter.mpr ⟨List.mem_of_getElem? (i := 40) (by decide +kernel), by decide +kernel⟩
theorem tw_41 : Cond.selects RX8 yX8_apartFrom yX8_apartFrom ∈ en_T := List.mem_filter.mpr ⟨List.mem_of_getElem? (i := 41) (by decide +kernel), by decide +kernel⟩
theorem tw_42 : Cond.selects RX8 yX8_buildWalls yX8_buildWalls ∈ en_T := List.mem_filter.mpr ⟨List.mem_of_getElem? (i := 42) (by decide +kernel), by decide +kernel⟩
theorem tw_43 : Cond.selects RX8 yX8_fewerBy yX8_fewerBy ∈ en_T := List.mem_filter.mpr ⟨List.mem_of_getElem? (i := 43) (by decide +kernel), by decide +kernel⟩
theorem tw_44 : Cond.selects RX11 yX11_may yX11_may ∈ en_T := List.mem_filter.mpr ⟨List.mem_of_getElem? (i := 44) (by decide +kernel), by decide +kernel⟩
theorem tw_45 : Cond.selects RX11 yX11_begins yX11_begins ∈ en_T := List.mem_filter.mpr ⟨List.mem_of_getElem? (i := 45) (by decide +kernel), by decide +kernel⟩
theorem tw_46 : Cond.selects RX11 yX11_fine yX11_fine ∈ en_T := List.mem_filter.mpr ⟨List.mem_of_getElem? (i := 46) (by decide +kernel), by decide +kernel⟩
theorem tw_47 : Cond.selects RX11 yX11_isMore yX11_isMore ∈ en_T := List.mem_filter.mpr ⟨List.mem_of_getElem? (i := 47) (by decide +kernel), by decide +kernel⟩
theorem tw_48 : Cond.selects RX11 yX11_here yX11_here ∈ en_T := List.mem_filter.mpr ⟨List.mem_of_getElem? (i := 48) (by decide +kernel), by decide +kernel⟩
theorem tw_49 : Cond.selects RX11 yX11_word yX11_word ∈ en_T := List.mem_filter.mpr ⟨List.mem_of_getElem? (i := 49) (by decide +kernel), by decide +kernel⟩
theorem tw_50 : Cond.selects RX11 yX11_wrong yX11_wrong ∈ en_T := List.mem_filter.mpr ⟨List.mem_of_getElem? (i := 50) (by decide +kernel), by decide +kernel⟩
theorem tw_51 : Cond.selects RX11 yX11_pass yX11_pass ∈ en_T := List.mem_filter.mpr ⟨List.mem_of_getElem? (i := 51) (by decide +kernel), by decide +kernel⟩
theorem tw_52 : Cond.selects RX11 yX11_readClause yX11_readClause ∈ en_T := List.mem_filter.mpr ⟨List.mem_of_getElem? (i := 52) (by decide +kernel), by decide +kernel⟩
theorem tw_53 : Cond.selects RX11 yX11_readNumber yX11_readNumber ∈ en_T := List.mem_filter.mpr ⟨List.mem_of_getElem? (i := 53) (by decide +kernel), by decide +kernel⟩
theorem tw_54 : Cond.selects RX11 yX11_readHeap yX11_readHeap ∈ en_T := List.mem_filter.mpr ⟨List.mem_of_getElem? (i := 54) (by decide +kernel), by decide +kernel⟩
theorem tw_55 : Cond.selects RX11 yX11_readCell yX11_readCell ∈ en_T := List.mem_filter.mpr ⟨List.mem_of_getElem? (i := 55) (by decide +kernel), by decide +kernel⟩
theorem tw_56 : Cond.selects RX11 yX11_readSize yX11_readSize ∈ en_T := List.mem_filter.mpr ⟨List.mem_of_getElem? (i := 56) (by decide +kernel), by decide +kernel⟩
theorem tw_57 : Cond.selects RX11 yX11_readSpring yX11_readSpring ∈ en_T := List.mem_filter.mpr ⟨List.mem_of_getElem? (i := 57) (by decide +kernel), by decide +kernel⟩
theorem tw_58 : Cond.selects RX11 yX11_readLorry yX11_readLorry ∈ en_T := List.mem_filter.mpr ⟨List.mem_of_getElem? (i := 58) (by decide +kernel), by decide +kernel⟩
theorem tw_59 : Cond.selects RX11 yX11_sign yX11_sign ∈ en_T := List.mem_filter.mpr ⟨List.mem_of_getElem? (i := 59) (by decide +kernel), by decide +kernel⟩
theorem tw_60 : Cond.selects RX11 yX11_result yX11_result ∈ en_T := List.mem_filter.mpr ⟨List.mem_of_getElem? (i := 60) (by decide +kernel), by decide +kernel⟩
theorem tw_61 : Cond.selects RX11 yX11_whole yX11_whole ∈ en_T := List.mem_filter.mpr ⟨List.mem_of_getElem? (i := 61) (by decide +kernel), by decide +kernel⟩
theorem tw_62 : Cond.selects RX11 yX11_opensOne yX11_opensOne ∈ en_T := List.mem_filter.mpr ⟨List.mem_of_getElem? (i := 62) (by decide +kernel), by decide +kernel⟩
theorem tw_63 : Cond.selects RX11 yX11_anyOf yX11_anyOf ∈ en_T := List.mem_filter.mpr ⟨List.mem_of_getElem? (i := 63) (by decide +kernel), by decide +kernel⟩
theorem tw_64 : Cond.selects RX11 yX11_allOf yX11_allOf ∈ en_T := List.mem_filter.mpr ⟨List.mem_of_getElem? (i := 64) (by decide +kernel), by decide +kernel⟩
theorem tw_65 : Cond.selects RX11 yX11_oneOf yX11_oneOf ∈ en_T := List.mem_filter.mpr ⟨List.mem_of_getElem? (i := 65) (by decide +kernel), by decide +kernel⟩
theorem tw_66 : Cond.selects RX11 yX11_emit yX11_emit ∈ en_T := List.mem_filter.mpr ⟨List.mem_of_getElem? (i := 66) (by decide +kernel), by decide +kernel⟩
theorem tw_67 : Cond.selects RX11 yX11_keyword yX11_keyword ∈ en_T := List.mem_filter.mpr ⟨List.mem_of_getElem? (i := 67) (by decide +kernel), by decide +kernel⟩
theorem tw_68 : Cond.selects RX11 yX11_product yX11_product ∈ en_T := List.mem_filter.mpr ⟨List.mem_of_getElem? (i := 68) (by decide +kernel), by decide +kernel⟩
theorem tw_69 : Cond.selects RX11 yX11_unit yX11_unit ∈ en_T := List.mem_filter.mpr ⟨List.mem_of_getElem? (i := 69) (by decide +kernel), by decide +kernel⟩
theorem tw_70 : Cond.selects RX11 yX11_isCell yX11_isCell ∈ en_T := List.mem_filter.mpr ⟨List.mem_of_getElem? (i := 70) (by decide +kernel), by decide +kernel⟩
theorem tw_71 : Cond.selects RX11 yX11_isSize yX11_isSize ∈ en_T := List.mem_filter.mpr ⟨List.mem_of_getElem? (i := 71) (by decide +kernel), by decide +kernel⟩
theorem tw_72 : Cond.selects RX11 yX11_isLaw yX11_isLaw ∈ en_T := List.mem_filter.mpr ⟨List.mem_of_getElem? (i := 72) (by decide +kernel), by decide +kernel⟩
theorem tw_73 : Cond.selects RX11 yX11_name yX11_name ∈ en_T := List.mem_filter.mpr ⟨List.mem_of_getElem? (i := 73) (by decide +kernel), by decide +kernel⟩
theorem tw_74 : Cond.selects RX11 yX11_nameSize yX11_nameSize ∈ en_T := List.mem_filter.mpr ⟨List.mem_of_getElem? (i := 74) (by decide +kernel), by decide +kernel⟩
theorem tw_75 : Cond.selects RX11 yX11_all yX11_all ∈ en_T := List.mem_filter.mpr ⟨List.mem_of_getElem? (i := 75) (by decide +kernel), by decide +kernel⟩
theorem tw_76 : Cond.selects RX11 yX11_wholeOf yX11_wholeOf ∈ en_T := List.mem_filter.mpr ⟨List.mem_of_getElem? (i := 76) (by decide +kernel), by decide +kernel⟩
theorem tw_77 : Cond.selects RX11 yX11_worked yX11_worked ∈ en_T := List.mem_filter.mpr ⟨List.mem_of_getElem? (i := 77) (by decide +kernel), by decide +kernel⟩
theorem tw_78 : Cond.selects RX11 yX11_isNow yX11_isNow ∈ en_T := List.mem_filter.mpr ⟨List.mem_of_getElem? (i := 78) (by decide +kernel), by decide +kernel⟩
theorem tw_79 : Cond.selects RX11 yX11_hour yX11_hour ∈ en_T := List.mem_filter.mpr ⟨List.mem_of_getElem? (i := 79) (by decide +kernel), by decide +kernel⟩
theorem tw_80 : Cond.selects RX11 yX11_moves yX11_moves ∈ en_T := List.mem_filter.mpr ⟨List.mem_of_getElem? (i := 80) (by decide +kernel), by decide +kernel⟩
theorem tw_81 : Cond.selects RX11 yX11_goes yX11_goes ∈ en_T := List.mem_filter.mpr ⟨List.mem_of_getElem? (i := 81) (by decide +kernel), by decide +kernel⟩
theorem tw_82 : Cond.selects RX11 yX11_overs yX11_overs ∈ en_T := List.mem_filter.mpr ⟨List.mem_of_getElem? (i := 82) (by decide +kernel), by decide +kernel⟩
theorem tw_83 : Cond.selects RX11 yX11_brings yX11_brings ∈ en_T := List.mem_filter.mpr ⟨List.mem_of_getElem? (i := 83) (by decide +kernel), by decide +kernel⟩
theorem tw_84 : Cond.selects RX11 yX11_isYear yX11_isYear ∈ en_T := List.mem_filter.mpr ⟨List.mem_of_getElem? (i := 84) (by decide +kernel), by decide +kernel⟩
theorem tw_85 : Cond.selects RX11 yX11_runs yX11_runs ∈ en_T := List.mem_filter.mpr ⟨List.mem_of_getElem? (i := 85) (by decide +kernel), by decide +kernel⟩
theorem tw_86 : Cond.selects RX11 yX11_meanOf yX11_meanOf ∈ en_T := List.mem_filter.mpr ⟨List.mem_of_getElem? (i := 86) (by decide +kernel), by decide +kernel⟩
theorem tw_87 : Cond.selects RX11 yX11_pairs yX11_pairs ∈ en_T := List.mem_filter.mpr ⟨List.mem_of_getElem? (i := 87) (by decide +kernel), by decide +kernel⟩
theorem tw_88 : Cond.selects RX11 yX11_isHorn yX11_isHorn ∈ en_T := List.mem_filter.mpr ⟨List.mem_of_getElem? (i := 88) (by decide +kernel), by decide +kernel⟩
theorem tw_89 : Cond.selects RX11 yX11_isKnown yX11_isKnown ∈ en_T := List.mem_filter.mpr ⟨List.mem_of_getElem? (i := 89) (by decide +kernel), by decide +kernel⟩
theorem tw_90 : Cond.selects RX11 yX11_soundOf yX11_soundOf ∈ en_T := List.mem_filter.mpr ⟨List.mem_of_getElem? (i := 90) (by decide +kernel), by decide +kernel⟩
theorem tw_91 : Cond.selects RX11 yX11_wordOf yX11_wordOf ∈ en_T := List.mem_filter.mpr ⟨List.mem_of_getElem? (i := 91) (by decide +kernel), by decide +kernel⟩
theorem tw_92 : Cond.selects RX11 yX11_allWords yX11_allWords ∈ en_T := List.mem_filter.mpr ⟨List.mem_of_getElem? (i := 92) (by decide +kernel), by decide +kernel⟩
theorem tw_93 : Cond.selects RX11 yX11_keeps yX11_keeps ∈ en_T := List.mem_filter.mpr ⟨List.mem_of_getElem? (i := 93) (by decide +kernel), by decide +kernel⟩
theorem tw_94 : Cond.selects RX11 yX11_comesBack yX11_comesBack ∈ en_T := List.mem_filter.mpr ⟨List.mem_of_getElem? (i := 94) (by decide +kernel), by decide +kernel⟩
theorem tw_95 : Cond.selects RX11 yX11_farOf yX11_farOf ∈ en_T := List.mem_filter.mpr ⟨List.mem_of_getElem? (i := 95) (by decide +kernel), by decide +kernel⟩
theorem tw_96 : Cond.selects RX11 yX11_oversNow yX11_oversNow ∈ en_T := List.mem_filter.mpr ⟨List.mem_of_getElem? (i := 96) (by decide +kernel), by decide +kernel⟩
theorem tw_97 : Cond.selects RX11 yX11_shareOf yX11_shareOf ∈ en_T := List.mem_filter.mpr ⟨List.mem_of_getElem? (i := 97) (by decide +kernel), by decide +kernel⟩
theorem tw_98 : Cond.selects RX11 yX11_farNear yX11_farNear ∈ en_T := List.mem_filter.mpr ⟨List.mem_of_getElem? (i := 98) (by decide +kernel), by decide +kernel⟩
theorem tw_99 : Cond.initialized RL ∈ en_T := List.mem_filter.mpr ⟨List.mem_of_getElem? (i := 99) (by decide +kernel), by decide +kernel⟩
theorem tw_100 : Cond.initialized RX10 ∈ en_T := List.mem_filter.mpr ⟨List.mem_of_getElem? (i := 100) (by decide +kernel), by decide +kernel⟩
theorem tw_101 : Cond.initialized RX3 ∈ en_T := List.mem_filter.mpr ⟨List.mem_of_getElem? (i := 101) (by decide +kernel), by decide +kernel⟩
theorem tw_102 : Cond.initialized RX6 ∈ en_T := List.mem_filter.mpr ⟨List.mem_of_getElem? (i := 102) (by decide +kernel), by decide +kernel⟩
theorem tw_103 : Cond.initialized RX7 ∈ en_T := List.mem_filter.mpr ⟨List.mem_of_getElem? (i := 103) (by decide +kernel), by decide +kernel⟩
theorem tw_104 : Cond.initialized RX0 ∈ en_T := List.mem_filter.mpr ⟨List.mem_of_getElem? (i := 104) (by decide +kernel), by decide +kernel⟩
theorem tw_105 : Cond.initialized RX2 ∈ en_T := List.mem_filter.mpr ⟨List.mem_of_getElem? (i := 105) (by decide +kernel), by decide +kernel⟩
theorem tw_106 : Cond.initialized RX1 ∈ en_T := List.mem_filter.mpr ⟨List.mem_of_getElem? (i := 106) (by decide +kernel), by decide +kernel⟩
theorem tw_107 : Cond.initialized RX4 ∈ en_T := List.mem_filter.mpr ⟨List.mem_of_getElem? (i := 107) (by decide +kernel), by decide +kernel⟩
theorem tw_108 : Cond.initialized RX8 ∈ en_T := List.mem_filter.mpr ⟨List.mem_of_getElem? (i := 108) (by decide +kernel), by decide +kernel⟩
theorem tw_109 : Cond.initialized RX5 ∈ en_T := List.mem_filter.mpr ⟨List.mem_of_getElem? (i := 109) (by decide +kernel), by decide +kernel⟩
theorem tw_110 : Cond.initialized RX9 ∈ en_T := List.mem_filter.mpr ⟨List.mem_of_getElem? (i := 110) (by decide +kernel), by decide +kernel⟩
theorem tw_111 : Cond.initialized RX11 ∈ en_T := List.mem_filter.mpr ⟨List.mem_of_getElem? (i := 111) (by decide +kernel), by decide +kernel⟩
theorem tw_115 : Cond.initialized "java/lang/IllegalArgumentException" ∈ en_T := List.mem_filter.mpr ⟨List.mem_of_getElem? (i := 115) (by decide +kernel), by decide +kernel⟩
theorem tw_116 : Cond.initialized RJ7 ∈ en_T := List.mem_filter.mpr ⟨List.mem_of_getElem? (i := 116) (by decide +kernel), by decide +kernel⟩
theorem tw_117 : Cond.initialized RJ9 ∈ en_T := List.mem_filter.mpr ⟨List.mem_of_getElem? (i := 117) (by decide +kernel), by decide +kernel⟩
theorem tw_118 : Cond.initialized RJ0 ∈ en_T := List.mem_filter.mpr ⟨List.mem_of_getElem? (i := 118) (by decide +kernel), by decide +kernel⟩
theorem tw_119 : Cond.initialized RJ1 ∈ en_T := List.mem_filter.mpr ⟨List.mem_of_getElem? (i := 119) (by decide +kernel), by decide +kernel⟩
theorem tw_120 : Cond.initialized RJ3 ∈ en_T := List.mem_filter.mpr ⟨List.mem_of_getElem? (i := 120) (by decide +kernel), by decide +kernel⟩
theorem tw_123 : Cond.initialized "java/lang/IndexOutOfBoundsException" ∈ en_T := List.mem_filter.mpr ⟨List.mem_of_getElem? (i := 123) (by decide +kernel), by decide +kernel⟩
theorem tw_124 : Cond.initialized "java/util/NoSuchElementException" ∈ en_T := List.mem_filter.mpr ⟨List.mem_of_getElem? (i := 124) (by decide +kernel), by decide +kernel⟩
theorem tw_125 : Cond.initialized "java/lang/IllegalStateException" ∈ en_T := List.mem_filter.mpr ⟨List.mem_of_getElem? (i := 125) (by decide +kernel), by decide +kernel⟩
theorem tw_126 : Cond.initialized RJ6 ∈ en_T := List.mem_filter.mpr ⟨List.mem_of_getElem? (i := 126) (by decide +kernel), by decide +kernel⟩
theorem tw_141 : Cond.fieldLink RX3 9 "ShingleBank$Plan" "cells" "I" ∈ en_T := List.mem_filter.mpr ⟨List.mem_of_getElem? (i := 141) (by decide +kernel), by decide +kernel⟩
theorem tw_142 : Cond.fieldLink RX6 49 "ShingleBank$Plan" "cells" "I" ∈ en_T := List.mem_filter.mpr ⟨List.mem_of_getElem? (i := 142) (by decide +kernel), by decide +kernel⟩
theorem tw_143 : Cond.fieldLink RX0 74 "ShingleBank$Plan" "cells" "I" ∈ en_T := List.mem_filter.mpr ⟨List.mem_of_getElem? (i := 143) (by decide +kernel), by decide +kernel⟩
theorem tw_144 : Cond.fieldLink RX3 15 "ShingleBank$Plan" "sizes" "I" ∈ en_T := List.mem_filter.mpr ⟨List.mem_of_getElem? (i := 144) (by decide +kernel), by decide +kernel⟩
theorem tw_145 : Cond.fieldLink RX6 52 "ShingleBank$Plan" "sizes" "I" ∈ en_T := List.mem_filter.mpr ⟨List.mem_of_getElem? (i := 145) (by decide +kernel), by decide +kernel⟩
theorem tw_146 : Cond.fieldLink RX0 106 "ShingleBank$Plan" "sizes" "I" ∈ en_T := List.mem_filter.mpr ⟨List.mem_of_getElem? (i := 146) (by decide +kernel), by decide +kernel⟩
theorem tw_147 : Cond.fieldLink RX3 18 "ShingleBank$Plan" "heaps" "[I" ∈ en_T := List.mem_filter.mpr ⟨List.mem_of_getElem? (i := 147) (by decide +kernel), by decide +kernel⟩
theorem tw_148 : Cond.fieldLink RX6 67 "ShingleBank$Plan" "heaps" "[I" ∈ en_T := List.mem_filter.mpr ⟨List.mem_of_getElem? (i := 148) (by decide +kernel), by decide +kernel⟩
theorem tw_149 : Cond.fieldLink RX0 118 "ShingleBank$Plan" "heaps" "[I" ∈ en_T := List.mem_filter.mpr ⟨List.mem_of_getElem? (i := 149) (by decide +kernel), by decide +kernel⟩
theorem tw_150 : Cond.fieldLink RX3 22 "ShingleBank$Plan" "crests" "[I" ∈ en_T := List.mem_filter.mpr ⟨List.mem_of_getElem? (i := 150) (by decide +kernel), by decide +kernel⟩
theorem tw_151 : Cond.fieldLink RX6 53 "ShingleBank$Plan" "crests" "[I" ∈ en_T := List.mem_filter.mpr ⟨List.mem_of_getElem? (i := 151) (by decide +kernel), by decide +kernel⟩
theorem tw_152 : Cond.fieldLink RX0 80 "ShingleBank$Plan" "crests" "[I" ∈ en_T := List.mem_filter.mpr ⟨List.mem_of_getElem? (i := 152) (by decide +kernel), by decide +kernel⟩
theorem tw_153 : Cond.fieldLink RX3 25 "ShingleBank$Plan" "walls" "[I" ∈ en_T := List.mem_filter.mpr ⟨List.mem_of_getElem? (i := 153) (by decide +kernel), by decide +kernel⟩
theorem tw_154 : Cond.fieldLink RX6 60 "ShingleBank$Plan" "walls" "[I" ∈ en_T := List.mem_filter.mpr ⟨List.mem_of_getElem? (i := 154) (by decide +kernel), by decide +kernel⟩
theorem tw_155 : Cond.fieldLink RX0 86 "ShingleBank$Plan" "walls" "[I" ∈ en_T := List.mem_filter.mpr ⟨List.mem_of_getElem? (i := 155) (by decide +kernel), by decide +kernel⟩
theorem tw_156 : Cond.fieldLink RX3 28 "ShingleBank$Plan" "springs" "[I" ∈ en_T := List.mem_filter.mpr ⟨List.mem_of_getElem? (i := 156) (by decide +kernel), by decide +kernel⟩
theorem tw_157 : Cond.fieldLink RX4 137 "ShingleBank$Plan" "springs" "[I" ∈ en_T := List.mem_filter.mpr ⟨List.mem_of_getElem? (i := 157) (by decide +kernel), by decide +kernel⟩
theorem tw_158 : Cond.fieldLink RX3 31 "ShingleBank$Plan" "springCount" "I" ∈ en_T := List.mem_filter.mpr ⟨List.mem_of_getElem? (i := 158) (by decide +kernel), by decide +kernel⟩
theorem tw_159 : Cond.fieldLink RX0 121 "ShingleBank$Plan" "springCount" "I" ∈ en_T := List.mem_filter.mpr ⟨List.mem_of_getElem? (i := 159) (by decide +kernel), by decide +kernel⟩
theorem tw_160 : Cond.fieldLink RX4 132 "ShingleBank$Plan" "springCount" "I" ∈ en_T := List.mem_filter.mpr ⟨List.mem_of_getElem? (i := 160) (by decide +kernel), by decide +kernel⟩
theorem tw_161 : Cond.fieldLink RX10 180 "ShingleBank$Plan" "springCount" "I" ∈ en_T := List.mem_filter.mpr ⟨List.mem_of_getElem? (i := 161) (by decide +kernel), by decide +kernel⟩
theorem tw_162 : Cond.fieldLink RX3 34 "ShingleBank$Plan" "lorries" "[I" ∈ en_T := List.mem_filter.mpr ⟨List.mem_of_getElem? (i := 162) (by decide +kernel), by decide +kernel⟩
theorem tw_163 : Cond.fieldLink RX4 146 "ShingleBank$Plan" "lorries" "[I" ∈ en_T := List.mem_filter.mpr ⟨List.mem_of_getElem? (i := 163) (by decide +kernel), by decide +kernel⟩
theorem tw_164 : Cond.fieldLink RX3 37 "ShingleBank$Plan" "lorryCount" "I" ∈ en_T := List.mem_filter.mpr ⟨List.mem_of_getElem? (i := 164) (by decide +kernel), by decide +kernel⟩
theorem tw_165 : Cond.fieldLink RX0 128 "ShingleBank$Plan" "lorryCount" "I" ∈ en_T := List.mem_filter.mpr ⟨List.mem_of_getElem? (i := 165) (by decide +kernel), by decide +kernel⟩
theorem tw_166 : Cond.fieldLink RX4 143 "ShingleBank$Plan" "lorryCount" "I" ∈ en_T := List.mem_filter.mpr ⟨List.mem_of_getElem? (i := 166) (by decide +kernel), by decide +kernel⟩
theorem tw_167 : Cond.fieldLink RX10 183 "ShingleBank$Plan" "lorryCount" "I" ∈ en_T := List.mem_filter.mpr ⟨List.mem_of_getElem? (i := 167) (by decide +kernel), by decide +kernel⟩
theorem tw_199 : Cond.fieldLink RX6 9 "ShingleBank$Shore" "cells" "I" ∈ en_T := List.mem_filter.mpr ⟨List.mem_of_getElem? (i := 199) (by decide +kernel), by decide +kernel⟩
theorem tw_200 : Cond.fieldLink RX5 23 "ShingleBank$Shore" "cells" "I" ∈ en_T := List.mem_filter.mpr ⟨List.mem_of_getElem? (i := 200) (by decide +kernel), by decide +kernel⟩
theorem tw_201 : Cond.fieldLink RX10 116 "ShingleBank$Shore" "cells" "I" ∈ en_T := List.mem_filter.mpr ⟨List.mem_of_getElem? (i := 201) (by decide +kernel), by decide +kernel⟩
theorem tw_202 : Cond.fieldLink RX8 47 "ShingleBank$Shore" "cells" "I" ∈ en_T := List.mem_filter.mpr ⟨List.mem_of_getElem? (i := 202) (by decide +kernel), by decide +kernel⟩
theorem tw_203 : Cond.fieldLink RX4 74 "ShingleBank$Shore" "cells" "I" ∈ en_T := List.mem_filter.mpr ⟨List.mem_of_getElem? (i := 203) (by decide +kernel), by decide +kernel⟩
theorem tw_204 : Cond.fieldLink RX6 15 "ShingleBank$Shore" "sizes" "I" ∈ en_T := List.mem_filter.mpr ⟨List.mem_of_getElem? (i := 204) (by decide +kernel), by decide +kernel⟩
theorem tw_205 : Cond.fieldLink RX10 119 "ShingleBank$Shore" "sizes" "I" ∈ en_T := List.mem_filter.mpr ⟨List.mem_of_getElem? (i := 205) (by decide +kernel), by decide +kernel⟩
theorem tw_206 : Cond.fieldLink RX8 57 "ShingleBank$Shore" "sizes" "I" ∈ en_T := List.mem_filter.mpr ⟨List.mem_of_getElem? (i := 206) (by decide +kernel), by decide +kernel⟩
theorem tw_207 : Cond.fieldLink RX4 105 "ShingleBank$Shore" "sizes" "I" ∈ en_T := List.mem_filter.mpr ⟨List.mem_of_getElem? (i := 207) (by decide +kernel), by decide +kernel⟩
theorem tw_208 : Cond.fieldLink RX6 18 "ShingleBank$Shore" "heaps" "[I" ∈ en_T := List.mem_filter.mpr ⟨List.mem_of_getElem? (i := 208) (by decide +kernel), by decide +kernel⟩
theorem tw_209 : Cond.fieldLink RX4 81 "ShingleBank$Shore" "heaps" "[I" ∈ en_T := List.mem_filter.mpr ⟨List.mem_of_getElem? (i := 209) (by decide +kernel), by decide +kernel⟩
theorem tw_210 : Cond.fieldLink RX10 222 "ShingleBank$Shore" "heaps" "[I" ∈ en_T := List.mem_filter.mpr ⟨List.mem_of_getElem? (i := 210) (by decide +kernel), by decide +kernel⟩
theorem tw_211 : Cond.fieldLink RX6 22 "ShingleBank$Shore" "crests" "[I" ∈ en_T := List.mem_filter.mpr ⟨List.mem_of_getElem? (i := 211) (by decide +kernel), by decide +kernel⟩
theorem tw_212 : Cond.fieldLink RX8 73 "ShingleBank$Shore" "crests" "[I" ∈ en_T := List.mem_filter.mpr ⟨List.mem_of_getElem? (i := 212) (by decide +kernel), by decide +kernel⟩
theorem tw_213 : Cond.fieldLink RX4 67 "ShingleBank$Shore" "crests" "[I" ∈ en_T := List.mem_filter.mpr ⟨List.mem_of_getElem? (i := 213) (by decide +kernel), by decide +kernel⟩
theorem tw_214 : Cond.fieldLink RX10 203 "ShingleBank$Shore" "crests" "[I" ∈ en_T := List.mem_filter.mpr ⟨List.mem_of_getElem? (i := 214) (by decide +kernel), by decide +kernel⟩
theorem tw_215 : Cond.fieldLink RX6 25 "ShingleBank$Shore" "walls" "[I" ∈ en_T := List.mem_filter.mpr ⟨List.mem_of_getElem? (i := 215) (by decide +kernel), by decide +kernel⟩
theorem tw_216 : Cond.fieldLink RX8 50 "ShingleBank$Shore" "walls" "[I" ∈ en_T := List.mem_filter.mpr ⟨List.mem_of_getElem? (i := 216) (by decide +kernel), by decide +kernel⟩
theorem tw_217 : Cond.fieldLink RX4 114 "ShingleBank$Shore" "walls" "[I" ∈ en_T := List.mem_filter.mpr ⟨List.mem_of_getElem? (i := 217) (by decide +kernel), by decide +kernel⟩
theorem tw_218 : Cond.fieldLink RX10 206 "ShingleBank$Shore" "walls" "[I" ∈ en_T := List.mem_filter.mpr ⟨List.mem_of_getElem? (i := 218) (by decide +kernel), by decide +kernel⟩
theorem tw_219 : Cond.fieldLink RX6 28 "ShingleBank$Shore" "overs" "[I" ∈ en_T := List.mem_filter.mpr ⟨List.mem_of_getElem? (i := 219) (by decide +kernel), by decide +kernel⟩
theorem tw_220 : Cond.fieldLink RX4 129 "ShingleBank$Shore" "overs" "[I" ∈ en_T := List.mem_filter.mpr ⟨List.mem_of_getElem? (i := 220) (by decide +kernel), by decide +kernel⟩
theorem tw_221 : Cond.fieldLink RX10 209 "ShingleBank$Shore" "overs" "[I" ∈ en_T := List.mem_filter.mpr ⟨List.mem_of_getElem? (i := 221) (by decide +kernel), by decide +kernel⟩
theorem tw_222 : Cond.fieldLink RX6 31 "ShingleBank$Shore" "samples" "[I" ∈ en_T := List.mem_filter.mpr ⟨List.mem_of_getElem? (i := 222) (by decide +kernel), by decide +kernel⟩
theorem tw_223 : Cond.fieldLink RX8 60 "ShingleBank$Shore" "samples" "[I" ∈ en_T := List.mem_filter.mpr ⟨List.mem_of_getElem? (i := 223) (by decide +kernel), by decide +kernel⟩
theorem tw_224 : Cond.fieldLink RX10 325 "ShingleBank$Shore" "samples" "[I" ∈ en_T := List.mem_filter.mpr ⟨List.mem_of_getElem? (i := 224) (by decide +kernel), by decide +kernel⟩
theorem tw_225 : Cond.fieldLink RX6 34 "ShingleBank$Shore" "hand" "[I" ∈ en_T := List.mem_filter.mpr ⟨List.mem_of_getElem? (i := 225) (by decide +kernel), by decide +kernel⟩
theorem tw_226 : Cond.fieldLink RX10 285 "ShingleBank$Shore" "hand" "[I" ∈ en_T := List.mem_filter.mpr ⟨List.mem_of_getElem? (i := 226) (by decide +kernel), by decide +kernel⟩
theorem tw_227 : Cond.fieldLink RX6 37 "ShingleBank$Shore" "inHand" "I" ∈ en_T := List.mem_filter.mpr ⟨List.mem_of_getElem? (i := 227) (by decide +kernel), by decide +kernel⟩
theorem tw_228 : Cond.fieldLink RX10 282 "ShingleBank$Shore" "inHand" "I" ∈ en_T := List.mem_filter.mpr ⟨List.mem_of_getElem? (i := 228) (by decide +kernel), by decide +kernel⟩
theorem tw_229 : Cond.fieldLink RX6 40 "ShingleBank$Shore" "totals" "[I" ∈ en_T := List.mem_filter.mpr ⟨List.mem_of_getElem? (i := 229) (by decide +kernel), by decide +kernel⟩
theorem tw_230 : Cond.fieldLink RX4 123 "ShingleBank$Shore" "totals" "[I" ∈ en_T := List.mem_filter.mpr ⟨List.mem_of_getElem? (i := 230) (by decide +kernel), by decide +kernel⟩
theorem tw_231 : Cond.fieldLink RX10 219 "ShingleBank$Shore" "totals" "[I" ∈ en_T := List.mem_filter.mpr ⟨List.mem_of_getElem? (i := 231) (by decide +kernel), by decide +kernel⟩
theorem tw_232 : Cond.fieldLink RX6 43 "ShingleBank$Shore" "painted" "I" ∈ en_T := List.mem_filter.mpr ⟨List.mem_of_getElem? (i := 232) (by decide +kernel), by decide +kernel⟩
theorem tw_233 : Cond.fieldLink RX10 310 "ShingleBank$Shore" "painted" "I" ∈ en_T := List.mem_filter.mpr ⟨List.mem_of_getElem? (i := 233) (by decide +kernel), by decide +kernel⟩
theorem tw_234 : Cond.fieldLink RX6 46 "ShingleBank$Shore" "hours" "I" ∈ en_T := List.mem_filter.mpr ⟨List.mem_of_getElem? (i := 234) (by decide +kernel), by decide +kernel⟩
theorem tw_235 : Cond.fieldLink RX4 92 "ShingleBank$Shore" "hours" "I" ∈ en_T := List.mem_filter.mpr ⟨List.mem_of_getElem? (i := 235) (by decide +kernel), by decide +kernel⟩
theorem tw_236 : Cond.fieldLink RX10 145 "ShingleBank$Shore" "hours" "I" ∈ en_T := List.mem_filter.mpr ⟨List.mem_of_getElem? (i := 236) (by decide +kernel), by decide +kernel⟩
theorem tw_237 : Cond.fieldLink RX8 99 "ShingleBank$Shore" "hours" "I" ∈ en_T := List.mem_filter.mpr ⟨List.mem_of_getElem? (i := 237) (by decide +kernel), by decide +kernel⟩
theorem tw_270 : Cond.fieldLink RX7 9 "ShingleBank$Tokens" "text" "[B" ∈ en_T := List.mem_filter.mpr ⟨List.mem_of_getElem? (i := 270) (by decide +kernel), by decide +kernel⟩
theorem tw_271 : Cond.fieldLink RX7 15 "ShingleBank$Tokens" "length" "I" ∈ en_T := List.mem_filter.mpr ⟨List.mem_of_getElem? (i := 271) (by decide +kernel), by decide +kernel⟩
theorem tw_272 : Cond.fieldLink RX7 19 "ShingleBank$Tokens" "at" "I" ∈ en_T := List.mem_filter.mpr ⟨List.mem_of_getElem? (i := 272) (by decide +kernel), by decide +kernel⟩
theorem tw_273 : Cond.fieldLink RX7 22 "ShingleBank$Tokens" "kind" "I" ∈ en_T := List.mem_filter.mpr ⟨List.mem_of_getElem? (i := 273) (by decide +kernel), by decide +kernel⟩
theorem tw_274 : Cond.fieldLink RX7 25 "ShingleBank$Tokens" "place" "I" ∈ en_T := List.mem_filter.mpr ⟨List.mem_of_getElem? (i := 274) (by decide +kernel), by decide +kernel⟩
theorem tw_275 : Cond.fieldLink RX7 28 "ShingleBank$Tokens" "number" "I" ∈ en_T := List.mem_filter.mpr ⟨List.mem_of_getElem? (i := 275) (by decide +kernel), by decide +kernel⟩
theorem tw_276 : Cond.fieldLink RX7 31 "ShingleBank$Tokens" "sign" "I" ∈ en_T := List.mem_filter.mpr ⟨List.mem_of_getElem? (i := 276) (by decide +kernel), by decide +kernel⟩
theorem tw_277 : Cond.fieldLink RX7 34 "ShingleBank$Tokens" "fault" "I" ∈ en_T := List.mem_filter.mpr ⟨List.mem_of_getElem? (i := 277) (by decide +kernel), by decide +kernel⟩
theorem tw_278 : Cond.fieldLink RX2 44 "ShingleBank$Tokens" "fault" "I" ∈ en_T := List.mem_filter.mpr ⟨List.mem_of_getElem? (i := 278) (by decide +kernel), by decide +kernel⟩
theorem tw_279 : Cond.fieldLink RX0 48 "ShingleBank$Tokens" "fault" "I" ∈ en_T := List.mem_filter.mpr ⟨List.mem_of_getElem? (i := 279) (by decide +kernel), by decide +kernel⟩
theorem tw_280 : Cond.fieldLink RX7 37 "ShingleBank$Tokens" "faultPlace" "I" ∈ en_T := List.mem_filter.mpr ⟨List.mem_of_getElem? (i := 280) (by decide +kernel), by decide +kernel⟩
theorem tw_281 : Cond.fieldLink RX10 165 "ShingleBank$Tokens" "faultPlace" "I" ∈ en_T := List.mem_filter.mpr ⟨List.mem_of_getElem? (i := 281) (by decide +kernel), by decide +kernel⟩
theorem tw_307 : Cond.fieldLink RX0 21 "ShingleBank$ClauseReader" "tokens" "LShingleBank$Tokens;" ∈ en_T := List.mem_filter.mpr ⟨List.mem_of_getElem? (i := 307) (by decide +kernel), by decide +kernel⟩
theorem tw_308 : Cond.fieldLink RX0 9 "ShingleBank$ClauseReader" "toldCells" "Z" ∈ en_T := List.mem_filter.mpr ⟨List.mem_of_getElem? (i := 308) (by decide +kernel), by decide +kernel⟩
theorem tw_309 : Cond.fieldLink RX0 15 "ShingleBank$ClauseReader" "toldSizes" "Z" ∈ en_T := List.mem_filter.mpr ⟨List.mem_of_getElem? (i := 309) (by decide +kernel), by decide +kernel⟩
theorem tw_310 : Cond.fieldLink RX0 18 "ShingleBank$ClauseReader" "toldMore" "Z" ∈ en_T := List.mem_filter.mpr ⟨List.mem_of_getElem? (i := 310) (by decide +kernel), by decide +kernel⟩
theorem tw_332 : Cond.fieldLink RX1 9 "ShingleBank$Law" "steps" "[I" ∈ en_T := List.mem_filter.mpr ⟨List.mem_of_getElem? (i := 332) (by decide +kernel), by decide +kernel⟩
theorem tw_333 : Cond.fieldLink RX1 15 "ShingleBank$Law" "length" "I" ∈ en_T := List.mem_filter.mpr ⟨List.mem_of_getElem? (i := 333) (by decide +kernel), by decide +kernel⟩
theorem tw_334 : Cond.fieldLink RX2 66 "ShingleBank$Law" "length" "I" ∈ en_T := List.mem_filter.mpr ⟨List.mem_of_getElem? (i := 334) (by decide +kernel), by decide +kernel⟩
theorem tw_335 : Cond.fieldLink RX1 19 "ShingleBank$Law" "starts" "[I" ∈ en_T := List.mem_filter.mpr ⟨List.mem_of_getElem? (i := 335) (by decide +kernel), by decide +kernel⟩
theorem tw_336 : Cond.fieldLink RX2 62 "ShingleBank$Law" "starts" "[I" ∈ en_T := List.mem_filter.mpr ⟨List.mem_of_getElem? (i := 336) (by decide +kernel), by decide +kernel⟩
theorem tw_337 : Cond.fieldLink RX1 22 "ShingleBank$Law" "ends" "[I" ∈ en_T := List.mem_filter.mpr ⟨List.mem_of_getElem? (i := 337) (by decide +kernel), by decide +kernel⟩
theorem tw_338 : Cond.fieldLink RX2 72 "ShingleBank$Law" "ends" "[I" ∈ en_T := List.mem_filter.mpr ⟨List.mem_of_getElem? (i := 338) (by decide +kernel), by decide +kernel⟩
theorem tw_348 : Cond.fieldLink RX2 25 "ShingleBank$LawReader" "tokens" "LShingleBank$Tokens;" ∈ en_T := List.mem_filter.mpr ⟨List.mem_of_getElem? (i := 348) (by decide +kernel), by decide +kernel⟩
theorem tw_349 : Cond.fieldLink RX2 12 "ShingleBank$LawReader" "law" "LShingleBank$Law;" ∈ en_T := List.mem_filter.mpr ⟨List.mem_of_getElem? (i := 349) (by decide +kernel), by decide +kernel⟩
theorem tw_350 : Cond.fieldLink RX2 18 "ShingleBank$LawReader" "open" "I" ∈ en_T := List.mem_filter.mpr ⟨List.mem_of_getElem? (i := 350) (by decide +kernel), by decide +kernel⟩
theorem tw_351 : Cond.fieldLink RX2 22 "ShingleBank$LawReader" "toldRules" "I" ∈ en_T := List.mem_filter.mpr ⟨List.mem_of_getElem? (i := 351) (by decide +kernel), by decide +kernel⟩
theorem tw_367 : Cond.fieldLink RX4 11 "ShingleBank$Sea" "names" "[I" ∈ en_T := List.mem_filter.mpr ⟨List.mem_of_getElem? (i := 367) (by decide +kernel), by decide +kernel⟩
theorem tw_368 : Cond.fieldLink RX4 17 "ShingleBank$Sea" "stack" "[I" ∈ en_T := List.mem_filter.mpr ⟨List.mem_of_getElem? (i := 368) (by decide +kernel), by decide +kernel⟩
theorem tw_369 : Cond.fieldLink RX4 20 "ShingleBank$Sea" "arriving" "[I" ∈ en_T := List.mem_filter.mpr ⟨List.mem_of_getElem? (i := 369) (by decide +kernel), by decide +kernel⟩
theorem tw_370 : Cond.fieldLink RX4 23 "ShingleBank$Sea" "shift" "I" ∈ en_T := List.mem_filter.mpr ⟨List.mem_of_getElem? (i := 370) (by decide +kernel), by decide +kernel⟩
theorem tw_371 : Cond.fieldLink RX4 27 "ShingleBank$Sea" "caught" "I" ∈ en_T := List.mem_filter.mpr ⟨List.mem_of_getElem? (i := 371) (by decide +kernel), by decide +kernel⟩
theorem tw_372 : Cond.fieldLink RX4 30 "ShingleBank$Sea" "plan" "LShingleBank$Plan;" ∈ en_T := List.mem_filter.mpr ⟨List.mem_of_getElem? (i := 372) (by decide +kernel), by decide +kernel⟩
theorem tw_394 : Cond.fieldLink RX8 29 "ShingleBank$Trials" "sea" "LShingleBank$Sea;" ∈ en_T := List.mem_filter.mpr ⟨List.mem_of_getElem? (i := 394) (by decide +kernel), by decide +kernel⟩
theorem tw_395 : Cond.fieldLink RX8 12 "ShingleBank$Trials" "shore" "LShingleBank$Shore;" ∈ en_T := List.mem_filter.mpr ⟨List.mem_of_getElem? (i := 395) (by decide +kernel), by decide +kernel⟩
theorem tw_396 : Cond.fieldLink RX8 18 "ShingleBank$Trials" "fewer" "[I" ∈ en_T := List.mem_filter.mpr ⟨List.mem_of_getElem? (i := 396) (by decide +kernel), by decide +kernel⟩
theorem tw_397 : Cond.fieldLink RX8 22 "ShingleBank$Trials" "best" "I" ∈ en_T := List.mem_filter.mpr ⟨List.mem_of_getElem? (i := 397) (by decide +kernel), by decide +kernel⟩
theorem tw_398 : Cond.fieldLink RX10 332 "ShingleBank$Trials" "best" "I" ∈ en_T := List.mem_filter.mpr ⟨List.mem_of_getElem? (i := 398) (by decide +kernel), by decide +kernel⟩
theorem tw_399 : Cond.fieldLink RX8 26 "ShingleBank$Trials" "score" "I" ∈ en_T := List.mem_filter.mpr ⟨List.mem_of_getElem? (i := 399) (by decide +kernel), by decide +kernel⟩
theorem tw_400 : Cond.fieldLink RX10 335 "ShingleBank$Trials" "score" "I" ∈ en_T := List.mem_filter.mpr ⟨List.mem_of_getElem? (i := 400) (by decide +kernel), by decide +kernel⟩
theorem tw_418 : Cond.fieldLink RX5 9 "ShingleBank$Senses" "words" "[J" ∈ en_T := List.mem_filter.mpr ⟨List.mem_of_getElem? (i := 418) (by decide +kernel), by decide +kernel⟩
theorem tw_419 : Cond.fieldLink RX5 15 "ShingleBank$Senses" "cells" "I" ∈ en_T := List.mem_filter.mpr ⟨List.mem_of_getElem? (i := 419) (by decide +kernel), by decide +kernel⟩
theorem tw_420 : Cond.fieldLink RX5 19 "ShingleBank$Senses" "all" "J" ∈ en_T := List.mem_filter.mpr ⟨List.mem_of_getElem? (i := 420) (by decide +kernel), by decide +kernel⟩
theorem tw_435 : Cond.fieldLink RX9 9 "ShingleBank$Year" "heights" "[I" ∈ en_T := List.mem_filter.mpr ⟨List.mem_of_getElem? (i := 435) (by decide +kernel), by decide +kernel⟩
theorem tw_436 : Cond.fieldLink RX4 34 "ShingleBank$Year" "heights" "[I" ∈ en_T := List.mem_filter.mpr ⟨List.mem_of_getElem? (i := 436) (by decide +kernel), by decide +kernel⟩
theorem tw_437 : Cond.fieldLink RX9 13 "ShingleBank$Year" "beats" "[I" ∈ en_T := List.mem_filter.mpr ⟨List.mem_of_getElem? (i := 437) (by decide +kernel), by decide +kernel⟩
theorem tw_438 : Cond.fieldLink RX4 39 "ShingleBank$Year" "beats" "[I" ∈ en_T := List.mem_filter.mpr ⟨List.mem_of_getElem? (i := 438) (by decide +kernel), by decide +kernel⟩
theorem tw_439 : Cond.fieldLink RX9 16 "ShingleBank$Year" "froms" "[I" ∈ en_T := List.mem_filter.mpr ⟨List.mem_of_getElem? (i := 439) (by decide +kernel), by decide +kernel⟩
theorem tw_440 : Cond.fieldLink RX4 42 "ShingleBank$Year" "froms" "[I" ∈ en_T := List.mem_filter.mpr ⟨List.mem_of_getElem? (i := 440) (by decide +kernel), by decide +kernel⟩
theorem tw_441 : Cond.fieldLink RX9 19 "ShingleBank$Year" "times" "[I" ∈ en_T := List.mem_filter.mpr ⟨List.mem_of_getElem? (i := 441) (by decide +kernel), by decide +kernel⟩
theorem tw_442 : Cond.fieldLink RX4 159 "ShingleBank$Year" "times" "[I" ∈ en_T := List.mem_filter.mpr ⟨List.mem_of_getElem? (i := 442) (by decide +kernel), by decide +kernel⟩
theorem tw_443 : Cond.fieldLink RX9 22 "ShingleBank$Year" "waves" "I" ∈ en_T := List.mem_filter.mpr ⟨List.mem_of_getElem? (i := 443) (by decide +kernel), by decide +kernel⟩
theorem tw_444 : Cond.fieldLink RX0 139 "ShingleBank$Year" "waves" "I" ∈ en_T := List.mem_filter.mpr ⟨List.mem_of_getElem? (i := 444) (by decide +kernel), by decide +kernel⟩
theorem tw_445 : Cond.fieldLink RX4 152 "ShingleBank$Year" "waves" "I" ∈ en_T := List.mem_filter.mpr ⟨List.mem_of_getElem? (i := 445) (by decide +kernel), by decide +kernel⟩
theorem tw_457 : Cond.fieldLink RX10 9 "ShingleBank" "tape" "[B" ∈ en_T := List.mem_filter.mpr ⟨List.mem_of_getElem? (i := 457) (by decide +kernel), by decide +kernel⟩
theorem tw_458 : Cond.fieldLink RX10 13 "ShingleBank" "taped" "I" ∈ en_T := List.mem_filter.mpr ⟨List.mem_of_getElem? (i := 458) (by decide +kernel), by decide +kernel⟩
theorem tw_459 : Cond.fieldLink RX10 17 "ShingleBank" "faultPlace" "I" ∈ en_T := List.mem_filter.mpr ⟨List.mem_of_getElem? (i := 459) (by decide +kernel), by decide +kernel⟩
theorem tw_460 : Cond.fieldLink RX10 23 "ShingleBank" "plan" "LShingleBank$Plan;" ∈ en_T := List.mem_filter.mpr ⟨List.mem_of_getElem? (i := 460) (by decide +kernel), by decide +kernel⟩
theorem tw_461 : Cond.fieldLink RX10 27 "ShingleBank" "draft" "LShingleBank$Plan;" ∈ en_T := List.mem_filter.mpr ⟨List.mem_of_getElem? (i := 461) (by decide +kernel), by decide +kernel⟩
theorem tw_462 : Cond.fieldLink RX10 32 "ShingleBank" "laws" "[LShingleBank$Law;" ∈ en_T := List.mem_filter.mpr ⟨List.mem_of_getElem? (i := 462) (by decide +kernel), by decide +kernel⟩
theorem tw_463 : Cond.fieldLink RX10 36 "ShingleBank" "lawCount" "I" ∈ en_T := List.mem_filter.mpr ⟨List.mem_of_getElem? (i := 463) (by decide +kernel), by decide +kernel⟩
theorem tw_464 : Cond.fieldLink RX10 41 "ShingleBank" "years" "[LShingleBank$Year;" ∈ en_T := List.mem_filter.mpr ⟨List.mem_of_getElem? (i := 464) (by decide +kernel), by decide +kernel⟩
theorem tw_465 : Cond.fieldLink RX10 45 "ShingleBank" "yearCount" "I" ∈ en_T := List.mem_filter.mpr ⟨List.mem_of_getElem? (i := 465) (by decide +kernel), by decide +kernel⟩
theorem tw_466 : Cond.fieldLink RX10 51 "ShingleBank" "live" "LShingleBank$Shore;" ∈ en_T := List.mem_filter.mpr ⟨List.mem_of_getElem? (i := 466) (by decide +kernel), by decide +kernel⟩
theorem tw_467 : Cond.fieldLink RX10 55 "ShingleBank" "images" "[LShingleBank$Shore;" ∈ en_T := List.mem_filter.mpr ⟨List.mem_of_getElem? (i := 467) (by decide +kernel), by decide +kernel⟩
theorem tw_468 : Cond.fieldLink RX10 59 "ShingleBank" "imageCount" "I" ∈ en_T := List.mem_filter.mpr ⟨List.mem_of_getElem? (i := 468) (by decide +kernel), by decide +kernel⟩
theorem tw_469 : Cond.fieldLink RX10 62 "ShingleBank" "refused" "[I" ∈ en_T := List.mem_filter.mpr ⟨List.mem_of_getElem? (i := 469) (by decide +kernel), by decide +kernel⟩
theorem tw_470 : Cond.fieldLink RX10 69 "ShingleBank" "tokens" "LShingleBank$Tokens;" ∈ en_T := List.mem_filter.mpr ⟨List.mem_of_getElem? (i := 470) (by decide +kernel), by decide +kernel⟩
theorem tw_471 : Cond.fieldLink RX10 78 "ShingleBank" "clauses" "LShingleBank$ClauseReader;" ∈ en_T := List.mem_filter.mpr ⟨List.mem_of_getElem? (i := 471) (by decide +kernel), by decide +kernel⟩
theorem tw_472 : Cond.fieldLink RX10 85 "ShingleBank" "rules" "LShingleBank$LawReader;" ∈ en_T := List.mem_filter.mpr ⟨List.mem_of_getElem? (i := 472) (by decide +kernel), by decide +kernel⟩
theorem tw_473 : Cond.fieldLink RX10 94 "ShingleBank" "sea" "LShingleBank$Sea;" ∈ en_T := List.mem_filter.mpr ⟨List.mem_of_getElem? (i := 473) (by decide +kernel), by decide +kernel⟩
theorem tw_474 : Cond.fieldLink RX10 103 "ShingleBank" "trials" "LShingleBank$Trials;" ∈ en_T := List.mem_filter.mpr ⟨List.mem_of_getElem? (i := 474) (by decide +kernel), by decide +kernel⟩
theorem tw_475 : Cond.fieldLink RX10 110 "ShingleBank" "senses" "LShingleBank$Senses;" ∈ en_T := List.mem_filter.mpr ⟨List.mem_of_getElem? (i := 475) (by decide +kernel), by decide +kernel⟩
theorem tw_516 : Cond.instanceMethod yX10_feed ∈ en_T := List.mem_filter.mpr ⟨List.mem_of_getElem? (i := 516) (by decide +kernel), by decide +kernel⟩
theorem tw_517 : Cond.selects RX10 yX10_feed yX10_feed ∈ en_T := List.mem_filter.mpr ⟨List.mem_of_getElem? (i := 517) (by decide +kernel), by decide +kernel⟩
theorem tw_518 : Cond.code yX10_feed cX10_feed 6 (some .int) ∈ en_T := List.mem_filter.mpr ⟨List.mem_of_getElem? (i := 518) (by decide +kernel), by decide +kernel⟩
theorem tw_519 : Cond.methodLink RX10 153 yX10_tapeNumber ∈ en_T := List.mem_filter.mpr ⟨List.mem_of_getElem? (i := 519) (by decide +kernel), by decide +kernel⟩
theorem tw_521 : Cond.instanceMethod yX10_tapeNumber ∈ en_T := List.mem_filter.mpr ⟨List.mem_of_getElem? (i := 521) (by decide +kernel), by decide +kernel⟩
theorem tw_522 : Cond.code yX10_tapeNumber cX10_tapeNumber 3 none ∈ en_T := List.mem_filter.mpr ⟨List.mem_of_getElem? (i := 522) (by decide +kernel), by decide +kernel⟩
theorem tw_524 : Cond.instanceMethod yX10_fault ∈ en_T := List.mem_filter.mpr ⟨List.mem_of_getElem? (i := 524) (by decide +kernel), by decide +kernel⟩
theorem tw_525 : Cond.selects RX10 yX10_fault yX10_fault ∈ en_T := List.mem_filter.mpr ⟨List.mem_of_getElem? (i := 525) (by decide +kernel), by decide +kernel⟩
theorem tw_526 : Cond.code yX10_fault cX10_fault 1 (some .int) ∈ en_T := List.mem_filter.mpr ⟨List.mem_of_getElem? (i := 526) (by decide +kernel), by decide +kernel⟩
theorem tw_528 : Cond.instanceMethod yX10_horn ∈ en_T := List.mem_filter.mpr ⟨List.mem_of_getElem? (i := 528) (by decide +kernel), by decide +kernel⟩
theorem tw_529 : Cond.selects RX10 yX10_horn yX10_horn ∈ en_T := List.mem_filter.mpr ⟨List.mem_of_getElem? (i := 529) (by decide +kernel), by decide +kernel⟩
theorem tw_530 : Cond.code yX10_horn cX10_horn 4 (some .int) ∈ en_T := List.mem_filter.mpr ⟨List.mem_of_getElem? (i := 530) (by decide +kernel), by decide +kernel⟩
theorem tw_531 : Cond.methodLink RX10 276 yX6_isHorn ∈ en_T := List.mem_filter.mpr ⟨List.mem_of_getElem? (i := 531) (by decide +kernel), by decide +kernel⟩
theorem tw_532 : Cond.instanceMethod yX6_isHorn ∈ en_T := List.mem_filter.mpr ⟨List.mem_of_getElem? (i := 532) (by decide +kernel), by decide +kernel⟩
theorem tw_533 : Cond.selects RX6 yX6_isHorn yX6_isHorn ∈ en_T := List.mem_filter.mpr ⟨List.mem_of_getElem? (i := 533) (by decide +kernel), by decide +kernel⟩
theorem tw_534 : Cond.code yX6_isHorn cX6_isHorn 3 (some .boolean) ∈ en_T := List.mem_filter.mpr ⟨List.mem_of_getElem? (i := 534) (by decide +kernel), by decide +kernel⟩
theorem tw_535 : Cond.methodLink RX6 76 yX6_allIn ∈ en_T := List.mem_filter.mpr ⟨List.mem_of_getElem? (i := 535) (by decide +kernel), by decide +kernel⟩
theorem tw_536 : Cond.instanceMethod yX6_allIn ∈ en_T := List.mem_filter.mpr ⟨List.mem_of_getElem? (i := 536) (by decide +kernel), by decide +kernel⟩
theorem tw_537 : Cond.selects RX6 yX6_allIn yX6_allIn ∈ en_T := List.mem_filter.mpr ⟨List.mem_of_getElem? (i := 537) (by decide +kernel), by decide +kernel⟩
theorem tw_538 : Cond.code yX6_allIn cX6_allIn 5 (some .int) ∈ en_T := List.mem_filter.mpr ⟨List.mem_of_getElem? (i := 538) (by decide +kernel), by decide +kernel⟩
theorem tw_540 : Cond.instanceMethod yX10_drop ∈ en_T := List.mem_filter.mpr ⟨List.mem_of_getElem? (i := 540) (by decide +kernel), by decide +kernel⟩
theorem tw_541 : Cond.selects RX10 yX10_drop yX10_drop ∈ en_T := List.mem_filter.mpr ⟨List.mem_of_getElem? (i := 541) (by decide +kernel), by decide +kernel⟩
theorem tw_542 : Cond.code yX10_drop cX10_drop 2 (some .int) ∈ en_T := List.mem_filter.mpr ⟨List.mem_of_getElem? (i := 542) (by decide +kernel), by decide +kernel⟩
theorem tw_544 : Cond.instanceMethod yX10_lost ∈ en_T := List.mem_filter.mpr ⟨List.mem_of_getElem? (i := 544) (by decide +kernel), by decide +kernel⟩
theorem tw_545 : Cond.selects RX10 yX10_lost yX10_lost ∈ en_T := List.mem_filter.mpr ⟨List.mem_of_getElem? (i := 545) (by decide +kernel), by decide +kernel⟩
theorem tw_546 : Cond.code yX10_lost cX10_lost 3 (some .int) ∈ en_T := List.mem_filter.mpr ⟨List.mem_of_getElem? (i := 546) (by decide +kernel), by decide +kernel⟩
theorem tw_547 : Cond.methodLink RX10 199 yX6_inCell ∈ en_T := List.mem_filter.mpr ⟨List.mem_of_getElem? (i := 547) (by decide +kernel), by decide +kernel⟩
theorem tw_548 : Cond.instanceMethod yX6_inCell ∈ en_T := List.mem_filter.mpr ⟨List.mem_of_getElem? (i := 548) (by decide +kernel), by decide +kernel⟩
theorem tw_549 : Cond.selects RX6 yX6_inCell yX6_inCell ∈ en_T := List.mem_filter.mpr ⟨List.mem_of_getElem? (i := 549) (by decide +kernel), by decide +kernel⟩
theorem tw_550 : Cond.code yX6_inCell cX6_inCell 7 (some .int) ∈ en_T := List.mem_filter.mpr ⟨List.mem_of_getElem? (i := 550) (by decide +kernel), by decide +kernel⟩
theorem tw_551 : Cond.methodLink RX6 72 yX6_heapAt ∈ en_T := List.mem_filter.mpr ⟨List.mem_of_getElem? (i := 551) (by decide +kernel), by decide +kernel⟩
theorem tw_552 : Cond.static yX6_heapAt ∈ en_T := List.mem_filter.mpr ⟨List.mem_of_getElem? (i := 552) (by decide +kernel), by decide +kernel⟩
theorem tw_553 : Cond.code yX6_heapAt cX6_heapAt 3 (some .int) ∈ en_T := List.mem_filter.mpr ⟨List.mem_of_getElem? (i := 553) (by decide +kernel), by decide +kernel⟩
theorem tw_555 : Cond.instanceMethod yX10_image ∈ en_T := List.mem_filter.mpr ⟨List.mem_of_getElem? (i := 555) (by decide +kernel), by decide +kernel⟩
theorem tw_556 : Cond.selects RX10 yX10_image yX10_image ∈ en_T := List.mem_filter.mpr ⟨List.mem_of_getElem? (i := 556) (by decide +kernel), by decide +kernel⟩
theorem tw_557 : Cond.code yX10_image cX10_image 1 (some .int) ∈ en_T := List.mem_filter.mpr ⟨List.mem_of_getElem? (i := 557) (by decide +kernel), by decide +kernel⟩
theorem tw_558 : Cond.methodLink RX10 375 yX6_copy ∈ en_T := List.mem_filter.mpr ⟨List.mem_of_getElem? (i := 558) (by decide +kernel), by decide +kernel⟩
theorem tw_559 : Cond.instanceMethod yX6_copy ∈ en_T := List.mem_filter.mpr ⟨List.mem_of_getElem? (i := 559) (by decide +kernel), by decide +kernel⟩
theorem tw_560 : Cond.selects RX6 yX6_copy yX6_copy ∈ en_T := List.mem_filter.mpr ⟨List.mem_of_getElem? (i := 560) (by decide +kernel), by decide +kernel⟩
theorem tw_561 : Cond.code yX6_copy cX6_copy 2 none ∈ en_T := List.mem_filter.mpr ⟨List.mem_of_getElem? (i := 561) (by decide +kernel), by decide +kernel⟩
theorem tw_562 : Cond.methodLink RX6 54 arraycopyName ∈ en_T := List.mem_filter.mpr ⟨List.mem_of_getElem? (i := 562) (by decide +kernel), by decide +kernel⟩
theorem tw_566 : Cond.instanceMethod yX10_restore ∈ en_T := List.mem_filter.mpr ⟨List.mem_of_getElem? (i := 566) (by decide +kernel), by decide +kernel⟩
theorem tw_567 : Cond.selects RX10 yX10_restore yX10_restore ∈ en_T := List.mem_filter.mpr ⟨List.mem_of_getElem? (i := 567) (by decide +kernel), by decide +kernel⟩
theorem tw_568 : Cond.code yX10_restore cX10_restore 1 (some .int) ∈ en_T := List.mem_filter.mpr ⟨List.mem_of_getElem? (i := 568) (by decide +kernel), by decide +kernel⟩
theorem tw_570 : Cond.instanceMethod yX10_status ∈ en_T := List.mem_filter.mpr ⟨List.mem_of_getElem? (i := 570) (by decide +kernel), by decide +kernel⟩
theorem tw_571 : Cond.selects RX10 yX10_status yX10_status ∈ en_T := List.mem_filter.mpr ⟨List.mem_of_getElem? (i := 571) (by decide +kernel), by decide +kernel⟩
theorem tw_572 : Cond.code yX10_status cX10_status 2 (some .int) ∈ en_T := List.mem_filter.mpr ⟨List.mem_of_getElem? (i := 572) (by decide +kernel), by decide +kernel⟩
theorem tw_574 : Cond.instanceMethod yX10_count ∈ en_T := List.mem_filter.mpr ⟨List.mem_of_getElem? (i := 574) (by decide +kernel), by decide +kernel⟩
theorem tw_575 : Cond.selects RX10 yX10_count yX10_count ∈ en_T := List.mem_filter.mpr ⟨List.mem_of_getElem? (i := 575) (by decide +kernel), by decide +kernel⟩
theorem tw_576 : Cond.code yX10_count cX10_count 2 (some .int) ∈ en_T := List.mem_filter.mpr ⟨List.mem_of_getElem? (i := 576) (by decide +kernel), by decide +kernel⟩
theorem tw_577 : Cond.methodLink RX10 378 yX6_sampled ∈ en_T := List.mem_filter.mpr ⟨List.mem_of_getElem? (i := 577) (by decide +kernel), by decide +kernel⟩
theorem tw_578 : Cond.instanceMethod yX6_sampled ∈ en_T := List.mem_filter.mpr ⟨List.mem_of_getElem? (i := 578) (by decide +kernel), by decide +kernel⟩
theorem tw_579 : Cond.selects RX6 yX6_sampled yX6_sampled ∈ en_T := List.mem_filter.mpr ⟨List.mem_of_getElem? (i := 579) (by decide +kernel), by decide +kernel⟩
theorem tw_580 : Cond.code yX6_sampled cX6_sampled 4 (some .int) ∈ en_T := List.mem_filter.mpr ⟨List.mem_of_getElem? (i := 580) (by decide +kernel), by decide +kernel⟩
theorem tw_582 : Cond.static yL_beach ∈ en_T := List.mem_filter.mpr ⟨List.mem_of_getElem? (i := 582) (by decide +kernel), by decide +kernel⟩
theorem tw_583 : Cond.codeWith yL_beach cL_beach 4 (some .int) [(0, 9, 12, 13)] ∈ en_T := List.mem_filter.mpr ⟨List.mem_of_getElem? (i := 583) (by decide +kernel), by decide +kernel⟩
theorem tw_584 : Cond.classLink RL 13 "java/lang/IllegalArgumentException" ∈ en_T := List.mem_filter.mpr ⟨List.mem_of_getElem? (i := 584) (by decide +kernel), by decide +kernel⟩
theorem tw_585 : Cond.methodLink RL 7 yX10_beach ∈ en_T := List.mem_filter.mpr ⟨List.mem_of_getElem? (i := 585) (by decide +kernel), by decide +kernel⟩
theorem tw_586 : Cond.instanceMethod yX10_beach ∈ en_T := List.mem_filter.mpr ⟨List.mem_of_getElem? (i := 586) (by decide +kernel), by decide +kernel⟩
theorem tw_587 : Cond.selects RX10 yX10_beach yX10_beach ∈ en_T := List.mem_filter.mpr ⟨List.mem_of_getElem? (i := 587) (by decide +kernel), by decide +kernel⟩
theorem tw_588 : Cond.code yX10_beach cX10_beach 4 (some .int) ∈ en_T := List.mem_filter.mpr ⟨List.mem_of_getElem? (i := 588) (by decide +kernel), by decide +kernel⟩
theorem tw_589 : Cond.methodLink RX10 122 yX10_isWithin ∈ en_T := List.mem_filter.mpr ⟨List.mem_of_getElem? (i := 589) (by decide +kernel), by decide +kernel⟩
theorem tw_590 : Cond.static yX10_isWithin ∈ en_T := List.mem_filter.mpr ⟨List.mem_of_getElem? (i := 590) (by decide +kernel), by decide +kernel⟩
theorem tw_591 : Cond.code yX10_isWithin cX10_isWithin 3 (some .boolean) ∈ en_T := List.mem_filter.mpr ⟨List.mem_of_getElem? (i := 591) (by decide +kernel), by decide +kernel⟩
theorem tw_592 : Cond.methodLink RX10 157 yX10_needRight ∈ en_T := List.mem_filter.mpr ⟨List.mem_of_getElem? (i := 592) (by decide +kernel), by decide +kernel⟩
theorem tw_594 : Cond.instanceMethod yX10_needRight ∈ en_T := List.mem_filter.mpr ⟨List.mem_of_getElem? (i := 594) (by decide +kernel), by decide +kernel⟩
theorem tw_595 : Cond.code yX10_needRight cX10_needRight 2 none ∈ en_T := List.mem_filter.mpr ⟨List.mem_of_getElem? (i := 595) (by decide +kernel), by decide +kernel⟩
theorem tw_596 : Cond.classLink RX10 140 "java/lang/IllegalArgumentException" ∈ en_T := List.mem_filter.mpr ⟨List.mem_of_getElem? (i := 596) (by decide +kernel), by decide +kernel⟩
theorem tw_664 : Cond.methodLink RX10 161 yX0_readBeach ∈ en_T := List.mem_filter.mpr ⟨List.mem_of_getElem? (i := 664) (by decide +kernel), by decide +kernel⟩
theorem tw_665 : Cond.instanceMethod yX0_readBeach ∈ en_T := List.mem_filter.mpr ⟨List.mem_of_getElem? (i := 665) (by decide +kernel), by decide +kernel⟩
theorem tw_666 : Cond.selects RX0 yX0_readBeach yX0_readBeach ∈ en_T := List.mem_filter.mpr ⟨List.mem_of_getElem? (i := 666) (by decide +kernel), by decide +kernel⟩
theorem tw_667 : Cond.code yX0_readBeach cX0_readBeach 5 (some .int) ∈ en_T := List.mem_filter.mpr ⟨List.mem_of_getElem? (i := 667) (by decide +kernel), by decide +kernel⟩
theorem tw_668 : Cond.methodLink RX0 25 yX3_clear ∈ en_T := List.mem_filter.mpr ⟨List.mem_of_getElem? (i := 668) (by decide +kernel), by decide +kernel⟩
theorem tw_669 : Cond.instanceMethod yX3_clear ∈ en_T := List.mem_filter.mpr ⟨List.mem_of_getElem? (i := 669) (by decide +kernel), by decide +kernel⟩
theorem tw_670 : Cond.selects RX3 yX3_clear yX3_clear ∈ en_T := List.mem_filter.mpr ⟨List.mem_of_getElem? (i := 670) (by decide +kernel), by decide +kernel⟩
theorem tw_671 : Cond.code yX3_clear cX3_clear 1 none ∈ en_T := List.mem_filter.mpr ⟨List.mem_of_getElem? (i := 671) (by decide +kernel), by decide +kernel⟩
theorem tw_672 : Cond.methodLink RX3 40 yJ7_fill_53178 ∈ en_T := List.mem_filter.mpr ⟨List.mem_of_getElem? (i := 672) (by decide +kernel), by decide +kernel⟩
theorem tw_673 : Cond.static yJ7_fill_53178 ∈ en_T := List.mem_filter.mpr ⟨List.mem_of_getElem? (i := 673) (by decide +kernel), by decide +kernel⟩
theorem tw_674 : Cond.code yJ7_fill_53178 cJ7_fill_53178 4 none ∈ en_T := List.mem_filter.mpr ⟨List.mem_of_getElem? (i := 674) (by decide +kernel), by decide +kernel⟩
theorem tw_675 : Cond.methodLink RX0 30 yX7_open ∈ en_T := List.mem_filter.mpr ⟨List.mem_of_getElem? (i := 675) (by decide +kernel), by decide +kernel⟩
theorem tw_676 : Cond.instanceMethod yX7_open ∈ en_T := List.mem_filter.mpr ⟨List.mem_of_getElem? (i := 676) (by decide +kernel), by decide +kernel⟩
theorem tw_677 : Cond.selects RX7 yX7_open yX7_open ∈ en_T := List.mem_filter.mpr ⟨List.mem_of_getElem? (i := 677) (by decide +kernel), by decide +kernel⟩
theorem tw_678 : Cond.code yX7_open cX7_open 3 none ∈ en_T := List.mem_filter.mpr ⟨List.mem_of_getElem? (i := 678) (by decide +kernel), by decide +kernel⟩
theorem tw_679 : Cond.methodLink RX7 40 yJ9_min_7cf53 ∈ en_T := List.mem_filter.mpr ⟨List.mem_of_getElem? (i := 679) (by decide +kernel), by decide +kernel⟩
theorem tw_680 : Cond.static yJ9_min_7cf53 ∈ en_T := List.mem_filter.mpr ⟨List.mem_of_getElem? (i := 680) (by decide +kernel), by decide +kernel⟩
theorem tw_681 : Cond.code yJ9_min_7cf53 cJ9_min_7cf53 2 (some .int) ∈ en_T := List.mem_filter.mpr ⟨List.mem_of_getElem? (i := 681) (by decide +kernel), by decide +kernel⟩
theorem tw_682 : Cond.methodLink RX7 46 yX7_step ∈ en_T := List.mem_filter.mpr ⟨List.mem_of_getElem? (i := 682) (by decide +kernel), by decide +kernel⟩
theorem tw_683 : Cond.instanceMethod yX7_step ∈ en_T := List.mem_filter.mpr ⟨List.mem_of_getElem? (i := 683) (by decide +kernel), by decide +kernel⟩
theorem tw_684 : Cond.selects RX7 yX7_step yX7_step ∈ en_T := List.mem_filter.mpr ⟨List.mem_of_getElem? (i := 684) (by decide +kernel), by decide +kernel⟩
theorem tw_685 : Cond.code yX7_step cX7_step 1 none ∈ en_T := List.mem_filter.mpr ⟨List.mem_of_getElem? (i := 685) (by decide +kernel), by decide +kernel⟩
theorem tw_686 : Cond.methodLink RX7 49 yX7_isDigit ∈ en_T := List.mem_filter.mpr ⟨List.mem_of_getElem? (i := 686) (by decide +kernel), by decide +kernel⟩
theorem tw_687 : Cond.static yX7_isDigit ∈ en_T := List.mem_filter.mpr ⟨List.mem_of_getElem? (i := 687) (by decide +kernel), by decide +kernel⟩
theorem tw_688 : Cond.code yX7_isDigit cX7_isDigit 1 (some .boolean) ∈ en_T := List.mem_filter.mpr ⟨List.mem_of_getElem? (i := 688) (by decide +kernel), by decide +kernel⟩
theorem tw_689 : Cond.constant RX7 53 (iI 1000000) ∈ en_T := List.mem_filter.mpr ⟨List.mem_of_getElem? (i := 689) (by decide +kernel), by decide +kernel⟩
theorem tw_690 : Cond.methodLink RX7 54 yX7_isLetter ∈ en_T := List.mem_filter.mpr ⟨List.mem_of_getElem? (i := 690) (by decide +kernel), by decide +kernel⟩
theorem tw_691 : Cond.static yX7_isLetter ∈ en_T := List.mem_filter.mpr ⟨List.mem_of_getElem? (i := 691) (by decide +kernel), by decide +kernel⟩
theorem tw_692 : Cond.code yX7_isLetter cX7_isLetter 1 (some .boolean) ∈ en_T := List.mem_filter.mpr ⟨List.mem_of_getElem? (i := 692) (by decide +kernel), by decide +kernel⟩
theorem tw_693 : Cond.methodLink RX0 36 yX7_hasMore ∈ en_T := List.mem_filter.mpr ⟨List.mem_of_getElem? (i := 693) (by decide +kernel), by decide +kernel⟩
theorem tw_694 : Cond.instanceMethod yX7_hasMore ∈ en_T := List.mem_filter.mpr ⟨List.mem_of_getElem? (i := 694) (by decide +kernel), by decide +kernel⟩
theorem tw_695 : Cond.selects RX7 yX7_hasMore yX7_hasMore ∈ en_T := List.mem_filter.mpr ⟨List.mem_of_getElem? (i := 695) (by decide +kernel), by decide +kernel⟩
theorem tw_696 : Cond.code yX7_hasMore cX7_hasMore 1 (some .boolean) ∈ en_T := List.mem_filter.mpr ⟨List.mem_of_getElem? (i := 696) (by decide +kernel), by decide +kernel⟩
theorem tw_697 : Cond.methodLink RX0 40 yX0_readClause ∈ en_T := List.mem_filter.mpr ⟨List.mem_of_getElem? (i := 697) (by decide +kernel), by decide +kernel⟩
theorem tw_699 : Cond.instanceMethod yX0_readClause ∈ en_T := List.mem_filter.mpr ⟨List.mem_of_getElem? (i := 699) (by decide +kernel), by decide +kernel⟩
theorem tw_700 : Cond.code yX0_readClause cX0_readClause 4 none ∈ en_T := List.mem_filter.mpr ⟨List.mem_of_getElem? (i := 700) (by decide +kernel), by decide +kernel⟩
theorem tw_702 : Cond.methodLink RX0 54 yX7_isWord ∈ en_T := List.mem_filter.mpr ⟨List.mem_of_getElem? (i := 702) (by decide +kernel), by decide +kernel⟩
theorem tw_703 : Cond.instanceMethod yX7_isWord ∈ en_T := List.mem_filter.mpr ⟨List.mem_of_getElem? (i := 703) (by decide +kernel), by decide +kernel⟩
theorem tw_704 : Cond.selects RX7 yX7_isWord yX7_isWord ∈ en_T := List.mem_filter.mpr ⟨List.mem_of_getElem? (i := 704) (by decide +kernel), by decide +kernel⟩
theorem tw_705 : Cond.code yX7_isWord cX7_isWord 3 (some .boolean) ∈ en_T := List.mem_filter.mpr ⟨List.mem_of_getElem? (i := 705) (by decide +kernel), by decide +kernel⟩
theorem tw_706 : Cond.methodLink RX7 57 yJ0_length_8abf5 ∈ en_T := List.mem_filter.mpr ⟨List.mem_of_getElem? (i := 706) (by decide +kernel), by decide +kernel⟩
theorem tw_707 : Cond.instanceMethod yJ0_length_8abf5 ∈ en_T := List.mem_filter.mpr ⟨List.mem_of_getElem? (i := 707) (by decide +kernel), by decide +kernel⟩
theorem tw_708 : Cond.selects RJ0 yJ0_length_8abf5 yJ0_length_8abf5 ∈ en_T := List.mem_filter.mpr ⟨List.mem_of_getElem? (i := 708) (by decide +kernel), by decide +kernel⟩
theorem tw_709 : Cond.code yJ0_length_8abf5 cJ0_length_8abf5 1 (some .int) ∈ en_T := List.mem_filter.mpr ⟨List.mem_of_getElem? (i := 709) (by decide +kernel), by decide +kernel⟩
theorem tw_710 : Cond.methodLink RJ0 335 yJ0_coder_7d493 ∈ en_T := List.mem_filter.mpr ⟨List.mem_of_getElem? (i := 710) (by decide +kernel), by decide +kernel⟩
theorem tw_711 : Cond.instanceMethod yJ0_coder_7d493 ∈ en_T := List.mem_filter.mpr ⟨List.mem_of_getElem? (i := 711) (by decide +kernel), by decide +kernel⟩
theorem tw_712 : Cond.selects RJ0 yJ0_coder_7d493 yJ0_coder_7d493 ∈ en_T := List.mem_filter.mpr ⟨List.mem_of_getElem? (i := 712) (by decide +kernel), by decide +kernel⟩
theorem tw_713 : Cond.code yJ0_coder_7d493 cJ0_coder_7d493 1 (some .byte) ∈ en_T := List.mem_filter.mpr ⟨List.mem_of_getElem? (i := 713) (by decide +kernel), by decide +kernel⟩
theorem tw_714 : Cond.fieldLink RJ0 38 "java/lang/String" "COMPACT_STRINGS" "Z" ∈ en_T := List.mem_filter.mpr ⟨List.mem_of_getElem? (i := 714) (by decide +kernel), by decide +kernel⟩
theorem tw_716 : Cond.methodLink RX7 62 yJ0_charAt_5068e ∈ en_T := List.mem_filter.mpr ⟨List.mem_of_getElem? (i := 716) (by decide +kernel), by decide +kernel⟩
theorem tw_717 : Cond.instanceMethod yJ0_charAt_5068e ∈ en_T := List.mem_filter.mpr ⟨List.mem_of_getElem? (i := 717) (by decide +kernel), by decide +kernel⟩
theorem tw_718 : Cond.selects RJ0 yJ0_charAt_5068e yJ0_charAt_5068e ∈ en_T := List.mem_filter.mpr ⟨List.mem_of_getElem? (i := 718) (by decide +kernel), by decide +kernel⟩
theorem tw_719 : Cond.code yJ0_charAt_5068e cJ0_charAt_5068e 2 (some .char) ∈ en_T := List.mem_filter.mpr ⟨List.mem_of_getElem? (i := 719) (by decide +kernel), by decide +kernel⟩
theorem tw_720 : Cond.methodLink RJ0 492 yJ0_isLatin1_aae02 ∈ en_T := List.mem_filter.mpr ⟨List.mem_of_getElem? (i := 720) (by decide +kernel), by decide +kernel⟩
theorem tw_721 : Cond.instanceMethod yJ0_isLatin1_aae02 ∈ en_T := List.mem_filter.mpr ⟨List.mem_of_getElem? (i := 721) (by decide +kernel), by decide +kernel⟩
theorem tw_722 : Cond.selects RJ0 yJ0_isLatin1_aae02 yJ0_isLatin1_aae02 ∈ en_T := List.mem_filter.mpr ⟨List.mem_of_getElem? (i := 722) (by decide +kernel), by decide +kernel⟩
theorem tw_723 : Cond.code yJ0_isLatin1_aae02 cJ0_isLatin1_aae02 1 (some .boolean) ∈ en_T := List.mem_filter.mpr ⟨List.mem_of_getElem? (i := 723) (by decide +kernel), by decide +kernel⟩
theorem tw_724 : Cond.methodLink RJ0 495 yJ1_charAt_3b067 ∈ en_T := List.mem_filter.mpr ⟨List.mem_of_getElem? (i := 724) (by decide +kernel), by decide +kernel⟩
theorem tw_725 : Cond.static yJ1_charAt_3b067 ∈ en_T := List.mem_filter.mpr ⟨List.mem_of_getElem? (i := 725) (by decide +kernel), by decide +kernel⟩
theorem tw_726 : Cond.code yJ1_charAt_3b067 cJ1_charAt_3b067 2 (some .char) ∈ en_T := List.mem_filter.mpr ⟨List.mem_of_getElem? (i := 726) (by decide +kernel), by decide +kernel⟩
theorem tw_727 : Cond.methodLink RJ1 9 yJ0_checkIndex_df160 ∈ en_T := List.mem_filter.mpr ⟨List.mem_of_getElem? (i := 727) (by decide +kernel), by decide +kernel⟩
theorem tw_728 : Cond.static yJ0_checkIndex_df160 ∈ en_T := List.mem_filter.mpr ⟨List.mem_of_getElem? (i := 728) (by decide +kernel), by decide +kernel⟩
theorem tw_729 : Cond.code yJ0_checkIndex_df160 cJ0_checkIndex_df160 2 none ∈ en_T := List.mem_filter.mpr ⟨List.mem_of_getElem? (i := 729) (by decide +kernel), by decide +kernel⟩
theorem tw_730 : Cond.fieldLink RJ0 1053 "jdk/internal/util/Preconditions" "SIOOBE_FORMATTER" "Ljava/util/function/BiFunction;" ∈ en_T := List.mem_filter.mpr ⟨List.mem_of_getElem? (i := 730) (by decide +kernel), by decide +kernel⟩
theorem tw_732 : Cond.methodLink RJ0 1059 yJ3_checkIndex_8e157 ∈ en_T := List.mem_filter.mpr ⟨List.mem_of_getElem? (i := 732) (by decide +kernel), by decide +kernel⟩
theorem tw_733 : Cond.static yJ3_checkIndex_8e157 ∈ en_T := List.mem_filter.mpr ⟨List.mem_of_getElem? (i := 733) (by decide +kernel), by decide +kernel⟩
theorem tw_734 : Cond.code yJ3_checkIndex_8e157 cJ3_checkIndex_8e157 3 (some .int) ∈ en_T := List.mem_filter.mpr ⟨List.mem_of_getElem? (i := 734) (by decide +kernel), by decide +kernel⟩
theorem tw_755 : Cond.methodLink RX0 60 yX0_readExtent ∈ en_T := List.mem_filter.mpr ⟨List.mem_of_getElem? (i := 755) (by decide +kernel), by decide +kernel⟩
theorem tw_757 : Cond.instanceMethod yX0_readExtent ∈ en_T := List.mem_filter.mpr ⟨List.mem_of_getElem? (i := 757) (by decide +kernel), by decide +kernel⟩
theorem tw_758 : Cond.code yX0_readExtent cX0_readExtent 4 none ∈ en_T := List.mem_filter.mpr ⟨List.mem_of_getElem? (i := 758) (by decide +kernel), by decide +kernel⟩
theorem tw_759 : Cond.methodLink RX0 99 yX7_fail ∈ en_T := List.mem_filter.mpr ⟨List.mem_of_getElem? (i := 759) (by decide +kernel), by decide +kernel⟩
theorem tw_760 : Cond.instanceMethod yX7_fail ∈ en_T := List.mem_filter.mpr ⟨List.mem_of_getElem? (i := 760) (by decide +kernel), by decide +kernel⟩
theorem tw_761 : Cond.selects RX7 yX7_fail yX7_fail ∈ en_T := List.mem_filter.mpr ⟨List.mem_of_getElem? (i := 761) (by decide +kernel), by decide +kernel⟩
theorem tw_762 : Cond.code yX7_fail cX7_fail 2 none ∈ en_T := List.mem_filter.mpr ⟨List.mem_of_getElem? (i := 762) (by decide +kernel), by decide +kernel⟩
theorem tw_763 : Cond.methodLink RX0 103 yX7_step ∈ en_T := List.mem_filter.mpr ⟨List.mem_of_getElem? (i := 763) (by decide +kernel), by decide +kernel⟩
theorem tw_764 : Cond.methodLink RX0 76 yX7_needNumber ∈ en_T := List.mem_filter.mpr ⟨List.mem_of_getElem? (i := 764) (by decide +kernel), by decide +kernel⟩
theorem tw_765 : Cond.instanceMethod yX7_needNumber ∈ en_T := List.mem_filter.mpr ⟨List.mem_of_getElem? (i := 765) (by decide +kernel), by decide +kernel⟩
theorem tw_766 : Cond.selects RX7 yX7_needNumber yX7_needNumber ∈ en_T := List.mem_filter.mpr ⟨List.mem_of_getElem? (i := 766) (by decide +kernel), by decide +kernel⟩
theorem tw_767 : Cond.code yX7_needNumber cX7_needNumber 4 (some .int) ∈ en_T := List.mem_filter.mpr ⟨List.mem_of_getElem? (i := 767) (by decide +kernel), by decide +kernel⟩
theorem tw_768 : Cond.methodLink RX7 70 yX7_fail ∈ en_T := List.mem_filter.mpr ⟨List.mem_of_getElem? (i := 768) (by decide +kernel), by decide +kernel⟩
theorem tw_770 : Cond.methodLink RX0 65 yX0_readHeap ∈ en_T := List.mem_filter.mpr ⟨List.mem_of_getElem? (i := 770) (by decide +kernel), by decide +kernel⟩
theorem tw_772 : Cond.instanceMethod yX0_readHeap ∈ en_T := List.mem_filter.mpr ⟨List.mem_of_getElem? (i := 772) (by decide +kernel), by decide +kernel⟩
theorem tw_773 : Cond.code yX0_readHeap cX0_readHeap 4 none ∈ en_T := List.mem_filter.mpr ⟨List.mem_of_getElem? (i := 773) (by decide +kernel), by decide +kernel⟩
theorem tw_774 : Cond.methodLink RX0 70 yX0_beginOther ∈ en_T := List.mem_filter.mpr ⟨List.mem_of_getElem? (i := 774) (by decide +kernel), by decide +kernel⟩
theorem tw_776 : Cond.instanceMethod yX0_beginOther ∈ en_T := List.mem_filter.mpr ⟨List.mem_of_getElem? (i := 776) (by decide +kernel), by decide +kernel⟩
theorem tw_777 : Cond.code yX0_beginOther cX0_beginOther 2 none ∈ en_T := List.mem_filter.mpr ⟨List.mem_of_getElem? (i := 777) (by decide +kernel), by decide +kernel⟩
theorem tw_778 : Cond.methodLink RX0 114 yX0_needHeap ∈ en_T := List.mem_filter.mpr ⟨List.mem_of_getElem? (i := 778) (by decide +kernel), by decide +kernel⟩
theorem tw_780 : Cond.instanceMethod yX0_needHeap ∈ en_T := List.mem_filter.mpr ⟨List.mem_of_getElem? (i := 780) (by decide +kernel), by decide +kernel⟩
theorem tw_781 : Cond.code yX0_needHeap cX0_needHeap 5 (some .int) ∈ en_T := List.mem_filter.mpr ⟨List.mem_of_getElem? (i := 781) (by decide +kernel), by decide +kernel⟩
theorem tw_782 : Cond.methodLink RX0 108 yX6_heapAt ∈ en_T := List.mem_filter.mpr ⟨List.mem_of_getElem? (i := 782) (by decide +kernel), by decide +kernel⟩
theorem tw_786 : Cond.methodLink RX0 91 yX0_readSpring ∈ en_T := List.mem_filter.mpr ⟨List.mem_of_getElem? (i := 786) (by decide +kernel), by decide +kernel⟩
theorem tw_788 : Cond.instanceMethod yX0_readSpring ∈ en_T := List.mem_filter.mpr ⟨List.mem_of_getElem? (i := 788) (by decide +kernel), by decide +kernel⟩
theorem tw_789 : Cond.code yX0_readSpring cX0_readSpring 4 none ∈ en_T := List.mem_filter.mpr ⟨List.mem_of_getElem? (i := 789) (by decide +kernel), by decide +kernel⟩
theorem tw_790 : Cond.methodLink RX0 124 yX3_addSpring ∈ en_T := List.mem_filter.mpr ⟨List.mem_of_getElem? (i := 790) (by decide +kernel), by decide +kernel⟩
theorem tw_791 : Cond.instanceMethod yX3_addSpring ∈ en_T := List.mem_filter.mpr ⟨List.mem_of_getElem? (i := 791) (by decide +kernel), by decide +kernel⟩
theorem tw_792 : Cond.selects RX3 yX3_addSpring yX3_addSpring ∈ en_T := List.mem_filter.mpr ⟨List.mem_of_getElem? (i := 792) (by decide +kernel), by decide +kernel⟩
theorem tw_793 : Cond.code yX3_addSpring cX3_addSpring 3 none ∈ en_T := List.mem_filter.mpr ⟨List.mem_of_getElem? (i := 793) (by decide +kernel), by decide +kernel⟩
theorem tw_795 : Cond.methodLink RX0 96 yX0_readLorry ∈ en_T := List.mem_filter.mpr ⟨List.mem_of_getElem? (i := 795) (by decide +kernel), by decide +kernel⟩
theorem tw_797 : Cond.instanceMethod yX0_readLorry ∈ en_T := List.mem_filter.mpr ⟨List.mem_of_getElem? (i := 797) (by decide +kernel), by decide +kernel⟩
theorem tw_798 : Cond.code yX0_readLorry cX0_readLorry 6 none ∈ en_T := List.mem_filter.mpr ⟨List.mem_of_getElem? (i := 798) (by decide +kernel), by decide +kernel⟩
theorem tw_799 : Cond.methodLink RX0 131 yX7_isNumber ∈ en_T := List.mem_filter.mpr ⟨List.mem_of_getElem? (i := 799) (by decide +kernel), by decide +kernel⟩
theorem tw_800 : Cond.instanceMethod yX7_isNumber ∈ en_T := List.mem_filter.mpr ⟨List.mem_of_getElem? (i := 800) (by decide +kernel), by decide +kernel⟩
theorem tw_801 : Cond.selects RX7 yX7_isNumber yX7_isNumber ∈ en_T := List.mem_filter.mpr ⟨List.mem_of_getElem? (i := 801) (by decide +kernel), by decide +kernel⟩
theorem tw_802 : Cond.code yX7_isNumber cX7_isNumber 2 (some .boolean) ∈ en_T := List.mem_filter.mpr ⟨List.mem_of_getElem? (i := 802) (by decide +kernel), by decide +kernel⟩
theorem tw_803 : Cond.methodLink RX0 135 yX3_addLorry ∈ en_T := List.mem_filter.mpr ⟨List.mem_of_getElem? (i := 803) (by decide +kernel), by decide +kernel⟩
theorem tw_804 : Cond.instanceMethod yX3_addLorry ∈ en_T := List.mem_filter.mpr ⟨List.mem_of_getElem? (i := 804) (by decide +kernel), by decide +kernel⟩
theorem tw_805 : Cond.selects RX3 yX3_addLorry yX3_addLorry ∈ en_T := List.mem_filter.mpr ⟨List.mem_of_getElem? (i := 805) (by decide +kernel), by decide +kernel⟩
theorem tw_806 : Cond.code yX3_addLorry cX3_addLorry 6 none ∈ en_T := List.mem_filter.mpr ⟨List.mem_of_getElem? (i := 806) (by decide +kernel), by decide +kernel⟩
theorem tw_807 : Cond.methodLink RX0 44 yX7_needSign ∈ en_T := List.mem_filter.mpr ⟨List.mem_of_getElem? (i := 807) (by decide +kernel), by decide +kernel⟩
theorem tw_808 : Cond.instanceMethod yX7_needSign ∈ en_T := List.mem_filter.mpr ⟨List.mem_of_getElem? (i := 808) (by decide +kernel), by decide +kernel⟩
theorem tw_809 : Cond.selects RX7 yX7_needSign yX7_needSign ∈ en_T := List.mem_filter.mpr ⟨List.mem_of_getElem? (i := 809) (by decide +kernel), by decide +kernel⟩
theorem tw_810 : Cond.code yX7_needSign cX7_needSign 2 none ∈ en_T := List.mem_filter.mpr ⟨List.mem_of_getElem? (i := 810) (by decide +kernel), by decide +kernel⟩
theorem tw_811 : Cond.methodLink RX7 66 yX7_isSign ∈ en_T := List.mem_filter.mpr ⟨List.mem_of_getElem? (i := 811) (by decide +kernel), by decide +kernel⟩
theorem tw_812 : Cond.instanceMethod yX7_isSign ∈ en_T := List.mem_filter.mpr ⟨List.mem_of_getElem? (i := 812) (by decide +kernel), by decide +kernel⟩
theorem tw_813 : Cond.selects RX7 yX7_isSign yX7_isSign ∈ en_T := List.mem_filter.mpr ⟨List.mem_of_getElem? (i := 813) (by decide +kernel), by decide +kernel⟩
theorem tw_814 : Cond.code yX7_isSign cX7_isSign 2 (some .boolean) ∈ en_T := List.mem_filter.mpr ⟨List.mem_of_getElem? (i := 814) (by decide +kernel), by decide +kernel⟩
theorem tw_815 : Cond.methodLink RX10 166 yX4_follow ∈ en_T := List.mem_filter.mpr ⟨List.mem_of_getElem? (i := 815) (by decide +kernel), by decide +kernel⟩
theorem tw_816 : Cond.instanceMethod yX4_follow ∈ en_T := List.mem_filter.mpr ⟨List.mem_of_getElem? (i := 816) (by decide +kernel), by decide +kernel⟩
theorem tw_817 : Cond.selects RX4 yX4_follow yX4_follow ∈ en_T := List.mem_filter.mpr ⟨List.mem_of_getElem? (i := 817) (by decide +kernel), by decide +kernel⟩
theorem tw_818 : Cond.code yX4_follow cX4_follow 2 none ∈ en_T := List.mem_filter.mpr ⟨List.mem_of_getElem? (i := 818) (by decide +kernel), by decide +kernel⟩
theorem tw_819 : Cond.methodLink RX10 169 yX6_begin ∈ en_T := List.mem_filter.mpr ⟨List.mem_of_getElem? (i := 819) (by decide +kernel), by decide +kernel⟩
theorem tw_820 : Cond.instanceMethod yX6_begin ∈ en_T := List.mem_filter.mpr ⟨List.mem_of_getElem? (i := 820) (by decide +kernel), by decide +kernel⟩
theorem tw_821 : Cond.selects RX6 yX6_begin yX6_begin ∈ en_T := List.mem_filter.mpr ⟨List.mem_of_getElem? (i := 821) (by decide +kernel), by decide +kernel⟩
theorem tw_822 : Cond.code yX6_begin cX6_begin 3 none ∈ en_T := List.mem_filter.mpr ⟨List.mem_of_getElem? (i := 822) (by decide +kernel), by decide +kernel⟩
theorem tw_823 : Cond.methodLink RX6 61 yJ7_fill_53178 ∈ en_T := List.mem_filter.mpr ⟨List.mem_of_getElem? (i := 823) (by decide +kernel), by decide +kernel⟩
theorem tw_824 : Cond.methodLink RX6 68 yX6_add ∈ en_T := List.mem_filter.mpr ⟨List.mem_of_getElem? (i := 824) (by decide +kernel), by decide +kernel⟩
theorem tw_825 : Cond.instanceMethod yX6_add ∈ en_T := List.mem_filter.mpr ⟨List.mem_of_getElem? (i := 825) (by decide +kernel), by decide +kernel⟩
theorem tw_826 : Cond.selects RX6 yX6_add yX6_add ∈ en_T := List.mem_filter.mpr ⟨List.mem_of_getElem? (i := 826) (by decide +kernel), by decide +kernel⟩
theorem tw_827 : Cond.code yX6_add cX6_add 3 none ∈ en_T := List.mem_filter.mpr ⟨List.mem_of_getElem? (i := 827) (by decide +kernel), by decide +kernel⟩
theorem tw_829 : Cond.static yL_law ∈ en_T := List.mem_filter.mpr ⟨List.mem_of_getElem? (i := 829) (by decide +kernel), by decide +kernel⟩
theorem tw_830 : Cond.codeWith yL_law cL_law 4 (some .int) [(0, 9, 12, 13)] ∈ en_T := List.mem_filter.mpr ⟨List.mem_of_getElem? (i := 830) (by decide +kernel), by decide +kernel⟩
theorem tw_831 : Cond.methodLink RL 15 yX10_law ∈ en_T := List.mem_filter.mpr ⟨List.mem_of_getElem? (i := 831) (by decide +kernel), by decide +kernel⟩
theorem tw_832 : Cond.instanceMethod yX10_law ∈ en_T := List.mem_filter.mpr ⟨List.mem_of_getElem? (i := 832) (by decide +kernel), by decide +kernel⟩
theorem tw_833 : Cond.selects RX10 yX10_law yX10_law ∈ en_T := List.mem_filter.mpr ⟨List.mem_of_getElem? (i := 833) (by decide +kernel), by decide +kernel⟩
theorem tw_834 : Cond.code yX10_law cX10_law 3 (some .int) ∈ en_T := List.mem_filter.mpr ⟨List.mem_of_getElem? (i := 834) (by decide +kernel), by decide +kernel⟩
theorem tw_835 : Cond.methodLink RX10 172 yX2_readLaw ∈ en_T := List.mem_filter.mpr ⟨List.mem_of_getElem? (i := 835) (by decide +kernel), by decide +kernel⟩
theorem tw_836 : Cond.instanceMethod yX2_readLaw ∈ en_T := List.mem_filter.mpr ⟨List.mem_of_getElem? (i := 836) (by decide +kernel), by decide +kernel⟩
theorem tw_837 : Cond.selects RX2 yX2_readLaw yX2_readLaw ∈ en_T := List.mem_filter.mpr ⟨List.mem_of_getElem? (i := 837) (by decide +kernel), by decide +kernel⟩
theorem tw_838 : Cond.code yX2_readLaw cX2_readLaw 5 (some .int) ∈ en_T := List.mem_filter.mpr ⟨List.mem_of_getElem? (i := 838) (by decide +kernel), by decide +kernel⟩
theorem tw_839 : Cond.methodLink RX2 29 yX1_clear ∈ en_T := List.mem_filter.mpr ⟨List.mem_of_getElem? (i := 839) (by decide +kernel), by decide +kernel⟩
theorem tw_840 : Cond.instanceMethod yX1_clear ∈ en_T := List.mem_filter.mpr ⟨List.mem_of_getElem? (i := 840) (by decide +kernel), by decide +kernel⟩
theorem tw_841 : Cond.selects RX1 yX1_clear yX1_clear ∈ en_T := List.mem_filter.mpr ⟨List.mem_of_getElem? (i := 841) (by decide +kernel), by decide +kernel⟩
theorem tw_842 : Cond.code yX1_clear cX1_clear 1 none ∈ en_T := List.mem_filter.mpr ⟨List.mem_of_getElem? (i := 842) (by decide +kernel), by decide +kernel⟩
theorem tw_843 : Cond.methodLink RX1 25 yJ7_fill_53178 ∈ en_T := List.mem_filter.mpr ⟨List.mem_of_getElem? (i := 843) (by decide +kernel), by decide +kernel⟩
theorem tw_844 : Cond.methodLink RX2 32 yX7_open ∈ en_T := List.mem_filter.mpr ⟨List.mem_of_getElem? (i := 844) (by decide +kernel), by decide +kernel⟩
theorem tw_845 : Cond.methodLink RX2 37 yX7_hasMore ∈ en_T := List.mem_filter.mpr ⟨List.mem_of_getElem? (i := 845) (by decide +kernel), by decide +kernel⟩
theorem tw_846 : Cond.methodLink RX2 41 yX2_readRule ∈ en_T := List.mem_filter.mpr ⟨List.mem_of_getElem? (i := 846) (by decide +kernel), by decide +kernel⟩
theorem tw_848 : Cond.instanceMethod yX2_readRule ∈ en_T := List.mem_filter.mpr ⟨List.mem_of_getElem? (i := 848) (by decide +kernel), by decide +kernel⟩
theorem tw_849 : Cond.code yX2_readRule cX2_readRule 2 none ∈ en_T := List.mem_filter.mpr ⟨List.mem_of_getElem? (i := 849) (by decide +kernel), by decide +kernel⟩
theorem tw_850 : Cond.methodLink RX2 47 yX2_ruleTold ∈ en_T := List.mem_filter.mpr ⟨List.mem_of_getElem? (i := 850) (by decide +kernel), by decide +kernel⟩
theorem tw_852 : Cond.instanceMethod yX2_ruleTold ∈ en_T := List.mem_filter.mpr ⟨List.mem_of_getElem? (i := 852) (by decide +kernel), by decide +kernel⟩
theorem tw_853 : Cond.code yX2_ruleTold cX2_ruleTold 1 (some .int) ∈ en_T := List.mem_filter.mpr ⟨List.mem_of_getElem? (i := 853) (by decide +kernel), by decide +kernel⟩
theorem tw_855 : Cond.methodLink RX2 77 yX7_isWord ∈ en_T := List.mem_filter.mpr ⟨List.mem_of_getElem? (i := 855) (by decide +kernel), by decide +kernel⟩
theorem tw_858 : Cond.methodLink RX2 51 yX7_fail ∈ en_T := List.mem_filter.mpr ⟨List.mem_of_getElem? (i := 858) (by decide +kernel), by decide +kernel⟩
theorem tw_859 : Cond.methodLink RX2 55 yX7_step ∈ en_T := List.mem_filter.mpr ⟨List.mem_of_getElem? (i := 859) (by decide +kernel), by decide +kernel⟩
theorem tw_860 : Cond.methodLink RX2 58 yX7_needSign ∈ en_T := List.mem_filter.mpr ⟨List.mem_of_getElem? (i := 860) (by decide +kernel), by decide +kernel⟩
theorem tw_861 : Cond.methodLink RX2 69 yX2_readValue ∈ en_T := List.mem_filter.mpr ⟨List.mem_of_getElem? (i := 861) (by decide +kernel), by decide +kernel⟩
theorem tw_863 : Cond.instanceMethod yX2_readValue ∈ en_T := List.mem_filter.mpr ⟨List.mem_of_getElem? (i := 863) (by decide +kernel), by decide +kernel⟩
theorem tw_864 : Cond.code yX2_readValue cX2_readValue 3 none ∈ en_T := List.mem_filter.mpr ⟨List.mem_of_getElem? (i := 864) (by decide +kernel), by decide +kernel⟩
theorem tw_866 : Cond.methodLink RX2 87 yX2_readChoice ∈ en_T := List.mem_filter.mpr ⟨List.mem_of_getElem? (i := 866) (by decide +kernel), by decide +kernel⟩
theorem tw_868 : Cond.instanceMethod yX2_readChoice ∈ en_T := List.mem_filter.mpr ⟨List.mem_of_getElem? (i := 868) (by decide +kernel), by decide +kernel⟩
theorem tw_869 : Cond.code yX2_readChoice cX2_readChoice 3 none ∈ en_T := List.mem_filter.mpr ⟨List.mem_of_getElem? (i := 869) (by decide +kernel), by decide +kernel⟩
theorem tw_870 : Cond.methodLink RX2 100 yX2_enters ∈ en_T := List.mem_filter.mpr ⟨List.mem_of_getElem? (i := 870) (by decide +kernel), by decide +kernel⟩
theorem tw_872 : Cond.instanceMethod yX2_enters ∈ en_T := List.mem_filter.mpr ⟨List.mem_of_getElem? (i := 872) (by decide +kernel), by decide +kernel⟩
theorem tw_873 : Cond.code yX2_enters cX2_enters 1 (some .boolean) ∈ en_T := List.mem_filter.mpr ⟨List.mem_of_getElem? (i := 873) (by decide +kernel), by decide +kernel⟩
theorem tw_874 : Cond.methodLink RX2 103 yX2_readCondition ∈ en_T := List.mem_filter.mpr ⟨List.mem_of_getElem? (i := 874) (by decide +kernel), by decide +kernel⟩
theorem tw_876 : Cond.instanceMethod yX2_readCondition ∈ en_T := List.mem_filter.mpr ⟨List.mem_of_getElem? (i := 876) (by decide +kernel), by decide +kernel⟩
theorem tw_877 : Cond.code yX2_readCondition cX2_readCondition 2 none ∈ en_T := List.mem_filter.mpr ⟨List.mem_of_getElem? (i := 877) (by decide +kernel), by decide +kernel⟩
theorem tw_878 : Cond.methodLink RX2 152 yX2_readBoth ∈ en_T := List.mem_filter.mpr ⟨List.mem_of_getElem? (i := 878) (by decide +kernel), by decide +kernel⟩
theorem tw_880 : Cond.instanceMethod yX2_readBoth ∈ en_T := List.mem_filter.mpr ⟨List.mem_of_getElem? (i := 880) (by decide +kernel), by decide +kernel⟩
theorem tw_881 : Cond.code yX2_readBoth cX2_readBoth 2 none ∈ en_T := List.mem_filter.mpr ⟨List.mem_of_getElem? (i := 881) (by decide +kernel), by decide +kernel⟩
theorem tw_882 : Cond.methodLink RX2 157 yX2_readTest ∈ en_T := List.mem_filter.mpr ⟨List.mem_of_getElem? (i := 882) (by decide +kernel), by decide +kernel⟩
theorem tw_884 : Cond.instanceMethod yX2_readTest ∈ en_T := List.mem_filter.mpr ⟨List.mem_of_getElem? (i := 884) (by decide +kernel), by decide +kernel⟩
theorem tw_885 : Cond.code yX2_readTest cX2_readTest 2 none ∈ en_T := List.mem_filter.mpr ⟨List.mem_of_getElem? (i := 885) (by decide +kernel), by decide +kernel⟩
theorem tw_887 : Cond.methodLink RX2 97 yX1_emit ∈ en_T := List.mem_filter.mpr ⟨List.mem_of_getElem? (i := 887) (by decide +kernel), by decide +kernel⟩
theorem tw_888 : Cond.instanceMethod yX1_emit ∈ en_T := List.mem_filter.mpr ⟨List.mem_of_getElem? (i := 888) (by decide +kernel), by decide +kernel⟩
theorem tw_889 : Cond.selects RX1 yX1_emit yX1_emit ∈ en_T := List.mem_filter.mpr ⟨List.mem_of_getElem? (i := 889) (by decide +kernel), by decide +kernel⟩
theorem tw_890 : Cond.code yX1_emit cX1_emit 2 none ∈ en_T := List.mem_filter.mpr ⟨List.mem_of_getElem? (i := 890) (by decide +kernel), by decide +kernel⟩
theorem tw_891 : Cond.methodLink RX2 93 yX7_isSign ∈ en_T := List.mem_filter.mpr ⟨List.mem_of_getElem? (i := 891) (by decide +kernel), by decide +kernel⟩
theorem tw_892 : Cond.methodLink RX2 164 yX2_comparisonTold ∈ en_T := List.mem_filter.mpr ⟨List.mem_of_getElem? (i := 892) (by decide +kernel), by decide +kernel⟩
theorem tw_894 : Cond.instanceMethod yX2_comparisonTold ∈ en_T := List.mem_filter.mpr ⟨List.mem_of_getElem? (i := 894) (by decide +kernel), by decide +kernel⟩
theorem tw_895 : Cond.code yX2_comparisonTold cX2_comparisonTold 1 (some .int) ∈ en_T := List.mem_filter.mpr ⟨List.mem_of_getElem? (i := 895) (by decide +kernel), by decide +kernel⟩
theorem tw_899 : Cond.methodLink RX2 108 yX7_needWord ∈ en_T := List.mem_filter.mpr ⟨List.mem_of_getElem? (i := 899) (by decide +kernel), by decide +kernel⟩
theorem tw_900 : Cond.instanceMethod yX7_needWord ∈ en_T := List.mem_filter.mpr ⟨List.mem_of_getElem? (i := 900) (by decide +kernel), by decide +kernel⟩
theorem tw_901 : Cond.selects RX7 yX7_needWord yX7_needWord ∈ en_T := List.mem_filter.mpr ⟨List.mem_of_getElem? (i := 901) (by decide +kernel), by decide +kernel⟩
theorem tw_902 : Cond.code yX7_needWord cX7_needWord 2 none ∈ en_T := List.mem_filter.mpr ⟨List.mem_of_getElem? (i := 902) (by decide +kernel), by decide +kernel⟩
theorem tw_903 : Cond.methodLink RX7 74 yX7_isWord ∈ en_T := List.mem_filter.mpr ⟨List.mem_of_getElem? (i := 903) (by decide +kernel), by decide +kernel⟩
theorem tw_904 : Cond.methodLink RX2 112 yX1_emitJump ∈ en_T := List.mem_filter.mpr ⟨List.mem_of_getElem? (i := 904) (by decide +kernel), by decide +kernel⟩
theorem tw_905 : Cond.instanceMethod yX1_emitJump ∈ en_T := List.mem_filter.mpr ⟨List.mem_of_getElem? (i := 905) (by decide +kernel), by decide +kernel⟩
theorem tw_906 : Cond.selects RX1 yX1_emitJump yX1_emitJump ∈ en_T := List.mem_filter.mpr ⟨List.mem_of_getElem? (i := 906) (by decide +kernel), by decide +kernel⟩
theorem tw_907 : Cond.code yX1_emitJump cX1_emitJump 2 (some .int) ∈ en_T := List.mem_filter.mpr ⟨List.mem_of_getElem? (i := 907) (by decide +kernel), by decide +kernel⟩
theorem tw_908 : Cond.methodLink RX1 31 yX1_emit ∈ en_T := List.mem_filter.mpr ⟨List.mem_of_getElem? (i := 908) (by decide +kernel), by decide +kernel⟩
theorem tw_910 : Cond.methodLink RX2 118 yX1_aim ∈ en_T := List.mem_filter.mpr ⟨List.mem_of_getElem? (i := 910) (by decide +kernel), by decide +kernel⟩
theorem tw_911 : Cond.instanceMethod yX1_aim ∈ en_T := List.mem_filter.mpr ⟨List.mem_of_getElem? (i := 911) (by decide +kernel), by decide +kernel⟩
theorem tw_912 : Cond.selects RX1 yX1_aim yX1_aim ∈ en_T := List.mem_filter.mpr ⟨List.mem_of_getElem? (i := 912) (by decide +kernel), by decide +kernel⟩
theorem tw_913 : Cond.code yX1_aim cX1_aim 2 none ∈ en_T := List.mem_filter.mpr ⟨List.mem_of_getElem? (i := 913) (by decide +kernel), by decide +kernel⟩
theorem tw_914 : Cond.methodLink RX2 90 yX2_readTerm ∈ en_T := List.mem_filter.mpr ⟨List.mem_of_getElem? (i := 914) (by decide +kernel), by decide +kernel⟩
theorem tw_916 : Cond.instanceMethod yX2_readTerm ∈ en_T := List.mem_filter.mpr ⟨List.mem_of_getElem? (i := 916) (by decide +kernel), by decide +kernel⟩
theorem tw_917 : Cond.code yX2_readTerm cX2_readTerm 3 none ∈ en_T := List.mem_filter.mpr ⟨List.mem_of_getElem? (i := 917) (by decide +kernel), by decide +kernel⟩
theorem tw_918 : Cond.methodLink RX2 121 yX2_readFactor ∈ en_T := List.mem_filter.mpr ⟨List.mem_of_getElem? (i := 918) (by decide +kernel), by decide +kernel⟩
theorem tw_920 : Cond.instanceMethod yX2_readFactor ∈ en_T := List.mem_filter.mpr ⟨List.mem_of_getElem? (i := 920) (by decide +kernel), by decide +kernel⟩
theorem tw_921 : Cond.code yX2_readFactor cX2_readFactor 2 none ∈ en_T := List.mem_filter.mpr ⟨List.mem_of_getElem? (i := 921) (by decide +kernel), by decide +kernel⟩
theorem tw_922 : Cond.methodLink RX2 124 yX2_nameTold ∈ en_T := List.mem_filter.mpr ⟨List.mem_of_getElem? (i := 922) (by decide +kernel), by decide +kernel⟩
theorem tw_924 : Cond.instanceMethod yX2_nameTold ∈ en_T := List.mem_filter.mpr ⟨List.mem_of_getElem? (i := 924) (by decide +kernel), by decide +kernel⟩
theorem tw_925 : Cond.code yX2_nameTold cX2_nameTold 1 (some .int) ∈ en_T := List.mem_filter.mpr ⟨List.mem_of_getElem? (i := 925) (by decide +kernel), by decide +kernel⟩
theorem tw_935 : Cond.methodLink RX2 127 yX7_hasNumber ∈ en_T := List.mem_filter.mpr ⟨List.mem_of_getElem? (i := 935) (by decide +kernel), by decide +kernel⟩
theorem tw_936 : Cond.instanceMethod yX7_hasNumber ∈ en_T := List.mem_filter.mpr ⟨List.mem_of_getElem? (i := 936) (by decide +kernel), by decide +kernel⟩
theorem tw_937 : Cond.selects RX7 yX7_hasNumber yX7_hasNumber ∈ en_T := List.mem_filter.mpr ⟨List.mem_of_getElem? (i := 937) (by decide +kernel), by decide +kernel⟩
theorem tw_938 : Cond.code yX7_hasNumber cX7_hasNumber 1 (some .boolean) ∈ en_T := List.mem_filter.mpr ⟨List.mem_of_getElem? (i := 938) (by decide +kernel), by decide +kernel⟩
theorem tw_939 : Cond.methodLink RX2 130 yX7_needNumber ∈ en_T := List.mem_filter.mpr ⟨List.mem_of_getElem? (i := 939) (by decide +kernel), by decide +kernel⟩
theorem tw_941 : Cond.static yL_year ∈ en_T := List.mem_filter.mpr ⟨List.mem_of_getElem? (i := 941) (by decide +kernel), by decide +kernel⟩
theorem tw_942 : Cond.codeWith yL_year cL_year 4 (some .int) [(0, 9, 12, 13)] ∈ en_T := List.mem_filter.mpr ⟨List.mem_of_getElem? (i := 942) (by decide +kernel), by decide +kernel⟩
theorem tw_943 : Cond.methodLink RL 18 yX10_year ∈ en_T := List.mem_filter.mpr ⟨List.mem_of_getElem? (i := 943) (by decide +kernel), by decide +kernel⟩
theorem tw_944 : Cond.instanceMethod yX10_year ∈ en_T := List.mem_filter.mpr ⟨List.mem_of_getElem? (i := 944) (by decide +kernel), by decide +kernel⟩
theorem tw_945 : Cond.selects RX10 yX10_year yX10_year ∈ en_T := List.mem_filter.mpr ⟨List.mem_of_getElem? (i := 945) (by decide +kernel), by decide +kernel⟩
theorem tw_946 : Cond.code yX10_year cX10_year 3 (some .int) ∈ en_T := List.mem_filter.mpr ⟨List.mem_of_getElem? (i := 946) (by decide +kernel), by decide +kernel⟩
theorem tw_947 : Cond.methodLink RX10 176 yX0_readYear ∈ en_T := List.mem_filter.mpr ⟨List.mem_of_getElem? (i := 947) (by decide +kernel), by decide +kernel⟩
theorem tw_948 : Cond.instanceMethod yX0_readYear ∈ en_T := List.mem_filter.mpr ⟨List.mem_of_getElem? (i := 948) (by decide +kernel), by decide +kernel⟩
theorem tw_949 : Cond.selects RX0 yX0_readYear yX0_readYear ∈ en_T := List.mem_filter.mpr ⟨List.mem_of_getElem? (i := 949) (by decide +kernel), by decide +kernel⟩
theorem tw_950 : Cond.code yX0_readYear cX0_readYear 5 (some .int) ∈ en_T := List.mem_filter.mpr ⟨List.mem_of_getElem? (i := 950) (by decide +kernel), by decide +kernel⟩
theorem tw_951 : Cond.methodLink RX0 144 yX0_readWave ∈ en_T := List.mem_filter.mpr ⟨List.mem_of_getElem? (i := 951) (by decide +kernel), by decide +kernel⟩
theorem tw_953 : Cond.instanceMethod yX0_readWave ∈ en_T := List.mem_filter.mpr ⟨List.mem_of_getElem? (i := 953) (by decide +kernel), by decide +kernel⟩
theorem tw_954 : Cond.code yX0_readWave cX0_readWave 7 none ∈ en_T := List.mem_filter.mpr ⟨List.mem_of_getElem? (i := 954) (by decide +kernel), by decide +kernel⟩
theorem tw_956 : Cond.methodLink RX0 150 yX7_needWord ∈ en_T := List.mem_filter.mpr ⟨List.mem_of_getElem? (i := 956) (by decide +kernel), by decide +kernel⟩
theorem tw_958 : Cond.methodLink RX0 156 yX9_add ∈ en_T := List.mem_filter.mpr ⟨List.mem_of_getElem? (i := 958) (by decide +kernel), by decide +kernel⟩
theorem tw_959 : Cond.instanceMethod yX9_add ∈ en_T := List.mem_filter.mpr ⟨List.mem_of_getElem? (i := 959) (by decide +kernel), by decide +kernel⟩
theorem tw_960 : Cond.selects RX9 yX9_add yX9_add ∈ en_T := List.mem_filter.mpr ⟨List.mem_of_getElem? (i := 960) (by decide +kernel), by decide +kernel⟩
theorem tw_961 : Cond.code yX9_add cX9_add 5 none ∈ en_T := List.mem_filter.mpr ⟨List.mem_of_getElem? (i := 961) (by decide +kernel), by decide +kernel⟩
theorem tw_963 : Cond.static yL_told ∈ en_T := List.mem_filter.mpr ⟨List.mem_of_getElem? (i := 963) (by decide +kernel), by decide +kernel⟩
theorem tw_964 : Cond.codeWith yL_told cL_told 4 (some .int) [(0, 9, 12, 13)] ∈ en_T := List.mem_filter.mpr ⟨List.mem_of_getElem? (i := 964) (by decide +kernel), by decide +kernel⟩
theorem tw_965 : Cond.methodLink RL 21 yX10_told ∈ en_T := List.mem_filter.mpr ⟨List.mem_of_getElem? (i := 965) (by decide +kernel), by decide +kernel⟩
theorem tw_966 : Cond.instanceMethod yX10_told ∈ en_T := List.mem_filter.mpr ⟨List.mem_of_getElem? (i := 966) (by decide +kernel), by decide +kernel⟩
theorem tw_967 : Cond.selects RX10 yX10_told yX10_told ∈ en_T := List.mem_filter.mpr ⟨List.mem_of_getElem? (i := 967) (by decide +kernel), by decide +kernel⟩
theorem tw_968 : Cond.code yX10_told cX10_told 2 (some .int) ∈ en_T := List.mem_filter.mpr ⟨List.mem_of_getElem? (i := 968) (by decide +kernel), by decide +kernel⟩
theorem tw_970 : Cond.static yL_stones ∈ en_T := List.mem_filter.mpr ⟨List.mem_of_getElem? (i := 970) (by decide +kernel), by decide +kernel⟩
theorem tw_971 : Cond.codeWith yL_stones cL_stones 6 (some .int) [(0, 12, 15, 28), (0, 12, 19, 13)] ∈ en_T := List.mem_filter.mpr ⟨List.mem_of_getElem? (i := 971) (by decide +kernel), by decide +kernel⟩
theorem tw_972 : Cond.classLink RL 28 "java/lang/IndexOutOfBoundsException" ∈ en_T := List.mem_filter.mpr ⟨List.mem_of_getElem? (i := 972) (by decide +kernel), by decide +kernel⟩
theorem tw_973 : Cond.methodLink RL 24 yX10_stones ∈ en_T := List.mem_filter.mpr ⟨List.mem_of_getElem? (i := 973) (by decide +kernel), by decide +kernel⟩
theorem tw_974 : Cond.instanceMethod yX10_stones ∈ en_T := List.mem_filter.mpr ⟨List.mem_of_getElem? (i := 974) (by decide +kernel), by decide +kernel⟩
theorem tw_975 : Cond.selects RX10 yX10_stones yX10_stones ∈ en_T := List.mem_filter.mpr ⟨List.mem_of_getElem? (i := 975) (by decide +kernel), by decide +kernel⟩
theorem tw_976 : Cond.code yX10_stones cX10_stones 6 (some .int) ∈ en_T := List.mem_filter.mpr ⟨List.mem_of_getElem? (i := 976) (by decide +kernel), by decide +kernel⟩
theorem tw_977 : Cond.methodLink RX10 186 yX10_isCell ∈ en_T := List.mem_filter.mpr ⟨List.mem_of_getElem? (i := 977) (by decide +kernel), by decide +kernel⟩
theorem tw_979 : Cond.instanceMethod yX10_isCell ∈ en_T := List.mem_filter.mpr ⟨List.mem_of_getElem? (i := 979) (by decide +kernel), by decide +kernel⟩
theorem tw_980 : Cond.code yX10_isCell cX10_isCell 2 (some .boolean) ∈ en_T := List.mem_filter.mpr ⟨List.mem_of_getElem? (i := 980) (by decide +kernel), by decide +kernel⟩
theorem tw_981 : Cond.methodLink RX10 190 yX10_needPlace ∈ en_T := List.mem_filter.mpr ⟨List.mem_of_getElem? (i := 981) (by decide +kernel), by decide +kernel⟩
theorem tw_983 : Cond.instanceMethod yX10_needPlace ∈ en_T := List.mem_filter.mpr ⟨List.mem_of_getElem? (i := 983) (by decide +kernel), by decide +kernel⟩
theorem tw_984 : Cond.code yX10_needPlace cX10_needPlace 2 none ∈ en_T := List.mem_filter.mpr ⟨List.mem_of_getElem? (i := 984) (by decide +kernel), by decide +kernel⟩
theorem tw_985 : Cond.classLink RX10 126 "java/lang/IndexOutOfBoundsException" ∈ en_T := List.mem_filter.mpr ⟨List.mem_of_getElem? (i := 985) (by decide +kernel), by decide +kernel⟩
theorem tw_1001 : Cond.methodLink RX10 193 yX10_isSize ∈ en_T := List.mem_filter.mpr ⟨List.mem_of_getElem? (i := 1001) (by decide +kernel), by decide +kernel⟩
theorem tw_1003 : Cond.instanceMethod yX10_isSize ∈ en_T := List.mem_filter.mpr ⟨List.mem_of_getElem? (i := 1003) (by decide +kernel), by decide +kernel⟩
theorem tw_1004 : Cond.code yX10_isSize cX10_isSize 2 (some .boolean) ∈ en_T := List.mem_filter.mpr ⟨List.mem_of_getElem? (i := 1004) (by decide +kernel), by decide +kernel⟩
theorem tw_1005 : Cond.methodLink RX10 196 yX10_isStuff ∈ en_T := List.mem_filter.mpr ⟨List.mem_of_getElem? (i := 1005) (by decide +kernel), by decide +kernel⟩
theorem tw_1006 : Cond.static yX10_isStuff ∈ en_T := List.mem_filter.mpr ⟨List.mem_of_getElem? (i := 1006) (by decide +kernel), by decide +kernel⟩
theorem tw_1007 : Cond.code yX10_isStuff cX10_isStuff 1 (some .boolean) ∈ en_T := List.mem_filter.mpr ⟨List.mem_of_getElem? (i := 1007) (by decide +kernel), by decide +kernel⟩
theorem tw_1009 : Cond.static yL_cell ∈ en_T := List.mem_filter.mpr ⟨List.mem_of_getElem? (i := 1009) (by decide +kernel), by decide +kernel⟩
theorem tw_1010 : Cond.codeWith yL_cell cL_cell 5 (some .int) [(0, 10, 13, 28), (0, 10, 17, 13)] ∈ en_T := List.mem_filter.mpr ⟨List.mem_of_getElem? (i := 1010) (by decide +kernel), by decide +kernel⟩
theorem tw_1011 : Cond.methodLink RL 30 yX10_cell ∈ en_T := List.mem_filter.mpr ⟨List.mem_of_getElem? (i := 1011) (by decide +kernel), by decide +kernel⟩
theorem tw_1012 : Cond.instanceMethod yX10_cell ∈ en_T := List.mem_filter.mpr ⟨List.mem_of_getElem? (i := 1012) (by decide +kernel), by decide +kernel⟩
theorem tw_1013 : Cond.selects RX10 yX10_cell yX10_cell ∈ en_T := List.mem_filter.mpr ⟨List.mem_of_getElem? (i := 1013) (by decide +kernel), by decide +kernel⟩
theorem tw_1014 : Cond.code yX10_cell cX10_cell 3 (some .int) ∈ en_T := List.mem_filter.mpr ⟨List.mem_of_getElem? (i := 1014) (by decide +kernel), by decide +kernel⟩
theorem tw_1016 : Cond.static yL_put ∈ en_T := List.mem_filter.mpr ⟨List.mem_of_getElem? (i := 1016) (by decide +kernel), by decide +kernel⟩
theorem tw_1017 : Cond.codeWith yL_put cL_put 7 (some .int) [(0, 14, 17, 28), (0, 14, 21, 13)] ∈ en_T := List.mem_filter.mpr ⟨List.mem_of_getElem? (i := 1017) (by decide +kernel), by decide +kernel⟩
theorem tw_1018 : Cond.methodLink RL 34 yX10_put ∈ en_T := List.mem_filter.mpr ⟨List.mem_of_getElem? (i := 1018) (by decide +kernel), by decide +kernel⟩
theorem tw_1019 : Cond.instanceMethod yX10_put ∈ en_T := List.mem_filter.mpr ⟨List.mem_of_getElem? (i := 1019) (by decide +kernel), by decide +kernel⟩
theorem tw_1020 : Cond.selects RX10 yX10_put yX10_put ∈ en_T := List.mem_filter.mpr ⟨List.mem_of_getElem? (i := 1020) (by decide +kernel), by decide +kernel⟩
theorem tw_1021 : Cond.code yX10_put cX10_put 6 (some .int) ∈ en_T := List.mem_filter.mpr ⟨List.mem_of_getElem? (i := 1021) (by decide +kernel), by decide +kernel⟩
theorem tw_1022 : Cond.methodLink RX10 212 yX6_heapAt ∈ en_T := List.mem_filter.mpr ⟨List.mem_of_getElem? (i := 1022) (by decide +kernel), by decide +kernel⟩
theorem tw_1023 : Cond.methodLink RX10 215 yX6_add ∈ en_T := List.mem_filter.mpr ⟨List.mem_of_getElem? (i := 1023) (by decide +kernel), by decide +kernel⟩
theorem tw_1025 : Cond.static yL_says ∈ en_T := List.mem_filter.mpr ⟨List.mem_of_getElem? (i := 1025) (by decide +kernel), by decide +kernel⟩
theorem tw_1026 : Cond.codeWith yL_says cL_says 11 (some .int) [(0, 22, 25, 28), (0, 22, 29, 42), (0, 22, 33, 13)] ∈ en_T := List.mem_filter.mpr ⟨List.mem_of_getElem? (i := 1026) (by decide +kernel), by decide +kernel⟩
theorem tw_1027 : Cond.classLink RL 42 "java/util/NoSuchElementException" ∈ en_T := List.mem_filter.mpr ⟨List.mem_of_getElem? (i := 1027) (by decide +kernel), by decide +kernel⟩
theorem tw_1028 : Cond.methodLink RL 38 yX10_says ∈ en_T := List.mem_filter.mpr ⟨List.mem_of_getElem? (i := 1028) (by decide +kernel), by decide +kernel⟩
theorem tw_1029 : Cond.instanceMethod yX10_says ∈ en_T := List.mem_filter.mpr ⟨List.mem_of_getElem? (i := 1029) (by decide +kernel), by decide +kernel⟩
theorem tw_1030 : Cond.selects RX10 yX10_says yX10_says ∈ en_T := List.mem_filter.mpr ⟨List.mem_of_getElem? (i := 1030) (by decide +kernel), by decide +kernel⟩
theorem tw_1031 : Cond.code yX10_says cX10_says 9 (some .int) ∈ en_T := List.mem_filter.mpr ⟨List.mem_of_getElem? (i := 1031) (by decide +kernel), by decide +kernel⟩
theorem tw_1032 : Cond.methodLink RX10 225 yX10_needLaw ∈ en_T := List.mem_filter.mpr ⟨List.mem_of_getElem? (i := 1032) (by decide +kernel), by decide +kernel⟩
theorem tw_1034 : Cond.instanceMethod yX10_needLaw ∈ en_T := List.mem_filter.mpr ⟨List.mem_of_getElem? (i := 1034) (by decide +kernel), by decide +kernel⟩
theorem tw_1035 : Cond.code yX10_needLaw cX10_needLaw 2 none ∈ en_T := List.mem_filter.mpr ⟨List.mem_of_getElem? (i := 1035) (by decide +kernel), by decide +kernel⟩
theorem tw_1036 : Cond.classLink RX10 133 "java/util/NoSuchElementException" ∈ en_T := List.mem_filter.mpr ⟨List.mem_of_getElem? (i := 1036) (by decide +kernel), by decide +kernel⟩
theorem tw_1052 : Cond.methodLink RX10 228 yX10_isWave ∈ en_T := List.mem_filter.mpr ⟨List.mem_of_getElem? (i := 1052) (by decide +kernel), by decide +kernel⟩
theorem tw_1053 : Cond.static yX10_isWave ∈ en_T := List.mem_filter.mpr ⟨List.mem_of_getElem? (i := 1053) (by decide +kernel), by decide +kernel⟩
theorem tw_1054 : Cond.code yX10_isWave cX10_isWave 3 (some .boolean) ∈ en_T := List.mem_filter.mpr ⟨List.mem_of_getElem? (i := 1054) (by decide +kernel), by decide +kernel⟩
theorem tw_1055 : Cond.methodLink RX10 231 yX4_setWave ∈ en_T := List.mem_filter.mpr ⟨List.mem_of_getElem? (i := 1055) (by decide +kernel), by decide +kernel⟩
theorem tw_1056 : Cond.instanceMethod yX4_setWave ∈ en_T := List.mem_filter.mpr ⟨List.mem_of_getElem? (i := 1056) (by decide +kernel), by decide +kernel⟩
theorem tw_1057 : Cond.selects RX4 yX4_setWave yX4_setWave ∈ en_T := List.mem_filter.mpr ⟨List.mem_of_getElem? (i := 1057) (by decide +kernel), by decide +kernel⟩
theorem tw_1058 : Cond.code yX4_setWave cX4_setWave 4 none ∈ en_T := List.mem_filter.mpr ⟨List.mem_of_getElem? (i := 1058) (by decide +kernel), by decide +kernel⟩
theorem tw_1059 : Cond.methodLink RX10 235 yX4_reach ∈ en_T := List.mem_filter.mpr ⟨List.mem_of_getElem? (i := 1059) (by decide +kernel), by decide +kernel⟩
theorem tw_1060 : Cond.instanceMethod yX4_reach ∈ en_T := List.mem_filter.mpr ⟨List.mem_of_getElem? (i := 1060) (by decide +kernel), by decide +kernel⟩
theorem tw_1061 : Cond.selects RX4 yX4_reach yX4_reach ∈ en_T := List.mem_filter.mpr ⟨List.mem_of_getElem? (i := 1061) (by decide +kernel), by decide +kernel⟩
theorem tw_1062 : Cond.code yX4_reach cX4_reach 4 (some .int) ∈ en_T := List.mem_filter.mpr ⟨List.mem_of_getElem? (i := 1062) (by decide +kernel), by decide +kernel⟩
theorem tw_1063 : Cond.methodLink RX4 49 yX4_setPlace ∈ en_T := List.mem_filter.mpr ⟨List.mem_of_getElem? (i := 1063) (by decide +kernel), by decide +kernel⟩
theorem tw_1065 : Cond.instanceMethod yX4_setPlace ∈ en_T := List.mem_filter.mpr ⟨List.mem_of_getElem? (i := 1065) (by decide +kernel), by decide +kernel⟩
theorem tw_1066 : Cond.code yX4_setPlace cX4_setPlace 3 none ∈ en_T := List.mem_filter.mpr ⟨List.mem_of_getElem? (i := 1066) (by decide +kernel), by decide +kernel⟩
theorem tw_1067 : Cond.methodLink RX4 53 yX4_setSize ∈ en_T := List.mem_filter.mpr ⟨List.mem_of_getElem? (i := 1067) (by decide +kernel), by decide +kernel⟩
theorem tw_1069 : Cond.instanceMethod yX4_setSize ∈ en_T := List.mem_filter.mpr ⟨List.mem_of_getElem? (i := 1069) (by decide +kernel), by decide +kernel⟩
theorem tw_1070 : Cond.code yX4_setSize cX4_setSize 5 none ∈ en_T := List.mem_filter.mpr ⟨List.mem_of_getElem? (i := 1070) (by decide +kernel), by decide +kernel⟩
theorem tw_1071 : Cond.methodLink RX4 57 yX1_value ∈ en_T := List.mem_filter.mpr ⟨List.mem_of_getElem? (i := 1071) (by decide +kernel), by decide +kernel⟩
theorem tw_1072 : Cond.instanceMethod yX1_value ∈ en_T := List.mem_filter.mpr ⟨List.mem_of_getElem? (i := 1072) (by decide +kernel), by decide +kernel⟩
theorem tw_1073 : Cond.selects RX1 yX1_value yX1_value ∈ en_T := List.mem_filter.mpr ⟨List.mem_of_getElem? (i := 1073) (by decide +kernel), by decide +kernel⟩
theorem tw_1074 : Cond.code yX1_value cX1_value 10 (some .int) ∈ en_T := List.mem_filter.mpr ⟨List.mem_of_getElem? (i := 1074) (by decide +kernel), by decide +kernel⟩
theorem tw_1075 : Cond.methodLink RX1 35 yX1_joined ∈ en_T := List.mem_filter.mpr ⟨List.mem_of_getElem? (i := 1075) (by decide +kernel), by decide +kernel⟩
theorem tw_1076 : Cond.static yX1_joined ∈ en_T := List.mem_filter.mpr ⟨List.mem_of_getElem? (i := 1076) (by decide +kernel), by decide +kernel⟩
theorem tw_1077 : Cond.code yX1_joined cX1_joined 3 (some .int) ∈ en_T := List.mem_filter.mpr ⟨List.mem_of_getElem? (i := 1077) (by decide +kernel), by decide +kernel⟩
theorem tw_1078 : Cond.methodLink RX10 239 yX4_ask ∈ en_T := List.mem_filter.mpr ⟨List.mem_of_getElem? (i := 1078) (by decide +kernel), by decide +kernel⟩
theorem tw_1079 : Cond.instanceMethod yX4_ask ∈ en_T := List.mem_filter.mpr ⟨List.mem_of_getElem? (i := 1079) (by decide +kernel), by decide +kernel⟩
theorem tw_1080 : Cond.selects RX4 yX4_ask yX4_ask ∈ en_T := List.mem_filter.mpr ⟨List.mem_of_getElem? (i := 1080) (by decide +kernel), by decide +kernel⟩
theorem tw_1081 : Cond.code yX4_ask cX4_ask 9 (some .int) ∈ en_T := List.mem_filter.mpr ⟨List.mem_of_getElem? (i := 1081) (by decide +kernel), by decide +kernel⟩
theorem tw_1082 : Cond.methodLink RX4 61 yX6_inCell ∈ en_T := List.mem_filter.mpr ⟨List.mem_of_getElem? (i := 1082) (by decide +kernel), by decide +kernel⟩
theorem tw_1083 : Cond.methodLink RX4 70 yX6_allIn ∈ en_T := List.mem_filter.mpr ⟨List.mem_of_getElem? (i := 1083) (by decide +kernel), by decide +kernel⟩
theorem tw_1085 : Cond.static yL_wave ∈ en_T := List.mem_filter.mpr ⟨List.mem_of_getElem? (i := 1085) (by decide +kernel), by decide +kernel⟩
theorem tw_1086 : Cond.codeWith yL_wave cL_wave 7 (some .int) [(0, 14, 17, 42), (0, 14, 21, 13), (0, 14, 25, 47)] ∈ en_T := List.mem_filter.mpr ⟨List.mem_of_getElem? (i := 1086) (by decide +kernel), by decide +kernel⟩
theorem tw_1087 : Cond.classLink RL 47 "java/lang/IllegalStateException" ∈ en_T := List.mem_filter.mpr ⟨List.mem_of_getElem? (i := 1087) (by decide +kernel), by decide +kernel⟩
theorem tw_1088 : Cond.methodLink RL 44 yX10_wave ∈ en_T := List.mem_filter.mpr ⟨List.mem_of_getElem? (i := 1088) (by decide +kernel), by decide +kernel⟩
theorem tw_1089 : Cond.instanceMethod yX10_wave ∈ en_T := List.mem_filter.mpr ⟨List.mem_of_getElem? (i := 1089) (by decide +kernel), by decide +kernel⟩
theorem tw_1090 : Cond.selects RX10 yX10_wave yX10_wave ∈ en_T := List.mem_filter.mpr ⟨List.mem_of_getElem? (i := 1090) (by decide +kernel), by decide +kernel⟩
theorem tw_1091 : Cond.code yX10_wave cX10_wave 5 (some .int) ∈ en_T := List.mem_filter.mpr ⟨List.mem_of_getElem? (i := 1091) (by decide +kernel), by decide +kernel⟩
theorem tw_1092 : Cond.methodLink RX10 243 yX10_needHours ∈ en_T := List.mem_filter.mpr ⟨List.mem_of_getElem? (i := 1092) (by decide +kernel), by decide +kernel⟩
theorem tw_1094 : Cond.instanceMethod yX10_needHours ∈ en_T := List.mem_filter.mpr ⟨List.mem_of_getElem? (i := 1094) (by decide +kernel), by decide +kernel⟩
theorem tw_1095 : Cond.code yX10_needHours cX10_needHours 1 none ∈ en_T := List.mem_filter.mpr ⟨List.mem_of_getElem? (i := 1095) (by decide +kernel), by decide +kernel⟩
theorem tw_1096 : Cond.classLink RX10 148 "java/lang/IllegalStateException" ∈ en_T := List.mem_filter.mpr ⟨List.mem_of_getElem? (i := 1096) (by decide +kernel), by decide +kernel⟩
theorem tw_1112 : Cond.methodLink RX10 246 yX4_roll ∈ en_T := List.mem_filter.mpr ⟨List.mem_of_getElem? (i := 1112) (by decide +kernel), by decide +kernel⟩
theorem tw_1113 : Cond.instanceMethod yX4_roll ∈ en_T := List.mem_filter.mpr ⟨List.mem_of_getElem? (i := 1113) (by decide +kernel), by decide +kernel⟩
theorem tw_1114 : Cond.selects RX4 yX4_roll yX4_roll ∈ en_T := List.mem_filter.mpr ⟨List.mem_of_getElem? (i := 1114) (by decide +kernel), by decide +kernel⟩
theorem tw_1115 : Cond.code yX4_roll cX4_roll 5 (some .int) ∈ en_T := List.mem_filter.mpr ⟨List.mem_of_getElem? (i := 1115) (by decide +kernel), by decide +kernel⟩
theorem tw_1116 : Cond.methodLink RX4 77 yX4_carryCell ∈ en_T := List.mem_filter.mpr ⟨List.mem_of_getElem? (i := 1116) (by decide +kernel), by decide +kernel⟩
theorem tw_1118 : Cond.instanceMethod yX4_carryCell ∈ en_T := List.mem_filter.mpr ⟨List.mem_of_getElem? (i := 1118) (by decide +kernel), by decide +kernel⟩
theorem tw_1119 : Cond.code yX4_carryCell cX4_carryCell 11 (some .int) ∈ en_T := List.mem_filter.mpr ⟨List.mem_of_getElem? (i := 1119) (by decide +kernel), by decide +kernel⟩
theorem tw_1120 : Cond.methodLink RX4 102 yX4_aimFrom ∈ en_T := List.mem_filter.mpr ⟨List.mem_of_getElem? (i := 1120) (by decide +kernel), by decide +kernel⟩
theorem tw_1122 : Cond.instanceMethod yX4_aimFrom ∈ en_T := List.mem_filter.mpr ⟨List.mem_of_getElem? (i := 1122) (by decide +kernel), by decide +kernel⟩
theorem tw_1123 : Cond.code yX4_aimFrom cX4_aimFrom 4 none ∈ en_T := List.mem_filter.mpr ⟨List.mem_of_getElem? (i := 1123) (by decide +kernel), by decide +kernel⟩
theorem tw_1124 : Cond.methodLink RX4 108 yX6_heapAt ∈ en_T := List.mem_filter.mpr ⟨List.mem_of_getElem? (i := 1124) (by decide +kernel), by decide +kernel⟩
theorem tw_1125 : Cond.methodLink RX4 111 yX4_carryHeap ∈ en_T := List.mem_filter.mpr ⟨List.mem_of_getElem? (i := 1125) (by decide +kernel), by decide +kernel⟩
theorem tw_1127 : Cond.instanceMethod yX4_carryHeap ∈ en_T := List.mem_filter.mpr ⟨List.mem_of_getElem? (i := 1127) (by decide +kernel), by decide +kernel⟩
theorem tw_1128 : Cond.code yX4_carryHeap cX4_carryHeap 6 (some .int) ∈ en_T := List.mem_filter.mpr ⟨List.mem_of_getElem? (i := 1128) (by decide +kernel), by decide +kernel⟩
theorem tw_1129 : Cond.methodLink RX4 117 yX4_held ∈ en_T := List.mem_filter.mpr ⟨List.mem_of_getElem? (i := 1129) (by decide +kernel), by decide +kernel⟩
theorem tw_1130 : Cond.static yX4_held ∈ en_T := List.mem_filter.mpr ⟨List.mem_of_getElem? (i := 1130) (by decide +kernel), by decide +kernel⟩
theorem tw_1131 : Cond.code yX4_held cX4_held 1 (some .int) ∈ en_T := List.mem_filter.mpr ⟨List.mem_of_getElem? (i := 1131) (by decide +kernel), by decide +kernel⟩
theorem tw_1132 : Cond.methodLink RX4 120 yX4_arrive ∈ en_T := List.mem_filter.mpr ⟨List.mem_of_getElem? (i := 1132) (by decide +kernel), by decide +kernel⟩
theorem tw_1134 : Cond.instanceMethod yX4_arrive ∈ en_T := List.mem_filter.mpr ⟨List.mem_of_getElem? (i := 1134) (by decide +kernel), by decide +kernel⟩
theorem tw_1135 : Cond.code yX4_arrive cX4_arrive 5 none ∈ en_T := List.mem_filter.mpr ⟨List.mem_of_getElem? (i := 1135) (by decide +kernel), by decide +kernel⟩
theorem tw_1136 : Cond.methodLink RX4 84 yX4_reach ∈ en_T := List.mem_filter.mpr ⟨List.mem_of_getElem? (i := 1136) (by decide +kernel), by decide +kernel⟩
theorem tw_1137 : Cond.methodLink RX4 88 yX4_goOver ∈ en_T := List.mem_filter.mpr ⟨List.mem_of_getElem? (i := 1137) (by decide +kernel), by decide +kernel⟩
theorem tw_1138 : Cond.static yX4_goOver ∈ en_T := List.mem_filter.mpr ⟨List.mem_of_getElem? (i := 1138) (by decide +kernel), by decide +kernel⟩
theorem tw_1139 : Cond.code yX4_goOver cX4_goOver 5 none ∈ en_T := List.mem_filter.mpr ⟨List.mem_of_getElem? (i := 1139) (by decide +kernel), by decide +kernel⟩
theorem tw_1140 : Cond.methodLink RX4 126 yX4_lowered ∈ en_T := List.mem_filter.mpr ⟨List.mem_of_getElem? (i := 1140) (by decide +kernel), by decide +kernel⟩
theorem tw_1141 : Cond.static yX4_lowered ∈ en_T := List.mem_filter.mpr ⟨List.mem_of_getElem? (i := 1141) (by decide +kernel), by decide +kernel⟩
theorem tw_1142 : Cond.code yX4_lowered cX4_lowered 1 (some .int) ∈ en_T := List.mem_filter.mpr ⟨List.mem_of_getElem? (i := 1142) (by decide +kernel), by decide +kernel⟩
theorem tw_1143 : Cond.methodLink RX4 95 yX4_flow ∈ en_T := List.mem_filter.mpr ⟨List.mem_of_getElem? (i := 1143) (by decide +kernel), by decide +kernel⟩
theorem tw_1145 : Cond.instanceMethod yX4_flow ∈ en_T := List.mem_filter.mpr ⟨List.mem_of_getElem? (i := 1145) (by decide +kernel), by decide +kernel⟩
theorem tw_1146 : Cond.code yX4_flow cX4_flow 4 none ∈ en_T := List.mem_filter.mpr ⟨List.mem_of_getElem? (i := 1146) (by decide +kernel), by decide +kernel⟩
theorem tw_1147 : Cond.methodLink RX4 140 yX6_add ∈ en_T := List.mem_filter.mpr ⟨List.mem_of_getElem? (i := 1147) (by decide +kernel), by decide +kernel⟩
theorem tw_1148 : Cond.methodLink RX4 99 yX4_drive ∈ en_T := List.mem_filter.mpr ⟨List.mem_of_getElem? (i := 1148) (by decide +kernel), by decide +kernel⟩
theorem tw_1150 : Cond.instanceMethod yX4_drive ∈ en_T := List.mem_filter.mpr ⟨List.mem_of_getElem? (i := 1150) (by decide +kernel), by decide +kernel⟩
theorem tw_1151 : Cond.code yX4_drive cX4_drive 5 none ∈ en_T := List.mem_filter.mpr ⟨List.mem_of_getElem? (i := 1151) (by decide +kernel), by decide +kernel⟩
theorem tw_1152 : Cond.methodLink RX4 149 yX6_haul ∈ en_T := List.mem_filter.mpr ⟨List.mem_of_getElem? (i := 1152) (by decide +kernel), by decide +kernel⟩
theorem tw_1153 : Cond.instanceMethod yX6_haul ∈ en_T := List.mem_filter.mpr ⟨List.mem_of_getElem? (i := 1153) (by decide +kernel), by decide +kernel⟩
theorem tw_1154 : Cond.selects RX6 yX6_haul yX6_haul ∈ en_T := List.mem_filter.mpr ⟨List.mem_of_getElem? (i := 1154) (by decide +kernel), by decide +kernel⟩
theorem tw_1155 : Cond.code yX6_haul cX6_haul 8 none ∈ en_T := List.mem_filter.mpr ⟨List.mem_of_getElem? (i := 1155) (by decide +kernel), by decide +kernel⟩
theorem tw_1156 : Cond.methodLink RX6 99 yJ9_min_7cf53 ∈ en_T := List.mem_filter.mpr ⟨List.mem_of_getElem? (i := 1156) (by decide +kernel), by decide +kernel⟩
theorem tw_1158 : Cond.static yL_run ∈ en_T := List.mem_filter.mpr ⟨List.mem_of_getElem? (i := 1158) (by decide +kernel), by decide +kernel⟩
theorem tw_1159 : Cond.codeWith yL_run cL_run 5 (some .int) [(0, 10, 13, 42), (0, 10, 17, 47)] ∈ en_T := List.mem_filter.mpr ⟨List.mem_of_getElem? (i := 1159) (by decide +kernel), by decide +kernel⟩
theorem tw_1160 : Cond.methodLink RL 49 yX10_run ∈ en_T := List.mem_filter.mpr ⟨List.mem_of_getElem? (i := 1160) (by decide +kernel), by decide +kernel⟩
theorem tw_1161 : Cond.instanceMethod yX10_run ∈ en_T := List.mem_filter.mpr ⟨List.mem_of_getElem? (i := 1161) (by decide +kernel), by decide +kernel⟩
theorem tw_1162 : Cond.selects RX10 yX10_run yX10_run ∈ en_T := List.mem_filter.mpr ⟨List.mem_of_getElem? (i := 1162) (by decide +kernel), by decide +kernel⟩
theorem tw_1163 : Cond.code yX10_run cX10_run 3 (some .int) ∈ en_T := List.mem_filter.mpr ⟨List.mem_of_getElem? (i := 1163) (by decide +kernel), by decide +kernel⟩
theorem tw_1164 : Cond.methodLink RX10 250 yX10_needYear ∈ en_T := List.mem_filter.mpr ⟨List.mem_of_getElem? (i := 1164) (by decide +kernel), by decide +kernel⟩
theorem tw_1166 : Cond.instanceMethod yX10_needYear ∈ en_T := List.mem_filter.mpr ⟨List.mem_of_getElem? (i := 1166) (by decide +kernel), by decide +kernel⟩
theorem tw_1167 : Cond.code yX10_needYear cX10_needYear 2 none ∈ en_T := List.mem_filter.mpr ⟨List.mem_of_getElem? (i := 1167) (by decide +kernel), by decide +kernel⟩
theorem tw_1169 : Cond.methodLink RX10 253 yX4_rollYear ∈ en_T := List.mem_filter.mpr ⟨List.mem_of_getElem? (i := 1169) (by decide +kernel), by decide +kernel⟩
theorem tw_1170 : Cond.instanceMethod yX4_rollYear ∈ en_T := List.mem_filter.mpr ⟨List.mem_of_getElem? (i := 1170) (by decide +kernel), by decide +kernel⟩
theorem tw_1171 : Cond.selects RX4 yX4_rollYear yX4_rollYear ∈ en_T := List.mem_filter.mpr ⟨List.mem_of_getElem? (i := 1171) (by decide +kernel), by decide +kernel⟩
theorem tw_1172 : Cond.code yX4_rollYear cX4_rollYear 7 (some .int) ∈ en_T := List.mem_filter.mpr ⟨List.mem_of_getElem? (i := 1172) (by decide +kernel), by decide +kernel⟩
theorem tw_1173 : Cond.methodLink RX4 155 yX4_setWaveOf ∈ en_T := List.mem_filter.mpr ⟨List.mem_of_getElem? (i := 1173) (by decide +kernel), by decide +kernel⟩
theorem tw_1175 : Cond.instanceMethod yX4_setWaveOf ∈ en_T := List.mem_filter.mpr ⟨List.mem_of_getElem? (i := 1175) (by decide +kernel), by decide +kernel⟩
theorem tw_1176 : Cond.code yX4_setWaveOf cX4_setWaveOf 3 none ∈ en_T := List.mem_filter.mpr ⟨List.mem_of_getElem? (i := 1176) (by decide +kernel), by decide +kernel⟩
theorem tw_1177 : Cond.methodLink RX4 45 yX4_setWave ∈ en_T := List.mem_filter.mpr ⟨List.mem_of_getElem? (i := 1177) (by decide +kernel), by decide +kernel⟩
theorem tw_1178 : Cond.methodLink RX4 162 yX4_roll ∈ en_T := List.mem_filter.mpr ⟨List.mem_of_getElem? (i := 1178) (by decide +kernel), by decide +kernel⟩
theorem tw_1180 : Cond.static yL_lots ∈ en_T := List.mem_filter.mpr ⟨List.mem_of_getElem? (i := 1180) (by decide +kernel), by decide +kernel⟩
theorem tw_1181 : Cond.codeWith yL_lots cL_lots 7 (some .int) [(0, 14, 17, 42), (0, 14, 21, 13), (0, 14, 25, 47)] ∈ en_T := List.mem_filter.mpr ⟨List.mem_of_getElem? (i := 1181) (by decide +kernel), by decide +kernel⟩
theorem tw_1182 : Cond.methodLink RL 52 yX10_lots ∈ en_T := List.mem_filter.mpr ⟨List.mem_of_getElem? (i := 1182) (by decide +kernel), by decide +kernel⟩
theorem tw_1183 : Cond.instanceMethod yX10_lots ∈ en_T := List.mem_filter.mpr ⟨List.mem_of_getElem? (i := 1183) (by decide +kernel), by decide +kernel⟩
theorem tw_1184 : Cond.selects RX10 yX10_lots yX10_lots ∈ en_T := List.mem_filter.mpr ⟨List.mem_of_getElem? (i := 1184) (by decide +kernel), by decide +kernel⟩
theorem tw_1185 : Cond.code yX10_lots cX10_lots 5 (some .int) ∈ en_T := List.mem_filter.mpr ⟨List.mem_of_getElem? (i := 1185) (by decide +kernel), by decide +kernel⟩
theorem tw_1186 : Cond.methodLink RX10 257 yX4_rollLots ∈ en_T := List.mem_filter.mpr ⟨List.mem_of_getElem? (i := 1186) (by decide +kernel), by decide +kernel⟩
theorem tw_1187 : Cond.instanceMethod yX4_rollLots ∈ en_T := List.mem_filter.mpr ⟨List.mem_of_getElem? (i := 1187) (by decide +kernel), by decide +kernel⟩
theorem tw_1188 : Cond.selects RX4 yX4_rollLots yX4_rollLots ∈ en_T := List.mem_filter.mpr ⟨List.mem_of_getElem? (i := 1188) (by decide +kernel), by decide +kernel⟩
theorem tw_1189 : Cond.code yX4_rollLots cX4_rollLots 9 (some .int) ∈ en_T := List.mem_filter.mpr ⟨List.mem_of_getElem? (i := 1189) (by decide +kernel), by decide +kernel⟩
theorem tw_1190 : Cond.constant RX4 166 (iI 1103515245) ∈ en_T := List.mem_filter.mpr ⟨List.mem_of_getElem? (i := 1190) (by decide +kernel), by decide +kernel⟩
theorem tw_1192 : Cond.static yL_mean ∈ en_T := List.mem_filter.mpr ⟨List.mem_of_getElem? (i := 1192) (by decide +kernel), by decide +kernel⟩
theorem tw_1193 : Cond.codeWith yL_mean cL_mean 4 (some .int) [(0, 9, 12, 28)] ∈ en_T := List.mem_filter.mpr ⟨List.mem_of_getElem? (i := 1193) (by decide +kernel), by decide +kernel⟩
theorem tw_1194 : Cond.methodLink RL 55 yX10_mean ∈ en_T := List.mem_filter.mpr ⟨List.mem_of_getElem? (i := 1194) (by decide +kernel), by decide +kernel⟩
theorem tw_1195 : Cond.instanceMethod yX10_mean ∈ en_T := List.mem_filter.mpr ⟨List.mem_of_getElem? (i := 1195) (by decide +kernel), by decide +kernel⟩
theorem tw_1196 : Cond.selects RX10 yX10_mean yX10_mean ∈ en_T := List.mem_filter.mpr ⟨List.mem_of_getElem? (i := 1196) (by decide +kernel), by decide +kernel⟩
theorem tw_1197 : Cond.code yX10_mean cX10_mean 2 (some .int) ∈ en_T := List.mem_filter.mpr ⟨List.mem_of_getElem? (i := 1197) (by decide +kernel), by decide +kernel⟩
theorem tw_1198 : Cond.methodLink RX10 261 yX6_meanOf ∈ en_T := List.mem_filter.mpr ⟨List.mem_of_getElem? (i := 1198) (by decide +kernel), by decide +kernel⟩
theorem tw_1199 : Cond.instanceMethod yX6_meanOf ∈ en_T := List.mem_filter.mpr ⟨List.mem_of_getElem? (i := 1199) (by decide +kernel), by decide +kernel⟩
theorem tw_1200 : Cond.selects RX6 yX6_meanOf yX6_meanOf ∈ en_T := List.mem_filter.mpr ⟨List.mem_of_getElem? (i := 1200) (by decide +kernel), by decide +kernel⟩
theorem tw_1201 : Cond.code yX6_meanOf cX6_meanOf 7 (some .int) ∈ en_T := List.mem_filter.mpr ⟨List.mem_of_getElem? (i := 1201) (by decide +kernel), by decide +kernel⟩
theorem tw_1202 : Cond.methodLink RX6 80 yX6_inCell ∈ en_T := List.mem_filter.mpr ⟨List.mem_of_getElem? (i := 1202) (by decide +kernel), by decide +kernel⟩
theorem tw_1203 : Cond.constantLong RX6 83 (jL 1000) ∈ en_T := List.mem_filter.mpr ⟨List.mem_of_getElem? (i := 1203) (by decide +kernel), by decide +kernel⟩
theorem tw_1205 : Cond.static yL_order ∈ en_T := List.mem_filter.mpr ⟨List.mem_of_getElem? (i := 1205) (by decide +kernel), by decide +kernel⟩
theorem tw_1206 : Cond.codeWith yL_order cL_order 4 (some .int) [(0, 9, 12, 13)] ∈ en_T := List.mem_filter.mpr ⟨List.mem_of_getElem? (i := 1206) (by decide +kernel), by decide +kernel⟩
theorem tw_1207 : Cond.methodLink RL 58 yX10_order ∈ en_T := List.mem_filter.mpr ⟨List.mem_of_getElem? (i := 1207) (by decide +kernel), by decide +kernel⟩
theorem tw_1208 : Cond.instanceMethod yX10_order ∈ en_T := List.mem_filter.mpr ⟨List.mem_of_getElem? (i := 1208) (by decide +kernel), by decide +kernel⟩
theorem tw_1209 : Cond.selects RX10 yX10_order yX10_order ∈ en_T := List.mem_filter.mpr ⟨List.mem_of_getElem? (i := 1209) (by decide +kernel), by decide +kernel⟩
theorem tw_1210 : Cond.code yX10_order cX10_order 2 (some .int) ∈ en_T := List.mem_filter.mpr ⟨List.mem_of_getElem? (i := 1210) (by decide +kernel), by decide +kernel⟩
theorem tw_1211 : Cond.methodLink RX10 265 yX6_pairs ∈ en_T := List.mem_filter.mpr ⟨List.mem_of_getElem? (i := 1211) (by decide +kernel), by decide +kernel⟩
theorem tw_1212 : Cond.instanceMethod yX6_pairs ∈ en_T := List.mem_filter.mpr ⟨List.mem_of_getElem? (i := 1212) (by decide +kernel), by decide +kernel⟩
theorem tw_1213 : Cond.selects RX6 yX6_pairs yX6_pairs ∈ en_T := List.mem_filter.mpr ⟨List.mem_of_getElem? (i := 1213) (by decide +kernel), by decide +kernel⟩
theorem tw_1214 : Cond.code yX6_pairs cX6_pairs 7 (some .int) ∈ en_T := List.mem_filter.mpr ⟨List.mem_of_getElem? (i := 1214) (by decide +kernel), by decide +kernel⟩
theorem tw_1215 : Cond.methodLink RX6 85 yX6_meanOf ∈ en_T := List.mem_filter.mpr ⟨List.mem_of_getElem? (i := 1215) (by decide +kernel), by decide +kernel⟩
theorem tw_1216 : Cond.methodLink RX10 269 yX6_horns ∈ en_T := List.mem_filter.mpr ⟨List.mem_of_getElem? (i := 1216) (by decide +kernel), by decide +kernel⟩
theorem tw_1217 : Cond.instanceMethod yX6_horns ∈ en_T := List.mem_filter.mpr ⟨List.mem_of_getElem? (i := 1217) (by decide +kernel), by decide +kernel⟩
theorem tw_1218 : Cond.selects RX6 yX6_horns yX6_horns ∈ en_T := List.mem_filter.mpr ⟨List.mem_of_getElem? (i := 1218) (by decide +kernel), by decide +kernel⟩
theorem tw_1219 : Cond.code yX6_horns cX6_horns 3 (some .int) ∈ en_T := List.mem_filter.mpr ⟨List.mem_of_getElem? (i := 1219) (by decide +kernel), by decide +kernel⟩
theorem tw_1220 : Cond.methodLink RX6 88 yX6_isHorn ∈ en_T := List.mem_filter.mpr ⟨List.mem_of_getElem? (i := 1220) (by decide +kernel), by decide +kernel⟩
theorem tw_1221 : Cond.methodLink RX10 273 yX6_known ∈ en_T := List.mem_filter.mpr ⟨List.mem_of_getElem? (i := 1221) (by decide +kernel), by decide +kernel⟩
theorem tw_1222 : Cond.instanceMethod yX6_known ∈ en_T := List.mem_filter.mpr ⟨List.mem_of_getElem? (i := 1222) (by decide +kernel), by decide +kernel⟩
theorem tw_1223 : Cond.selects RX6 yX6_known yX6_known ∈ en_T := List.mem_filter.mpr ⟨List.mem_of_getElem? (i := 1223) (by decide +kernel), by decide +kernel⟩
theorem tw_1224 : Cond.code yX6_known cX6_known 6 (some .int) ∈ en_T := List.mem_filter.mpr ⟨List.mem_of_getElem? (i := 1224) (by decide +kernel), by decide +kernel⟩
theorem tw_1225 : Cond.methodLink RX6 92 yX6_soundOf ∈ en_T := List.mem_filter.mpr ⟨List.mem_of_getElem? (i := 1225) (by decide +kernel), by decide +kernel⟩
theorem tw_1226 : Cond.instanceMethod yX6_soundOf ∈ en_T := List.mem_filter.mpr ⟨List.mem_of_getElem? (i := 1226) (by decide +kernel), by decide +kernel⟩
theorem tw_1227 : Cond.selects RX6 yX6_soundOf yX6_soundOf ∈ en_T := List.mem_filter.mpr ⟨List.mem_of_getElem? (i := 1227) (by decide +kernel), by decide +kernel⟩
theorem tw_1228 : Cond.code yX6_soundOf cX6_soundOf 3 (some .int) ∈ en_T := List.mem_filter.mpr ⟨List.mem_of_getElem? (i := 1228) (by decide +kernel), by decide +kernel⟩
theorem tw_1230 : Cond.static yL_sound ∈ en_T := List.mem_filter.mpr ⟨List.mem_of_getElem? (i := 1230) (by decide +kernel), by decide +kernel⟩
theorem tw_1231 : Cond.codeWith yL_sound cL_sound 4 (some .int) [(0, 9, 12, 28)] ∈ en_T := List.mem_filter.mpr ⟨List.mem_of_getElem? (i := 1231) (by decide +kernel), by decide +kernel⟩
theorem tw_1232 : Cond.methodLink RL 61 yX10_sound ∈ en_T := List.mem_filter.mpr ⟨List.mem_of_getElem? (i := 1232) (by decide +kernel), by decide +kernel⟩
theorem tw_1233 : Cond.instanceMethod yX10_sound ∈ en_T := List.mem_filter.mpr ⟨List.mem_of_getElem? (i := 1233) (by decide +kernel), by decide +kernel⟩
theorem tw_1234 : Cond.selects RX10 yX10_sound yX10_sound ∈ en_T := List.mem_filter.mpr ⟨List.mem_of_getElem? (i := 1234) (by decide +kernel), by decide +kernel⟩
theorem tw_1235 : Cond.code yX10_sound cX10_sound 2 (some .int) ∈ en_T := List.mem_filter.mpr ⟨List.mem_of_getElem? (i := 1235) (by decide +kernel), by decide +kernel⟩
theorem tw_1236 : Cond.methodLink RX10 279 yX6_soundOf ∈ en_T := List.mem_filter.mpr ⟨List.mem_of_getElem? (i := 1236) (by decide +kernel), by decide +kernel⟩
theorem tw_1238 : Cond.static yL_take ∈ en_T := List.mem_filter.mpr ⟨List.mem_of_getElem? (i := 1238) (by decide +kernel), by decide +kernel⟩
theorem tw_1239 : Cond.codeWith yL_take cL_take 5 (some .int) [(0, 10, 13, 13)] ∈ en_T := List.mem_filter.mpr ⟨List.mem_of_getElem? (i := 1239) (by decide +kernel), by decide +kernel⟩
theorem tw_1240 : Cond.methodLink RL 64 yX10_take ∈ en_T := List.mem_filter.mpr ⟨List.mem_of_getElem? (i := 1240) (by decide +kernel), by decide +kernel⟩
theorem tw_1241 : Cond.instanceMethod yX10_take ∈ en_T := List.mem_filter.mpr ⟨List.mem_of_getElem? (i := 1241) (by decide +kernel), by decide +kernel⟩
theorem tw_1242 : Cond.selects RX10 yX10_take yX10_take ∈ en_T := List.mem_filter.mpr ⟨List.mem_of_getElem? (i := 1242) (by decide +kernel), by decide +kernel⟩
theorem tw_1243 : Cond.code yX10_take cX10_take 3 (some .int) ∈ en_T := List.mem_filter.mpr ⟨List.mem_of_getElem? (i := 1243) (by decide +kernel), by decide +kernel⟩
theorem tw_1245 : Cond.static yL_word ∈ en_T := List.mem_filter.mpr ⟨List.mem_of_getElem? (i := 1245) (by decide +kernel), by decide +kernel⟩
theorem tw_1246 : Cond.codeWith yL_word cL_word 4 (some .int) [(0, 8, 11, 28)] ∈ en_T := List.mem_filter.mpr ⟨List.mem_of_getElem? (i := 1246) (by decide +kernel), by decide +kernel⟩
theorem tw_1247 : Cond.methodLink RL 67 yX10_word ∈ en_T := List.mem_filter.mpr ⟨List.mem_of_getElem? (i := 1247) (by decide +kernel), by decide +kernel⟩
theorem tw_1248 : Cond.instanceMethod yX10_word ∈ en_T := List.mem_filter.mpr ⟨List.mem_of_getElem? (i := 1248) (by decide +kernel), by decide +kernel⟩
theorem tw_1249 : Cond.selects RX10 yX10_word yX10_word ∈ en_T := List.mem_filter.mpr ⟨List.mem_of_getElem? (i := 1249) (by decide +kernel), by decide +kernel⟩
theorem tw_1250 : Cond.code yX10_word cX10_word 2 (some .long) ∈ en_T := List.mem_filter.mpr ⟨List.mem_of_getElem? (i := 1250) (by decide +kernel), by decide +kernel⟩
theorem tw_1251 : Cond.methodLink RX10 288 yX6_wordOf ∈ en_T := List.mem_filter.mpr ⟨List.mem_of_getElem? (i := 1251) (by decide +kernel), by decide +kernel⟩
theorem tw_1252 : Cond.instanceMethod yX6_wordOf ∈ en_T := List.mem_filter.mpr ⟨List.mem_of_getElem? (i := 1252) (by decide +kernel), by decide +kernel⟩
theorem tw_1253 : Cond.selects RX6 yX6_wordOf yX6_wordOf ∈ en_T := List.mem_filter.mpr ⟨List.mem_of_getElem? (i := 1253) (by decide +kernel), by decide +kernel⟩
theorem tw_1254 : Cond.code yX6_wordOf cX6_wordOf 5 (some .long) ∈ en_T := List.mem_filter.mpr ⟨List.mem_of_getElem? (i := 1254) (by decide +kernel), by decide +kernel⟩
theorem tw_1255 : Cond.methodLink RX6 95 yX6_share ∈ en_T := List.mem_filter.mpr ⟨List.mem_of_getElem? (i := 1255) (by decide +kernel), by decide +kernel⟩
theorem tw_1256 : Cond.instanceMethod yX6_share ∈ en_T := List.mem_filter.mpr ⟨List.mem_of_getElem? (i := 1256) (by decide +kernel), by decide +kernel⟩
theorem tw_1257 : Cond.selects RX6 yX6_share yX6_share ∈ en_T := List.mem_filter.mpr ⟨List.mem_of_getElem? (i := 1257) (by decide +kernel), by decide +kernel⟩
theorem tw_1258 : Cond.code yX6_share cX6_share 6 (some .int) ∈ en_T := List.mem_filter.mpr ⟨List.mem_of_getElem? (i := 1258) (by decide +kernel), by decide +kernel⟩
theorem tw_1260 : Cond.static yL_odds ∈ en_T := List.mem_filter.mpr ⟨List.mem_of_getElem? (i := 1260) (by decide +kernel), by decide +kernel⟩
theorem tw_1261 : Cond.codeWith yL_odds cL_odds 4 (some .int) [(0, 9, 12, 28)] ∈ en_T := List.mem_filter.mpr ⟨List.mem_of_getElem? (i := 1261) (by decide +kernel), by decide +kernel⟩
theorem tw_1262 : Cond.methodLink RL 71 yX10_odds ∈ en_T := List.mem_filter.mpr ⟨List.mem_of_getElem? (i := 1262) (by decide +kernel), by decide +kernel⟩
theorem tw_1263 : Cond.instanceMethod yX10_odds ∈ en_T := List.mem_filter.mpr ⟨List.mem_of_getElem? (i := 1263) (by decide +kernel), by decide +kernel⟩
theorem tw_1264 : Cond.selects RX10 yX10_odds yX10_odds ∈ en_T := List.mem_filter.mpr ⟨List.mem_of_getElem? (i := 1264) (by decide +kernel), by decide +kernel⟩
theorem tw_1265 : Cond.code yX10_odds cX10_odds 2 (some .int) ∈ en_T := List.mem_filter.mpr ⟨List.mem_of_getElem? (i := 1265) (by decide +kernel), by decide +kernel⟩
theorem tw_1266 : Cond.methodLink RX10 292 yX5_feelHand ∈ en_T := List.mem_filter.mpr ⟨List.mem_of_getElem? (i := 1266) (by decide +kernel), by decide +kernel⟩
theorem tw_1267 : Cond.instanceMethod yX5_feelHand ∈ en_T := List.mem_filter.mpr ⟨List.mem_of_getElem? (i := 1267) (by decide +kernel), by decide +kernel⟩
theorem tw_1268 : Cond.selects RX5 yX5_feelHand yX5_feelHand ∈ en_T := List.mem_filter.mpr ⟨List.mem_of_getElem? (i := 1268) (by decide +kernel), by decide +kernel⟩
theorem tw_1269 : Cond.code yX5_feelHand cX5_feelHand 3 none ∈ en_T := List.mem_filter.mpr ⟨List.mem_of_getElem? (i := 1269) (by decide +kernel), by decide +kernel⟩
theorem tw_1270 : Cond.methodLink RX5 26 yX5_begin ∈ en_T := List.mem_filter.mpr ⟨List.mem_of_getElem? (i := 1270) (by decide +kernel), by decide +kernel⟩
theorem tw_1272 : Cond.instanceMethod yX5_begin ∈ en_T := List.mem_filter.mpr ⟨List.mem_of_getElem? (i := 1272) (by decide +kernel), by decide +kernel⟩
theorem tw_1273 : Cond.code yX5_begin cX5_begin 2 none ∈ en_T := List.mem_filter.mpr ⟨List.mem_of_getElem? (i := 1273) (by decide +kernel), by decide +kernel⟩
theorem tw_1274 : Cond.methodLink RX5 30 yX6_wordOf ∈ en_T := List.mem_filter.mpr ⟨List.mem_of_getElem? (i := 1274) (by decide +kernel), by decide +kernel⟩
theorem tw_1275 : Cond.methodLink RX5 34 yX5_keep ∈ en_T := List.mem_filter.mpr ⟨List.mem_of_getElem? (i := 1275) (by decide +kernel), by decide +kernel⟩
theorem tw_1277 : Cond.instanceMethod yX5_keep ∈ en_T := List.mem_filter.mpr ⟨List.mem_of_getElem? (i := 1277) (by decide +kernel), by decide +kernel⟩
theorem tw_1278 : Cond.code yX5_keep cX5_keep 4 none ∈ en_T := List.mem_filter.mpr ⟨List.mem_of_getElem? (i := 1278) (by decide +kernel), by decide +kernel⟩
theorem tw_1279 : Cond.methodLink RX10 296 yX5_oddsOf ∈ en_T := List.mem_filter.mpr ⟨List.mem_of_getElem? (i := 1279) (by decide +kernel), by decide +kernel⟩
theorem tw_1280 : Cond.instanceMethod yX5_oddsOf ∈ en_T := List.mem_filter.mpr ⟨List.mem_of_getElem? (i := 1280) (by decide +kernel), by decide +kernel⟩
theorem tw_1281 : Cond.selects RX5 yX5_oddsOf yX5_oddsOf ∈ en_T := List.mem_filter.mpr ⟨List.mem_of_getElem? (i := 1281) (by decide +kernel), by decide +kernel⟩
theorem tw_1282 : Cond.code yX5_oddsOf cX5_oddsOf 2 (some .int) ∈ en_T := List.mem_filter.mpr ⟨List.mem_of_getElem? (i := 1282) (by decide +kernel), by decide +kernel⟩
theorem tw_1283 : Cond.constantLong RX5 42 (jL 1000) ∈ en_T := List.mem_filter.mpr ⟨List.mem_of_getElem? (i := 1283) (by decide +kernel), by decide +kernel⟩
theorem tw_1285 : Cond.static yL_where ∈ en_T := List.mem_filter.mpr ⟨List.mem_of_getElem? (i := 1285) (by decide +kernel), by decide +kernel⟩
theorem tw_1286 : Cond.codeWith yL_where cL_where 4 (some .int) [(0, 9, 12, 13)] ∈ en_T := List.mem_filter.mpr ⟨List.mem_of_getElem? (i := 1286) (by decide +kernel), by decide +kernel⟩
theorem tw_1287 : Cond.methodLink RL 74 yX10_where ∈ en_T := List.mem_filter.mpr ⟨List.mem_of_getElem? (i := 1287) (by decide +kernel), by decide +kernel⟩
theorem tw_1288 : Cond.instanceMethod yX10_where ∈ en_T := List.mem_filter.mpr ⟨List.mem_of_getElem? (i := 1288) (by decide +kernel), by decide +kernel⟩
theorem tw_1289 : Cond.selects RX10 yX10_where yX10_where ∈ en_T := List.mem_filter.mpr ⟨List.mem_of_getElem? (i := 1289) (by decide +kernel), by decide +kernel⟩
theorem tw_1290 : Cond.code yX10_where cX10_where 2 (some .int) ∈ en_T := List.mem_filter.mpr ⟨List.mem_of_getElem? (i := 1290) (by decide +kernel), by decide +kernel⟩
theorem tw_1291 : Cond.methodLink RX10 299 yX5_guess ∈ en_T := List.mem_filter.mpr ⟨List.mem_of_getElem? (i := 1291) (by decide +kernel), by decide +kernel⟩
theorem tw_1292 : Cond.instanceMethod yX5_guess ∈ en_T := List.mem_filter.mpr ⟨List.mem_of_getElem? (i := 1292) (by decide +kernel), by decide +kernel⟩
theorem tw_1293 : Cond.selects RX5 yX5_guess yX5_guess ∈ en_T := List.mem_filter.mpr ⟨List.mem_of_getElem? (i := 1293) (by decide +kernel), by decide +kernel⟩
theorem tw_1294 : Cond.code yX5_guess cX5_guess 3 (some .int) ∈ en_T := List.mem_filter.mpr ⟨List.mem_of_getElem? (i := 1294) (by decide +kernel), by decide +kernel⟩
theorem tw_1295 : Cond.methodLink RX10 302 yX5_near ∈ en_T := List.mem_filter.mpr ⟨List.mem_of_getElem? (i := 1295) (by decide +kernel), by decide +kernel⟩
theorem tw_1296 : Cond.instanceMethod yX5_near ∈ en_T := List.mem_filter.mpr ⟨List.mem_of_getElem? (i := 1296) (by decide +kernel), by decide +kernel⟩
theorem tw_1297 : Cond.selects RX5 yX5_near yX5_near ∈ en_T := List.mem_filter.mpr ⟨List.mem_of_getElem? (i := 1297) (by decide +kernel), by decide +kernel⟩
theorem tw_1298 : Cond.code yX5_near cX5_near 3 (some .int) ∈ en_T := List.mem_filter.mpr ⟨List.mem_of_getElem? (i := 1298) (by decide +kernel), by decide +kernel⟩
theorem tw_1299 : Cond.methodLink RX5 44 yX5_farFrom ∈ en_T := List.mem_filter.mpr ⟨List.mem_of_getElem? (i := 1299) (by decide +kernel), by decide +kernel⟩
theorem tw_1301 : Cond.instanceMethod yX5_farFrom ∈ en_T := List.mem_filter.mpr ⟨List.mem_of_getElem? (i := 1301) (by decide +kernel), by decide +kernel⟩
theorem tw_1302 : Cond.code yX5_farFrom cX5_farFrom 5 (some .long) ∈ en_T := List.mem_filter.mpr ⟨List.mem_of_getElem? (i := 1302) (by decide +kernel), by decide +kernel⟩
theorem tw_1303 : Cond.methodLink RX5 47 yJ9_abs_0f7a4 ∈ en_T := List.mem_filter.mpr ⟨List.mem_of_getElem? (i := 1303) (by decide +kernel), by decide +kernel⟩
theorem tw_1304 : Cond.static yJ9_abs_0f7a4 ∈ en_T := List.mem_filter.mpr ⟨List.mem_of_getElem? (i := 1304) (by decide +kernel), by decide +kernel⟩
theorem tw_1305 : Cond.code yJ9_abs_0f7a4 cJ9_abs_0f7a4 1 (some .int) ∈ en_T := List.mem_filter.mpr ⟨List.mem_of_getElem? (i := 1305) (by decide +kernel), by decide +kernel⟩
theorem tw_1306 : Cond.methodLink RX10 305 yX5_howFar ∈ en_T := List.mem_filter.mpr ⟨List.mem_of_getElem? (i := 1306) (by decide +kernel), by decide +kernel⟩
theorem tw_1307 : Cond.instanceMethod yX5_howFar ∈ en_T := List.mem_filter.mpr ⟨List.mem_of_getElem? (i := 1307) (by decide +kernel), by decide +kernel⟩
theorem tw_1308 : Cond.selects RX5 yX5_howFar yX5_howFar ∈ en_T := List.mem_filter.mpr ⟨List.mem_of_getElem? (i := 1308) (by decide +kernel), by decide +kernel⟩
theorem tw_1309 : Cond.code yX5_howFar cX5_howFar 1 (some .int) ∈ en_T := List.mem_filter.mpr ⟨List.mem_of_getElem? (i := 1309) (by decide +kernel), by decide +kernel⟩
theorem tw_1310 : Cond.methodLink RX5 53 yX5_near ∈ en_T := List.mem_filter.mpr ⟨List.mem_of_getElem? (i := 1310) (by decide +kernel), by decide +kernel⟩
theorem tw_1312 : Cond.static yL_found ∈ en_T := List.mem_filter.mpr ⟨List.mem_of_getElem? (i := 1312) (by decide +kernel), by decide +kernel⟩
theorem tw_1313 : Cond.codeWith yL_found cL_found 5 (some .int) [(0, 10, 13, 13)] ∈ en_T := List.mem_filter.mpr ⟨List.mem_of_getElem? (i := 1313) (by decide +kernel), by decide +kernel⟩
theorem tw_1314 : Cond.methodLink RL 77 yX10_found ∈ en_T := List.mem_filter.mpr ⟨List.mem_of_getElem? (i := 1314) (by decide +kernel), by decide +kernel⟩
theorem tw_1315 : Cond.instanceMethod yX10_found ∈ en_T := List.mem_filter.mpr ⟨List.mem_of_getElem? (i := 1315) (by decide +kernel), by decide +kernel⟩
theorem tw_1316 : Cond.selects RX10 yX10_found yX10_found ∈ en_T := List.mem_filter.mpr ⟨List.mem_of_getElem? (i := 1316) (by decide +kernel), by decide +kernel⟩
theorem tw_1317 : Cond.code yX10_found cX10_found 5 (some .int) ∈ en_T := List.mem_filter.mpr ⟨List.mem_of_getElem? (i := 1317) (by decide +kernel), by decide +kernel⟩
theorem tw_1319 : Cond.static yL_miles ∈ en_T := List.mem_filter.mpr ⟨List.mem_of_getElem? (i := 1319) (by decide +kernel), by decide +kernel⟩
theorem tw_1320 : Cond.codeWith yL_miles cL_miles 4 (some .int) [(0, 9, 12, 13)] ∈ en_T := List.mem_filter.mpr ⟨List.mem_of_getElem? (i := 1320) (by decide +kernel), by decide +kernel⟩
theorem tw_1321 : Cond.methodLink RL 80 yX10_miles ∈ en_T := List.mem_filter.mpr ⟨List.mem_of_getElem? (i := 1321) (by decide +kernel), by decide +kernel⟩
theorem tw_1322 : Cond.instanceMethod yX10_miles ∈ en_T := List.mem_filter.mpr ⟨List.mem_of_getElem? (i := 1322) (by decide +kernel), by decide +kernel⟩
theorem tw_1323 : Cond.selects RX10 yX10_miles yX10_miles ∈ en_T := List.mem_filter.mpr ⟨List.mem_of_getElem? (i := 1323) (by decide +kernel), by decide +kernel⟩
theorem tw_1324 : Cond.code yX10_miles cX10_miles 8 (some .int) ∈ en_T := List.mem_filter.mpr ⟨List.mem_of_getElem? (i := 1324) (by decide +kernel), by decide +kernel⟩
theorem tw_1325 : Cond.constantLong RX10 308 (jL 1000) ∈ en_T := List.mem_filter.mpr ⟨List.mem_of_getElem? (i := 1325) (by decide +kernel), by decide +kernel⟩
theorem tw_1327 : Cond.static yL_look ∈ en_T := List.mem_filter.mpr ⟨List.mem_of_getElem? (i := 1327) (by decide +kernel), by decide +kernel⟩
theorem tw_1328 : Cond.codeWith yL_look cL_look 6 (some .int) [(0, 12, 15, 13)] ∈ en_T := List.mem_filter.mpr ⟨List.mem_of_getElem? (i := 1328) (by decide +kernel), by decide +kernel⟩
theorem tw_1329 : Cond.methodLink RL 83 yX10_look ∈ en_T := List.mem_filter.mpr ⟨List.mem_of_getElem? (i := 1329) (by decide +kernel), by decide +kernel⟩
theorem tw_1330 : Cond.instanceMethod yX10_look ∈ en_T := List.mem_filter.mpr ⟨List.mem_of_getElem? (i := 1330) (by decide +kernel), by decide +kernel⟩
theorem tw_1331 : Cond.selects RX10 yX10_look yX10_look ∈ en_T := List.mem_filter.mpr ⟨List.mem_of_getElem? (i := 1331) (by decide +kernel), by decide +kernel⟩
theorem tw_1332 : Cond.code yX10_look cX10_look 5 (some .int) ∈ en_T := List.mem_filter.mpr ⟨List.mem_of_getElem? (i := 1332) (by decide +kernel), by decide +kernel⟩
theorem tw_1333 : Cond.methodLink RX10 313 yX6_richest ∈ en_T := List.mem_filter.mpr ⟨List.mem_of_getElem? (i := 1333) (by decide +kernel), by decide +kernel⟩
theorem tw_1334 : Cond.instanceMethod yX6_richest ∈ en_T := List.mem_filter.mpr ⟨List.mem_of_getElem? (i := 1334) (by decide +kernel), by decide +kernel⟩
theorem tw_1335 : Cond.selects RX6 yX6_richest yX6_richest ∈ en_T := List.mem_filter.mpr ⟨List.mem_of_getElem? (i := 1335) (by decide +kernel), by decide +kernel⟩
theorem tw_1336 : Cond.code yX6_richest cX6_richest 8 (some .int) ∈ en_T := List.mem_filter.mpr ⟨List.mem_of_getElem? (i := 1336) (by decide +kernel), by decide +kernel⟩
theorem tw_1337 : Cond.methodLink RX10 317 yX6_partIn ∈ en_T := List.mem_filter.mpr ⟨List.mem_of_getElem? (i := 1337) (by decide +kernel), by decide +kernel⟩
theorem tw_1338 : Cond.instanceMethod yX6_partIn ∈ en_T := List.mem_filter.mpr ⟨List.mem_of_getElem? (i := 1338) (by decide +kernel), by decide +kernel⟩
theorem tw_1339 : Cond.selects RX6 yX6_partIn yX6_partIn ∈ en_T := List.mem_filter.mpr ⟨List.mem_of_getElem? (i := 1339) (by decide +kernel), by decide +kernel⟩
theorem tw_1340 : Cond.code yX6_partIn cX6_partIn 9 (some .int) ∈ en_T := List.mem_filter.mpr ⟨List.mem_of_getElem? (i := 1340) (by decide +kernel), by decide +kernel⟩
theorem tw_1342 : Cond.static yL_left ∈ en_T := List.mem_filter.mpr ⟨List.mem_of_getElem? (i := 1342) (by decide +kernel), by decide +kernel⟩
theorem tw_1343 : Cond.codeWith yL_left cL_left 7 (some .int) [(0, 14, 17, 28), (0, 14, 21, 42), (0, 14, 25, 13), (0, 14, 29, 47)] ∈ en_T := List.mem_filter.mpr ⟨List.mem_of_getElem? (i := 1343) (by decide +kernel), by decide +kernel⟩
theorem tw_1344 : Cond.methodLink RL 86 yX10_left ∈ en_T := List.mem_filter.mpr ⟨List.mem_of_getElem? (i := 1344) (by decide +kernel), by decide +kernel⟩
theorem tw_1345 : Cond.instanceMethod yX10_left ∈ en_T := List.mem_filter.mpr ⟨List.mem_of_getElem? (i := 1345) (by decide +kernel), by decide +kernel⟩
theorem tw_1346 : Cond.selects RX10 yX10_left yX10_left ∈ en_T := List.mem_filter.mpr ⟨List.mem_of_getElem? (i := 1346) (by decide +kernel), by decide +kernel⟩
theorem tw_1347 : Cond.code yX10_left cX10_left 5 (some .int) ∈ en_T := List.mem_filter.mpr ⟨List.mem_of_getElem? (i := 1347) (by decide +kernel), by decide +kernel⟩
theorem tw_1348 : Cond.methodLink RX10 320 yX8_behind ∈ en_T := List.mem_filter.mpr ⟨List.mem_of_getElem? (i := 1348) (by decide +kernel), by decide +kernel⟩
theorem tw_1349 : Cond.instanceMethod yX8_behind ∈ en_T := List.mem_filter.mpr ⟨List.mem_of_getElem? (i := 1349) (by decide +kernel), by decide +kernel⟩
theorem tw_1350 : Cond.selects RX8 yX8_behind yX8_behind ∈ en_T := List.mem_filter.mpr ⟨List.mem_of_getElem? (i := 1350) (by decide +kernel), by decide +kernel⟩
theorem tw_1351 : Cond.code yX8_behind cX8_behind 4 (some (.object "ShingleBank$Shore")) ∈ en_T := List.mem_filter.mpr ⟨List.mem_of_getElem? (i := 1351) (by decide +kernel), by decide +kernel⟩
theorem tw_1352 : Cond.methodLink RX8 33 yX6_copy ∈ en_T := List.mem_filter.mpr ⟨List.mem_of_getElem? (i := 1352) (by decide +kernel), by decide +kernel⟩
theorem tw_1353 : Cond.methodLink RX8 37 yX4_rollYear ∈ en_T := List.mem_filter.mpr ⟨List.mem_of_getElem? (i := 1353) (by decide +kernel), by decide +kernel⟩
theorem tw_1355 : Cond.static yL_sample ∈ en_T := List.mem_filter.mpr ⟨List.mem_of_getElem? (i := 1355) (by decide +kernel), by decide +kernel⟩
theorem tw_1356 : Cond.codeWith yL_sample cL_sample 6 (some .int) [(0, 12, 15, 28), (0, 12, 19, 13)] ∈ en_T := List.mem_filter.mpr ⟨List.mem_of_getElem? (i := 1356) (by decide +kernel), by decide +kernel⟩
theorem tw_1357 : Cond.methodLink RL 89 yX10_sample ∈ en_T := List.mem_filter.mpr ⟨List.mem_of_getElem? (i := 1357) (by decide +kernel), by decide +kernel⟩
theorem tw_1358 : Cond.instanceMethod yX10_sample ∈ en_T := List.mem_filter.mpr ⟨List.mem_of_getElem? (i := 1358) (by decide +kernel), by decide +kernel⟩
theorem tw_1359 : Cond.selects RX10 yX10_sample yX10_sample ∈ en_T := List.mem_filter.mpr ⟨List.mem_of_getElem? (i := 1359) (by decide +kernel), by decide +kernel⟩
theorem tw_1360 : Cond.code yX10_sample cX10_sample 6 (some .int) ∈ en_T := List.mem_filter.mpr ⟨List.mem_of_getElem? (i := 1360) (by decide +kernel), by decide +kernel⟩
theorem tw_1361 : Cond.constant RX10 324 (iI 999999) ∈ en_T := List.mem_filter.mpr ⟨List.mem_of_getElem? (i := 1361) (by decide +kernel), by decide +kernel⟩
theorem tw_1363 : Cond.static yL_which ∈ en_T := List.mem_filter.mpr ⟨List.mem_of_getElem? (i := 1363) (by decide +kernel), by decide +kernel⟩
theorem tw_1364 : Cond.codeWith yL_which cL_which 5 (some .int) [(0, 10, 13, 42), (0, 10, 17, 13), (0, 10, 21, 47)] ∈ en_T := List.mem_filter.mpr ⟨List.mem_of_getElem? (i := 1364) (by decide +kernel), by decide +kernel⟩
theorem tw_1365 : Cond.methodLink RL 92 yX10_which ∈ en_T := List.mem_filter.mpr ⟨List.mem_of_getElem? (i := 1365) (by decide +kernel), by decide +kernel⟩
theorem tw_1366 : Cond.instanceMethod yX10_which ∈ en_T := List.mem_filter.mpr ⟨List.mem_of_getElem? (i := 1366) (by decide +kernel), by decide +kernel⟩
theorem tw_1367 : Cond.selects RX10 yX10_which yX10_which ∈ en_T := List.mem_filter.mpr ⟨List.mem_of_getElem? (i := 1367) (by decide +kernel), by decide +kernel⟩
theorem tw_1368 : Cond.code yX10_which cX10_which 3 (some .int) ∈ en_T := List.mem_filter.mpr ⟨List.mem_of_getElem? (i := 1368) (by decide +kernel), by decide +kernel⟩
theorem tw_1369 : Cond.methodLink RX10 328 yX8_nearest ∈ en_T := List.mem_filter.mpr ⟨List.mem_of_getElem? (i := 1369) (by decide +kernel), by decide +kernel⟩
theorem tw_1370 : Cond.instanceMethod yX8_nearest ∈ en_T := List.mem_filter.mpr ⟨List.mem_of_getElem? (i := 1370) (by decide +kernel), by decide +kernel⟩
theorem tw_1371 : Cond.selects RX8 yX8_nearest yX8_nearest ∈ en_T := List.mem_filter.mpr ⟨List.mem_of_getElem? (i := 1371) (by decide +kernel), by decide +kernel⟩
theorem tw_1372 : Cond.code yX8_nearest cX8_nearest 7 none ∈ en_T := List.mem_filter.mpr ⟨List.mem_of_getElem? (i := 1372) (by decide +kernel), by decide +kernel⟩
theorem tw_1373 : Cond.methodLink RX8 53 yX8_apartFrom ∈ en_T := List.mem_filter.mpr ⟨List.mem_of_getElem? (i := 1373) (by decide +kernel), by decide +kernel⟩
theorem tw_1375 : Cond.instanceMethod yX8_apartFrom ∈ en_T := List.mem_filter.mpr ⟨List.mem_of_getElem? (i := 1375) (by decide +kernel), by decide +kernel⟩
theorem tw_1376 : Cond.code yX8_apartFrom cX8_apartFrom 6 (some .int) ∈ en_T := List.mem_filter.mpr ⟨List.mem_of_getElem? (i := 1376) (by decide +kernel), by decide +kernel⟩
theorem tw_1377 : Cond.methodLink RX8 63 yX6_inCell ∈ en_T := List.mem_filter.mpr ⟨List.mem_of_getElem? (i := 1377) (by decide +kernel), by decide +kernel⟩
theorem tw_1378 : Cond.methodLink RX8 67 yJ9_abs_0f7a4 ∈ en_T := List.mem_filter.mpr ⟨List.mem_of_getElem? (i := 1378) (by decide +kernel), by decide +kernel⟩
theorem tw_1380 : Cond.static yL_cost ∈ en_T := List.mem_filter.mpr ⟨List.mem_of_getElem? (i := 1380) (by decide +kernel), by decide +kernel⟩
theorem tw_1381 : Cond.codeWith yL_cost cL_cost 8 (some .int) [(0, 16, 19, 28), (0, 16, 23, 42), (0, 16, 27, 13), (0, 16, 31, 47)] ∈ en_T := List.mem_filter.mpr ⟨List.mem_of_getElem? (i := 1381) (by decide +kernel), by decide +kernel⟩
theorem tw_1382 : Cond.methodLink RL 95 yX10_cost ∈ en_T := List.mem_filter.mpr ⟨List.mem_of_getElem? (i := 1382) (by decide +kernel), by decide +kernel⟩
theorem tw_1383 : Cond.instanceMethod yX10_cost ∈ en_T := List.mem_filter.mpr ⟨List.mem_of_getElem? (i := 1383) (by decide +kernel), by decide +kernel⟩
theorem tw_1384 : Cond.selects RX10 yX10_cost yX10_cost ∈ en_T := List.mem_filter.mpr ⟨List.mem_of_getElem? (i := 1384) (by decide +kernel), by decide +kernel⟩
theorem tw_1385 : Cond.code yX10_cost cX10_cost 7 (some .int) ∈ en_T := List.mem_filter.mpr ⟨List.mem_of_getElem? (i := 1385) (by decide +kernel), by decide +kernel⟩
theorem tw_1386 : Cond.methodLink RX10 338 yX6_allIn ∈ en_T := List.mem_filter.mpr ⟨List.mem_of_getElem? (i := 1386) (by decide +kernel), by decide +kernel⟩
theorem tw_1387 : Cond.methodLink RX10 341 yX8_behindWall ∈ en_T := List.mem_filter.mpr ⟨List.mem_of_getElem? (i := 1387) (by decide +kernel), by decide +kernel⟩
theorem tw_1388 : Cond.instanceMethod yX8_behindWall ∈ en_T := List.mem_filter.mpr ⟨List.mem_of_getElem? (i := 1388) (by decide +kernel), by decide +kernel⟩
theorem tw_1389 : Cond.selects RX8 yX8_behindWall yX8_behindWall ∈ en_T := List.mem_filter.mpr ⟨List.mem_of_getElem? (i := 1389) (by decide +kernel), by decide +kernel⟩
theorem tw_1390 : Cond.code yX8_behindWall cX8_behindWall 6 (some (.object "ShingleBank$Shore")) ∈ en_T := List.mem_filter.mpr ⟨List.mem_of_getElem? (i := 1390) (by decide +kernel), by decide +kernel⟩
theorem tw_1391 : Cond.methodLink RX8 43 yX8_buildWalls ∈ en_T := List.mem_filter.mpr ⟨List.mem_of_getElem? (i := 1391) (by decide +kernel), by decide +kernel⟩
theorem tw_1393 : Cond.instanceMethod yX8_buildWalls ∈ en_T := List.mem_filter.mpr ⟨List.mem_of_getElem? (i := 1393) (by decide +kernel), by decide +kernel⟩
theorem tw_1394 : Cond.code yX8_buildWalls cX8_buildWalls 4 none ∈ en_T := List.mem_filter.mpr ⟨List.mem_of_getElem? (i := 1394) (by decide +kernel), by decide +kernel⟩
theorem tw_1396 : Cond.static yL_raised ∈ en_T := List.mem_filter.mpr ⟨List.mem_of_getElem? (i := 1396) (by decide +kernel), by decide +kernel⟩
theorem tw_1397 : Cond.codeWith yL_raised cL_raised 8 (some .int) [(0, 16, 19, 42), (0, 16, 23, 13), (0, 16, 27, 47)] ∈ en_T := List.mem_filter.mpr ⟨List.mem_of_getElem? (i := 1397) (by decide +kernel), by decide +kernel⟩
theorem tw_1398 : Cond.methodLink RL 99 yX10_raised ∈ en_T := List.mem_filter.mpr ⟨List.mem_of_getElem? (i := 1398) (by decide +kernel), by decide +kernel⟩
theorem tw_1399 : Cond.instanceMethod yX10_raised ∈ en_T := List.mem_filter.mpr ⟨List.mem_of_getElem? (i := 1399) (by decide +kernel), by decide +kernel⟩
theorem tw_1400 : Cond.selects RX10 yX10_raised yX10_raised ∈ en_T := List.mem_filter.mpr ⟨List.mem_of_getElem? (i := 1400) (by decide +kernel), by decide +kernel⟩
theorem tw_1401 : Cond.code yX10_raised cX10_raised 6 (some .int) ∈ en_T := List.mem_filter.mpr ⟨List.mem_of_getElem? (i := 1401) (by decide +kernel), by decide +kernel⟩
theorem tw_1402 : Cond.methodLink RX10 345 yX8_raise ∈ en_T := List.mem_filter.mpr ⟨List.mem_of_getElem? (i := 1402) (by decide +kernel), by decide +kernel⟩
theorem tw_1403 : Cond.instanceMethod yX8_raise ∈ en_T := List.mem_filter.mpr ⟨List.mem_of_getElem? (i := 1403) (by decide +kernel), by decide +kernel⟩
theorem tw_1404 : Cond.selects RX8 yX8_raise yX8_raise ∈ en_T := List.mem_filter.mpr ⟨List.mem_of_getElem? (i := 1404) (by decide +kernel), by decide +kernel⟩
theorem tw_1405 : Cond.code yX8_raise cX8_raise 9 none ∈ en_T := List.mem_filter.mpr ⟨List.mem_of_getElem? (i := 1405) (by decide +kernel), by decide +kernel⟩
theorem tw_1406 : Cond.methodLink RX8 76 yX4_oversIn ∈ en_T := List.mem_filter.mpr ⟨List.mem_of_getElem? (i := 1406) (by decide +kernel), by decide +kernel⟩
theorem tw_1407 : Cond.instanceMethod yX4_oversIn ∈ en_T := List.mem_filter.mpr ⟨List.mem_of_getElem? (i := 1407) (by decide +kernel), by decide +kernel⟩
theorem tw_1408 : Cond.selects RX4 yX4_oversIn yX4_oversIn ∈ en_T := List.mem_filter.mpr ⟨List.mem_of_getElem? (i := 1408) (by decide +kernel), by decide +kernel⟩
theorem tw_1409 : Cond.code yX4_oversIn cX4_oversIn 11 (some .int) ∈ en_T := List.mem_filter.mpr ⟨List.mem_of_getElem? (i := 1409) (by decide +kernel), by decide +kernel⟩
theorem tw_1410 : Cond.methodLink RX8 80 yJ6_bitCount_0f7a4 ∈ en_T := List.mem_filter.mpr ⟨List.mem_of_getElem? (i := 1410) (by decide +kernel), by decide +kernel⟩
theorem tw_1411 : Cond.static yJ6_bitCount_0f7a4 ∈ en_T := List.mem_filter.mpr ⟨List.mem_of_getElem? (i := 1411) (by decide +kernel), by decide +kernel⟩
theorem tw_1412 : Cond.code yJ6_bitCount_0f7a4 cJ6_bitCount_0f7a4 1 (some .int) ∈ en_T := List.mem_filter.mpr ⟨List.mem_of_getElem? (i := 1412) (by decide +kernel), by decide +kernel⟩
theorem tw_1413 : Cond.constant RJ6 265 (iI 1431655765) ∈ en_T := List.mem_filter.mpr ⟨List.mem_of_getElem? (i := 1413) (by decide +kernel), by decide +kernel⟩
theorem tw_1414 : Cond.constant RJ6 266 (iI 858993459) ∈ en_T := List.mem_filter.mpr ⟨List.mem_of_getElem? (i := 1414) (by decide +kernel), by decide +kernel⟩
theorem tw_1415 : Cond.constant RJ6 267 (iI 252645135) ∈ en_T := List.mem_filter.mpr ⟨List.mem_of_getElem? (i := 1415) (by decide +kernel), by decide +kernel⟩
theorem tw_1416 : Cond.methodLink RX8 85 yX8_fewerBy ∈ en_T := List.mem_filter.mpr ⟨List.mem_of_getElem? (i := 1416) (by decide +kernel), by decide +kernel⟩
theorem tw_1418 : Cond.instanceMethod yX8_fewerBy ∈ en_T := List.mem_filter.mpr ⟨List.mem_of_getElem? (i := 1418) (by decide +kernel), by decide +kernel⟩
theorem tw_1419 : Cond.code yX8_fewerBy cX8_fewerBy 4 (some .int) ∈ en_T := List.mem_filter.mpr ⟨List.mem_of_getElem? (i := 1419) (by decide +kernel), by decide +kernel⟩
theorem tw_1421 : Cond.static yL_brought ∈ en_T := List.mem_filter.mpr ⟨List.mem_of_getElem? (i := 1421) (by decide +kernel), by decide +kernel⟩
theorem tw_1422 : Cond.codeWith yL_brought cL_brought 7 (some .int) [(0, 14, 17, 42), (0, 14, 21, 13), (0, 14, 25, 47)] ∈ en_T := List.mem_filter.mpr ⟨List.mem_of_getElem? (i := 1422) (by decide +kernel), by decide +kernel⟩
theorem tw_1423 : Cond.methodLink RL 102 yX10_brought ∈ en_T := List.mem_filter.mpr ⟨List.mem_of_getElem? (i := 1423) (by decide +kernel), by decide +kernel⟩
theorem tw_1424 : Cond.instanceMethod yX10_brought ∈ en_T := List.mem_filter.mpr ⟨List.mem_of_getElem? (i := 1424) (by decide +kernel), by decide +kernel⟩
theorem tw_1425 : Cond.selects RX10 yX10_brought yX10_brought ∈ en_T := List.mem_filter.mpr ⟨List.mem_of_getElem? (i := 1425) (by decide +kernel), by decide +kernel⟩
theorem tw_1426 : Cond.code yX10_brought cX10_brought 5 (some .int) ∈ en_T := List.mem_filter.mpr ⟨List.mem_of_getElem? (i := 1426) (by decide +kernel), by decide +kernel⟩
theorem tw_1427 : Cond.methodLink RX10 349 yX8_bring ∈ en_T := List.mem_filter.mpr ⟨List.mem_of_getElem? (i := 1427) (by decide +kernel), by decide +kernel⟩
theorem tw_1428 : Cond.instanceMethod yX8_bring ∈ en_T := List.mem_filter.mpr ⟨List.mem_of_getElem? (i := 1428) (by decide +kernel), by decide +kernel⟩
theorem tw_1429 : Cond.selects RX8 yX8_bring yX8_bring ∈ en_T := List.mem_filter.mpr ⟨List.mem_of_getElem? (i := 1429) (by decide +kernel), by decide +kernel⟩
theorem tw_1430 : Cond.code yX8_bring cX8_bring 8 none ∈ en_T := List.mem_filter.mpr ⟨List.mem_of_getElem? (i := 1430) (by decide +kernel), by decide +kernel⟩
theorem tw_1431 : Cond.methodLink RX8 91 yX6_pairs ∈ en_T := List.mem_filter.mpr ⟨List.mem_of_getElem? (i := 1431) (by decide +kernel), by decide +kernel⟩
theorem tw_1432 : Cond.methodLink RX8 95 yX6_haul ∈ en_T := List.mem_filter.mpr ⟨List.mem_of_getElem? (i := 1432) (by decide +kernel), by decide +kernel⟩
theorem tw_1434 : Cond.static yL_sums ∈ en_T := List.mem_filter.mpr ⟨List.mem_of_getElem? (i := 1434) (by decide +kernel), by decide +kernel⟩
theorem tw_1435 : Cond.codeWith yL_sums cL_sums 4 (some .int) [(0, 9, 12, 13)] ∈ en_T := List.mem_filter.mpr ⟨List.mem_of_getElem? (i := 1435) (by decide +kernel), by decide +kernel⟩
theorem tw_1436 : Cond.methodLink RL 105 yX10_sums ∈ en_T := List.mem_filter.mpr ⟨List.mem_of_getElem? (i := 1436) (by decide +kernel), by decide +kernel⟩
theorem tw_1437 : Cond.instanceMethod yX10_sums ∈ en_T := List.mem_filter.mpr ⟨List.mem_of_getElem? (i := 1437) (by decide +kernel), by decide +kernel⟩
theorem tw_1438 : Cond.selects RX10 yX10_sums yX10_sums ∈ en_T := List.mem_filter.mpr ⟨List.mem_of_getElem? (i := 1438) (by decide +kernel), by decide +kernel⟩
theorem tw_1439 : Cond.code yX10_sums cX10_sums 2 (some .int) ∈ en_T := List.mem_filter.mpr ⟨List.mem_of_getElem? (i := 1439) (by decide +kernel), by decide +kernel⟩
theorem tw_1441 : Cond.static yL_last ∈ en_T := List.mem_filter.mpr ⟨List.mem_of_getElem? (i := 1441) (by decide +kernel), by decide +kernel⟩
theorem tw_1442 : Cond.codeWith yL_last cL_last 7 (some .int) [(0, 14, 17, 28), (0, 14, 21, 42), (0, 14, 25, 13), (0, 14, 29, 47)] ∈ en_T := List.mem_filter.mpr ⟨List.mem_of_getElem? (i := 1442) (by decide +kernel), by decide +kernel⟩
theorem tw_1443 : Cond.methodLink RL 108 yX10_last ∈ en_T := List.mem_filter.mpr ⟨List.mem_of_getElem? (i := 1443) (by decide +kernel), by decide +kernel⟩
theorem tw_1444 : Cond.instanceMethod yX10_last ∈ en_T := List.mem_filter.mpr ⟨List.mem_of_getElem? (i := 1444) (by decide +kernel), by decide +kernel⟩
theorem tw_1445 : Cond.selects RX10 yX10_last yX10_last ∈ en_T := List.mem_filter.mpr ⟨List.mem_of_getElem? (i := 1445) (by decide +kernel), by decide +kernel⟩
theorem tw_1446 : Cond.code yX10_last cX10_last 5 (some .int) ∈ en_T := List.mem_filter.mpr ⟨List.mem_of_getElem? (i := 1446) (by decide +kernel), by decide +kernel⟩
theorem tw_1447 : Cond.methodLink RX10 353 yX8_yearsTillFewer ∈ en_T := List.mem_filter.mpr ⟨List.mem_of_getElem? (i := 1447) (by decide +kernel), by decide +kernel⟩
theorem tw_1448 : Cond.instanceMethod yX8_yearsTillFewer ∈ en_T := List.mem_filter.mpr ⟨List.mem_of_getElem? (i := 1448) (by decide +kernel), by decide +kernel⟩
theorem tw_1449 : Cond.selects RX8 yX8_yearsTillFewer yX8_yearsTillFewer ∈ en_T := List.mem_filter.mpr ⟨List.mem_of_getElem? (i := 1449) (by decide +kernel), by decide +kernel⟩
theorem tw_1450 : Cond.code yX8_yearsTillFewer cX8_yearsTillFewer 7 (some .int) ∈ en_T := List.mem_filter.mpr ⟨List.mem_of_getElem? (i := 1450) (by decide +kernel), by decide +kernel⟩
theorem tw_1451 : Cond.methodLink RX8 88 yX6_allIn ∈ en_T := List.mem_filter.mpr ⟨List.mem_of_getElem? (i := 1451) (by decide +kernel), by decide +kernel⟩
theorem tw_1453 : Cond.static yL_like ∈ en_T := List.mem_filter.mpr ⟨List.mem_of_getElem? (i := 1453) (by decide +kernel), by decide +kernel⟩
theorem tw_1454 : Cond.codeWith yL_like cL_like 5 (some .int) [(0, 10, 13, 28)] ∈ en_T := List.mem_filter.mpr ⟨List.mem_of_getElem? (i := 1454) (by decide +kernel), by decide +kernel⟩
theorem tw_1455 : Cond.methodLink RL 111 yX10_like ∈ en_T := List.mem_filter.mpr ⟨List.mem_of_getElem? (i := 1455) (by decide +kernel), by decide +kernel⟩
theorem tw_1456 : Cond.instanceMethod yX10_like ∈ en_T := List.mem_filter.mpr ⟨List.mem_of_getElem? (i := 1456) (by decide +kernel), by decide +kernel⟩
theorem tw_1457 : Cond.selects RX10 yX10_like yX10_like ∈ en_T := List.mem_filter.mpr ⟨List.mem_of_getElem? (i := 1457) (by decide +kernel), by decide +kernel⟩
theorem tw_1458 : Cond.code yX10_like cX10_like 5 (some .int) ∈ en_T := List.mem_filter.mpr ⟨List.mem_of_getElem? (i := 1458) (by decide +kernel), by decide +kernel⟩
theorem tw_1459 : Cond.methodLink RX10 356 yX6_share ∈ en_T := List.mem_filter.mpr ⟨List.mem_of_getElem? (i := 1459) (by decide +kernel), by decide +kernel⟩
theorem tw_1460 : Cond.methodLink RX10 359 yJ9_abs_0f7a4 ∈ en_T := List.mem_filter.mpr ⟨List.mem_of_getElem? (i := 1460) (by decide +kernel), by decide +kernel⟩
theorem tw_1462 : Cond.static yL_walls ∈ en_T := List.mem_filter.mpr ⟨List.mem_of_getElem? (i := 1462) (by decide +kernel), by decide +kernel⟩
theorem tw_1463 : Cond.codeWith yL_walls cL_walls 9 (some .int) [(0, 18, 21, 28), (0, 18, 25, 42), (0, 18, 29, 13), (0, 18, 33, 47)] ∈ en_T := List.mem_filter.mpr ⟨List.mem_of_getElem? (i := 1463) (by decide +kernel), by decide +kernel⟩
theorem tw_1464 : Cond.methodLink RL 114 yX10_walls ∈ en_T := List.mem_filter.mpr ⟨List.mem_of_getElem? (i := 1464) (by decide +kernel), by decide +kernel⟩
theorem tw_1465 : Cond.instanceMethod yX10_walls ∈ en_T := List.mem_filter.mpr ⟨List.mem_of_getElem? (i := 1465) (by decide +kernel), by decide +kernel⟩
theorem tw_1466 : Cond.selects RX10 yX10_walls yX10_walls ∈ en_T := List.mem_filter.mpr ⟨List.mem_of_getElem? (i := 1466) (by decide +kernel), by decide +kernel⟩
theorem tw_1467 : Cond.code yX10_walls cX10_walls 7 (some .int) ∈ en_T := List.mem_filter.mpr ⟨List.mem_of_getElem? (i := 1467) (by decide +kernel), by decide +kernel⟩
theorem tw_1468 : Cond.methodLink RX10 364 yX8_wall ∈ en_T := List.mem_filter.mpr ⟨List.mem_of_getElem? (i := 1468) (by decide +kernel), by decide +kernel⟩
theorem tw_1469 : Cond.instanceMethod yX8_wall ∈ en_T := List.mem_filter.mpr ⟨List.mem_of_getElem? (i := 1469) (by decide +kernel), by decide +kernel⟩
theorem tw_1470 : Cond.selects RX8 yX8_wall yX8_wall ∈ en_T := List.mem_filter.mpr ⟨List.mem_of_getElem? (i := 1470) (by decide +kernel), by decide +kernel⟩
theorem tw_1471 : Cond.code yX8_wall cX8_wall 9 none ∈ en_T := List.mem_filter.mpr ⟨List.mem_of_getElem? (i := 1471) (by decide +kernel), by decide +kernel⟩
theorem tw_1473 : Cond.static yL_high ∈ en_T := List.mem_filter.mpr ⟨List.mem_of_getElem? (i := 1473) (by decide +kernel), by decide +kernel⟩
theorem tw_1474 : Cond.codeWith yL_high cL_high 5 (some .int) [(0, 10, 13, 42), (0, 10, 17, 47)] ∈ en_T := List.mem_filter.mpr ⟨List.mem_of_getElem? (i := 1474) (by decide +kernel), by decide +kernel⟩
theorem tw_1475 : Cond.methodLink RL 118 yX10_high ∈ en_T := List.mem_filter.mpr ⟨List.mem_of_getElem? (i := 1475) (by decide +kernel), by decide +kernel⟩
theorem tw_1476 : Cond.instanceMethod yX10_high ∈ en_T := List.mem_filter.mpr ⟨List.mem_of_getElem? (i := 1476) (by decide +kernel), by decide +kernel⟩
theorem tw_1477 : Cond.selects RX10 yX10_high yX10_high ∈ en_T := List.mem_filter.mpr ⟨List.mem_of_getElem? (i := 1477) (by decide +kernel), by decide +kernel⟩
theorem tw_1478 : Cond.code yX10_high cX10_high 3 (some .int) ∈ en_T := List.mem_filter.mpr ⟨List.mem_of_getElem? (i := 1478) (by decide +kernel), by decide +kernel⟩
theorem tw_1479 : Cond.methodLink RX10 368 yX8_leastDry ∈ en_T := List.mem_filter.mpr ⟨List.mem_of_getElem? (i := 1479) (by decide +kernel), by decide +kernel⟩
theorem tw_1480 : Cond.instanceMethod yX8_leastDry ∈ en_T := List.mem_filter.mpr ⟨List.mem_of_getElem? (i := 1480) (by decide +kernel), by decide +kernel⟩
theorem tw_1481 : Cond.selects RX8 yX8_leastDry yX8_leastDry ∈ en_T := List.mem_filter.mpr ⟨List.mem_of_getElem? (i := 1481) (by decide +kernel), by decide +kernel⟩
theorem tw_1482 : Cond.code yX8_leastDry cX8_leastDry 7 (some .int) ∈ en_T := List.mem_filter.mpr ⟨List.mem_of_getElem? (i := 1482) (by decide +kernel), by decide +kernel⟩
theorem tw_1484 : Cond.static yL_one ∈ en_T := List.mem_filter.mpr ⟨List.mem_of_getElem? (i := 1484) (by decide +kernel), by decide +kernel⟩
theorem tw_1485 : Cond.codeWith yL_one cL_one 4 (some .int) [(0, 9, 12, 13)] ∈ en_T := List.mem_filter.mpr ⟨List.mem_of_getElem? (i := 1485) (by decide +kernel), by decide +kernel⟩
theorem tw_1486 : Cond.methodLink RL 121 yX10_one ∈ en_T := List.mem_filter.mpr ⟨List.mem_of_getElem? (i := 1486) (by decide +kernel), by decide +kernel⟩
theorem tw_1487 : Cond.instanceMethod yX10_one ∈ en_T := List.mem_filter.mpr ⟨List.mem_of_getElem? (i := 1487) (by decide +kernel), by decide +kernel⟩
theorem tw_1488 : Cond.selects RX10 yX10_one yX10_one ∈ en_T := List.mem_filter.mpr ⟨List.mem_of_getElem? (i := 1488) (by decide +kernel), by decide +kernel⟩
theorem tw_1489 : Cond.code yX10_one cX10_one 7 (some .int) ∈ en_T := List.mem_filter.mpr ⟨List.mem_of_getElem? (i := 1489) (by decide +kernel), by decide +kernel⟩
theorem tw_1490 : Cond.methodLink RX10 371 yX5_feelStone ∈ en_T := List.mem_filter.mpr ⟨List.mem_of_getElem? (i := 1490) (by decide +kernel), by decide +kernel⟩
theorem tw_1491 : Cond.instanceMethod yX5_feelStone ∈ en_T := List.mem_filter.mpr ⟨List.mem_of_getElem? (i := 1491) (by decide +kernel), by decide +kernel⟩
theorem tw_1492 : Cond.selects RX5 yX5_feelStone yX5_feelStone ∈ en_T := List.mem_filter.mpr ⟨List.mem_of_getElem? (i := 1492) (by decide +kernel), by decide +kernel⟩
theorem tw_1493 : Cond.code yX5_feelStone cX5_feelStone 4 none ∈ en_T := List.mem_filter.mpr ⟨List.mem_of_getElem? (i := 1493) (by decide +kernel), by decide +kernel⟩
theorem tw_1494 : Cond.methodLink RX5 38 yX6_share ∈ en_T := List.mem_filter.mpr ⟨List.mem_of_getElem? (i := 1494) (by decide +kernel), by decide +kernel⟩
theorem tw_1496 : Cond.static yL_seen ∈ en_T := List.mem_filter.mpr ⟨List.mem_of_getElem? (i := 1496) (by decide +kernel), by decide +kernel⟩
theorem tw_1497 : Cond.codeWith yL_seen cL_seen 5 (some .int) [(0, 10, 13, 13)] ∈ en_T := List.mem_filter.mpr ⟨List.mem_of_getElem? (i := 1497) (by decide +kernel), by decide +kernel⟩
theorem tw_1498 : Cond.methodLink RL 124 yX10_seen ∈ en_T := List.mem_filter.mpr ⟨List.mem_of_getElem? (i := 1498) (by decide +kernel), by decide +kernel⟩
theorem tw_1499 : Cond.instanceMethod yX10_seen ∈ en_T := List.mem_filter.mpr ⟨List.mem_of_getElem? (i := 1499) (by decide +kernel), by decide +kernel⟩
theorem tw_1500 : Cond.selects RX10 yX10_seen yX10_seen ∈ en_T := List.mem_filter.mpr ⟨List.mem_of_getElem? (i := 1500) (by decide +kernel), by decide +kernel⟩
theorem tw_1501 : Cond.code yX10_seen cX10_seen 3 (some .int) ∈ en_T := List.mem_filter.mpr ⟨List.mem_of_getElem? (i := 1501) (by decide +kernel), by decide +kernel⟩
theorem tw_1503 : Cond.instanceMethod yX11_thrown ∈ en_T := List.mem_filter.mpr ⟨List.mem_of_getElem? (i := 1503) (by decide +kernel), by decide +kernel⟩
theorem tw_1504 : Cond.selects RX11 yX11_thrown yX11_thrown ∈ en_T := List.mem_filter.mpr ⟨List.mem_of_getElem? (i := 1504) (by decide +kernel), by decide +kernel⟩
theorem tw_1505 : Cond.code yX11_thrown cX11_thrown 1 (some .int) ∈ en_T := List.mem_filter.mpr ⟨List.mem_of_getElem? (i := 1505) (by decide +kernel), by decide +kernel⟩
theorem tw_1512 : Cond.fieldLink RX11 1 "ShingleBankModel" "thrown" "I" ∈ en_T := List.mem_filter.mpr ⟨List.mem_of_getElem? (i := 1512) (by decide +kernel), by decide +kernel⟩
theorem tw_1513 : Cond.fieldLink RX11 7 "ShingleBankModel" "refused" "[I" ∈ en_T := List.mem_filter.mpr ⟨List.mem_of_getElem? (i := 1513) (by decide +kernel), by decide +kernel⟩
theorem tw_1514 : Cond.fieldLink RX11 83 "ShingleBankModel" "taped" "I" ∈ en_T := List.mem_filter.mpr ⟨List.mem_of_getElem? (i := 1514) (by decide +kernel), by decide +kernel⟩
theorem tw_1515 : Cond.fieldLink RX11 95 "ShingleBankModel" "size" "I" ∈ en_T := List.mem_filter.mpr ⟨List.mem_of_getElem? (i := 1515) (by decide +kernel), by decide +kernel⟩
theorem tw_1516 : Cond.fieldLink RX11 92 "ShingleBankModel" "at" "I" ∈ en_T := List.mem_filter.mpr ⟨List.mem_of_getElem? (i := 1516) (by decide +kernel), by decide +kernel⟩
theorem tw_1517 : Cond.fieldLink RX11 86 "ShingleBankModel" "bad" "I" ∈ en_T := List.mem_filter.mpr ⟨List.mem_of_getElem? (i := 1517) (by decide +kernel), by decide +kernel⟩
theorem tw_1518 : Cond.fieldLink RX11 89 "ShingleBankModel" "badKind" "I" ∈ en_T := List.mem_filter.mpr ⟨List.mem_of_getElem? (i := 1518) (by decide +kernel), by decide +kernel⟩
theorem tw_1519 : Cond.fieldLink RX11 126 "ShingleBankModel" "opens" "I" ∈ en_T := List.mem_filter.mpr ⟨List.mem_of_getElem? (i := 1519) (by decide +kernel), by decide +kernel⟩
theorem tw_1520 : Cond.fieldLink RX11 17 "ShingleBankModel" "faultAt" "I" ∈ en_T := List.mem_filter.mpr ⟨List.mem_of_getElem? (i := 1520) (by decide +kernel), by decide +kernel⟩
theorem tw_1521 : Cond.fieldLink RX11 20 "ShingleBankModel" "tape" "[I" ∈ en_T := List.mem_filter.mpr ⟨List.mem_of_getElem? (i := 1521) (by decide +kernel), by decide +kernel⟩
theorem tw_1522 : Cond.fieldLink RX11 23 "ShingleBankModel" "b" "[I" ∈ en_T := List.mem_filter.mpr ⟨List.mem_of_getElem? (i := 1522) (by decide +kernel), by decide +kernel⟩
theorem tw_1523 : Cond.fieldLink RX11 26 "ShingleBankModel" "newBeach" "[I" ∈ en_T := List.mem_filter.mpr ⟨List.mem_of_getElem? (i := 1523) (by decide +kernel), by decide +kernel⟩
theorem tw_1524 : Cond.fieldLink RX11 29 "ShingleBankModel" "s" "[I" ∈ en_T := List.mem_filter.mpr ⟨List.mem_of_getElem? (i := 1524) (by decide +kernel), by decide +kernel⟩
theorem tw_1525 : Cond.fieldLink RX11 32 "ShingleBankModel" "newState" "[I" ∈ en_T := List.mem_filter.mpr ⟨List.mem_of_getElem? (i := 1525) (by decide +kernel), by decide +kernel⟩
theorem tw_1526 : Cond.fieldLink RX11 35 "ShingleBankModel" "kept" "[I" ∈ en_T := List.mem_filter.mpr ⟨List.mem_of_getElem? (i := 1526) (by decide +kernel), by decide +kernel⟩
theorem tw_1527 : Cond.fieldLink RX11 38 "ShingleBankModel" "image" "[I" ∈ en_T := List.mem_filter.mpr ⟨List.mem_of_getElem? (i := 1527) (by decide +kernel), by decide +kernel⟩
theorem tw_1528 : Cond.fieldLink RX11 200 "ShingleBankModel" "images" "I" ∈ en_T := List.mem_filter.mpr ⟨List.mem_of_getElem? (i := 1528) (by decide +kernel), by decide +kernel⟩
theorem tw_1529 : Cond.fieldLink RX11 203 "ShingleBankModel" "laws" "I" ∈ en_T := List.mem_filter.mpr ⟨List.mem_of_getElem? (i := 1529) (by decide +kernel), by decide +kernel⟩
theorem tw_1530 : Cond.fieldLink RX11 269 "ShingleBankModel" "years" "I" ∈ en_T := List.mem_filter.mpr ⟨List.mem_of_getElem? (i := 1530) (by decide +kernel), by decide +kernel⟩
theorem tw_1531 : Cond.fieldLink RX11 206 "ShingleBankModel" "steps" "I" ∈ en_T := List.mem_filter.mpr ⟨List.mem_of_getElem? (i := 1531) (by decide +kernel), by decide +kernel⟩
theorem tw_1532 : Cond.fieldLink RX11 41 "ShingleBankModel" "step" "[I" ∈ en_T := List.mem_filter.mpr ⟨List.mem_of_getElem? (i := 1532) (by decide +kernel), by decide +kernel⟩
theorem tw_1533 : Cond.fieldLink RX11 44 "ShingleBankModel" "stepValue" "[I" ∈ en_T := List.mem_filter.mpr ⟨List.mem_of_getElem? (i := 1533) (by decide +kernel), by decide +kernel⟩
theorem tw_1534 : Cond.fieldLink RX11 47 "ShingleBankModel" "lawFrom" "[I" ∈ en_T := List.mem_filter.mpr ⟨List.mem_of_getElem? (i := 1534) (by decide +kernel), by decide +kernel⟩
theorem tw_1535 : Cond.fieldLink RX11 50 "ShingleBankModel" "lawTo" "[I" ∈ en_T := List.mem_filter.mpr ⟨List.mem_of_getElem? (i := 1535) (by decide +kernel), by decide +kernel⟩
theorem tw_1536 : Cond.fieldLink RX11 53 "ShingleBankModel" "stack" "[I" ∈ en_T := List.mem_filter.mpr ⟨List.mem_of_getElem? (i := 1536) (by decide +kernel), by decide +kernel⟩
theorem tw_1537 : Cond.fieldLink RX11 56 "ShingleBankModel" "names" "[I" ∈ en_T := List.mem_filter.mpr ⟨List.mem_of_getElem? (i := 1537) (by decide +kernel), by decide +kernel⟩
theorem tw_1538 : Cond.fieldLink RX11 59 "ShingleBankModel" "waves" "[I" ∈ en_T := List.mem_filter.mpr ⟨List.mem_of_getElem? (i := 1538) (by decide +kernel), by decide +kernel⟩
theorem tw_1539 : Cond.fieldLink RX11 62 "ShingleBankModel" "height" "[I" ∈ en_T := List.mem_filter.mpr ⟨List.mem_of_getElem? (i := 1539) (by decide +kernel), by decide +kernel⟩
theorem tw_1540 : Cond.fieldLink RX11 65 "ShingleBankModel" "beat" "[I" ∈ en_T := List.mem_filter.mpr ⟨List.mem_of_getElem? (i := 1540) (by decide +kernel), by decide +kernel⟩
theorem tw_1541 : Cond.fieldLink RX11 68 "ShingleBankModel" "from" "[I" ∈ en_T := List.mem_filter.mpr ⟨List.mem_of_getElem? (i := 1541) (by decide +kernel), by decide +kernel⟩
theorem tw_1542 : Cond.fieldLink RX11 71 "ShingleBankModel" "times" "[I" ∈ en_T := List.mem_filter.mpr ⟨List.mem_of_getElem? (i := 1542) (by decide +kernel), by decide +kernel⟩
theorem tw_1543 : Cond.fieldLink RX11 74 "ShingleBankModel" "change" "[I" ∈ en_T := List.mem_filter.mpr ⟨List.mem_of_getElem? (i := 1543) (by decide +kernel), by decide +kernel⟩
theorem tw_1544 : Cond.fieldLink RX11 77 "ShingleBankModel" "means" "[I" ∈ en_T := List.mem_filter.mpr ⟨List.mem_of_getElem? (i := 1544) (by decide +kernel), by decide +kernel⟩
theorem tw_1545 : Cond.fieldLink RX11 80 "ShingleBankModel" "walled" "[I" ∈ en_T := List.mem_filter.mpr ⟨List.mem_of_getElem? (i := 1545) (by decide +kernel), by decide +kernel⟩
theorem tw_1616 : Cond.instanceMethod yX11_feed ∈ en_T := List.mem_filter.mpr ⟨List.mem_of_getElem? (i := 1616) (by decide +kernel), by decide +kernel⟩
theorem tw_1617 : Cond.selects RX11 yX11_feed yX11_feed ∈ en_T := List.mem_filter.mpr ⟨List.mem_of_getElem? (i := 1617) (by decide +kernel), by decide +kernel⟩
theorem tw_1618 : Cond.code yX11_feed cX11_feed 8 (some .int) ∈ en_T := List.mem_filter.mpr ⟨List.mem_of_getElem? (i := 1618) (by decide +kernel), by decide +kernel⟩
theorem tw_1620 : Cond.instanceMethod yX11_fault ∈ en_T := List.mem_filter.mpr ⟨List.mem_of_getElem? (i := 1620) (by decide +kernel), by decide +kernel⟩
theorem tw_1621 : Cond.selects RX11 yX11_fault yX11_fault ∈ en_T := List.mem_filter.mpr ⟨List.mem_of_getElem? (i := 1621) (by decide +kernel), by decide +kernel⟩
theorem tw_1622 : Cond.code yX11_fault cX11_fault 1 (some .int) ∈ en_T := List.mem_filter.mpr ⟨List.mem_of_getElem? (i := 1622) (by decide +kernel), by decide +kernel⟩
theorem tw_1624 : Cond.instanceMethod yX11_beach ∈ en_T := List.mem_filter.mpr ⟨List.mem_of_getElem? (i := 1624) (by decide +kernel), by decide +kernel⟩
theorem tw_1625 : Cond.selects RX11 yX11_beach yX11_beach ∈ en_T := List.mem_filter.mpr ⟨List.mem_of_getElem? (i := 1625) (by decide +kernel), by decide +kernel⟩
theorem tw_1626 : Cond.code yX11_beach cX11_beach 7 (some .int) ∈ en_T := List.mem_filter.mpr ⟨List.mem_of_getElem? (i := 1626) (by decide +kernel), by decide +kernel⟩
theorem tw_1627 : Cond.methodLink RX11 170 yX11_may ∈ en_T := List.mem_filter.mpr ⟨List.mem_of_getElem? (i := 1627) (by decide +kernel), by decide +kernel⟩
theorem tw_1629 : Cond.instanceMethod yX11_may ∈ en_T := List.mem_filter.mpr ⟨List.mem_of_getElem? (i := 1629) (by decide +kernel), by decide +kernel⟩
theorem tw_1630 : Cond.code yX11_may cX11_may 4 (some .boolean) ∈ en_T := List.mem_filter.mpr ⟨List.mem_of_getElem? (i := 1630) (by decide +kernel), by decide +kernel⟩
theorem tw_1631 : Cond.methodLink RX11 174 yX11_begins ∈ en_T := List.mem_filter.mpr ⟨List.mem_of_getElem? (i := 1631) (by decide +kernel), by decide +kernel⟩
theorem tw_1633 : Cond.instanceMethod yX11_begins ∈ en_T := List.mem_filter.mpr ⟨List.mem_of_getElem? (i := 1633) (by decide +kernel), by decide +kernel⟩
theorem tw_1634 : Cond.code yX11_begins cX11_begins 2 none ∈ en_T := List.mem_filter.mpr ⟨List.mem_of_getElem? (i := 1634) (by decide +kernel), by decide +kernel⟩
theorem tw_1635 : Cond.methodLink RX11 115 yX11_fine ∈ en_T := List.mem_filter.mpr ⟨List.mem_of_getElem? (i := 1635) (by decide +kernel), by decide +kernel⟩
theorem tw_1637 : Cond.instanceMethod yX11_fine ∈ en_T := List.mem_filter.mpr ⟨List.mem_of_getElem? (i := 1637) (by decide +kernel), by decide +kernel⟩
theorem tw_1638 : Cond.code yX11_fine cX11_fine 1 (some .boolean) ∈ en_T := List.mem_filter.mpr ⟨List.mem_of_getElem? (i := 1638) (by decide +kernel), by decide +kernel⟩
theorem tw_1639 : Cond.methodLink RX11 178 yX11_isMore ∈ en_T := List.mem_filter.mpr ⟨List.mem_of_getElem? (i := 1639) (by decide +kernel), by decide +kernel⟩
theorem tw_1641 : Cond.instanceMethod yX11_isMore ∈ en_T := List.mem_filter.mpr ⟨List.mem_of_getElem? (i := 1641) (by decide +kernel), by decide +kernel⟩
theorem tw_1642 : Cond.code yX11_isMore cX11_isMore 1 (some .boolean) ∈ en_T := List.mem_filter.mpr ⟨List.mem_of_getElem? (i := 1642) (by decide +kernel), by decide +kernel⟩
theorem tw_1643 : Cond.methodLink RX11 98 yX11_here ∈ en_T := List.mem_filter.mpr ⟨List.mem_of_getElem? (i := 1643) (by decide +kernel), by decide +kernel⟩
theorem tw_1645 : Cond.instanceMethod yX11_here ∈ en_T := List.mem_filter.mpr ⟨List.mem_of_getElem? (i := 1645) (by decide +kernel), by decide +kernel⟩
theorem tw_1646 : Cond.code yX11_here cX11_here 1 (some .int) ∈ en_T := List.mem_filter.mpr ⟨List.mem_of_getElem? (i := 1646) (by decide +kernel), by decide +kernel⟩
theorem tw_1647 : Cond.methodLink RX11 181 yX11_word ∈ en_T := List.mem_filter.mpr ⟨List.mem_of_getElem? (i := 1647) (by decide +kernel), by decide +kernel⟩
theorem tw_1649 : Cond.instanceMethod yX11_word ∈ en_T := List.mem_filter.mpr ⟨List.mem_of_getElem? (i := 1649) (by decide +kernel), by decide +kernel⟩
theorem tw_1650 : Cond.code yX11_word cX11_word 4 (some .int) ∈ en_T := List.mem_filter.mpr ⟨List.mem_of_getElem? (i := 1650) (by decide +kernel), by decide +kernel⟩
theorem tw_1651 : Cond.methodLink RX11 102 yX11_isSmall ∈ en_T := List.mem_filter.mpr ⟨List.mem_of_getElem? (i := 1651) (by decide +kernel), by decide +kernel⟩
theorem tw_1652 : Cond.static yX11_isSmall ∈ en_T := List.mem_filter.mpr ⟨List.mem_of_getElem? (i := 1652) (by decide +kernel), by decide +kernel⟩
theorem tw_1653 : Cond.code yX11_isSmall cX11_isSmall 1 (some .boolean) ∈ en_T := List.mem_filter.mpr ⟨List.mem_of_getElem? (i := 1653) (by decide +kernel), by decide +kernel⟩
theorem tw_1654 : Cond.methodLink RX11 184 yX11_isClause ∈ en_T := List.mem_filter.mpr ⟨List.mem_of_getElem? (i := 1654) (by decide +kernel), by decide +kernel⟩
theorem tw_1655 : Cond.static yX11_isClause ∈ en_T := List.mem_filter.mpr ⟨List.mem_of_getElem? (i := 1655) (by decide +kernel), by decide +kernel⟩
theorem tw_1656 : Cond.code yX11_isClause cX11_isClause 1 (some .boolean) ∈ en_T := List.mem_filter.mpr ⟨List.mem_of_getElem? (i := 1656) (by decide +kernel), by decide +kernel⟩
theorem tw_1658 : Cond.methodLink RX11 145 yX11_of ∈ en_T := List.mem_filter.mpr ⟨List.mem_of_getElem? (i := 1658) (by decide +kernel), by decide +kernel⟩
theorem tw_1659 : Cond.static yX11_of ∈ en_T := List.mem_filter.mpr ⟨List.mem_of_getElem? (i := 1659) (by decide +kernel), by decide +kernel⟩
theorem tw_1660 : Cond.code yX11_of cX11_of 3 (some .int) ∈ en_T := List.mem_filter.mpr ⟨List.mem_of_getElem? (i := 1660) (by decide +kernel), by decide +kernel⟩
theorem tw_1661 : Cond.methodLink RX11 106 yJ0_length_8abf5 ∈ en_T := List.mem_filter.mpr ⟨List.mem_of_getElem? (i := 1661) (by decide +kernel), by decide +kernel⟩
theorem tw_1662 : Cond.methodLink RX11 111 yJ0_charAt_5068e ∈ en_T := List.mem_filter.mpr ⟨List.mem_of_getElem? (i := 1662) (by decide +kernel), by decide +kernel⟩
theorem tw_1669 : Cond.methodLink RX11 122 yX11_wrong ∈ en_T := List.mem_filter.mpr ⟨List.mem_of_getElem? (i := 1669) (by decide +kernel), by decide +kernel⟩
theorem tw_1671 : Cond.instanceMethod yX11_wrong ∈ en_T := List.mem_filter.mpr ⟨List.mem_of_getElem? (i := 1671) (by decide +kernel), by decide +kernel⟩
theorem tw_1672 : Cond.code yX11_wrong cX11_wrong 3 none ∈ en_T := List.mem_filter.mpr ⟨List.mem_of_getElem? (i := 1672) (by decide +kernel), by decide +kernel⟩
theorem tw_1673 : Cond.methodLink RX11 187 yX11_pass ∈ en_T := List.mem_filter.mpr ⟨List.mem_of_getElem? (i := 1673) (by decide +kernel), by decide +kernel⟩
theorem tw_1675 : Cond.instanceMethod yX11_pass ∈ en_T := List.mem_filter.mpr ⟨List.mem_of_getElem? (i := 1675) (by decide +kernel), by decide +kernel⟩
theorem tw_1676 : Cond.code yX11_pass cX11_pass 1 none ∈ en_T := List.mem_filter.mpr ⟨List.mem_of_getElem? (i := 1676) (by decide +kernel), by decide +kernel⟩
theorem tw_1677 : Cond.methodLink RX11 190 yX11_readClause ∈ en_T := List.mem_filter.mpr ⟨List.mem_of_getElem? (i := 1677) (by decide +kernel), by decide +kernel⟩
theorem tw_1679 : Cond.instanceMethod yX11_readClause ∈ en_T := List.mem_filter.mpr ⟨List.mem_of_getElem? (i := 1679) (by decide +kernel), by decide +kernel⟩
theorem tw_1680 : Cond.code yX11_readClause cX11_readClause 4 none ∈ en_T := List.mem_filter.mpr ⟨List.mem_of_getElem? (i := 1680) (by decide +kernel), by decide +kernel⟩
theorem tw_1681 : Cond.methodLink RX11 129 yX11_readNumber ∈ en_T := List.mem_filter.mpr ⟨List.mem_of_getElem? (i := 1681) (by decide +kernel), by decide +kernel⟩
theorem tw_1683 : Cond.instanceMethod yX11_readNumber ∈ en_T := List.mem_filter.mpr ⟨List.mem_of_getElem? (i := 1683) (by decide +kernel), by decide +kernel⟩
theorem tw_1684 : Cond.code yX11_readNumber cX11_readNumber 6 (some .int) ∈ en_T := List.mem_filter.mpr ⟨List.mem_of_getElem? (i := 1684) (by decide +kernel), by decide +kernel⟩
theorem tw_1685 : Cond.methodLink RX11 119 yX11_isDigit ∈ en_T := List.mem_filter.mpr ⟨List.mem_of_getElem? (i := 1685) (by decide +kernel), by decide +kernel⟩
theorem tw_1686 : Cond.static yX11_isDigit ∈ en_T := List.mem_filter.mpr ⟨List.mem_of_getElem? (i := 1686) (by decide +kernel), by decide +kernel⟩
theorem tw_1687 : Cond.code yX11_isDigit cX11_isDigit 1 (some .boolean) ∈ en_T := List.mem_filter.mpr ⟨List.mem_of_getElem? (i := 1687) (by decide +kernel), by decide +kernel⟩
theorem tw_1688 : Cond.methodLink RX11 161 yX11_readHeap ∈ en_T := List.mem_filter.mpr ⟨List.mem_of_getElem? (i := 1688) (by decide +kernel), by decide +kernel⟩
theorem tw_1690 : Cond.instanceMethod yX11_readHeap ∈ en_T := List.mem_filter.mpr ⟨List.mem_of_getElem? (i := 1690) (by decide +kernel), by decide +kernel⟩
theorem tw_1691 : Cond.code yX11_readHeap cX11_readHeap 5 none ∈ en_T := List.mem_filter.mpr ⟨List.mem_of_getElem? (i := 1691) (by decide +kernel), by decide +kernel⟩
theorem tw_1692 : Cond.methodLink RX11 133 yX11_readCell ∈ en_T := List.mem_filter.mpr ⟨List.mem_of_getElem? (i := 1692) (by decide +kernel), by decide +kernel⟩
theorem tw_1694 : Cond.instanceMethod yX11_readCell ∈ en_T := List.mem_filter.mpr ⟨List.mem_of_getElem? (i := 1694) (by decide +kernel), by decide +kernel⟩
theorem tw_1695 : Cond.code yX11_readCell cX11_readCell 1 (some .int) ∈ en_T := List.mem_filter.mpr ⟨List.mem_of_getElem? (i := 1695) (by decide +kernel), by decide +kernel⟩
theorem tw_1696 : Cond.methodLink RX11 136 yX11_readSize ∈ en_T := List.mem_filter.mpr ⟨List.mem_of_getElem? (i := 1696) (by decide +kernel), by decide +kernel⟩
theorem tw_1698 : Cond.instanceMethod yX11_readSize ∈ en_T := List.mem_filter.mpr ⟨List.mem_of_getElem? (i := 1698) (by decide +kernel), by decide +kernel⟩
theorem tw_1699 : Cond.code yX11_readSize cX11_readSize 1 (some .int) ∈ en_T := List.mem_filter.mpr ⟨List.mem_of_getElem? (i := 1699) (by decide +kernel), by decide +kernel⟩
theorem tw_1700 : Cond.methodLink RX11 139 yX11_stone ∈ en_T := List.mem_filter.mpr ⟨List.mem_of_getElem? (i := 1700) (by decide +kernel), by decide +kernel⟩
theorem tw_1701 : Cond.static yX11_stone ∈ en_T := List.mem_filter.mpr ⟨List.mem_of_getElem? (i := 1701) (by decide +kernel), by decide +kernel⟩
theorem tw_1702 : Cond.code yX11_stone cX11_stone 3 (some .int) ∈ en_T := List.mem_filter.mpr ⟨List.mem_of_getElem? (i := 1702) (by decide +kernel), by decide +kernel⟩
theorem tw_1703 : Cond.methodLink RX11 164 yX11_readSpring ∈ en_T := List.mem_filter.mpr ⟨List.mem_of_getElem? (i := 1703) (by decide +kernel), by decide +kernel⟩
theorem tw_1705 : Cond.instanceMethod yX11_readSpring ∈ en_T := List.mem_filter.mpr ⟨List.mem_of_getElem? (i := 1705) (by decide +kernel), by decide +kernel⟩
theorem tw_1706 : Cond.code yX11_readSpring cX11_readSpring 6 none ∈ en_T := List.mem_filter.mpr ⟨List.mem_of_getElem? (i := 1706) (by decide +kernel), by decide +kernel⟩
theorem tw_1707 : Cond.methodLink RX11 167 yX11_readLorry ∈ en_T := List.mem_filter.mpr ⟨List.mem_of_getElem? (i := 1707) (by decide +kernel), by decide +kernel⟩
theorem tw_1709 : Cond.instanceMethod yX11_readLorry ∈ en_T := List.mem_filter.mpr ⟨List.mem_of_getElem? (i := 1709) (by decide +kernel), by decide +kernel⟩
theorem tw_1710 : Cond.code yX11_readLorry cX11_readLorry 7 none ∈ en_T := List.mem_filter.mpr ⟨List.mem_of_getElem? (i := 1710) (by decide +kernel), by decide +kernel⟩
theorem tw_1711 : Cond.methodLink RX11 193 yX11_sign ∈ en_T := List.mem_filter.mpr ⟨List.mem_of_getElem? (i := 1711) (by decide +kernel), by decide +kernel⟩
theorem tw_1713 : Cond.instanceMethod yX11_sign ∈ en_T := List.mem_filter.mpr ⟨List.mem_of_getElem? (i := 1713) (by decide +kernel), by decide +kernel⟩
theorem tw_1714 : Cond.code yX11_sign cX11_sign 2 none ∈ en_T := List.mem_filter.mpr ⟨List.mem_of_getElem? (i := 1714) (by decide +kernel), by decide +kernel⟩
theorem tw_1715 : Cond.methodLink RX11 196 yX11_result ∈ en_T := List.mem_filter.mpr ⟨List.mem_of_getElem? (i := 1715) (by decide +kernel), by decide +kernel⟩
theorem tw_1717 : Cond.instanceMethod yX11_result ∈ en_T := List.mem_filter.mpr ⟨List.mem_of_getElem? (i := 1717) (by decide +kernel), by decide +kernel⟩
theorem tw_1718 : Cond.code yX11_result cX11_result 2 (some .int) ∈ en_T := List.mem_filter.mpr ⟨List.mem_of_getElem? (i := 1718) (by decide +kernel), by decide +kernel⟩
theorem tw_1720 : Cond.instanceMethod yX11_law ∈ en_T := List.mem_filter.mpr ⟨List.mem_of_getElem? (i := 1720) (by decide +kernel), by decide +kernel⟩
theorem tw_1721 : Cond.selects RX11 yX11_law yX11_law ∈ en_T := List.mem_filter.mpr ⟨List.mem_of_getElem? (i := 1721) (by decide +kernel), by decide +kernel⟩
theorem tw_1722 : Cond.code yX11_law cX11_law 4 (some .int) ∈ en_T := List.mem_filter.mpr ⟨List.mem_of_getElem? (i := 1722) (by decide +kernel), by decide +kernel⟩
theorem tw_1726 : Cond.methodLink RX11 227 yX11_whole ∈ en_T := List.mem_filter.mpr ⟨List.mem_of_getElem? (i := 1726) (by decide +kernel), by decide +kernel⟩
theorem tw_1728 : Cond.instanceMethod yX11_whole ∈ en_T := List.mem_filter.mpr ⟨List.mem_of_getElem? (i := 1728) (by decide +kernel), by decide +kernel⟩
theorem tw_1729 : Cond.code yX11_whole cX11_whole 2 none ∈ en_T := List.mem_filter.mpr ⟨List.mem_of_getElem? (i := 1729) (by decide +kernel), by decide +kernel⟩
theorem tw_1731 : Cond.methodLink RX11 224 yX11_opensOne ∈ en_T := List.mem_filter.mpr ⟨List.mem_of_getElem? (i := 1731) (by decide +kernel), by decide +kernel⟩
theorem tw_1733 : Cond.instanceMethod yX11_opensOne ∈ en_T := List.mem_filter.mpr ⟨List.mem_of_getElem? (i := 1733) (by decide +kernel), by decide +kernel⟩
theorem tw_1734 : Cond.code yX11_opensOne cX11_opensOne 2 none ∈ en_T := List.mem_filter.mpr ⟨List.mem_of_getElem? (i := 1734) (by decide +kernel), by decide +kernel⟩
theorem tw_1735 : Cond.methodLink RX11 238 yX11_anyOf ∈ en_T := List.mem_filter.mpr ⟨List.mem_of_getElem? (i := 1735) (by decide +kernel), by decide +kernel⟩
theorem tw_1737 : Cond.instanceMethod yX11_anyOf ∈ en_T := List.mem_filter.mpr ⟨List.mem_of_getElem? (i := 1737) (by decide +kernel), by decide +kernel⟩
theorem tw_1738 : Cond.code yX11_anyOf cX11_anyOf 1 none ∈ en_T := List.mem_filter.mpr ⟨List.mem_of_getElem? (i := 1738) (by decide +kernel), by decide +kernel⟩
theorem tw_1739 : Cond.methodLink RX11 258 yX11_allOf ∈ en_T := List.mem_filter.mpr ⟨List.mem_of_getElem? (i := 1739) (by decide +kernel), by decide +kernel⟩
theorem tw_1741 : Cond.instanceMethod yX11_allOf ∈ en_T := List.mem_filter.mpr ⟨List.mem_of_getElem? (i := 1741) (by decide +kernel), by decide +kernel⟩
theorem tw_1742 : Cond.code yX11_allOf cX11_allOf 1 none ∈ en_T := List.mem_filter.mpr ⟨List.mem_of_getElem? (i := 1742) (by decide +kernel), by decide +kernel⟩
theorem tw_1743 : Cond.methodLink RX11 253 yX11_oneOf ∈ en_T := List.mem_filter.mpr ⟨List.mem_of_getElem? (i := 1743) (by decide +kernel), by decide +kernel⟩
theorem tw_1745 : Cond.instanceMethod yX11_oneOf ∈ en_T := List.mem_filter.mpr ⟨List.mem_of_getElem? (i := 1745) (by decide +kernel), by decide +kernel⟩
theorem tw_1746 : Cond.code yX11_oneOf cX11_oneOf 2 none ∈ en_T := List.mem_filter.mpr ⟨List.mem_of_getElem? (i := 1746) (by decide +kernel), by decide +kernel⟩
theorem tw_1748 : Cond.methodLink RX11 221 yX11_emit ∈ en_T := List.mem_filter.mpr ⟨List.mem_of_getElem? (i := 1748) (by decide +kernel), by decide +kernel⟩
theorem tw_1750 : Cond.instanceMethod yX11_emit ∈ en_T := List.mem_filter.mpr ⟨List.mem_of_getElem? (i := 1750) (by decide +kernel), by decide +kernel⟩
theorem tw_1751 : Cond.code yX11_emit cX11_emit 3 none ∈ en_T := List.mem_filter.mpr ⟨List.mem_of_getElem? (i := 1751) (by decide +kernel), by decide +kernel⟩
theorem tw_1755 : Cond.methodLink RX11 243 yX11_keyword ∈ en_T := List.mem_filter.mpr ⟨List.mem_of_getElem? (i := 1755) (by decide +kernel), by decide +kernel⟩
theorem tw_1757 : Cond.instanceMethod yX11_keyword ∈ en_T := List.mem_filter.mpr ⟨List.mem_of_getElem? (i := 1757) (by decide +kernel), by decide +kernel⟩
theorem tw_1758 : Cond.code yX11_keyword cX11_keyword 2 none ∈ en_T := List.mem_filter.mpr ⟨List.mem_of_getElem? (i := 1758) (by decide +kernel), by decide +kernel⟩
theorem tw_1760 : Cond.methodLink RX11 248 yX11_product ∈ en_T := List.mem_filter.mpr ⟨List.mem_of_getElem? (i := 1760) (by decide +kernel), by decide +kernel⟩
theorem tw_1762 : Cond.instanceMethod yX11_product ∈ en_T := List.mem_filter.mpr ⟨List.mem_of_getElem? (i := 1762) (by decide +kernel), by decide +kernel⟩
theorem tw_1763 : Cond.code yX11_product cX11_product 2 none ∈ en_T := List.mem_filter.mpr ⟨List.mem_of_getElem? (i := 1763) (by decide +kernel), by decide +kernel⟩
theorem tw_1764 : Cond.methodLink RX11 233 yX11_unit ∈ en_T := List.mem_filter.mpr ⟨List.mem_of_getElem? (i := 1764) (by decide +kernel), by decide +kernel⟩
theorem tw_1766 : Cond.instanceMethod yX11_unit ∈ en_T := List.mem_filter.mpr ⟨List.mem_of_getElem? (i := 1766) (by decide +kernel), by decide +kernel⟩
theorem tw_1767 : Cond.code yX11_unit cX11_unit 3 none ∈ en_T := List.mem_filter.mpr ⟨List.mem_of_getElem? (i := 1767) (by decide +kernel), by decide +kernel⟩
theorem tw_1768 : Cond.methodLink RX11 230 yX11_nameOf ∈ en_T := List.mem_filter.mpr ⟨List.mem_of_getElem? (i := 1768) (by decide +kernel), by decide +kernel⟩
theorem tw_1769 : Cond.static yX11_nameOf ∈ en_T := List.mem_filter.mpr ⟨List.mem_of_getElem? (i := 1769) (by decide +kernel), by decide +kernel⟩
theorem tw_1770 : Cond.code yX11_nameOf cX11_nameOf 1 (some .int) ∈ en_T := List.mem_filter.mpr ⟨List.mem_of_getElem? (i := 1770) (by decide +kernel), by decide +kernel⟩
theorem tw_1780 : Cond.instanceMethod yX11_year ∈ en_T := List.mem_filter.mpr ⟨List.mem_of_getElem? (i := 1780) (by decide +kernel), by decide +kernel⟩
theorem tw_1781 : Cond.selects RX11 yX11_year yX11_year ∈ en_T := List.mem_filter.mpr ⟨List.mem_of_getElem? (i := 1781) (by decide +kernel), by decide +kernel⟩
theorem tw_1782 : Cond.code yX11_year cX11_year 4 (some .int) ∈ en_T := List.mem_filter.mpr ⟨List.mem_of_getElem? (i := 1782) (by decide +kernel), by decide +kernel⟩
theorem tw_1786 : Cond.instanceMethod yX11_told ∈ en_T := List.mem_filter.mpr ⟨List.mem_of_getElem? (i := 1786) (by decide +kernel), by decide +kernel⟩
theorem tw_1787 : Cond.selects RX11 yX11_told yX11_told ∈ en_T := List.mem_filter.mpr ⟨List.mem_of_getElem? (i := 1787) (by decide +kernel), by decide +kernel⟩
theorem tw_1788 : Cond.code yX11_told cX11_told 2 (some .int) ∈ en_T := List.mem_filter.mpr ⟨List.mem_of_getElem? (i := 1788) (by decide +kernel), by decide +kernel⟩
theorem tw_1789 : Cond.methodLink RX11 283 yX11_within ∈ en_T := List.mem_filter.mpr ⟨List.mem_of_getElem? (i := 1789) (by decide +kernel), by decide +kernel⟩
theorem tw_1790 : Cond.static yX11_within ∈ en_T := List.mem_filter.mpr ⟨List.mem_of_getElem? (i := 1790) (by decide +kernel), by decide +kernel⟩
theorem tw_1791 : Cond.code yX11_within cX11_within 3 (some .boolean) ∈ en_T := List.mem_filter.mpr ⟨List.mem_of_getElem? (i := 1791) (by decide +kernel), by decide +kernel⟩
theorem tw_1793 : Cond.instanceMethod yX11_stones ∈ en_T := List.mem_filter.mpr ⟨List.mem_of_getElem? (i := 1793) (by decide +kernel), by decide +kernel⟩
theorem tw_1794 : Cond.selects RX11 yX11_stones yX11_stones ∈ en_T := List.mem_filter.mpr ⟨List.mem_of_getElem? (i := 1794) (by decide +kernel), by decide +kernel⟩
theorem tw_1795 : Cond.code yX11_stones cX11_stones 8 (some .int) ∈ en_T := List.mem_filter.mpr ⟨List.mem_of_getElem? (i := 1795) (by decide +kernel), by decide +kernel⟩
theorem tw_1796 : Cond.methodLink RX11 287 yX11_isCell ∈ en_T := List.mem_filter.mpr ⟨List.mem_of_getElem? (i := 1796) (by decide +kernel), by decide +kernel⟩
theorem tw_1798 : Cond.instanceMethod yX11_isCell ∈ en_T := List.mem_filter.mpr ⟨List.mem_of_getElem? (i := 1798) (by decide +kernel), by decide +kernel⟩
theorem tw_1799 : Cond.code yX11_isCell cX11_isCell 3 (some .boolean) ∈ en_T := List.mem_filter.mpr ⟨List.mem_of_getElem? (i := 1799) (by decide +kernel), by decide +kernel⟩
theorem tw_1800 : Cond.methodLink RX11 291 yX11_isSize ∈ en_T := List.mem_filter.mpr ⟨List.mem_of_getElem? (i := 1800) (by decide +kernel), by decide +kernel⟩
theorem tw_1802 : Cond.instanceMethod yX11_isSize ∈ en_T := List.mem_filter.mpr ⟨List.mem_of_getElem? (i := 1802) (by decide +kernel), by decide +kernel⟩
theorem tw_1803 : Cond.code yX11_isSize cX11_isSize 2 (some .boolean) ∈ en_T := List.mem_filter.mpr ⟨List.mem_of_getElem? (i := 1803) (by decide +kernel), by decide +kernel⟩
theorem tw_1805 : Cond.instanceMethod yX11_cell ∈ en_T := List.mem_filter.mpr ⟨List.mem_of_getElem? (i := 1805) (by decide +kernel), by decide +kernel⟩
theorem tw_1806 : Cond.selects RX11 yX11_cell yX11_cell ∈ en_T := List.mem_filter.mpr ⟨List.mem_of_getElem? (i := 1806) (by decide +kernel), by decide +kernel⟩
theorem tw_1807 : Cond.code yX11_cell cX11_cell 3 (some .int) ∈ en_T := List.mem_filter.mpr ⟨List.mem_of_getElem? (i := 1807) (by decide +kernel), by decide +kernel⟩
theorem tw_1809 : Cond.instanceMethod yX11_put ∈ en_T := List.mem_filter.mpr ⟨List.mem_of_getElem? (i := 1809) (by decide +kernel), by decide +kernel⟩
theorem tw_1810 : Cond.selects RX11 yX11_put yX11_put ∈ en_T := List.mem_filter.mpr ⟨List.mem_of_getElem? (i := 1810) (by decide +kernel), by decide +kernel⟩
theorem tw_1811 : Cond.code yX11_put cX11_put 5 (some .int) ∈ en_T := List.mem_filter.mpr ⟨List.mem_of_getElem? (i := 1811) (by decide +kernel), by decide +kernel⟩
theorem tw_1813 : Cond.instanceMethod yX11_says ∈ en_T := List.mem_filter.mpr ⟨List.mem_of_getElem? (i := 1813) (by decide +kernel), by decide +kernel⟩
theorem tw_1814 : Cond.selects RX11 yX11_says yX11_says ∈ en_T := List.mem_filter.mpr ⟨List.mem_of_getElem? (i := 1814) (by decide +kernel), by decide +kernel⟩
theorem tw_1815 : Cond.code yX11_says cX11_says 9 (some .int) ∈ en_T := List.mem_filter.mpr ⟨List.mem_of_getElem? (i := 1815) (by decide +kernel), by decide +kernel⟩
theorem tw_1816 : Cond.methodLink RX11 294 yX11_isLaw ∈ en_T := List.mem_filter.mpr ⟨List.mem_of_getElem? (i := 1816) (by decide +kernel), by decide +kernel⟩
theorem tw_1818 : Cond.instanceMethod yX11_isLaw ∈ en_T := List.mem_filter.mpr ⟨List.mem_of_getElem? (i := 1818) (by decide +kernel), by decide +kernel⟩
theorem tw_1819 : Cond.code yX11_isLaw cX11_isLaw 3 (some .boolean) ∈ en_T := List.mem_filter.mpr ⟨List.mem_of_getElem? (i := 1819) (by decide +kernel), by decide +kernel⟩
theorem tw_1820 : Cond.methodLink RX11 297 yX11_isWave ∈ en_T := List.mem_filter.mpr ⟨List.mem_of_getElem? (i := 1820) (by decide +kernel), by decide +kernel⟩
theorem tw_1821 : Cond.static yX11_isWave ∈ en_T := List.mem_filter.mpr ⟨List.mem_of_getElem? (i := 1821) (by decide +kernel), by decide +kernel⟩
theorem tw_1822 : Cond.code yX11_isWave cX11_isWave 3 (some .boolean) ∈ en_T := List.mem_filter.mpr ⟨List.mem_of_getElem? (i := 1822) (by decide +kernel), by decide +kernel⟩
theorem tw_1823 : Cond.methodLink RX11 300 yX11_name ∈ en_T := List.mem_filter.mpr ⟨List.mem_of_getElem? (i := 1823) (by decide +kernel), by decide +kernel⟩
theorem tw_1825 : Cond.instanceMethod yX11_name ∈ en_T := List.mem_filter.mpr ⟨List.mem_of_getElem? (i := 1825) (by decide +kernel), by decide +kernel⟩
theorem tw_1826 : Cond.code yX11_name cX11_name 6 none ∈ en_T := List.mem_filter.mpr ⟨List.mem_of_getElem? (i := 1826) (by decide +kernel), by decide +kernel⟩
theorem tw_1827 : Cond.methodLink RX11 304 yX11_nameSize ∈ en_T := List.mem_filter.mpr ⟨List.mem_of_getElem? (i := 1827) (by decide +kernel), by decide +kernel⟩
theorem tw_1829 : Cond.instanceMethod yX11_nameSize ∈ en_T := List.mem_filter.mpr ⟨List.mem_of_getElem? (i := 1829) (by decide +kernel), by decide +kernel⟩
theorem tw_1830 : Cond.code yX11_nameSize cX11_nameSize 9 none ∈ en_T := List.mem_filter.mpr ⟨List.mem_of_getElem? (i := 1830) (by decide +kernel), by decide +kernel⟩
theorem tw_1831 : Cond.methodLink RX11 275 yX11_all ∈ en_T := List.mem_filter.mpr ⟨List.mem_of_getElem? (i := 1831) (by decide +kernel), by decide +kernel⟩
theorem tw_1833 : Cond.instanceMethod yX11_all ∈ en_T := List.mem_filter.mpr ⟨List.mem_of_getElem? (i := 1833) (by decide +kernel), by decide +kernel⟩
theorem tw_1834 : Cond.code yX11_all cX11_all 5 (some .int) ∈ en_T := List.mem_filter.mpr ⟨List.mem_of_getElem? (i := 1834) (by decide +kernel), by decide +kernel⟩
theorem tw_1835 : Cond.methodLink RX11 278 yX11_wholeOf ∈ en_T := List.mem_filter.mpr ⟨List.mem_of_getElem? (i := 1835) (by decide +kernel), by decide +kernel⟩
theorem tw_1837 : Cond.instanceMethod yX11_wholeOf ∈ en_T := List.mem_filter.mpr ⟨List.mem_of_getElem? (i := 1837) (by decide +kernel), by decide +kernel⟩
theorem tw_1838 : Cond.code yX11_wholeOf cX11_wholeOf 4 (some .int) ∈ en_T := List.mem_filter.mpr ⟨List.mem_of_getElem? (i := 1838) (by decide +kernel), by decide +kernel⟩
theorem tw_1839 : Cond.constantLong RX11 281 (jL 16) ∈ en_T := List.mem_filter.mpr ⟨List.mem_of_getElem? (i := 1839) (by decide +kernel), by decide +kernel⟩
theorem tw_1840 : Cond.methodLink RX11 308 yX11_worked ∈ en_T := List.mem_filter.mpr ⟨List.mem_of_getElem? (i := 1840) (by decide +kernel), by decide +kernel⟩
theorem tw_1842 : Cond.instanceMethod yX11_worked ∈ en_T := List.mem_filter.mpr ⟨List.mem_of_getElem? (i := 1842) (by decide +kernel), by decide +kernel⟩
theorem tw_1843 : Cond.code yX11_worked cX11_worked 8 (some .int) ∈ en_T := List.mem_filter.mpr ⟨List.mem_of_getElem? (i := 1843) (by decide +kernel), by decide +kernel⟩
theorem tw_1845 : Cond.instanceMethod yX11_wave ∈ en_T := List.mem_filter.mpr ⟨List.mem_of_getElem? (i := 1845) (by decide +kernel), by decide +kernel⟩
theorem tw_1846 : Cond.selects RX11 yX11_wave yX11_wave ∈ en_T := List.mem_filter.mpr ⟨List.mem_of_getElem? (i := 1846) (by decide +kernel), by decide +kernel⟩
theorem tw_1847 : Cond.code yX11_wave cX11_wave 5 (some .int) ∈ en_T := List.mem_filter.mpr ⟨List.mem_of_getElem? (i := 1847) (by decide +kernel), by decide +kernel⟩
theorem tw_1848 : Cond.methodLink RX11 328 yX11_isNow ∈ en_T := List.mem_filter.mpr ⟨List.mem_of_getElem? (i := 1848) (by decide +kernel), by decide +kernel⟩
theorem tw_1850 : Cond.instanceMethod yX11_isNow ∈ en_T := List.mem_filter.mpr ⟨List.mem_of_getElem? (i := 1850) (by decide +kernel), by decide +kernel⟩
theorem tw_1851 : Cond.code yX11_isNow cX11_isNow 2 (some .boolean) ∈ en_T := List.mem_filter.mpr ⟨List.mem_of_getElem? (i := 1851) (by decide +kernel), by decide +kernel⟩
theorem tw_1852 : Cond.methodLink RX11 331 yX11_hour ∈ en_T := List.mem_filter.mpr ⟨List.mem_of_getElem? (i := 1852) (by decide +kernel), by decide +kernel⟩
theorem tw_1854 : Cond.instanceMethod yX11_hour ∈ en_T := List.mem_filter.mpr ⟨List.mem_of_getElem? (i := 1854) (by decide +kernel), by decide +kernel⟩
theorem tw_1855 : Cond.code yX11_hour cX11_hour 8 (some .int) ∈ en_T := List.mem_filter.mpr ⟨List.mem_of_getElem? (i := 1855) (by decide +kernel), by decide +kernel⟩
theorem tw_1856 : Cond.methodLink RX11 318 yX11_moves ∈ en_T := List.mem_filter.mpr ⟨List.mem_of_getElem? (i := 1856) (by decide +kernel), by decide +kernel⟩
theorem tw_1858 : Cond.instanceMethod yX11_moves ∈ en_T := List.mem_filter.mpr ⟨List.mem_of_getElem? (i := 1858) (by decide +kernel), by decide +kernel⟩
theorem tw_1859 : Cond.code yX11_moves cX11_moves 12 (some .int) ∈ en_T := List.mem_filter.mpr ⟨List.mem_of_getElem? (i := 1859) (by decide +kernel), by decide +kernel⟩
theorem tw_1860 : Cond.methodLink RX11 311 yX11_held ∈ en_T := List.mem_filter.mpr ⟨List.mem_of_getElem? (i := 1860) (by decide +kernel), by decide +kernel⟩
theorem tw_1861 : Cond.static yX11_held ∈ en_T := List.mem_filter.mpr ⟨List.mem_of_getElem? (i := 1861) (by decide +kernel), by decide +kernel⟩
theorem tw_1862 : Cond.code yX11_held cX11_held 1 (some .int) ∈ en_T := List.mem_filter.mpr ⟨List.mem_of_getElem? (i := 1862) (by decide +kernel), by decide +kernel⟩
theorem tw_1863 : Cond.methodLink RX11 314 yX11_goes ∈ en_T := List.mem_filter.mpr ⟨List.mem_of_getElem? (i := 1863) (by decide +kernel), by decide +kernel⟩
theorem tw_1865 : Cond.instanceMethod yX11_goes ∈ en_T := List.mem_filter.mpr ⟨List.mem_of_getElem? (i := 1865) (by decide +kernel), by decide +kernel⟩
theorem tw_1866 : Cond.code yX11_goes cX11_goes 10 none ∈ en_T := List.mem_filter.mpr ⟨List.mem_of_getElem? (i := 1866) (by decide +kernel), by decide +kernel⟩
theorem tw_1867 : Cond.methodLink RX11 322 yX11_overs ∈ en_T := List.mem_filter.mpr ⟨List.mem_of_getElem? (i := 1867) (by decide +kernel), by decide +kernel⟩
theorem tw_1869 : Cond.instanceMethod yX11_overs ∈ en_T := List.mem_filter.mpr ⟨List.mem_of_getElem? (i := 1869) (by decide +kernel), by decide +kernel⟩
theorem tw_1870 : Cond.code yX11_overs cX11_overs 8 none ∈ en_T := List.mem_filter.mpr ⟨List.mem_of_getElem? (i := 1870) (by decide +kernel), by decide +kernel⟩
theorem tw_1871 : Cond.methodLink RX11 325 yX11_brings ∈ en_T := List.mem_filter.mpr ⟨List.mem_of_getElem? (i := 1871) (by decide +kernel), by decide +kernel⟩
theorem tw_1873 : Cond.instanceMethod yX11_brings ∈ en_T := List.mem_filter.mpr ⟨List.mem_of_getElem? (i := 1873) (by decide +kernel), by decide +kernel⟩
theorem tw_1874 : Cond.code yX11_brings cX11_brings 9 none ∈ en_T := List.mem_filter.mpr ⟨List.mem_of_getElem? (i := 1874) (by decide +kernel), by decide +kernel⟩
theorem tw_1876 : Cond.instanceMethod yX11_run ∈ en_T := List.mem_filter.mpr ⟨List.mem_of_getElem? (i := 1876) (by decide +kernel), by decide +kernel⟩
theorem tw_1877 : Cond.selects RX11 yX11_run yX11_run ∈ en_T := List.mem_filter.mpr ⟨List.mem_of_getElem? (i := 1877) (by decide +kernel), by decide +kernel⟩
theorem tw_1878 : Cond.code yX11_run cX11_run 3 (some .int) ∈ en_T := List.mem_filter.mpr ⟨List.mem_of_getElem? (i := 1878) (by decide +kernel), by decide +kernel⟩
theorem tw_1879 : Cond.methodLink RX11 334 yX11_isYear ∈ en_T := List.mem_filter.mpr ⟨List.mem_of_getElem? (i := 1879) (by decide +kernel), by decide +kernel⟩
theorem tw_1881 : Cond.instanceMethod yX11_isYear ∈ en_T := List.mem_filter.mpr ⟨List.mem_of_getElem? (i := 1881) (by decide +kernel), by decide +kernel⟩
theorem tw_1882 : Cond.code yX11_isYear cX11_isYear 3 (some .boolean) ∈ en_T := List.mem_filter.mpr ⟨List.mem_of_getElem? (i := 1882) (by decide +kernel), by decide +kernel⟩
theorem tw_1883 : Cond.methodLink RX11 337 yX11_runs ∈ en_T := List.mem_filter.mpr ⟨List.mem_of_getElem? (i := 1883) (by decide +kernel), by decide +kernel⟩
theorem tw_1885 : Cond.instanceMethod yX11_runs ∈ en_T := List.mem_filter.mpr ⟨List.mem_of_getElem? (i := 1885) (by decide +kernel), by decide +kernel⟩
theorem tw_1886 : Cond.code yX11_runs cX11_runs 6 (some .int) ∈ en_T := List.mem_filter.mpr ⟨List.mem_of_getElem? (i := 1886) (by decide +kernel), by decide +kernel⟩
theorem tw_1888 : Cond.instanceMethod yX11_lots ∈ en_T := List.mem_filter.mpr ⟨List.mem_of_getElem? (i := 1888) (by decide +kernel), by decide +kernel⟩
theorem tw_1889 : Cond.selects RX11 yX11_lots yX11_lots ∈ en_T := List.mem_filter.mpr ⟨List.mem_of_getElem? (i := 1889) (by decide +kernel), by decide +kernel⟩
theorem tw_1890 : Cond.code yX11_lots cX11_lots 8 (some .int) ∈ en_T := List.mem_filter.mpr ⟨List.mem_of_getElem? (i := 1890) (by decide +kernel), by decide +kernel⟩
theorem tw_1891 : Cond.constant RX11 340 (iI 1103515245) ∈ en_T := List.mem_filter.mpr ⟨List.mem_of_getElem? (i := 1891) (by decide +kernel), by decide +kernel⟩
theorem tw_1893 : Cond.instanceMethod yX11_mean ∈ en_T := List.mem_filter.mpr ⟨List.mem_of_getElem? (i := 1893) (by decide +kernel), by decide +kernel⟩
theorem tw_1894 : Cond.selects RX11 yX11_mean yX11_mean ∈ en_T := List.mem_filter.mpr ⟨List.mem_of_getElem? (i := 1894) (by decide +kernel), by decide +kernel⟩
theorem tw_1895 : Cond.code yX11_mean cX11_mean 2 (some .int) ∈ en_T := List.mem_filter.mpr ⟨List.mem_of_getElem? (i := 1895) (by decide +kernel), by decide +kernel⟩
theorem tw_1896 : Cond.methodLink RX11 343 yX11_meanOf ∈ en_T := List.mem_filter.mpr ⟨List.mem_of_getElem? (i := 1896) (by decide +kernel), by decide +kernel⟩
theorem tw_1898 : Cond.instanceMethod yX11_meanOf ∈ en_T := List.mem_filter.mpr ⟨List.mem_of_getElem? (i := 1898) (by decide +kernel), by decide +kernel⟩
theorem tw_1899 : Cond.code yX11_meanOf cX11_meanOf 6 (some .int) ∈ en_T := List.mem_filter.mpr ⟨List.mem_of_getElem? (i := 1899) (by decide +kernel), by decide +kernel⟩
theorem tw_1900 : Cond.constantLong RX11 341 (jL 1000) ∈ en_T := List.mem_filter.mpr ⟨List.mem_of_getElem? (i := 1900) (by decide +kernel), by decide +kernel⟩
theorem tw_1902 : Cond.instanceMethod yX11_order ∈ en_T := List.mem_filter.mpr ⟨List.mem_of_getElem? (i := 1902) (by decide +kernel), by decide +kernel⟩
theorem tw_1903 : Cond.selects RX11 yX11_order yX11_order ∈ en_T := List.mem_filter.mpr ⟨List.mem_of_getElem? (i := 1903) (by decide +kernel), by decide +kernel⟩
theorem tw_1904 : Cond.code yX11_order cX11_order 4 (some .int) ∈ en_T := List.mem_filter.mpr ⟨List.mem_of_getElem? (i := 1904) (by decide +kernel), by decide +kernel⟩
theorem tw_1905 : Cond.methodLink RX11 349 yX11_pairs ∈ en_T := List.mem_filter.mpr ⟨List.mem_of_getElem? (i := 1905) (by decide +kernel), by decide +kernel⟩
theorem tw_1907 : Cond.instanceMethod yX11_pairs ∈ en_T := List.mem_filter.mpr ⟨List.mem_of_getElem? (i := 1907) (by decide +kernel), by decide +kernel⟩
theorem tw_1908 : Cond.code yX11_pairs cX11_pairs 5 (some .int) ∈ en_T := List.mem_filter.mpr ⟨List.mem_of_getElem? (i := 1908) (by decide +kernel), by decide +kernel⟩
theorem tw_1909 : Cond.methodLink RX11 353 yX11_isHorn ∈ en_T := List.mem_filter.mpr ⟨List.mem_of_getElem? (i := 1909) (by decide +kernel), by decide +kernel⟩
theorem tw_1911 : Cond.instanceMethod yX11_isHorn ∈ en_T := List.mem_filter.mpr ⟨List.mem_of_getElem? (i := 1911) (by decide +kernel), by decide +kernel⟩
theorem tw_1912 : Cond.code yX11_isHorn cX11_isHorn 3 (some .boolean) ∈ en_T := List.mem_filter.mpr ⟨List.mem_of_getElem? (i := 1912) (by decide +kernel), by decide +kernel⟩
theorem tw_1913 : Cond.methodLink RX11 356 yX11_isKnown ∈ en_T := List.mem_filter.mpr ⟨List.mem_of_getElem? (i := 1913) (by decide +kernel), by decide +kernel⟩
theorem tw_1915 : Cond.instanceMethod yX11_isKnown ∈ en_T := List.mem_filter.mpr ⟨List.mem_of_getElem? (i := 1915) (by decide +kernel), by decide +kernel⟩
theorem tw_1916 : Cond.code yX11_isKnown cX11_isKnown 3 (some .boolean) ∈ en_T := List.mem_filter.mpr ⟨List.mem_of_getElem? (i := 1916) (by decide +kernel), by decide +kernel⟩
theorem tw_1917 : Cond.methodLink RX11 346 yX11_soundOf ∈ en_T := List.mem_filter.mpr ⟨List.mem_of_getElem? (i := 1917) (by decide +kernel), by decide +kernel⟩
theorem tw_1919 : Cond.instanceMethod yX11_soundOf ∈ en_T := List.mem_filter.mpr ⟨List.mem_of_getElem? (i := 1919) (by decide +kernel), by decide +kernel⟩
theorem tw_1920 : Cond.code yX11_soundOf cX11_soundOf 2 (some .int) ∈ en_T := List.mem_filter.mpr ⟨List.mem_of_getElem? (i := 1920) (by decide +kernel), by decide +kernel⟩
theorem tw_1922 : Cond.instanceMethod yX11_horn ∈ en_T := List.mem_filter.mpr ⟨List.mem_of_getElem? (i := 1922) (by decide +kernel), by decide +kernel⟩
theorem tw_1923 : Cond.selects RX11 yX11_horn yX11_horn ∈ en_T := List.mem_filter.mpr ⟨List.mem_of_getElem? (i := 1923) (by decide +kernel), by decide +kernel⟩
theorem tw_1924 : Cond.code yX11_horn cX11_horn 4 (some .int) ∈ en_T := List.mem_filter.mpr ⟨List.mem_of_getElem? (i := 1924) (by decide +kernel), by decide +kernel⟩
theorem tw_1926 : Cond.instanceMethod yX11_sound ∈ en_T := List.mem_filter.mpr ⟨List.mem_of_getElem? (i := 1926) (by decide +kernel), by decide +kernel⟩
theorem tw_1927 : Cond.selects RX11 yX11_sound yX11_sound ∈ en_T := List.mem_filter.mpr ⟨List.mem_of_getElem? (i := 1927) (by decide +kernel), by decide +kernel⟩
theorem tw_1928 : Cond.code yX11_sound cX11_sound 2 (some .int) ∈ en_T := List.mem_filter.mpr ⟨List.mem_of_getElem? (i := 1928) (by decide +kernel), by decide +kernel⟩
theorem tw_1930 : Cond.instanceMethod yX11_take ∈ en_T := List.mem_filter.mpr ⟨List.mem_of_getElem? (i := 1930) (by decide +kernel), by decide +kernel⟩
theorem tw_1931 : Cond.selects RX11 yX11_take yX11_take ∈ en_T := List.mem_filter.mpr ⟨List.mem_of_getElem? (i := 1931) (by decide +kernel), by decide +kernel⟩
theorem tw_1932 : Cond.code yX11_take cX11_take 3 (some .int) ∈ en_T := List.mem_filter.mpr ⟨List.mem_of_getElem? (i := 1932) (by decide +kernel), by decide +kernel⟩
theorem tw_1934 : Cond.instanceMethod yX11_drop ∈ en_T := List.mem_filter.mpr ⟨List.mem_of_getElem? (i := 1934) (by decide +kernel), by decide +kernel⟩
theorem tw_1935 : Cond.selects RX11 yX11_drop yX11_drop ∈ en_T := List.mem_filter.mpr ⟨List.mem_of_getElem? (i := 1935) (by decide +kernel), by decide +kernel⟩
theorem tw_1936 : Cond.code yX11_drop cX11_drop 2 (some .int) ∈ en_T := List.mem_filter.mpr ⟨List.mem_of_getElem? (i := 1936) (by decide +kernel), by decide +kernel⟩
theorem tw_1938 : Cond.instanceMethod yX11_word_ ∈ en_T := List.mem_filter.mpr ⟨List.mem_of_getElem? (i := 1938) (by decide +kernel), by decide +kernel⟩
theorem tw_1939 : Cond.selects RX11 yX11_word_ yX11_word_ ∈ en_T := List.mem_filter.mpr ⟨List.mem_of_getElem? (i := 1939) (by decide +kernel), by decide +kernel⟩
theorem tw_1940 : Cond.code yX11_word_ cX11_word_ 2 (some .long) ∈ en_T := List.mem_filter.mpr ⟨List.mem_of_getElem? (i := 1940) (by decide +kernel), by decide +kernel⟩
theorem tw_1941 : Cond.methodLink RX11 359 yX11_wordOf ∈ en_T := List.mem_filter.mpr ⟨List.mem_of_getElem? (i := 1941) (by decide +kernel), by decide +kernel⟩
theorem tw_1943 : Cond.instanceMethod yX11_wordOf ∈ en_T := List.mem_filter.mpr ⟨List.mem_of_getElem? (i := 1943) (by decide +kernel), by decide +kernel⟩
theorem tw_1944 : Cond.code yX11_wordOf cX11_wordOf 6 (some .long) ∈ en_T := List.mem_filter.mpr ⟨List.mem_of_getElem? (i := 1944) (by decide +kernel), by decide +kernel⟩
theorem tw_1946 : Cond.instanceMethod yX11_odds ∈ en_T := List.mem_filter.mpr ⟨List.mem_of_getElem? (i := 1946) (by decide +kernel), by decide +kernel⟩
theorem tw_1947 : Cond.selects RX11 yX11_odds yX11_odds ∈ en_T := List.mem_filter.mpr ⟨List.mem_of_getElem? (i := 1947) (by decide +kernel), by decide +kernel⟩
theorem tw_1948 : Cond.code yX11_odds cX11_odds 2 (some .int) ∈ en_T := List.mem_filter.mpr ⟨List.mem_of_getElem? (i := 1948) (by decide +kernel), by decide +kernel⟩
theorem tw_1949 : Cond.methodLink RX11 365 yX11_allWords ∈ en_T := List.mem_filter.mpr ⟨List.mem_of_getElem? (i := 1949) (by decide +kernel), by decide +kernel⟩
theorem tw_1951 : Cond.instanceMethod yX11_allWords ∈ en_T := List.mem_filter.mpr ⟨List.mem_of_getElem? (i := 1951) (by decide +kernel), by decide +kernel⟩
theorem tw_1952 : Cond.code yX11_allWords cX11_allWords 4 (some .long) ∈ en_T := List.mem_filter.mpr ⟨List.mem_of_getElem? (i := 1952) (by decide +kernel), by decide +kernel⟩
theorem tw_1953 : Cond.methodLink RX11 369 yX11_byAll ∈ en_T := List.mem_filter.mpr ⟨List.mem_of_getElem? (i := 1953) (by decide +kernel), by decide +kernel⟩
theorem tw_1954 : Cond.static yX11_byAll ∈ en_T := List.mem_filter.mpr ⟨List.mem_of_getElem? (i := 1954) (by decide +kernel), by decide +kernel⟩
theorem tw_1955 : Cond.code yX11_byAll cX11_byAll 9 (some .int) ∈ en_T := List.mem_filter.mpr ⟨List.mem_of_getElem? (i := 1955) (by decide +kernel), by decide +kernel⟩
theorem tw_1956 : Cond.constantLong RX11 363 (jL 10) ∈ en_T := List.mem_filter.mpr ⟨List.mem_of_getElem? (i := 1956) (by decide +kernel), by decide +kernel⟩
theorem tw_1958 : Cond.instanceMethod yX11_where ∈ en_T := List.mem_filter.mpr ⟨List.mem_of_getElem? (i := 1958) (by decide +kernel), by decide +kernel⟩
theorem tw_1959 : Cond.selects RX11 yX11_where yX11_where ∈ en_T := List.mem_filter.mpr ⟨List.mem_of_getElem? (i := 1959) (by decide +kernel), by decide +kernel⟩
theorem tw_1960 : Cond.code yX11_where cX11_where 12 (some .int) ∈ en_T := List.mem_filter.mpr ⟨List.mem_of_getElem? (i := 1960) (by decide +kernel), by decide +kernel⟩
theorem tw_1962 : Cond.instanceMethod yX11_found ∈ en_T := List.mem_filter.mpr ⟨List.mem_of_getElem? (i := 1962) (by decide +kernel), by decide +kernel⟩
theorem tw_1963 : Cond.selects RX11 yX11_found yX11_found ∈ en_T := List.mem_filter.mpr ⟨List.mem_of_getElem? (i := 1963) (by decide +kernel), by decide +kernel⟩
theorem tw_1964 : Cond.code yX11_found cX11_found 5 (some .int) ∈ en_T := List.mem_filter.mpr ⟨List.mem_of_getElem? (i := 1964) (by decide +kernel), by decide +kernel⟩
theorem tw_1966 : Cond.instanceMethod yX11_miles ∈ en_T := List.mem_filter.mpr ⟨List.mem_of_getElem? (i := 1966) (by decide +kernel), by decide +kernel⟩
theorem tw_1967 : Cond.selects RX11 yX11_miles yX11_miles ∈ en_T := List.mem_filter.mpr ⟨List.mem_of_getElem? (i := 1967) (by decide +kernel), by decide +kernel⟩
theorem tw_1968 : Cond.code yX11_miles cX11_miles 7 (some .int) ∈ en_T := List.mem_filter.mpr ⟨List.mem_of_getElem? (i := 1968) (by decide +kernel), by decide +kernel⟩
theorem tw_1970 : Cond.instanceMethod yX11_lost ∈ en_T := List.mem_filter.mpr ⟨List.mem_of_getElem? (i := 1970) (by decide +kernel), by decide +kernel⟩
theorem tw_1971 : Cond.selects RX11 yX11_lost yX11_lost ∈ en_T := List.mem_filter.mpr ⟨List.mem_of_getElem? (i := 1971) (by decide +kernel), by decide +kernel⟩
theorem tw_1972 : Cond.code yX11_lost cX11_lost 4 (some .int) ∈ en_T := List.mem_filter.mpr ⟨List.mem_of_getElem? (i := 1972) (by decide +kernel), by decide +kernel⟩
theorem tw_1974 : Cond.instanceMethod yX11_look ∈ en_T := List.mem_filter.mpr ⟨List.mem_of_getElem? (i := 1974) (by decide +kernel), by decide +kernel⟩
theorem tw_1975 : Cond.selects RX11 yX11_look yX11_look ∈ en_T := List.mem_filter.mpr ⟨List.mem_of_getElem? (i := 1975) (by decide +kernel), by decide +kernel⟩
theorem tw_1976 : Cond.code yX11_look cX11_look 12 (some .int) ∈ en_T := List.mem_filter.mpr ⟨List.mem_of_getElem? (i := 1976) (by decide +kernel), by decide +kernel⟩
theorem tw_1978 : Cond.instanceMethod yX11_left ∈ en_T := List.mem_filter.mpr ⟨List.mem_of_getElem? (i := 1978) (by decide +kernel), by decide +kernel⟩
theorem tw_1979 : Cond.selects RX11 yX11_left yX11_left ∈ en_T := List.mem_filter.mpr ⟨List.mem_of_getElem? (i := 1979) (by decide +kernel), by decide +kernel⟩
theorem tw_1980 : Cond.code yX11_left cX11_left 6 (some .int) ∈ en_T := List.mem_filter.mpr ⟨List.mem_of_getElem? (i := 1980) (by decide +kernel), by decide +kernel⟩
theorem tw_1981 : Cond.methodLink RX11 373 yX11_keeps ∈ en_T := List.mem_filter.mpr ⟨List.mem_of_getElem? (i := 1981) (by decide +kernel), by decide +kernel⟩
theorem tw_1983 : Cond.instanceMethod yX11_keeps ∈ en_T := List.mem_filter.mpr ⟨List.mem_of_getElem? (i := 1983) (by decide +kernel), by decide +kernel⟩
theorem tw_1984 : Cond.code yX11_keeps cX11_keeps 2 none ∈ en_T := List.mem_filter.mpr ⟨List.mem_of_getElem? (i := 1984) (by decide +kernel), by decide +kernel⟩
theorem tw_1985 : Cond.methodLink RX11 376 yX11_comesBack ∈ en_T := List.mem_filter.mpr ⟨List.mem_of_getElem? (i := 1985) (by decide +kernel), by decide +kernel⟩
theorem tw_1987 : Cond.instanceMethod yX11_comesBack ∈ en_T := List.mem_filter.mpr ⟨List.mem_of_getElem? (i := 1987) (by decide +kernel), by decide +kernel⟩
theorem tw_1988 : Cond.code yX11_comesBack cX11_comesBack 2 none ∈ en_T := List.mem_filter.mpr ⟨List.mem_of_getElem? (i := 1988) (by decide +kernel), by decide +kernel⟩
theorem tw_1990 : Cond.instanceMethod yX11_sample ∈ en_T := List.mem_filter.mpr ⟨List.mem_of_getElem? (i := 1990) (by decide +kernel), by decide +kernel⟩
theorem tw_1991 : Cond.selects RX11 yX11_sample yX11_sample ∈ en_T := List.mem_filter.mpr ⟨List.mem_of_getElem? (i := 1991) (by decide +kernel), by decide +kernel⟩
theorem tw_1992 : Cond.code yX11_sample cX11_sample 6 (some .int) ∈ en_T := List.mem_filter.mpr ⟨List.mem_of_getElem? (i := 1992) (by decide +kernel), by decide +kernel⟩
theorem tw_1993 : Cond.constant RX11 379 (iI 999999) ∈ en_T := List.mem_filter.mpr ⟨List.mem_of_getElem? (i := 1993) (by decide +kernel), by decide +kernel⟩
theorem tw_1995 : Cond.instanceMethod yX11_which ∈ en_T := List.mem_filter.mpr ⟨List.mem_of_getElem? (i := 1995) (by decide +kernel), by decide +kernel⟩
theorem tw_1996 : Cond.selects RX11 yX11_which yX11_which ∈ en_T := List.mem_filter.mpr ⟨List.mem_of_getElem? (i := 1996) (by decide +kernel), by decide +kernel⟩
theorem tw_1997 : Cond.code yX11_which cX11_which 9 (some .int) ∈ en_T := List.mem_filter.mpr ⟨List.mem_of_getElem? (i := 1997) (by decide +kernel), by decide +kernel⟩
theorem tw_1998 : Cond.methodLink RX11 380 yX11_farOf ∈ en_T := List.mem_filter.mpr ⟨List.mem_of_getElem? (i := 1998) (by decide +kernel), by decide +kernel⟩
theorem tw_2000 : Cond.instanceMethod yX11_farOf ∈ en_T := List.mem_filter.mpr ⟨List.mem_of_getElem? (i := 2000) (by decide +kernel), by decide +kernel⟩
theorem tw_2001 : Cond.code yX11_farOf cX11_farOf 7 (some .long) ∈ en_T := List.mem_filter.mpr ⟨List.mem_of_getElem? (i := 2001) (by decide +kernel), by decide +kernel⟩
theorem tw_2003 : Cond.instanceMethod yX11_cost ∈ en_T := List.mem_filter.mpr ⟨List.mem_of_getElem? (i := 2003) (by decide +kernel), by decide +kernel⟩
theorem tw_2004 : Cond.selects RX11 yX11_cost yX11_cost ∈ en_T := List.mem_filter.mpr ⟨List.mem_of_getElem? (i := 2004) (by decide +kernel), by decide +kernel⟩
theorem tw_2005 : Cond.code yX11_cost cX11_cost 9 (some .int) ∈ en_T := List.mem_filter.mpr ⟨List.mem_of_getElem? (i := 2005) (by decide +kernel), by decide +kernel⟩
theorem tw_2007 : Cond.instanceMethod yX11_raised ∈ en_T := List.mem_filter.mpr ⟨List.mem_of_getElem? (i := 2007) (by decide +kernel), by decide +kernel⟩
theorem tw_2008 : Cond.selects RX11 yX11_raised yX11_raised ∈ en_T := List.mem_filter.mpr ⟨List.mem_of_getElem? (i := 2008) (by decide +kernel), by decide +kernel⟩
theorem tw_2009 : Cond.code yX11_raised cX11_raised 11 (some .int) ∈ en_T := List.mem_filter.mpr ⟨List.mem_of_getElem? (i := 2009) (by decide +kernel), by decide +kernel⟩
theorem tw_2010 : Cond.methodLink RX11 383 yX11_oversNow ∈ en_T := List.mem_filter.mpr ⟨List.mem_of_getElem? (i := 2010) (by decide +kernel), by decide +kernel⟩
theorem tw_2012 : Cond.instanceMethod yX11_oversNow ∈ en_T := List.mem_filter.mpr ⟨List.mem_of_getElem? (i := 2012) (by decide +kernel), by decide +kernel⟩
theorem tw_2013 : Cond.code yX11_oversNow cX11_oversNow 3 (some .int) ∈ en_T := List.mem_filter.mpr ⟨List.mem_of_getElem? (i := 2013) (by decide +kernel), by decide +kernel⟩
theorem tw_2014 : Cond.methodLink RX11 386 yX11_ones ∈ en_T := List.mem_filter.mpr ⟨List.mem_of_getElem? (i := 2014) (by decide +kernel), by decide +kernel⟩
theorem tw_2015 : Cond.static yX11_ones ∈ en_T := List.mem_filter.mpr ⟨List.mem_of_getElem? (i := 2015) (by decide +kernel), by decide +kernel⟩
theorem tw_2016 : Cond.code yX11_ones cX11_ones 3 (some .int) ∈ en_T := List.mem_filter.mpr ⟨List.mem_of_getElem? (i := 2016) (by decide +kernel), by decide +kernel⟩
theorem tw_2018 : Cond.instanceMethod yX11_brought ∈ en_T := List.mem_filter.mpr ⟨List.mem_of_getElem? (i := 2018) (by decide +kernel), by decide +kernel⟩
theorem tw_2019 : Cond.selects RX11 yX11_brought yX11_brought ∈ en_T := List.mem_filter.mpr ⟨List.mem_of_getElem? (i := 2019) (by decide +kernel), by decide +kernel⟩
theorem tw_2020 : Cond.code yX11_brought cX11_brought 10 (some .int) ∈ en_T := List.mem_filter.mpr ⟨List.mem_of_getElem? (i := 2020) (by decide +kernel), by decide +kernel⟩
theorem tw_2022 : Cond.instanceMethod yX11_last ∈ en_T := List.mem_filter.mpr ⟨List.mem_of_getElem? (i := 2022) (by decide +kernel), by decide +kernel⟩
theorem tw_2023 : Cond.selects RX11 yX11_last yX11_last ∈ en_T := List.mem_filter.mpr ⟨List.mem_of_getElem? (i := 2023) (by decide +kernel), by decide +kernel⟩
theorem tw_2024 : Cond.code yX11_last cX11_last 7 (some .int) ∈ en_T := List.mem_filter.mpr ⟨List.mem_of_getElem? (i := 2024) (by decide +kernel), by decide +kernel⟩
theorem tw_2026 : Cond.instanceMethod yX11_like ∈ en_T := List.mem_filter.mpr ⟨List.mem_of_getElem? (i := 2026) (by decide +kernel), by decide +kernel⟩
theorem tw_2027 : Cond.selects RX11 yX11_like yX11_like ∈ en_T := List.mem_filter.mpr ⟨List.mem_of_getElem? (i := 2027) (by decide +kernel), by decide +kernel⟩
theorem tw_2028 : Cond.code yX11_like cX11_like 7 (some .int) ∈ en_T := List.mem_filter.mpr ⟨List.mem_of_getElem? (i := 2028) (by decide +kernel), by decide +kernel⟩
theorem tw_2029 : Cond.methodLink RX11 389 yX11_shareOf ∈ en_T := List.mem_filter.mpr ⟨List.mem_of_getElem? (i := 2029) (by decide +kernel), by decide +kernel⟩
theorem tw_2031 : Cond.instanceMethod yX11_shareOf ∈ en_T := List.mem_filter.mpr ⟨List.mem_of_getElem? (i := 2031) (by decide +kernel), by decide +kernel⟩
theorem tw_2032 : Cond.code yX11_shareOf cX11_shareOf 4 (some .int) ∈ en_T := List.mem_filter.mpr ⟨List.mem_of_getElem? (i := 2032) (by decide +kernel), by decide +kernel⟩
theorem tw_2034 : Cond.instanceMethod yX11_walls ∈ en_T := List.mem_filter.mpr ⟨List.mem_of_getElem? (i := 2034) (by decide +kernel), by decide +kernel⟩
theorem tw_2035 : Cond.selects RX11 yX11_walls yX11_walls ∈ en_T := List.mem_filter.mpr ⟨List.mem_of_getElem? (i := 2035) (by decide +kernel), by decide +kernel⟩
theorem tw_2036 : Cond.code yX11_walls cX11_walls 11 (some .int) ∈ en_T := List.mem_filter.mpr ⟨List.mem_of_getElem? (i := 2036) (by decide +kernel), by decide +kernel⟩
theorem tw_2038 : Cond.instanceMethod yX11_high ∈ en_T := List.mem_filter.mpr ⟨List.mem_of_getElem? (i := 2038) (by decide +kernel), by decide +kernel⟩
theorem tw_2039 : Cond.selects RX11 yX11_high yX11_high ∈ en_T := List.mem_filter.mpr ⟨List.mem_of_getElem? (i := 2039) (by decide +kernel), by decide +kernel⟩
theorem tw_2040 : Cond.code yX11_high cX11_high 7 (some .int) ∈ en_T := List.mem_filter.mpr ⟨List.mem_of_getElem? (i := 2040) (by decide +kernel), by decide +kernel⟩
theorem tw_2042 : Cond.instanceMethod yX11_one ∈ en_T := List.mem_filter.mpr ⟨List.mem_of_getElem? (i := 2042) (by decide +kernel), by decide +kernel⟩
theorem tw_2043 : Cond.selects RX11 yX11_one yX11_one ∈ en_T := List.mem_filter.mpr ⟨List.mem_of_getElem? (i := 2043) (by decide +kernel), by decide +kernel⟩
theorem tw_2044 : Cond.code yX11_one cX11_one 7 (some .int) ∈ en_T := List.mem_filter.mpr ⟨List.mem_of_getElem? (i := 2044) (by decide +kernel), by decide +kernel⟩
theorem tw_2045 : Cond.methodLink RX11 392 yX11_farNear ∈ en_T := List.mem_filter.mpr ⟨List.mem_of_getElem? (i := 2045) (by decide +kernel), by decide +kernel⟩
theorem tw_2047 : Cond.instanceMethod yX11_farNear ∈ en_T := List.mem_filter.mpr ⟨List.mem_of_getElem? (i := 2047) (by decide +kernel), by decide +kernel⟩
theorem tw_2048 : Cond.code yX11_farNear cX11_farNear 9 (some .int) ∈ en_T := List.mem_filter.mpr ⟨List.mem_of_getElem? (i := 2048) (by decide +kernel), by decide +kernel⟩
theorem tw_2050 : Cond.instanceMethod yX11_seen ∈ en_T := List.mem_filter.mpr ⟨List.mem_of_getElem? (i := 2050) (by decide +kernel), by decide +kernel⟩
theorem tw_2051 : Cond.selects RX11 yX11_seen yX11_seen ∈ en_T := List.mem_filter.mpr ⟨List.mem_of_getElem? (i := 2051) (by decide +kernel), by decide +kernel⟩
theorem tw_2052 : Cond.code yX11_seen cX11_seen 3 (some .int) ∈ en_T := List.mem_filter.mpr ⟨List.mem_of_getElem? (i := 2052) (by decide +kernel), by decide +kernel⟩
theorem tw_2054 : Cond.instanceMethod yX11_sums ∈ en_T := List.mem_filter.mpr ⟨List.mem_of_getElem? (i := 2054) (by decide +kernel), by decide +kernel⟩
theorem tw_2055 : Cond.selects RX11 yX11_sums yX11_sums ∈ en_T := List.mem_filter.mpr ⟨List.mem_of_getElem? (i := 2055) (by decide +kernel), by decide +kernel⟩
theorem tw_2056 : Cond.code yX11_sums cX11_sums 2 (some .int) ∈ en_T := List.mem_filter.mpr ⟨List.mem_of_getElem? (i := 2056) (by decide +kernel), by decide +kernel⟩
theorem tw_2058 : Cond.instanceMethod yX11_image ∈ en_T := List.mem_filter.mpr ⟨List.mem_of_getElem? (i := 2058) (by decide +kernel), by decide +kernel⟩
theorem tw_2059 : Cond.selects RX11 yX11_image yX11_image ∈ en_T := List.mem_filter.mpr ⟨List.mem_of_getElem? (i := 2059) (by decide +kernel), by decide +kernel⟩
theorem tw_2060 : Cond.code yX11_image cX11_image 2 (some .int) ∈ en_T := List.mem_filter.mpr ⟨List.mem_of_getElem? (i := 2060) (by decide +kernel), by decide +kernel⟩
theorem tw_2062 : Cond.instanceMethod yX11_restore ∈ en_T := List.mem_filter.mpr ⟨List.mem_of_getElem? (i := 2062) (by decide +kernel), by decide +kernel⟩
theorem tw_2063 : Cond.selects RX11 yX11_restore yX11_restore ∈ en_T := List.mem_filter.mpr ⟨List.mem_of_getElem? (i := 2063) (by decide +kernel), by decide +kernel⟩
theorem tw_2064 : Cond.code yX11_restore cX11_restore 2 (some .int) ∈ en_T := List.mem_filter.mpr ⟨List.mem_of_getElem? (i := 2064) (by decide +kernel), by decide +kernel⟩
theorem tw_2066 : Cond.instanceMethod yX11_status ∈ en_T := List.mem_filter.mpr ⟨List.mem_of_getElem? (i := 2066) (by decide +kernel), by decide +kernel⟩
theorem tw_2067 : Cond.selects RX11 yX11_status yX11_status ∈ en_T := List.mem_filter.mpr ⟨List.mem_of_getElem? (i := 2067) (by decide +kernel), by decide +kernel⟩
theorem tw_2068 : Cond.code yX11_status cX11_status 2 (some .int) ∈ en_T := List.mem_filter.mpr ⟨List.mem_of_getElem? (i := 2068) (by decide +kernel), by decide +kernel⟩
theorem tw_2070 : Cond.instanceMethod yX11_count ∈ en_T := List.mem_filter.mpr ⟨List.mem_of_getElem? (i := 2070) (by decide +kernel), by decide +kernel⟩
theorem tw_2071 : Cond.selects RX11 yX11_count yX11_count ∈ en_T := List.mem_filter.mpr ⟨List.mem_of_getElem? (i := 2071) (by decide +kernel), by decide +kernel⟩
theorem tw_2072 : Cond.code yX11_count cX11_count 4 (some .int) ∈ en_T := List.mem_filter.mpr ⟨List.mem_of_getElem? (i := 2072) (by decide +kernel), by decide +kernel⟩
theorem tw_2092 : Cond.fieldLink RJ0 9 "java/lang/String" "value" "[B" ∈ en_T := List.mem_filter.mpr ⟨List.mem_of_getElem? (i := 2092) (by decide +kernel), by decide +kernel⟩
theorem tw_2093 : Cond.fieldLink RJ0 15 "java/lang/String" "coder" "B" ∈ en_T := List.mem_filter.mpr ⟨List.mem_of_getElem? (i := 2093) (by decide +kernel), by decide +kernel⟩
theorem cal_J0_charAt_5068e : en_Cal Y_J0_charAt_5068e 1 := ⟨rfl, tw_118, tw_719, ⟨by decide, by decide, by decide +kernel⟩, Nat.le_of_ble_eq_true rfl⟩
theorem calV_J0_charAt_5068e : en_CalV Y_J0_charAt_5068e := ⟨tw_717, tw_718⟩
theorem cal_J0_checkIndex_df160 : en_Cal Y_J0_checkIndex_df160 2 := ⟨rfl, tw_118, tw_729, ⟨by decide, by decide, by decide +kernel⟩, Nat.le_of_ble_eq_true rfl⟩
theorem calS_J0_checkIndex_df160 : Cond.static Y_J0_checkIndex_df160.1 ∈ en_T := tw_728
theorem cal_J0_coder_7d493 : en_Cal Y_J0_coder_7d493 0 := ⟨rfl, tw_118, tw_713, ⟨by decide, by decide, by decide +kernel⟩, Nat.le_of_ble_eq_true rfl⟩
theorem calV_J0_coder_7d493 : en_CalV Y_J0_coder_7d493 := ⟨tw_711, tw_712⟩
theorem cal_J0_isLatin1_aae02 : en_Cal Y_J0_isLatin1_aae02 0 := ⟨rfl, tw_118, tw_723, ⟨by decide, by decide, by decide +kernel⟩, Nat.le_of_ble_eq_true rfl⟩
theorem calV_J0_isLatin1_aae02 : en_CalV Y_J0_isLatin1_aae02 := ⟨tw_721, tw_722⟩
theorem cal_J0_length_8abf5 : en_Cal Y_J0_length_8abf5 0 := ⟨rfl, tw_118, tw_709, ⟨by decide, by decide, by decide +kernel⟩, Nat.le_of_ble_eq_true rfl⟩
theorem calV_J0_length_8abf5 : en_CalV Y_J0_length_8abf5 := ⟨tw_707, tw_708⟩
theorem cal_J1_charAt_3b067 : en_Cal Y_J1_charAt_3b067 2 := ⟨rfl, tw_119, tw_726, ⟨by decide, by decide, by decide +kernel⟩, Nat.le_of_ble_eq_true rfl⟩
theorem calS_J1_charAt_3b067 : Cond.static Y_J1_charAt_3b067.1 ∈ en_T := tw_725
theorem cal_J3_checkIndex_8e157 : en_Cal Y_J3_checkIndex_8e157 3 := ⟨rfl, tw_120, tw_734, ⟨by decide, by decide, by decide +kernel⟩, Nat.le_of_ble_eq_true rfl⟩
theorem calS_J3_checkIndex_8e157 : Cond.static Y_J3_checkIndex_8e157.1 ∈ en_T := tw_733
theorem cal_J6_bitCount_0f7a4 : en_Cal Y_J6_bitCount_0f7a4 1 := ⟨rfl, tw_126, tw_1412, ⟨by decide, by decide, by decide +kernel⟩, Nat.le_of_ble_eq_true rfl⟩
theorem calS_J6_bitCount_0f7a4 : Cond.static Y_J6_bitCount_0f7a4.1 ∈ en_T := tw_1411
theorem cal_J7_fill_53178 : en_Cal Y_J7_fill_53178 2 := ⟨rfl, tw_116, tw_674, ⟨by decide, by decide, by decide +kernel⟩, Nat.le_of_ble_eq_true rfl⟩
theorem calS_J7_fill_53178 : Cond.static Y_J7_fill_53178.1 ∈ en_T := tw_673
theorem cal_J9_abs_0f7a4 : en_Cal Y_J9_abs_0f7a4 1 := ⟨rfl, tw_117, tw_1305, ⟨by decide, by decide, by decide +kernel⟩, Nat.le_of_ble_eq_true rfl⟩
theorem calS_J9_abs_0f7a4 : Cond.static Y_J9_abs_0f7a4.1 ∈ en_T := tw_1304
theorem cal_J9_min_7cf53 : en_Cal Y_J9_min_7cf53 2 := ⟨rfl, tw_117, tw_681, ⟨by decide, by decide, by decide +kernel⟩, Nat.le_of_ble_eq_true rfl⟩
theorem calS_J9_min_7cf53 : Cond.static Y_J9_min_7cf53.1 ∈ en_T := tw_680
theorem cal_L_beach : en_CalW Y_L_beach 3 := ⟨by decide, tw_99, tw_583, ⟨by decide, by decide, by decide +kernel⟩, Nat.le_of_ble_eq_true rfl⟩
theorem calS_L_beach : Cond.static Y_L_beach.1 ∈ en_T := tw_582
theorem cal_L_brought : en_CalW Y_L_brought 6 := ⟨by decide, tw_99, tw_1422, ⟨by decide, by decide, by decide +kernel⟩, Nat.le_of_ble_eq_true rfl⟩
theorem calS_L_brought : Cond.static Y_L_brought.1 ∈ en_T := tw_1421
theorem cal_L_cell : en_CalW Y_L_cell 4 := ⟨by decide, tw_99, tw_1010, ⟨by decide, by decide, by decide +kernel⟩, Nat.le_of_ble_eq_true rfl⟩
theorem calS_L_cell : Cond.static Y_L_cell.1 ∈ en_T := tw_1009
theorem cal_L_cost : en_CalW Y_L_cost 7 := ⟨by decide, tw_99, tw_1381, ⟨by decide, by decide, by decide +kernel⟩, Nat.le_of_ble_eq_true rfl⟩
theorem calS_L_cost : Cond.static Y_L_cost.1 ∈ en_T := tw_1380
theorem cal_L_found : en_CalW Y_L_found 4 := ⟨by decide, tw_99, tw_1313, ⟨by decide, by decide, by decide +kernel⟩, Nat.le_of_ble_eq_true rfl⟩
theorem calS_L_found : Cond.static Y_L_found.1 ∈ en_T := tw_1312
theorem cal_L_high : en_CalW Y_L_high 4 := ⟨by decide, tw_99, tw_1474, ⟨by decide, by decide, by decide +kernel⟩, Nat.le_of_ble_eq_true rfl⟩
theorem calS_L_high : Cond.static Y_L_high.1 ∈ en_T := tw_1473
theorem cal_L_last : en_CalW Y_L_last 6 := ⟨by decide, tw_99, tw_1442, ⟨by decide, by decide, by decide +kernel⟩, Nat.le_of_ble_eq_true rfl⟩
theorem calS_L_last : Cond.static Y_L_last.1 ∈ en_T := tw_1441
theorem cal_L_law : en_CalW Y_L_law 3 := ⟨by decide, tw_99, tw_830, ⟨by decide, by decide, by decide +kernel⟩, Nat.le_of_ble_eq_true rfl⟩
theorem calS_L_law : Cond.static Y_L_law.1 ∈ en_T := tw_829
theorem cal_L_left : en_CalW Y_L_left 6 := ⟨by decide, tw_99, tw_1343, ⟨by decide, by decide, by decide +kernel⟩, Nat.le_of_ble_eq_true rfl⟩
theorem calS_L_left : Cond.static Y_L_left.1 ∈ en_T := tw_1342
theorem cal_L_like : en_CalW Y_L_like 4 := ⟨by decide, tw_99, tw_1454, ⟨by decide, by decide, by decide +kernel⟩, Nat.le_of_ble_eq_true rfl⟩
theorem calS_L_like : Cond.static Y_L_like.1 ∈ en_T := tw_1453
theorem cal_L_look : en_CalW Y_L_look 5 := ⟨by decide, tw_99, tw_1328, ⟨by decide, by decide, by decide +kernel⟩, Nat.le_of_ble_eq_true rfl⟩
theorem calS_L_look : Cond.static Y_L_look.1 ∈ en_T := tw_1327
theorem cal_L_lots : en_CalW Y_L_lots 6 := ⟨by decide, tw_99, tw_1181, ⟨by decide, by decide, by decide +kernel⟩, Nat.le_of_ble_eq_true rfl⟩
theorem calS_L_lots : Cond.static Y_L_lots.1 ∈ en_T := tw_1180
theorem cal_L_mean : en_CalW Y_L_mean 3 := ⟨by decide, tw_99, tw_1193, ⟨by decide, by decide, by decide +kernel⟩, Nat.le_of_ble_eq_true rfl⟩
theorem calS_L_mean : Cond.static Y_L_mean.1 ∈ en_T := tw_1192
theorem cal_L_miles : en_CalW Y_L_miles 3 := ⟨by decide, tw_99, tw_1320, ⟨by decide, by decide, by decide +kernel⟩, Nat.le_of_ble_eq_true rfl⟩
theorem calS_L_miles : Cond.static Y_L_miles.1 ∈ en_T := tw_1319
theorem cal_L_odds : en_CalW Y_L_odds 3 := ⟨by decide, tw_99, tw_1261, ⟨by decide, by decide, by decide +kernel⟩, Nat.le_of_ble_eq_true rfl⟩
theorem calS_L_odds : Cond.static Y_L_odds.1 ∈ en_T := tw_1260
theorem cal_L_one : en_CalW Y_L_one 3 := ⟨by decide, tw_99, tw_1485, ⟨by decide, by decide, by decide +kernel⟩, Nat.le_of_ble_eq_true rfl⟩
theorem calS_L_one : Cond.static Y_L_one.1 ∈ en_T := tw_1484
theorem cal_L_order : en_CalW Y_L_order 3 := ⟨by decide, tw_99, tw_1206, ⟨by decide, by decide, by decide +kernel⟩, Nat.le_of_ble_eq_true rfl⟩
theorem calS_L_order : Cond.static Y_L_order.1 ∈ en_T := tw_1205
theorem cal_L_put : en_CalW Y_L_put 6 := ⟨by decide, tw_99, tw_1017, ⟨by decide, by decide, by decide +kernel⟩, Nat.le_of_ble_eq_true rfl⟩
theorem calS_L_put : Cond.static Y_L_put.1 ∈ en_T := tw_1016
theorem cal_L_raised : en_CalW Y_L_raised 7 := ⟨by decide, tw_99, tw_1397, ⟨by decide, by decide, by decide +kernel⟩, Nat.le_of_ble_eq_true rfl⟩
theorem calS_L_raised : Cond.static Y_L_raised.1 ∈ en_T := tw_1396
theorem cal_L_run : en_CalW Y_L_run 4 := ⟨by decide, tw_99, tw_1159, ⟨by decide, by decide, by decide +kernel⟩, Nat.le_of_ble_eq_true rfl⟩
theorem calS_L_run : Cond.static Y_L_run.1 ∈ en_T := tw_1158
theorem cal_L_sample : en_CalW Y_L_sample 5 := ⟨by decide, tw_99, tw_1356, ⟨by decide, by decide, by decide +kernel⟩, Nat.le_of_ble_eq_true rfl⟩
theorem calS_L_sample : Cond.static Y_L_sample.1 ∈ en_T := tw_1355
theorem cal_L_says : en_CalW Y_L_says 10 := ⟨by decide, tw_99, tw_1026, ⟨by decide, by decide, by decide +kernel⟩, Nat.le_of_ble_eq_true rfl⟩
theorem calS_L_says : Cond.static Y_L_says.1 ∈ en_T := tw_1025
theorem cal_L_seen : en_CalW Y_L_seen 4 := ⟨by decide, tw_99, tw_1497, ⟨by decide, by decide, by decide +kernel⟩, Nat.le_of_ble_eq_true rfl⟩
theorem calS_L_seen : Cond.static Y_L_seen.1 ∈ en_T := tw_1496
theorem cal_L_sound : en_CalW Y_L_sound 3 := ⟨by decide, tw_99, tw_1231, ⟨by decide, by decide, by decide +kernel⟩, Nat.le_of_ble_eq_true rfl⟩
theorem calS_L_sound : Cond.static Y_L_sound.1 ∈ en_T := tw_1230
theorem cal_L_stones : en_CalW Y_L_stones 5 := ⟨by decide, tw_99, tw_971, ⟨by decide, by decide, by decide +kernel⟩, Nat.le_of_ble_eq_true rfl⟩
theorem calS_L_stones : Cond.static Y_L_stones.1 ∈ en_T := tw_970
theorem cal_L_sums : en_CalW Y_L_sums 3 := ⟨by decide, tw_99, tw_1435, ⟨by decide, by decide, by decide +kernel⟩, Nat.le_of_ble_eq_true rfl⟩
theorem calS_L_sums : Cond.static Y_L_sums.1 ∈ en_T := tw_1434
theorem cal_L_take : en_CalW Y_L_take 4 := ⟨by decide, tw_99, tw_1239, ⟨by decide, by decide, by decide +kernel⟩, Nat.le_of_ble_eq_true rfl⟩
theorem calS_L_take : Cond.static Y_L_take.1 ∈ en_T := tw_1238
theorem cal_L_told : en_CalW Y_L_told 3 := ⟨by decide, tw_99, tw_964, ⟨by decide, by decide, by decide +kernel⟩, Nat.le_of_ble_eq_true rfl⟩
theorem calS_L_told : Cond.static Y_L_told.1 ∈ en_T := tw_963
theorem cal_L_walls : en_CalW Y_L_walls 8 := ⟨by decide, tw_99, tw_1463, ⟨by decide, by decide, by decide +kernel⟩, Nat.le_of_ble_eq_true rfl⟩
theorem calS_L_walls : Cond.static Y_L_walls.1 ∈ en_T := tw_1462
theorem cal_L_wave : en_CalW Y_L_wave 6 := ⟨by decide, tw_99, tw_1086, ⟨by decide, by decide, by decide +kernel⟩, Nat.le_of_ble_eq_true rfl⟩
theorem calS_L_wave : Cond.static Y_L_wave.1 ∈ en_T := tw_1085
theorem cal_L_where : en_CalW Y_L_where 3 := ⟨by decide, tw_99, tw_1286, ⟨by decide, by decide, by decide +kernel⟩, Nat.le_of_ble_eq_true rfl⟩
theorem calS_L_where : Cond.static Y_L_where.1 ∈ en_T := tw_1285
theorem cal_L_which : en_CalW Y_L_which 4 := ⟨by decide, tw_99, tw_1364, ⟨by decide, by decide, by decide +kernel⟩, Nat.le_of_ble_eq_true rfl⟩
theorem calS_L_which : Cond.static Y_L_which.1 ∈ en_T := tw_1363
theorem cal_L_word : en_CalW Y_L_word 3 := ⟨by decide, tw_99, tw_1246, ⟨by decide, by decide, by decide +kernel⟩, Nat.le_of_ble_eq_true rfl⟩
theorem calS_L_word : Cond.static Y_L_word.1 ∈ en_T := tw_1245
theorem cal_L_year : en_CalW Y_L_year 3 := ⟨by decide, tw_99, tw_942, ⟨by decide, by decide, by decide +kernel⟩, Nat.le_of_ble_eq_true rfl⟩
theorem calS_L_year : Cond.static Y_L_year.1 ∈ en_T := tw_941
theorem cal_X0_beginOther : en_Cal Y_X0_beginOther 1 := ⟨rfl, tw_104, tw_777, ⟨by decide, by decide, by decide +kernel⟩, Nat.le_of_ble_eq_true rfl⟩
theorem calV_X0_beginOther : en_CalV Y_X0_beginOther := ⟨tw_776, tw_6⟩
theorem cal_X0_needHeap : en_Cal Y_X0_needHeap 1 := ⟨rfl, tw_104, tw_781, ⟨by decide, by decide, by decide +kernel⟩, Nat.le_of_ble_eq_true rfl⟩
theorem calV_X0_needHeap : en_CalV Y_X0_needHeap := ⟨tw_780, tw_7⟩
theorem cal_X0_readBeach : en_Cal Y_X0_readBeach 3 := ⟨rfl, tw_104, tw_667, ⟨by decide, by decide, by decide +kernel⟩, Nat.le_of_ble_eq_true rfl⟩
theorem calV_X0_readBeach : en_CalV Y_X0_readBeach := ⟨tw_665, tw_666⟩
theorem cal_X0_readClause : en_Cal Y_X0_readClause 2 := ⟨rfl, tw_104, tw_700, ⟨by decide, by decide, by decide +kernel⟩, Nat.le_of_ble_eq_true rfl⟩
theorem calV_X0_readClause : en_CalV Y_X0_readClause := ⟨tw_699, tw_3⟩
theorem cal_X0_readExtent : en_Cal Y_X0_readExtent 2 := ⟨rfl, tw_104, tw_758, ⟨by decide, by decide, by decide +kernel⟩, Nat.le_of_ble_eq_true rfl⟩
theorem calV_X0_readExtent : en_CalV Y_X0_readExtent := ⟨tw_757, tw_4⟩
theorem cal_X0_readHeap : en_Cal Y_X0_readHeap 2 := ⟨rfl, tw_104, tw_773, ⟨by decide, by decide, by decide +kernel⟩, Nat.le_of_ble_eq_true rfl⟩
theorem calV_X0_readHeap : en_CalV Y_X0_readHeap := ⟨tw_772, tw_5⟩
theorem cal_X0_readLorry : en_Cal Y_X0_readLorry 2 := ⟨rfl, tw_104, tw_798, ⟨by decide, by decide, by decide +kernel⟩, Nat.le_of_ble_eq_true rfl⟩
theorem calV_X0_readLorry : en_CalV Y_X0_readLorry := ⟨tw_797, tw_9⟩
theorem cal_X0_readSpring : en_Cal Y_X0_readSpring 2 := ⟨rfl, tw_104, tw_789, ⟨by decide, by decide, by decide +kernel⟩, Nat.le_of_ble_eq_true rfl⟩
theorem calV_X0_readSpring : en_CalV Y_X0_readSpring := ⟨tw_788, tw_8⟩
theorem cal_X0_readWave : en_Cal Y_X0_readWave 2 := ⟨rfl, tw_104, tw_954, ⟨by decide, by decide, by decide +kernel⟩, Nat.le_of_ble_eq_true rfl⟩
theorem calV_X0_readWave : en_CalV Y_X0_readWave := ⟨tw_953, tw_22⟩
theorem cal_X0_readYear : en_Cal Y_X0_readYear 3 := ⟨rfl, tw_104, tw_950, ⟨by decide, by decide, by decide +kernel⟩, Nat.le_of_ble_eq_true rfl⟩
theorem calV_X0_readYear : en_CalV Y_X0_readYear := ⟨tw_948, tw_949⟩
theorem cal_X10_beach : en_Cal Y_X10_beach 1 := ⟨rfl, tw_100, tw_588, ⟨by decide, by decide, by decide +kernel⟩, Nat.le_of_ble_eq_true rfl⟩
theorem calV_X10_beach : en_CalV Y_X10_beach := ⟨tw_586, tw_587⟩
theorem cal_X10_brought : en_Cal Y_X10_brought 4 := ⟨rfl, tw_100, tw_1426, ⟨by decide, by decide, by decide +kernel⟩, Nat.le_of_ble_eq_true rfl⟩
theorem calV_X10_brought : en_CalV Y_X10_brought := ⟨tw_1424, tw_1425⟩
theorem cal_X10_cell : en_Cal Y_X10_cell 2 := ⟨rfl, tw_100, tw_1014, ⟨by decide, by decide, by decide +kernel⟩, Nat.le_of_ble_eq_true rfl⟩
theorem calV_X10_cell : en_CalV Y_X10_cell := ⟨tw_1012, tw_1013⟩
theorem cal_X10_cost : en_Cal Y_X10_cost 5 := ⟨rfl, tw_100, tw_1385, ⟨by decide, by decide, by decide +kernel⟩, Nat.le_of_ble_eq_true rfl⟩
theorem calV_X10_cost : en_CalV Y_X10_cost := ⟨tw_1383, tw_1384⟩
theorem cal_X10_count : en_Cal Y_X10_count 1 := ⟨rfl, tw_100, tw_576, ⟨by decide, by decide, by decide +kernel⟩, Nat.le_of_ble_eq_true rfl⟩
theorem calV_X10_count : en_CalV Y_X10_count := ⟨tw_574, tw_575⟩
theorem cal_X10_drop : en_Cal Y_X10_drop 0 := ⟨rfl, tw_100, tw_542, ⟨by decide, by decide, by decide +kernel⟩, Nat.le_of_ble_eq_true rfl⟩
theorem calV_X10_drop : en_CalV Y_X10_drop := ⟨tw_540, tw_541⟩
theorem cal_X10_fault : en_Cal Y_X10_fault 0 := ⟨rfl, tw_100, tw_526, ⟨by decide, by decide, by decide +kernel⟩, Nat.le_of_ble_eq_true rfl⟩
theorem calV_X10_fault : en_CalV Y_X10_fault := ⟨tw_524, tw_525⟩
theorem cal_X10_feed : en_Cal Y_X10_feed 5 := ⟨rfl, tw_100, tw_518, ⟨by decide, by decide, by decide +kernel⟩, Nat.le_of_ble_eq_true rfl⟩
theorem calV_X10_feed : en_CalV Y_X10_feed := ⟨tw_516, tw_517⟩
theorem cal_X10_found : en_Cal Y_X10_found 2 := ⟨rfl, tw_100, tw_1317, ⟨by decide, by decide, by decide +kernel⟩, Nat.le_of_ble_eq_true rfl⟩
theorem calV_X10_found : en_CalV Y_X10_found := ⟨tw_1315, tw_1316⟩
theorem cal_X10_high : en_Cal Y_X10_high 2 := ⟨rfl, tw_100, tw_1478, ⟨by decide, by decide, by decide +kernel⟩, Nat.le_of_ble_eq_true rfl⟩
theorem calV_X10_high : en_CalV Y_X10_high := ⟨tw_1476, tw_1477⟩
theorem cal_X10_horn : en_Cal Y_X10_horn 1 := ⟨rfl, tw_100, tw_530, ⟨by decide, by decide, by decide +kernel⟩, Nat.le_of_ble_eq_true rfl⟩
theorem calV_X10_horn : en_CalV Y_X10_horn := ⟨tw_528, tw_529⟩
theorem cal_X10_image : en_Cal Y_X10_image 0 := ⟨rfl, tw_100, tw_557, ⟨by decide, by decide, by decide +kernel⟩, Nat.le_of_ble_eq_true rfl⟩
theorem calV_X10_image : en_CalV Y_X10_image := ⟨tw_555, tw_556⟩
theorem cal_X10_isCell : en_Cal Y_X10_isCell 1 := ⟨rfl, tw_100, tw_980, ⟨by decide, by decide, by decide +kernel⟩, Nat.le_of_ble_eq_true rfl⟩
theorem calV_X10_isCell : en_CalV Y_X10_isCell := ⟨tw_979, tw_23⟩
theorem cal_X10_isSize : en_Cal Y_X10_isSize 1 := ⟨rfl, tw_100, tw_1004, ⟨by decide, by decide, by decide +kernel⟩, Nat.le_of_ble_eq_true rfl⟩
theorem calV_X10_isSize : en_CalV Y_X10_isSize := ⟨tw_1003, tw_25⟩
theorem cal_X10_isStuff : en_Cal Y_X10_isStuff 1 := ⟨rfl, tw_100, tw_1007, ⟨by decide, by decide, by decide +kernel⟩, Nat.le_of_ble_eq_true rfl⟩
theorem calS_X10_isStuff : Cond.static Y_X10_isStuff.1 ∈ en_T := tw_1006
theorem cal_X10_isWave : en_Cal Y_X10_isWave 3 := ⟨rfl, tw_100, tw_1054, ⟨by decide, by decide, by decide +kernel⟩, Nat.le_of_ble_eq_true rfl⟩
theorem calS_X10_isWave : Cond.static Y_X10_isWave.1 ∈ en_T := tw_1053
theorem cal_X10_isWithin : en_Cal Y_X10_isWithin 3 := ⟨rfl, tw_100, tw_591, ⟨by decide, by decide, by decide +kernel⟩, Nat.le_of_ble_eq_true rfl⟩
theorem calS_X10_isWithin : Cond.static Y_X10_isWithin.1 ∈ en_T := tw_590
theorem cal_X10_last : en_Cal Y_X10_last 4 := ⟨rfl, tw_100, tw_1446, ⟨by decide, by decide, by decide +kernel⟩, Nat.le_of_ble_eq_true rfl⟩
theorem calV_X10_last : en_CalV Y_X10_last := ⟨tw_1444, tw_1445⟩
theorem cal_X10_law : en_Cal Y_X10_law 1 := ⟨rfl, tw_100, tw_834, ⟨by decide, by decide, by decide +kernel⟩, Nat.le_of_ble_eq_true rfl⟩
theorem calV_X10_law : en_CalV Y_X10_law := ⟨tw_832, tw_833⟩
theorem cal_X10_left : en_Cal Y_X10_left 4 := ⟨rfl, tw_100, tw_1347, ⟨by decide, by decide, by decide +kernel⟩, Nat.le_of_ble_eq_true rfl⟩
theorem calV_X10_left : en_CalV Y_X10_left := ⟨tw_1345, tw_1346⟩
theorem cal_X10_like : en_Cal Y_X10_like 2 := ⟨rfl, tw_100, tw_1458, ⟨by decide, by decide, by decide +kernel⟩, Nat.le_of_ble_eq_true rfl⟩
theorem calV_X10_like : en_CalV Y_X10_like := ⟨tw_1456, tw_1457⟩
theorem cal_X10_look : en_Cal Y_X10_look 3 := ⟨rfl, tw_100, tw_1332, ⟨by decide, by decide, by decide +kernel⟩, Nat.le_of_ble_eq_true rfl⟩
theorem calV_X10_look : en_CalV Y_X10_look := ⟨tw_1330, tw_1331⟩
theorem cal_X10_lost : en_Cal Y_X10_lost 0 := ⟨rfl, tw_100, tw_546, ⟨by decide, by decide, by decide +kernel⟩, Nat.le_of_ble_eq_true rfl⟩
theorem calV_X10_lost : en_CalV Y_X10_lost := ⟨tw_544, tw_545⟩
theorem cal_X10_lots : en_Cal Y_X10_lots 4 := ⟨rfl, tw_100, tw_1185, ⟨by decide, by decide, by decide +kernel⟩, Nat.le_of_ble_eq_true rfl⟩
theorem calV_X10_lots : en_CalV Y_X10_lots := ⟨tw_1183, tw_1184⟩
theorem cal_X10_mean : en_Cal Y_X10_mean 1 := ⟨rfl, tw_100, tw_1197, ⟨by decide, by decide, by decide +kernel⟩, Nat.le_of_ble_eq_true rfl⟩
theorem calV_X10_mean : en_CalV Y_X10_mean := ⟨tw_1195, tw_1196⟩
theorem cal_X10_miles : en_Cal Y_X10_miles 1 := ⟨rfl, tw_100, tw_1324, ⟨by decide, by decide, by decide +kernel⟩, Nat.le_of_ble_eq_true rfl⟩
theorem calV_X10_miles : en_CalV Y_X10_miles := ⟨tw_1322, tw_1323⟩
theorem cal_X10_needHours : en_Cal Y_X10_needHours 0 := ⟨rfl, tw_100, tw_1095, ⟨by decide, by decide, by decide +kernel⟩, Nat.le_of_ble_eq_true rfl⟩
theorem calV_X10_needHours : en_CalV Y_X10_needHours := ⟨tw_1094, tw_29⟩
theorem cal_X10_needLaw : en_Cal Y_X10_needLaw 1 := ⟨rfl, tw_100, tw_1035, ⟨by decide, by decide, by decide +kernel⟩, Nat.le_of_ble_eq_true rfl⟩
theorem calV_X10_needLaw : en_CalV Y_X10_needLaw := ⟨tw_1034, tw_26⟩
theorem cal_X10_needPlace : en_Cal Y_X10_needPlace 1 := ⟨rfl, tw_100, tw_984, ⟨by decide, by decide, by decide +kernel⟩, Nat.le_of_ble_eq_true rfl⟩
theorem calV_X10_needPlace : en_CalV Y_X10_needPlace := ⟨tw_983, tw_24⟩
theorem cal_X10_needRight : en_Cal Y_X10_needRight 1 := ⟨rfl, tw_100, tw_595, ⟨by decide, by decide, by decide +kernel⟩, Nat.le_of_ble_eq_true rfl⟩
theorem calV_X10_needRight : en_CalV Y_X10_needRight := ⟨tw_594, tw_1⟩
theorem cal_X10_needYear : en_Cal Y_X10_needYear 1 := ⟨rfl, tw_100, tw_1167, ⟨by decide, by decide, by decide +kernel⟩, Nat.le_of_ble_eq_true rfl⟩
theorem calV_X10_needYear : en_CalV Y_X10_needYear := ⟨tw_1166, tw_36⟩
theorem cal_X10_odds : en_Cal Y_X10_odds 1 := ⟨rfl, tw_100, tw_1265, ⟨by decide, by decide, by decide +kernel⟩, Nat.le_of_ble_eq_true rfl⟩
theorem calV_X10_odds : en_CalV Y_X10_odds := ⟨tw_1263, tw_1264⟩
theorem cal_X10_one : en_Cal Y_X10_one 1 := ⟨rfl, tw_100, tw_1489, ⟨by decide, by decide, by decide +kernel⟩, Nat.le_of_ble_eq_true rfl⟩
theorem calV_X10_one : en_CalV Y_X10_one := ⟨tw_1487, tw_1488⟩
theorem cal_X10_order : en_Cal Y_X10_order 1 := ⟨rfl, tw_100, tw_1210, ⟨by decide, by decide, by decide +kernel⟩, Nat.le_of_ble_eq_true rfl⟩
theorem calV_X10_order : en_CalV Y_X10_order := ⟨tw_1208, tw_1209⟩
theorem cal_X10_put : en_Cal Y_X10_put 4 := ⟨rfl, tw_100, tw_1021, ⟨by decide, by decide, by decide +kernel⟩, Nat.le_of_ble_eq_true rfl⟩
theorem calV_X10_put : en_CalV Y_X10_put := ⟨tw_1019, tw_1020⟩
theorem cal_X10_raised : en_Cal Y_X10_raised 5 := ⟨rfl, tw_100, tw_1401, ⟨by decide, by decide, by decide +kernel⟩, Nat.le_of_ble_eq_true rfl⟩
theorem calV_X10_raised : en_CalV Y_X10_raised := ⟨tw_1399, tw_1400⟩
theorem cal_X10_restore : en_Cal Y_X10_restore 0 := ⟨rfl, tw_100, tw_568, ⟨by decide, by decide, by decide +kernel⟩, Nat.le_of_ble_eq_true rfl⟩
theorem calV_X10_restore : en_CalV Y_X10_restore := ⟨tw_566, tw_567⟩
theorem cal_X10_run : en_Cal Y_X10_run 2 := ⟨rfl, tw_100, tw_1163, ⟨by decide, by decide, by decide +kernel⟩, Nat.le_of_ble_eq_true rfl⟩
theorem calV_X10_run : en_CalV Y_X10_run := ⟨tw_1161, tw_1162⟩
theorem cal_X10_sample : en_Cal Y_X10_sample 3 := ⟨rfl, tw_100, tw_1360, ⟨by decide, by decide, by decide +kernel⟩, Nat.le_of_ble_eq_true rfl⟩
theorem calV_X10_sample : en_CalV Y_X10_sample := ⟨tw_1358, tw_1359⟩
theorem cal_X10_says : en_Cal Y_X10_says 8 := ⟨rfl, tw_100, tw_1031, ⟨by decide, by decide, by decide +kernel⟩, Nat.le_of_ble_eq_true rfl⟩
theorem calV_X10_says : en_CalV Y_X10_says := ⟨tw_1029, tw_1030⟩
theorem cal_X10_seen : en_Cal Y_X10_seen 2 := ⟨rfl, tw_100, tw_1501, ⟨by decide, by decide, by decide +kernel⟩, Nat.le_of_ble_eq_true rfl⟩
theorem calV_X10_seen : en_CalV Y_X10_seen := ⟨tw_1499, tw_1500⟩
theorem cal_X10_sound : en_Cal Y_X10_sound 1 := ⟨rfl, tw_100, tw_1235, ⟨by decide, by decide, by decide +kernel⟩, Nat.le_of_ble_eq_true rfl⟩
theorem calV_X10_sound : en_CalV Y_X10_sound := ⟨tw_1233, tw_1234⟩
theorem cal_X10_status : en_Cal Y_X10_status 1 := ⟨rfl, tw_100, tw_572, ⟨by decide, by decide, by decide +kernel⟩, Nat.le_of_ble_eq_true rfl⟩
theorem calV_X10_status : en_CalV Y_X10_status := ⟨tw_570, tw_571⟩
theorem cal_X10_stones : en_Cal Y_X10_stones 3 := ⟨rfl, tw_100, tw_976, ⟨by decide, by decide, by decide +kernel⟩, Nat.le_of_ble_eq_true rfl⟩
theorem calV_X10_stones : en_CalV Y_X10_stones := ⟨tw_974, tw_975⟩
theorem cal_X10_sums : en_Cal Y_X10_sums 1 := ⟨rfl, tw_100, tw_1439, ⟨by decide, by decide, by decide +kernel⟩, Nat.le_of_ble_eq_true rfl⟩
theorem calV_X10_sums : en_CalV Y_X10_sums := ⟨tw_1437, tw_1438⟩
theorem cal_X10_take : en_Cal Y_X10_take 2 := ⟨rfl, tw_100, tw_1243, ⟨by decide, by decide, by decide +kernel⟩, Nat.le_of_ble_eq_true rfl⟩
theorem calV_X10_take : en_CalV Y_X10_take := ⟨tw_1241, tw_1242⟩
theorem cal_X10_tapeNumber : en_Cal Y_X10_tapeNumber 1 := ⟨rfl, tw_100, tw_522, ⟨by decide, by decide, by decide +kernel⟩, Nat.le_of_ble_eq_true rfl⟩
theorem calV_X10_tapeNumber : en_CalV Y_X10_tapeNumber := ⟨tw_521, tw_0⟩
theorem cal_X10_told : en_Cal Y_X10_told 1 := ⟨rfl, tw_100, tw_968, ⟨by decide, by decide, by decide +kernel⟩, Nat.le_of_ble_eq_true rfl⟩
theorem calV_X10_told : en_CalV Y_X10_told := ⟨tw_966, tw_967⟩
theorem cal_X10_walls : en_Cal Y_X10_walls 6 := ⟨rfl, tw_100, tw_1467, ⟨by decide, by decide, by decide +kernel⟩, Nat.le_of_ble_eq_true rfl⟩
theorem calV_X10_walls : en_CalV Y_X10_walls := ⟨tw_1465, tw_1466⟩
theorem cal_X10_wave : en_Cal Y_X10_wave 4 := ⟨rfl, tw_100, tw_1091, ⟨by decide, by decide, by decide +kernel⟩, Nat.le_of_ble_eq_true rfl⟩
theorem calV_X10_wave : en_CalV Y_X10_wave := ⟨tw_1089, tw_1090⟩
theorem cal_X10_where : en_Cal Y_X10_where 1 := ⟨rfl, tw_100, tw_1290, ⟨by decide, by decide, by decide +kernel⟩, Nat.le_of_ble_eq_true rfl⟩
theorem calV_X10_where : en_CalV Y_X10_where := ⟨tw_1288, tw_1289⟩
theorem cal_X10_which : en_Cal Y_X10_which 2 := ⟨rfl, tw_100, tw_1368, ⟨by decide, by decide, by decide +kernel⟩, Nat.le_of_ble_eq_true rfl⟩
theorem calV_X10_which : en_CalV Y_X10_which := ⟨tw_1366, tw_1367⟩
theorem cal_X10_word : en_Cal Y_X10_word 1 := ⟨rfl, tw_100, tw_1250, ⟨by decide, by decide, by decide +kernel⟩, Nat.le_of_ble_eq_true rfl⟩
theorem calV_X10_word : en_CalV Y_X10_word := ⟨tw_1248, tw_1249⟩
theorem cal_X10_year : en_Cal Y_X10_year 1 := ⟨rfl, tw_100, tw_946, ⟨by decide, by decide, by decide +kernel⟩, Nat.le_of_ble_eq_true rfl⟩
theorem calV_X10_year : en_CalV Y_X10_year := ⟨tw_944, tw_945⟩
theorem cal_X11_all : en_Cal Y_X11_all 2 := ⟨rfl, tw_111, tw_1834, ⟨by decide, by decide, by decide +kernel⟩, Nat.le_of_ble_eq_true rfl⟩
theorem calV_X11_all : en_CalV Y_X11_all := ⟨tw_1833, tw_75⟩
theorem cal_X11_allOf : en_Cal Y_X11_allOf 0 := ⟨rfl, tw_111, tw_1742, ⟨by decide, by decide, by decide +kernel⟩, Nat.le_of_ble_eq_true rfl⟩
theorem calV_X11_allOf : en_CalV Y_X11_allOf := ⟨tw_1741, tw_64⟩
theorem cal_X11_allWords : en_Cal Y_X11_allWords 0 := ⟨rfl, tw_111, tw_1952, ⟨by decide, by decide, by decide +kernel⟩, Nat.le_of_ble_eq_true rfl⟩
theorem calV_X11_allWords : en_CalV Y_X11_allWords := ⟨tw_1951, tw_92⟩
theorem cal_X11_anyOf : en_Cal Y_X11_anyOf 0 := ⟨rfl, tw_111, tw_1738, ⟨by decide, by decide, by decide +kernel⟩, Nat.le_of_ble_eq_true rfl⟩
theorem calV_X11_anyOf : en_CalV Y_X11_anyOf := ⟨tw_1737, tw_63⟩
theorem cal_X11_beach : en_Cal Y_X11_beach 1 := ⟨rfl, tw_111, tw_1626, ⟨by decide, by decide, by decide +kernel⟩, Nat.le_of_ble_eq_true rfl⟩
theorem calV_X11_beach : en_CalV Y_X11_beach := ⟨tw_1624, tw_1625⟩
theorem cal_X11_begins : en_Cal Y_X11_begins 1 := ⟨rfl, tw_111, tw_1634, ⟨by decide, by decide, by decide +kernel⟩, Nat.le_of_ble_eq_true rfl⟩
theorem calV_X11_begins : en_CalV Y_X11_begins := ⟨tw_1633, tw_45⟩
theorem cal_X11_brings : en_Cal Y_X11_brings 3 := ⟨rfl, tw_111, tw_1874, ⟨by decide, by decide, by decide +kernel⟩, Nat.le_of_ble_eq_true rfl⟩
theorem calV_X11_brings : en_CalV Y_X11_brings := ⟨tw_1873, tw_83⟩
theorem cal_X11_brought : en_Cal Y_X11_brought 4 := ⟨rfl, tw_111, tw_2020, ⟨by decide, by decide, by decide +kernel⟩, Nat.le_of_ble_eq_true rfl⟩
theorem calV_X11_brought : en_CalV Y_X11_brought := ⟨tw_2018, tw_2019⟩
theorem cal_X11_byAll : en_Cal Y_X11_byAll 2 := ⟨rfl, tw_111, tw_1955, ⟨by decide, by decide, by decide +kernel⟩, Nat.le_of_ble_eq_true rfl⟩
theorem calS_X11_byAll : Cond.static Y_X11_byAll.1 ∈ en_T := tw_1954
theorem cal_X11_cell : en_Cal Y_X11_cell 2 := ⟨rfl, tw_111, tw_1807, ⟨by decide, by decide, by decide +kernel⟩, Nat.le_of_ble_eq_true rfl⟩
theorem calV_X11_cell : en_CalV Y_X11_cell := ⟨tw_1805, tw_1806⟩
theorem cal_X11_comesBack : en_Cal Y_X11_comesBack 0 := ⟨rfl, tw_111, tw_1988, ⟨by decide, by decide, by decide +kernel⟩, Nat.le_of_ble_eq_true rfl⟩
theorem calV_X11_comesBack : en_CalV Y_X11_comesBack := ⟨tw_1987, tw_94⟩
theorem cal_X11_cost : en_Cal Y_X11_cost 5 := ⟨rfl, tw_111, tw_2005, ⟨by decide, by decide, by decide +kernel⟩, Nat.le_of_ble_eq_true rfl⟩
theorem calV_X11_cost : en_CalV Y_X11_cost := ⟨tw_2003, tw_2004⟩
theorem cal_X11_count : en_Cal Y_X11_count 1 := ⟨rfl, tw_111, tw_2072, ⟨by decide, by decide, by decide +kernel⟩, Nat.le_of_ble_eq_true rfl⟩
theorem calV_X11_count : en_CalV Y_X11_count := ⟨tw_2070, tw_2071⟩
theorem cal_X11_drop : en_Cal Y_X11_drop 0 := ⟨rfl, tw_111, tw_1936, ⟨by decide, by decide, by decide +kernel⟩, Nat.le_of_ble_eq_true rfl⟩
theorem calV_X11_drop : en_CalV Y_X11_drop := ⟨tw_1934, tw_1935⟩
theorem cal_X11_emit : en_Cal Y_X11_emit 2 := ⟨rfl, tw_111, tw_1751, ⟨by decide, by decide, by decide +kernel⟩, Nat.le_of_ble_eq_true rfl⟩
theorem calV_X11_emit : en_CalV Y_X11_emit := ⟨tw_1750, tw_66⟩
theorem cal_X11_farNear : en_Cal Y_X11_farNear 0 := ⟨rfl, tw_111, tw_2048, ⟨by decide, by decide, by decide +kernel⟩, Nat.le_of_ble_eq_true rfl⟩
theorem calV_X11_farNear : en_CalV Y_X11_farNear := ⟨tw_2047, tw_98⟩
theorem cal_X11_farOf : en_Cal Y_X11_farOf 0 := ⟨rfl, tw_111, tw_2001, ⟨by decide, by decide, by decide +kernel⟩, Nat.le_of_ble_eq_true rfl⟩
theorem calV_X11_farOf : en_CalV Y_X11_farOf := ⟨tw_2000, tw_95⟩
theorem cal_X11_fault : en_Cal Y_X11_fault 0 := ⟨rfl, tw_111, tw_1622, ⟨by decide, by decide, by decide +kernel⟩, Nat.le_of_ble_eq_true rfl⟩
theorem calV_X11_fault : en_CalV Y_X11_fault := ⟨tw_1620, tw_1621⟩
theorem cal_X11_feed : en_Cal Y_X11_feed 5 := ⟨rfl, tw_111, tw_1618, ⟨by decide, by decide, by decide +kernel⟩, Nat.le_of_ble_eq_true rfl⟩
theorem calV_X11_feed : en_CalV Y_X11_feed := ⟨tw_1616, tw_1617⟩
theorem cal_X11_fine : en_Cal Y_X11_fine 0 := ⟨rfl, tw_111, tw_1638, ⟨by decide, by decide, by decide +kernel⟩, Nat.le_of_ble_eq_true rfl⟩
theorem calV_X11_fine : en_CalV Y_X11_fine := ⟨tw_1637, tw_46⟩
theorem cal_X11_found : en_Cal Y_X11_found 2 := ⟨rfl, tw_111, tw_1964, ⟨by decide, by decide, by decide +kernel⟩, Nat.le_of_ble_eq_true rfl⟩
theorem calV_X11_found : en_CalV Y_X11_found := ⟨tw_1962, tw_1963⟩
theorem cal_X11_goes : en_Cal Y_X11_goes 6 := ⟨rfl, tw_111, tw_1866, ⟨by decide, by decide, by decide +kernel⟩, Nat.le_of_ble_eq_true rfl⟩
theorem calV_X11_goes : en_CalV Y_X11_goes := ⟨tw_1865, tw_81⟩
theorem cal_X11_held : en_Cal Y_X11_held 1 := ⟨rfl, tw_111, tw_1862, ⟨by decide, by decide, by decide +kernel⟩, Nat.le_of_ble_eq_true rfl⟩
theorem calS_X11_held : Cond.static Y_X11_held.1 ∈ en_T := tw_1861
theorem cal_X11_here : en_Cal Y_X11_here 0 := ⟨rfl, tw_111, tw_1646, ⟨by decide, by decide, by decide +kernel⟩, Nat.le_of_ble_eq_true rfl⟩
theorem calV_X11_here : en_CalV Y_X11_here := ⟨tw_1645, tw_48⟩
theorem cal_X11_high : en_Cal Y_X11_high 2 := ⟨rfl, tw_111, tw_2040, ⟨by decide, by decide, by decide +kernel⟩, Nat.le_of_ble_eq_true rfl⟩
theorem calV_X11_high : en_CalV Y_X11_high := ⟨tw_2038, tw_2039⟩
theorem cal_X11_horn : en_Cal Y_X11_horn 1 := ⟨rfl, tw_111, tw_1924, ⟨by decide, by decide, by decide +kernel⟩, Nat.le_of_ble_eq_true rfl⟩
theorem calV_X11_horn : en_CalV Y_X11_horn := ⟨tw_1922, tw_1923⟩
theorem cal_X11_hour : en_Cal Y_X11_hour 4 := ⟨rfl, tw_111, tw_1855, ⟨by decide, by decide, by decide +kernel⟩, Nat.le_of_ble_eq_true rfl⟩
theorem calV_X11_hour : en_CalV Y_X11_hour := ⟨tw_1854, tw_79⟩
theorem cal_X11_image : en_Cal Y_X11_image 0 := ⟨rfl, tw_111, tw_2060, ⟨by decide, by decide, by decide +kernel⟩, Nat.le_of_ble_eq_true rfl⟩
theorem calV_X11_image : en_CalV Y_X11_image := ⟨tw_2058, tw_2059⟩
theorem cal_X11_isCell : en_Cal Y_X11_isCell 2 := ⟨rfl, tw_111, tw_1799, ⟨by decide, by decide, by decide +kernel⟩, Nat.le_of_ble_eq_true rfl⟩
theorem calV_X11_isCell : en_CalV Y_X11_isCell := ⟨tw_1798, tw_70⟩
theorem cal_X11_isClause : en_Cal Y_X11_isClause 1 := ⟨rfl, tw_111, tw_1656, ⟨by decide, by decide, by decide +kernel⟩, Nat.le_of_ble_eq_true rfl⟩
theorem calS_X11_isClause : Cond.static Y_X11_isClause.1 ∈ en_T := tw_1655
theorem cal_X11_isDigit : en_Cal Y_X11_isDigit 1 := ⟨rfl, tw_111, tw_1687, ⟨by decide, by decide, by decide +kernel⟩, Nat.le_of_ble_eq_true rfl⟩
theorem calS_X11_isDigit : Cond.static Y_X11_isDigit.1 ∈ en_T := tw_1686
theorem cal_X11_isHorn : en_Cal Y_X11_isHorn 1 := ⟨rfl, tw_111, tw_1912, ⟨by decide, by decide, by decide +kernel⟩, Nat.le_of_ble_eq_true rfl⟩
theorem calV_X11_isHorn : en_CalV Y_X11_isHorn := ⟨tw_1911, tw_88⟩
theorem cal_X11_isKnown : en_Cal Y_X11_isKnown 1 := ⟨rfl, tw_111, tw_1916, ⟨by decide, by decide, by decide +kernel⟩, Nat.le_of_ble_eq_true rfl⟩
theorem calV_X11_isKnown : en_CalV Y_X11_isKnown := ⟨tw_1915, tw_89⟩
theorem cal_X11_isLaw : en_Cal Y_X11_isLaw 2 := ⟨rfl, tw_111, tw_1819, ⟨by decide, by decide, by decide +kernel⟩, Nat.le_of_ble_eq_true rfl⟩
theorem calV_X11_isLaw : en_CalV Y_X11_isLaw := ⟨tw_1818, tw_72⟩
theorem cal_X11_isMore : en_Cal Y_X11_isMore 0 := ⟨rfl, tw_111, tw_1642, ⟨by decide, by decide, by decide +kernel⟩, Nat.le_of_ble_eq_true rfl⟩
theorem calV_X11_isMore : en_CalV Y_X11_isMore := ⟨tw_1641, tw_47⟩
theorem cal_X11_isNow : en_Cal Y_X11_isNow 1 := ⟨rfl, tw_111, tw_1851, ⟨by decide, by decide, by decide +kernel⟩, Nat.le_of_ble_eq_true rfl⟩
theorem calV_X11_isNow : en_CalV Y_X11_isNow := ⟨tw_1850, tw_78⟩
theorem cal_X11_isSize : en_Cal Y_X11_isSize 1 := ⟨rfl, tw_111, tw_1803, ⟨by decide, by decide, by decide +kernel⟩, Nat.le_of_ble_eq_true rfl⟩
theorem calV_X11_isSize : en_CalV Y_X11_isSize := ⟨tw_1802, tw_71⟩
theorem cal_X11_isSmall : en_Cal Y_X11_isSmall 1 := ⟨rfl, tw_111, tw_1653, ⟨by decide, by decide, by decide +kernel⟩, Nat.le_of_ble_eq_true rfl⟩
theorem calS_X11_isSmall : Cond.static Y_X11_isSmall.1 ∈ en_T := tw_1652
theorem cal_X11_isWave : en_Cal Y_X11_isWave 3 := ⟨rfl, tw_111, tw_1822, ⟨by decide, by decide, by decide +kernel⟩, Nat.le_of_ble_eq_true rfl⟩
theorem calS_X11_isWave : Cond.static Y_X11_isWave.1 ∈ en_T := tw_1821
theorem cal_X11_isYear : en_Cal Y_X11_isYear 2 := ⟨rfl, tw_111, tw_1882, ⟨by decide, by decide, by decide +kernel⟩, Nat.le_of_ble_eq_true rfl⟩
theorem calV_X11_isYear : en_CalV Y_X11_isYear := ⟨tw_1881, tw_84⟩
theorem cal_X11_keeps : en_Cal Y_X11_keeps 0 := ⟨rfl, tw_111, tw_1984, ⟨by decide, by decide, by decide +kernel⟩, Nat.le_of_ble_eq_true rfl⟩
theorem calV_X11_keeps : en_CalV Y_X11_keeps := ⟨tw_1983, tw_93⟩
theorem cal_X11_keyword : en_Cal Y_X11_keyword 1 := ⟨rfl, tw_111, tw_1758, ⟨by decide, by decide, by decide +kernel⟩, Nat.le_of_ble_eq_true rfl⟩
theorem calV_X11_keyword : en_CalV Y_X11_keyword := ⟨tw_1757, tw_67⟩
theorem cal_X11_last : en_Cal Y_X11_last 4 := ⟨rfl, tw_111, tw_2024, ⟨by decide, by decide, by decide +kernel⟩, Nat.le_of_ble_eq_true rfl⟩
theorem calV_X11_last : en_CalV Y_X11_last := ⟨tw_2022, tw_2023⟩
theorem cal_X11_law : en_Cal Y_X11_law 1 := ⟨rfl, tw_111, tw_1722, ⟨by decide, by decide, by decide +kernel⟩, Nat.le_of_ble_eq_true rfl⟩
theorem calV_X11_law : en_CalV Y_X11_law := ⟨tw_1720, tw_1721⟩
theorem cal_X11_left : en_Cal Y_X11_left 4 := ⟨rfl, tw_111, tw_1980, ⟨by decide, by decide, by decide +kernel⟩, Nat.le_of_ble_eq_true rfl⟩
theorem calV_X11_left : en_CalV Y_X11_left := ⟨tw_1978, tw_1979⟩
theorem cal_X11_like : en_Cal Y_X11_like 2 := ⟨rfl, tw_111, tw_2028, ⟨by decide, by decide, by decide +kernel⟩, Nat.le_of_ble_eq_true rfl⟩
theorem calV_X11_like : en_CalV Y_X11_like := ⟨tw_2026, tw_2027⟩
theorem cal_X11_look : en_Cal Y_X11_look 3 := ⟨rfl, tw_111, tw_1976, ⟨by decide, by decide, by decide +kernel⟩, Nat.le_of_ble_eq_true rfl⟩
theorem calV_X11_look : en_CalV Y_X11_look := ⟨tw_1974, tw_1975⟩
theorem cal_X11_lost : en_Cal Y_X11_lost 0 := ⟨rfl, tw_111, tw_1972, ⟨by decide, by decide, by decide +kernel⟩, Nat.le_of_ble_eq_true rfl⟩
theorem calV_X11_lost : en_CalV Y_X11_lost := ⟨tw_1970, tw_1971⟩
theorem cal_X11_lots : en_Cal Y_X11_lots 4 := ⟨rfl, tw_111, tw_1890, ⟨by decide, by decide, by decide +kernel⟩, Nat.le_of_ble_eq_true rfl⟩
theorem calV_X11_lots : en_CalV Y_X11_lots := ⟨tw_1888, tw_1889⟩
theorem cal_X11_may : en_Cal Y_X11_may 3 := ⟨rfl, tw_111, tw_1630, ⟨by decide, by decide, by decide +kernel⟩, Nat.le_of_ble_eq_true rfl⟩
theorem calV_X11_may : en_CalV Y_X11_may := ⟨tw_1629, tw_44⟩
theorem cal_X11_mean : en_Cal Y_X11_mean 1 := ⟨rfl, tw_111, tw_1895, ⟨by decide, by decide, by decide +kernel⟩, Nat.le_of_ble_eq_true rfl⟩
theorem calV_X11_mean : en_CalV Y_X11_mean := ⟨tw_1893, tw_1894⟩
theorem cal_X11_meanOf : en_Cal Y_X11_meanOf 1 := ⟨rfl, tw_111, tw_1899, ⟨by decide, by decide, by decide +kernel⟩, Nat.le_of_ble_eq_true rfl⟩
theorem calV_X11_meanOf : en_CalV Y_X11_meanOf := ⟨tw_1898, tw_86⟩
theorem cal_X11_miles : en_Cal Y_X11_miles 1 := ⟨rfl, tw_111, tw_1968, ⟨by decide, by decide, by decide +kernel⟩, Nat.le_of_ble_eq_true rfl⟩
theorem calV_X11_miles : en_CalV Y_X11_miles := ⟨tw_1966, tw_1967⟩
theorem cal_X11_moves : en_Cal Y_X11_moves 4 := ⟨rfl, tw_111, tw_1859, ⟨by decide, by decide, by decide +kernel⟩, Nat.le_of_ble_eq_true rfl⟩
theorem calV_X11_moves : en_CalV Y_X11_moves := ⟨tw_1858, tw_80⟩
theorem cal_X11_name : en_Cal Y_X11_name 4 := ⟨rfl, tw_111, tw_1826, ⟨by decide, by decide, by decide +kernel⟩, Nat.le_of_ble_eq_true rfl⟩
theorem calV_X11_name : en_CalV Y_X11_name := ⟨tw_1825, tw_73⟩
theorem cal_X11_nameOf : en_Cal Y_X11_nameOf 1 := ⟨rfl, tw_111, tw_1770, ⟨by decide, by decide, by decide +kernel⟩, Nat.le_of_ble_eq_true rfl⟩
theorem calS_X11_nameOf : Cond.static Y_X11_nameOf.1 ∈ en_T := tw_1769
theorem cal_X11_nameSize : en_Cal Y_X11_nameSize 3 := ⟨rfl, tw_111, tw_1830, ⟨by decide, by decide, by decide +kernel⟩, Nat.le_of_ble_eq_true rfl⟩
theorem calV_X11_nameSize : en_CalV Y_X11_nameSize := ⟨tw_1829, tw_74⟩
theorem cal_X11_odds : en_Cal Y_X11_odds 1 := ⟨rfl, tw_111, tw_1948, ⟨by decide, by decide, by decide +kernel⟩, Nat.le_of_ble_eq_true rfl⟩
theorem calV_X11_odds : en_CalV Y_X11_odds := ⟨tw_1946, tw_1947⟩
theorem cal_X11_of : en_Cal Y_X11_of 1 := ⟨rfl, tw_111, tw_1660, ⟨by decide, by decide, by decide +kernel⟩, Nat.le_of_ble_eq_true rfl⟩
theorem calS_X11_of : Cond.static Y_X11_of.1 ∈ en_T := tw_1659
theorem cal_X11_one : en_Cal Y_X11_one 1 := ⟨rfl, tw_111, tw_2044, ⟨by decide, by decide, by decide +kernel⟩, Nat.le_of_ble_eq_true rfl⟩
theorem calV_X11_one : en_CalV Y_X11_one := ⟨tw_2042, tw_2043⟩
theorem cal_X11_oneOf : en_Cal Y_X11_oneOf 0 := ⟨rfl, tw_111, tw_1746, ⟨by decide, by decide, by decide +kernel⟩, Nat.le_of_ble_eq_true rfl⟩
theorem calV_X11_oneOf : en_CalV Y_X11_oneOf := ⟨tw_1745, tw_65⟩
theorem cal_X11_ones : en_Cal Y_X11_ones 1 := ⟨rfl, tw_111, tw_2016, ⟨by decide, by decide, by decide +kernel⟩, Nat.le_of_ble_eq_true rfl⟩
theorem calS_X11_ones : Cond.static Y_X11_ones.1 ∈ en_T := tw_2015
theorem cal_X11_opensOne : en_Cal Y_X11_opensOne 1 := ⟨rfl, tw_111, tw_1734, ⟨by decide, by decide, by decide +kernel⟩, Nat.le_of_ble_eq_true rfl⟩
theorem calV_X11_opensOne : en_CalV Y_X11_opensOne := ⟨tw_1733, tw_62⟩
theorem cal_X11_order : en_Cal Y_X11_order 1 := ⟨rfl, tw_111, tw_1904, ⟨by decide, by decide, by decide +kernel⟩, Nat.le_of_ble_eq_true rfl⟩
theorem calV_X11_order : en_CalV Y_X11_order := ⟨tw_1902, tw_1903⟩
theorem cal_X11_overs : en_Cal Y_X11_overs 4 := ⟨rfl, tw_111, tw_1870, ⟨by decide, by decide, by decide +kernel⟩, Nat.le_of_ble_eq_true rfl⟩
theorem calV_X11_overs : en_CalV Y_X11_overs := ⟨tw_1869, tw_82⟩
theorem cal_X11_oversNow : en_Cal Y_X11_oversNow 0 := ⟨rfl, tw_111, tw_2013, ⟨by decide, by decide, by decide +kernel⟩, Nat.le_of_ble_eq_true rfl⟩
theorem calV_X11_oversNow : en_CalV Y_X11_oversNow := ⟨tw_2012, tw_96⟩
theorem cal_X11_pairs : en_Cal Y_X11_pairs 1 := ⟨rfl, tw_111, tw_1908, ⟨by decide, by decide, by decide +kernel⟩, Nat.le_of_ble_eq_true rfl⟩
theorem calV_X11_pairs : en_CalV Y_X11_pairs := ⟨tw_1907, tw_87⟩
theorem cal_X11_pass : en_Cal Y_X11_pass 0 := ⟨rfl, tw_111, tw_1676, ⟨by decide, by decide, by decide +kernel⟩, Nat.le_of_ble_eq_true rfl⟩
theorem calV_X11_pass : en_CalV Y_X11_pass := ⟨tw_1675, tw_51⟩
theorem cal_X11_product : en_Cal Y_X11_product 0 := ⟨rfl, tw_111, tw_1763, ⟨by decide, by decide, by decide +kernel⟩, Nat.le_of_ble_eq_true rfl⟩
theorem calV_X11_product : en_CalV Y_X11_product := ⟨tw_1762, tw_68⟩
theorem cal_X11_put : en_Cal Y_X11_put 4 := ⟨rfl, tw_111, tw_1811, ⟨by decide, by decide, by decide +kernel⟩, Nat.le_of_ble_eq_true rfl⟩
theorem calV_X11_put : en_CalV Y_X11_put := ⟨tw_1809, tw_1810⟩
theorem cal_X11_raised : en_Cal Y_X11_raised 5 := ⟨rfl, tw_111, tw_2009, ⟨by decide, by decide, by decide +kernel⟩, Nat.le_of_ble_eq_true rfl⟩
theorem calV_X11_raised : en_CalV Y_X11_raised := ⟨tw_2007, tw_2008⟩
theorem cal_X11_readCell : en_Cal Y_X11_readCell 0 := ⟨rfl, tw_111, tw_1695, ⟨by decide, by decide, by decide +kernel⟩, Nat.le_of_ble_eq_true rfl⟩
theorem calV_X11_readCell : en_CalV Y_X11_readCell := ⟨tw_1694, tw_55⟩
theorem cal_X11_readClause : en_Cal Y_X11_readClause 1 := ⟨rfl, tw_111, tw_1680, ⟨by decide, by decide, by decide +kernel⟩, Nat.le_of_ble_eq_true rfl⟩
theorem calV_X11_readClause : en_CalV Y_X11_readClause := ⟨tw_1679, tw_52⟩
theorem cal_X11_readHeap : en_Cal Y_X11_readHeap 0 := ⟨rfl, tw_111, tw_1691, ⟨by decide, by decide, by decide +kernel⟩, Nat.le_of_ble_eq_true rfl⟩
theorem calV_X11_readHeap : en_CalV Y_X11_readHeap := ⟨tw_1690, tw_54⟩
theorem cal_X11_readLorry : en_Cal Y_X11_readLorry 0 := ⟨rfl, tw_111, tw_1710, ⟨by decide, by decide, by decide +kernel⟩, Nat.le_of_ble_eq_true rfl⟩
theorem calV_X11_readLorry : en_CalV Y_X11_readLorry := ⟨tw_1709, tw_58⟩
theorem cal_X11_readNumber : en_Cal Y_X11_readNumber 2 := ⟨rfl, tw_111, tw_1684, ⟨by decide, by decide, by decide +kernel⟩, Nat.le_of_ble_eq_true rfl⟩
theorem calV_X11_readNumber : en_CalV Y_X11_readNumber := ⟨tw_1683, tw_53⟩
theorem cal_X11_readSize : en_Cal Y_X11_readSize 0 := ⟨rfl, tw_111, tw_1699, ⟨by decide, by decide, by decide +kernel⟩, Nat.le_of_ble_eq_true rfl⟩
theorem calV_X11_readSize : en_CalV Y_X11_readSize := ⟨tw_1698, tw_56⟩
theorem cal_X11_readSpring : en_Cal Y_X11_readSpring 0 := ⟨rfl, tw_111, tw_1706, ⟨by decide, by decide, by decide +kernel⟩, Nat.le_of_ble_eq_true rfl⟩
theorem calV_X11_readSpring : en_CalV Y_X11_readSpring := ⟨tw_1705, tw_57⟩
theorem cal_X11_restore : en_Cal Y_X11_restore 0 := ⟨rfl, tw_111, tw_2064, ⟨by decide, by decide, by decide +kernel⟩, Nat.le_of_ble_eq_true rfl⟩
theorem calV_X11_restore : en_CalV Y_X11_restore := ⟨tw_2062, tw_2063⟩
theorem cal_X11_result : en_Cal Y_X11_result 1 := ⟨rfl, tw_111, tw_1718, ⟨by decide, by decide, by decide +kernel⟩, Nat.le_of_ble_eq_true rfl⟩
theorem calV_X11_result : en_CalV Y_X11_result := ⟨tw_1717, tw_60⟩
theorem cal_X11_run : en_Cal Y_X11_run 2 := ⟨rfl, tw_111, tw_1878, ⟨by decide, by decide, by decide +kernel⟩, Nat.le_of_ble_eq_true rfl⟩
theorem calV_X11_run : en_CalV Y_X11_run := ⟨tw_1876, tw_1877⟩
theorem cal_X11_runs : en_Cal Y_X11_runs 2 := ⟨rfl, tw_111, tw_1886, ⟨by decide, by decide, by decide +kernel⟩, Nat.le_of_ble_eq_true rfl⟩
theorem calV_X11_runs : en_CalV Y_X11_runs := ⟨tw_1885, tw_85⟩
theorem cal_X11_sample : en_Cal Y_X11_sample 3 := ⟨rfl, tw_111, tw_1992, ⟨by decide, by decide, by decide +kernel⟩, Nat.le_of_ble_eq_true rfl⟩
theorem calV_X11_sample : en_CalV Y_X11_sample := ⟨tw_1990, tw_1991⟩
theorem cal_X11_says : en_Cal Y_X11_says 8 := ⟨rfl, tw_111, tw_1815, ⟨by decide, by decide, by decide +kernel⟩, Nat.le_of_ble_eq_true rfl⟩
theorem calV_X11_says : en_CalV Y_X11_says := ⟨tw_1813, tw_1814⟩
theorem cal_X11_seen : en_Cal Y_X11_seen 2 := ⟨rfl, tw_111, tw_2052, ⟨by decide, by decide, by decide +kernel⟩, Nat.le_of_ble_eq_true rfl⟩
theorem calV_X11_seen : en_CalV Y_X11_seen := ⟨tw_2050, tw_2051⟩
theorem cal_X11_shareOf : en_Cal Y_X11_shareOf 3 := ⟨rfl, tw_111, tw_2032, ⟨by decide, by decide, by decide +kernel⟩, Nat.le_of_ble_eq_true rfl⟩
theorem calV_X11_shareOf : en_CalV Y_X11_shareOf := ⟨tw_2031, tw_97⟩
theorem cal_X11_sign : en_Cal Y_X11_sign 1 := ⟨rfl, tw_111, tw_1714, ⟨by decide, by decide, by decide +kernel⟩, Nat.le_of_ble_eq_true rfl⟩
theorem calV_X11_sign : en_CalV Y_X11_sign := ⟨tw_1713, tw_59⟩
theorem cal_X11_sound : en_Cal Y_X11_sound 1 := ⟨rfl, tw_111, tw_1928, ⟨by decide, by decide, by decide +kernel⟩, Nat.le_of_ble_eq_true rfl⟩
theorem calV_X11_sound : en_CalV Y_X11_sound := ⟨tw_1926, tw_1927⟩
theorem cal_X11_soundOf : en_Cal Y_X11_soundOf 1 := ⟨rfl, tw_111, tw_1920, ⟨by decide, by decide, by decide +kernel⟩, Nat.le_of_ble_eq_true rfl⟩
theorem calV_X11_soundOf : en_CalV Y_X11_soundOf := ⟨tw_1919, tw_90⟩
theorem cal_X11_status : en_Cal Y_X11_status 1 := ⟨rfl, tw_111, tw_2068, ⟨by decide, by decide, by decide +kernel⟩, Nat.le_of_ble_eq_true rfl⟩
theorem calV_X11_status : en_CalV Y_X11_status := ⟨tw_2066, tw_2067⟩
theorem cal_X11_stone : en_Cal Y_X11_stone 3 := ⟨rfl, tw_111, tw_1702, ⟨by decide, by decide, by decide +kernel⟩, Nat.le_of_ble_eq_true rfl⟩
theorem calS_X11_stone : Cond.static Y_X11_stone.1 ∈ en_T := tw_1701
theorem cal_X11_stones : en_Cal Y_X11_stones 3 := ⟨rfl, tw_111, tw_1795, ⟨by decide, by decide, by decide +kernel⟩, Nat.le_of_ble_eq_true rfl⟩
theorem calV_X11_stones : en_CalV Y_X11_stones := ⟨tw_1793, tw_1794⟩
theorem cal_X11_sums : en_Cal Y_X11_sums 1 := ⟨rfl, tw_111, tw_2056, ⟨by decide, by decide, by decide +kernel⟩, Nat.le_of_ble_eq_true rfl⟩
theorem calV_X11_sums : en_CalV Y_X11_sums := ⟨tw_2054, tw_2055⟩
theorem cal_X11_take : en_Cal Y_X11_take 2 := ⟨rfl, tw_111, tw_1932, ⟨by decide, by decide, by decide +kernel⟩, Nat.le_of_ble_eq_true rfl⟩
theorem calV_X11_take : en_CalV Y_X11_take := ⟨tw_1930, tw_1931⟩
theorem cal_X11_thrown : en_Cal Y_X11_thrown 0 := ⟨rfl, tw_111, tw_1505, ⟨by decide, by decide, by decide +kernel⟩, Nat.le_of_ble_eq_true rfl⟩
theorem calV_X11_thrown : en_CalV Y_X11_thrown := ⟨tw_1503, tw_1504⟩
theorem cal_X11_told : en_Cal Y_X11_told 1 := ⟨rfl, tw_111, tw_1788, ⟨by decide, by decide, by decide +kernel⟩, Nat.le_of_ble_eq_true rfl⟩
theorem calV_X11_told : en_CalV Y_X11_told := ⟨tw_1786, tw_1787⟩
theorem cal_X11_unit : en_Cal Y_X11_unit 0 := ⟨rfl, tw_111, tw_1767, ⟨by decide, by decide, by decide +kernel⟩, Nat.le_of_ble_eq_true rfl⟩
theorem calV_X11_unit : en_CalV Y_X11_unit := ⟨tw_1766, tw_69⟩
theorem cal_X11_walls : en_Cal Y_X11_walls 6 := ⟨rfl, tw_111, tw_2036, ⟨by decide, by decide, by decide +kernel⟩, Nat.le_of_ble_eq_true rfl⟩
theorem calV_X11_walls : en_CalV Y_X11_walls := ⟨tw_2034, tw_2035⟩
theorem cal_X11_wave : en_Cal Y_X11_wave 4 := ⟨rfl, tw_111, tw_1847, ⟨by decide, by decide, by decide +kernel⟩, Nat.le_of_ble_eq_true rfl⟩
theorem calV_X11_wave : en_CalV Y_X11_wave := ⟨tw_1845, tw_1846⟩
theorem cal_X11_where : en_Cal Y_X11_where 1 := ⟨rfl, tw_111, tw_1960, ⟨by decide, by decide, by decide +kernel⟩, Nat.le_of_ble_eq_true rfl⟩
theorem calV_X11_where : en_CalV Y_X11_where := ⟨tw_1958, tw_1959⟩
theorem cal_X11_which : en_Cal Y_X11_which 2 := ⟨rfl, tw_111, tw_1997, ⟨by decide, by decide, by decide +kernel⟩, Nat.le_of_ble_eq_true rfl⟩
theorem calV_X11_which : en_CalV Y_X11_which := ⟨tw_1995, tw_1996⟩
theorem cal_X11_whole : en_Cal Y_X11_whole 0 := ⟨rfl, tw_111, tw_1729, ⟨by decide, by decide, by decide +kernel⟩, Nat.le_of_ble_eq_true rfl⟩
theorem calV_X11_whole : en_CalV Y_X11_whole := ⟨tw_1728, tw_61⟩
theorem cal_X11_wholeOf : en_Cal Y_X11_wholeOf 1 := ⟨rfl, tw_111, tw_1838, ⟨by decide, by decide, by decide +kernel⟩, Nat.le_of_ble_eq_true rfl⟩
theorem calV_X11_wholeOf : en_CalV Y_X11_wholeOf := ⟨tw_1837, tw_76⟩
theorem cal_X11_within : en_Cal Y_X11_within 3 := ⟨rfl, tw_111, tw_1791, ⟨by decide, by decide, by decide +kernel⟩, Nat.le_of_ble_eq_true rfl⟩
theorem calS_X11_within : Cond.static Y_X11_within.1 ∈ en_T := tw_1790
theorem cal_X11_word : en_Cal Y_X11_word 0 := ⟨rfl, tw_111, tw_1650, ⟨by decide, by decide, by decide +kernel⟩, Nat.le_of_ble_eq_true rfl⟩
theorem calV_X11_word : en_CalV Y_X11_word := ⟨tw_1649, tw_49⟩
theorem cal_X11_wordOf : en_Cal Y_X11_wordOf 1 := ⟨rfl, tw_111, tw_1944, ⟨by decide, by decide, by decide +kernel⟩, Nat.le_of_ble_eq_true rfl⟩
theorem calV_X11_wordOf : en_CalV Y_X11_wordOf := ⟨tw_1943, tw_91⟩
theorem cal_X11_word_ : en_Cal Y_X11_word_ 1 := ⟨rfl, tw_111, tw_1940, ⟨by decide, by decide, by decide +kernel⟩, Nat.le_of_ble_eq_true rfl⟩
theorem calV_X11_word_ : en_CalV Y_X11_word_ := ⟨tw_1938, tw_1939⟩
theorem cal_X11_worked : en_Cal Y_X11_worked 1 := ⟨rfl, tw_111, tw_1843, ⟨by decide, by decide, by decide +kernel⟩, Nat.le_of_ble_eq_true rfl⟩
theorem calV_X11_worked : en_CalV Y_X11_worked := ⟨tw_1842, tw_77⟩
theorem cal_X11_wrong : en_Cal Y_X11_wrong 2 := ⟨rfl, tw_111, tw_1672, ⟨by decide, by decide, by decide +kernel⟩, Nat.le_of_ble_eq_true rfl⟩
theorem calV_X11_wrong : en_CalV Y_X11_wrong := ⟨tw_1671, tw_50⟩
theorem cal_X11_year : en_Cal Y_X11_year 1 := ⟨rfl, tw_111, tw_1782, ⟨by decide, by decide, by decide +kernel⟩, Nat.le_of_ble_eq_true rfl⟩
theorem calV_X11_year : en_CalV Y_X11_year := ⟨tw_1780, tw_1781⟩
theorem cal_X1_aim : en_Cal Y_X1_aim 1 := ⟨rfl, tw_106, tw_913, ⟨by decide, by decide, by decide +kernel⟩, Nat.le_of_ble_eq_true rfl⟩
theorem calV_X1_aim : en_CalV Y_X1_aim := ⟨tw_911, tw_912⟩
theorem cal_X1_clear : en_Cal Y_X1_clear 0 := ⟨rfl, tw_106, tw_842, ⟨by decide, by decide, by decide +kernel⟩, Nat.le_of_ble_eq_true rfl⟩
theorem calV_X1_clear : en_CalV Y_X1_clear := ⟨tw_840, tw_841⟩
theorem cal_X1_emit : en_Cal Y_X1_emit 1 := ⟨rfl, tw_106, tw_890, ⟨by decide, by decide, by decide +kernel⟩, Nat.le_of_ble_eq_true rfl⟩
theorem calV_X1_emit : en_CalV Y_X1_emit := ⟨tw_888, tw_889⟩
theorem cal_X1_emitJump : en_Cal Y_X1_emitJump 1 := ⟨rfl, tw_106, tw_907, ⟨by decide, by decide, by decide +kernel⟩, Nat.le_of_ble_eq_true rfl⟩
theorem calV_X1_emitJump : en_CalV Y_X1_emitJump := ⟨tw_905, tw_906⟩
theorem cal_X1_joined : en_Cal Y_X1_joined 3 := ⟨rfl, tw_106, tw_1077, ⟨by decide, by decide, by decide +kernel⟩, Nat.le_of_ble_eq_true rfl⟩
theorem calS_X1_joined : Cond.static Y_X1_joined.1 ∈ en_T := tw_1076
theorem cal_X1_value : en_Cal Y_X1_value 3 := ⟨rfl, tw_106, tw_1074, ⟨by decide, by decide, by decide +kernel⟩, Nat.le_of_ble_eq_true rfl⟩
theorem calV_X1_value : en_CalV Y_X1_value := ⟨tw_1072, tw_1073⟩
theorem cal_X2_comparisonTold : en_Cal Y_X2_comparisonTold 0 := ⟨rfl, tw_105, tw_895, ⟨by decide, by decide, by decide +kernel⟩, Nat.le_of_ble_eq_true rfl⟩
theorem calV_X2_comparisonTold : en_CalV Y_X2_comparisonTold := ⟨tw_894, tw_18⟩
theorem cal_X2_enters : en_Cal Y_X2_enters 0 := ⟨rfl, tw_105, tw_873, ⟨by decide, by decide, by decide +kernel⟩, Nat.le_of_ble_eq_true rfl⟩
theorem calV_X2_enters : en_CalV Y_X2_enters := ⟨tw_872, tw_14⟩
theorem cal_X2_nameTold : en_Cal Y_X2_nameTold 0 := ⟨rfl, tw_105, tw_925, ⟨by decide, by decide, by decide +kernel⟩, Nat.le_of_ble_eq_true rfl⟩
theorem calV_X2_nameTold : en_CalV Y_X2_nameTold := ⟨tw_924, tw_21⟩
theorem cal_X2_readBoth : en_Cal Y_X2_readBoth 0 := ⟨rfl, tw_105, tw_881, ⟨by decide, by decide, by decide +kernel⟩, Nat.le_of_ble_eq_true rfl⟩
theorem calV_X2_readBoth : en_CalV Y_X2_readBoth := ⟨tw_880, tw_16⟩
theorem cal_X2_readChoice : en_Cal Y_X2_readChoice 0 := ⟨rfl, tw_105, tw_869, ⟨by decide, by decide, by decide +kernel⟩, Nat.le_of_ble_eq_true rfl⟩
theorem calV_X2_readChoice : en_CalV Y_X2_readChoice := ⟨tw_868, tw_13⟩
theorem cal_X2_readCondition : en_Cal Y_X2_readCondition 0 := ⟨rfl, tw_105, tw_877, ⟨by decide, by decide, by decide +kernel⟩, Nat.le_of_ble_eq_true rfl⟩
theorem calV_X2_readCondition : en_CalV Y_X2_readCondition := ⟨tw_876, tw_15⟩
theorem cal_X2_readFactor : en_Cal Y_X2_readFactor 0 := ⟨rfl, tw_105, tw_921, ⟨by decide, by decide, by decide +kernel⟩, Nat.le_of_ble_eq_true rfl⟩
theorem calV_X2_readFactor : en_CalV Y_X2_readFactor := ⟨tw_920, tw_20⟩
theorem cal_X2_readLaw : en_Cal Y_X2_readLaw 3 := ⟨rfl, tw_105, tw_838, ⟨by decide, by decide, by decide +kernel⟩, Nat.le_of_ble_eq_true rfl⟩
theorem calV_X2_readLaw : en_CalV Y_X2_readLaw := ⟨tw_836, tw_837⟩
theorem cal_X2_readRule : en_Cal Y_X2_readRule 0 := ⟨rfl, tw_105, tw_849, ⟨by decide, by decide, by decide +kernel⟩, Nat.le_of_ble_eq_true rfl⟩
theorem calV_X2_readRule : en_CalV Y_X2_readRule := ⟨tw_848, tw_10⟩
theorem cal_X2_readTerm : en_Cal Y_X2_readTerm 0 := ⟨rfl, tw_105, tw_917, ⟨by decide, by decide, by decide +kernel⟩, Nat.le_of_ble_eq_true rfl⟩
theorem calV_X2_readTerm : en_CalV Y_X2_readTerm := ⟨tw_916, tw_19⟩
theorem cal_X2_readTest : en_Cal Y_X2_readTest 0 := ⟨rfl, tw_105, tw_885, ⟨by decide, by decide, by decide +kernel⟩, Nat.le_of_ble_eq_true rfl⟩
theorem calV_X2_readTest : en_CalV Y_X2_readTest := ⟨tw_884, tw_17⟩
theorem cal_X2_readValue : en_Cal Y_X2_readValue 0 := ⟨rfl, tw_105, tw_864, ⟨by decide, by decide, by decide +kernel⟩, Nat.le_of_ble_eq_true rfl⟩
theorem calV_X2_readValue : en_CalV Y_X2_readValue := ⟨tw_863, tw_12⟩
theorem cal_X2_ruleTold : en_Cal Y_X2_ruleTold 0 := ⟨rfl, tw_105, tw_853, ⟨by decide, by decide, by decide +kernel⟩, Nat.le_of_ble_eq_true rfl⟩
theorem calV_X2_ruleTold : en_CalV Y_X2_ruleTold := ⟨tw_852, tw_11⟩
theorem cal_X3_addLorry : en_Cal Y_X3_addLorry 4 := ⟨rfl, tw_101, tw_806, ⟨by decide, by decide, by decide +kernel⟩, Nat.le_of_ble_eq_true rfl⟩
theorem calV_X3_addLorry : en_CalV Y_X3_addLorry := ⟨tw_804, tw_805⟩
theorem cal_X3_addSpring : en_Cal Y_X3_addSpring 2 := ⟨rfl, tw_101, tw_793, ⟨by decide, by decide, by decide +kernel⟩, Nat.le_of_ble_eq_true rfl⟩
theorem calV_X3_addSpring : en_CalV Y_X3_addSpring := ⟨tw_791, tw_792⟩
theorem cal_X3_clear : en_Cal Y_X3_clear 0 := ⟨rfl, tw_101, tw_671, ⟨by decide, by decide, by decide +kernel⟩, Nat.le_of_ble_eq_true rfl⟩
theorem calV_X3_clear : en_CalV Y_X3_clear := ⟨tw_669, tw_670⟩
theorem cal_X4_aimFrom : en_Cal Y_X4_aimFrom 2 := ⟨rfl, tw_107, tw_1123, ⟨by decide, by decide, by decide +kernel⟩, Nat.le_of_ble_eq_true rfl⟩
theorem calV_X4_aimFrom : en_CalV Y_X4_aimFrom := ⟨tw_1122, tw_31⟩
theorem cal_X4_arrive : en_Cal Y_X4_arrive 2 := ⟨rfl, tw_107, tw_1135, ⟨by decide, by decide, by decide +kernel⟩, Nat.le_of_ble_eq_true rfl⟩
theorem calV_X4_arrive : en_CalV Y_X4_arrive := ⟨tw_1134, tw_33⟩
theorem cal_X4_ask : en_Cal Y_X4_ask 6 := ⟨rfl, tw_107, tw_1081, ⟨by decide, by decide, by decide +kernel⟩, Nat.le_of_ble_eq_true rfl⟩
theorem calV_X4_ask : en_CalV Y_X4_ask := ⟨tw_1079, tw_1080⟩
theorem cal_X4_carryCell : en_Cal Y_X4_carryCell 3 := ⟨rfl, tw_107, tw_1119, ⟨by decide, by decide, by decide +kernel⟩, Nat.le_of_ble_eq_true rfl⟩
theorem calV_X4_carryCell : en_CalV Y_X4_carryCell := ⟨tw_1118, tw_30⟩
theorem cal_X4_carryHeap : en_Cal Y_X4_carryHeap 3 := ⟨rfl, tw_107, tw_1128, ⟨by decide, by decide, by decide +kernel⟩, Nat.le_of_ble_eq_true rfl⟩
theorem calV_X4_carryHeap : en_CalV Y_X4_carryHeap := ⟨tw_1127, tw_32⟩
theorem cal_X4_drive : en_Cal Y_X4_drive 1 := ⟨rfl, tw_107, tw_1151, ⟨by decide, by decide, by decide +kernel⟩, Nat.le_of_ble_eq_true rfl⟩
theorem calV_X4_drive : en_CalV Y_X4_drive := ⟨tw_1150, tw_35⟩
theorem cal_X4_flow : en_Cal Y_X4_flow 1 := ⟨rfl, tw_107, tw_1146, ⟨by decide, by decide, by decide +kernel⟩, Nat.le_of_ble_eq_true rfl⟩
theorem calV_X4_flow : en_CalV Y_X4_flow := ⟨tw_1145, tw_34⟩
theorem cal_X4_follow : en_Cal Y_X4_follow 1 := ⟨rfl, tw_107, tw_818, ⟨by decide, by decide, by decide +kernel⟩, Nat.le_of_ble_eq_true rfl⟩
theorem calV_X4_follow : en_CalV Y_X4_follow := ⟨tw_816, tw_817⟩
theorem cal_X4_goOver : en_Cal Y_X4_goOver 2 := ⟨rfl, tw_107, tw_1139, ⟨by decide, by decide, by decide +kernel⟩, Nat.le_of_ble_eq_true rfl⟩
theorem calS_X4_goOver : Cond.static Y_X4_goOver.1 ∈ en_T := tw_1138
theorem cal_X4_held : en_Cal Y_X4_held 1 := ⟨rfl, tw_107, tw_1131, ⟨by decide, by decide, by decide +kernel⟩, Nat.le_of_ble_eq_true rfl⟩
theorem calS_X4_held : Cond.static Y_X4_held.1 ∈ en_T := tw_1130
theorem cal_X4_lowered : en_Cal Y_X4_lowered 1 := ⟨rfl, tw_107, tw_1142, ⟨by decide, by decide, by decide +kernel⟩, Nat.le_of_ble_eq_true rfl⟩
theorem calS_X4_lowered : Cond.static Y_X4_lowered.1 ∈ en_T := tw_1141
theorem cal_X4_oversIn : en_Cal Y_X4_oversIn 5 := ⟨rfl, tw_107, tw_1409, ⟨by decide, by decide, by decide +kernel⟩, Nat.le_of_ble_eq_true rfl⟩
theorem calV_X4_oversIn : en_CalV Y_X4_oversIn := ⟨tw_1407, tw_1408⟩
theorem cal_X4_reach : en_Cal Y_X4_reach 3 := ⟨rfl, tw_107, tw_1062, ⟨by decide, by decide, by decide +kernel⟩, Nat.le_of_ble_eq_true rfl⟩
theorem calV_X4_reach : en_CalV Y_X4_reach := ⟨tw_1060, tw_1061⟩
theorem cal_X4_roll : en_Cal Y_X4_roll 2 := ⟨rfl, tw_107, tw_1115, ⟨by decide, by decide, by decide +kernel⟩, Nat.le_of_ble_eq_true rfl⟩
theorem calV_X4_roll : en_CalV Y_X4_roll := ⟨tw_1113, tw_1114⟩
theorem cal_X4_rollLots : en_Cal Y_X4_rollLots 5 := ⟨rfl, tw_107, tw_1189, ⟨by decide, by decide, by decide +kernel⟩, Nat.le_of_ble_eq_true rfl⟩
theorem calV_X4_rollLots : en_CalV Y_X4_rollLots := ⟨tw_1187, tw_1188⟩
theorem cal_X4_rollYear : en_Cal Y_X4_rollYear 3 := ⟨rfl, tw_107, tw_1172, ⟨by decide, by decide, by decide +kernel⟩, Nat.le_of_ble_eq_true rfl⟩
theorem calV_X4_rollYear : en_CalV Y_X4_rollYear := ⟨tw_1170, tw_1171⟩
theorem cal_X4_setPlace : en_Cal Y_X4_setPlace 2 := ⟨rfl, tw_107, tw_1066, ⟨by decide, by decide, by decide +kernel⟩, Nat.le_of_ble_eq_true rfl⟩
theorem calV_X4_setPlace : en_CalV Y_X4_setPlace := ⟨tw_1065, tw_27⟩
theorem cal_X4_setSize : en_Cal Y_X4_setSize 4 := ⟨rfl, tw_107, tw_1070, ⟨by decide, by decide, by decide +kernel⟩, Nat.le_of_ble_eq_true rfl⟩
theorem calV_X4_setSize : en_CalV Y_X4_setSize := ⟨tw_1069, tw_28⟩
theorem cal_X4_setWave : en_Cal Y_X4_setWave 3 := ⟨rfl, tw_107, tw_1058, ⟨by decide, by decide, by decide +kernel⟩, Nat.le_of_ble_eq_true rfl⟩
theorem calV_X4_setWave : en_CalV Y_X4_setWave := ⟨tw_1056, tw_1057⟩
theorem cal_X4_setWaveOf : en_Cal Y_X4_setWaveOf 2 := ⟨rfl, tw_107, tw_1176, ⟨by decide, by decide, by decide +kernel⟩, Nat.le_of_ble_eq_true rfl⟩
theorem calV_X4_setWaveOf : en_CalV Y_X4_setWaveOf := ⟨tw_1175, tw_37⟩
theorem cal_X5_begin : en_Cal Y_X5_begin 1 := ⟨rfl, tw_109, tw_1273, ⟨by decide, by decide, by decide +kernel⟩, Nat.le_of_ble_eq_true rfl⟩
theorem calV_X5_begin : en_CalV Y_X5_begin := ⟨tw_1272, tw_38⟩
theorem cal_X5_farFrom : en_Cal Y_X5_farFrom 1 := ⟨rfl, tw_109, tw_1302, ⟨by decide, by decide, by decide +kernel⟩, Nat.le_of_ble_eq_true rfl⟩
theorem calV_X5_farFrom : en_CalV Y_X5_farFrom := ⟨tw_1301, tw_40⟩
theorem cal_X5_feelHand : en_Cal Y_X5_feelHand 1 := ⟨rfl, tw_109, tw_1269, ⟨by decide, by decide, by decide +kernel⟩, Nat.le_of_ble_eq_true rfl⟩
theorem calV_X5_feelHand : en_CalV Y_X5_feelHand := ⟨tw_1267, tw_1268⟩
theorem cal_X5_feelStone : en_Cal Y_X5_feelStone 2 := ⟨rfl, tw_109, tw_1493, ⟨by decide, by decide, by decide +kernel⟩, Nat.le_of_ble_eq_true rfl⟩
theorem calV_X5_feelStone : en_CalV Y_X5_feelStone := ⟨tw_1491, tw_1492⟩
theorem cal_X5_guess : en_Cal Y_X5_guess 0 := ⟨rfl, tw_109, tw_1294, ⟨by decide, by decide, by decide +kernel⟩, Nat.le_of_ble_eq_true rfl⟩
theorem calV_X5_guess : en_CalV Y_X5_guess := ⟨tw_1292, tw_1293⟩
theorem cal_X5_howFar : en_Cal Y_X5_howFar 0 := ⟨rfl, tw_109, tw_1309, ⟨by decide, by decide, by decide +kernel⟩, Nat.le_of_ble_eq_true rfl⟩
theorem calV_X5_howFar : en_CalV Y_X5_howFar := ⟨tw_1307, tw_1308⟩
theorem cal_X5_keep : en_Cal Y_X5_keep 2 := ⟨rfl, tw_109, tw_1278, ⟨by decide, by decide, by decide +kernel⟩, Nat.le_of_ble_eq_true rfl⟩
theorem calV_X5_keep : en_CalV Y_X5_keep := ⟨tw_1277, tw_39⟩
theorem cal_X5_near : en_Cal Y_X5_near 0 := ⟨rfl, tw_109, tw_1298, ⟨by decide, by decide, by decide +kernel⟩, Nat.le_of_ble_eq_true rfl⟩
theorem calV_X5_near : en_CalV Y_X5_near := ⟨tw_1296, tw_1297⟩
theorem cal_X5_oddsOf : en_Cal Y_X5_oddsOf 1 := ⟨rfl, tw_109, tw_1282, ⟨by decide, by decide, by decide +kernel⟩, Nat.le_of_ble_eq_true rfl⟩
theorem calV_X5_oddsOf : en_CalV Y_X5_oddsOf := ⟨tw_1280, tw_1281⟩
theorem cal_X6_add : en_Cal Y_X6_add 2 := ⟨rfl, tw_102, tw_827, ⟨by decide, by decide, by decide +kernel⟩, Nat.le_of_ble_eq_true rfl⟩
theorem calV_X6_add : en_CalV Y_X6_add := ⟨tw_825, tw_826⟩
theorem cal_X6_allIn : en_Cal Y_X6_allIn 1 := ⟨rfl, tw_102, tw_538, ⟨by decide, by decide, by decide +kernel⟩, Nat.le_of_ble_eq_true rfl⟩
theorem calV_X6_allIn : en_CalV Y_X6_allIn := ⟨tw_536, tw_537⟩
theorem cal_X6_begin : en_Cal Y_X6_begin 1 := ⟨rfl, tw_102, tw_822, ⟨by decide, by decide, by decide +kernel⟩, Nat.le_of_ble_eq_true rfl⟩
theorem calV_X6_begin : en_CalV Y_X6_begin := ⟨tw_820, tw_821⟩
theorem cal_X6_copy : en_Cal Y_X6_copy 1 := ⟨rfl, tw_102, tw_561, ⟨by decide, by decide, by decide +kernel⟩, Nat.le_of_ble_eq_true rfl⟩
theorem calV_X6_copy : en_CalV Y_X6_copy := ⟨tw_559, tw_560⟩
theorem cal_X6_haul : en_Cal Y_X6_haul 3 := ⟨rfl, tw_102, tw_1155, ⟨by decide, by decide, by decide +kernel⟩, Nat.le_of_ble_eq_true rfl⟩
theorem calV_X6_haul : en_CalV Y_X6_haul := ⟨tw_1153, tw_1154⟩
theorem cal_X6_heapAt : en_Cal Y_X6_heapAt 3 := ⟨rfl, tw_102, tw_553, ⟨by decide, by decide, by decide +kernel⟩, Nat.le_of_ble_eq_true rfl⟩
theorem calS_X6_heapAt : Cond.static Y_X6_heapAt.1 ∈ en_T := tw_552
theorem cal_X6_horns : en_Cal Y_X6_horns 0 := ⟨rfl, tw_102, tw_1219, ⟨by decide, by decide, by decide +kernel⟩, Nat.le_of_ble_eq_true rfl⟩
theorem calV_X6_horns : en_CalV Y_X6_horns := ⟨tw_1217, tw_1218⟩
theorem cal_X6_inCell : en_Cal Y_X6_inCell 3 := ⟨rfl, tw_102, tw_550, ⟨by decide, by decide, by decide +kernel⟩, Nat.le_of_ble_eq_true rfl⟩
theorem calV_X6_inCell : en_CalV Y_X6_inCell := ⟨tw_548, tw_549⟩
theorem cal_X6_isHorn : en_Cal Y_X6_isHorn 1 := ⟨rfl, tw_102, tw_534, ⟨by decide, by decide, by decide +kernel⟩, Nat.le_of_ble_eq_true rfl⟩
theorem calV_X6_isHorn : en_CalV Y_X6_isHorn := ⟨tw_532, tw_533⟩
theorem cal_X6_known : en_Cal Y_X6_known 0 := ⟨rfl, tw_102, tw_1224, ⟨by decide, by decide, by decide +kernel⟩, Nat.le_of_ble_eq_true rfl⟩
theorem calV_X6_known : en_CalV Y_X6_known := ⟨tw_1222, tw_1223⟩
theorem cal_X6_meanOf : en_Cal Y_X6_meanOf 1 := ⟨rfl, tw_102, tw_1201, ⟨by decide, by decide, by decide +kernel⟩, Nat.le_of_ble_eq_true rfl⟩
theorem calV_X6_meanOf : en_CalV Y_X6_meanOf := ⟨tw_1199, tw_1200⟩
theorem cal_X6_pairs : en_Cal Y_X6_pairs 1 := ⟨rfl, tw_102, tw_1214, ⟨by decide, by decide, by decide +kernel⟩, Nat.le_of_ble_eq_true rfl⟩
theorem calV_X6_pairs : en_CalV Y_X6_pairs := ⟨tw_1212, tw_1213⟩
theorem cal_X6_partIn : en_Cal Y_X6_partIn 2 := ⟨rfl, tw_102, tw_1340, ⟨by decide, by decide, by decide +kernel⟩, Nat.le_of_ble_eq_true rfl⟩
theorem calV_X6_partIn : en_CalV Y_X6_partIn := ⟨tw_1338, tw_1339⟩
theorem cal_X6_richest : en_Cal Y_X6_richest 2 := ⟨rfl, tw_102, tw_1336, ⟨by decide, by decide, by decide +kernel⟩, Nat.le_of_ble_eq_true rfl⟩
theorem calV_X6_richest : en_CalV Y_X6_richest := ⟨tw_1334, tw_1335⟩
theorem cal_X6_sampled : en_Cal Y_X6_sampled 0 := ⟨rfl, tw_102, tw_580, ⟨by decide, by decide, by decide +kernel⟩, Nat.le_of_ble_eq_true rfl⟩
theorem calV_X6_sampled : en_CalV Y_X6_sampled := ⟨tw_578, tw_579⟩
theorem cal_X6_share : en_Cal Y_X6_share 2 := ⟨rfl, tw_102, tw_1258, ⟨by decide, by decide, by decide +kernel⟩, Nat.le_of_ble_eq_true rfl⟩
theorem calV_X6_share : en_CalV Y_X6_share := ⟨tw_1256, tw_1257⟩
theorem cal_X6_soundOf : en_Cal Y_X6_soundOf 1 := ⟨rfl, tw_102, tw_1228, ⟨by decide, by decide, by decide +kernel⟩, Nat.le_of_ble_eq_true rfl⟩
theorem calV_X6_soundOf : en_CalV Y_X6_soundOf := ⟨tw_1226, tw_1227⟩
theorem cal_X6_wordOf : en_Cal Y_X6_wordOf 1 := ⟨rfl, tw_102, tw_1254, ⟨by decide, by decide, by decide +kernel⟩, Nat.le_of_ble_eq_true rfl⟩
theorem calV_X6_wordOf : en_CalV Y_X6_wordOf := ⟨tw_1252, tw_1253⟩
theorem cal_X7_fail : en_Cal Y_X7_fail 1 := ⟨rfl, tw_103, tw_762, ⟨by decide, by decide, by decide +kernel⟩, Nat.le_of_ble_eq_true rfl⟩
theorem calV_X7_fail : en_CalV Y_X7_fail := ⟨tw_760, tw_761⟩
theorem cal_X7_hasMore : en_Cal Y_X7_hasMore 0 := ⟨rfl, tw_103, tw_696, ⟨by decide, by decide, by decide +kernel⟩, Nat.le_of_ble_eq_true rfl⟩
theorem calV_X7_hasMore : en_CalV Y_X7_hasMore := ⟨tw_694, tw_695⟩
theorem cal_X7_hasNumber : en_Cal Y_X7_hasNumber 0 := ⟨rfl, tw_103, tw_938, ⟨by decide, by decide, by decide +kernel⟩, Nat.le_of_ble_eq_true rfl⟩
theorem calV_X7_hasNumber : en_CalV Y_X7_hasNumber := ⟨tw_936, tw_937⟩
theorem cal_X7_isDigit : en_Cal Y_X7_isDigit 1 := ⟨rfl, tw_103, tw_688, ⟨by decide, by decide, by decide +kernel⟩, Nat.le_of_ble_eq_true rfl⟩
theorem calS_X7_isDigit : Cond.static Y_X7_isDigit.1 ∈ en_T := tw_687
theorem cal_X7_isLetter : en_Cal Y_X7_isLetter 1 := ⟨rfl, tw_103, tw_692, ⟨by decide, by decide, by decide +kernel⟩, Nat.le_of_ble_eq_true rfl⟩
theorem calS_X7_isLetter : Cond.static Y_X7_isLetter.1 ∈ en_T := tw_691
theorem cal_X7_isNumber : en_Cal Y_X7_isNumber 1 := ⟨rfl, tw_103, tw_802, ⟨by decide, by decide, by decide +kernel⟩, Nat.le_of_ble_eq_true rfl⟩
theorem calV_X7_isNumber : en_CalV Y_X7_isNumber := ⟨tw_800, tw_801⟩
theorem cal_X7_isSign : en_Cal Y_X7_isSign 1 := ⟨rfl, tw_103, tw_814, ⟨by decide, by decide, by decide +kernel⟩, Nat.le_of_ble_eq_true rfl⟩
theorem calV_X7_isSign : en_CalV Y_X7_isSign := ⟨tw_812, tw_813⟩
theorem cal_X7_isWord : en_Cal Y_X7_isWord 1 := ⟨rfl, tw_103, tw_705, ⟨by decide, by decide, by decide +kernel⟩, Nat.le_of_ble_eq_true rfl⟩
theorem calV_X7_isWord : en_CalV Y_X7_isWord := ⟨tw_703, tw_704⟩
theorem cal_X7_needNumber : en_Cal Y_X7_needNumber 2 := ⟨rfl, tw_103, tw_767, ⟨by decide, by decide, by decide +kernel⟩, Nat.le_of_ble_eq_true rfl⟩
theorem calV_X7_needNumber : en_CalV Y_X7_needNumber := ⟨tw_765, tw_766⟩
theorem cal_X7_needSign : en_Cal Y_X7_needSign 1 := ⟨rfl, tw_103, tw_810, ⟨by decide, by decide, by decide +kernel⟩, Nat.le_of_ble_eq_true rfl⟩
theorem calV_X7_needSign : en_CalV Y_X7_needSign := ⟨tw_808, tw_809⟩
theorem cal_X7_needWord : en_Cal Y_X7_needWord 1 := ⟨rfl, tw_103, tw_902, ⟨by decide, by decide, by decide +kernel⟩, Nat.le_of_ble_eq_true rfl⟩
theorem calV_X7_needWord : en_CalV Y_X7_needWord := ⟨tw_900, tw_901⟩
theorem cal_X7_open : en_Cal Y_X7_open 2 := ⟨rfl, tw_103, tw_678, ⟨by decide, by decide, by decide +kernel⟩, Nat.le_of_ble_eq_true rfl⟩
theorem calV_X7_open : en_CalV Y_X7_open := ⟨tw_676, tw_677⟩
theorem cal_X7_step : en_Cal Y_X7_step 0 := ⟨rfl, tw_103, tw_685, ⟨by decide, by decide, by decide +kernel⟩, Nat.le_of_ble_eq_true rfl⟩
theorem calV_X7_step : en_CalV Y_X7_step := ⟨tw_683, tw_684⟩
theorem cal_X8_apartFrom : en_Cal Y_X8_apartFrom 1 := ⟨rfl, tw_108, tw_1376, ⟨by decide, by decide, by decide +kernel⟩, Nat.le_of_ble_eq_true rfl⟩
theorem calV_X8_apartFrom : en_CalV Y_X8_apartFrom := ⟨tw_1375, tw_41⟩
theorem cal_X8_behind : en_Cal Y_X8_behind 3 := ⟨rfl, tw_108, tw_1351, ⟨by decide, by decide, by decide +kernel⟩, Nat.le_of_ble_eq_true rfl⟩
theorem calV_X8_behind : en_CalV Y_X8_behind := ⟨tw_1349, tw_1350⟩
theorem cal_X8_behindWall : en_Cal Y_X8_behindWall 5 := ⟨rfl, tw_108, tw_1390, ⟨by decide, by decide, by decide +kernel⟩, Nat.le_of_ble_eq_true rfl⟩
theorem calV_X8_behindWall : en_CalV Y_X8_behindWall := ⟨tw_1388, tw_1389⟩
theorem cal_X8_bring : en_Cal Y_X8_bring 4 := ⟨rfl, tw_108, tw_1430, ⟨by decide, by decide, by decide +kernel⟩, Nat.le_of_ble_eq_true rfl⟩
theorem calV_X8_bring : en_CalV Y_X8_bring := ⟨tw_1428, tw_1429⟩
theorem cal_X8_buildWalls : en_Cal Y_X8_buildWalls 2 := ⟨rfl, tw_108, tw_1394, ⟨by decide, by decide, by decide +kernel⟩, Nat.le_of_ble_eq_true rfl⟩
theorem calV_X8_buildWalls : en_CalV Y_X8_buildWalls := ⟨tw_1393, tw_42⟩
theorem cal_X8_fewerBy : en_Cal Y_X8_fewerBy 1 := ⟨rfl, tw_108, tw_1419, ⟨by decide, by decide, by decide +kernel⟩, Nat.le_of_ble_eq_true rfl⟩
theorem calV_X8_fewerBy : en_CalV Y_X8_fewerBy := ⟨tw_1418, tw_43⟩
theorem cal_X8_leastDry : en_Cal Y_X8_leastDry 3 := ⟨rfl, tw_108, tw_1482, ⟨by decide, by decide, by decide +kernel⟩, Nat.le_of_ble_eq_true rfl⟩
theorem calV_X8_leastDry : en_CalV Y_X8_leastDry := ⟨tw_1480, tw_1481⟩
theorem cal_X8_nearest : en_Cal Y_X8_nearest 4 := ⟨rfl, tw_108, tw_1372, ⟨by decide, by decide, by decide +kernel⟩, Nat.le_of_ble_eq_true rfl⟩
theorem calV_X8_nearest : en_CalV Y_X8_nearest := ⟨tw_1370, tw_1371⟩
theorem cal_X8_raise : en_Cal Y_X8_raise 5 := ⟨rfl, tw_108, tw_1405, ⟨by decide, by decide, by decide +kernel⟩, Nat.le_of_ble_eq_true rfl⟩
theorem calV_X8_raise : en_CalV Y_X8_raise := ⟨tw_1403, tw_1404⟩
theorem cal_X8_wall : en_Cal Y_X8_wall 6 := ⟨rfl, tw_108, tw_1471, ⟨by decide, by decide, by decide +kernel⟩, Nat.le_of_ble_eq_true rfl⟩
theorem calV_X8_wall : en_CalV Y_X8_wall := ⟨tw_1469, tw_1470⟩
theorem cal_X8_yearsTillFewer : en_Cal Y_X8_yearsTillFewer 5 := ⟨rfl, tw_108, tw_1450, ⟨by decide, by decide, by decide +kernel⟩, Nat.le_of_ble_eq_true rfl⟩
theorem calV_X8_yearsTillFewer : en_CalV Y_X8_yearsTillFewer := ⟨tw_1448, tw_1449⟩
theorem cal_X9_add : en_Cal Y_X9_add 4 := ⟨rfl, tw_110, tw_961, ⟨by decide, by decide, by decide +kernel⟩, Nat.le_of_ble_eq_true rfl⟩
theorem calV_X9_add : en_CalV Y_X9_add := ⟨tw_959, tw_960⟩
theorem tw_cpn : Cond.native arraycopyName ∈ en_T := List.mem_filter.mpr ⟨List.mem_of_getElem? (i := 564) (by decide +kernel), by decide +kernel⟩
theorem tw_cps : Cond.static arraycopyName ∈ en_T := List.mem_filter.mpr ⟨List.mem_of_getElem? (i := 563) (by decide +kernel), by decide +kernel⟩
theorem tw_cpi : Cond.initialized "java/lang/System" ∈ en_T := List.mem_filter.mpr ⟨List.mem_of_getElem? (i := 122) (by decide +kernel), by decide +kernel⟩
theorem tx_IA : Cond.castable "java/lang/IllegalArgumentException" "java/lang/IllegalArgumentException" ∈ en_X1 := List.mem_filter.mpr ⟨List.mem_of_getElem? (i := 598) (by decide +kernel), by decide +kernel⟩
theorem tx_IO : Cond.castable "java/lang/IndexOutOfBoundsException" "java/lang/IndexOutOfBoundsException" ∈ en_X1 := List.mem_filter.mpr ⟨List.mem_of_getElem? (i := 987) (by decide +kernel), by decide +kernel⟩
theorem tx_NS : Cond.castable "java/util/NoSuchElementException" "java/util/NoSuchElementException" ∈ en_X1 := List.mem_filter.mpr ⟨List.mem_of_getElem? (i := 1038) (by decide +kernel), by decide +kernel⟩
theorem tx_IS : Cond.castable "java/lang/IllegalStateException" "java/lang/IllegalStateException" ∈ en_X1 := List.mem_filter.mpr ⟨List.mem_of_getElem? (i := 1098) (by decide +kernel), by decide +kernel⟩
theorem thr_IO : en_thr RX10 126 130 "java/lang/IndexOutOfBoundsException" := ⟨by decide +kernel, tw_985, tw_123, by decide +kernel, by decide +kernel⟩
theorem thr_NS : en_thrN RX10 133 137 "java/util/NoSuchElementException" := ⟨by decide +kernel, tw_1036, tw_124, by decide +kernel, by decide +kernel⟩
theorem thr_IA : en_thr RX10 140 144 "java/lang/IllegalArgumentException" := ⟨by decide +kernel, tw_596, tw_115, by decide +kernel, by decide +kernel⟩
theorem thr_IS : en_thr RX10 148 152 "java/lang/IllegalStateException" := ⟨by decide +kernel, tw_1096, tw_125, by decide +kernel, by decide +kernel⟩
