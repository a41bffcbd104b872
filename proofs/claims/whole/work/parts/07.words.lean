theorem TB_1 {w : Cond} {i : Nat} (h : tables_1_1[i]? = some w) (hg : goodWord w = true) : w ∈ TB := List.mem_filter.mpr ⟨List.mem_append_right _ (List.mem_append_left _ (List.mem_of_getElem? h)), hg⟩
theorem TB_2 {w : Cond} {i : Nat} (h : tables_1_2[i]? = some w) (hg : goodWord w = true) : w ∈ TB := List.mem_filter.mpr ⟨List.mem_append_right _ (List.mem_append_right _ (List.mem_append_left _ (List.mem_of_getElem? h))), hg⟩
theorem TB_3 {w : Cond} {i : Nat} (h : tables_1_3[i]? = some w) (hg : goodWord w = true) : w ∈ TB := List.mem_filter.mpr ⟨List.mem_append_right _ (List.mem_append_right _ (List.mem_append_right _ (List.mem_append_left _ (List.mem_of_getElem? h)))), hg⟩
theorem TB_4 {w : Cond} {i : Nat} (h : tables_1_4[i]? = some w) (hg : goodWord w = true) : w ∈ TB := List.mem_filter.mpr ⟨List.mem_append_right _ (List.mem_append_right _ (List.mem_append_right _ (List.mem_append_right _ (List.mem_append_left _ (List.mem_of_getElem? h))))), hg⟩
theorem TB_5 {w : Cond} {i : Nat} (h : tables_1_5[i]? = some w) (hg : goodWord w = true) : w ∈ TB := List.mem_filter.mpr ⟨List.mem_append_right _ (List.mem_append_right _ (List.mem_append_right _ (List.mem_append_right _ (List.mem_append_right _ (List.mem_append_left _ (List.mem_of_getElem? h)))))), hg⟩
theorem TB_6 {w : Cond} {i : Nat} (h : tables_1_6[i]? = some w) (hg : goodWord w = true) : w ∈ TB := List.mem_filter.mpr ⟨List.mem_append_right _ (List.mem_append_right _ (List.mem_append_right _ (List.mem_append_right _ (List.mem_append_right _ (List.mem_append_right _ (List.mem_append_left _ (List.mem_of_getElem? h))))))), hg⟩
theorem TB_7 {w : Cond} {i : Nat} (h : tables_1_7[i]? = some w) (hg : goodWord w = true) : w ∈ TB := List.mem_filter.mpr ⟨List.mem_append_right _ (List.mem_append_right _ (List.mem_append_right _ (List.mem_append_right _ (List.mem_append_right _ (List.mem_append_right _ (List.mem_append_right _ (List.mem_append_left _ (List.mem_of_getElem? h)))))))), hg⟩
theorem TB_8 {w : Cond} {i : Nat} (h : tables_1_8[i]? = some w) (hg : goodWord w = true) : w ∈ TB := List.mem_filter.mpr ⟨List.mem_append_right _ (List.mem_append_right _ (List.mem_append_right _ (List.mem_append_right _ (List.mem_append_right _ (List.mem_append_right _ (List.mem_append_right _ (List.mem_append_right _ (List.mem_of_getElem? h)))))))), hg⟩
def M_X11_init : pM := (yX11_init, cX11_init, 2, (Option.none : Option Jvm.ClassFile.FieldType))
theorem MI_X11_init : MIN M_X11_init 0 := ⟨⟨TB_1 (i := 24) (by decide +kernel) rfl, TB_1 (i := 1) (by decide +kernel) rfl, Nat.le_of_ble_eq_true rfl, by decide +kernel⟩, TB_1 (i := 23) (by decide +kernel) rfl, rfl, rfl⟩
def M_X9_init : pM := (yX9_init, cX9_init, 1, (Option.none : Option Jvm.ClassFile.FieldType))
theorem MI_X9_init : MIN M_X9_init 0 := ⟨⟨TB_1 (i := 32) (by decide +kernel) rfl, TB_1 (i := 2) (by decide +kernel) rfl, Nat.le_of_ble_eq_true rfl, by decide +kernel⟩, TB_1 (i := 31) (by decide +kernel) rfl, rfl, rfl⟩
def M_X1_init : pM := (yX1_init, cX1_init, 1, (Option.none : Option Jvm.ClassFile.FieldType))
theorem MI_X1_init : MIN M_X1_init 0 := ⟨⟨TB_1 (i := 58) (by decide +kernel) rfl, TB_1 (i := 3) (by decide +kernel) rfl, Nat.le_of_ble_eq_true rfl, by decide +kernel⟩, TB_1 (i := 57) (by decide +kernel) rfl, rfl, rfl⟩
def M_X3_init : pM := (yX3_init, cX3_init, 1, (Option.none : Option Jvm.ClassFile.FieldType))
theorem MI_X3_init : MIN M_X3_init 0 := ⟨⟨TB_1 (i := 64) (by decide +kernel) rfl, TB_1 (i := 4) (by decide +kernel) rfl, Nat.le_of_ble_eq_true rfl, by decide +kernel⟩, TB_1 (i := 63) (by decide +kernel) rfl, rfl, rfl⟩
def M_X1_spareLaw : pM := (yX1_spareLaw, cX1_spareLaw, 1, (Option.some (Jvm.ClassFile.FieldType.object "HullTank$Law")))
theorem MV_X1_spareLaw : MVI M_X1_spareLaw 0 := ⟨⟨TB_1 (i := 145) (by decide +kernel) rfl, TB_1 (i := 3) (by decide +kernel) rfl, Nat.le_of_ble_eq_true rfl, by decide +kernel⟩, TB_1 (i := 143) (by decide +kernel) rfl, TB_1 (i := 144) (by decide +kernel) rfl⟩
def M_X4_init : pM := (yX4_init, cX4_init, 3, (Option.none : Option Jvm.ClassFile.FieldType))
theorem MI_X4_init : MIN M_X4_init 2 := ⟨⟨TB_1 (i := 148) (by decide +kernel) rfl, TB_1 (i := 5) (by decide +kernel) rfl, Nat.le_of_ble_eq_true rfl, by decide +kernel⟩, TB_1 (i := 147) (by decide +kernel) rfl, rfl, rfl⟩
def M_X6_init : pM := (yX6_init, cX6_init, 1, (Option.none : Option Jvm.ClassFile.FieldType))
theorem MI_X6_init : MIN M_X6_init 0 := ⟨⟨TB_1 (i := 162) (by decide +kernel) rfl, TB_1 (i := 6) (by decide +kernel) rfl, Nat.le_of_ble_eq_true rfl, by decide +kernel⟩, TB_1 (i := 161) (by decide +kernel) rfl, rfl, rfl⟩
def M_X2_init : pM := (yX2_init, cX2_init, 3, (Option.none : Option Jvm.ClassFile.FieldType))
theorem MI_X2_init : MIN M_X2_init 1 := ⟨⟨TB_1 (i := 181) (by decide +kernel) rfl, TB_1 (i := 7) (by decide +kernel) rfl, Nat.le_of_ble_eq_true rfl, by decide +kernel⟩, TB_1 (i := 180) (by decide +kernel) rfl, rfl, rfl⟩
def M_X8_init : pM := (yX8_init, cX8_init, 2, (Option.none : Option Jvm.ClassFile.FieldType))
theorem MI_X8_init : MIN M_X8_init 1 := ⟨⟨TB_1 (i := 188) (by decide +kernel) rfl, TB_1 (i := 8) (by decide +kernel) rfl, Nat.le_of_ble_eq_true rfl, by decide +kernel⟩, TB_1 (i := 187) (by decide +kernel) rfl, rfl, rfl⟩
def M_X5_init : pM := (yX5_init, cX5_init, 2, (Option.none : Option Jvm.ClassFile.FieldType))
theorem MI_X5_init : MIN M_X5_init 1 := ⟨⟨TB_2 (i := 19) (by decide +kernel) rfl, TB_1 (i := 9) (by decide +kernel) rfl, Nat.le_of_ble_eq_true rfl, by decide +kernel⟩, TB_2 (i := 18) (by decide +kernel) rfl, rfl, rfl⟩
def M_X10_init : pM := (yX10_init, cX10_init, 2, (Option.none : Option Jvm.ClassFile.FieldType))
theorem MI_X10_init : MIN M_X10_init 0 := ⟨⟨TB_2 (i := 52) (by decide +kernel) rfl, TB_1 (i := 10) (by decide +kernel) rfl, Nat.le_of_ble_eq_true rfl, by decide +kernel⟩, TB_2 (i := 51) (by decide +kernel) rfl, rfl, rfl⟩
def M_X7_init : pM := (yX7_init, cX7_init, 2, (Option.none : Option Jvm.ClassFile.FieldType))
theorem MI_X7_init : MIN M_X7_init 0 := ⟨⟨TB_2 (i := 79) (by decide +kernel) rfl, TB_1 (i := 11) (by decide +kernel) rfl, Nat.le_of_ble_eq_true rfl, by decide +kernel⟩, TB_2 (i := 78) (by decide +kernel) rfl, rfl, rfl⟩
def M_X0_init : pM := (yX0_init, cX0_init, 1, (Option.none : Option Jvm.ClassFile.FieldType))
theorem MI_X0_init : MIN M_X0_init 0 := ⟨⟨TB_2 (i := 114) (by decide +kernel) rfl, TB_1 (i := 12) (by decide +kernel) rfl, Nat.le_of_ble_eq_true rfl, by decide +kernel⟩, TB_2 (i := 113) (by decide +kernel) rfl, rfl, rfl⟩
def M_X11_corner : pM := (yX11_corner, cX11_corner, 5, (Option.some Jvm.ClassFile.FieldType.int))
theorem MV_X11_corner : MVI M_X11_corner 4 := ⟨⟨TB_2 (i := 177) (by decide +kernel) rfl, TB_1 (i := 1) (by decide +kernel) rfl, Nat.le_of_ble_eq_true rfl, by decide +kernel⟩, TB_2 (i := 175) (by decide +kernel) rfl, TB_2 (i := 176) (by decide +kernel) rfl⟩
def M_X11_within : pM := (yX11_within, cX11_within, 3, (Option.some Jvm.ClassFile.FieldType.boolean))
theorem MS_X11_within : MST M_X11_within 3 := ⟨⟨TB_2 (i := 180) (by decide +kernel) rfl, TB_1 (i := 1) (by decide +kernel) rfl, Nat.le_of_ble_eq_true rfl, by decide +kernel⟩, TB_2 (i := 179) (by decide +kernel) rfl⟩
def M_X1_size : pM := (yX1_size, cX1_size, 1, (Option.some Jvm.ClassFile.FieldType.int))
theorem MV_X1_size : MVI M_X1_size 0 := ⟨⟨TB_2 (i := 184) (by decide +kernel) rfl, TB_1 (i := 3) (by decide +kernel) rfl, Nat.le_of_ble_eq_true rfl, by decide +kernel⟩, TB_2 (i := 182) (by decide +kernel) rfl, TB_2 (i := 183) (by decide +kernel) rfl⟩
def M_X2_size : pM := (yX2_size, cX2_size, 1, (Option.some Jvm.ClassFile.FieldType.int))
theorem MV_X2_size : MVI M_X2_size 0 := ⟨⟨TB_2 (i := 188) (by decide +kernel) rfl, TB_1 (i := 7) (by decide +kernel) rfl, Nat.le_of_ble_eq_true rfl, by decide +kernel⟩, TB_2 (i := 186) (by decide +kernel) rfl, TB_2 (i := 187) (by decide +kernel) rfl⟩
def M_X1_add : pM := (yX1_add, cX1_add, 5, (Option.some Jvm.ClassFile.FieldType.int))
theorem MV_X1_add : MVI M_X1_add 4 := ⟨⟨TB_2 (i := 192) (by decide +kernel) rfl, TB_1 (i := 3) (by decide +kernel) rfl, Nat.le_of_ble_eq_true rfl, by decide +kernel⟩, TB_2 (i := 190) (by decide +kernel) rfl, TB_2 (i := 191) (by decide +kernel) rfl⟩
def M_X11_put : pM := (yX11_put, cX11_put, 3, (Option.none : Option Jvm.ClassFile.FieldType))
theorem MS_X11_put : MST M_X11_put 3 := ⟨⟨TB_2 (i := 195) (by decide +kernel) rfl, TB_1 (i := 1) (by decide +kernel) rfl, Nat.le_of_ble_eq_true rfl, by decide +kernel⟩, TB_2 (i := 194) (by decide +kernel) rfl⟩
def M_X1_changed : pM := (yX1_changed, cX1_changed, 1, (Option.none : Option Jvm.ClassFile.FieldType))
theorem MV_X1_changed : MVI M_X1_changed 0 := ⟨⟨TB_2 (i := 199) (by decide +kernel) rfl, TB_1 (i := 3) (by decide +kernel) rfl, Nat.le_of_ble_eq_true rfl, by decide +kernel⟩, TB_2 (i := 197) (by decide +kernel) rfl, TB_2 (i := 198) (by decide +kernel) rfl⟩
def M_X11_life : pM := (yX11_life, cX11_life, 4, (Option.some Jvm.ClassFile.FieldType.int))
theorem MV_X11_life : MVI M_X11_life 3 := ⟨⟨TB_2 (i := 203) (by decide +kernel) rfl, TB_1 (i := 1) (by decide +kernel) rfl, Nat.le_of_ble_eq_true rfl, by decide +kernel⟩, TB_2 (i := 201) (by decide +kernel) rfl, TB_2 (i := 202) (by decide +kernel) rfl⟩
def M_X1_has : pM := (yX1_has, cX1_has, 2, (Option.some Jvm.ClassFile.FieldType.boolean))
theorem MV_X1_has : MVI M_X1_has 1 := ⟨⟨TB_2 (i := 207) (by decide +kernel) rfl, TB_1 (i := 3) (by decide +kernel) rfl, Nat.le_of_ble_eq_true rfl, by decide +kernel⟩, TB_2 (i := 205) (by decide +kernel) rfl, TB_2 (i := 206) (by decide +kernel) rfl⟩
def M_X1_livesOf : pM := (yX1_livesOf, cX1_livesOf, 2, (Option.some Jvm.ClassFile.FieldType.int))
theorem MV_X1_livesOf : MVI M_X1_livesOf 1 := ⟨⟨TB_2 (i := 212) (by decide +kernel) rfl, TB_1 (i := 3) (by decide +kernel) rfl, Nat.le_of_ble_eq_true rfl, by decide +kernel⟩, TB_2 (i := 210) (by decide +kernel) rfl, TB_2 (i := 211) (by decide +kernel) rfl⟩
def M_X11_at : pM := (yX11_at, cX11_at, 2, (Option.some Jvm.ClassFile.FieldType.int))
theorem MS_X11_at : MST M_X11_at 2 := ⟨⟨TB_2 (i := 215) (by decide +kernel) rfl, TB_1 (i := 1) (by decide +kernel) rfl, Nat.le_of_ble_eq_true rfl, by decide +kernel⟩, TB_2 (i := 214) (by decide +kernel) rfl⟩
def M_X1_addLife : pM := (yX1_addLife, cX1_addLife, 5, (Option.some Jvm.ClassFile.FieldType.int))
theorem MV_X1_addLife : MVI M_X1_addLife 3 := ⟨⟨TB_2 (i := 219) (by decide +kernel) rfl, TB_1 (i := 3) (by decide +kernel) rfl, Nat.le_of_ble_eq_true rfl, by decide +kernel⟩, TB_2 (i := 217) (by decide +kernel) rfl, TB_2 (i := 218) (by decide +kernel) rfl⟩
def M_X11_feed : pM := (yX11_feed, cX11_feed, 6, (Option.some Jvm.ClassFile.FieldType.int))
theorem MV_X11_feed : MVI M_X11_feed 5 := ⟨⟨TB_2 (i := 224) (by decide +kernel) rfl, TB_1 (i := 1) (by decide +kernel) rfl, Nat.le_of_ble_eq_true rfl, by decide +kernel⟩, TB_2 (i := 222) (by decide +kernel) rfl, TB_2 (i := 223) (by decide +kernel) rfl⟩
def M_X9_hasRoomFor : pM := (yX9_hasRoomFor, cX9_hasRoomFor, 2, (Option.some Jvm.ClassFile.FieldType.boolean))
theorem MV_X9_hasRoomFor : MVI M_X9_hasRoomFor 1 := ⟨⟨TB_2 (i := 228) (by decide +kernel) rfl, TB_1 (i := 2) (by decide +kernel) rfl, Nat.le_of_ble_eq_true rfl, by decide +kernel⟩, TB_2 (i := 226) (by decide +kernel) rfl, TB_2 (i := 227) (by decide +kernel) rfl⟩
def M_X9_add : pM := (yX9_add, cX9_add, 3, (Option.none : Option Jvm.ClassFile.FieldType))
theorem MV_X9_add : MVI M_X9_add 1 := ⟨⟨TB_2 (i := 232) (by decide +kernel) rfl, TB_1 (i := 2) (by decide +kernel) rfl, Nat.le_of_ble_eq_true rfl, by decide +kernel⟩, TB_2 (i := 230) (by decide +kernel) rfl, TB_2 (i := 231) (by decide +kernel) rfl⟩
def M_X9_size : pM := (yX9_size, cX9_size, 1, (Option.some Jvm.ClassFile.FieldType.int))
theorem MV_X9_size : MVI M_X9_size 0 := ⟨⟨TB_2 (i := 237) (by decide +kernel) rfl, TB_1 (i := 2) (by decide +kernel) rfl, Nat.le_of_ble_eq_true rfl, by decide +kernel⟩, TB_2 (i := 235) (by decide +kernel) rfl, TB_2 (i := 236) (by decide +kernel) rfl⟩
def M_X11_law : pM := (yX11_law, cX11_law, 3, (Option.some Jvm.ClassFile.FieldType.int))
theorem MV_X11_law : MVI M_X11_law 1 := ⟨⟨TB_3 (i := 1) (by decide +kernel) rfl, TB_1 (i := 1) (by decide +kernel) rfl, Nat.le_of_ble_eq_true rfl, by decide +kernel⟩, TB_2 (i := 239) (by decide +kernel) rfl, TB_3 (i := 0) (by decide +kernel) rfl⟩
def M_X9_open : pM := (yX9_open, cX9_open, 2, (Option.none : Option Jvm.ClassFile.FieldType))
theorem MV_X9_open : MVI M_X9_open 1 := ⟨⟨TB_3 (i := 5) (by decide +kernel) rfl, TB_1 (i := 2) (by decide +kernel) rfl, Nat.le_of_ble_eq_true rfl, by decide +kernel⟩, TB_3 (i := 3) (by decide +kernel) rfl, TB_3 (i := 4) (by decide +kernel) rfl⟩
def M_X4_read : pM := (yX4_read, cX4_read, 3, (Option.none : Option Jvm.ClassFile.FieldType))
theorem MV_X4_read : MVI M_X4_read 1 := ⟨⟨TB_3 (i := 9) (by decide +kernel) rfl, TB_1 (i := 5) (by decide +kernel) rfl, Nat.le_of_ble_eq_true rfl, by decide +kernel⟩, TB_3 (i := 7) (by decide +kernel) rfl, TB_3 (i := 8) (by decide +kernel) rfl⟩
def M_X3_empty : pM := (yX3_empty, cX3_empty, 1, (Option.none : Option Jvm.ClassFile.FieldType))
theorem MV_X3_empty : MVI M_X3_empty 0 := ⟨⟨TB_3 (i := 13) (by decide +kernel) rfl, TB_1 (i := 4) (by decide +kernel) rfl, Nat.le_of_ble_eq_true rfl, by decide +kernel⟩, TB_3 (i := 11) (by decide +kernel) rfl, TB_3 (i := 12) (by decide +kernel) rfl⟩
def M_X9_sound : pM := (yX9_sound, cX9_sound, 1, (Option.some Jvm.ClassFile.FieldType.boolean))
theorem MV_X9_sound : MVI M_X9_sound 0 := ⟨⟨TB_3 (i := 17) (by decide +kernel) rfl, TB_1 (i := 2) (by decide +kernel) rfl, Nat.le_of_ble_eq_true rfl, by decide +kernel⟩, TB_3 (i := 15) (by decide +kernel) rfl, TB_3 (i := 16) (by decide +kernel) rfl⟩
def M_X4_readClause : pM := (yX4_readClause, cX4_readClause, 3, (Option.none : Option Jvm.ClassFile.FieldType))
theorem MV_X4_readClause : MVI M_X4_readClause 1 := ⟨⟨TB_3 (i := 21) (by decide +kernel) rfl, TB_1 (i := 5) (by decide +kernel) rfl, Nat.le_of_ble_eq_true rfl, by decide +kernel⟩, TB_3 (i := 20) (by decide +kernel) rfl, TB_of (i := 0) (by decide +kernel) rfl⟩
def M_X9_sign : pM := (yX9_sign, cX9_sign, 1, (Option.some Jvm.ClassFile.FieldType.int))
theorem MV_X9_sign : MVI M_X9_sign 0 := ⟨⟨TB_3 (i := 25) (by decide +kernel) rfl, TB_1 (i := 2) (by decide +kernel) rfl, Nat.le_of_ble_eq_true rfl, by decide +kernel⟩, TB_3 (i := 23) (by decide +kernel) rfl, TB_3 (i := 24) (by decide +kernel) rfl⟩
def M_X9_place : pM := (yX9_place, cX9_place, 1, (Option.some Jvm.ClassFile.FieldType.int))
theorem MV_X9_place : MVI M_X9_place 0 := ⟨⟨TB_3 (i := 29) (by decide +kernel) rfl, TB_1 (i := 2) (by decide +kernel) rfl, Nat.le_of_ble_eq_true rfl, by decide +kernel⟩, TB_3 (i := 27) (by decide +kernel) rfl, TB_3 (i := 28) (by decide +kernel) rfl⟩
def M_X9_fail : pM := (yX9_fail, cX9_fail, 3, (Option.none : Option Jvm.ClassFile.FieldType))
theorem MV_X9_fail : MVI M_X9_fail 2 := ⟨⟨TB_3 (i := 33) (by decide +kernel) rfl, TB_1 (i := 2) (by decide +kernel) rfl, Nat.le_of_ble_eq_true rfl, by decide +kernel⟩, TB_3 (i := 31) (by decide +kernel) rfl, TB_3 (i := 32) (by decide +kernel) rfl⟩
def M_X9_pass : pM := (yX9_pass, cX9_pass, 2, (Option.none : Option Jvm.ClassFile.FieldType))
theorem MV_X9_pass : MVI M_X9_pass 1 := ⟨⟨TB_3 (i := 37) (by decide +kernel) rfl, TB_1 (i := 2) (by decide +kernel) rfl, Nat.le_of_ble_eq_true rfl, by decide +kernel⟩, TB_3 (i := 35) (by decide +kernel) rfl, TB_3 (i := 36) (by decide +kernel) rfl⟩
def M_X3_openClause : pM := (yX3_openClause, cX3_openClause, 2, (Option.none : Option Jvm.ClassFile.FieldType))
theorem MV_X3_openClause : MVI M_X3_openClause 1 := ⟨⟨TB_3 (i := 43) (by decide +kernel) rfl, TB_1 (i := 4) (by decide +kernel) rfl, Nat.le_of_ble_eq_true rfl, by decide +kernel⟩, TB_3 (i := 41) (by decide +kernel) rfl, TB_3 (i := 42) (by decide +kernel) rfl⟩
def M_X4_readSum : pM := (yX4_readSum, cX4_readSum, 4, (Option.none : Option Jvm.ClassFile.FieldType))
theorem MV_X4_readSum : MVI M_X4_readSum 1 := ⟨⟨TB_3 (i := 48) (by decide +kernel) rfl, TB_1 (i := 5) (by decide +kernel) rfl, Nat.le_of_ble_eq_true rfl, by decide +kernel⟩, TB_3 (i := 47) (by decide +kernel) rfl, TB_of (i := 1) (by decide +kernel) rfl⟩
def M_X4_readTerm : pM := (yX4_readTerm, cX4_readTerm, 4, (Option.none : Option Jvm.ClassFile.FieldType))
theorem MV_X4_readTerm : MVI M_X4_readTerm 1 := ⟨⟨TB_3 (i := 52) (by decide +kernel) rfl, TB_1 (i := 5) (by decide +kernel) rfl, Nat.le_of_ble_eq_true rfl, by decide +kernel⟩, TB_3 (i := 51) (by decide +kernel) rfl, TB_of (i := 2) (by decide +kernel) rfl⟩
def M_X4_readFactor : pM := (yX4_readFactor, cX4_readFactor, 4, (Option.none : Option Jvm.ClassFile.FieldType))
theorem MV_X4_readFactor : MVI M_X4_readFactor 1 := ⟨⟨TB_3 (i := 56) (by decide +kernel) rfl, TB_1 (i := 5) (by decide +kernel) rfl, Nat.le_of_ble_eq_true rfl, by decide +kernel⟩, TB_3 (i := 55) (by decide +kernel) rfl, TB_of (i := 3) (by decide +kernel) rfl⟩
def M_J0_indexOf_0f7a4 : pM := (yJ0_indexOf_0f7a4, cJ0_indexOf_0f7a4, 2, (Option.some Jvm.ClassFile.FieldType.int))
theorem MV_J0_indexOf_0f7a4 : MVI M_J0_indexOf_0f7a4 1 := ⟨⟨TB_3 (i := 61) (by decide +kernel) rfl, TB_1 (i := 14) (by decide +kernel) rfl, Nat.le_of_ble_eq_true rfl, by decide +kernel⟩, TB_3 (i := 59) (by decide +kernel) rfl, TB_3 (i := 60) (by decide +kernel) rfl⟩
def M_J0_indexOf_7cf53 : pM := (yJ0_indexOf_7cf53, cJ0_indexOf_7cf53, 3, (Option.some Jvm.ClassFile.FieldType.int))
theorem MV_J0_indexOf_7cf53 : MVI M_J0_indexOf_7cf53 2 := ⟨⟨TB_3 (i := 65) (by decide +kernel) rfl, TB_1 (i := 14) (by decide +kernel) rfl, Nat.le_of_ble_eq_true rfl, by decide +kernel⟩, TB_3 (i := 63) (by decide +kernel) rfl, TB_3 (i := 64) (by decide +kernel) rfl⟩
def M_J0_isLatin1_aae02 : pM := (yJ0_isLatin1_aae02, cJ0_isLatin1_aae02, 1, (Option.some Jvm.ClassFile.FieldType.boolean))
theorem MV_J0_isLatin1_aae02 : MVI M_J0_isLatin1_aae02 0 := ⟨⟨TB_3 (i := 69) (by decide +kernel) rfl, TB_1 (i := 14) (by decide +kernel) rfl, Nat.le_of_ble_eq_true rfl, by decide +kernel⟩, TB_3 (i := 67) (by decide +kernel) rfl, TB_3 (i := 68) (by decide +kernel) rfl⟩
def M_J0_length_8abf5 : pM := (yJ0_length_8abf5, cJ0_length_8abf5, 1, (Option.some Jvm.ClassFile.FieldType.int))
theorem MV_J0_length_8abf5 : MVI M_J0_length_8abf5 0 := ⟨⟨TB_3 (i := 75) (by decide +kernel) rfl, TB_1 (i := 14) (by decide +kernel) rfl, Nat.le_of_ble_eq_true rfl, by decide +kernel⟩, TB_3 (i := 73) (by decide +kernel) rfl, TB_3 (i := 74) (by decide +kernel) rfl⟩
def M_J0_coder_7d493 : pM := (yJ0_coder_7d493, cJ0_coder_7d493, 1, (Option.some Jvm.ClassFile.FieldType.byte))
theorem MV_J0_coder_7d493 : MVI M_J0_coder_7d493 0 := ⟨⟨TB_3 (i := 79) (by decide +kernel) rfl, TB_1 (i := 14) (by decide +kernel) rfl, Nat.le_of_ble_eq_true rfl, by decide +kernel⟩, TB_3 (i := 77) (by decide +kernel) rfl, TB_3 (i := 78) (by decide +kernel) rfl⟩
def M_J1_indexOf_4cfef : pM := (yJ1_indexOf_4cfef, cJ1_indexOf_4cfef, 4, (Option.some Jvm.ClassFile.FieldType.int))
theorem MS_J1_indexOf_4cfef : MST M_J1_indexOf_4cfef 4 := ⟨⟨TB_3 (i := 82) (by decide +kernel) rfl, TB_1 (i := 15) (by decide +kernel) rfl, Nat.le_of_ble_eq_true rfl, by decide +kernel⟩, TB_3 (i := 81) (by decide +kernel) rfl⟩
def M_J1_canEncode_9a6ad : pM := (yJ1_canEncode_9a6ad, cJ1_canEncode_9a6ad, 1, (Option.some Jvm.ClassFile.FieldType.boolean))
theorem MS_J1_canEncode_9a6ad : MST M_J1_canEncode_9a6ad 1 := ⟨⟨TB_3 (i := 85) (by decide +kernel) rfl, TB_1 (i := 15) (by decide +kernel) rfl, Nat.le_of_ble_eq_true rfl, by decide +kernel⟩, TB_3 (i := 84) (by decide +kernel) rfl⟩
def M_J1_indexOfChar_4cfef : pM := (yJ1_indexOfChar_4cfef, cJ1_indexOfChar_4cfef, 6, (Option.some Jvm.ClassFile.FieldType.int))
theorem MS_J1_indexOfChar_4cfef : MST M_J1_indexOfChar_4cfef 4 := ⟨⟨TB_3 (i := 94) (by decide +kernel) rfl, TB_1 (i := 15) (by decide +kernel) rfl, Nat.le_of_ble_eq_true rfl, by decide +kernel⟩, TB_3 (i := 93) (by decide +kernel) rfl⟩
def M_J0_checkBoundsBeginEnd_23922 : pM := (yJ0_checkBoundsBeginEnd_23922, cJ0_checkBoundsBeginEnd_23922, 3, (Option.none : Option Jvm.ClassFile.FieldType))
theorem MS_J0_checkBoundsBeginEnd_23922 : MST M_J0_checkBoundsBeginEnd_23922 3 := ⟨⟨TB_3 (i := 112) (by decide +kernel) rfl, TB_1 (i := 14) (by decide +kernel) rfl, Nat.le_of_ble_eq_true rfl, by decide +kernel⟩, TB_3 (i := 111) (by decide +kernel) rfl⟩
def M_X3_addLetter : pM := (yX3_addLetter, cX3_addLetter, 2, (Option.none : Option Jvm.ClassFile.FieldType))
theorem MV_X3_addLetter : MVI M_X3_addLetter 1 := ⟨⟨TB_3 (i := 147) (by decide +kernel) rfl, TB_1 (i := 4) (by decide +kernel) rfl, Nat.le_of_ble_eq_true rfl, by decide +kernel⟩, TB_3 (i := 145) (by decide +kernel) rfl, TB_3 (i := 146) (by decide +kernel) rfl⟩
def M_X3_add : pM := (yX3_add, cX3_add, 3, (Option.none : Option Jvm.ClassFile.FieldType))
theorem MV_X3_add : MVI M_X3_add 2 := ⟨⟨TB_3 (i := 151) (by decide +kernel) rfl, TB_1 (i := 4) (by decide +kernel) rfl, Nat.le_of_ble_eq_true rfl, by decide +kernel⟩, TB_3 (i := 149) (by decide +kernel) rfl, TB_3 (i := 150) (by decide +kernel) rfl⟩
def M_X9_number : pM := (yX9_number, cX9_number, 4, (Option.some Jvm.ClassFile.FieldType.int))
theorem MV_X9_number : MVI M_X9_number 1 := ⟨⟨TB_3 (i := 155) (by decide +kernel) rfl, TB_1 (i := 2) (by decide +kernel) rfl, Nat.le_of_ble_eq_true rfl, by decide +kernel⟩, TB_3 (i := 153) (by decide +kernel) rfl, TB_3 (i := 154) (by decide +kernel) rfl⟩
def M_X9_onDigit : pM := (yX9_onDigit, cX9_onDigit, 2, (Option.some Jvm.ClassFile.FieldType.boolean))
theorem MV_X9_onDigit : MVI M_X9_onDigit 0 := ⟨⟨TB_3 (i := 159) (by decide +kernel) rfl, TB_1 (i := 2) (by decide +kernel) rfl, Nat.le_of_ble_eq_true rfl, by decide +kernel⟩, TB_3 (i := 157) (by decide +kernel) rfl, TB_3 (i := 158) (by decide +kernel) rfl⟩
def M_X3_openCondition : pM := (yX3_openCondition, cX3_openCondition, 1, (Option.none : Option Jvm.ClassFile.FieldType))
theorem MV_X3_openCondition : MVI M_X3_openCondition 0 := ⟨⟨TB_3 (i := 164) (by decide +kernel) rfl, TB_1 (i := 4) (by decide +kernel) rfl, Nat.le_of_ble_eq_true rfl, by decide +kernel⟩, TB_3 (i := 162) (by decide +kernel) rfl, TB_3 (i := 163) (by decide +kernel) rfl⟩
def M_X4_readChoice : pM := (yX4_readChoice, cX4_readChoice, 4, (Option.none : Option Jvm.ClassFile.FieldType))
theorem MV_X4_readChoice : MVI M_X4_readChoice 1 := ⟨⟨TB_3 (i := 168) (by decide +kernel) rfl, TB_1 (i := 5) (by decide +kernel) rfl, Nat.le_of_ble_eq_true rfl, by decide +kernel⟩, TB_3 (i := 167) (by decide +kernel) rfl, TB_of (i := 4) (by decide +kernel) rfl⟩
def M_X4_readPart : pM := (yX4_readPart, cX4_readPart, 4, (Option.none : Option Jvm.ClassFile.FieldType))
theorem MV_X4_readPart : MVI M_X4_readPart 1 := ⟨⟨TB_3 (i := 172) (by decide +kernel) rfl, TB_1 (i := 5) (by decide +kernel) rfl, Nat.le_of_ble_eq_true rfl, by decide +kernel⟩, TB_3 (i := 171) (by decide +kernel) rfl, TB_of (i := 5) (by decide +kernel) rfl⟩
def M_X4_readPiece : pM := (yX4_readPiece, cX4_readPiece, 4, (Option.none : Option Jvm.ClassFile.FieldType))
theorem MV_X4_readPiece : MVI M_X4_readPiece 1 := ⟨⟨TB_3 (i := 176) (by decide +kernel) rfl, TB_1 (i := 5) (by decide +kernel) rfl, Nat.le_of_ble_eq_true rfl, by decide +kernel⟩, TB_3 (i := 175) (by decide +kernel) rfl, TB_of (i := 6) (by decide +kernel) rfl⟩
def M_X4_readInside : pM := (yX4_readInside, cX4_readInside, 3, (Option.none : Option Jvm.ClassFile.FieldType))
theorem MV_X4_readInside : MVI M_X4_readInside 2 := ⟨⟨TB_3 (i := 180) (by decide +kernel) rfl, TB_1 (i := 5) (by decide +kernel) rfl, Nat.le_of_ble_eq_true rfl, by decide +kernel⟩, TB_3 (i := 179) (by decide +kernel) rfl, TB_of (i := 7) (by decide +kernel) rfl⟩
def M_X3_addSkip : pM := (yX3_addSkip, cX3_addSkip, 3, (Option.some Jvm.ClassFile.FieldType.int))
theorem MV_X3_addSkip : MVI M_X3_addSkip 2 := ⟨⟨TB_3 (i := 184) (by decide +kernel) rfl, TB_1 (i := 4) (by decide +kernel) rfl, Nat.le_of_ble_eq_true rfl, by decide +kernel⟩, TB_3 (i := 182) (by decide +kernel) rfl, TB_3 (i := 183) (by decide +kernel) rfl⟩
def M_X3_endSkipsHere : pM := (yX3_endSkipsHere, cX3_endSkipsHere, 5, (Option.none : Option Jvm.ClassFile.FieldType))
theorem MV_X3_endSkipsHere : MVI M_X3_endSkipsHere 1 := ⟨⟨TB_3 (i := 188) (by decide +kernel) rfl, TB_1 (i := 4) (by decide +kernel) rfl, Nat.le_of_ble_eq_true rfl, by decide +kernel⟩, TB_3 (i := 186) (by decide +kernel) rfl, TB_3 (i := 187) (by decide +kernel) rfl⟩
def M_X3_closeClause : pM := (yX3_closeClause, cX3_closeClause, 1, (Option.none : Option Jvm.ClassFile.FieldType))
theorem MV_X3_closeClause : MVI M_X3_closeClause 0 := ⟨⟨TB_3 (i := 194) (by decide +kernel) rfl, TB_1 (i := 4) (by decide +kernel) rfl, Nat.le_of_ble_eq_true rfl, by decide +kernel⟩, TB_3 (i := 192) (by decide +kernel) rfl, TB_3 (i := 193) (by decide +kernel) rfl⟩
def M_X9_atEnd : pM := (yX9_atEnd, cX9_atEnd, 1, (Option.some Jvm.ClassFile.FieldType.boolean))
theorem MV_X9_atEnd : MVI M_X9_atEnd 0 := ⟨⟨TB_3 (i := 198) (by decide +kernel) rfl, TB_1 (i := 2) (by decide +kernel) rfl, Nat.le_of_ble_eq_true rfl, by decide +kernel⟩, TB_3 (i := 196) (by decide +kernel) rfl, TB_3 (i := 197) (by decide +kernel) rfl⟩
def M_X9_clear : pM := (yX9_clear, cX9_clear, 1, (Option.none : Option Jvm.ClassFile.FieldType))
theorem MV_X9_clear : MVI M_X9_clear 0 := ⟨⟨TB_3 (i := 202) (by decide +kernel) rfl, TB_1 (i := 2) (by decide +kernel) rfl, Nat.le_of_ble_eq_true rfl, by decide +kernel⟩, TB_3 (i := 200) (by decide +kernel) rfl, TB_3 (i := 201) (by decide +kernel) rfl⟩
def M_X9_faultTold : pM := (yX9_faultTold, cX9_faultTold, 1, (Option.some Jvm.ClassFile.FieldType.int))
theorem MV_X9_faultTold : MVI M_X9_faultTold 0 := ⟨⟨TB_3 (i := 207) (by decide +kernel) rfl, TB_1 (i := 2) (by decide +kernel) rfl, Nat.le_of_ble_eq_true rfl, by decide +kernel⟩, TB_3 (i := 205) (by decide +kernel) rfl, TB_3 (i := 206) (by decide +kernel) rfl⟩
def M_X1_takeSpareLaw : pM := (yX1_takeSpareLaw, cX1_takeSpareLaw, 2, (Option.none : Option Jvm.ClassFile.FieldType))
theorem MV_X1_takeSpareLaw : MVI M_X1_takeSpareLaw 0 := ⟨⟨TB_3 (i := 211) (by decide +kernel) rfl, TB_1 (i := 3) (by decide +kernel) rfl, Nat.le_of_ble_eq_true rfl, by decide +kernel⟩, TB_3 (i := 209) (by decide +kernel) rfl, TB_3 (i := 210) (by decide +kernel) rfl⟩
def M_X3_clauses : pM := (yX3_clauses, cX3_clauses, 1, (Option.some Jvm.ClassFile.FieldType.int))
theorem MV_X3_clauses : MVI M_X3_clauses 0 := ⟨⟨TB_3 (i := 215) (by decide +kernel) rfl, TB_1 (i := 4) (by decide +kernel) rfl, Nat.le_of_ble_eq_true rfl, by decide +kernel⟩, TB_3 (i := 213) (by decide +kernel) rfl, TB_3 (i := 214) (by decide +kernel) rfl⟩
def M_X11_program : pM := (yX11_program, cX11_program, 4, (Option.some Jvm.ClassFile.FieldType.int))
theorem MV_X11_program : MVI M_X11_program 2 := ⟨⟨TB_3 (i := 220) (by decide +kernel) rfl, TB_1 (i := 1) (by decide +kernel) rfl, Nat.le_of_ble_eq_true rfl, by decide +kernel⟩, TB_3 (i := 218) (by decide +kernel) rfl, TB_3 (i := 219) (by decide +kernel) rfl⟩
def M_X11_programOf : pM := (yX11_programOf, cX11_programOf, 2, (Option.some (Jvm.ClassFile.FieldType.object "HullTank$Program")))
theorem MV_X11_programOf : MVI M_X11_programOf 1 := ⟨⟨TB_3 (i := 224) (by decide +kernel) rfl, TB_1 (i := 1) (by decide +kernel) rfl, Nat.le_of_ble_eq_true rfl, by decide +kernel⟩, TB_3 (i := 223) (by decide +kernel) rfl, TB_of (i := 8) (by decide +kernel) rfl⟩
def M_X6_read : pM := (yX6_read, cX6_read, 3, (Option.none : Option Jvm.ClassFile.FieldType))
theorem MV_X6_read : MVI M_X6_read 1 := ⟨⟨TB_3 (i := 228) (by decide +kernel) rfl, TB_1 (i := 6) (by decide +kernel) rfl, Nat.le_of_ble_eq_true rfl, by decide +kernel⟩, TB_3 (i := 226) (by decide +kernel) rfl, TB_3 (i := 227) (by decide +kernel) rfl⟩
def M_X6_readPart : pM := (yX6_readPart, cX6_readPart, 6, (Option.none : Option Jvm.ClassFile.FieldType))
theorem MV_X6_readPart : MVI M_X6_readPart 2 := ⟨⟨TB_3 (i := 233) (by decide +kernel) rfl, TB_1 (i := 6) (by decide +kernel) rfl, Nat.le_of_ble_eq_true rfl, by decide +kernel⟩, TB_3 (i := 232) (by decide +kernel) rfl, TB_of (i := 9) (by decide +kernel) rfl⟩
def M_X6_copy : pM := (yX6_copy, cX6_copy, 3, (Option.none : Option Jvm.ClassFile.FieldType))
theorem MV_X6_copy : MVI M_X6_copy 1 := ⟨⟨TB_4 (i := 5) (by decide +kernel) rfl, TB_1 (i := 6) (by decide +kernel) rfl, Nat.le_of_ble_eq_true rfl, by decide +kernel⟩, TB_4 (i := 3) (by decide +kernel) rfl, TB_4 (i := 4) (by decide +kernel) rfl⟩
def M_X6_pulls : pM := (yX6_pulls, cX6_pulls, 1, (Option.some Jvm.ClassFile.FieldType.int))
theorem MV_X6_pulls : MVI M_X6_pulls 0 := ⟨⟨TB_4 (i := 10) (by decide +kernel) rfl, TB_1 (i := 6) (by decide +kernel) rfl, Nat.le_of_ble_eq_true rfl, by decide +kernel⟩, TB_4 (i := 8) (by decide +kernel) rfl, TB_4 (i := 9) (by decide +kernel) rfl⟩
def M_X11_pull : pM := (yX11_pull, cX11_pull, 4, (Option.some Jvm.ClassFile.FieldType.int))
theorem MV_X11_pull : MVI M_X11_pull 3 := ⟨⟨TB_4 (i := 14) (by decide +kernel) rfl, TB_1 (i := 1) (by decide +kernel) rfl, Nat.le_of_ble_eq_true rfl, by decide +kernel⟩, TB_4 (i := 12) (by decide +kernel) rfl, TB_4 (i := 13) (by decide +kernel) rfl⟩
def M_X8_begin : pM := (yX8_begin, cX8_begin, 3, (Option.none : Option Jvm.ClassFile.FieldType))
theorem MV_X8_begin : MVI M_X8_begin 2 := ⟨⟨TB_4 (i := 18) (by decide +kernel) rfl, TB_1 (i := 8) (by decide +kernel) rfl, Nat.le_of_ble_eq_true rfl, by decide +kernel⟩, TB_4 (i := 16) (by decide +kernel) rfl, TB_4 (i := 17) (by decide +kernel) rfl⟩
def M_X8_reckon : pM := (yX8_reckon, cX8_reckon, 3, (Option.none : Option Jvm.ClassFile.FieldType))
theorem MV_X8_reckon : MVI M_X8_reckon 1 := ⟨⟨TB_4 (i := 22) (by decide +kernel) rfl, TB_1 (i := 8) (by decide +kernel) rfl, Nat.le_of_ble_eq_true rfl, by decide +kernel⟩, TB_4 (i := 20) (by decide +kernel) rfl, TB_4 (i := 21) (by decide +kernel) rfl⟩
def M_X1_lawNow : pM := (yX1_lawNow, cX1_lawNow, 1, (Option.some (Jvm.ClassFile.FieldType.object "HullTank$Law")))
theorem MV_X1_lawNow : MVI M_X1_lawNow 0 := ⟨⟨TB_4 (i := 26) (by decide +kernel) rfl, TB_1 (i := 3) (by decide +kernel) rfl, Nat.le_of_ble_eq_true rfl, by decide +kernel⟩, TB_4 (i := 24) (by decide +kernel) rfl, TB_4 (i := 25) (by decide +kernel) rfl⟩
def M_X1_tellLaw : pM := (yX1_tellLaw, cX1_tellLaw, 2, (Option.none : Option Jvm.ClassFile.FieldType))
theorem MV_X1_tellLaw : MVI M_X1_tellLaw 1 := ⟨⟨TB_4 (i := 30) (by decide +kernel) rfl, TB_1 (i := 3) (by decide +kernel) rfl, Nat.le_of_ble_eq_true rfl, by decide +kernel⟩, TB_4 (i := 28) (by decide +kernel) rfl, TB_4 (i := 29) (by decide +kernel) rfl⟩
def M_X3_setCorner : pM := (yX3_setCorner, cX3_setCorner, 5, (Option.none : Option Jvm.ClassFile.FieldType))
theorem MV_X3_setCorner : MVI M_X3_setCorner 4 := ⟨⟨TB_4 (i := 34) (by decide +kernel) rfl, TB_1 (i := 4) (by decide +kernel) rfl, Nat.le_of_ble_eq_true rfl, by decide +kernel⟩, TB_4 (i := 32) (by decide +kernel) rfl, TB_4 (i := 33) (by decide +kernel) rfl⟩
def M_X3_setState : pM := (yX3_setState, cX3_setState, 6, (Option.none : Option Jvm.ClassFile.FieldType))
theorem MV_X3_setState : MVI M_X3_setState 5 := ⟨⟨TB_4 (i := 38) (by decide +kernel) rfl, TB_1 (i := 4) (by decide +kernel) rfl, Nat.le_of_ble_eq_true rfl, by decide +kernel⟩, TB_4 (i := 36) (by decide +kernel) rfl, TB_4 (i := 37) (by decide +kernel) rfl⟩
def M_X3_amount : pM := (yX3_amount, cX3_amount, 4, (Option.some Jvm.ClassFile.FieldType.int))
theorem MV_X3_amount : MVI M_X3_amount 2 := ⟨⟨TB_4 (i := 42) (by decide +kernel) rfl, TB_1 (i := 4) (by decide +kernel) rfl, Nat.le_of_ble_eq_true rfl, by decide +kernel⟩, TB_4 (i := 40) (by decide +kernel) rfl, TB_4 (i := 41) (by decide +kernel) rfl⟩
def M_X3_run : pM := (yX3_run, cX3_run, 6, (Option.none : Option Jvm.ClassFile.FieldType))
theorem MV_X3_run : MVI M_X3_run 2 := ⟨⟨TB_4 (i := 46) (by decide +kernel) rfl, TB_1 (i := 4) (by decide +kernel) rfl, Nat.le_of_ble_eq_true rfl, by decide +kernel⟩, TB_4 (i := 45) (by decide +kernel) rfl, TB_of (i := 10) (by decide +kernel) rfl⟩
def M_X3_push : pM := (yX3_push, cX3_push, 2, (Option.none : Option Jvm.ClassFile.FieldType))
theorem MV_X3_push : MVI M_X3_push 1 := ⟨⟨TB_4 (i := 51) (by decide +kernel) rfl, TB_1 (i := 4) (by decide +kernel) rfl, Nat.le_of_ble_eq_true rfl, by decide +kernel⟩, TB_4 (i := 50) (by decide +kernel) rfl, TB_of (i := 11) (by decide +kernel) rfl⟩
def M_X3_reckon : pM := (yX3_reckon, cX3_reckon, 4, (Option.none : Option Jvm.ClassFile.FieldType))
theorem MV_X3_reckon : MVI M_X3_reckon 1 := ⟨⟨TB_4 (i := 56) (by decide +kernel) rfl, TB_1 (i := 4) (by decide +kernel) rfl, Nat.le_of_ble_eq_true rfl, by decide +kernel⟩, TB_4 (i := 55) (by decide +kernel) rfl, TB_of (i := 12) (by decide +kernel) rfl⟩
def M_X3_setPulled : pM := (yX3_setPulled, cX3_setPulled, 2, (Option.none : Option Jvm.ClassFile.FieldType))
theorem MV_X3_setPulled : MVI M_X3_setPulled 1 := ⟨⟨TB_4 (i := 61) (by decide +kernel) rfl, TB_1 (i := 4) (by decide +kernel) rfl, Nat.le_of_ble_eq_true rfl, by decide +kernel⟩, TB_4 (i := 59) (by decide +kernel) rfl, TB_4 (i := 60) (by decide +kernel) rfl⟩
def M_X8_pulled : pM := (yX8_pulled, cX8_pulled, 1, (Option.some Jvm.ClassFile.FieldType.int))
theorem MV_X8_pulled : MVI M_X8_pulled 0 := ⟨⟨TB_4 (i := 66) (by decide +kernel) rfl, TB_1 (i := 8) (by decide +kernel) rfl, Nat.le_of_ble_eq_true rfl, by decide +kernel⟩, TB_4 (i := 64) (by decide +kernel) rfl, TB_4 (i := 65) (by decide +kernel) rfl⟩
def M_X8_more : pM := (yX8_more, cX8_more, 1, (Option.some Jvm.ClassFile.FieldType.int))
theorem MV_X8_more : MVI M_X8_more 0 := ⟨⟨TB_4 (i := 70) (by decide +kernel) rfl, TB_1 (i := 8) (by decide +kernel) rfl, Nat.le_of_ble_eq_true rfl, by decide +kernel⟩, TB_4 (i := 68) (by decide +kernel) rfl, TB_4 (i := 69) (by decide +kernel) rfl⟩
def M_X11_hull : pM := (yX11_hull, cX11_hull, 2, (Option.some Jvm.ClassFile.FieldType.int))
theorem MV_X11_hull : MVI M_X11_hull 1 := ⟨⟨TB_4 (i := 74) (by decide +kernel) rfl, TB_1 (i := 1) (by decide +kernel) rfl, Nat.le_of_ble_eq_true rfl, by decide +kernel⟩, TB_4 (i := 72) (by decide +kernel) rfl, TB_4 (i := 73) (by decide +kernel) rfl⟩
def M_X1_fits : pM := (yX1_fits, cX1_fits, 4, (Option.some Jvm.ClassFile.FieldType.boolean))
theorem MV_X1_fits : MVI M_X1_fits 1 := ⟨⟨TB_4 (i := 78) (by decide +kernel) rfl, TB_1 (i := 3) (by decide +kernel) rfl, Nat.le_of_ble_eq_true rfl, by decide +kernel⟩, TB_4 (i := 76) (by decide +kernel) rfl, TB_4 (i := 77) (by decide +kernel) rfl⟩
def M_X2_add : pM := (yX2_add, cX2_add, 4, (Option.some Jvm.ClassFile.FieldType.int))
theorem MV_X2_add : MVI M_X2_add 1 := ⟨⟨TB_4 (i := 82) (by decide +kernel) rfl, TB_1 (i := 7) (by decide +kernel) rfl, Nat.le_of_ble_eq_true rfl, by decide +kernel⟩, TB_4 (i := 80) (by decide +kernel) rfl, TB_4 (i := 81) (by decide +kernel) rfl⟩
def M_X2_strainOf : pM := (yX2_strainOf, cX2_strainOf, 4, (Option.some (Jvm.ClassFile.FieldType.object "HullTank$Strain")))
theorem MV_X2_strainOf : MVI M_X2_strainOf 2 := ⟨⟨TB_4 (i := 87) (by decide +kernel) rfl, TB_1 (i := 7) (by decide +kernel) rfl, Nat.le_of_ble_eq_true rfl, by decide +kernel⟩, TB_4 (i := 86) (by decide +kernel) rfl, TB_of (i := 13) (by decide +kernel) rfl⟩
def M_X1_lifeOf : pM := (yX1_lifeOf, cX1_lifeOf, 3, (Option.some Jvm.ClassFile.FieldType.int))
theorem MV_X1_lifeOf : MVI M_X1_lifeOf 2 := ⟨⟨TB_4 (i := 91) (by decide +kernel) rfl, TB_1 (i := 3) (by decide +kernel) rfl, Nat.le_of_ble_eq_true rfl, by decide +kernel⟩, TB_4 (i := 89) (by decide +kernel) rfl, TB_4 (i := 90) (by decide +kernel) rfl⟩
def M_X1_hasLife : pM := (yX1_hasLife, cX1_hasLife, 3, (Option.some Jvm.ClassFile.FieldType.boolean))
theorem MV_X1_hasLife : MVI M_X1_hasLife 2 := ⟨⟨TB_4 (i := 95) (by decide +kernel) rfl, TB_1 (i := 3) (by decide +kernel) rfl, Nat.le_of_ble_eq_true rfl, by decide +kernel⟩, TB_4 (i := 93) (by decide +kernel) rfl, TB_4 (i := 94) (by decide +kernel) rfl⟩
def M_X11_flown : pM := (yX11_flown, cX11_flown, 4, (Option.some Jvm.ClassFile.FieldType.int))
theorem MV_X11_flown : MVI M_X11_flown 3 := ⟨⟨TB_4 (i := 102) (by decide +kernel) rfl, TB_1 (i := 1) (by decide +kernel) rfl, Nat.le_of_ble_eq_true rfl, by decide +kernel⟩, TB_4 (i := 100) (by decide +kernel) rfl, TB_4 (i := 101) (by decide +kernel) rfl⟩
def M_X2_has : pM := (yX2_has, cX2_has, 2, (Option.some Jvm.ClassFile.FieldType.boolean))
theorem MV_X2_has : MVI M_X2_has 1 := ⟨⟨TB_4 (i := 106) (by decide +kernel) rfl, TB_1 (i := 7) (by decide +kernel) rfl, Nat.le_of_ble_eq_true rfl, by decide +kernel⟩, TB_4 (i := 104) (by decide +kernel) rfl, TB_4 (i := 105) (by decide +kernel) rfl⟩
def M_X2_lostBy : pM := (yX2_lostBy, cX2_lostBy, 2, (Option.some Jvm.ClassFile.FieldType.int))
theorem MV_X2_lostBy : MVI M_X2_lostBy 1 := ⟨⟨TB_4 (i := 110) (by decide +kernel) rfl, TB_1 (i := 7) (by decide +kernel) rfl, Nat.le_of_ble_eq_true rfl, by decide +kernel⟩, TB_4 (i := 108) (by decide +kernel) rfl, TB_4 (i := 109) (by decide +kernel) rfl⟩
def M_X2_pulls : pM := (yX2_pulls, cX2_pulls, 2, (Option.some Jvm.ClassFile.FieldType.int))
theorem MV_X2_pulls : MVI M_X2_pulls 1 := ⟨⟨TB_4 (i := 115) (by decide +kernel) rfl, TB_1 (i := 7) (by decide +kernel) rfl, Nat.le_of_ble_eq_true rfl, by decide +kernel⟩, TB_4 (i := 113) (by decide +kernel) rfl, TB_4 (i := 114) (by decide +kernel) rfl⟩
def M_X2_goOn : pM := (yX2_goOn, cX2_goOn, 6, (Option.some Jvm.ClassFile.FieldType.int))
theorem MV_X2_goOn : MVI M_X2_goOn 3 := ⟨⟨TB_4 (i := 120) (by decide +kernel) rfl, TB_1 (i := 7) (by decide +kernel) rfl, Nat.le_of_ble_eq_true rfl, by decide +kernel⟩, TB_4 (i := 118) (by decide +kernel) rfl, TB_4 (i := 119) (by decide +kernel) rfl⟩
def M_X8_forget : pM := (yX8_forget, cX8_forget, 1, (Option.none : Option Jvm.ClassFile.FieldType))
theorem MV_X8_forget : MVI M_X8_forget 0 := ⟨⟨TB_4 (i := 124) (by decide +kernel) rfl, TB_1 (i := 8) (by decide +kernel) rfl, Nat.le_of_ble_eq_true rfl, by decide +kernel⟩, TB_4 (i := 122) (by decide +kernel) rfl, TB_4 (i := 123) (by decide +kernel) rfl⟩
def M_X2_pullAll : pM := (yX2_pullAll, cX2_pullAll, 6, (Option.some Jvm.ClassFile.FieldType.int))
theorem MV_X2_pullAll : MVI M_X2_pullAll 2 := ⟨⟨TB_4 (i := 129) (by decide +kernel) rfl, TB_1 (i := 7) (by decide +kernel) rfl, Nat.le_of_ble_eq_true rfl, by decide +kernel⟩, TB_4 (i := 128) (by decide +kernel) rfl, TB_of (i := 14) (by decide +kernel) rfl⟩
def M_X8_pullBy : pM := (yX8_pullBy, cX8_pullBy, 2, (Option.none : Option Jvm.ClassFile.FieldType))
theorem MV_X8_pullBy : MVI M_X8_pullBy 1 := ⟨⟨TB_4 (i := 133) (by decide +kernel) rfl, TB_1 (i := 8) (by decide +kernel) rfl, Nat.le_of_ble_eq_true rfl, by decide +kernel⟩, TB_4 (i := 131) (by decide +kernel) rfl, TB_4 (i := 132) (by decide +kernel) rfl⟩
def M_X8_isLikeBefore : pM := (yX8_isLikeBefore, cX8_isLikeBefore, 3, (Option.some Jvm.ClassFile.FieldType.boolean))
theorem MV_X8_isLikeBefore : MVI M_X8_isLikeBefore 1 := ⟨⟨TB_4 (i := 137) (by decide +kernel) rfl, TB_1 (i := 8) (by decide +kernel) rfl, Nat.le_of_ble_eq_true rfl, by decide +kernel⟩, TB_4 (i := 136) (by decide +kernel) rfl, TB_of (i := 15) (by decide +kernel) rfl⟩
def M_X3_uses : pM := (yX3_uses, cX3_uses, 2, (Option.some Jvm.ClassFile.FieldType.boolean))
theorem MV_X3_uses : MVI M_X3_uses 1 := ⟨⟨TB_4 (i := 141) (by decide +kernel) rfl, TB_1 (i := 4) (by decide +kernel) rfl, Nat.le_of_ble_eq_true rfl, by decide +kernel⟩, TB_4 (i := 139) (by decide +kernel) rfl, TB_4 (i := 140) (by decide +kernel) rfl⟩
def M_X1_reachOf : pM := (yX1_reachOf, cX1_reachOf, 2, (Option.some Jvm.ClassFile.FieldType.int))
theorem MV_X1_reachOf : MVI M_X1_reachOf 1 := ⟨⟨TB_4 (i := 149) (by decide +kernel) rfl, TB_1 (i := 3) (by decide +kernel) rfl, Nat.le_of_ble_eq_true rfl, by decide +kernel⟩, TB_4 (i := 147) (by decide +kernel) rfl, TB_4 (i := 148) (by decide +kernel) rfl⟩
def M_X8_ranBy : pM := (yX8_ranBy, cX8_ranBy, 1, (Option.some Jvm.ClassFile.FieldType.int))
theorem MV_X8_ranBy : MVI M_X8_ranBy 0 := ⟨⟨TB_4 (i := 153) (by decide +kernel) rfl, TB_1 (i := 8) (by decide +kernel) rfl, Nat.le_of_ble_eq_true rfl, by decide +kernel⟩, TB_4 (i := 151) (by decide +kernel) rfl, TB_4 (i := 152) (by decide +kernel) rfl⟩
def M_X11_hullIs : pM := (yX11_hullIs, cX11_hullIs, 3, (Option.some Jvm.ClassFile.FieldType.int))
theorem MV_X11_hullIs : MVI M_X11_hullIs 2 := ⟨⟨TB_4 (i := 158) (by decide +kernel) rfl, TB_1 (i := 1) (by decide +kernel) rfl, Nat.le_of_ble_eq_true rfl, by decide +kernel⟩, TB_4 (i := 156) (by decide +kernel) rfl, TB_4 (i := 157) (by decide +kernel) rfl⟩
def M_X11_cornerIs : pM := (yX11_cornerIs, cX11_cornerIs, 4, (Option.some Jvm.ClassFile.FieldType.int))
theorem MV_X11_cornerIs : MVI M_X11_cornerIs 3 := ⟨⟨TB_4 (i := 162) (by decide +kernel) rfl, TB_1 (i := 1) (by decide +kernel) rfl, Nat.le_of_ble_eq_true rfl, by decide +kernel⟩, TB_4 (i := 160) (by decide +kernel) rfl, TB_4 (i := 161) (by decide +kernel) rfl⟩
def M_X2_stateOf : pM := (yX2_stateOf, cX2_stateOf, 5, (Option.some Jvm.ClassFile.FieldType.int))
theorem MV_X2_stateOf : MVI M_X2_stateOf 3 := ⟨⟨TB_4 (i := 166) (by decide +kernel) rfl, TB_1 (i := 7) (by decide +kernel) rfl, Nat.le_of_ble_eq_true rfl, by decide +kernel⟩, TB_4 (i := 164) (by decide +kernel) rfl, TB_4 (i := 165) (by decide +kernel) rfl⟩
def M_X8_wear : pM := (yX8_wear, cX8_wear, 1, (Option.some Jvm.ClassFile.FieldType.int))
theorem MV_X8_wear : MVI M_X8_wear 0 := ⟨⟨TB_4 (i := 170) (by decide +kernel) rfl, TB_1 (i := 8) (by decide +kernel) rfl, Nat.le_of_ble_eq_true rfl, by decide +kernel⟩, TB_4 (i := 168) (by decide +kernel) rfl, TB_4 (i := 169) (by decide +kernel) rfl⟩
def M_X8_crack : pM := (yX8_crack, cX8_crack, 1, (Option.some Jvm.ClassFile.FieldType.int))
theorem MV_X8_crack : MVI M_X8_crack 0 := ⟨⟨TB_4 (i := 174) (by decide +kernel) rfl, TB_1 (i := 8) (by decide +kernel) rfl, Nat.le_of_ble_eq_true rfl, by decide +kernel⟩, TB_4 (i := 172) (by decide +kernel) rfl, TB_4 (i := 173) (by decide +kernel) rfl⟩
def M_X8_most : pM := (yX8_most, cX8_most, 1, (Option.some Jvm.ClassFile.FieldType.int))
theorem MV_X8_most : MVI M_X8_most 0 := ⟨⟨TB_4 (i := 178) (by decide +kernel) rfl, TB_1 (i := 8) (by decide +kernel) rfl, Nat.le_of_ble_eq_true rfl, by decide +kernel⟩, TB_4 (i := 176) (by decide +kernel) rfl, TB_4 (i := 177) (by decide +kernel) rfl⟩
def M_X11_runs : pM := (yX11_runs, cX11_runs, 6, (Option.some Jvm.ClassFile.FieldType.int))
theorem MV_X11_runs : MVI M_X11_runs 4 := ⟨⟨TB_4 (i := 182) (by decide +kernel) rfl, TB_1 (i := 1) (by decide +kernel) rfl, Nat.le_of_ble_eq_true rfl, by decide +kernel⟩, TB_4 (i := 180) (by decide +kernel) rfl, TB_4 (i := 181) (by decide +kernel) rfl⟩
def M_X5_crackedBy : pM := (yX5_crackedBy, cX5_crackedBy, 4, (Option.some Jvm.ClassFile.FieldType.int))
theorem MV_X5_crackedBy : MVI M_X5_crackedBy 3 := ⟨⟨TB_4 (i := 187) (by decide +kernel) rfl, TB_1 (i := 9) (by decide +kernel) rfl, Nat.le_of_ble_eq_true rfl, by decide +kernel⟩, TB_4 (i := 185) (by decide +kernel) rfl, TB_4 (i := 186) (by decide +kernel) rfl⟩
def M_X6_layOut : pM := (yX6_layOut, cX6_layOut, 7, (Option.none : Option Jvm.ClassFile.FieldType))
theorem MV_X6_layOut : MVI M_X6_layOut 3 := ⟨⟨TB_4 (i := 191) (by decide +kernel) rfl, TB_1 (i := 6) (by decide +kernel) rfl, Nat.le_of_ble_eq_true rfl, by decide +kernel⟩, TB_4 (i := 189) (by decide +kernel) rfl, TB_4 (i := 190) (by decide +kernel) rfl⟩
def M_X5_follow : pM := (yX5_follow, cX5_follow, 5, (Option.none : Option Jvm.ClassFile.FieldType))
theorem MV_X5_follow : MVI M_X5_follow 3 := ⟨⟨TB_4 (i := 196) (by decide +kernel) rfl, TB_1 (i := 9) (by decide +kernel) rfl, Nat.le_of_ble_eq_true rfl, by decide +kernel⟩, TB_4 (i := 195) (by decide +kernel) rfl, TB_of (i := 16) (by decide +kernel) rfl⟩
def M_X8_crackedBy : pM := (yX8_crackedBy, cX8_crackedBy, 1, (Option.some Jvm.ClassFile.FieldType.int))
theorem MV_X8_crackedBy : MVI M_X8_crackedBy 0 := ⟨⟨TB_4 (i := 204) (by decide +kernel) rfl, TB_1 (i := 8) (by decide +kernel) rfl, Nat.le_of_ble_eq_true rfl, by decide +kernel⟩, TB_4 (i := 202) (by decide +kernel) rfl, TB_4 (i := 203) (by decide +kernel) rfl⟩
def M_X5_ranBy : pM := (yX5_ranBy, cX5_ranBy, 4, (Option.some Jvm.ClassFile.FieldType.int))
theorem MV_X5_ranBy : MVI M_X5_ranBy 3 := ⟨⟨TB_4 (i := 208) (by decide +kernel) rfl, TB_1 (i := 9) (by decide +kernel) rfl, Nat.le_of_ble_eq_true rfl, by decide +kernel⟩, TB_4 (i := 206) (by decide +kernel) rfl, TB_4 (i := 207) (by decide +kernel) rfl⟩
def M_X11_odds : pM := (yX11_odds, cX11_odds, 8, (Option.some Jvm.ClassFile.FieldType.long))
theorem MV_X11_odds : MVI M_X11_odds 4 := ⟨⟨TB_4 (i := 212) (by decide +kernel) rfl, TB_1 (i := 1) (by decide +kernel) rfl, Nat.le_of_ble_eq_true rfl, by decide +kernel⟩, TB_4 (i := 210) (by decide +kernel) rfl, TB_4 (i := 211) (by decide +kernel) rfl⟩
def M_X11_canFly : pM := (yX11_canFly, cX11_canFly, 3, (Option.some Jvm.ClassFile.FieldType.boolean))
theorem MS_X11_canFly : MST M_X11_canFly 3 := ⟨⟨TB_4 (i := 215) (by decide +kernel) rfl, TB_1 (i := 1) (by decide +kernel) rfl, Nat.le_of_ble_eq_true rfl, by decide +kernel⟩, TB_4 (i := 214) (by decide +kernel) rfl⟩
def M_X1_every : pM := (yX1_every, cX1_every, 1, (Option.some Jvm.ClassFile.FieldType.int))
theorem MV_X1_every : MVI M_X1_every 0 := ⟨⟨TB_4 (i := 220) (by decide +kernel) rfl, TB_1 (i := 3) (by decide +kernel) rfl, Nat.le_of_ble_eq_true rfl, by decide +kernel⟩, TB_4 (i := 218) (by decide +kernel) rfl, TB_4 (i := 219) (by decide +kernel) rfl⟩
def M_X5_ways : pM := (yX5_ways, cX5_ways, 5, (Option.some Jvm.ClassFile.FieldType.long))
theorem MV_X5_ways : MVI M_X5_ways 1 := ⟨⟨TB_4 (i := 224) (by decide +kernel) rfl, TB_1 (i := 9) (by decide +kernel) rfl, Nat.le_of_ble_eq_true rfl, by decide +kernel⟩, TB_4 (i := 222) (by decide +kernel) rfl, TB_4 (i := 223) (by decide +kernel) rfl⟩
def M_X5_isIn : pM := (yX5_isIn, cX5_isIn, 2, (Option.some Jvm.ClassFile.FieldType.boolean))
theorem MS_X5_isIn : MST M_X5_isIn 2 := ⟨⟨TB_4 (i := 228) (by decide +kernel) rfl, TB_1 (i := 9) (by decide +kernel) rfl, Nat.le_of_ble_eq_true rfl, by decide +kernel⟩, TB_4 (i := 227) (by decide +kernel) rfl⟩
def M_X5_weightPast : pM := (yX5_weightPast, cX5_weightPast, 8, (Option.some Jvm.ClassFile.FieldType.long))
theorem MV_X5_weightPast : MVI M_X5_weightPast 2 := ⟨⟨TB_4 (i := 232) (by decide +kernel) rfl, TB_1 (i := 9) (by decide +kernel) rfl, Nat.le_of_ble_eq_true rfl, by decide +kernel⟩, TB_4 (i := 231) (by decide +kernel) rfl, TB_of (i := 17) (by decide +kernel) rfl⟩
def M_X1_weightOf : pM := (yX1_weightOf, cX1_weightOf, 3, (Option.some Jvm.ClassFile.FieldType.int))
theorem MV_X1_weightOf : MVI M_X1_weightOf 2 := ⟨⟨TB_4 (i := 238) (by decide +kernel) rfl, TB_1 (i := 3) (by decide +kernel) rfl, Nat.le_of_ble_eq_true rfl, by decide +kernel⟩, TB_4 (i := 236) (by decide +kernel) rfl, TB_4 (i := 237) (by decide +kernel) rfl⟩
def M_X11_pullsOf : pM := (yX11_pullsOf, cX11_pullsOf, 1, (Option.some Jvm.ClassFile.FieldType.int))
theorem MS_X11_pullsOf : MST M_X11_pullsOf 1 := ⟨⟨TB_5 (i := 1) (by decide +kernel) rfl, TB_1 (i := 1) (by decide +kernel) rfl, Nat.le_of_ble_eq_true rfl, by decide +kernel⟩, TB_5 (i := 0) (by decide +kernel) rfl⟩
def M_X5_prepare : pM := (yX5_prepare, cX5_prepare, 9, (Option.none : Option Jvm.ClassFile.FieldType))
theorem MV_X5_prepare : MVI M_X5_prepare 5 := ⟨⟨TB_5 (i := 5) (by decide +kernel) rfl, TB_1 (i := 9) (by decide +kernel) rfl, Nat.le_of_ble_eq_true rfl, by decide +kernel⟩, TB_5 (i := 3) (by decide +kernel) rfl, TB_5 (i := 4) (by decide +kernel) rfl⟩
def M_X5_isKnown : pM := (yX5_isKnown, cX5_isKnown, 5, (Option.some Jvm.ClassFile.FieldType.boolean))
theorem MV_X5_isKnown : MVI M_X5_isKnown 4 := ⟨⟨TB_5 (i := 9) (by decide +kernel) rfl, TB_1 (i := 9) (by decide +kernel) rfl, Nat.le_of_ble_eq_true rfl, by decide +kernel⟩, TB_5 (i := 8) (by decide +kernel) rfl, TB_of (i := 18) (by decide +kernel) rfl⟩
def M_X1_stamp : pM := (yX1_stamp, cX1_stamp, 1, (Option.some Jvm.ClassFile.FieldType.int))
theorem MV_X1_stamp : MVI M_X1_stamp 0 := ⟨⟨TB_5 (i := 13) (by decide +kernel) rfl, TB_1 (i := 3) (by decide +kernel) rfl, Nat.le_of_ble_eq_true rfl, by decide +kernel⟩, TB_5 (i := 11) (by decide +kernel) rfl, TB_5 (i := 12) (by decide +kernel) rfl⟩
def M_X5_lost : pM := (yX5_lost, cX5_lost, 6, (Option.some Jvm.ClassFile.FieldType.long))
theorem MV_X5_lost : MVI M_X5_lost 2 := ⟨⟨TB_5 (i := 18) (by decide +kernel) rfl, TB_1 (i := 9) (by decide +kernel) rfl, Nat.le_of_ble_eq_true rfl, by decide +kernel⟩, TB_5 (i := 16) (by decide +kernel) rfl, TB_5 (i := 17) (by decide +kernel) rfl⟩
def M_X5_first : pM := (yX5_first, cX5_first, 10, (Option.some Jvm.ClassFile.FieldType.long))
theorem MV_X5_first : MVI M_X5_first 2 := ⟨⟨TB_5 (i := 23) (by decide +kernel) rfl, TB_1 (i := 9) (by decide +kernel) rfl, Nat.le_of_ble_eq_true rfl, by decide +kernel⟩, TB_5 (i := 21) (by decide +kernel) rfl, TB_5 (i := 22) (by decide +kernel) rfl⟩
def M_X11_left : pM := (yX11_left, cX11_left, 12, (Option.some Jvm.ClassFile.FieldType.long))
theorem MV_X11_left : MVI M_X11_left 4 := ⟨⟨TB_5 (i := 27) (by decide +kernel) rfl, TB_1 (i := 1) (by decide +kernel) rfl, Nat.le_of_ble_eq_true rfl, by decide +kernel⟩, TB_5 (i := 25) (by decide +kernel) rfl, TB_5 (i := 26) (by decide +kernel) rfl⟩
def M_X11_shortened : pM := (yX11_shortened, cX11_shortened, 12, (Option.some Jvm.ClassFile.FieldType.long))
theorem MS_X11_shortened : MST M_X11_shortened 3 := ⟨⟨TB_5 (i := 31) (by decide +kernel) rfl, TB_1 (i := 1) (by decide +kernel) rfl, Nat.le_of_ble_eq_true rfl, by decide +kernel⟩, TB_5 (i := 30) (by decide +kernel) rfl⟩
def M_X11_likely : pM := (yX11_likely, cX11_likely, 6, (Option.some Jvm.ClassFile.FieldType.int))
theorem MV_X11_likely : MVI M_X11_likely 4 := ⟨⟨TB_5 (i := 35) (by decide +kernel) rfl, TB_1 (i := 1) (by decide +kernel) rfl, Nat.le_of_ble_eq_true rfl, by decide +kernel⟩, TB_5 (i := 33) (by decide +kernel) rfl, TB_5 (i := 34) (by decide +kernel) rfl⟩
def M_X1_hasPiece : pM := (yX1_hasPiece, cX1_hasPiece, 2, (Option.some Jvm.ClassFile.FieldType.boolean))
theorem MV_X1_hasPiece : MVI M_X1_hasPiece 1 := ⟨⟨TB_5 (i := 39) (by decide +kernel) rfl, TB_1 (i := 3) (by decide +kernel) rfl, Nat.le_of_ble_eq_true rfl, by decide +kernel⟩, TB_5 (i := 37) (by decide +kernel) rfl, TB_5 (i := 38) (by decide +kernel) rfl⟩
def M_X5_flightsTill : pM := (yX5_flightsTill, cX5_flightsTill, 13, (Option.some Jvm.ClassFile.FieldType.int))
theorem MV_X5_flightsTill : MVI M_X5_flightsTill 3 := ⟨⟨TB_5 (i := 44) (by decide +kernel) rfl, TB_1 (i := 9) (by decide +kernel) rfl, Nat.le_of_ble_eq_true rfl, by decide +kernel⟩, TB_5 (i := 42) (by decide +kernel) rfl, TB_5 (i := 43) (by decide +kernel) rfl⟩
def M_X11_off : pM := (yX11_off, cX11_off, 8, (Option.some Jvm.ClassFile.FieldType.int))
theorem MV_X11_off : MVI M_X11_off 3 := ⟨⟨TB_5 (i := 50) (by decide +kernel) rfl, TB_1 (i := 1) (by decide +kernel) rfl, Nat.le_of_ble_eq_true rfl, by decide +kernel⟩, TB_5 (i := 48) (by decide +kernel) rfl, TB_5 (i := 49) (by decide +kernel) rfl⟩
def M_X11_trial : pM := (yX11_trial, cX11_trial, 7, (Option.some Jvm.ClassFile.FieldType.int))
theorem MV_X11_trial : MVI M_X11_trial 5 := ⟨⟨TB_5 (i := 55) (by decide +kernel) rfl, TB_1 (i := 1) (by decide +kernel) rfl, Nat.le_of_ble_eq_true rfl, by decide +kernel⟩, TB_5 (i := 53) (by decide +kernel) rfl, TB_5 (i := 54) (by decide +kernel) rfl⟩
def M_X10_size : pM := (yX10_size, cX10_size, 1, (Option.some Jvm.ClassFile.FieldType.int))
theorem MV_X10_size : MVI M_X10_size 0 := ⟨⟨TB_5 (i := 59) (by decide +kernel) rfl, TB_1 (i := 10) (by decide +kernel) rfl, Nat.le_of_ble_eq_true rfl, by decide +kernel⟩, TB_5 (i := 57) (by decide +kernel) rfl, TB_5 (i := 58) (by decide +kernel) rfl⟩
def M_X10_add : pM := (yX10_add, cX10_add, 7, (Option.some Jvm.ClassFile.FieldType.int))
theorem MV_X10_add : MVI M_X10_add 5 := ⟨⟨TB_5 (i := 63) (by decide +kernel) rfl, TB_1 (i := 10) (by decide +kernel) rfl, Nat.le_of_ble_eq_true rfl, by decide +kernel⟩, TB_5 (i := 61) (by decide +kernel) rfl, TB_5 (i := 62) (by decide +kernel) rfl⟩
def M_X10_program : pM := (yX10_program, cX10_program, 2, (Option.some (Jvm.ClassFile.FieldType.object "HullTank$Program")))
theorem MV_X10_program : MVI M_X10_program 1 := ⟨⟨TB_5 (i := 67) (by decide +kernel) rfl, TB_1 (i := 10) (by decide +kernel) rfl, Nat.le_of_ble_eq_true rfl, by decide +kernel⟩, TB_5 (i := 65) (by decide +kernel) rfl, TB_5 (i := 66) (by decide +kernel) rfl⟩
def M_X11_says : pM := (yX11_says, cX11_says, 4, (Option.some Jvm.ClassFile.FieldType.long))
theorem MV_X11_says : MVI M_X11_says 2 := ⟨⟨TB_5 (i := 74) (by decide +kernel) rfl, TB_1 (i := 1) (by decide +kernel) rfl, Nat.le_of_ble_eq_true rfl, by decide +kernel⟩, TB_5 (i := 72) (by decide +kernel) rfl, TB_5 (i := 73) (by decide +kernel) rfl⟩
def M_X10_has : pM := (yX10_has, cX10_has, 2, (Option.some Jvm.ClassFile.FieldType.boolean))
theorem MV_X10_has : MVI M_X10_has 1 := ⟨⟨TB_5 (i := 78) (by decide +kernel) rfl, TB_1 (i := 10) (by decide +kernel) rfl, Nat.le_of_ble_eq_true rfl, by decide +kernel⟩, TB_5 (i := 76) (by decide +kernel) rfl, TB_5 (i := 77) (by decide +kernel) rfl⟩
def M_X10_piece : pM := (yX10_piece, cX10_piece, 2, (Option.some Jvm.ClassFile.FieldType.int))
theorem MV_X10_piece : MVI M_X10_piece 1 := ⟨⟨TB_5 (i := 82) (by decide +kernel) rfl, TB_1 (i := 10) (by decide +kernel) rfl, Nat.le_of_ble_eq_true rfl, by decide +kernel⟩, TB_5 (i := 80) (by decide +kernel) rfl, TB_5 (i := 81) (by decide +kernel) rfl⟩
def M_X10_pressure : pM := (yX10_pressure, cX10_pressure, 2, (Option.some Jvm.ClassFile.FieldType.int))
theorem MV_X10_pressure : MVI M_X10_pressure 1 := ⟨⟨TB_5 (i := 88) (by decide +kernel) rfl, TB_1 (i := 10) (by decide +kernel) rfl, Nat.le_of_ble_eq_true rfl, by decide +kernel⟩, TB_5 (i := 86) (by decide +kernel) rfl, TB_5 (i := 87) (by decide +kernel) rfl⟩
def M_X10_pulls : pM := (yX10_pulls, cX10_pulls, 2, (Option.some Jvm.ClassFile.FieldType.int))
theorem MV_X10_pulls : MVI M_X10_pulls 1 := ⟨⟨TB_5 (i := 92) (by decide +kernel) rfl, TB_1 (i := 10) (by decide +kernel) rfl, Nat.le_of_ble_eq_true rfl, by decide +kernel⟩, TB_5 (i := 90) (by decide +kernel) rfl, TB_5 (i := 91) (by decide +kernel) rfl⟩
def M_X11_cheapest : pM := (yX11_cheapest, cX11_cheapest, 6, (Option.some Jvm.ClassFile.FieldType.int))
theorem MV_X11_cheapest : MVI M_X11_cheapest 1 := ⟨⟨TB_5 (i := 96) (by decide +kernel) rfl, TB_1 (i := 1) (by decide +kernel) rfl, Nat.le_of_ble_eq_true rfl, by decide +kernel⟩, TB_5 (i := 94) (by decide +kernel) rfl, TB_5 (i := 95) (by decide +kernel) rfl⟩
def M_X10_cost : pM := (yX10_cost, cX10_cost, 2, (Option.some Jvm.ClassFile.FieldType.int))
theorem MV_X10_cost : MVI M_X10_cost 1 := ⟨⟨TB_5 (i := 100) (by decide +kernel) rfl, TB_1 (i := 10) (by decide +kernel) rfl, Nat.le_of_ble_eq_true rfl, by decide +kernel⟩, TB_5 (i := 98) (by decide +kernel) rfl, TB_5 (i := 99) (by decide +kernel) rfl⟩
def M_X11_story : pM := (yX11_story, cX11_story, 2, (Option.some Jvm.ClassFile.FieldType.int))
theorem MV_X11_story : MVI M_X11_story 1 := ⟨⟨TB_5 (i := 105) (by decide +kernel) rfl, TB_1 (i := 1) (by decide +kernel) rfl, Nat.le_of_ble_eq_true rfl, by decide +kernel⟩, TB_5 (i := 103) (by decide +kernel) rfl, TB_5 (i := 104) (by decide +kernel) rfl⟩
def M_X7_size : pM := (yX7_size, cX7_size, 1, (Option.some Jvm.ClassFile.FieldType.int))
theorem MV_X7_size : MVI M_X7_size 0 := ⟨⟨TB_5 (i := 109) (by decide +kernel) rfl, TB_1 (i := 11) (by decide +kernel) rfl, Nat.le_of_ble_eq_true rfl, by decide +kernel⟩, TB_5 (i := 107) (by decide +kernel) rfl, TB_5 (i := 108) (by decide +kernel) rfl⟩
def M_X7_add : pM := (yX7_add, cX7_add, 2, (Option.some Jvm.ClassFile.FieldType.int))
theorem MV_X7_add : MVI M_X7_add 1 := ⟨⟨TB_5 (i := 113) (by decide +kernel) rfl, TB_1 (i := 11) (by decide +kernel) rfl, Nat.le_of_ble_eq_true rfl, by decide +kernel⟩, TB_5 (i := 111) (by decide +kernel) rfl, TB_5 (i := 112) (by decide +kernel) rfl⟩
def M_X11_find : pM := (yX11_find, cX11_find, 1, (Option.some Jvm.ClassFile.FieldType.int))
theorem MV_X11_find : MVI M_X11_find 0 := ⟨⟨TB_5 (i := 118) (by decide +kernel) rfl, TB_1 (i := 1) (by decide +kernel) rfl, Nat.le_of_ble_eq_true rfl, by decide +kernel⟩, TB_5 (i := 116) (by decide +kernel) rfl, TB_5 (i := 117) (by decide +kernel) rfl⟩
def M_X7_finds : pM := (yX7_finds, cX7_finds, 1, (Option.some Jvm.ClassFile.FieldType.int))
theorem MV_X7_finds : MVI M_X7_finds 0 := ⟨⟨TB_5 (i := 122) (by decide +kernel) rfl, TB_1 (i := 11) (by decide +kernel) rfl, Nat.le_of_ble_eq_true rfl, by decide +kernel⟩, TB_5 (i := 120) (by decide +kernel) rfl, TB_5 (i := 121) (by decide +kernel) rfl⟩
def M_X7_addFind : pM := (yX7_addFind, cX7_addFind, 1, (Option.some Jvm.ClassFile.FieldType.int))
theorem MV_X7_addFind : MVI M_X7_addFind 0 := ⟨⟨TB_5 (i := 126) (by decide +kernel) rfl, TB_1 (i := 11) (by decide +kernel) rfl, Nat.le_of_ble_eq_true rfl, by decide +kernel⟩, TB_5 (i := 124) (by decide +kernel) rfl, TB_5 (i := 125) (by decide +kernel) rfl⟩
def M_X11_tells : pM := (yX11_tells, cX11_tells, 4, (Option.some Jvm.ClassFile.FieldType.boolean))
theorem MV_X11_tells : MVI M_X11_tells 3 := ⟨⟨TB_5 (i := 130) (by decide +kernel) rfl, TB_1 (i := 1) (by decide +kernel) rfl, Nat.le_of_ble_eq_true rfl, by decide +kernel⟩, TB_5 (i := 128) (by decide +kernel) rfl, TB_5 (i := 129) (by decide +kernel) rfl⟩
def M_X7_hasFind : pM := (yX7_hasFind, cX7_hasFind, 2, (Option.some Jvm.ClassFile.FieldType.boolean))
theorem MV_X7_hasFind : MVI M_X7_hasFind 1 := ⟨⟨TB_5 (i := 134) (by decide +kernel) rfl, TB_1 (i := 11) (by decide +kernel) rfl, Nat.le_of_ble_eq_true rfl, by decide +kernel⟩, TB_5 (i := 132) (by decide +kernel) rfl, TB_5 (i := 133) (by decide +kernel) rfl⟩
def M_X7_has : pM := (yX7_has, cX7_has, 2, (Option.some Jvm.ClassFile.FieldType.boolean))
theorem MV_X7_has : MVI M_X7_has 1 := ⟨⟨TB_5 (i := 138) (by decide +kernel) rfl, TB_1 (i := 11) (by decide +kernel) rfl, Nat.le_of_ble_eq_true rfl, by decide +kernel⟩, TB_5 (i := 136) (by decide +kernel) rfl, TB_5 (i := 137) (by decide +kernel) rfl⟩
def M_X7_foretell : pM := (yX7_foretell, cX7_foretell, 4, (Option.none : Option Jvm.ClassFile.FieldType))
theorem MV_X7_foretell : MVI M_X7_foretell 3 := ⟨⟨TB_5 (i := 142) (by decide +kernel) rfl, TB_1 (i := 11) (by decide +kernel) rfl, Nat.le_of_ble_eq_true rfl, by decide +kernel⟩, TB_5 (i := 140) (by decide +kernel) rfl, TB_5 (i := 141) (by decide +kernel) rfl⟩
def M_X11_seen : pM := (yX11_seen, cX11_seen, 3, (Option.some Jvm.ClassFile.FieldType.boolean))
theorem MV_X11_seen : MVI M_X11_seen 2 := ⟨⟨TB_5 (i := 146) (by decide +kernel) rfl, TB_1 (i := 1) (by decide +kernel) rfl, Nat.le_of_ble_eq_true rfl, by decide +kernel⟩, TB_5 (i := 144) (by decide +kernel) rfl, TB_5 (i := 145) (by decide +kernel) rfl⟩
def M_X7_know : pM := (yX7_know, cX7_know, 3, (Option.none : Option Jvm.ClassFile.FieldType))
theorem MV_X7_know : MVI M_X7_know 2 := ⟨⟨TB_5 (i := 150) (by decide +kernel) rfl, TB_1 (i := 11) (by decide +kernel) rfl, Nat.le_of_ble_eq_true rfl, by decide +kernel⟩, TB_5 (i := 148) (by decide +kernel) rfl, TB_5 (i := 149) (by decide +kernel) rfl⟩
def M_X11_weighs : pM := (yX11_weighs, cX11_weighs, 2, (Option.some Jvm.ClassFile.FieldType.long))
theorem MV_X11_weighs : MVI M_X11_weighs 1 := ⟨⟨TB_5 (i := 154) (by decide +kernel) rfl, TB_1 (i := 1) (by decide +kernel) rfl, Nat.le_of_ble_eq_true rfl, by decide +kernel⟩, TB_5 (i := 152) (by decide +kernel) rfl, TB_5 (i := 153) (by decide +kernel) rfl⟩
def M_X7_together : pM := (yX7_together, cX7_together, 4, (Option.some Jvm.ClassFile.FieldType.long))
theorem MV_X7_together : MVI M_X7_together 0 := ⟨⟨TB_5 (i := 158) (by decide +kernel) rfl, TB_1 (i := 11) (by decide +kernel) rfl, Nat.le_of_ble_eq_true rfl, by decide +kernel⟩, TB_5 (i := 156) (by decide +kernel) rfl, TB_5 (i := 157) (by decide +kernel) rfl⟩
def M_X7_oddsOf : pM := (yX7_oddsOf, cX7_oddsOf, 7, (Option.some Jvm.ClassFile.FieldType.long))
theorem MV_X7_oddsOf : MVI M_X7_oddsOf 1 := ⟨⟨TB_5 (i := 162) (by decide +kernel) rfl, TB_1 (i := 11) (by decide +kernel) rfl, Nat.le_of_ble_eq_true rfl, by decide +kernel⟩, TB_5 (i := 160) (by decide +kernel) rfl, TB_5 (i := 161) (by decide +kernel) rfl⟩
def M_X11_moves : pM := (yX11_moves, cX11_moves, 1, (Option.some Jvm.ClassFile.FieldType.int))
theorem MV_X11_moves : MVI M_X11_moves 0 := ⟨⟨TB_5 (i := 168) (by decide +kernel) rfl, TB_1 (i := 1) (by decide +kernel) rfl, Nat.le_of_ble_eq_true rfl, by decide +kernel⟩, TB_5 (i := 166) (by decide +kernel) rfl, TB_5 (i := 167) (by decide +kernel) rfl⟩
def M_X7_mostMoving : pM := (yX7_mostMoving, cX7_mostMoving, 7, (Option.some Jvm.ClassFile.FieldType.int))
theorem MV_X7_mostMoving : MVI M_X7_mostMoving 0 := ⟨⟨TB_5 (i := 172) (by decide +kernel) rfl, TB_1 (i := 11) (by decide +kernel) rfl, Nat.le_of_ble_eq_true rfl, by decide +kernel⟩, TB_5 (i := 170) (by decide +kernel) rfl, TB_5 (i := 171) (by decide +kernel) rfl⟩
def M_X7_greatestOfBoth : pM := (yX7_greatestOfBoth, cX7_greatestOfBoth, 10, (Option.some Jvm.ClassFile.FieldType.long))
theorem MV_X7_greatestOfBoth : MVI M_X7_greatestOfBoth 1 := ⟨⟨TB_5 (i := 177) (by decide +kernel) rfl, TB_1 (i := 11) (by decide +kernel) rfl, Nat.le_of_ble_eq_true rfl, by decide +kernel⟩, TB_5 (i := 176) (by decide +kernel) rfl, TB_of (i := 19) (by decide +kernel) rfl⟩
def M_X11_wind : pM := (yX11_wind, cX11_wind, 4, (Option.some Jvm.ClassFile.FieldType.boolean))
theorem MV_X11_wind : MVI M_X11_wind 3 := ⟨⟨TB_5 (i := 184) (by decide +kernel) rfl, TB_1 (i := 1) (by decide +kernel) rfl, Nat.le_of_ble_eq_true rfl, by decide +kernel⟩, TB_5 (i := 182) (by decide +kernel) rfl, TB_5 (i := 183) (by decide +kernel) rfl⟩
def M_X0_blow : pM := (yX0_blow, cX0_blow, 4, (Option.none : Option Jvm.ClassFile.FieldType))
theorem MV_X0_blow : MVI M_X0_blow 3 := ⟨⟨TB_5 (i := 188) (by decide +kernel) rfl, TB_1 (i := 12) (by decide +kernel) rfl, Nat.le_of_ble_eq_true rfl, by decide +kernel⟩, TB_5 (i := 186) (by decide +kernel) rfl, TB_5 (i := 187) (by decide +kernel) rfl⟩
def M_X11_lies : pM := (yX11_lies, cX11_lies, 3, (Option.some Jvm.ClassFile.FieldType.int))
theorem MV_X11_lies : MVI M_X11_lies 2 := ⟨⟨TB_5 (i := 192) (by decide +kernel) rfl, TB_1 (i := 1) (by decide +kernel) rfl, Nat.le_of_ble_eq_true rfl, by decide +kernel⟩, TB_5 (i := 190) (by decide +kernel) rfl, TB_5 (i := 191) (by decide +kernel) rfl⟩
def M_X0_size : pM := (yX0_size, cX0_size, 1, (Option.some Jvm.ClassFile.FieldType.int))
theorem MV_X0_size : MVI M_X0_size 0 := ⟨⟨TB_5 (i := 196) (by decide +kernel) rfl, TB_1 (i := 12) (by decide +kernel) rfl, Nat.le_of_ble_eq_true rfl, by decide +kernel⟩, TB_5 (i := 194) (by decide +kernel) rfl, TB_5 (i := 195) (by decide +kernel) rfl⟩
def M_X0_add : pM := (yX0_add, cX0_add, 3, (Option.some Jvm.ClassFile.FieldType.int))
theorem MV_X0_add : MVI M_X0_add 2 := ⟨⟨TB_5 (i := 200) (by decide +kernel) rfl, TB_1 (i := 12) (by decide +kernel) rfl, Nat.le_of_ble_eq_true rfl, by decide +kernel⟩, TB_5 (i := 198) (by decide +kernel) rfl, TB_5 (i := 199) (by decide +kernel) rfl⟩
def M_X11_span : pM := (yX11_span, cX11_span, 3, (Option.some Jvm.ClassFile.FieldType.int))
theorem MV_X11_span : MVI M_X11_span 2 := ⟨⟨TB_5 (i := 205) (by decide +kernel) rfl, TB_1 (i := 1) (by decide +kernel) rfl, Nat.le_of_ble_eq_true rfl, by decide +kernel⟩, TB_5 (i := 203) (by decide +kernel) rfl, TB_5 (i := 204) (by decide +kernel) rfl⟩
def M_X0_has : pM := (yX0_has, cX0_has, 2, (Option.some Jvm.ClassFile.FieldType.boolean))
theorem MV_X0_has : MVI M_X0_has 1 := ⟨⟨TB_5 (i := 209) (by decide +kernel) rfl, TB_1 (i := 12) (by decide +kernel) rfl, Nat.le_of_ble_eq_true rfl, by decide +kernel⟩, TB_5 (i := 207) (by decide +kernel) rfl, TB_5 (i := 208) (by decide +kernel) rfl⟩
def M_X0_earliest : pM := (yX0_earliest, cX0_earliest, 5, (Option.some Jvm.ClassFile.FieldType.int))
theorem MV_X0_earliest : MVI M_X0_earliest 1 := ⟨⟨TB_5 (i := 213) (by decide +kernel) rfl, TB_1 (i := 12) (by decide +kernel) rfl, Nat.le_of_ble_eq_true rfl, by decide +kernel⟩, TB_5 (i := 211) (by decide +kernel) rfl, TB_5 (i := 212) (by decide +kernel) rfl⟩
def M_X0_secondBy : pM := (yX0_secondBy, cX0_secondBy, 4, (Option.some Jvm.ClassFile.FieldType.int))
theorem MV_X0_secondBy : MVI M_X0_secondBy 2 := ⟨⟨TB_5 (i := 217) (by decide +kernel) rfl, TB_1 (i := 12) (by decide +kernel) rfl, Nat.le_of_ble_eq_true rfl, by decide +kernel⟩, TB_5 (i := 216) (by decide +kernel) rfl, TB_of (i := 20) (by decide +kernel) rfl⟩
def M_X0_latest : pM := (yX0_latest, cX0_latest, 5, (Option.some Jvm.ClassFile.FieldType.int))
theorem MV_X0_latest : MVI M_X0_latest 1 := ⟨⟨TB_5 (i := 222) (by decide +kernel) rfl, TB_1 (i := 12) (by decide +kernel) rfl, Nat.le_of_ble_eq_true rfl, by decide +kernel⟩, TB_5 (i := 220) (by decide +kernel) rfl, TB_5 (i := 221) (by decide +kernel) rfl⟩
def M_X11_order : pM := (yX11_order, cX11_order, 3, (Option.some Jvm.ClassFile.FieldType.int))
theorem MV_X11_order : MVI M_X11_order 2 := ⟨⟨TB_5 (i := 226) (by decide +kernel) rfl, TB_1 (i := 1) (by decide +kernel) rfl, Nat.le_of_ble_eq_true rfl, by decide +kernel⟩, TB_5 (i := 224) (by decide +kernel) rfl, TB_5 (i := 225) (by decide +kernel) rfl⟩
def M_X0_compare : pM := (yX0_compare, cX0_compare, 8, (Option.some Jvm.ClassFile.FieldType.int))
theorem MV_X0_compare : MVI M_X0_compare 2 := ⟨⟨TB_5 (i := 230) (by decide +kernel) rfl, TB_1 (i := 12) (by decide +kernel) rfl, Nat.le_of_ble_eq_true rfl, by decide +kernel⟩, TB_5 (i := 228) (by decide +kernel) rfl, TB_5 (i := 229) (by decide +kernel) rfl⟩
def M_X11_cell : pM := (yX11_cell, cX11_cell, 4, (Option.some Jvm.ClassFile.FieldType.boolean))
theorem MV_X11_cell : MVI M_X11_cell 3 := ⟨⟨TB_5 (i := 234) (by decide +kernel) rfl, TB_1 (i := 1) (by decide +kernel) rfl, Nat.le_of_ble_eq_true rfl, by decide +kernel⟩, TB_5 (i := 232) (by decide +kernel) rfl, TB_5 (i := 233) (by decide +kernel) rfl⟩
def M_X7_weigh : pM := (yX7_weigh, cX7_weigh, 4, (Option.none : Option Jvm.ClassFile.FieldType))
theorem MV_X7_weigh : MVI M_X7_weigh 3 := ⟨⟨TB_5 (i := 238) (by decide +kernel) rfl, TB_1 (i := 11) (by decide +kernel) rfl, Nat.le_of_ble_eq_true rfl, by decide +kernel⟩, TB_5 (i := 236) (by decide +kernel) rfl, TB_5 (i := 237) (by decide +kernel) rfl⟩
def M_X11_nets : pM := (yX11_nets, cX11_nets, 6, (Option.some Jvm.ClassFile.FieldType.long))
theorem MV_X11_nets : MVI M_X11_nets 3 := ⟨⟨TB_6 (i := 2) (by decide +kernel) rfl, TB_1 (i := 1) (by decide +kernel) rfl, Nat.le_of_ble_eq_true rfl, by decide +kernel⟩, TB_6 (i := 0) (by decide +kernel) rfl, TB_6 (i := 1) (by decide +kernel) rfl⟩
def M_X7_castNets : pM := (yX7_castNets, cX7_castNets, 7, (Option.some Jvm.ClassFile.FieldType.long))
theorem MV_X7_castNets : MVI M_X7_castNets 2 := ⟨⟨TB_6 (i := 6) (by decide +kernel) rfl, TB_1 (i := 11) (by decide +kernel) rfl, Nat.le_of_ble_eq_true rfl, by decide +kernel⟩, TB_6 (i := 4) (by decide +kernel) rfl, TB_6 (i := 5) (by decide +kernel) rfl⟩
def M_X7_sumWorths : pM := (yX7_sumWorths, cX7_sumWorths, 2, (Option.none : Option Jvm.ClassFile.FieldType))
theorem MV_X7_sumWorths : MVI M_X7_sumWorths 0 := ⟨⟨TB_6 (i := 10) (by decide +kernel) rfl, TB_1 (i := 11) (by decide +kernel) rfl, Nat.le_of_ble_eq_true rfl, by decide +kernel⟩, TB_6 (i := 9) (by decide +kernel) rfl, TB_of (i := 21) (by decide +kernel) rfl⟩
def M_X11_longAt : pM := (yX11_longAt, cX11_longAt, 2, (Option.some Jvm.ClassFile.FieldType.long))
theorem MS_X11_longAt : MST M_X11_longAt 2 := ⟨⟨TB_6 (i := 13) (by decide +kernel) rfl, TB_1 (i := 1) (by decide +kernel) rfl, Nat.le_of_ble_eq_true rfl, by decide +kernel⟩, TB_6 (i := 12) (by decide +kernel) rfl⟩
def M_X7_worthOf : pM := (yX7_worthOf, cX7_worthOf, 6, (Option.some Jvm.ClassFile.FieldType.long))
theorem MV_X7_worthOf : MVI M_X7_worthOf 1 := ⟨⟨TB_6 (i := 17) (by decide +kernel) rfl, TB_1 (i := 11) (by decide +kernel) rfl, Nat.le_of_ble_eq_true rfl, by decide +kernel⟩, TB_6 (i := 16) (by decide +kernel) rfl, TB_of (i := 22) (by decide +kernel) rfl⟩
def M_X11_putLong : pM := (yX11_putLong, cX11_putLong, 4, (Option.none : Option Jvm.ClassFile.FieldType))
theorem MS_X11_putLong : MST M_X11_putLong 3 := ⟨⟨TB_6 (i := 20) (by decide +kernel) rfl, TB_1 (i := 1) (by decide +kernel) rfl, Nat.le_of_ble_eq_true rfl, by decide +kernel⟩, TB_6 (i := 19) (by decide +kernel) rfl⟩
def M_X7_setBest : pM := (yX7_setBest, cX7_setBest, 5, (Option.none : Option Jvm.ClassFile.FieldType))
theorem MV_X7_setBest : MVI M_X7_setBest 3 := ⟨⟨TB_6 (i := 24) (by decide +kernel) rfl, TB_1 (i := 11) (by decide +kernel) rfl, Nat.le_of_ble_eq_true rfl, by decide +kernel⟩, TB_6 (i := 23) (by decide +kernel) rfl, TB_of (i := 23) (by decide +kernel) rfl⟩
def M_X7_bestOf : pM := (yX7_bestOf, cX7_bestOf, 3, (Option.some Jvm.ClassFile.FieldType.long))
theorem MV_X7_bestOf : MVI M_X7_bestOf 2 := ⟨⟨TB_6 (i := 28) (by decide +kernel) rfl, TB_1 (i := 11) (by decide +kernel) rfl, Nat.le_of_ble_eq_true rfl, by decide +kernel⟩, TB_6 (i := 27) (by decide +kernel) rfl, TB_of (i := 24) (by decide +kernel) rfl⟩
def M_X7_worthFrom : pM := (yX7_worthFrom, cX7_worthFrom, 4, (Option.some Jvm.ClassFile.FieldType.long))
theorem MV_X7_worthFrom : MVI M_X7_worthFrom 3 := ⟨⟨TB_6 (i := 32) (by decide +kernel) rfl, TB_1 (i := 11) (by decide +kernel) rfl, Nat.le_of_ble_eq_true rfl, by decide +kernel⟩, TB_6 (i := 31) (by decide +kernel) rfl, TB_of (i := 25) (by decide +kernel) rfl⟩
def M_X7_net : pM := (yX7_net, cX7_net, 2, (Option.some Jvm.ClassFile.FieldType.int))
theorem MV_X7_net : MVI M_X7_net 1 := ⟨⟨TB_6 (i := 36) (by decide +kernel) rfl, TB_1 (i := 11) (by decide +kernel) rfl, Nat.le_of_ble_eq_true rfl, by decide +kernel⟩, TB_6 (i := 34) (by decide +kernel) rfl, TB_6 (i := 35) (by decide +kernel) rfl⟩
def M_X11_fly : pM := (yX11_fly, cX11_fly, 7, (Option.some Jvm.ClassFile.FieldType.int))
theorem MV_X11_fly : MVI M_X11_fly 5 := ⟨⟨TB_6 (i := 40) (by decide +kernel) rfl, TB_1 (i := 1) (by decide +kernel) rfl, Nat.le_of_ble_eq_true rfl, by decide +kernel⟩, TB_6 (i := 38) (by decide +kernel) rfl, TB_6 (i := 39) (by decide +kernel) rfl⟩
def M_X5_cheapestFlights : pM := (yX5_cheapestFlights, cX5_cheapestFlights, 16, (Option.some Jvm.ClassFile.FieldType.int))
theorem MV_X5_cheapestFlights : MVI M_X5_cheapestFlights 4 := ⟨⟨TB_6 (i := 44) (by decide +kernel) rfl, TB_1 (i := 9) (by decide +kernel) rfl, Nat.le_of_ble_eq_true rfl, by decide +kernel⟩, TB_6 (i := 42) (by decide +kernel) rfl, TB_6 (i := 43) (by decide +kernel) rfl⟩
def M_X11_check : pM := (yX11_check, cX11_check, 4, (Option.some Jvm.ClassFile.FieldType.int))
theorem MV_X11_check : MVI M_X11_check 2 := ⟨⟨TB_6 (i := 49) (by decide +kernel) rfl, TB_1 (i := 1) (by decide +kernel) rfl, Nat.le_of_ble_eq_true rfl, by decide +kernel⟩, TB_6 (i := 47) (by decide +kernel) rfl, TB_6 (i := 48) (by decide +kernel) rfl⟩
def M_X2_firstWrong : pM := (yX2_firstWrong, cX2_firstWrong, 5, (Option.some Jvm.ClassFile.FieldType.int))
theorem MV_X2_firstWrong : MVI M_X2_firstWrong 3 := ⟨⟨TB_6 (i := 53) (by decide +kernel) rfl, TB_1 (i := 7) (by decide +kernel) rfl, Nat.le_of_ble_eq_true rfl, by decide +kernel⟩, TB_6 (i := 51) (by decide +kernel) rfl, TB_6 (i := 52) (by decide +kernel) rfl⟩
def M_X9_word : pM := (yX9_word, cX9_word, 4, (Option.some Jvm.ClassFile.FieldType.int))
theorem MV_X9_word : MVI M_X9_word 1 := ⟨⟨TB_6 (i := 57) (by decide +kernel) rfl, TB_1 (i := 2) (by decide +kernel) rfl, Nat.le_of_ble_eq_true rfl, by decide +kernel⟩, TB_6 (i := 55) (by decide +kernel) rfl, TB_6 (i := 56) (by decide +kernel) rfl⟩
def M_X11_count : pM := (yX11_count, cX11_count, 2, (Option.some Jvm.ClassFile.FieldType.int))
theorem MV_X11_count : MVI M_X11_count 1 := ⟨⟨TB_6 (i := 63) (by decide +kernel) rfl, TB_1 (i := 1) (by decide +kernel) rfl, Nat.le_of_ble_eq_true rfl, by decide +kernel⟩, TB_6 (i := 61) (by decide +kernel) rfl, TB_6 (i := 62) (by decide +kernel) rfl⟩
def M_X11_countOfOne : pM := (yX11_countOfOne, cX11_countOfOne, 2, (Option.some Jvm.ClassFile.FieldType.int))
theorem MV_X11_countOfOne : MVI M_X11_countOfOne 1 := ⟨⟨TB_6 (i := 68) (by decide +kernel) rfl, TB_1 (i := 1) (by decide +kernel) rfl, Nat.le_of_ble_eq_true rfl, by decide +kernel⟩, TB_6 (i := 67) (by decide +kernel) rfl, TB_of (i := 26) (by decide +kernel) rfl⟩
def M_X12_init : pM := (yX12_init, cX12_init, 2, (Option.none : Option Jvm.ClassFile.FieldType))
theorem MI_X12_init : MIN M_X12_init 0 := ⟨⟨TB_6 (i := 73) (by decide +kernel) rfl, TB_1 (i := 13) (by decide +kernel) rfl, Nat.le_of_ble_eq_true rfl, by decide +kernel⟩, TB_6 (i := 72) (by decide +kernel) rfl, rfl, rfl⟩
def M_X12_corner : pM := (yX12_corner, cX12_corner, 5, (Option.some Jvm.ClassFile.FieldType.int))
theorem MV_X12_corner : MVI M_X12_corner 4 := ⟨⟨TB_7 (i := 71) (by decide +kernel) rfl, TB_1 (i := 13) (by decide +kernel) rfl, Nat.le_of_ble_eq_true rfl, by decide +kernel⟩, TB_7 (i := 69) (by decide +kernel) rfl, TB_7 (i := 70) (by decide +kernel) rfl⟩
def M_X12_isIn : pM := (yX12_isIn, cX12_isIn, 6, (Option.some Jvm.ClassFile.FieldType.boolean))
theorem MS_X12_isIn : MST M_X12_isIn 3 := ⟨⟨TB_7 (i := 75) (by decide +kernel) rfl, TB_1 (i := 13) (by decide +kernel) rfl, Nat.le_of_ble_eq_true rfl, by decide +kernel⟩, TB_7 (i := 74) (by decide +kernel) rfl⟩
def M_X12_life : pM := (yX12_life, cX12_life, 4, (Option.some Jvm.ClassFile.FieldType.int))
theorem MV_X12_life : MVI M_X12_life 3 := ⟨⟨TB_7 (i := 81) (by decide +kernel) rfl, TB_1 (i := 13) (by decide +kernel) rfl, Nat.le_of_ble_eq_true rfl, by decide +kernel⟩, TB_7 (i := 79) (by decide +kernel) rfl, TB_7 (i := 80) (by decide +kernel) rfl⟩
def M_X12_isCorner : pM := (yX12_isCorner, cX12_isCorner, 2, (Option.some Jvm.ClassFile.FieldType.boolean))
theorem MV_X12_isCorner : MVI M_X12_isCorner 1 := ⟨⟨TB_7 (i := 85) (by decide +kernel) rfl, TB_1 (i := 13) (by decide +kernel) rfl, Nat.le_of_ble_eq_true rfl, by decide +kernel⟩, TB_7 (i := 84) (by decide +kernel) rfl, TB_of (i := 27) (by decide +kernel) rfl⟩
def M_X12_feed : pM := (yX12_feed, cX12_feed, 6, (Option.some Jvm.ClassFile.FieldType.int))
theorem MV_X12_feed : MVI M_X12_feed 5 := ⟨⟨TB_7 (i := 91) (by decide +kernel) rfl, TB_1 (i := 13) (by decide +kernel) rfl, Nat.le_of_ble_eq_true rfl, by decide +kernel⟩, TB_7 (i := 89) (by decide +kernel) rfl, TB_7 (i := 90) (by decide +kernel) rfl⟩
def M_X12_push : pM := (yX12_push, cX12_push, 3, (Option.none : Option Jvm.ClassFile.FieldType))
theorem MV_X12_push : MVI M_X12_push 1 := ⟨⟨TB_7 (i := 95) (by decide +kernel) rfl, TB_1 (i := 13) (by decide +kernel) rfl, Nat.le_of_ble_eq_true rfl, by decide +kernel⟩, TB_7 (i := 94) (by decide +kernel) rfl, TB_of (i := 28) (by decide +kernel) rfl⟩
def M_X12_law : pM := (yX12_law, cX12_law, 4, (Option.some Jvm.ClassFile.FieldType.int))
theorem MV_X12_law : MVI M_X12_law 1 := ⟨⟨TB_7 (i := 99) (by decide +kernel) rfl, TB_1 (i := 13) (by decide +kernel) rfl, Nat.le_of_ble_eq_true rfl, by decide +kernel⟩, TB_7 (i := 97) (by decide +kernel) rfl, TB_7 (i := 98) (by decide +kernel) rfl⟩
def M_X12_isGood : pM := (yX12_isGood, cX12_isGood, 1, (Option.some Jvm.ClassFile.FieldType.boolean))
theorem MV_X12_isGood : MVI M_X12_isGood 0 := ⟨⟨TB_7 (i := 104) (by decide +kernel) rfl, TB_1 (i := 13) (by decide +kernel) rfl, Nat.le_of_ble_eq_true rfl, by decide +kernel⟩, TB_7 (i := 103) (by decide +kernel) rfl, TB_of (i := 29) (by decide +kernel) rfl⟩
def M_X12_clause : pM := (yX12_clause, cX12_clause, 2, (Option.none : Option Jvm.ClassFile.FieldType))
theorem MV_X12_clause : MVI M_X12_clause 0 := ⟨⟨TB_7 (i := 108) (by decide +kernel) rfl, TB_1 (i := 13) (by decide +kernel) rfl, Nat.le_of_ble_eq_true rfl, by decide +kernel⟩, TB_7 (i := 107) (by decide +kernel) rfl, TB_of (i := 30) (by decide +kernel) rfl⟩
def M_X12_here : pM := (yX12_here, cX12_here, 1, (Option.some Jvm.ClassFile.FieldType.int))
theorem MV_X12_here : MVI M_X12_here 0 := ⟨⟨TB_7 (i := 112) (by decide +kernel) rfl, TB_1 (i := 13) (by decide +kernel) rfl, Nat.le_of_ble_eq_true rfl, by decide +kernel⟩, TB_7 (i := 111) (by decide +kernel) rfl, TB_of (i := 31) (by decide +kernel) rfl⟩
def M_X12_wrongs : pM := (yX12_wrongs, cX12_wrongs, 3, (Option.none : Option Jvm.ClassFile.FieldType))
theorem MV_X12_wrongs : MVI M_X12_wrongs 2 := ⟨⟨TB_7 (i := 116) (by decide +kernel) rfl, TB_1 (i := 13) (by decide +kernel) rfl, Nat.le_of_ble_eq_true rfl, by decide +kernel⟩, TB_7 (i := 115) (by decide +kernel) rfl, TB_of (i := 32) (by decide +kernel) rfl⟩
def M_X12_value : pM := (yX12_value, cX12_value, 2, (Option.none : Option Jvm.ClassFile.FieldType))
theorem MV_X12_value : MVI M_X12_value 0 := ⟨⟨TB_7 (i := 120) (by decide +kernel) rfl, TB_1 (i := 13) (by decide +kernel) rfl, Nat.le_of_ble_eq_true rfl, by decide +kernel⟩, TB_7 (i := 119) (by decide +kernel) rfl, TB_of (i := 33) (by decide +kernel) rfl⟩
def M_X12_factor : pM := (yX12_factor, cX12_factor, 1, (Option.none : Option Jvm.ClassFile.FieldType))
theorem MV_X12_factor : MVI M_X12_factor 0 := ⟨⟨TB_7 (i := 124) (by decide +kernel) rfl, TB_1 (i := 13) (by decide +kernel) rfl, Nat.le_of_ble_eq_true rfl, by decide +kernel⟩, TB_7 (i := 123) (by decide +kernel) rfl, TB_of (i := 34) (by decide +kernel) rfl⟩
def M_X12_opens : pM := (yX12_opens, cX12_opens, 1, (Option.none : Option Jvm.ClassFile.FieldType))
theorem MV_X12_opens : MVI M_X12_opens 0 := ⟨⟨TB_7 (i := 128) (by decide +kernel) rfl, TB_1 (i := 13) (by decide +kernel) rfl, Nat.le_of_ble_eq_true rfl, by decide +kernel⟩, TB_7 (i := 127) (by decide +kernel) rfl, TB_of (i := 35) (by decide +kernel) rfl⟩
def M_X12_puts : pM := (yX12_puts, cX12_puts, 2, (Option.none : Option Jvm.ClassFile.FieldType))
theorem MV_X12_puts : MVI M_X12_puts 1 := ⟨⟨TB_7 (i := 132) (by decide +kernel) rfl, TB_1 (i := 13) (by decide +kernel) rfl, Nat.le_of_ble_eq_true rfl, by decide +kernel⟩, TB_7 (i := 131) (by decide +kernel) rfl, TB_of (i := 36) (by decide +kernel) rfl⟩
def M_X12_seesDigit : pM := (yX12_seesDigit, cX12_seesDigit, 1, (Option.some Jvm.ClassFile.FieldType.boolean))
theorem MV_X12_seesDigit : MVI M_X12_seesDigit 0 := ⟨⟨TB_7 (i := 136) (by decide +kernel) rfl, TB_1 (i := 13) (by decide +kernel) rfl, Nat.le_of_ble_eq_true rfl, by decide +kernel⟩, TB_7 (i := 135) (by decide +kernel) rfl, TB_of (i := 37) (by decide +kernel) rfl⟩
def M_X12_reads : pM := (yX12_reads, cX12_reads, 3, (Option.some Jvm.ClassFile.FieldType.int))
theorem MV_X12_reads : MVI M_X12_reads 0 := ⟨⟨TB_7 (i := 142) (by decide +kernel) rfl, TB_1 (i := 13) (by decide +kernel) rfl, Nat.le_of_ble_eq_true rfl, by decide +kernel⟩, TB_7 (i := 141) (by decide +kernel) rfl, TB_of (i := 38) (by decide +kernel) rfl⟩
def M_X12_emit : pM := (yX12_emit, cX12_emit, 3, (Option.none : Option Jvm.ClassFile.FieldType))
theorem MV_X12_emit : MVI M_X12_emit 2 := ⟨⟨TB_7 (i := 146) (by decide +kernel) rfl, TB_1 (i := 13) (by decide +kernel) rfl, Nat.le_of_ble_eq_true rfl, by decide +kernel⟩, TB_7 (i := 145) (by decide +kernel) rfl, TB_of (i := 39) (by decide +kernel) rfl⟩
def M_X12_isValue : pM := (yX12_isValue, cX12_isValue, 1, (Option.some Jvm.ClassFile.FieldType.boolean))
theorem MS_X12_isValue : MST M_X12_isValue 1 := ⟨⟨TB_7 (i := 149) (by decide +kernel) rfl, TB_1 (i := 13) (by decide +kernel) rfl, Nat.le_of_ble_eq_true rfl, by decide +kernel⟩, TB_7 (i := 148) (by decide +kernel) rfl⟩
def M_X12_stays : pM := (yX12_stays, cX12_stays, 2, (Option.some Jvm.ClassFile.FieldType.boolean))
theorem MV_X12_stays : MVI M_X12_stays 0 := ⟨⟨TB_7 (i := 153) (by decide +kernel) rfl, TB_1 (i := 13) (by decide +kernel) rfl, Nat.le_of_ble_eq_true rfl, by decide +kernel⟩, TB_7 (i := 152) (by decide +kernel) rfl, TB_of (i := 40) (by decide +kernel) rfl⟩
def M_X12_isTimes : pM := (yX12_isTimes, cX12_isTimes, 1, (Option.some Jvm.ClassFile.FieldType.boolean))
theorem MS_X12_isTimes : MST M_X12_isTimes 1 := ⟨⟨TB_7 (i := 156) (by decide +kernel) rfl, TB_1 (i := 13) (by decide +kernel) rfl, Nat.le_of_ble_eq_true rfl, by decide +kernel⟩, TB_7 (i := 155) (by decide +kernel) rfl⟩
def M_X12_isPlus : pM := (yX12_isPlus, cX12_isPlus, 1, (Option.some Jvm.ClassFile.FieldType.boolean))
theorem MS_X12_isPlus : MST M_X12_isPlus 1 := ⟨⟨TB_7 (i := 159) (by decide +kernel) rfl, TB_1 (i := 13) (by decide +kernel) rfl, Nat.le_of_ble_eq_true rfl, by decide +kernel⟩, TB_7 (i := 158) (by decide +kernel) rfl⟩
def M_X12_sums : pM := (yX12_sums, cX12_sums, 2, (Option.none : Option Jvm.ClassFile.FieldType))
theorem MV_X12_sums : MVI M_X12_sums 1 := ⟨⟨TB_7 (i := 163) (by decide +kernel) rfl, TB_1 (i := 13) (by decide +kernel) rfl, Nat.le_of_ble_eq_true rfl, by decide +kernel⟩, TB_7 (i := 162) (by decide +kernel) rfl, TB_of (i := 41) (by decide +kernel) rfl⟩
def M_X12_top : pM := (yX12_top, cX12_top, 1, (Option.some Jvm.ClassFile.FieldType.int))
theorem MV_X12_top : MVI M_X12_top 0 := ⟨⟨TB_7 (i := 167) (by decide +kernel) rfl, TB_1 (i := 13) (by decide +kernel) rfl, Nat.le_of_ble_eq_true rfl, by decide +kernel⟩, TB_7 (i := 166) (by decide +kernel) rfl, TB_of (i := 42) (by decide +kernel) rfl⟩
def M_X12_condition : pM := (yX12_condition, cX12_condition, 2, (Option.none : Option Jvm.ClassFile.FieldType))
theorem MV_X12_condition : MVI M_X12_condition 0 := ⟨⟨TB_7 (i := 171) (by decide +kernel) rfl, TB_1 (i := 13) (by decide +kernel) rfl, Nat.le_of_ble_eq_true rfl, by decide +kernel⟩, TB_7 (i := 170) (by decide +kernel) rfl, TB_of (i := 43) (by decide +kernel) rfl⟩
def M_X12_pieceOfC : pM := (yX12_pieceOfC, cX12_pieceOfC, 2, (Option.none : Option Jvm.ClassFile.FieldType))
theorem MV_X12_pieceOfC : MVI M_X12_pieceOfC 0 := ⟨⟨TB_7 (i := 175) (by decide +kernel) rfl, TB_1 (i := 13) (by decide +kernel) rfl, Nat.le_of_ble_eq_true rfl, by decide +kernel⟩, TB_7 (i := 174) (by decide +kernel) rfl, TB_of (i := 44) (by decide +kernel) rfl⟩
def M_X12_isSign : pM := (yX12_isSign, cX12_isSign, 1, (Option.some Jvm.ClassFile.FieldType.boolean))
theorem MS_X12_isSign : MST M_X12_isSign 1 := ⟨⟨TB_7 (i := 178) (by decide +kernel) rfl, TB_1 (i := 13) (by decide +kernel) rfl, Nat.le_of_ble_eq_true rfl, by decide +kernel⟩, TB_7 (i := 177) (by decide +kernel) rfl⟩
def M_X12_ends : pM := (yX12_ends, cX12_ends, 1, (Option.none : Option Jvm.ClassFile.FieldType))
theorem MV_X12_ends : MVI M_X12_ends 0 := ⟨⟨TB_7 (i := 182) (by decide +kernel) rfl, TB_1 (i := 13) (by decide +kernel) rfl, Nat.le_of_ble_eq_true rfl, by decide +kernel⟩, TB_7 (i := 181) (by decide +kernel) rfl, TB_of (i := 45) (by decide +kernel) rfl⟩
def M_X12_goesBehind : pM := (yX12_goesBehind, cX12_goesBehind, 2, (Option.some Jvm.ClassFile.FieldType.boolean))
theorem MV_X12_goesBehind : MVI M_X12_goesBehind 0 := ⟨⟨TB_7 (i := 186) (by decide +kernel) rfl, TB_1 (i := 13) (by decide +kernel) rfl, Nat.le_of_ble_eq_true rfl, by decide +kernel⟩, TB_7 (i := 185) (by decide +kernel) rfl, TB_of (i := 46) (by decide +kernel) rfl⟩
def M_X12_joins : pM := (yX12_joins, cX12_joins, 2, (Option.none : Option Jvm.ClassFile.FieldType))
theorem MV_X12_joins : MVI M_X12_joins 1 := ⟨⟨TB_7 (i := 190) (by decide +kernel) rfl, TB_1 (i := 13) (by decide +kernel) rfl, Nat.le_of_ble_eq_true rfl, by decide +kernel⟩, TB_7 (i := 189) (by decide +kernel) rfl, TB_of (i := 47) (by decide +kernel) rfl⟩
def M_X12_pull : pM := (yX12_pull, cX12_pull, 5, (Option.some Jvm.ClassFile.FieldType.int))
theorem MV_X12_pull : MVI M_X12_pull 3 := ⟨⟨TB_7 (i := 194) (by decide +kernel) rfl, TB_1 (i := 13) (by decide +kernel) rfl, Nat.le_of_ble_eq_true rfl, by decide +kernel⟩, TB_7 (i := 192) (by decide +kernel) rfl, TB_7 (i := 193) (by decide +kernel) rfl⟩
def M_X12_isPressure : pM := (yX12_isPressure, cX12_isPressure, 1, (Option.some Jvm.ClassFile.FieldType.boolean))
theorem MS_X12_isPressure : MST M_X12_isPressure 1 := ⟨⟨TB_7 (i := 197) (by decide +kernel) rfl, TB_1 (i := 13) (by decide +kernel) rfl, Nat.le_of_ble_eq_true rfl, by decide +kernel⟩, TB_7 (i := 196) (by decide +kernel) rfl⟩
def M_X12_takes : pM := (yX12_takes, cX12_takes, 2, (Option.none : Option Jvm.ClassFile.FieldType))
theorem MV_X12_takes : MVI M_X12_takes 1 := ⟨⟨TB_7 (i := 202) (by decide +kernel) rfl, TB_1 (i := 13) (by decide +kernel) rfl, Nat.le_of_ble_eq_true rfl, by decide +kernel⟩, TB_7 (i := 201) (by decide +kernel) rfl, TB_of (i := 48) (by decide +kernel) rfl⟩
def M_X12_toldBy : pM := (yX12_toldBy, cX12_toldBy, 5, (Option.some Jvm.ClassFile.FieldType.int))
theorem MV_X12_toldBy : MVI M_X12_toldBy 2 := ⟨⟨TB_7 (i := 206) (by decide +kernel) rfl, TB_1 (i := 13) (by decide +kernel) rfl, Nat.le_of_ble_eq_true rfl, by decide +kernel⟩, TB_7 (i := 205) (by decide +kernel) rfl, TB_of (i := 49) (by decide +kernel) rfl⟩
def M_X12_works : pM := (yX12_works, cX12_works, 5, (Option.none : Option Jvm.ClassFile.FieldType))
theorem MV_X12_works : MVI M_X12_works 2 := ⟨⟨TB_7 (i := 210) (by decide +kernel) rfl, TB_1 (i := 13) (by decide +kernel) rfl, Nat.le_of_ble_eq_true rfl, by decide +kernel⟩, TB_7 (i := 209) (by decide +kernel) rfl, TB_of (i := 50) (by decide +kernel) rfl⟩
def M_X12_does : pM := (yX12_does, cX12_does, 4, (Option.none : Option Jvm.ClassFile.FieldType))
theorem MV_X12_does : MVI M_X12_does 2 := ⟨⟨TB_7 (i := 214) (by decide +kernel) rfl, TB_1 (i := 13) (by decide +kernel) rfl, Nat.le_of_ble_eq_true rfl, by decide +kernel⟩, TB_7 (i := 213) (by decide +kernel) rfl, TB_of (i := 51) (by decide +kernel) rfl⟩
def M_X12_worked : pM := (yX12_worked, cX12_worked, 3, (Option.some Jvm.ClassFile.FieldType.int))
theorem MS_X12_worked : MST M_X12_worked 3 := ⟨⟨TB_7 (i := 217) (by decide +kernel) rfl, TB_1 (i := 13) (by decide +kernel) rfl, Nat.le_of_ble_eq_true rfl, by decide +kernel⟩, TB_7 (i := 216) (by decide +kernel) rfl⟩
def M_X12_valueOf : pM := (yX12_valueOf, cX12_valueOf, 2, (Option.some Jvm.ClassFile.FieldType.int))
theorem MV_X12_valueOf : MVI M_X12_valueOf 1 := ⟨⟨TB_7 (i := 221) (by decide +kernel) rfl, TB_1 (i := 13) (by decide +kernel) rfl, Nat.le_of_ble_eq_true rfl, by decide +kernel⟩, TB_7 (i := 220) (by decide +kernel) rfl, TB_of (i := 52) (by decide +kernel) rfl⟩
def M_X12_program : pM := (yX12_program, cX12_program, 7, (Option.some Jvm.ClassFile.FieldType.int))
theorem MV_X12_program : MVI M_X12_program 2 := ⟨⟨TB_7 (i := 226) (by decide +kernel) rfl, TB_1 (i := 13) (by decide +kernel) rfl, Nat.le_of_ble_eq_true rfl, by decide +kernel⟩, TB_7 (i := 224) (by decide +kernel) rfl, TB_7 (i := 225) (by decide +kernel) rfl⟩
def M_X12_isProgram : pM := (yX12_isProgram, cX12_isProgram, 1, (Option.some Jvm.ClassFile.FieldType.boolean))
theorem MS_X12_isProgram : MST M_X12_isProgram 1 := ⟨⟨TB_7 (i := 229) (by decide +kernel) rfl, TB_1 (i := 13) (by decide +kernel) rfl, Nat.le_of_ble_eq_true rfl, by decide +kernel⟩, TB_7 (i := 228) (by decide +kernel) rfl⟩
def M_X12_part : pM := (yX12_part, cX12_part, 5, (Option.some Jvm.ClassFile.FieldType.int))
theorem MV_X12_part : MVI M_X12_part 2 := ⟨⟨TB_7 (i := 235) (by decide +kernel) rfl, TB_1 (i := 13) (by decide +kernel) rfl, Nat.le_of_ble_eq_true rfl, by decide +kernel⟩, TB_7 (i := 234) (by decide +kernel) rfl, TB_of (i := 53) (by decide +kernel) rfl⟩
def M_X12_digits : pM := (yX12_digits, cX12_digits, 4, (Option.some Jvm.ClassFile.FieldType.int))
theorem MV_X12_digits : MVI M_X12_digits 1 := ⟨⟨TB_7 (i := 239) (by decide +kernel) rfl, TB_1 (i := 13) (by decide +kernel) rfl, Nat.le_of_ble_eq_true rfl, by decide +kernel⟩, TB_7 (i := 238) (by decide +kernel) rfl, TB_of (i := 54) (by decide +kernel) rfl⟩
def M_X12_runs : pM := (yX12_runs, cX12_runs, 5, (Option.some Jvm.ClassFile.FieldType.int))
theorem MV_X12_runs : MVI M_X12_runs 4 := ⟨⟨TB_8 (i := 3) (by decide +kernel) rfl, TB_1 (i := 13) (by decide +kernel) rfl, Nat.le_of_ble_eq_true rfl, by decide +kernel⟩, TB_8 (i := 1) (by decide +kernel) rfl, TB_8 (i := 2) (by decide +kernel) rfl⟩
def M_X12_goes : pM := (yX12_goes, cX12_goes, 10, (Option.none : Option Jvm.ClassFile.FieldType))
theorem MV_X12_goes : MVI M_X12_goes 5 := ⟨⟨TB_8 (i := 7) (by decide +kernel) rfl, TB_1 (i := 13) (by decide +kernel) rfl, Nat.le_of_ble_eq_true rfl, by decide +kernel⟩, TB_8 (i := 6) (by decide +kernel) rfl, TB_of (i := 55) (by decide +kernel) rfl⟩
def M_X12_isPulled : pM := (yX12_isPulled, cX12_isPulled, 4, (Option.none : Option Jvm.ClassFile.FieldType))
theorem MV_X12_isPulled : MVI M_X12_isPulled 1 := ⟨⟨TB_8 (i := 11) (by decide +kernel) rfl, TB_1 (i := 13) (by decide +kernel) rfl, Nat.le_of_ble_eq_true rfl, by decide +kernel⟩, TB_8 (i := 10) (by decide +kernel) rfl, TB_of (i := 56) (by decide +kernel) rfl⟩
def M_X12_runsNow : pM := (yX12_runsNow, cX12_runsNow, 1, (Option.some Jvm.ClassFile.FieldType.boolean))
theorem MV_X12_runsNow : MVI M_X12_runsNow 0 := ⟨⟨TB_8 (i := 16) (by decide +kernel) rfl, TB_1 (i := 13) (by decide +kernel) rfl, Nat.le_of_ble_eq_true rfl, by decide +kernel⟩, TB_8 (i := 15) (by decide +kernel) rfl, TB_of (i := 57) (by decide +kernel) rfl⟩
def M_X12_odds : pM := (yX12_odds, cX12_odds, 5, (Option.some Jvm.ClassFile.FieldType.long))
theorem MV_X12_odds : MVI M_X12_odds 4 := ⟨⟨TB_8 (i := 20) (by decide +kernel) rfl, TB_1 (i := 13) (by decide +kernel) rfl, Nat.le_of_ble_eq_true rfl, by decide +kernel⟩, TB_8 (i := 18) (by decide +kernel) rfl, TB_8 (i := 19) (by decide +kernel) rfl⟩
def M_X12_canFly : pM := (yX12_canFly, cX12_canFly, 4, (Option.some Jvm.ClassFile.FieldType.boolean))
theorem MV_X12_canFly : MVI M_X12_canFly 3 := ⟨⟨TB_8 (i := 24) (by decide +kernel) rfl, TB_1 (i := 13) (by decide +kernel) rfl, Nat.le_of_ble_eq_true rfl, by decide +kernel⟩, TB_8 (i := 23) (by decide +kernel) rfl, TB_of (i := 58) (by decide +kernel) rfl⟩
def M_X12_whole : pM := (yX12_whole, cX12_whole, 1, (Option.some Jvm.ClassFile.FieldType.int))
theorem MV_X12_whole : MVI M_X12_whole 0 := ⟨⟨TB_8 (i := 29) (by decide +kernel) rfl, TB_1 (i := 13) (by decide +kernel) rfl, Nat.le_of_ble_eq_true rfl, by decide +kernel⟩, TB_8 (i := 28) (by decide +kernel) rfl, TB_of (i := 59) (by decide +kernel) rfl⟩
def M_X12_all : pM := (yX12_all, cX12_all, 7, (Option.none : Option Jvm.ClassFile.FieldType))
theorem MV_X12_all : MVI M_X12_all 4 := ⟨⟨TB_8 (i := 33) (by decide +kernel) rfl, TB_1 (i := 13) (by decide +kernel) rfl, Nat.le_of_ble_eq_true rfl, by decide +kernel⟩, TB_8 (i := 32) (by decide +kernel) rfl, TB_of (i := 60) (by decide +kernel) rfl⟩
def M_X12_has : pM := (yX12_has, cX12_has, 2, (Option.some Jvm.ClassFile.FieldType.boolean))
theorem MS_X12_has : MST M_X12_has 2 := ⟨⟨TB_8 (i := 36) (by decide +kernel) rfl, TB_1 (i := 13) (by decide +kernel) rfl, Nat.le_of_ble_eq_true rfl, by decide +kernel⟩, TB_8 (i := 35) (by decide +kernel) rfl⟩
def M_X12_waysOf : pM := (yX12_waysOf, cX12_waysOf, 8, (Option.some Jvm.ClassFile.FieldType.long))
theorem MV_X12_waysOf : MVI M_X12_waysOf 1 := ⟨⟨TB_8 (i := 40) (by decide +kernel) rfl, TB_1 (i := 13) (by decide +kernel) rfl, Nat.le_of_ble_eq_true rfl, by decide +kernel⟩, TB_8 (i := 39) (by decide +kernel) rfl, TB_of (i := 61) (by decide +kernel) rfl⟩
def M_X12_waysLeft : pM := (yX12_waysLeft, cX12_waysLeft, 9, (Option.some Jvm.ClassFile.FieldType.long))
theorem MV_X12_waysLeft : MVI M_X12_waysLeft 2 := ⟨⟨TB_8 (i := 44) (by decide +kernel) rfl, TB_1 (i := 13) (by decide +kernel) rfl, Nat.le_of_ble_eq_true rfl, by decide +kernel⟩, TB_8 (i := 43) (by decide +kernel) rfl, TB_of (i := 62) (by decide +kernel) rfl⟩
def M_X12_first : pM := (yX12_first, cX12_first, 13, (Option.some Jvm.ClassFile.FieldType.long))
theorem MV_X12_first : MVI M_X12_first 1 := ⟨⟨TB_8 (i := 48) (by decide +kernel) rfl, TB_1 (i := 13) (by decide +kernel) rfl, Nat.le_of_ble_eq_true rfl, by decide +kernel⟩, TB_8 (i := 47) (by decide +kernel) rfl, TB_of (i := 63) (by decide +kernel) rfl⟩
def M_X12_left : pM := (yX12_left, cX12_left, 11, (Option.some Jvm.ClassFile.FieldType.long))
theorem MV_X12_left : MVI M_X12_left 4 := ⟨⟨TB_8 (i := 52) (by decide +kernel) rfl, TB_1 (i := 13) (by decide +kernel) rfl, Nat.le_of_ble_eq_true rfl, by decide +kernel⟩, TB_8 (i := 50) (by decide +kernel) rfl, TB_8 (i := 51) (by decide +kernel) rfl⟩
def M_X12_divisor : pM := (yX12_divisor, cX12_divisor, 10, (Option.some Jvm.ClassFile.FieldType.long))
theorem MS_X12_divisor : MST M_X12_divisor 2 := ⟨⟨TB_8 (i := 56) (by decide +kernel) rfl, TB_1 (i := 13) (by decide +kernel) rfl, Nat.le_of_ble_eq_true rfl, by decide +kernel⟩, TB_8 (i := 55) (by decide +kernel) rfl⟩
def M_X12_likely : pM := (yX12_likely, cX12_likely, 5, (Option.some Jvm.ClassFile.FieldType.int))
theorem MV_X12_likely : MVI M_X12_likely 4 := ⟨⟨TB_8 (i := 60) (by decide +kernel) rfl, TB_1 (i := 13) (by decide +kernel) rfl, Nat.le_of_ble_eq_true rfl, by decide +kernel⟩, TB_8 (i := 58) (by decide +kernel) rfl, TB_8 (i := 59) (by decide +kernel) rfl⟩
def M_X12_isPiece : pM := (yX12_isPiece, cX12_isPiece, 2, (Option.some Jvm.ClassFile.FieldType.boolean))
theorem MV_X12_isPiece : MVI M_X12_isPiece 1 := ⟨⟨TB_8 (i := 64) (by decide +kernel) rfl, TB_1 (i := 13) (by decide +kernel) rfl, Nat.le_of_ble_eq_true rfl, by decide +kernel⟩, TB_8 (i := 63) (by decide +kernel) rfl, TB_of (i := 64) (by decide +kernel) rfl⟩
def M_X12_likelyOf : pM := (yX12_likelyOf, cX12_likelyOf, 9, (Option.some Jvm.ClassFile.FieldType.int))
theorem MV_X12_likelyOf : MVI M_X12_likelyOf 4 := ⟨⟨TB_8 (i := 69) (by decide +kernel) rfl, TB_1 (i := 13) (by decide +kernel) rfl, Nat.le_of_ble_eq_true rfl, by decide +kernel⟩, TB_8 (i := 68) (by decide +kernel) rfl, TB_of (i := 65) (by decide +kernel) rfl⟩
def M_X12_pullsIn : pM := (yX12_pullsIn, cX12_pullsIn, 2, (Option.some Jvm.ClassFile.FieldType.int))
theorem MV_X12_pullsIn : MVI M_X12_pullsIn 1 := ⟨⟨TB_8 (i := 73) (by decide +kernel) rfl, TB_1 (i := 13) (by decide +kernel) rfl, Nat.le_of_ble_eq_true rfl, by decide +kernel⟩, TB_8 (i := 72) (by decide +kernel) rfl, TB_of (i := 66) (by decide +kernel) rfl⟩
def M_X12_off : pM := (yX12_off, cX12_off, 6, (Option.some Jvm.ClassFile.FieldType.int))
theorem MV_X12_off : MVI M_X12_off 3 := ⟨⟨TB_8 (i := 77) (by decide +kernel) rfl, TB_1 (i := 13) (by decide +kernel) rfl, Nat.le_of_ble_eq_true rfl, by decide +kernel⟩, TB_8 (i := 75) (by decide +kernel) rfl, TB_8 (i := 76) (by decide +kernel) rfl⟩
def M_X12_trial : pM := (yX12_trial, cX12_trial, 8, (Option.some Jvm.ClassFile.FieldType.int))
theorem MV_X12_trial : MVI M_X12_trial 5 := ⟨⟨TB_8 (i := 82) (by decide +kernel) rfl, TB_1 (i := 13) (by decide +kernel) rfl, Nat.le_of_ble_eq_true rfl, by decide +kernel⟩, TB_8 (i := 80) (by decide +kernel) rfl, TB_8 (i := 81) (by decide +kernel) rfl⟩
def M_X12_says : pM := (yX12_says, cX12_says, 9, (Option.some Jvm.ClassFile.FieldType.long))
theorem MV_X12_says : MVI M_X12_says 2 := ⟨⟨TB_8 (i := 86) (by decide +kernel) rfl, TB_1 (i := 13) (by decide +kernel) rfl, Nat.le_of_ble_eq_true rfl, by decide +kernel⟩, TB_8 (i := 84) (by decide +kernel) rfl, TB_8 (i := 85) (by decide +kernel) rfl⟩
def M_X12_lostBy : pM := (yX12_lostBy, cX12_lostBy, 2, (Option.some Jvm.ClassFile.FieldType.long))
theorem MV_X12_lostBy : MVI M_X12_lostBy 1 := ⟨⟨TB_8 (i := 90) (by decide +kernel) rfl, TB_1 (i := 13) (by decide +kernel) rfl, Nat.le_of_ble_eq_true rfl, by decide +kernel⟩, TB_8 (i := 89) (by decide +kernel) rfl, TB_of (i := 67) (by decide +kernel) rfl⟩
def M_X12_cheapest : pM := (yX12_cheapest, cX12_cheapest, 4, (Option.some Jvm.ClassFile.FieldType.int))
theorem MV_X12_cheapest : MVI M_X12_cheapest 1 := ⟨⟨TB_8 (i := 94) (by decide +kernel) rfl, TB_1 (i := 13) (by decide +kernel) rfl, Nat.le_of_ble_eq_true rfl, by decide +kernel⟩, TB_8 (i := 92) (by decide +kernel) rfl, TB_8 (i := 93) (by decide +kernel) rfl⟩
def M_X12_fly : pM := (yX12_fly, cX12_fly, 15, (Option.some Jvm.ClassFile.FieldType.int))
theorem MV_X12_fly : MVI M_X12_fly 5 := ⟨⟨TB_8 (i := 98) (by decide +kernel) rfl, TB_1 (i := 13) (by decide +kernel) rfl, Nat.le_of_ble_eq_true rfl, by decide +kernel⟩, TB_8 (i := 96) (by decide +kernel) rfl, TB_8 (i := 97) (by decide +kernel) rfl⟩
def M_X12_hull : pM := (yX12_hull, cX12_hull, 4, (Option.some Jvm.ClassFile.FieldType.int))
theorem MV_X12_hull : MVI M_X12_hull 1 := ⟨⟨TB_8 (i := 103) (by decide +kernel) rfl, TB_1 (i := 13) (by decide +kernel) rfl, Nat.le_of_ble_eq_true rfl, by decide +kernel⟩, TB_8 (i := 101) (by decide +kernel) rfl, TB_8 (i := 102) (by decide +kernel) rfl⟩
def M_X12_flown : pM := (yX12_flown, cX12_flown, 5, (Option.some Jvm.ClassFile.FieldType.int))
theorem MV_X12_flown : MVI M_X12_flown 3 := ⟨⟨TB_8 (i := 107) (by decide +kernel) rfl, TB_1 (i := 13) (by decide +kernel) rfl, Nat.le_of_ble_eq_true rfl, by decide +kernel⟩, TB_8 (i := 105) (by decide +kernel) rfl, TB_8 (i := 106) (by decide +kernel) rfl⟩
def M_X12_isHull : pM := (yX12_isHull, cX12_isHull, 2, (Option.some Jvm.ClassFile.FieldType.boolean))
theorem MV_X12_isHull : MVI M_X12_isHull 1 := ⟨⟨TB_8 (i := 111) (by decide +kernel) rfl, TB_1 (i := 13) (by decide +kernel) rfl, Nat.le_of_ble_eq_true rfl, by decide +kernel⟩, TB_8 (i := 110) (by decide +kernel) rfl, TB_of (i := 68) (by decide +kernel) rfl⟩
def M_X12_pullsHull : pM := (yX12_pullsHull, cX12_pullsHull, 5, (Option.none : Option Jvm.ClassFile.FieldType))
theorem MV_X12_pullsHull : MVI M_X12_pullsHull 2 := ⟨⟨TB_8 (i := 116) (by decide +kernel) rfl, TB_1 (i := 13) (by decide +kernel) rfl, Nat.le_of_ble_eq_true rfl, by decide +kernel⟩, TB_8 (i := 115) (by decide +kernel) rfl, TB_of (i := 69) (by decide +kernel) rfl⟩
def M_X12_hullIs : pM := (yX12_hullIs, cX12_hullIs, 3, (Option.some Jvm.ClassFile.FieldType.int))
theorem MV_X12_hullIs : MVI M_X12_hullIs 2 := ⟨⟨TB_8 (i := 120) (by decide +kernel) rfl, TB_1 (i := 13) (by decide +kernel) rfl, Nat.le_of_ble_eq_true rfl, by decide +kernel⟩, TB_8 (i := 118) (by decide +kernel) rfl, TB_8 (i := 119) (by decide +kernel) rfl⟩
def M_X12_cornerIs : pM := (yX12_cornerIs, cX12_cornerIs, 5, (Option.some Jvm.ClassFile.FieldType.int))
theorem MV_X12_cornerIs : MVI M_X12_cornerIs 3 := ⟨⟨TB_8 (i := 124) (by decide +kernel) rfl, TB_1 (i := 13) (by decide +kernel) rfl, Nat.le_of_ble_eq_true rfl, by decide +kernel⟩, TB_8 (i := 122) (by decide +kernel) rfl, TB_8 (i := 123) (by decide +kernel) rfl⟩
def M_X12_story : pM := (yX12_story, cX12_story, 2, (Option.some Jvm.ClassFile.FieldType.int))
theorem MV_X12_story : MVI M_X12_story 1 := ⟨⟨TB_8 (i := 128) (by decide +kernel) rfl, TB_1 (i := 13) (by decide +kernel) rfl, Nat.le_of_ble_eq_true rfl, by decide +kernel⟩, TB_8 (i := 126) (by decide +kernel) rfl, TB_8 (i := 127) (by decide +kernel) rfl⟩
def M_X12_find : pM := (yX12_find, cX12_find, 1, (Option.some Jvm.ClassFile.FieldType.int))
theorem MV_X12_find : MVI M_X12_find 0 := ⟨⟨TB_8 (i := 133) (by decide +kernel) rfl, TB_1 (i := 13) (by decide +kernel) rfl, Nat.le_of_ble_eq_true rfl, by decide +kernel⟩, TB_8 (i := 131) (by decide +kernel) rfl, TB_8 (i := 132) (by decide +kernel) rfl⟩
def M_X12_tells : pM := (yX12_tells, cX12_tells, 4, (Option.some Jvm.ClassFile.FieldType.boolean))
theorem MV_X12_tells : MVI M_X12_tells 3 := ⟨⟨TB_8 (i := 137) (by decide +kernel) rfl, TB_1 (i := 13) (by decide +kernel) rfl, Nat.le_of_ble_eq_true rfl, by decide +kernel⟩, TB_8 (i := 135) (by decide +kernel) rfl, TB_8 (i := 136) (by decide +kernel) rfl⟩
def M_X12_isFind : pM := (yX12_isFind, cX12_isFind, 2, (Option.some Jvm.ClassFile.FieldType.boolean))
theorem MV_X12_isFind : MVI M_X12_isFind 1 := ⟨⟨TB_8 (i := 141) (by decide +kernel) rfl, TB_1 (i := 13) (by decide +kernel) rfl, Nat.le_of_ble_eq_true rfl, by decide +kernel⟩, TB_8 (i := 140) (by decide +kernel) rfl, TB_of (i := 70) (by decide +kernel) rfl⟩
def M_X12_isStory : pM := (yX12_isStory, cX12_isStory, 2, (Option.some Jvm.ClassFile.FieldType.boolean))
theorem MV_X12_isStory : MVI M_X12_isStory 1 := ⟨⟨TB_8 (i := 145) (by decide +kernel) rfl, TB_1 (i := 13) (by decide +kernel) rfl, Nat.le_of_ble_eq_true rfl, by decide +kernel⟩, TB_8 (i := 144) (by decide +kernel) rfl, TB_of (i := 71) (by decide +kernel) rfl⟩
def M_X12_seen : pM := (yX12_seen, cX12_seen, 3, (Option.some Jvm.ClassFile.FieldType.boolean))
theorem MV_X12_seen : MVI M_X12_seen 2 := ⟨⟨TB_8 (i := 150) (by decide +kernel) rfl, TB_1 (i := 13) (by decide +kernel) rfl, Nat.le_of_ble_eq_true rfl, by decide +kernel⟩, TB_8 (i := 148) (by decide +kernel) rfl, TB_8 (i := 149) (by decide +kernel) rfl⟩
def M_X12_weighs : pM := (yX12_weighs, cX12_weighs, 5, (Option.some Jvm.ClassFile.FieldType.long))
theorem MV_X12_weighs : MVI M_X12_weighs 1 := ⟨⟨TB_8 (i := 154) (by decide +kernel) rfl, TB_1 (i := 13) (by decide +kernel) rfl, Nat.le_of_ble_eq_true rfl, by decide +kernel⟩, TB_8 (i := 152) (by decide +kernel) rfl, TB_8 (i := 153) (by decide +kernel) rfl⟩
def M_X12_weightOf : pM := (yX12_weightOf, cX12_weightOf, 5, (Option.some Jvm.ClassFile.FieldType.long))
theorem MV_X12_weightOf : MVI M_X12_weightOf 1 := ⟨⟨TB_8 (i := 158) (by decide +kernel) rfl, TB_1 (i := 13) (by decide +kernel) rfl, Nat.le_of_ble_eq_true rfl, by decide +kernel⟩, TB_8 (i := 157) (by decide +kernel) rfl, TB_of (i := 72) (by decide +kernel) rfl⟩
def M_X12_moves : pM := (yX12_moves, cX12_moves, 14, (Option.some Jvm.ClassFile.FieldType.int))
theorem MV_X12_moves : MVI M_X12_moves 0 := ⟨⟨TB_8 (i := 162) (by decide +kernel) rfl, TB_1 (i := 13) (by decide +kernel) rfl, Nat.le_of_ble_eq_true rfl, by decide +kernel⟩, TB_8 (i := 160) (by decide +kernel) rfl, TB_8 (i := 161) (by decide +kernel) rfl⟩
def M_X12_wind : pM := (yX12_wind, cX12_wind, 4, (Option.some Jvm.ClassFile.FieldType.boolean))
theorem MV_X12_wind : MVI M_X12_wind 3 := ⟨⟨TB_8 (i := 166) (by decide +kernel) rfl, TB_1 (i := 13) (by decide +kernel) rfl, Nat.le_of_ble_eq_true rfl, by decide +kernel⟩, TB_8 (i := 164) (by decide +kernel) rfl, TB_8 (i := 165) (by decide +kernel) rfl⟩
def M_X12_lies : pM := (yX12_lies, cX12_lies, 3, (Option.some Jvm.ClassFile.FieldType.int))
theorem MV_X12_lies : MVI M_X12_lies 2 := ⟨⟨TB_8 (i := 172) (by decide +kernel) rfl, TB_1 (i := 13) (by decide +kernel) rfl, Nat.le_of_ble_eq_true rfl, by decide +kernel⟩, TB_8 (i := 170) (by decide +kernel) rfl, TB_8 (i := 171) (by decide +kernel) rfl⟩
def M_X12_span : pM := (yX12_span, cX12_span, 7, (Option.some Jvm.ClassFile.FieldType.int))
theorem MV_X12_span : MVI M_X12_span 2 := ⟨⟨TB_8 (i := 177) (by decide +kernel) rfl, TB_1 (i := 13) (by decide +kernel) rfl, Nat.le_of_ble_eq_true rfl, by decide +kernel⟩, TB_8 (i := 175) (by decide +kernel) rfl, TB_8 (i := 176) (by decide +kernel) rfl⟩
def M_X12_isOnBed : pM := (yX12_isOnBed, cX12_isOnBed, 2, (Option.some Jvm.ClassFile.FieldType.boolean))
theorem MV_X12_isOnBed : MVI M_X12_isOnBed 1 := ⟨⟨TB_8 (i := 181) (by decide +kernel) rfl, TB_1 (i := 13) (by decide +kernel) rfl, Nat.le_of_ble_eq_true rfl, by decide +kernel⟩, TB_8 (i := 180) (by decide +kernel) rfl, TB_of (i := 73) (by decide +kernel) rfl⟩
def M_X12_secondOf : pM := (yX12_secondOf, cX12_secondOf, 4, (Option.some Jvm.ClassFile.FieldType.int))
theorem MV_X12_secondOf : MVI M_X12_secondOf 2 := ⟨⟨TB_8 (i := 185) (by decide +kernel) rfl, TB_1 (i := 13) (by decide +kernel) rfl, Nat.le_of_ble_eq_true rfl, by decide +kernel⟩, TB_8 (i := 184) (by decide +kernel) rfl, TB_of (i := 74) (by decide +kernel) rfl⟩
def M_X12_order : pM := (yX12_order, cX12_order, 7, (Option.some Jvm.ClassFile.FieldType.int))
theorem MV_X12_order : MVI M_X12_order 2 := ⟨⟨TB_8 (i := 189) (by decide +kernel) rfl, TB_1 (i := 13) (by decide +kernel) rfl, Nat.le_of_ble_eq_true rfl, by decide +kernel⟩, TB_8 (i := 187) (by decide +kernel) rfl, TB_8 (i := 188) (by decide +kernel) rfl⟩
def M_X12_cell : pM := (yX12_cell, cX12_cell, 4, (Option.some Jvm.ClassFile.FieldType.boolean))
theorem MV_X12_cell : MVI M_X12_cell 3 := ⟨⟨TB_8 (i := 193) (by decide +kernel) rfl, TB_1 (i := 13) (by decide +kernel) rfl, Nat.le_of_ble_eq_true rfl, by decide +kernel⟩, TB_8 (i := 191) (by decide +kernel) rfl, TB_8 (i := 192) (by decide +kernel) rfl⟩
def M_X12_nets : pM := (yX12_nets, cX12_nets, 10, (Option.some Jvm.ClassFile.FieldType.long))
theorem MV_X12_nets : MVI M_X12_nets 3 := ⟨⟨TB_8 (i := 198) (by decide +kernel) rfl, TB_1 (i := 13) (by decide +kernel) rfl, Nat.le_of_ble_eq_true rfl, by decide +kernel⟩, TB_8 (i := 196) (by decide +kernel) rfl, TB_8 (i := 197) (by decide +kernel) rfl⟩
def M_X12_worths : pM := (yX12_worths, cX12_worths, 5, (Option.none : Option Jvm.ClassFile.FieldType))
theorem MV_X12_worths : MVI M_X12_worths 0 := ⟨⟨TB_8 (i := 203) (by decide +kernel) rfl, TB_1 (i := 13) (by decide +kernel) rfl, Nat.le_of_ble_eq_true rfl, by decide +kernel⟩, TB_8 (i := 202) (by decide +kernel) rfl, TB_of (i := 75) (by decide +kernel) rfl⟩
def M_X12_check : pM := (yX12_check, cX12_check, 4, (Option.some Jvm.ClassFile.FieldType.int))
theorem MV_X12_check : MVI M_X12_check 2 := ⟨⟨TB_8 (i := 207) (by decide +kernel) rfl, TB_1 (i := 13) (by decide +kernel) rfl, Nat.le_of_ble_eq_true rfl, by decide +kernel⟩, TB_8 (i := 205) (by decide +kernel) rfl, TB_8 (i := 206) (by decide +kernel) rfl⟩
def M_X12_numberAt : pM := (yX12_numberAt, cX12_numberAt, 4, (Option.some Jvm.ClassFile.FieldType.int))
theorem MV_X12_numberAt : MVI M_X12_numberAt 1 := ⟨⟨TB_8 (i := 211) (by decide +kernel) rfl, TB_1 (i := 13) (by decide +kernel) rfl, Nat.le_of_ble_eq_true rfl, by decide +kernel⟩, TB_8 (i := 210) (by decide +kernel) rfl, TB_of (i := 76) (by decide +kernel) rfl⟩
def M_X12_count : pM := (yX12_count, cX12_count, 2, (Option.some Jvm.ClassFile.FieldType.int))
theorem MV_X12_count : MVI M_X12_count 1 := ⟨⟨TB_8 (i := 215) (by decide +kernel) rfl, TB_1 (i := 13) (by decide +kernel) rfl, Nat.le_of_ble_eq_true rfl, by decide +kernel⟩, TB_8 (i := 213) (by decide +kernel) rfl, TB_8 (i := 214) (by decide +kernel) rfl⟩
theorem cL_L_7 : Cond.classLink RL 7 "HullTank" ∈ TB := TB_1 (i := 20) (by decide +kernel) rfl
theorem iN_11 : Cond.instantiable (kR 11) (kN 11) ∈ TB ∧ Cond.initialized (kR 11) ∈ TB := ⟨TB_1 (i := 21) (by decide +kernel) rfl, TB_1 (i := 1) (by decide +kernel) rfl⟩
theorem mL_L_9 : Cond.methodLink RL 9 yX11_init ∈ TB := TB_1 (i := 22) (by decide +kernel) rfl
theorem mL_X11_1 : Cond.methodLink RX11 1 Lib.objectInit ∈ TB := TB_1 (i := 25) (by decide +kernel) rfl
theorem cL_X11_7 : Cond.classLink RX11 7 "HullTank$Tape" ∈ TB := TB_1 (i := 28) (by decide +kernel) rfl
theorem iN_9 : Cond.instantiable (kR 9) (kN 9) ∈ TB ∧ Cond.initialized (kR 9) ∈ TB := ⟨TB_1 (i := 29) (by decide +kernel) rfl, TB_1 (i := 2) (by decide +kernel) rfl⟩
theorem mL_X9_1 : Cond.methodLink RX9 1 Lib.objectInit ∈ TB := TB_1 (i := 33) (by decide +kernel) rfl
theorem fL_X9_7 : FLD RX9 7 9 0 := ⟨by decide, by decide, TB_1 (i := 34) (by decide +kernel) rfl⟩
theorem fL_X9_13 : FLD RX9 13 9 1 := ⟨by decide, by decide, TB_1 (i := 35) (by decide +kernel) rfl⟩
theorem fL_X9_27 : FLD RX9 27 9 2 := ⟨by decide, by decide, TB_1 (i := 36) (by decide +kernel) rfl⟩
theorem fL_X9_30 : FLD RX9 30 9 3 := ⟨by decide, by decide, TB_1 (i := 37) (by decide +kernel) rfl⟩
theorem fL_X9_33 : FLD RX9 33 9 4 := ⟨by decide, by decide, TB_1 (i := 38) (by decide +kernel) rfl⟩
theorem fL_X9_36 : FLD RX9 36 9 5 := ⟨by decide, by decide, TB_1 (i := 39) (by decide +kernel) rfl⟩
theorem aC_int : Cond.arrayClass .int ∈ TB := TB_1 (i := 53) (by decide +kernel) rfl
theorem cL_X11_16 : Cond.classLink RX11 16 "HullTank$Corners" ∈ TB := TB_1 (i := 54) (by decide +kernel) rfl
theorem iN_1 : Cond.instantiable (kR 1) (kN 1) ∈ TB ∧ Cond.initialized (kR 1) ∈ TB := ⟨TB_1 (i := 55) (by decide +kernel) rfl, TB_1 (i := 3) (by decide +kernel) rfl⟩
theorem mL_X1_1 : Cond.methodLink RX1 1 Lib.objectInit ∈ TB := TB_1 (i := 59) (by decide +kernel) rfl
theorem cL_X1_31 : Cond.classLink RX1 31 "HullTank$Law" ∈ TB := TB_1 (i := 60) (by decide +kernel) rfl
theorem iN_3 : Cond.instantiable (kR 3) (kN 3) ∈ TB ∧ Cond.initialized (kR 3) ∈ TB := ⟨TB_1 (i := 61) (by decide +kernel) rfl, TB_1 (i := 4) (by decide +kernel) rfl⟩
theorem mL_X3_3 : Cond.methodLink RX3 3 Lib.objectInit ∈ TB := TB_1 (i := 65) (by decide +kernel) rfl
theorem fL_X3_9 : FLD RX3 9 3 0 := ⟨by decide, by decide, TB_1 (i := 66) (by decide +kernel) rfl⟩
theorem fL_X3_13 : FLD RX3 13 3 1 := ⟨by decide, by decide, TB_1 (i := 67) (by decide +kernel) rfl⟩
theorem fL_X3_16 : FLD RX3 16 3 2 := ⟨by decide, by decide, TB_1 (i := 68) (by decide +kernel) rfl⟩
theorem fL_X3_19 : FLD RX3 19 3 3 := ⟨by decide, by decide, TB_1 (i := 69) (by decide +kernel) rfl⟩
theorem fL_X3_22 : FLD RX3 22 3 4 := ⟨by decide, by decide, TB_1 (i := 70) (by decide +kernel) rfl⟩
theorem fL_X3_25 : FLD RX3 25 3 5 := ⟨by decide, by decide, TB_1 (i := 71) (by decide +kernel) rfl⟩
theorem fL_X3_28 : FLD RX3 28 3 6 := ⟨by decide, by decide, TB_1 (i := 72) (by decide +kernel) rfl⟩
theorem fL_X3_38 : FLD RX3 38 3 7 := ⟨by decide, by decide, TB_1 (i := 73) (by decide +kernel) rfl⟩
theorem fL_X3_31 : FLD RX3 31 3 8 := ⟨by decide, by decide, TB_1 (i := 74) (by decide +kernel) rfl⟩
theorem fL_X3_35 : FLD RX3 35 3 9 := ⟨by decide, by decide, TB_1 (i := 75) (by decide +kernel) rfl⟩
theorem fL_X3_72 : FLD RX3 72 3 10 := ⟨by decide, by decide, TB_1 (i := 76) (by decide +kernel) rfl⟩
theorem fL_X3_56 : FLD RX3 56 3 11 := ⟨by decide, by decide, TB_1 (i := 77) (by decide +kernel) rfl⟩
theorem fL_X3_60 : FLD RX3 60 3 12 := ⟨by decide, by decide, TB_1 (i := 78) (by decide +kernel) rfl⟩
theorem fL_X1_9 : FLD RX1 9 1 0 := ⟨by decide, by decide, TB_1 (i := 106) (by decide +kernel) rfl⟩
theorem fL_X1_13 : FLD RX1 13 1 1 := ⟨by decide, by decide, TB_1 (i := 107) (by decide +kernel) rfl⟩
theorem fL_X1_16 : FLD RX1 16 1 2 := ⟨by decide, by decide, TB_1 (i := 108) (by decide +kernel) rfl⟩
theorem fL_X1_19 : FLD RX1 19 1 3 := ⟨by decide, by decide, TB_1 (i := 109) (by decide +kernel) rfl⟩
theorem fL_X1_22 : FLD RX1 22 1 4 := ⟨by decide, by decide, TB_1 (i := 110) (by decide +kernel) rfl⟩
theorem fL_X1_25 : FLD RX1 25 1 5 := ⟨by decide, by decide, TB_1 (i := 111) (by decide +kernel) rfl⟩
theorem fL_X1_28 : FLD RX1 28 1 6 := ⟨by decide, by decide, TB_1 (i := 112) (by decide +kernel) rfl⟩
theorem fL_X1_41 : FLD RX1 41 1 7 := ⟨by decide, by decide, TB_1 (i := 113) (by decide +kernel) rfl⟩
theorem fL_X1_59 : FLD RX1 59 1 8 := ⟨by decide, by decide, TB_1 (i := 114) (by decide +kernel) rfl⟩
theorem fL_X1_34 : FLD RX1 34 1 9 := ⟨by decide, by decide, TB_1 (i := 115) (by decide +kernel) rfl⟩
theorem fL_X1_38 : FLD RX1 38 1 10 := ⟨by decide, by decide, TB_1 (i := 116) (by decide +kernel) rfl⟩
theorem cL_X11_23 : Cond.classLink RX11 23 "HullTank$LawReader" ∈ TB := TB_1 (i := 140) (by decide +kernel) rfl
theorem iN_4 : Cond.instantiable (kR 4) (kN 4) ∈ TB ∧ Cond.initialized (kR 4) ∈ TB := ⟨TB_1 (i := 141) (by decide +kernel) rfl, TB_1 (i := 5) (by decide +kernel) rfl⟩
theorem mL_X11_25 : Cond.methodLink RX11 25 yX1_spareLaw ∈ TB := TB_1 (i := 142) (by decide +kernel) rfl
theorem mL_X11_29 : Cond.methodLink RX11 29 yX4_init ∈ TB := TB_1 (i := 146) (by decide +kernel) rfl
theorem mL_X4_3 : Cond.methodLink RX4 3 Lib.objectInit ∈ TB := TB_1 (i := 149) (by decide +kernel) rfl
theorem fL_X4_9 : FLD RX4 9 4 0 := ⟨by decide, by decide, TB_1 (i := 150) (by decide +kernel) rfl⟩
theorem fL_X4_15 : FLD RX4 15 4 1 := ⟨by decide, by decide, TB_1 (i := 151) (by decide +kernel) rfl⟩
theorem cL_X11_36 : Cond.classLink RX11 36 "HullTank$Program" ∈ TB := TB_1 (i := 157) (by decide +kernel) rfl
theorem iN_6 : Cond.instantiable (kR 6) (kN 6) ∈ TB ∧ Cond.initialized (kR 6) ∈ TB := ⟨TB_1 (i := 159) (by decide +kernel) rfl, TB_1 (i := 6) (by decide +kernel) rfl⟩
theorem mL_X6_3 : Cond.methodLink RX6 3 Lib.objectInit ∈ TB := TB_1 (i := 163) (by decide +kernel) rfl
theorem fL_X6_11 : FLD RX6 11 6 0 := ⟨by decide, by decide, TB_1 (i := 164) (by decide +kernel) rfl⟩
theorem fL_X6_15 : FLD RX6 15 6 1 := ⟨by decide, by decide, TB_1 (i := 165) (by decide +kernel) rfl⟩
theorem fL_X6_22 : FLD RX6 22 6 2 := ⟨by decide, by decide, TB_1 (i := 166) (by decide +kernel) rfl⟩
theorem fL_X6_18 : FLD RX6 18 6 3 := ⟨by decide, by decide, TB_1 (i := 167) (by decide +kernel) rfl⟩
theorem cL_X11_47 : Cond.classLink RX11 47 "HullTank$Hulls" ∈ TB := TB_1 (i := 177) (by decide +kernel) rfl
theorem iN_2 : Cond.instantiable (kR 2) (kN 2) ∈ TB ∧ Cond.initialized (kR 2) ∈ TB := ⟨TB_1 (i := 178) (by decide +kernel) rfl, TB_1 (i := 7) (by decide +kernel) rfl⟩
theorem mL_X11_49 : Cond.methodLink RX11 49 yX2_init ∈ TB := TB_1 (i := 179) (by decide +kernel) rfl
theorem mL_X2_3 : Cond.methodLink RX2 3 Lib.objectInit ∈ TB := TB_1 (i := 182) (by decide +kernel) rfl
theorem cL_X2_13 : Cond.classLink RX2 13 "HullTank$Strain" ∈ TB := TB_1 (i := 183) (by decide +kernel) rfl
theorem iN_8 : Cond.instantiable (kR 8) (kN 8) ∈ TB ∧ Cond.initialized (kR 8) ∈ TB := ⟨TB_1 (i := 185) (by decide +kernel) rfl, TB_1 (i := 8) (by decide +kernel) rfl⟩
theorem mL_X2_30 : Cond.methodLink RX2 30 yX8_init ∈ TB := TB_1 (i := 186) (by decide +kernel) rfl
theorem mL_X8_1 : Cond.methodLink RX8 1 Lib.objectInit ∈ TB := TB_1 (i := 189) (by decide +kernel) rfl
theorem fL_X8_7 : FLD RX8 7 8 0 := ⟨by decide, by decide, TB_1 (i := 190) (by decide +kernel) rfl⟩
theorem fL_X8_13 : FLD RX8 13 8 1 := ⟨by decide, by decide, TB_1 (i := 191) (by decide +kernel) rfl⟩
theorem fL_X8_17 : FLD RX8 17 8 2 := ⟨by decide, by decide, TB_1 (i := 192) (by decide +kernel) rfl⟩
theorem fL_X8_20 : FLD RX8 20 8 3 := ⟨by decide, by decide, TB_1 (i := 193) (by decide +kernel) rfl⟩
theorem fL_X8_23 : FLD RX8 23 8 4 := ⟨by decide, by decide, TB_1 (i := 194) (by decide +kernel) rfl⟩
theorem fL_X8_26 : FLD RX8 26 8 5 := ⟨by decide, by decide, TB_1 (i := 195) (by decide +kernel) rfl⟩
theorem fL_X8_29 : FLD RX8 29 8 6 := ⟨by decide, by decide, TB_1 (i := 196) (by decide +kernel) rfl⟩
theorem fL_X8_32 : FLD RX8 32 8 7 := ⟨by decide, by decide, TB_1 (i := 197) (by decide +kernel) rfl⟩
theorem fL_X8_35 : FLD RX8 35 8 8 := ⟨by decide, by decide, TB_1 (i := 198) (by decide +kernel) rfl⟩
theorem fL_X8_38 : FLD RX8 38 8 9 := ⟨by decide, by decide, TB_1 (i := 199) (by decide +kernel) rfl⟩
theorem fL_X8_76 : FLD RX8 76 8 10 := ⟨by decide, by decide, TB_1 (i := 200) (by decide +kernel) rfl⟩
theorem fL_X8_90 : FLD RX8 90 8 11 := ⟨by decide, by decide, TB_1 (i := 201) (by decide +kernel) rfl⟩
theorem fL_X8_79 : FLD RX8 79 8 12 := ⟨by decide, by decide, TB_1 (i := 202) (by decide +kernel) rfl⟩
theorem fL_X8_87 : FLD RX8 87 8 13 := ⟨by decide, by decide, TB_1 (i := 203) (by decide +kernel) rfl⟩
theorem fL_X8_42 : FLD RX8 42 8 14 := ⟨by decide, by decide, TB_1 (i := 204) (by decide +kernel) rfl⟩
theorem fL_X8_45 : FLD RX8 45 8 15 := ⟨by decide, by decide, TB_1 (i := 205) (by decide +kernel) rfl⟩
theorem fL_X2_26 : FLD RX2 26 2 0 := ⟨by decide, by decide, TB_1 (i := 239) (by decide +kernel) rfl⟩
theorem fL_X2_15 : FLD RX2 15 2 1 := ⟨by decide, by decide, TB_2 (i := 0) (by decide +kernel) rfl⟩
theorem fL_X2_19 : FLD RX2 19 2 2 := ⟨by decide, by decide, TB_2 (i := 1) (by decide +kernel) rfl⟩
theorem fL_X2_23 : FLD RX2 23 2 3 := ⟨by decide, by decide, TB_2 (i := 2) (by decide +kernel) rfl⟩
theorem fL_X2_33 : FLD RX2 33 2 4 := ⟨by decide, by decide, TB_2 (i := 3) (by decide +kernel) rfl⟩
theorem cL_X11_56 : Cond.classLink RX11 56 "HullTank$Odds" ∈ TB := TB_2 (i := 15) (by decide +kernel) rfl
theorem iN_5 : Cond.instantiable (kR 5) (kN 5) ∈ TB ∧ Cond.initialized (kR 5) ∈ TB := ⟨TB_2 (i := 16) (by decide +kernel) rfl, TB_1 (i := 9) (by decide +kernel) rfl⟩
theorem mL_X11_58 : Cond.methodLink RX11 58 yX5_init ∈ TB := TB_2 (i := 17) (by decide +kernel) rfl
theorem mL_X5_3 : Cond.methodLink RX5 3 Lib.objectInit ∈ TB := TB_2 (i := 20) (by decide +kernel) rfl
theorem cL_X5_36 : Cond.classLink RX5 36 "HullTank$Strain" ∈ TB := TB_2 (i := 21) (by decide +kernel) rfl
theorem mL_X5_38 : Cond.methodLink RX5 38 yX8_init ∈ TB := TB_2 (i := 22) (by decide +kernel) rfl
theorem fL_X5_32 : FLD RX5 32 5 0 := ⟨by decide, by decide, TB_2 (i := 23) (by decide +kernel) rfl⟩
theorem fL_X5_41 : FLD RX5 41 5 1 := ⟨by decide, by decide, TB_2 (i := 24) (by decide +kernel) rfl⟩
theorem fL_X5_9 : FLD RX5 9 5 2 := ⟨by decide, by decide, TB_2 (i := 25) (by decide +kernel) rfl⟩
theorem fL_X5_17 : FLD RX5 17 5 3 := ⟨by decide, by decide, TB_2 (i := 26) (by decide +kernel) rfl⟩
theorem fL_X5_20 : FLD RX5 20 5 4 := ⟨by decide, by decide, TB_2 (i := 27) (by decide +kernel) rfl⟩
theorem fL_X5_23 : FLD RX5 23 5 5 := ⟨by decide, by decide, TB_2 (i := 28) (by decide +kernel) rfl⟩
theorem fL_X5_26 : FLD RX5 26 5 6 := ⟨by decide, by decide, TB_2 (i := 29) (by decide +kernel) rfl⟩
theorem fL_X5_29 : FLD RX5 29 5 7 := ⟨by decide, by decide, TB_2 (i := 30) (by decide +kernel) rfl⟩
theorem cL_X11_63 : Cond.classLink RX11 63 "HullTank$Trials" ∈ TB := TB_2 (i := 48) (by decide +kernel) rfl
theorem iN_10 : Cond.instantiable (kR 10) (kN 10) ∈ TB ∧ Cond.initialized (kR 10) ∈ TB := ⟨TB_2 (i := 49) (by decide +kernel) rfl, TB_1 (i := 10) (by decide +kernel) rfl⟩
theorem mL_X11_65 : Cond.methodLink RX11 65 yX10_init ∈ TB := TB_2 (i := 50) (by decide +kernel) rfl
theorem mL_X10_3 : Cond.methodLink RX10 3 Lib.objectInit ∈ TB := TB_2 (i := 53) (by decide +kernel) rfl
theorem cL_X10_24 : Cond.classLink RX10 24 "HullTank$Program" ∈ TB := TB_2 (i := 54) (by decide +kernel) rfl
theorem fL_X10_11 : FLD RX10 11 10 0 := ⟨by decide, by decide, TB_2 (i := 56) (by decide +kernel) rfl⟩
theorem fL_X10_15 : FLD RX10 15 10 1 := ⟨by decide, by decide, TB_2 (i := 57) (by decide +kernel) rfl⟩
theorem fL_X10_18 : FLD RX10 18 10 2 := ⟨by decide, by decide, TB_2 (i := 58) (by decide +kernel) rfl⟩
theorem fL_X10_21 : FLD RX10 21 10 3 := ⟨by decide, by decide, TB_2 (i := 59) (by decide +kernel) rfl⟩
theorem fL_X10_26 : FLD RX10 26 10 4 := ⟨by decide, by decide, TB_2 (i := 60) (by decide +kernel) rfl⟩
theorem fL_X10_31 : FLD RX10 31 10 5 := ⟨by decide, by decide, TB_2 (i := 61) (by decide +kernel) rfl⟩
theorem cL_X11_70 : Cond.classLink RX11 70 "HullTank$Stories" ∈ TB := TB_2 (i := 75) (by decide +kernel) rfl
theorem iN_7 : Cond.instantiable (kR 7) (kN 7) ∈ TB ∧ Cond.initialized (kR 7) ∈ TB := ⟨TB_2 (i := 76) (by decide +kernel) rfl, TB_1 (i := 11) (by decide +kernel) rfl⟩
theorem mL_X11_72 : Cond.methodLink RX11 72 yX7_init ∈ TB := TB_2 (i := 77) (by decide +kernel) rfl
theorem mL_X7_3 : Cond.methodLink RX7 3 Lib.objectInit ∈ TB := TB_2 (i := 80) (by decide +kernel) rfl
theorem fL_X7_11 : FLD RX7 11 7 0 := ⟨by decide, by decide, TB_2 (i := 81) (by decide +kernel) rfl⟩
theorem fL_X7_15 : FLD RX7 15 7 1 := ⟨by decide, by decide, TB_2 (i := 82) (by decide +kernel) rfl⟩
theorem fL_X7_18 : FLD RX7 18 7 2 := ⟨by decide, by decide, TB_2 (i := 83) (by decide +kernel) rfl⟩
theorem fL_X7_21 : FLD RX7 21 7 3 := ⟨by decide, by decide, TB_2 (i := 84) (by decide +kernel) rfl⟩
theorem fL_X7_24 : FLD RX7 24 7 4 := ⟨by decide, by decide, TB_2 (i := 85) (by decide +kernel) rfl⟩
theorem fL_X7_28 : FLD RX7 28 7 5 := ⟨by decide, by decide, TB_2 (i := 86) (by decide +kernel) rfl⟩
theorem fL_X7_31 : FLD RX7 31 7 6 := ⟨by decide, by decide, TB_2 (i := 87) (by decide +kernel) rfl⟩
theorem fL_X7_34 : FLD RX7 34 7 7 := ⟨by decide, by decide, TB_2 (i := 88) (by decide +kernel) rfl⟩
theorem fL_X7_38 : FLD RX7 38 7 8 := ⟨by decide, by decide, TB_2 (i := 89) (by decide +kernel) rfl⟩
theorem aC_long : Cond.arrayClass .long ∈ TB := TB_2 (i := 109) (by decide +kernel) rfl
theorem cL_X11_77 : Cond.classLink RX11 77 "HullTank$Bed" ∈ TB := TB_2 (i := 110) (by decide +kernel) rfl
theorem iN_0 : Cond.instantiable (kR 0) (kN 0) ∈ TB ∧ Cond.initialized (kR 0) ∈ TB := ⟨TB_2 (i := 111) (by decide +kernel) rfl, TB_1 (i := 12) (by decide +kernel) rfl⟩
theorem mL_X0_3 : Cond.methodLink RX0 3 Lib.objectInit ∈ TB := TB_2 (i := 115) (by decide +kernel) rfl
theorem fL_X0_11 : FLD RX0 11 0 0 := ⟨by decide, by decide, TB_2 (i := 116) (by decide +kernel) rfl⟩
theorem fL_X0_15 : FLD RX0 15 0 1 := ⟨by decide, by decide, TB_2 (i := 117) (by decide +kernel) rfl⟩
theorem fL_X0_22 : FLD RX0 22 0 2 := ⟨by decide, by decide, TB_2 (i := 118) (by decide +kernel) rfl⟩
theorem fL_X0_18 : FLD RX0 18 0 3 := ⟨by decide, by decide, TB_2 (i := 119) (by decide +kernel) rfl⟩
theorem fL_X0_29 : FLD RX0 29 0 4 := ⟨by decide, by decide, TB_2 (i := 120) (by decide +kernel) rfl⟩
theorem fL_X0_32 : FLD RX0 32 0 5 := ⟨by decide, by decide, TB_2 (i := 121) (by decide +kernel) rfl⟩
theorem cL_X11_84 : Cond.classLink RX11 84 "HullTank$Strain" ∈ TB := TB_2 (i := 135) (by decide +kernel) rfl
theorem mL_X11_86 : Cond.methodLink RX11 86 yX8_init ∈ TB := TB_2 (i := 136) (by decide +kernel) rfl
theorem fL_X11_10 : FLD RX11 10 11 0 := ⟨by decide, by decide, TB_2 (i := 137) (by decide +kernel) rfl⟩
theorem fL_X11_19 : FLD RX11 19 11 1 := ⟨by decide, by decide, TB_2 (i := 138) (by decide +kernel) rfl⟩
theorem fL_X11_32 : FLD RX11 32 11 2 := ⟨by decide, by decide, TB_2 (i := 139) (by decide +kernel) rfl⟩
theorem fL_X11_38 : FLD RX11 38 11 3 := ⟨by decide, by decide, TB_2 (i := 140) (by decide +kernel) rfl⟩
theorem fL_X11_43 : FLD RX11 43 11 4 := ⟨by decide, by decide, TB_2 (i := 141) (by decide +kernel) rfl⟩
theorem fL_X11_52 : FLD RX11 52 11 5 := ⟨by decide, by decide, TB_2 (i := 142) (by decide +kernel) rfl⟩
theorem fL_X11_59 : FLD RX11 59 11 6 := ⟨by decide, by decide, TB_2 (i := 143) (by decide +kernel) rfl⟩
theorem fL_X11_66 : FLD RX11 66 11 7 := ⟨by decide, by decide, TB_2 (i := 144) (by decide +kernel) rfl⟩
theorem fL_X11_73 : FLD RX11 73 11 8 := ⟨by decide, by decide, TB_2 (i := 145) (by decide +kernel) rfl⟩
theorem fL_X11_80 : FLD RX11 80 11 9 := ⟨by decide, by decide, TB_2 (i := 146) (by decide +kernel) rfl⟩
theorem fL_X11_87 : FLD RX11 87 11 10 := ⟨by decide, by decide, TB_2 (i := 147) (by decide +kernel) rfl⟩
theorem fL_X11_91 : FLD RX11 91 11 11 := ⟨by decide, by decide, TB_2 (i := 148) (by decide +kernel) rfl⟩
theorem mL_L_13 : Cond.methodLink RL 13 yX11_corner ∈ TB := TB_2 (i := 174) (by decide +kernel) rfl
theorem mL_X11_94 : Cond.methodLink RX11 94 yX11_within ∈ TB := TB_2 (i := 178) (by decide +kernel) rfl
theorem mL_X11_98 : Cond.methodLink RX11 98 yX1_size ∈ TB := TB_2 (i := 181) (by decide +kernel) rfl
theorem mL_X11_102 : Cond.methodLink RX11 102 yX2_size ∈ TB := TB_2 (i := 185) (by decide +kernel) rfl
theorem mL_X11_103 : Cond.methodLink RX11 103 yX1_add ∈ TB := TB_2 (i := 189) (by decide +kernel) rfl
theorem mL_X1_62 : Cond.methodLink RX1 62 yX1_changed ∈ TB := TB_2 (i := 196) (by decide +kernel) rfl
theorem mL_L_18 : Cond.methodLink RL 18 yX11_life ∈ TB := TB_2 (i := 200) (by decide +kernel) rfl
theorem mL_X11_107 : Cond.methodLink RX11 107 yX1_has ∈ TB := TB_2 (i := 204) (by decide +kernel) rfl
theorem kL_X11_111 : Cond.constant RX11 111 (1000000) ∈ TB := TB_2 (i := 208) (by decide +kernel) rfl
theorem mL_X11_112 : Cond.methodLink RX11 112 yX1_livesOf ∈ TB := TB_2 (i := 209) (by decide +kernel) rfl
theorem mL_X11_116 : Cond.methodLink RX11 116 yX1_addLife ∈ TB := TB_2 (i := 216) (by decide +kernel) rfl
theorem mL_X1_69 : Cond.methodLink RX1 69 yX1_livesOf ∈ TB := TB_2 (i := 220) (by decide +kernel) rfl
theorem mL_L_23 : Cond.methodLink RL 23 yX11_feed ∈ TB := TB_2 (i := 221) (by decide +kernel) rfl
theorem mL_X11_120 : Cond.methodLink RX11 120 yX9_hasRoomFor ∈ TB := TB_2 (i := 225) (by decide +kernel) rfl
theorem mL_X11_123 : Cond.methodLink RX11 123 yX9_add ∈ TB := TB_2 (i := 229) (by decide +kernel) rfl
theorem mL_X11_126 : Cond.methodLink RX11 126 yX9_size ∈ TB := TB_2 (i := 234) (by decide +kernel) rfl
theorem mL_L_28 : Cond.methodLink RL 28 yX11_law ∈ TB := TB_2 (i := 238) (by decide +kernel) rfl
theorem mL_X11_129 : Cond.methodLink RX11 129 yX9_open ∈ TB := TB_3 (i := 2) (by decide +kernel) rfl
theorem mL_X11_132 : Cond.methodLink RX11 132 yX4_read ∈ TB := TB_3 (i := 6) (by decide +kernel) rfl
theorem mL_X4_19 : Cond.methodLink RX4 19 yX3_empty ∈ TB := TB_3 (i := 10) (by decide +kernel) rfl
theorem mL_X4_24 : Cond.methodLink RX4 24 yX9_sound ∈ TB := TB_3 (i := 14) (by decide +kernel) rfl
theorem mL_X4_30 : Cond.methodLink RX4 30 yX4_readClause ∈ TB := TB_3 (i := 18) (by decide +kernel) rfl
theorem mL_X4_40 : Cond.methodLink RX4 40 yX9_sign ∈ TB := TB_3 (i := 22) (by decide +kernel) rfl
theorem mL_X4_44 : Cond.methodLink RX4 44 yX9_place ∈ TB := TB_3 (i := 26) (by decide +kernel) rfl
theorem mL_X4_47 : Cond.methodLink RX4 47 yX9_fail ∈ TB := TB_3 (i := 30) (by decide +kernel) rfl
theorem mL_X4_37 : Cond.methodLink RX4 37 yX9_pass ∈ TB := TB_3 (i := 34) (by decide +kernel) rfl
theorem mL_X9_39 : Cond.methodLink RX9 39 yX9_sign ∈ TB := TB_3 (i := 38) (by decide +kernel) rfl
theorem mL_X9_43 : Cond.methodLink RX9 43 yX9_fail ∈ TB := TB_3 (i := 39) (by decide +kernel) rfl
theorem mL_X4_51 : Cond.methodLink RX4 51 yX3_openClause ∈ TB := TB_3 (i := 40) (by decide +kernel) rfl
theorem mL_X4_54 : Cond.methodLink RX4 54 yX4_readSum ∈ TB := TB_3 (i := 45) (by decide +kernel) rfl
theorem mL_X4_85 : Cond.methodLink RX4 85 yX4_readTerm ∈ TB := TB_3 (i := 49) (by decide +kernel) rfl
theorem mL_X4_88 : Cond.methodLink RX4 88 yX4_readFactor ∈ TB := TB_3 (i := 53) (by decide +kernel) rfl
theorem mL_X4_93 : Cond.methodLink RX4 93 yJ0_indexOf_0f7a4 ∈ TB := TB_3 (i := 58) (by decide +kernel) rfl
theorem mL_J0_633 : Cond.methodLink RJ0 633 yJ0_indexOf_7cf53 ∈ TB := TB_3 (i := 62) (by decide +kernel) rfl
theorem mL_J0_492 : Cond.methodLink RJ0 492 yJ0_isLatin1_aae02 ∈ TB := TB_3 (i := 66) (by decide +kernel) rfl
theorem fL_J0_38 : Cond.fieldLink RJ0 38 "java/lang/String" "COMPACT_STRINGS" "Z" ∈ TB := TB_3 (i := 70) (by decide +kernel) rfl
theorem mL_J0_505 : Cond.methodLink RJ0 505 yJ0_length_8abf5 ∈ TB := TB_3 (i := 72) (by decide +kernel) rfl
theorem mL_J0_335 : Cond.methodLink RJ0 335 yJ0_coder_7d493 ∈ TB := TB_3 (i := 76) (by decide +kernel) rfl
theorem mL_J0_637 : Cond.methodLink RJ0 637 yJ1_indexOf_4cfef ∈ TB := TB_3 (i := 80) (by decide +kernel) rfl
theorem mL_J1_88 : Cond.methodLink RJ1 88 yJ1_canEncode_9a6ad ∈ TB := TB_3 (i := 83) (by decide +kernel) rfl
theorem mL_J1_92 : Cond.methodLink RJ1 92 yJ9_max_7cf53 ∈ TB := TB_3 (i := 86) (by decide +kernel) rfl
theorem mL_J1_38 : Cond.methodLink RJ1 38 yJ9_min_7cf53 ∈ TB := TB_3 (i := 89) (by decide +kernel) rfl
theorem mL_J1_95 : Cond.methodLink RJ1 95 yJ1_indexOfChar_4cfef ∈ TB := TB_3 (i := 92) (by decide +kernel) rfl
theorem mL_J0_640 : Cond.methodLink RJ0 640 yJ2_indexOf_4cfef ∈ TB := TB_3 (i := 95) (by decide +kernel) rfl
theorem fL_J0_1053 : Cond.fieldLink RJ0 1053 "jdk/internal/util/Preconditions" "SIOOBE_FORMATTER" "Ljava/util/function/BiFunction;" ∈ TB := TB_3 (i := 113) (by decide +kernel) rfl
theorem mL_J0_1062 : Cond.methodLink RJ0 1062 yJ3_checkFromToIndex_8c36e ∈ TB := TB_3 (i := 115) (by decide +kernel) rfl
theorem mL_X4_99 : Cond.methodLink RX4 99 yX3_addLetter ∈ TB := TB_3 (i := 144) (by decide +kernel) rfl
theorem mL_X3_47 : Cond.methodLink RX3 47 yX3_add ∈ TB := TB_3 (i := 148) (by decide +kernel) rfl
theorem mL_X4_102 : Cond.methodLink RX4 102 yX9_number ∈ TB := TB_3 (i := 152) (by decide +kernel) rfl
theorem mL_X9_47 : Cond.methodLink RX9 47 yX9_onDigit ∈ TB := TB_3 (i := 156) (by decide +kernel) rfl
theorem mL_X4_82 : Cond.methodLink RX4 82 yX3_add ∈ TB := TB_3 (i := 160) (by decide +kernel) rfl
theorem mL_X4_57 : Cond.methodLink RX4 57 yX3_openCondition ∈ TB := TB_3 (i := 161) (by decide +kernel) rfl
theorem mL_X4_60 : Cond.methodLink RX4 60 yX4_readChoice ∈ TB := TB_3 (i := 165) (by decide +kernel) rfl
theorem mL_X4_66 : Cond.methodLink RX4 66 yX4_readPart ∈ TB := TB_3 (i := 169) (by decide +kernel) rfl
theorem mL_X4_76 : Cond.methodLink RX4 76 yX4_readPiece ∈ TB := TB_3 (i := 173) (by decide +kernel) rfl
theorem mL_X4_79 : Cond.methodLink RX4 79 yX4_readInside ∈ TB := TB_3 (i := 177) (by decide +kernel) rfl
theorem mL_X4_69 : Cond.methodLink RX4 69 yX3_addSkip ∈ TB := TB_3 (i := 181) (by decide +kernel) rfl
theorem mL_X4_73 : Cond.methodLink RX4 73 yX3_endSkipsHere ∈ TB := TB_3 (i := 185) (by decide +kernel) rfl
theorem kL_X3_51 : Cond.constant RX3 51 (1048575) ∈ TB := TB_3 (i := 189) (by decide +kernel) rfl
theorem kL_X3_52 : Cond.constant RX3 52 (-1048576) ∈ TB := TB_3 (i := 190) (by decide +kernel) rfl
theorem mL_X4_63 : Cond.methodLink RX4 63 yX3_closeClause ∈ TB := TB_3 (i := 191) (by decide +kernel) rfl
theorem mL_X4_34 : Cond.methodLink RX4 34 yX9_atEnd ∈ TB := TB_3 (i := 195) (by decide +kernel) rfl
theorem mL_X11_136 : Cond.methodLink RX11 136 yX9_clear ∈ TB := TB_3 (i := 199) (by decide +kernel) rfl
theorem mL_X11_139 : Cond.methodLink RX11 139 yX9_sound ∈ TB := TB_3 (i := 203) (by decide +kernel) rfl
theorem mL_X11_143 : Cond.methodLink RX11 143 yX9_faultTold ∈ TB := TB_3 (i := 204) (by decide +kernel) rfl
theorem mL_X11_146 : Cond.methodLink RX11 146 yX1_takeSpareLaw ∈ TB := TB_3 (i := 208) (by decide +kernel) rfl
theorem mL_X11_149 : Cond.methodLink RX11 149 yX3_clauses ∈ TB := TB_3 (i := 212) (by decide +kernel) rfl
theorem aC_byte : Cond.arrayClass .byte ∈ TB := TB_3 (i := 216) (by decide +kernel) rfl
theorem mL_L_33 : Cond.methodLink RL 33 yX11_program ∈ TB := TB_3 (i := 217) (by decide +kernel) rfl
theorem mL_X11_152 : Cond.methodLink RX11 152 yX11_programOf ∈ TB := TB_3 (i := 221) (by decide +kernel) rfl
theorem mL_X11_156 : Cond.methodLink RX11 156 yX6_read ∈ TB := TB_3 (i := 225) (by decide +kernel) rfl
theorem mL_X6_25 : Cond.methodLink RX6 25 yX9_sound ∈ TB := TB_3 (i := 229) (by decide +kernel) rfl
theorem mL_X6_31 : Cond.methodLink RX6 31 yX6_readPart ∈ TB := TB_3 (i := 230) (by decide +kernel) rfl
theorem mL_X6_42 : Cond.methodLink RX6 42 yX9_place ∈ TB := TB_3 (i := 234) (by decide +kernel) rfl
theorem mL_X6_46 : Cond.methodLink RX6 46 yX9_onDigit ∈ TB := TB_3 (i := 235) (by decide +kernel) rfl
theorem mL_X6_49 : Cond.methodLink RX6 49 yX9_fail ∈ TB := TB_3 (i := 236) (by decide +kernel) rfl
theorem mL_X6_53 : Cond.methodLink RX6 53 yX9_number ∈ TB := TB_3 (i := 237) (by decide +kernel) rfl
theorem mL_X6_57 : Cond.methodLink RX6 57 yX9_sign ∈ TB := TB_3 (i := 238) (by decide +kernel) rfl
theorem mL_X6_38 : Cond.methodLink RX6 38 yX9_pass ∈ TB := TB_3 (i := 239) (by decide +kernel) rfl
theorem mL_X6_35 : Cond.methodLink RX6 35 yX9_atEnd ∈ TB := TB_4 (i := 1) (by decide +kernel) rfl
theorem mL_X11_159 : Cond.methodLink RX11 159 yX6_copy ∈ TB := TB_4 (i := 2) (by decide +kernel) rfl
theorem mL_X11_163 : Cond.methodLink RX11 163 yX1_changed ∈ TB := TB_4 (i := 6) (by decide +kernel) rfl
theorem mL_X11_166 : Cond.methodLink RX11 166 yX6_pulls ∈ TB := TB_4 (i := 7) (by decide +kernel) rfl
theorem mL_L_38 : Cond.methodLink RL 38 yX11_pull ∈ TB := TB_4 (i := 11) (by decide +kernel) rfl
theorem mL_X11_169 : Cond.methodLink RX11 169 yX8_begin ∈ TB := TB_4 (i := 15) (by decide +kernel) rfl
theorem mL_X11_173 : Cond.methodLink RX11 173 yX8_reckon ∈ TB := TB_4 (i := 19) (by decide +kernel) rfl
theorem mL_X8_72 : Cond.methodLink RX8 72 yX1_lawNow ∈ TB := TB_4 (i := 23) (by decide +kernel) rfl
theorem mL_X8_93 : Cond.methodLink RX8 93 yX1_tellLaw ∈ TB := TB_4 (i := 27) (by decide +kernel) rfl
theorem mL_X1_76 : Cond.methodLink RX1 76 yX3_setCorner ∈ TB := TB_4 (i := 31) (by decide +kernel) rfl
theorem mL_X8_96 : Cond.methodLink RX8 96 yX3_setState ∈ TB := TB_4 (i := 35) (by decide +kernel) rfl
theorem mL_X8_100 : Cond.methodLink RX8 100 yX3_amount ∈ TB := TB_4 (i := 39) (by decide +kernel) rfl
theorem mL_X3_53 : Cond.methodLink RX3 53 yX3_run ∈ TB := TB_4 (i := 43) (by decide +kernel) rfl
theorem mL_X3_79 : Cond.methodLink RX3 79 yX3_push ∈ TB := TB_4 (i := 48) (by decide +kernel) rfl
theorem mL_X3_69 : Cond.methodLink RX3 69 yJ9_max_7cf53 ∈ TB := TB_4 (i := 52) (by decide +kernel) rfl
theorem mL_X3_83 : Cond.methodLink RX3 83 yX3_reckon ∈ TB := TB_4 (i := 53) (by decide +kernel) rfl
theorem mL_X3_63 : Cond.methodLink RX3 63 yJ9_min_7cf53 ∈ TB := TB_4 (i := 57) (by decide +kernel) rfl
theorem mL_X8_103 : Cond.methodLink RX8 103 yX3_setPulled ∈ TB := TB_4 (i := 58) (by decide +kernel) rfl
theorem kL_X8_106 : Cond.constant RX8 106 (100000) ∈ TB := TB_4 (i := 62) (by decide +kernel) rfl
theorem mL_X11_176 : Cond.methodLink RX11 176 yX8_pulled ∈ TB := TB_4 (i := 63) (by decide +kernel) rfl
theorem mL_X11_179 : Cond.methodLink RX11 179 yX8_more ∈ TB := TB_4 (i := 67) (by decide +kernel) rfl
theorem mL_L_42 : Cond.methodLink RL 42 yX11_hull ∈ TB := TB_4 (i := 71) (by decide +kernel) rfl
theorem mL_X11_182 : Cond.methodLink RX11 182 yX1_fits ∈ TB := TB_4 (i := 75) (by decide +kernel) rfl
theorem mL_X11_185 : Cond.methodLink RX11 185 yX2_add ∈ TB := TB_4 (i := 79) (by decide +kernel) rfl
theorem mL_X2_37 : Cond.methodLink RX2 37 yX1_size ∈ TB := TB_4 (i := 83) (by decide +kernel) rfl
theorem mL_X2_40 : Cond.methodLink RX2 40 yX2_strainOf ∈ TB := TB_4 (i := 84) (by decide +kernel) rfl
theorem mL_X2_44 : Cond.methodLink RX2 44 yX1_lifeOf ∈ TB := TB_4 (i := 88) (by decide +kernel) rfl
theorem mL_X1_72 : Cond.methodLink RX1 72 yX1_hasLife ∈ TB := TB_4 (i := 92) (by decide +kernel) rfl
theorem mL_X1_45 : Cond.methodLink RX1 45 yX1_has ∈ TB := TB_4 (i := 96) (by decide +kernel) rfl
theorem mL_X2_48 : Cond.methodLink RX2 48 yX8_begin ∈ TB := TB_4 (i := 97) (by decide +kernel) rfl
theorem mL_L_46 : Cond.methodLink RL 46 yX11_flown ∈ TB := TB_4 (i := 99) (by decide +kernel) rfl
theorem mL_X11_187 : Cond.methodLink RX11 187 yX2_has ∈ TB := TB_4 (i := 103) (by decide +kernel) rfl
theorem mL_X11_188 : Cond.methodLink RX11 188 yX2_lostBy ∈ TB := TB_4 (i := 107) (by decide +kernel) rfl
theorem mL_X11_191 : Cond.methodLink RX11 191 yX2_pulls ∈ TB := TB_4 (i := 112) (by decide +kernel) rfl
theorem kL_X11_193 : Cond.constant RX11 193 (100000) ∈ TB := TB_4 (i := 116) (by decide +kernel) rfl
theorem mL_X11_194 : Cond.methodLink RX11 194 yX2_goOn ∈ TB := TB_4 (i := 117) (by decide +kernel) rfl
theorem mL_X2_69 : Cond.methodLink RX2 69 yX8_forget ∈ TB := TB_4 (i := 121) (by decide +kernel) rfl
theorem mL_X2_72 : Cond.methodLink RX2 72 yX2_lostBy ∈ TB := TB_4 (i := 125) (by decide +kernel) rfl
theorem mL_X2_75 : Cond.methodLink RX2 75 yX2_pullAll ∈ TB := TB_4 (i := 126) (by decide +kernel) rfl
theorem mL_X2_80 : Cond.methodLink RX2 80 yX8_pullBy ∈ TB := TB_4 (i := 130) (by decide +kernel) rfl
theorem mL_X8_48 : Cond.methodLink RX8 48 yX8_isLikeBefore ∈ TB := TB_4 (i := 134) (by decide +kernel) rfl
theorem mL_X8_84 : Cond.methodLink RX8 84 yX3_uses ∈ TB := TB_4 (i := 138) (by decide +kernel) rfl
theorem mL_X8_52 : Cond.methodLink RX8 52 yX8_reckon ∈ TB := TB_4 (i := 142) (by decide +kernel) rfl
theorem mL_X8_56 : Cond.methodLink RX8 56 yJ9_max_7cf53 ∈ TB := TB_4 (i := 143) (by decide +kernel) rfl
theorem kL_X8_62 : Cond.constant RX8 62 (1000000) ∈ TB := TB_4 (i := 144) (by decide +kernel) rfl
theorem mL_X8_63 : Cond.methodLink RX8 63 yJ9_min_7cf53 ∈ TB := TB_4 (i := 145) (by decide +kernel) rfl
theorem mL_X8_66 : Cond.methodLink RX8 66 yX1_reachOf ∈ TB := TB_4 (i := 146) (by decide +kernel) rfl
theorem mL_X2_84 : Cond.methodLink RX2 84 yX8_ranBy ∈ TB := TB_4 (i := 150) (by decide +kernel) rfl
theorem mL_X2_78 : Cond.methodLink RX2 78 yX2_pulls ∈ TB := TB_4 (i := 154) (by decide +kernel) rfl
theorem mL_L_50 : Cond.methodLink RL 50 yX11_hullIs ∈ TB := TB_4 (i := 155) (by decide +kernel) rfl
theorem mL_L_54 : Cond.methodLink RL 54 yX11_cornerIs ∈ TB := TB_4 (i := 159) (by decide +kernel) rfl
theorem mL_X11_197 : Cond.methodLink RX11 197 yX2_stateOf ∈ TB := TB_4 (i := 163) (by decide +kernel) rfl
theorem mL_X2_60 : Cond.methodLink RX2 60 yX8_wear ∈ TB := TB_4 (i := 167) (by decide +kernel) rfl
theorem mL_X2_63 : Cond.methodLink RX2 63 yX8_crack ∈ TB := TB_4 (i := 171) (by decide +kernel) rfl
theorem mL_X2_66 : Cond.methodLink RX2 66 yX8_most ∈ TB := TB_4 (i := 175) (by decide +kernel) rfl
theorem mL_L_58 : Cond.methodLink RL 58 yX11_runs ∈ TB := TB_4 (i := 179) (by decide +kernel) rfl
theorem mL_X11_200 : Cond.methodLink RX11 200 yX1_hasLife ∈ TB := TB_4 (i := 183) (by decide +kernel) rfl
theorem mL_X11_204 : Cond.methodLink RX11 204 yX5_crackedBy ∈ TB := TB_4 (i := 184) (by decide +kernel) rfl
theorem mL_X5_45 : Cond.methodLink RX5 45 yX6_layOut ∈ TB := TB_4 (i := 188) (by decide +kernel) rfl
theorem mL_X5_51 : Cond.methodLink RX5 51 yX6_pulls ∈ TB := TB_4 (i := 192) (by decide +kernel) rfl
theorem mL_X5_55 : Cond.methodLink RX5 55 yX5_follow ∈ TB := TB_4 (i := 193) (by decide +kernel) rfl
theorem mL_X5_65 : Cond.methodLink RX5 65 yX1_lifeOf ∈ TB := TB_4 (i := 197) (by decide +kernel) rfl
theorem mL_X5_69 : Cond.methodLink RX5 69 yX8_begin ∈ TB := TB_4 (i := 198) (by decide +kernel) rfl
theorem mL_X5_62 : Cond.methodLink RX5 62 yX8_ranBy ∈ TB := TB_4 (i := 199) (by decide +kernel) rfl
theorem mL_X5_73 : Cond.methodLink RX5 73 yX8_pullBy ∈ TB := TB_4 (i := 200) (by decide +kernel) rfl
theorem mL_X5_59 : Cond.methodLink RX5 59 yX8_crackedBy ∈ TB := TB_4 (i := 201) (by decide +kernel) rfl
theorem mL_X11_208 : Cond.methodLink RX11 208 yX5_ranBy ∈ TB := TB_4 (i := 205) (by decide +kernel) rfl
theorem mL_L_62 : Cond.methodLink RL 62 yX11_odds ∈ TB := TB_4 (i := 209) (by decide +kernel) rfl
theorem mL_X11_211 : Cond.methodLink RX11 211 yX11_canFly ∈ TB := TB_4 (i := 213) (by decide +kernel) rfl
theorem kL_X11_215 : Cond.constantLong RX11 215 (-1) ∈ TB := TB_4 (i := 216) (by decide +kernel) rfl
theorem mL_X11_217 : Cond.methodLink RX11 217 yX1_every ∈ TB := TB_4 (i := 217) (by decide +kernel) rfl
theorem mL_X11_220 : Cond.methodLink RX11 220 yX5_ways ∈ TB := TB_4 (i := 221) (by decide +kernel) rfl
theorem mL_X5_77 : Cond.methodLink RX5 77 yX1_size ∈ TB := TB_4 (i := 225) (by decide +kernel) rfl
theorem mL_X5_80 : Cond.methodLink RX5 80 yX5_isIn ∈ TB := TB_4 (i := 226) (by decide +kernel) rfl
theorem mL_X5_102 : Cond.methodLink RX5 102 yX5_weightPast ∈ TB := TB_4 (i := 229) (by decide +kernel) rfl
theorem mL_X5_88 : Cond.methodLink RX5 88 yX1_livesOf ∈ TB := TB_4 (i := 233) (by decide +kernel) rfl
theorem mL_X5_106 : Cond.methodLink RX5 106 yX1_weightOf ∈ TB := TB_4 (i := 235) (by decide +kernel) rfl
theorem mL_X11_224 : Cond.methodLink RX11 224 yX11_pullsOf ∈ TB := TB_4 (i := 239) (by decide +kernel) rfl
theorem mL_X11_228 : Cond.methodLink RX11 228 yX5_prepare ∈ TB := TB_5 (i := 2) (by decide +kernel) rfl
theorem mL_X5_84 : Cond.methodLink RX5 84 yX5_isKnown ∈ TB := TB_5 (i := 6) (by decide +kernel) rfl
theorem mL_X5_95 : Cond.methodLink RX5 95 yX1_stamp ∈ TB := TB_5 (i := 10) (by decide +kernel) rfl
theorem mL_X11_232 : Cond.methodLink RX11 232 yX5_lost ∈ TB := TB_5 (i := 15) (by decide +kernel) rfl
theorem mL_X5_109 : Cond.methodLink RX5 109 yX5_ways ∈ TB := TB_5 (i := 19) (by decide +kernel) rfl
theorem mL_X11_236 : Cond.methodLink RX11 236 yX5_first ∈ TB := TB_5 (i := 20) (by decide +kernel) rfl
theorem mL_L_67 : Cond.methodLink RL 67 yX11_left ∈ TB := TB_5 (i := 24) (by decide +kernel) rfl
theorem kL_X11_239 : Cond.constantLong RX11 239 (-2) ∈ TB := TB_5 (i := 28) (by decide +kernel) rfl
theorem mL_X11_241 : Cond.methodLink RX11 241 yX11_shortened ∈ TB := TB_5 (i := 29) (by decide +kernel) rfl
theorem mL_L_71 : Cond.methodLink RL 71 yX11_likely ∈ TB := TB_5 (i := 32) (by decide +kernel) rfl
theorem mL_X11_245 : Cond.methodLink RX11 245 yX1_hasPiece ∈ TB := TB_5 (i := 36) (by decide +kernel) rfl
theorem mL_X1_55 : Cond.methodLink RX1 55 yX1_every ∈ TB := TB_5 (i := 40) (by decide +kernel) rfl
theorem mL_X11_248 : Cond.methodLink RX11 248 yX5_flightsTill ∈ TB := TB_5 (i := 41) (by decide +kernel) rfl
theorem mL_X5_113 : Cond.methodLink RX5 113 yX5_lost ∈ TB := TB_5 (i := 45) (by decide +kernel) rfl
theorem kL_X5_116 : Cond.constantLong RX5 116 (1000) ∈ TB := TB_5 (i := 46) (by decide +kernel) rfl
theorem mL_L_75 : Cond.methodLink RL 75 yX11_off ∈ TB := TB_5 (i := 47) (by decide +kernel) rfl
theorem kL_X11_251 : Cond.constant RX11 251 (-100000) ∈ TB := TB_5 (i := 51) (by decide +kernel) rfl
theorem mL_L_79 : Cond.methodLink RL 79 yX11_trial ∈ TB := TB_5 (i := 52) (by decide +kernel) rfl
theorem mL_X11_252 : Cond.methodLink RX11 252 yX10_size ∈ TB := TB_5 (i := 56) (by decide +kernel) rfl
theorem mL_X11_253 : Cond.methodLink RX11 253 yX10_add ∈ TB := TB_5 (i := 60) (by decide +kernel) rfl
theorem mL_X10_35 : Cond.methodLink RX10 35 yX10_program ∈ TB := TB_5 (i := 64) (by decide +kernel) rfl
theorem mL_X10_39 : Cond.methodLink RX10 39 yX6_copy ∈ TB := TB_5 (i := 68) (by decide +kernel) rfl
theorem mL_X10_47 : Cond.methodLink RX10 47 yX6_pulls ∈ TB := TB_5 (i := 70) (by decide +kernel) rfl
theorem mL_L_83 : Cond.methodLink RL 83 yX11_says ∈ TB := TB_5 (i := 71) (by decide +kernel) rfl
theorem mL_X11_256 : Cond.methodLink RX11 256 yX10_has ∈ TB := TB_5 (i := 75) (by decide +kernel) rfl
theorem mL_X11_257 : Cond.methodLink RX11 257 yX10_piece ∈ TB := TB_5 (i := 79) (by decide +kernel) rfl
theorem mL_X11_260 : Cond.methodLink RX11 260 yX10_program ∈ TB := TB_5 (i := 84) (by decide +kernel) rfl
theorem mL_X11_263 : Cond.methodLink RX11 263 yX10_pressure ∈ TB := TB_5 (i := 85) (by decide +kernel) rfl
theorem mL_X11_266 : Cond.methodLink RX11 266 yX10_pulls ∈ TB := TB_5 (i := 89) (by decide +kernel) rfl
theorem mL_L_88 : Cond.methodLink RL 88 yX11_cheapest ∈ TB := TB_5 (i := 93) (by decide +kernel) rfl
theorem mL_X11_267 : Cond.methodLink RX11 267 yX10_cost ∈ TB := TB_5 (i := 97) (by decide +kernel) rfl
theorem kL_X11_270 : Cond.constantLong RX11 270 (1000) ∈ TB := TB_5 (i := 101) (by decide +kernel) rfl
theorem mL_L_92 : Cond.methodLink RL 92 yX11_story ∈ TB := TB_5 (i := 102) (by decide +kernel) rfl
theorem mL_X11_272 : Cond.methodLink RX11 272 yX7_size ∈ TB := TB_5 (i := 106) (by decide +kernel) rfl
theorem mL_X11_273 : Cond.methodLink RX11 273 yX7_add ∈ TB := TB_5 (i := 110) (by decide +kernel) rfl
theorem mL_L_96 : Cond.methodLink RL 96 yX11_find ∈ TB := TB_5 (i := 115) (by decide +kernel) rfl
theorem mL_X11_274 : Cond.methodLink RX11 274 yX7_finds ∈ TB := TB_5 (i := 119) (by decide +kernel) rfl
theorem mL_X11_277 : Cond.methodLink RX11 277 yX7_addFind ∈ TB := TB_5 (i := 123) (by decide +kernel) rfl
theorem mL_L_101 : Cond.methodLink RL 101 yX11_tells ∈ TB := TB_5 (i := 127) (by decide +kernel) rfl
theorem mL_X11_280 : Cond.methodLink RX11 280 yX7_hasFind ∈ TB := TB_5 (i := 131) (by decide +kernel) rfl
theorem mL_X11_283 : Cond.methodLink RX11 283 yX7_has ∈ TB := TB_5 (i := 135) (by decide +kernel) rfl
theorem mL_X11_284 : Cond.methodLink RX11 284 yX7_foretell ∈ TB := TB_5 (i := 139) (by decide +kernel) rfl
theorem mL_L_106 : Cond.methodLink RL 106 yX11_seen ∈ TB := TB_5 (i := 143) (by decide +kernel) rfl
theorem mL_X11_288 : Cond.methodLink RX11 288 yX7_know ∈ TB := TB_5 (i := 147) (by decide +kernel) rfl
theorem mL_L_111 : Cond.methodLink RL 111 yX11_weighs ∈ TB := TB_5 (i := 151) (by decide +kernel) rfl
theorem mL_X11_291 : Cond.methodLink RX11 291 yX7_together ∈ TB := TB_5 (i := 155) (by decide +kernel) rfl
theorem mL_X7_49 : Cond.methodLink RX7 49 yX7_oddsOf ∈ TB := TB_5 (i := 159) (by decide +kernel) rfl
theorem mL_X11_295 : Cond.methodLink RX11 295 yX7_oddsOf ∈ TB := TB_5 (i := 164) (by decide +kernel) rfl
theorem mL_L_116 : Cond.methodLink RL 116 yX11_moves ∈ TB := TB_5 (i := 165) (by decide +kernel) rfl
theorem mL_X11_298 : Cond.methodLink RX11 298 yX7_mostMoving ∈ TB := TB_5 (i := 169) (by decide +kernel) rfl
theorem kL_X7_53 : Cond.constantLong RX7 53 (-1) ∈ TB := TB_5 (i := 173) (by decide +kernel) rfl
theorem mL_X7_55 : Cond.methodLink RX7 55 yX7_greatestOfBoth ∈ TB := TB_5 (i := 174) (by decide +kernel) rfl
theorem mL_X7_58 : Cond.methodLink RX7 58 yJ9_max_f86c9 ∈ TB := TB_5 (i := 178) (by decide +kernel) rfl
theorem mL_L_120 : Cond.methodLink RL 120 yX11_wind ∈ TB := TB_5 (i := 181) (by decide +kernel) rfl
theorem mL_X11_301 : Cond.methodLink RX11 301 yX0_blow ∈ TB := TB_5 (i := 185) (by decide +kernel) rfl
theorem mL_L_124 : Cond.methodLink RL 124 yX11_lies ∈ TB := TB_5 (i := 189) (by decide +kernel) rfl
theorem mL_X11_304 : Cond.methodLink RX11 304 yX0_size ∈ TB := TB_5 (i := 193) (by decide +kernel) rfl
theorem mL_X11_305 : Cond.methodLink RX11 305 yX0_add ∈ TB := TB_5 (i := 197) (by decide +kernel) rfl
theorem mL_L_128 : Cond.methodLink RL 128 yX11_span ∈ TB := TB_5 (i := 202) (by decide +kernel) rfl
theorem mL_X11_308 : Cond.methodLink RX11 308 yX0_has ∈ TB := TB_5 (i := 206) (by decide +kernel) rfl
theorem mL_X11_309 : Cond.methodLink RX11 309 yX0_earliest ∈ TB := TB_5 (i := 210) (by decide +kernel) rfl
theorem mL_X0_39 : Cond.methodLink RX0 39 yX0_secondBy ∈ TB := TB_5 (i := 214) (by decide +kernel) rfl
theorem mL_X11_312 : Cond.methodLink RX11 312 yX0_latest ∈ TB := TB_5 (i := 219) (by decide +kernel) rfl
theorem mL_L_132 : Cond.methodLink RL 132 yX11_order ∈ TB := TB_5 (i := 223) (by decide +kernel) rfl
theorem mL_X11_315 : Cond.methodLink RX11 315 yX0_compare ∈ TB := TB_5 (i := 227) (by decide +kernel) rfl
theorem mL_L_136 : Cond.methodLink RL 136 yX11_cell ∈ TB := TB_5 (i := 231) (by decide +kernel) rfl
theorem mL_X11_318 : Cond.methodLink RX11 318 yX7_weigh ∈ TB := TB_5 (i := 235) (by decide +kernel) rfl
theorem mL_L_140 : Cond.methodLink RL 140 yX11_nets ∈ TB := TB_5 (i := 239) (by decide +kernel) rfl
theorem mL_X11_321 : Cond.methodLink RX11 321 yX7_castNets ∈ TB := TB_6 (i := 3) (by decide +kernel) rfl
theorem mL_X7_64 : Cond.methodLink RX7 64 yX7_sumWorths ∈ TB := TB_6 (i := 7) (by decide +kernel) rfl
theorem mL_X7_83 : Cond.methodLink RX7 83 yX7_worthOf ∈ TB := TB_6 (i := 14) (by decide +kernel) rfl
theorem mL_X7_67 : Cond.methodLink RX7 67 yX7_setBest ∈ TB := TB_6 (i := 21) (by decide +kernel) rfl
theorem mL_X7_71 : Cond.methodLink RX7 71 yX7_bestOf ∈ TB := TB_6 (i := 25) (by decide +kernel) rfl
theorem mL_X7_75 : Cond.methodLink RX7 75 yX7_worthFrom ∈ TB := TB_6 (i := 29) (by decide +kernel) rfl
theorem mL_X11_324 : Cond.methodLink RX11 324 yX7_net ∈ TB := TB_6 (i := 33) (by decide +kernel) rfl
theorem mL_L_145 : Cond.methodLink RL 145 yX11_fly ∈ TB := TB_6 (i := 37) (by decide +kernel) rfl
theorem mL_X11_327 : Cond.methodLink RX11 327 yX5_cheapestFlights ∈ TB := TB_6 (i := 41) (by decide +kernel) rfl
theorem mL_X5_118 : Cond.methodLink RX5 118 yX1_every ∈ TB := TB_6 (i := 45) (by decide +kernel) rfl
theorem mL_L_149 : Cond.methodLink RL 149 yX11_check ∈ TB := TB_6 (i := 46) (by decide +kernel) rfl
theorem mL_X11_330 : Cond.methodLink RX11 330 yX2_firstWrong ∈ TB := TB_6 (i := 50) (by decide +kernel) rfl
theorem mL_X2_87 : Cond.methodLink RX2 87 yX9_word ∈ TB := TB_6 (i := 54) (by decide +kernel) rfl
theorem mL_X2_92 : Cond.methodLink RX2 92 yX2_stateOf ∈ TB := TB_6 (i := 59) (by decide +kernel) rfl
theorem mL_L_153 : Cond.methodLink RL 153 yX11_count ∈ TB := TB_6 (i := 60) (by decide +kernel) rfl
theorem mL_X11_334 : Cond.methodLink RX11 334 yX1_lawNow ∈ TB := TB_6 (i := 64) (by decide +kernel) rfl
theorem mL_X11_337 : Cond.methodLink RX11 337 yX11_countOfOne ∈ TB := TB_6 (i := 65) (by decide +kernel) rfl
theorem cL_L_10 : Cond.classLink RL 10 "HullTankModel" ∈ TB := TB_6 (i := 69) (by decide +kernel) rfl
theorem iN_12 : Cond.instantiable (kR 12) (kN 12) ∈ TB ∧ Cond.initialized (kR 12) ∈ TB := ⟨TB_6 (i := 70) (by decide +kernel) rfl, TB_1 (i := 13) (by decide +kernel) rfl⟩
theorem mL_L_12 : Cond.methodLink RL 12 yX12_init ∈ TB := TB_6 (i := 71) (by decide +kernel) rfl
theorem mL_X12_1 : Cond.methodLink RX12 1 Lib.objectInit ∈ TB := TB_6 (i := 74) (by decide +kernel) rfl
theorem fL_X12_7 : FLD RX12 7 12 0 := ⟨by decide, by decide, TB_6 (i := 75) (by decide +kernel) rfl⟩
theorem fL_X12_185 : FLD RX12 185 12 1 := ⟨by decide, by decide, TB_6 (i := 76) (by decide +kernel) rfl⟩
theorem fL_X12_161 : FLD RX12 161 12 2 := ⟨by decide, by decide, TB_6 (i := 77) (by decide +kernel) rfl⟩
theorem fL_X12_168 : FLD RX12 168 12 3 := ⟨by decide, by decide, TB_6 (i := 78) (by decide +kernel) rfl⟩
theorem fL_X12_427 : FLD RX12 427 12 4 := ⟨by decide, by decide, TB_6 (i := 79) (by decide +kernel) rfl⟩
theorem fL_X12_443 : FLD RX12 443 12 5 := ⟨by decide, by decide, TB_6 (i := 80) (by decide +kernel) rfl⟩
theorem fL_X12_446 : FLD RX12 446 12 6 := ⟨by decide, by decide, TB_6 (i := 81) (by decide +kernel) rfl⟩
theorem fL_X12_472 : FLD RX12 472 12 7 := ⟨by decide, by decide, TB_6 (i := 82) (by decide +kernel) rfl⟩
theorem fL_X12_13 : FLD RX12 13 12 8 := ⟨by decide, by decide, TB_6 (i := 83) (by decide +kernel) rfl⟩
theorem fL_X12_17 : FLD RX12 17 12 9 := ⟨by decide, by decide, TB_6 (i := 84) (by decide +kernel) rfl⟩
theorem fL_X12_20 : FLD RX12 20 12 10 := ⟨by decide, by decide, TB_6 (i := 85) (by decide +kernel) rfl⟩
theorem fL_X12_23 : FLD RX12 23 12 11 := ⟨by decide, by decide, TB_6 (i := 86) (by decide +kernel) rfl⟩
theorem fL_X12_26 : FLD RX12 26 12 12 := ⟨by decide, by decide, TB_6 (i := 87) (by decide +kernel) rfl⟩
theorem fL_X12_29 : FLD RX12 29 12 13 := ⟨by decide, by decide, TB_6 (i := 88) (by decide +kernel) rfl⟩
theorem fL_X12_32 : FLD RX12 32 12 14 := ⟨by decide, by decide, TB_6 (i := 89) (by decide +kernel) rfl⟩
theorem fL_X12_299 : FLD RX12 299 12 15 := ⟨by decide, by decide, TB_6 (i := 90) (by decide +kernel) rfl⟩
theorem fL_X12_35 : FLD RX12 35 12 16 := ⟨by decide, by decide, TB_6 (i := 91) (by decide +kernel) rfl⟩
theorem fL_X12_38 : FLD RX12 38 12 17 := ⟨by decide, by decide, TB_6 (i := 92) (by decide +kernel) rfl⟩
theorem fL_X12_41 : FLD RX12 41 12 18 := ⟨by decide, by decide, TB_6 (i := 93) (by decide +kernel) rfl⟩
theorem fL_X12_44 : FLD RX12 44 12 19 := ⟨by decide, by decide, TB_6 (i := 94) (by decide +kernel) rfl⟩
theorem fL_X12_47 : FLD RX12 47 12 20 := ⟨by decide, by decide, TB_6 (i := 95) (by decide +kernel) rfl⟩
theorem fL_X12_50 : FLD RX12 50 12 21 := ⟨by decide, by decide, TB_6 (i := 96) (by decide +kernel) rfl⟩
theorem fL_X12_53 : FLD RX12 53 12 22 := ⟨by decide, by decide, TB_6 (i := 97) (by decide +kernel) rfl⟩
theorem fL_X12_56 : FLD RX12 56 12 23 := ⟨by decide, by decide, TB_6 (i := 98) (by decide +kernel) rfl⟩
theorem fL_X12_59 : FLD RX12 59 12 24 := ⟨by decide, by decide, TB_6 (i := 99) (by decide +kernel) rfl⟩
theorem fL_X12_62 : FLD RX12 62 12 25 := ⟨by decide, by decide, TB_6 (i := 100) (by decide +kernel) rfl⟩
theorem fL_X12_65 : FLD RX12 65 12 26 := ⟨by decide, by decide, TB_6 (i := 101) (by decide +kernel) rfl⟩
theorem fL_X12_68 : FLD RX12 68 12 27 := ⟨by decide, by decide, TB_6 (i := 102) (by decide +kernel) rfl⟩
theorem fL_X12_192 : FLD RX12 192 12 28 := ⟨by decide, by decide, TB_6 (i := 103) (by decide +kernel) rfl⟩
theorem fL_X12_195 : FLD RX12 195 12 29 := ⟨by decide, by decide, TB_6 (i := 104) (by decide +kernel) rfl⟩
theorem fL_X12_198 : FLD RX12 198 12 30 := ⟨by decide, by decide, TB_6 (i := 105) (by decide +kernel) rfl⟩
theorem fL_X12_288 : FLD RX12 288 12 31 := ⟨by decide, by decide, TB_6 (i := 106) (by decide +kernel) rfl⟩
theorem fL_X12_205 : FLD RX12 205 12 32 := ⟨by decide, by decide, TB_6 (i := 107) (by decide +kernel) rfl⟩
theorem fL_X12_211 : FLD RX12 211 12 33 := ⟨by decide, by decide, TB_6 (i := 108) (by decide +kernel) rfl⟩
theorem fL_X12_208 : FLD RX12 208 12 34 := ⟨by decide, by decide, TB_6 (i := 109) (by decide +kernel) rfl⟩
theorem fL_X12_279 : FLD RX12 279 12 35 := ⟨by decide, by decide, TB_6 (i := 110) (by decide +kernel) rfl⟩
theorem fL_X12_257 : FLD RX12 257 12 36 := ⟨by decide, by decide, TB_6 (i := 111) (by decide +kernel) rfl⟩
theorem fL_X12_71 : FLD RX12 71 12 37 := ⟨by decide, by decide, TB_6 (i := 112) (by decide +kernel) rfl⟩
theorem fL_X12_305 : FLD RX12 305 12 38 := ⟨by decide, by decide, TB_6 (i := 113) (by decide +kernel) rfl⟩
theorem fL_X12_302 : FLD RX12 302 12 39 := ⟨by decide, by decide, TB_6 (i := 114) (by decide +kernel) rfl⟩
theorem fL_X12_308 : FLD RX12 308 12 40 := ⟨by decide, by decide, TB_6 (i := 115) (by decide +kernel) rfl⟩
theorem fL_X12_311 : FLD RX12 311 12 41 := ⟨by decide, by decide, TB_6 (i := 116) (by decide +kernel) rfl⟩
theorem fL_X12_314 : FLD RX12 314 12 42 := ⟨by decide, by decide, TB_6 (i := 117) (by decide +kernel) rfl⟩
theorem fL_X12_317 : FLD RX12 317 12 43 := ⟨by decide, by decide, TB_6 (i := 118) (by decide +kernel) rfl⟩
theorem fL_X12_320 : FLD RX12 320 12 44 := ⟨by decide, by decide, TB_6 (i := 119) (by decide +kernel) rfl⟩
theorem fL_X12_74 : FLD RX12 74 12 45 := ⟨by decide, by decide, TB_6 (i := 120) (by decide +kernel) rfl⟩
theorem fL_X12_77 : FLD RX12 77 12 46 := ⟨by decide, by decide, TB_6 (i := 121) (by decide +kernel) rfl⟩
theorem fL_X12_81 : FLD RX12 81 12 47 := ⟨by decide, by decide, TB_6 (i := 122) (by decide +kernel) rfl⟩
theorem fL_X12_84 : FLD RX12 84 12 48 := ⟨by decide, by decide, TB_6 (i := 123) (by decide +kernel) rfl⟩
theorem fL_X12_87 : FLD RX12 87 12 49 := ⟨by decide, by decide, TB_6 (i := 124) (by decide +kernel) rfl⟩
theorem fL_X12_90 : FLD RX12 90 12 50 := ⟨by decide, by decide, TB_6 (i := 125) (by decide +kernel) rfl⟩
theorem fL_X12_93 : FLD RX12 93 12 51 := ⟨by decide, by decide, TB_6 (i := 126) (by decide +kernel) rfl⟩
theorem fL_X12_96 : FLD RX12 96 12 52 := ⟨by decide, by decide, TB_6 (i := 127) (by decide +kernel) rfl⟩
theorem fL_X12_364 : FLD RX12 364 12 53 := ⟨by decide, by decide, TB_6 (i := 128) (by decide +kernel) rfl⟩
theorem fL_X12_367 : FLD RX12 367 12 54 := ⟨by decide, by decide, TB_6 (i := 129) (by decide +kernel) rfl⟩
theorem fL_X12_99 : FLD RX12 99 12 55 := ⟨by decide, by decide, TB_6 (i := 130) (by decide +kernel) rfl⟩
theorem fL_X12_102 : FLD RX12 102 12 56 := ⟨by decide, by decide, TB_6 (i := 131) (by decide +kernel) rfl⟩
theorem fL_X12_105 : FLD RX12 105 12 57 := ⟨by decide, by decide, TB_6 (i := 132) (by decide +kernel) rfl⟩
theorem fL_X12_108 : FLD RX12 108 12 58 := ⟨by decide, by decide, TB_6 (i := 133) (by decide +kernel) rfl⟩
theorem fL_X12_111 : FLD RX12 111 12 59 := ⟨by decide, by decide, TB_6 (i := 134) (by decide +kernel) rfl⟩
theorem fL_X12_114 : FLD RX12 114 12 60 := ⟨by decide, by decide, TB_6 (i := 135) (by decide +kernel) rfl⟩
theorem fL_X12_117 : FLD RX12 117 12 61 := ⟨by decide, by decide, TB_6 (i := 136) (by decide +kernel) rfl⟩
theorem fL_X12_120 : FLD RX12 120 12 62 := ⟨by decide, by decide, TB_6 (i := 137) (by decide +kernel) rfl⟩
theorem fL_X12_123 : FLD RX12 123 12 63 := ⟨by decide, by decide, TB_6 (i := 138) (by decide +kernel) rfl⟩
theorem fL_X12_126 : FLD RX12 126 12 64 := ⟨by decide, by decide, TB_6 (i := 139) (by decide +kernel) rfl⟩
theorem fL_X12_129 : FLD RX12 129 12 65 := ⟨by decide, by decide, TB_6 (i := 140) (by decide +kernel) rfl⟩
theorem fL_X12_132 : FLD RX12 132 12 66 := ⟨by decide, by decide, TB_6 (i := 141) (by decide +kernel) rfl⟩
theorem fL_X12_135 : FLD RX12 135 12 67 := ⟨by decide, by decide, TB_6 (i := 142) (by decide +kernel) rfl⟩
theorem fL_X12_138 : FLD RX12 138 12 68 := ⟨by decide, by decide, TB_6 (i := 143) (by decide +kernel) rfl⟩
theorem fL_X12_141 : FLD RX12 141 12 69 := ⟨by decide, by decide, TB_6 (i := 144) (by decide +kernel) rfl⟩
theorem fL_X12_466 : FLD RX12 466 12 70 := ⟨by decide, by decide, TB_6 (i := 145) (by decide +kernel) rfl⟩
theorem fL_X12_469 : FLD RX12 469 12 71 := ⟨by decide, by decide, TB_6 (i := 146) (by decide +kernel) rfl⟩
theorem fL_X12_145 : FLD RX12 145 12 72 := ⟨by decide, by decide, TB_6 (i := 147) (by decide +kernel) rfl⟩
theorem fL_X12_148 : FLD RX12 148 12 73 := ⟨by decide, by decide, TB_6 (i := 148) (by decide +kernel) rfl⟩
theorem fL_X12_151 : FLD RX12 151 12 74 := ⟨by decide, by decide, TB_6 (i := 149) (by decide +kernel) rfl⟩
theorem fL_X12_154 : FLD RX12 154 12 75 := ⟨by decide, by decide, TB_6 (i := 150) (by decide +kernel) rfl⟩
theorem fL_X12_158 : FLD RX12 158 12 76 := ⟨by decide, by decide, TB_6 (i := 151) (by decide +kernel) rfl⟩
theorem aC_boolean : Cond.arrayClass .boolean ∈ TB := TB_7 (i := 67) (by decide +kernel) rfl
theorem mL_L_17 : Cond.methodLink RL 17 yX12_corner ∈ TB := TB_7 (i := 68) (by decide +kernel) rfl
theorem kL_X12_171 : Cond.constantLong RX12 171 (3) ∈ TB := TB_7 (i := 72) (by decide +kernel) rfl
theorem mL_X12_164 : Cond.methodLink RX12 164 yX12_isIn ∈ TB := TB_7 (i := 73) (by decide +kernel) rfl
theorem kL_X12_173 : Cond.constantLong RX12 173 (50) ∈ TB := TB_7 (i := 76) (by decide +kernel) rfl
theorem kL_X12_175 : Cond.constantLong RX12 175 (10000) ∈ TB := TB_7 (i := 77) (by decide +kernel) rfl
theorem mL_L_22 : Cond.methodLink RL 22 yX12_life ∈ TB := TB_7 (i := 78) (by decide +kernel) rfl
theorem mL_X12_177 : Cond.methodLink RX12 177 yX12_isCorner ∈ TB := TB_7 (i := 82) (by decide +kernel) rfl
theorem kL_X12_181 : Cond.constantLong RX12 181 (1000000) ∈ TB := TB_7 (i := 86) (by decide +kernel) rfl
theorem kL_X12_183 : Cond.constantLong RX12 183 (5) ∈ TB := TB_7 (i := 87) (by decide +kernel) rfl
theorem mL_L_27 : Cond.methodLink RL 27 yX12_feed ∈ TB := TB_7 (i := 88) (by decide +kernel) rfl
theorem mL_X12_188 : Cond.methodLink RX12 188 yX12_push ∈ TB := TB_7 (i := 92) (by decide +kernel) rfl
theorem mL_L_32 : Cond.methodLink RL 32 yX12_law ∈ TB := TB_7 (i := 96) (by decide +kernel) rfl
theorem kL_X12_294 : Cond.constantLong RX12 294 (160) ∈ TB := TB_7 (i := 100) (by decide +kernel) rfl
theorem mL_X12_201 : Cond.methodLink RX12 201 yX12_isGood ∈ TB := TB_7 (i := 101) (by decide +kernel) rfl
theorem mL_X12_296 : Cond.methodLink RX12 296 yX12_clause ∈ TB := TB_7 (i := 105) (by decide +kernel) rfl
theorem mL_X12_218 : Cond.methodLink RX12 218 yX12_here ∈ TB := TB_7 (i := 109) (by decide +kernel) rfl
theorem mL_X12_214 : Cond.methodLink RX12 214 yX12_wrongs ∈ TB := TB_7 (i := 113) (by decide +kernel) rfl
theorem mL_X12_267 : Cond.methodLink RX12 267 yX12_value ∈ TB := TB_7 (i := 117) (by decide +kernel) rfl
theorem mL_X12_261 : Cond.methodLink RX12 261 yX12_factor ∈ TB := TB_7 (i := 121) (by decide +kernel) rfl
theorem mL_X12_244 : Cond.methodLink RX12 244 yX12_opens ∈ TB := TB_7 (i := 125) (by decide +kernel) rfl
theorem mL_X12_222 : Cond.methodLink RX12 222 yX12_puts ∈ TB := TB_7 (i := 129) (by decide +kernel) rfl
theorem mL_X12_229 : Cond.methodLink RX12 229 yX12_seesDigit ∈ TB := TB_7 (i := 133) (by decide +kernel) rfl
theorem kL_X12_225 : Cond.constantLong RX12 225 (48) ∈ TB := TB_7 (i := 137) (by decide +kernel) rfl
theorem kL_X12_227 : Cond.constantLong RX12 227 (57) ∈ TB := TB_7 (i := 138) (by decide +kernel) rfl
theorem mL_X12_247 : Cond.methodLink RX12 247 yX12_reads ∈ TB := TB_7 (i := 139) (by decide +kernel) rfl
theorem mL_X12_241 : Cond.methodLink RX12 241 yX12_emit ∈ TB := TB_7 (i := 143) (by decide +kernel) rfl
theorem mL_X12_250 : Cond.methodLink RX12 250 yX12_isValue ∈ TB := TB_7 (i := 147) (by decide +kernel) rfl
theorem mL_X12_264 : Cond.methodLink RX12 264 yX12_stays ∈ TB := TB_7 (i := 150) (by decide +kernel) rfl
theorem mL_X12_235 : Cond.methodLink RX12 235 yX12_isTimes ∈ TB := TB_7 (i := 154) (by decide +kernel) rfl
theorem mL_X12_238 : Cond.methodLink RX12 238 yX12_isPlus ∈ TB := TB_7 (i := 157) (by decide +kernel) rfl
theorem mL_X12_253 : Cond.methodLink RX12 253 yX12_sums ∈ TB := TB_7 (i := 160) (by decide +kernel) rfl
theorem mL_X12_232 : Cond.methodLink RX12 232 yX12_top ∈ TB := TB_7 (i := 164) (by decide +kernel) rfl
theorem mL_X12_291 : Cond.methodLink RX12 291 yX12_condition ∈ TB := TB_7 (i := 168) (by decide +kernel) rfl
theorem mL_X12_282 : Cond.methodLink RX12 282 yX12_pieceOfC ∈ TB := TB_7 (i := 172) (by decide +kernel) rfl
theorem mL_X12_270 : Cond.methodLink RX12 270 yX12_isSign ∈ TB := TB_7 (i := 176) (by decide +kernel) rfl
theorem mL_X12_273 : Cond.methodLink RX12 273 yX12_ends ∈ TB := TB_7 (i := 179) (by decide +kernel) rfl
theorem mL_X12_285 : Cond.methodLink RX12 285 yX12_goesBehind ∈ TB := TB_7 (i := 183) (by decide +kernel) rfl
theorem mL_X12_276 : Cond.methodLink RX12 276 yX12_joins ∈ TB := TB_7 (i := 187) (by decide +kernel) rfl
theorem mL_L_41 : Cond.methodLink RL 41 yX12_pull ∈ TB := TB_7 (i := 191) (by decide +kernel) rfl
theorem mL_X12_345 : Cond.methodLink RX12 345 yX12_isPressure ∈ TB := TB_7 (i := 195) (by decide +kernel) rfl
theorem kL_X12_343 : Cond.constantLong RX12 343 (99) ∈ TB := TB_7 (i := 198) (by decide +kernel) rfl
theorem mL_X12_348 : Cond.methodLink RX12 348 yX12_takes ∈ TB := TB_7 (i := 199) (by decide +kernel) rfl
theorem mL_X12_337 : Cond.methodLink RX12 337 yX12_toldBy ∈ TB := TB_7 (i := 203) (by decide +kernel) rfl
theorem mL_X12_334 : Cond.methodLink RX12 334 yX12_works ∈ TB := TB_7 (i := 207) (by decide +kernel) rfl
theorem mL_X12_327 : Cond.methodLink RX12 327 yX12_does ∈ TB := TB_7 (i := 211) (by decide +kernel) rfl
theorem mL_X12_323 : Cond.methodLink RX12 323 yX12_worked ∈ TB := TB_7 (i := 215) (by decide +kernel) rfl
theorem mL_X12_330 : Cond.methodLink RX12 330 yX12_valueOf ∈ TB := TB_7 (i := 218) (by decide +kernel) rfl
theorem kL_X12_341 : Cond.constant RX12 341 (100000) ∈ TB := TB_7 (i := 222) (by decide +kernel) rfl
theorem mL_L_37 : Cond.methodLink RL 37 yX12_program ∈ TB := TB_7 (i := 223) (by decide +kernel) rfl
theorem mL_X12_356 : Cond.methodLink RX12 356 yX12_isProgram ∈ TB := TB_7 (i := 227) (by decide +kernel) rfl
theorem kL_X12_354 : Cond.constantLong RX12 354 (7) ∈ TB := TB_7 (i := 230) (by decide +kernel) rfl
theorem kL_X12_359 : Cond.constantLong RX12 359 (60) ∈ TB := TB_7 (i := 231) (by decide +kernel) rfl
theorem mL_X12_361 : Cond.methodLink RX12 361 yX12_part ∈ TB := TB_7 (i := 232) (by decide +kernel) rfl
theorem mL_X12_351 : Cond.methodLink RX12 351 yX12_digits ∈ TB := TB_7 (i := 236) (by decide +kernel) rfl
theorem mL_L_61 : Cond.methodLink RL 61 yX12_runs ∈ TB := TB_8 (i := 0) (by decide +kernel) rfl
theorem mL_X12_376 : Cond.methodLink RX12 376 yX12_goes ∈ TB := TB_8 (i := 4) (by decide +kernel) rfl
theorem mL_X12_370 : Cond.methodLink RX12 370 yX12_isPulled ∈ TB := TB_8 (i := 8) (by decide +kernel) rfl
theorem kL_X12_342 : Cond.constant RX12 342 (1000000) ∈ TB := TB_8 (i := 12) (by decide +kernel) rfl
theorem mL_X12_373 : Cond.methodLink RX12 373 yX12_runsNow ∈ TB := TB_8 (i := 13) (by decide +kernel) rfl
theorem mL_L_66 : Cond.methodLink RL 66 yX12_odds ∈ TB := TB_8 (i := 17) (by decide +kernel) rfl
theorem mL_X12_384 : Cond.methodLink RX12 384 yX12_canFly ∈ TB := TB_8 (i := 21) (by decide +kernel) rfl
theorem kL_X12_388 : Cond.constantLong RX12 388 (-1) ∈ TB := TB_8 (i := 25) (by decide +kernel) rfl
theorem mL_X12_390 : Cond.methodLink RX12 390 yX12_whole ∈ TB := TB_8 (i := 26) (by decide +kernel) rfl
theorem mL_X12_393 : Cond.methodLink RX12 393 yX12_all ∈ TB := TB_8 (i := 30) (by decide +kernel) rfl
theorem mL_X12_380 : Cond.methodLink RX12 380 yX12_has ∈ TB := TB_8 (i := 34) (by decide +kernel) rfl
theorem mL_X12_397 : Cond.methodLink RX12 397 yX12_waysOf ∈ TB := TB_8 (i := 37) (by decide +kernel) rfl
theorem mL_X12_401 : Cond.methodLink RX12 401 yX12_waysLeft ∈ TB := TB_8 (i := 41) (by decide +kernel) rfl
theorem mL_X12_405 : Cond.methodLink RX12 405 yX12_first ∈ TB := TB_8 (i := 45) (by decide +kernel) rfl
theorem mL_L_70 : Cond.methodLink RL 70 yX12_left ∈ TB := TB_8 (i := 49) (by decide +kernel) rfl
theorem kL_X12_408 : Cond.constantLong RX12 408 (-2) ∈ TB := TB_8 (i := 53) (by decide +kernel) rfl
theorem mL_X12_410 : Cond.methodLink RX12 410 yX12_divisor ∈ TB := TB_8 (i := 54) (by decide +kernel) rfl
theorem mL_L_74 : Cond.methodLink RL 74 yX12_likely ∈ TB := TB_8 (i := 57) (by decide +kernel) rfl
theorem mL_X12_419 : Cond.methodLink RX12 419 yX12_isPiece ∈ TB := TB_8 (i := 61) (by decide +kernel) rfl
theorem kL_X12_417 : Cond.constantLong RX12 417 (1000) ∈ TB := TB_8 (i := 65) (by decide +kernel) rfl
theorem mL_X12_422 : Cond.methodLink RX12 422 yX12_likelyOf ∈ TB := TB_8 (i := 66) (by decide +kernel) rfl
theorem mL_X12_414 : Cond.methodLink RX12 414 yX12_pullsIn ∈ TB := TB_8 (i := 70) (by decide +kernel) rfl
theorem mL_L_78 : Cond.methodLink RL 78 yX12_off ∈ TB := TB_8 (i := 74) (by decide +kernel) rfl
theorem kL_X12_426 : Cond.constant RX12 426 (-100000) ∈ TB := TB_8 (i := 78) (by decide +kernel) rfl
theorem mL_L_82 : Cond.methodLink RL 82 yX12_trial ∈ TB := TB_8 (i := 79) (by decide +kernel) rfl
theorem mL_L_87 : Cond.methodLink RL 87 yX12_says ∈ TB := TB_8 (i := 83) (by decide +kernel) rfl
theorem mL_X12_430 : Cond.methodLink RX12 430 yX12_lostBy ∈ TB := TB_8 (i := 87) (by decide +kernel) rfl
theorem mL_L_91 : Cond.methodLink RL 91 yX12_cheapest ∈ TB := TB_8 (i := 91) (by decide +kernel) rfl
theorem mL_L_148 : Cond.methodLink RL 148 yX12_fly ∈ TB := TB_8 (i := 95) (by decide +kernel) rfl
theorem kL_X12_433 : Cond.constantLong RX12 433 (200) ∈ TB := TB_8 (i := 99) (by decide +kernel) rfl
theorem mL_L_45 : Cond.methodLink RL 45 yX12_hull ∈ TB := TB_8 (i := 100) (by decide +kernel) rfl
theorem mL_L_49 : Cond.methodLink RL 49 yX12_flown ∈ TB := TB_8 (i := 104) (by decide +kernel) rfl
theorem mL_X12_435 : Cond.methodLink RX12 435 yX12_isHull ∈ TB := TB_8 (i := 108) (by decide +kernel) rfl
theorem kL_X12_438 : Cond.constantLong RX12 438 (2000) ∈ TB := TB_8 (i := 112) (by decide +kernel) rfl
theorem mL_X12_440 : Cond.methodLink RX12 440 yX12_pullsHull ∈ TB := TB_8 (i := 113) (by decide +kernel) rfl
theorem mL_L_53 : Cond.methodLink RL 53 yX12_hullIs ∈ TB := TB_8 (i := 117) (by decide +kernel) rfl
theorem mL_L_57 : Cond.methodLink RL 57 yX12_cornerIs ∈ TB := TB_8 (i := 121) (by decide +kernel) rfl
theorem mL_L_95 : Cond.methodLink RL 95 yX12_story ∈ TB := TB_8 (i := 125) (by decide +kernel) rfl
theorem kL_X12_449 : Cond.constantLong RX12 449 (100) ∈ TB := TB_8 (i := 129) (by decide +kernel) rfl
theorem mL_L_100 : Cond.methodLink RL 100 yX12_find ∈ TB := TB_8 (i := 130) (by decide +kernel) rfl
theorem mL_L_105 : Cond.methodLink RL 105 yX12_tells ∈ TB := TB_8 (i := 134) (by decide +kernel) rfl
theorem mL_X12_451 : Cond.methodLink RX12 451 yX12_isFind ∈ TB := TB_8 (i := 138) (by decide +kernel) rfl
theorem mL_X12_454 : Cond.methodLink RX12 454 yX12_isStory ∈ TB := TB_8 (i := 142) (by decide +kernel) rfl
theorem kL_X12_457 : Cond.constantLong RX12 457 (10) ∈ TB := TB_8 (i := 146) (by decide +kernel) rfl
theorem mL_L_110 : Cond.methodLink RL 110 yX12_seen ∈ TB := TB_8 (i := 147) (by decide +kernel) rfl
theorem mL_L_115 : Cond.methodLink RL 115 yX12_weighs ∈ TB := TB_8 (i := 151) (by decide +kernel) rfl
theorem mL_X12_459 : Cond.methodLink RX12 459 yX12_weightOf ∈ TB := TB_8 (i := 155) (by decide +kernel) rfl
theorem mL_L_119 : Cond.methodLink RL 119 yX12_moves ∈ TB := TB_8 (i := 159) (by decide +kernel) rfl
theorem mL_L_123 : Cond.methodLink RL 123 yX12_wind ∈ TB := TB_8 (i := 163) (by decide +kernel) rfl
theorem kL_X12_462 : Cond.constantLong RX12 462 (-20) ∈ TB := TB_8 (i := 167) (by decide +kernel) rfl
theorem kL_X12_464 : Cond.constantLong RX12 464 (20) ∈ TB := TB_8 (i := 168) (by decide +kernel) rfl
theorem mL_L_127 : Cond.methodLink RL 127 yX12_lies ∈ TB := TB_8 (i := 169) (by decide +kernel) rfl
theorem kL_X12_475 : Cond.constantLong RX12 475 (100000) ∈ TB := TB_8 (i := 173) (by decide +kernel) rfl
theorem mL_L_131 : Cond.methodLink RL 131 yX12_span ∈ TB := TB_8 (i := 174) (by decide +kernel) rfl
theorem mL_X12_477 : Cond.methodLink RX12 477 yX12_isOnBed ∈ TB := TB_8 (i := 178) (by decide +kernel) rfl
theorem mL_X12_480 : Cond.methodLink RX12 480 yX12_secondOf ∈ TB := TB_8 (i := 182) (by decide +kernel) rfl
theorem mL_L_135 : Cond.methodLink RL 135 yX12_order ∈ TB := TB_8 (i := 186) (by decide +kernel) rfl
theorem mL_L_139 : Cond.methodLink RL 139 yX12_cell ∈ TB := TB_8 (i := 190) (by decide +kernel) rfl
theorem kL_X12_483 : Cond.constantLong RX12 483 (39) ∈ TB := TB_8 (i := 194) (by decide +kernel) rfl
theorem mL_L_144 : Cond.methodLink RL 144 yX12_nets ∈ TB := TB_8 (i := 195) (by decide +kernel) rfl
theorem kL_X12_485 : Cond.constantLong RX12 485 (4) ∈ TB := TB_8 (i := 199) (by decide +kernel) rfl
theorem mL_X12_487 : Cond.methodLink RX12 487 yX12_worths ∈ TB := TB_8 (i := 200) (by decide +kernel) rfl
theorem mL_L_152 : Cond.methodLink RL 152 yX12_check ∈ TB := TB_8 (i := 204) (by decide +kernel) rfl
theorem mL_X12_490 : Cond.methodLink RX12 490 yX12_numberAt ∈ TB := TB_8 (i := 208) (by decide +kernel) rfl
theorem mL_L_156 : Cond.methodLink RL 156 yX12_count ∈ TB := TB_8 (i := 212) (by decide +kernel) rfl
theorem fL_J0_15 : Cond.fieldLink RJ0 15 "java/lang/String" "coder" "B" ∈ TB := TB_8 (i := 216) (by decide +kernel) rfl
theorem fL_J0_9 : Cond.fieldLink RJ0 9 "java/lang/String" "value" "[B" ∈ TB := TB_8 (i := 217) (by decide +kernel) rfl
theorem mN_X11_9 : (RX11, 9, yX9_init, "HullTank") ∈ NWL := List.mem_of_getElem? (i := 0) rfl
theorem mN_X11_18 : (RX11, 18, yX1_init, "HullTank") ∈ NWL := List.mem_of_getElem? (i := 1) rfl
theorem mN_X1_33 : (RX1, 33, yX3_init, "HullTank") ∈ NWL := List.mem_of_getElem? (i := 2) rfl
theorem mN_X11_42 : (RX11, 42, yX6_init, "HullTank") ∈ NWL := List.mem_of_getElem? (i := 3) rfl
theorem mN_X10_30 : (RX10, 30, yX6_init, "HullTank") ∈ NWL := List.mem_of_getElem? (i := 4) rfl
theorem mN_X11_79 : (RX11, 79, yX0_init, "HullTank") ∈ NWL := List.mem_of_getElem? (i := 5) rfl
theorem mN_X1_65 : (RX1, 65, yX11_put, "HullTank") ∈ NWL := List.mem_of_getElem? (i := 6) rfl
theorem mN_X1_49 : (RX1, 49, yX11_at, "HullTank") ∈ NWL := List.mem_of_getElem? (i := 7) rfl
theorem mN_X9_17 : (RX9, 17, yX11_put, "HullTank") ∈ NWL := List.mem_of_getElem? (i := 8) rfl
theorem mN_X3_41 : (RX3, 41, yX11_put, "HullTank") ∈ NWL := List.mem_of_getElem? (i := 9) rfl
theorem mN_X6_60 : (RX6, 60, yX11_put, "HullTank") ∈ NWL := List.mem_of_getElem? (i := 10) rfl
theorem mN_X3_75 : (RX3, 75, yX11_at, "HullTank") ∈ NWL := List.mem_of_getElem? (i := 11) rfl
theorem mN_X2_52 : (RX2, 52, yX11_put, "HullTank") ∈ NWL := List.mem_of_getElem? (i := 12) rfl
theorem mN_X2_56 : (RX2, 56, yX11_at, "HullTank") ∈ NWL := List.mem_of_getElem? (i := 13) rfl
theorem mN_X5_98 : (RX5, 98, yX11_at, "HullTank") ∈ NWL := List.mem_of_getElem? (i := 14) rfl
theorem mN_X5_92 : (RX5, 92, yX11_put, "HullTank") ∈ NWL := List.mem_of_getElem? (i := 15) rfl
theorem mN_X10_43 : (RX10, 43, yX11_put, "HullTank") ∈ NWL := List.mem_of_getElem? (i := 16) rfl
theorem mN_X10_50 : (RX10, 50, yX11_at, "HullTank") ∈ NWL := List.mem_of_getElem? (i := 17) rfl
theorem mN_X7_41 : (RX7, 41, yX11_put, "HullTank") ∈ NWL := List.mem_of_getElem? (i := 18) rfl
theorem mN_X7_45 : (RX7, 45, yX11_at, "HullTank") ∈ NWL := List.mem_of_getElem? (i := 19) rfl
theorem mN_X0_25 : (RX0, 25, yX11_put, "HullTank") ∈ NWL := List.mem_of_getElem? (i := 20) rfl
theorem mN_X0_35 : (RX0, 35, yX11_at, "HullTank") ∈ NWL := List.mem_of_getElem? (i := 21) rfl
theorem mN_X7_79 : (RX7, 79, yX11_longAt, "HullTank") ∈ NWL := List.mem_of_getElem? (i := 22) rfl
theorem mN_X7_86 : (RX7, 86, yX11_putLong, "HullTank") ∈ NWL := List.mem_of_getElem? (i := 23) rfl
theorem mN_X9_23 : (RX9, 23, yX11_at, "HullTank") ∈ NWL := List.mem_of_getElem? (i := 24) rfl
theorem kI_0 : ∀ w ∈ u_ws (kR 0) (kF 0) (kN 0), w ∈ TB := TB_places [439, 441, 443, 445, 447, 449] (by decide +kernel) (by decide +kernel)
theorem kI_1 : ∀ w ∈ u_ws (kR 1) (kF 1) (kN 1), w ∈ TB := TB_places [194, 196, 198, 200, 202, 204, 206, 208, 210, 212, 214] (by decide +kernel) (by decide +kernel)
theorem kI_2 : ∀ w ∈ u_ws (kR 2) (kF 2) (kN 2), w ∈ TB := TB_places [321, 323, 325, 327, 329] (by decide +kernel) (by decide +kernel)
theorem kI_3 : ∀ w ∈ u_ws (kR 3) (kF 3) (kN 3), w ∈ TB := TB_places [156, 158, 160, 162, 164, 166, 168, 170, 172, 174, 176, 178, 180] (by decide +kernel) (by decide +kernel)
theorem kI_4 : ∀ w ∈ u_ws (kR 4) (kF 4) (kN 4), w ∈ TB := TB_places [229, 231] (by decide +kernel) (by decide +kernel)
theorem kI_5 : ∀ w ∈ u_ws (kR 5) (kF 5) (kN 5), w ∈ TB := TB_places [348, 350, 352, 354, 356, 358, 360, 362] (by decide +kernel) (by decide +kernel)
theorem kI_6 : ∀ w ∈ u_ws (kR 6) (kF 6) (kN 6), w ∈ TB := TB_places [245, 247, 249, 251] (by decide +kernel) (by decide +kernel)
theorem kI_7 : ∀ w ∈ u_ws (kR 7) (kF 7) (kN 7), w ∈ TB := TB_places [407, 409, 411, 413, 415, 417, 419, 421, 423] (by decide +kernel) (by decide +kernel)
theorem kI_8 : ∀ w ∈ u_ws (kR 8) (kF 8) (kN 8), w ∈ TB := TB_places [283, 285, 287, 289, 291, 293, 295, 297, 299, 301, 303, 305, 307, 309, 311, 313] (by decide +kernel) (by decide +kernel)
theorem kI_9 : ∀ w ∈ u_ws (kR 9) (kF 9) (kN 9), w ∈ TB := TB_places [117, 119, 121, 123, 125, 127] (by decide +kernel) (by decide +kernel)
theorem kI_10 : ∀ w ∈ u_ws (kR 10) (kF 10) (kN 10), w ∈ TB := TB_places [379, 381, 383, 385, 387, 389] (by decide +kernel) (by decide +kernel)
theorem kI_11 : ∀ w ∈ u_ws (kR 11) (kF 11) (kN 11), w ∈ TB := TB_places [466, 468, 470, 472, 474, 476, 478, 480, 482, 484, 486, 488] (by decide +kernel) (by decide +kernel)
theorem kI_12 : ∀ w ∈ u_ws (kR 12) (kF 12) (kN 12), w ∈ TB := TB_places [1429, 1431, 1433, 1435, 1437, 1439, 1441, 1443, 1445, 1447, 1449, 1451, 1453, 1455, 1457, 1459, 1461, 1463, 1465, 1467, 1469, 1471, 1473, 1475, 1477, 1479, 1481, 1483, 1485, 1487, 1489, 1491, 1493, 1495, 1497, 1499, 1501, 1503, 1505, 1507, 1509, 1511, 1513, 1515, 1517, 1519, 1521, 1523, 1525, 1527, 1529, 1531, 1533, 1535, 1537, 1539, 1541, 1543, 1545, 1547, 1549, 1551, 1553, 1555, 1557, 1559, 1561, 1563, 1565, 1567, 1569, 1571, 1573, 1575, 1577, 1579, 1581] (by decide +kernel) (by decide +kernel)
