/-- all words of the tables that a method may be handed: one list for every contract -/
def WA : List Cond := lw_tbl.filter goodWord
def wm (y : MethodName) (c : ByteArray) (n : Nat) (r : Option FieldType) : List Cond := Cond.code y c n r :: WA
theorem WA_good : GoodIn WA WA := fun w h => ⟨h, good_of_word (List.mem_filter.mp h).2⟩
theorem wm_good {y : MethodName} {c : ByteArray} {n : Nat} {r : Option FieldType} (h : Cond.code y c n r ∈ WA) : GoodIn WA (wm y c n r) := fun w hw => (List.mem_cons.mp hw).elim (fun e => by rw [e]; exact WA_good _ h) (fun h => WA_good w h)
theorem inA0 : ∀ w ∈ wsX00, w ∈ WA := fun w h => List.mem_filter.mpr ⟨(by decide +kernel : ∀ w ∈ wsX00, w ∈ lw_tbl) w h, (by decide +kernel : ∀ w ∈ wsX00, goodWord w = true) w h⟩
theorem inA1 : ∀ w ∈ wsX10, w ∈ WA := fun w h => List.mem_filter.mpr ⟨(by decide +kernel : ∀ w ∈ wsX10, w ∈ lw_tbl) w h, (by decide +kernel : ∀ w ∈ wsX10, goodWord w = true) w h⟩
theorem inA2 : ∀ w ∈ wsX20, w ∈ WA := fun w h => List.mem_filter.mpr ⟨(by decide +kernel : ∀ w ∈ wsX20, w ∈ lw_tbl) w h, (by decide +kernel : ∀ w ∈ wsX20, goodWord w = true) w h⟩
theorem inA3 : ∀ w ∈ wsX30, w ∈ WA := fun w h => List.mem_filter.mpr ⟨(by decide +kernel : ∀ w ∈ wsX30, w ∈ lw_tbl) w h, (by decide +kernel : ∀ w ∈ wsX30, goodWord w = true) w h⟩
theorem inA4 : ∀ w ∈ wsX40, w ∈ WA := fun w h => List.mem_filter.mpr ⟨(by decide +kernel : ∀ w ∈ wsX40, w ∈ lw_tbl) w h, (by decide +kernel : ∀ w ∈ wsX40, goodWord w = true) w h⟩
theorem inA5 : ∀ w ∈ wsX50, w ∈ WA := fun w h => List.mem_filter.mpr ⟨(by decide +kernel : ∀ w ∈ wsX50, w ∈ lw_tbl) w h, (by decide +kernel : ∀ w ∈ wsX50, goodWord w = true) w h⟩
theorem inA6 : ∀ w ∈ wsX60, w ∈ WA := fun w h => List.mem_filter.mpr ⟨(by decide +kernel : ∀ w ∈ wsX60, w ∈ lw_tbl) w h, (by decide +kernel : ∀ w ∈ wsX60, goodWord w = true) w h⟩
theorem inA7 : ∀ w ∈ wsX70, w ∈ WA := fun w h => List.mem_filter.mpr ⟨(by decide +kernel : ∀ w ∈ wsX70, w ∈ lw_tbl) w h, (by decide +kernel : ∀ w ∈ wsX70, goodWord w = true) w h⟩
theorem inA8 : ∀ w ∈ wsX80, w ∈ WA := fun w h => List.mem_filter.mpr ⟨(by decide +kernel : ∀ w ∈ wsX80, w ∈ lw_tbl) w h, (by decide +kernel : ∀ w ∈ wsX80, goodWord w = true) w h⟩
theorem inA9 : ∀ w ∈ wsX90, w ∈ WA := fun w h => List.mem_filter.mpr ⟨(by decide +kernel : ∀ w ∈ wsX90, w ∈ lw_tbl) w h, (by decide +kernel : ∀ w ∈ wsX90, goodWord w = true) w h⟩
theorem mw0 : Cond.selects RX8 yX8_found yX8_found ∈ WA := List.mem_filter.mpr ⟨List.mem_of_getElem? (i := 0) (by decide +kernel), by decide +kernel⟩
theorem mw1 : Cond.selects RX8 yX8_answered yX8_answered ∈ WA := List.mem_filter.mpr ⟨List.mem_of_getElem? (i := 1) (by decide +kernel), by decide +kernel⟩
theorem mw2 : Cond.selects RX7 yX7_thirdsAtSide yX7_thirdsAtSide ∈ WA := List.mem_filter.mpr ⟨List.mem_of_getElem? (i := 2) (by decide +kernel), by decide +kernel⟩
theorem mw3 : Cond.selects RX2 yX2_shareBetween yX2_shareBetween ∈ WA := List.mem_filter.mpr ⟨List.mem_of_getElem? (i := 3) (by decide +kernel), by decide +kernel⟩
theorem mw4 : Cond.selects RX1 yX1_share yX1_share ∈ WA := List.mem_filter.mpr ⟨List.mem_of_getElem? (i := 4) (by decide +kernel), by decide +kernel⟩
theorem mw5 : Cond.selects RX8 yX8_numberFrom yX8_numberFrom ∈ WA := List.mem_filter.mpr ⟨List.mem_of_getElem? (i := 5) (by decide +kernel), by decide +kernel⟩
theorem mw6 : Cond.selects RX8 yX8_refusalOfRows yX8_refusalOfRows ∈ WA := List.mem_filter.mpr ⟨List.mem_of_getElem? (i := 6) (by decide +kernel), by decide +kernel⟩
theorem mw7 : Cond.selects RX4 yX4_apart yX4_apart ∈ WA := List.mem_filter.mpr ⟨List.mem_of_getElem? (i := 7) (by decide +kernel), by decide +kernel⟩
theorem mw8 : Cond.selects RX4 yX4_costAhead yX4_costAhead ∈ WA := List.mem_filter.mpr ⟨List.mem_of_getElem? (i := 8) (by decide +kernel), by decide +kernel⟩
theorem mw9 : Cond.selects RX4 yX4_walkBack yX4_walkBack ∈ WA := List.mem_filter.mpr ⟨List.mem_of_getElem? (i := 9) (by decide +kernel), by decide +kernel⟩
theorem mw10 : Cond.selects RX4 yX4_meet yX4_meet ∈ WA := List.mem_filter.mpr ⟨List.mem_of_getElem? (i := 10) (by decide +kernel), by decide +kernel⟩
theorem mw11 : Cond.selects RX4 yX4_oftenMet yX4_oftenMet ∈ WA := List.mem_filter.mpr ⟨List.mem_of_getElem? (i := 11) (by decide +kernel), by decide +kernel⟩
theorem mw12 : Cond.selects RX4 yX4_timesMet yX4_timesMet ∈ WA := List.mem_filter.mpr ⟨List.mem_of_getElem? (i := 12) (by decide +kernel), by decide +kernel⟩
theorem mw13 : Cond.selects RX7 yX7_staysWhole yX7_staysWhole ∈ WA := List.mem_filter.mpr ⟨List.mem_of_getElem? (i := 13) (by decide +kernel), by decide +kernel⟩
theorem mw14 : Cond.selects RX0 yX0_body12 yX0_body12 ∈ WA := List.mem_filter.mpr ⟨List.mem_of_getElem? (i := 14) (by decide +kernel), by decide +kernel⟩
theorem mw15 : Cond.selects RX0 yX0_begin yX0_begin ∈ WA := List.mem_filter.mpr ⟨List.mem_of_getElem? (i := 15) (by decide +kernel), by decide +kernel⟩
theorem mw16 : Cond.selects RX0 yX0_body11 yX0_body11 ∈ WA := List.mem_filter.mpr ⟨List.mem_of_getElem? (i := 16) (by decide +kernel), by decide +kernel⟩
theorem mw17 : Cond.selects RX0 yX0_body10 yX0_body10 ∈ WA := List.mem_filter.mpr ⟨List.mem_of_getElem? (i := 17) (by decide +kernel), by decide +kernel⟩
theorem mw18 : Cond.selects RX0 yX0_body21 yX0_body21 ∈ WA := List.mem_filter.mpr ⟨List.mem_of_getElem? (i := 18) (by decide +kernel), by decide +kernel⟩
theorem mw19 : Cond.selects RX0 yX0_body20 yX0_body20 ∈ WA := List.mem_filter.mpr ⟨List.mem_of_getElem? (i := 19) (by decide +kernel), by decide +kernel⟩
theorem mw20 : Cond.selects RX0 yX0_body13 yX0_body13 ∈ WA := List.mem_filter.mpr ⟨List.mem_of_getElem? (i := 20) (by decide +kernel), by decide +kernel⟩
theorem mw21 : Cond.selects RX0 yX0_body22 yX0_body22 ∈ WA := List.mem_filter.mpr ⟨List.mem_of_getElem? (i := 21) (by decide +kernel), by decide +kernel⟩
theorem mw22 : Cond.selects RX9 yX9_found yX9_found ∈ WA := List.mem_filter.mpr ⟨List.mem_of_getElem? (i := 22) (by decide +kernel), by decide +kernel⟩
theorem mw23 : Cond.selects RX9 yX9_isMark yX9_isMark ∈ WA := List.mem_filter.mpr ⟨List.mem_of_getElem? (i := 23) (by decide +kernel), by decide +kernel⟩
theorem mw24 : Cond.selects RX9 yX9_placeAt yX9_placeAt ∈ WA := List.mem_filter.mpr ⟨List.mem_of_getElem? (i := 24) (by decide +kernel), by decide +kernel⟩
theorem mw25 : Cond.selects RX9 yX9_isThird yX9_isThird ∈ WA := List.mem_filter.mpr ⟨List.mem_of_getElem? (i := 25) (by decide +kernel), by decide +kernel⟩
theorem mw26 : Cond.selects RX9 yX9_areaAt yX9_areaAt ∈ WA := List.mem_filter.mpr ⟨List.mem_of_getElem? (i := 26) (by decide +kernel), by decide +kernel⟩
theorem mw27 : Cond.selects RX9 yX9_foldsAt yX9_foldsAt ∈ WA := List.mem_filter.mpr ⟨List.mem_of_getElem? (i := 27) (by decide +kernel), by decide +kernel⟩
theorem mw28 : Cond.selects RX9 yX9_thirdAt yX9_thirdAt ∈ WA := List.mem_filter.mpr ⟨List.mem_of_getElem? (i := 28) (by decide +kernel), by decide +kernel⟩
theorem mw29 : Cond.selects RX9 yX9_fromBy yX9_fromBy ∈ WA := List.mem_filter.mpr ⟨List.mem_of_getElem? (i := 29) (by decide +kernel), by decide +kernel⟩
theorem mw30 : Cond.selects RX9 yX9_numberAt yX9_numberAt ∈ WA := List.mem_filter.mpr ⟨List.mem_of_getElem? (i := 30) (by decide +kernel), by decide +kernel⟩
theorem mw31 : Cond.selects RX9 yX9_look yX9_look ∈ WA := List.mem_filter.mpr ⟨List.mem_of_getElem? (i := 31) (by decide +kernel), by decide +kernel⟩
theorem mw32 : Cond.selects RX9 yX9_findPairs yX9_findPairs ∈ WA := List.mem_filter.mpr ⟨List.mem_of_getElem? (i := 32) (by decide +kernel), by decide +kernel⟩
theorem mw33 : Cond.selects RX9 yX9_apart yX9_apart ∈ WA := List.mem_filter.mpr ⟨List.mem_of_getElem? (i := 33) (by decide +kernel), by decide +kernel⟩
theorem mw34 : Cond.selects RX9 yX9_kindOf yX9_kindOf ∈ WA := List.mem_filter.mpr ⟨List.mem_of_getElem? (i := 34) (by decide +kernel), by decide +kernel⟩
theorem mw35 : Cond.selects RX9 yX9_sized yX9_sized ∈ WA := List.mem_filter.mpr ⟨List.mem_of_getElem? (i := 35) (by decide +kernel), by decide +kernel⟩
theorem mw36 : Cond.selects RX9 yX9_began yX9_began ∈ WA := List.mem_filter.mpr ⟨List.mem_of_getElem? (i := 36) (by decide +kernel), by decide +kernel⟩
theorem mw37 : Cond.selects RX9 yX9_plainSize yX9_plainSize ∈ WA := List.mem_filter.mpr ⟨List.mem_of_getElem? (i := 37) (by decide +kernel), by decide +kernel⟩
theorem mw38 : Cond.selects RX9 yX9_marked yX9_marked ∈ WA := List.mem_filter.mpr ⟨List.mem_of_getElem? (i := 38) (by decide +kernel), by decide +kernel⟩
theorem mw39 : Cond.initialized RL ∈ WA := List.mem_filter.mpr ⟨List.mem_of_getElem? (i := 39) (by decide +kernel), by decide +kernel⟩
theorem mw40 : Cond.initialized RX8 ∈ WA := List.mem_filter.mpr ⟨List.mem_of_getElem? (i := 40) (by decide +kernel), by decide +kernel⟩
theorem mw41 : Cond.initialized RX6 ∈ WA := List.mem_filter.mpr ⟨List.mem_of_getElem? (i := 41) (by decide +kernel), by decide +kernel⟩
theorem mw42 : Cond.initialized RX3 ∈ WA := List.mem_filter.mpr ⟨List.mem_of_getElem? (i := 42) (by decide +kernel), by decide +kernel⟩
theorem mw43 : Cond.initialized RX7 ∈ WA := List.mem_filter.mpr ⟨List.mem_of_getElem? (i := 43) (by decide +kernel), by decide +kernel⟩
theorem mw44 : Cond.initialized RX2 ∈ WA := List.mem_filter.mpr ⟨List.mem_of_getElem? (i := 44) (by decide +kernel), by decide +kernel⟩
theorem mw45 : Cond.initialized RX1 ∈ WA := List.mem_filter.mpr ⟨List.mem_of_getElem? (i := 45) (by decide +kernel), by decide +kernel⟩
theorem mw46 : Cond.initialized RX5 ∈ WA := List.mem_filter.mpr ⟨List.mem_of_getElem? (i := 46) (by decide +kernel), by decide +kernel⟩
theorem mw47 : Cond.initialized RX4 ∈ WA := List.mem_filter.mpr ⟨List.mem_of_getElem? (i := 47) (by decide +kernel), by decide +kernel⟩
theorem mw48 : Cond.initialized RX0 ∈ WA := List.mem_filter.mpr ⟨List.mem_of_getElem? (i := 48) (by decide +kernel), by decide +kernel⟩
theorem mw49 : Cond.initialized RX9 ∈ WA := List.mem_filter.mpr ⟨List.mem_of_getElem? (i := 49) (by decide +kernel), by decide +kernel⟩
theorem mw50 : Cond.initialized RJ10 ∈ WA := List.mem_filter.mpr ⟨List.mem_of_getElem? (i := 50) (by decide +kernel), by decide +kernel⟩
theorem mw51 : Cond.initialized RJ9 ∈ WA := List.mem_filter.mpr ⟨List.mem_of_getElem? (i := 51) (by decide +kernel), by decide +kernel⟩
theorem mw52 : Cond.classLink RL 7 RX8 ∈ WA := List.mem_filter.mpr ⟨List.mem_of_getElem? (i := 52) (by decide +kernel), by decide +kernel⟩
theorem mw53 : Cond.instantiable RX8 9 ∈ WA := List.mem_filter.mpr ⟨List.mem_of_getElem? (i := 53) (by decide +kernel), by decide +kernel⟩
theorem mw54 : Cond.methodLink RL 9 yX8_init ∈ WA := List.mem_filter.mpr ⟨List.mem_of_getElem? (i := 54) (by decide +kernel), by decide +kernel⟩
theorem mw55 : Cond.instanceMethod yX8_init ∈ WA := List.mem_filter.mpr ⟨List.mem_of_getElem? (i := 55) (by decide +kernel), by decide +kernel⟩
theorem mw56 : Cond.code yX8_init cX8_init 1 none ∈ WA := List.mem_filter.mpr ⟨List.mem_of_getElem? (i := 56) (by decide +kernel), by decide +kernel⟩
theorem mw57 : Cond.methodLink RX8 1 objectInit ∈ WA := List.mem_filter.mpr ⟨List.mem_of_getElem? (i := 57) (by decide +kernel), by decide +kernel⟩
theorem mw58 : Cond.instanceMethod objectInit ∈ WA := List.mem_filter.mpr ⟨List.mem_of_getElem? (i := 58) (by decide +kernel), by decide +kernel⟩
theorem mw59 : Cond.code objectInit ⟨#[0xb1]⟩ 1 none ∈ WA := List.mem_filter.mpr ⟨List.mem_of_getElem? (i := 59) (by decide +kernel), by decide +kernel⟩
theorem mw60 : Cond.classLink RX8 7 RX6 ∈ WA := List.mem_filter.mpr ⟨List.mem_of_getElem? (i := 60) (by decide +kernel), by decide +kernel⟩
theorem mw61 : Cond.instantiable RX6 3 ∈ WA := List.mem_filter.mpr ⟨List.mem_of_getElem? (i := 61) (by decide +kernel), by decide +kernel⟩
theorem mw62 : Cond.methodLink RX8 9 yX6_init ∈ WA := List.mem_filter.mpr ⟨List.mem_of_getElem? (i := 62) (by decide +kernel), by decide +kernel⟩
theorem mw63 : Cond.instanceMethod yX6_init ∈ WA := List.mem_filter.mpr ⟨List.mem_of_getElem? (i := 63) (by decide +kernel), by decide +kernel⟩
theorem mw64 : Cond.code yX6_init cX6_init 2 none ∈ WA := List.mem_filter.mpr ⟨List.mem_of_getElem? (i := 64) (by decide +kernel), by decide +kernel⟩
theorem mw65 : Cond.methodLink RX6 1 objectInit ∈ WA := List.mem_filter.mpr ⟨List.mem_of_getElem? (i := 65) (by decide +kernel), by decide +kernel⟩
theorem mw66 : Cond.fieldLink RX6 9 "ShapeBetween$Sheets" "lanes" "[I" ∈ WA := List.mem_filter.mpr ⟨List.mem_of_getElem? (i := 66) (by decide +kernel), by decide +kernel⟩
theorem mw67 : Cond.fieldLink RX6 13 "ShapeBetween$Sheets" "lengths" "[I" ∈ WA := List.mem_filter.mpr ⟨List.mem_of_getElem? (i := 67) (by decide +kernel), by decide +kernel⟩
theorem mw68 : Cond.fieldLink RX6 16 "ShapeBetween$Sheets" "items" "[I" ∈ WA := List.mem_filter.mpr ⟨List.mem_of_getElem? (i := 68) (by decide +kernel), by decide +kernel⟩
theorem mw76 : Cond.arrayClass .int ∈ WA := List.mem_filter.mpr ⟨List.mem_of_getElem? (i := 76) (by decide +kernel), by decide +kernel⟩
theorem mw77 : Cond.classLink RX8 16 RX3 ∈ WA := List.mem_filter.mpr ⟨List.mem_of_getElem? (i := 77) (by decide +kernel), by decide +kernel⟩
theorem mw78 : Cond.instantiable RX3 3 ∈ WA := List.mem_filter.mpr ⟨List.mem_of_getElem? (i := 78) (by decide +kernel), by decide +kernel⟩
theorem mw80 : Cond.instanceMethod yX3_init ∈ WA := List.mem_filter.mpr ⟨List.mem_of_getElem? (i := 80) (by decide +kernel), by decide +kernel⟩
theorem mw81 : Cond.code yX3_init cX3_init 1 none ∈ WA := List.mem_filter.mpr ⟨List.mem_of_getElem? (i := 81) (by decide +kernel), by decide +kernel⟩
theorem mw82 : Cond.methodLink RX3 1 objectInit ∈ WA := List.mem_filter.mpr ⟨List.mem_of_getElem? (i := 82) (by decide +kernel), by decide +kernel⟩
theorem mw83 : Cond.fieldLink RX3 7 "ShapeBetween$Marks" "many" "I" ∈ WA := List.mem_filter.mpr ⟨List.mem_of_getElem? (i := 83) (by decide +kernel), by decide +kernel⟩
theorem mw84 : Cond.fieldLink RX3 13 "ShapeBetween$Marks" "xs" "[I" ∈ WA := List.mem_filter.mpr ⟨List.mem_of_getElem? (i := 84) (by decide +kernel), by decide +kernel⟩
theorem mw85 : Cond.fieldLink RX3 17 "ShapeBetween$Marks" "ys" "[I" ∈ WA := List.mem_filter.mpr ⟨List.mem_of_getElem? (i := 85) (by decide +kernel), by decide +kernel⟩
theorem mw93 : Cond.classLink RX8 23 RX7 ∈ WA := List.mem_filter.mpr ⟨List.mem_of_getElem? (i := 93) (by decide +kernel), by decide +kernel⟩
theorem mw94 : Cond.instantiable RX7 3 ∈ WA := List.mem_filter.mpr ⟨List.mem_of_getElem? (i := 94) (by decide +kernel), by decide +kernel⟩
theorem mw95 : Cond.methodLink RX8 25 yX7_init ∈ WA := List.mem_filter.mpr ⟨List.mem_of_getElem? (i := 95) (by decide +kernel), by decide +kernel⟩
theorem mw96 : Cond.instanceMethod yX7_init ∈ WA := List.mem_filter.mpr ⟨List.mem_of_getElem? (i := 96) (by decide +kernel), by decide +kernel⟩
theorem mw97 : Cond.code yX7_init cX7_init 2 none ∈ WA := List.mem_filter.mpr ⟨List.mem_of_getElem? (i := 97) (by decide +kernel), by decide +kernel⟩
theorem mw98 : Cond.methodLink RX7 3 objectInit ∈ WA := List.mem_filter.mpr ⟨List.mem_of_getElem? (i := 98) (by decide +kernel), by decide +kernel⟩
theorem mw99 : Cond.fieldLink RX7 19 "ShapeBetween$Thirds" "marks" "LShapeBetween$Marks;" ∈ WA := List.mem_filter.mpr ⟨List.mem_of_getElem? (i := 99) (by decide +kernel), by decide +kernel⟩
theorem mw100 : Cond.fieldLink RX7 9 "ShapeBetween$Thirds" "many" "I" ∈ WA := List.mem_filter.mpr ⟨List.mem_of_getElem? (i := 100) (by decide +kernel), by decide +kernel⟩
theorem mw101 : Cond.fieldLink RX7 15 "ShapeBetween$Thirds" "corners" "[I" ∈ WA := List.mem_filter.mpr ⟨List.mem_of_getElem? (i := 101) (by decide +kernel), by decide +kernel⟩
theorem mw109 : Cond.classLink RX8 32 RX2 ∈ WA := List.mem_filter.mpr ⟨List.mem_of_getElem? (i := 109) (by decide +kernel), by decide +kernel⟩
theorem mw110 : Cond.instantiable RX2 3 ∈ WA := List.mem_filter.mpr ⟨List.mem_of_getElem? (i := 110) (by decide +kernel), by decide +kernel⟩
theorem mw112 : Cond.instanceMethod yX2_init ∈ WA := List.mem_filter.mpr ⟨List.mem_of_getElem? (i := 112) (by decide +kernel), by decide +kernel⟩
theorem mw113 : Cond.code yX2_init cX2_init 1 none ∈ WA := List.mem_filter.mpr ⟨List.mem_of_getElem? (i := 113) (by decide +kernel), by decide +kernel⟩
theorem mw114 : Cond.methodLink RX2 1 objectInit ∈ WA := List.mem_filter.mpr ⟨List.mem_of_getElem? (i := 114) (by decide +kernel), by decide +kernel⟩
theorem mw115 : Cond.fieldLink RX2 7 "ShapeBetween$Easing" "many" "I" ∈ WA := List.mem_filter.mpr ⟨List.mem_of_getElem? (i := 115) (by decide +kernel), by decide +kernel⟩
theorem mw116 : Cond.fieldLink RX2 13 "ShapeBetween$Easing" "times" "[I" ∈ WA := List.mem_filter.mpr ⟨List.mem_of_getElem? (i := 116) (by decide +kernel), by decide +kernel⟩
theorem mw117 : Cond.fieldLink RX2 17 "ShapeBetween$Easing" "shares" "[I" ∈ WA := List.mem_filter.mpr ⟨List.mem_of_getElem? (i := 117) (by decide +kernel), by decide +kernel⟩
theorem mw125 : Cond.classLink RX8 39 RX1 ∈ WA := List.mem_filter.mpr ⟨List.mem_of_getElem? (i := 125) (by decide +kernel), by decide +kernel⟩
theorem mw126 : Cond.instantiable RX1 7 ∈ WA := List.mem_filter.mpr ⟨List.mem_of_getElem? (i := 126) (by decide +kernel), by decide +kernel⟩
theorem mw127 : Cond.methodLink RX8 41 yX1_init ∈ WA := List.mem_filter.mpr ⟨List.mem_of_getElem? (i := 127) (by decide +kernel), by decide +kernel⟩
theorem mw128 : Cond.instanceMethod yX1_init ∈ WA := List.mem_filter.mpr ⟨List.mem_of_getElem? (i := 128) (by decide +kernel), by decide +kernel⟩
theorem mw129 : Cond.code yX1_init cX1_init 3 none ∈ WA := List.mem_filter.mpr ⟨List.mem_of_getElem? (i := 129) (by decide +kernel), by decide +kernel⟩
theorem mw130 : Cond.methodLink RX1 3 objectInit ∈ WA := List.mem_filter.mpr ⟨List.mem_of_getElem? (i := 130) (by decide +kernel), by decide +kernel⟩
theorem mw131 : Cond.constant RX1 9 (-1000000) ∈ WA := List.mem_filter.mpr ⟨List.mem_of_getElem? (i := 131) (by decide +kernel), by decide +kernel⟩
theorem mw132 : Cond.fieldLink RX1 29 "ShapeBetween$Between" "marks" "LShapeBetween$Marks;" ∈ WA := List.mem_filter.mpr ⟨List.mem_of_getElem? (i := 132) (by decide +kernel), by decide +kernel⟩
theorem mw133 : Cond.fieldLink RX1 33 "ShapeBetween$Between" "thirds" "LShapeBetween$Thirds;" ∈ WA := List.mem_filter.mpr ⟨List.mem_of_getElem? (i := 133) (by decide +kernel), by decide +kernel⟩
theorem mw134 : Cond.fieldLink RX1 10 "ShapeBetween$Between" "third" "I" ∈ WA := List.mem_filter.mpr ⟨List.mem_of_getElem? (i := 134) (by decide +kernel), by decide +kernel⟩
theorem mw135 : Cond.fieldLink RX1 16 "ShapeBetween$Between" "area" "J" ∈ WA := List.mem_filter.mpr ⟨List.mem_of_getElem? (i := 135) (by decide +kernel), by decide +kernel⟩
theorem mw136 : Cond.fieldLink RX1 20 "ShapeBetween$Between" "shareA" "J" ∈ WA := List.mem_filter.mpr ⟨List.mem_of_getElem? (i := 136) (by decide +kernel), by decide +kernel⟩
theorem mw137 : Cond.fieldLink RX1 23 "ShapeBetween$Between" "shareB" "J" ∈ WA := List.mem_filter.mpr ⟨List.mem_of_getElem? (i := 137) (by decide +kernel), by decide +kernel⟩
theorem mw138 : Cond.fieldLink RX1 26 "ShapeBetween$Between" "shareC" "J" ∈ WA := List.mem_filter.mpr ⟨List.mem_of_getElem? (i := 138) (by decide +kernel), by decide +kernel⟩
theorem mw154 : Cond.classLink RX8 48 RX5 ∈ WA := List.mem_filter.mpr ⟨List.mem_of_getElem? (i := 154) (by decide +kernel), by decide +kernel⟩
theorem mw155 : Cond.instantiable RX5 3 ∈ WA := List.mem_filter.mpr ⟨List.mem_of_getElem? (i := 155) (by decide +kernel), by decide +kernel⟩
theorem mw157 : Cond.instanceMethod yX5_init ∈ WA := List.mem_filter.mpr ⟨List.mem_of_getElem? (i := 157) (by decide +kernel), by decide +kernel⟩
theorem mw158 : Cond.code yX5_init cX5_init 1 none ∈ WA := List.mem_filter.mpr ⟨List.mem_of_getElem? (i := 158) (by decide +kernel), by decide +kernel⟩
theorem mw159 : Cond.methodLink RX5 5 objectInit ∈ WA := List.mem_filter.mpr ⟨List.mem_of_getElem? (i := 159) (by decide +kernel), by decide +kernel⟩
theorem mw160 : Cond.fieldLink RX5 11 "ShapeBetween$Pictures" "wide" "[I" ∈ WA := List.mem_filter.mpr ⟨List.mem_of_getElem? (i := 160) (by decide +kernel), by decide +kernel⟩
theorem mw161 : Cond.fieldLink RX5 15 "ShapeBetween$Pictures" "high" "[I" ∈ WA := List.mem_filter.mpr ⟨List.mem_of_getElem? (i := 161) (by decide +kernel), by decide +kernel⟩
theorem mw162 : Cond.fieldLink RX5 18 "ShapeBetween$Pictures" "numbers" "[I" ∈ WA := List.mem_filter.mpr ⟨List.mem_of_getElem? (i := 162) (by decide +kernel), by decide +kernel⟩
theorem mw170 : Cond.classLink RX8 55 RX4 ∈ WA := List.mem_filter.mpr ⟨List.mem_of_getElem? (i := 170) (by decide +kernel), by decide +kernel⟩
theorem mw171 : Cond.instantiable RX4 9 ∈ WA := List.mem_filter.mpr ⟨List.mem_of_getElem? (i := 171) (by decide +kernel), by decide +kernel⟩
theorem mw172 : Cond.methodLink RX8 57 yX4_init ∈ WA := List.mem_filter.mpr ⟨List.mem_of_getElem? (i := 172) (by decide +kernel), by decide +kernel⟩
theorem mw173 : Cond.instanceMethod yX4_init ∈ WA := List.mem_filter.mpr ⟨List.mem_of_getElem? (i := 173) (by decide +kernel), by decide +kernel⟩
theorem mw174 : Cond.code yX4_init cX4_init 2 none ∈ WA := List.mem_filter.mpr ⟨List.mem_of_getElem? (i := 174) (by decide +kernel), by decide +kernel⟩
theorem mw175 : Cond.methodLink RX4 5 objectInit ∈ WA := List.mem_filter.mpr ⟨List.mem_of_getElem? (i := 175) (by decide +kernel), by decide +kernel⟩
theorem mw176 : Cond.fieldLink RX4 37 "ShapeBetween$Pairing" "sheets" "LShapeBetween$Sheets;" ∈ WA := List.mem_filter.mpr ⟨List.mem_of_getElem? (i := 176) (by decide +kernel), by decide +kernel⟩
theorem mw177 : Cond.fieldLink RX4 11 "ShapeBetween$Pairing" "rowA" "I" ∈ WA := List.mem_filter.mpr ⟨List.mem_of_getElem? (i := 177) (by decide +kernel), by decide +kernel⟩
theorem mw178 : Cond.fieldLink RX4 15 "ShapeBetween$Pairing" "rowB" "I" ∈ WA := List.mem_filter.mpr ⟨List.mem_of_getElem? (i := 178) (by decide +kernel), by decide +kernel⟩
theorem mw179 : Cond.fieldLink RX4 18 "ShapeBetween$Pairing" "pointsA" "I" ∈ WA := List.mem_filter.mpr ⟨List.mem_of_getElem? (i := 179) (by decide +kernel), by decide +kernel⟩
theorem mw180 : Cond.fieldLink RX4 21 "ShapeBetween$Pairing" "pointsB" "I" ∈ WA := List.mem_filter.mpr ⟨List.mem_of_getElem? (i := 180) (by decide +kernel), by decide +kernel⟩
theorem mw181 : Cond.fieldLink RX4 24 "ShapeBetween$Pairing" "costs" "[I" ∈ WA := List.mem_filter.mpr ⟨List.mem_of_getElem? (i := 181) (by decide +kernel), by decide +kernel⟩
theorem mw182 : Cond.fieldLink RX4 28 "ShapeBetween$Pairing" "metA" "[I" ∈ WA := List.mem_filter.mpr ⟨List.mem_of_getElem? (i := 182) (by decide +kernel), by decide +kernel⟩
theorem mw183 : Cond.fieldLink RX4 31 "ShapeBetween$Pairing" "metB" "[I" ∈ WA := List.mem_filter.mpr ⟨List.mem_of_getElem? (i := 183) (by decide +kernel), by decide +kernel⟩
theorem mw184 : Cond.fieldLink RX4 34 "ShapeBetween$Pairing" "many" "I" ∈ WA := List.mem_filter.mpr ⟨List.mem_of_getElem? (i := 184) (by decide +kernel), by decide +kernel⟩
theorem mw204 : Cond.classLink RX8 64 RX0 ∈ WA := List.mem_filter.mpr ⟨List.mem_of_getElem? (i := 204) (by decide +kernel), by decide +kernel⟩
theorem mw205 : Cond.instantiable RX0 3 ∈ WA := List.mem_filter.mpr ⟨List.mem_of_getElem? (i := 205) (by decide +kernel), by decide +kernel⟩
theorem mw206 : Cond.methodLink RX8 66 yX0_init ∈ WA := List.mem_filter.mpr ⟨List.mem_of_getElem? (i := 206) (by decide +kernel), by decide +kernel⟩
theorem mw207 : Cond.instanceMethod yX0_init ∈ WA := List.mem_filter.mpr ⟨List.mem_of_getElem? (i := 207) (by decide +kernel), by decide +kernel⟩
theorem mw208 : Cond.code yX0_init cX0_init 2 none ∈ WA := List.mem_filter.mpr ⟨List.mem_of_getElem? (i := 208) (by decide +kernel), by decide +kernel⟩
theorem mw209 : Cond.methodLink RX0 3 objectInit ∈ WA := List.mem_filter.mpr ⟨List.mem_of_getElem? (i := 209) (by decide +kernel), by decide +kernel⟩
theorem mw210 : Cond.fieldLink RX0 19 "ShapeBetween$Asks" "thirds" "LShapeBetween$Thirds;" ∈ WA := List.mem_filter.mpr ⟨List.mem_of_getElem? (i := 210) (by decide +kernel), by decide +kernel⟩
theorem mw211 : Cond.fieldLink RX0 11 "ShapeBetween$Asks" "numbers" "[I" ∈ WA := List.mem_filter.mpr ⟨List.mem_of_getElem? (i := 211) (by decide +kernel), by decide +kernel⟩
theorem mw212 : Cond.fieldLink RX0 15 "ShapeBetween$Asks" "many" "I" ∈ WA := List.mem_filter.mpr ⟨List.mem_of_getElem? (i := 212) (by decide +kernel), by decide +kernel⟩
theorem mw220 : Cond.fieldLink RX8 10 "ShapeBetween" "sheets" "LShapeBetween$Sheets;" ∈ WA := List.mem_filter.mpr ⟨List.mem_of_getElem? (i := 220) (by decide +kernel), by decide +kernel⟩
theorem mw221 : Cond.fieldLink RX8 19 "ShapeBetween" "marks" "LShapeBetween$Marks;" ∈ WA := List.mem_filter.mpr ⟨List.mem_of_getElem? (i := 221) (by decide +kernel), by decide +kernel⟩
theorem mw222 : Cond.fieldLink RX8 28 "ShapeBetween" "thirds" "LShapeBetween$Thirds;" ∈ WA := List.mem_filter.mpr ⟨List.mem_of_getElem? (i := 222) (by decide +kernel), by decide +kernel⟩
theorem mw223 : Cond.fieldLink RX8 35 "ShapeBetween" "easing" "LShapeBetween$Easing;" ∈ WA := List.mem_filter.mpr ⟨List.mem_of_getElem? (i := 223) (by decide +kernel), by decide +kernel⟩
theorem mw224 : Cond.fieldLink RX8 44 "ShapeBetween" "between" "LShapeBetween$Between;" ∈ WA := List.mem_filter.mpr ⟨List.mem_of_getElem? (i := 224) (by decide +kernel), by decide +kernel⟩
theorem mw225 : Cond.fieldLink RX8 51 "ShapeBetween" "pictures" "LShapeBetween$Pictures;" ∈ WA := List.mem_filter.mpr ⟨List.mem_of_getElem? (i := 225) (by decide +kernel), by decide +kernel⟩
theorem mw226 : Cond.fieldLink RX8 60 "ShapeBetween" "pairing" "LShapeBetween$Pairing;" ∈ WA := List.mem_filter.mpr ⟨List.mem_of_getElem? (i := 226) (by decide +kernel), by decide +kernel⟩
theorem mw227 : Cond.fieldLink RX8 69 "ShapeBetween" "asks" "LShapeBetween$Asks;" ∈ WA := List.mem_filter.mpr ⟨List.mem_of_getElem? (i := 227) (by decide +kernel), by decide +kernel⟩
theorem mw228 : Cond.fieldLink RX8 73 "ShapeBetween" "finding" "I" ∈ WA := List.mem_filter.mpr ⟨List.mem_of_getElem? (i := 228) (by decide +kernel), by decide +kernel⟩
theorem mw248 : Cond.methodLink RL 13 yX8_sheet ∈ WA := List.mem_filter.mpr ⟨List.mem_of_getElem? (i := 248) (by decide +kernel), by decide +kernel⟩
theorem mw249 : Cond.instanceMethod yX8_sheet ∈ WA := List.mem_filter.mpr ⟨List.mem_of_getElem? (i := 249) (by decide +kernel), by decide +kernel⟩
theorem mw250 : Cond.selects RX8 yX8_sheet yX8_sheet ∈ WA := List.mem_filter.mpr ⟨List.mem_of_getElem? (i := 250) (by decide +kernel), by decide +kernel⟩
theorem mw251 : Cond.code yX8_sheet cX8_sheet 4 (some .int) ∈ WA := List.mem_filter.mpr ⟨List.mem_of_getElem? (i := 251) (by decide +kernel), by decide +kernel⟩
theorem mw252 : Cond.methodLink RX8 77 yX6_isSheet ∈ WA := List.mem_filter.mpr ⟨List.mem_of_getElem? (i := 252) (by decide +kernel), by decide +kernel⟩
theorem mw253 : Cond.static yX6_isSheet ∈ WA := List.mem_filter.mpr ⟨List.mem_of_getElem? (i := 253) (by decide +kernel), by decide +kernel⟩
theorem mw254 : Cond.code yX6_isSheet cX6_isSheet 1 (some .boolean) ∈ WA := List.mem_filter.mpr ⟨List.mem_of_getElem? (i := 254) (by decide +kernel), by decide +kernel⟩
theorem mw256 : Cond.static yX8_isWithin ∈ WA := List.mem_filter.mpr ⟨List.mem_of_getElem? (i := 256) (by decide +kernel), by decide +kernel⟩
theorem mw257 : Cond.code yX8_isWithin cX8_isWithin 3 (some .boolean) ∈ WA := List.mem_filter.mpr ⟨List.mem_of_getElem? (i := 257) (by decide +kernel), by decide +kernel⟩
theorem mw258 : Cond.methodLink RX8 81 yX6_isLane ∈ WA := List.mem_filter.mpr ⟨List.mem_of_getElem? (i := 258) (by decide +kernel), by decide +kernel⟩
theorem mw259 : Cond.static yX6_isLane ∈ WA := List.mem_filter.mpr ⟨List.mem_of_getElem? (i := 259) (by decide +kernel), by decide +kernel⟩
theorem mw260 : Cond.code yX6_isLane cX6_isLane 1 (some .boolean) ∈ WA := List.mem_filter.mpr ⟨List.mem_of_getElem? (i := 260) (by decide +kernel), by decide +kernel⟩
theorem mw261 : Cond.constant RX8 84 (-1000001) ∈ WA := List.mem_filter.mpr ⟨List.mem_of_getElem? (i := 261) (by decide +kernel), by decide +kernel⟩
theorem mw262 : Cond.methodLink RX8 85 yX8_found ∈ WA := List.mem_filter.mpr ⟨List.mem_of_getElem? (i := 262) (by decide +kernel), by decide +kernel⟩
theorem mw264 : Cond.instanceMethod yX8_found ∈ WA := List.mem_filter.mpr ⟨List.mem_of_getElem? (i := 264) (by decide +kernel), by decide +kernel⟩
theorem mw265 : Cond.code yX8_found cX8_found 2 (some .int) ∈ WA := List.mem_filter.mpr ⟨List.mem_of_getElem? (i := 265) (by decide +kernel), by decide +kernel⟩
theorem mw266 : Cond.constant RX8 261 (-1000010) ∈ WA := List.mem_filter.mpr ⟨List.mem_of_getElem? (i := 266) (by decide +kernel), by decide +kernel⟩
theorem mw267 : Cond.methodLink RX8 89 yX6_lay ∈ WA := List.mem_filter.mpr ⟨List.mem_of_getElem? (i := 267) (by decide +kernel), by decide +kernel⟩
theorem mw268 : Cond.instanceMethod yX6_lay ∈ WA := List.mem_filter.mpr ⟨List.mem_of_getElem? (i := 268) (by decide +kernel), by decide +kernel⟩
theorem mw269 : Cond.selects RX6 yX6_lay yX6_lay ∈ WA := List.mem_filter.mpr ⟨List.mem_of_getElem? (i := 269) (by decide +kernel), by decide +kernel⟩
theorem mw270 : Cond.code yX6_lay cX6_lay 5 none ∈ WA := List.mem_filter.mpr ⟨List.mem_of_getElem? (i := 270) (by decide +kernel), by decide +kernel⟩
theorem mw271 : Cond.methodLink RX8 93 yX8_answered ∈ WA := List.mem_filter.mpr ⟨List.mem_of_getElem? (i := 271) (by decide +kernel), by decide +kernel⟩
theorem mw273 : Cond.instanceMethod yX8_answered ∈ WA := List.mem_filter.mpr ⟨List.mem_of_getElem? (i := 273) (by decide +kernel), by decide +kernel⟩
theorem mw274 : Cond.code yX8_answered cX8_answered 2 (some .int) ∈ WA := List.mem_filter.mpr ⟨List.mem_of_getElem? (i := 274) (by decide +kernel), by decide +kernel⟩
theorem mw275 : Cond.methodLink RL 18 yX8_set ∈ WA := List.mem_filter.mpr ⟨List.mem_of_getElem? (i := 275) (by decide +kernel), by decide +kernel⟩
theorem mw276 : Cond.instanceMethod yX8_set ∈ WA := List.mem_filter.mpr ⟨List.mem_of_getElem? (i := 276) (by decide +kernel), by decide +kernel⟩
theorem mw277 : Cond.selects RX8 yX8_set yX8_set ∈ WA := List.mem_filter.mpr ⟨List.mem_of_getElem? (i := 277) (by decide +kernel), by decide +kernel⟩
theorem mw278 : Cond.code yX8_set cX8_set 4 (some .int) ∈ WA := List.mem_filter.mpr ⟨List.mem_of_getElem? (i := 278) (by decide +kernel), by decide +kernel⟩
theorem mw279 : Cond.methodLink RX8 96 yX6_isMissing ∈ WA := List.mem_filter.mpr ⟨List.mem_of_getElem? (i := 279) (by decide +kernel), by decide +kernel⟩
theorem mw280 : Cond.instanceMethod yX6_isMissing ∈ WA := List.mem_filter.mpr ⟨List.mem_of_getElem? (i := 280) (by decide +kernel), by decide +kernel⟩
theorem mw281 : Cond.selects RX6 yX6_isMissing yX6_isMissing ∈ WA := List.mem_filter.mpr ⟨List.mem_of_getElem? (i := 281) (by decide +kernel), by decide +kernel⟩
theorem mw282 : Cond.code yX6_isMissing cX6_isMissing 2 (some .boolean) ∈ WA := List.mem_filter.mpr ⟨List.mem_of_getElem? (i := 282) (by decide +kernel), by decide +kernel⟩
theorem mw283 : Cond.methodLink RX8 99 yX6_hasItems ∈ WA := List.mem_filter.mpr ⟨List.mem_of_getElem? (i := 283) (by decide +kernel), by decide +kernel⟩
theorem mw284 : Cond.instanceMethod yX6_hasItems ∈ WA := List.mem_filter.mpr ⟨List.mem_of_getElem? (i := 284) (by decide +kernel), by decide +kernel⟩
theorem mw285 : Cond.selects RX6 yX6_hasItems yX6_hasItems ∈ WA := List.mem_filter.mpr ⟨List.mem_of_getElem? (i := 285) (by decide +kernel), by decide +kernel⟩
theorem mw286 : Cond.code yX6_hasItems cX6_hasItems 4 (some .boolean) ∈ WA := List.mem_filter.mpr ⟨List.mem_of_getElem? (i := 286) (by decide +kernel), by decide +kernel⟩
theorem mw287 : Cond.methodLink RX8 103 yX6_put ∈ WA := List.mem_filter.mpr ⟨List.mem_of_getElem? (i := 287) (by decide +kernel), by decide +kernel⟩
theorem mw288 : Cond.instanceMethod yX6_put ∈ WA := List.mem_filter.mpr ⟨List.mem_of_getElem? (i := 288) (by decide +kernel), by decide +kernel⟩
theorem mw289 : Cond.selects RX6 yX6_put yX6_put ∈ WA := List.mem_filter.mpr ⟨List.mem_of_getElem? (i := 289) (by decide +kernel), by decide +kernel⟩
theorem mw290 : Cond.code yX6_put cX6_put 4 none ∈ WA := List.mem_filter.mpr ⟨List.mem_of_getElem? (i := 290) (by decide +kernel), by decide +kernel⟩
theorem mw291 : Cond.methodLink RX6 29 yX6_cutToLane ∈ WA := List.mem_filter.mpr ⟨List.mem_of_getElem? (i := 291) (by decide +kernel), by decide +kernel⟩
theorem mw292 : Cond.static yX6_cutToLane ∈ WA := List.mem_filter.mpr ⟨List.mem_of_getElem? (i := 292) (by decide +kernel), by decide +kernel⟩
theorem mw293 : Cond.code yX6_cutToLane cX6_cutToLane 2 (some .int) ∈ WA := List.mem_filter.mpr ⟨List.mem_of_getElem? (i := 293) (by decide +kernel), by decide +kernel⟩
theorem mw294 : Cond.methodLink RX8 106 yX6_item ∈ WA := List.mem_filter.mpr ⟨List.mem_of_getElem? (i := 294) (by decide +kernel), by decide +kernel⟩
theorem mw295 : Cond.instanceMethod yX6_item ∈ WA := List.mem_filter.mpr ⟨List.mem_of_getElem? (i := 295) (by decide +kernel), by decide +kernel⟩
theorem mw296 : Cond.selects RX6 yX6_item yX6_item ∈ WA := List.mem_filter.mpr ⟨List.mem_of_getElem? (i := 296) (by decide +kernel), by decide +kernel⟩
theorem mw297 : Cond.code yX6_item cX6_item 3 (some .int) ∈ WA := List.mem_filter.mpr ⟨List.mem_of_getElem? (i := 297) (by decide +kernel), by decide +kernel⟩
theorem mw298 : Cond.methodLink RL 22 yX8_copy ∈ WA := List.mem_filter.mpr ⟨List.mem_of_getElem? (i := 298) (by decide +kernel), by decide +kernel⟩
theorem mw299 : Cond.instanceMethod yX8_copy ∈ WA := List.mem_filter.mpr ⟨List.mem_of_getElem? (i := 299) (by decide +kernel), by decide +kernel⟩
theorem mw300 : Cond.selects RX8 yX8_copy yX8_copy ∈ WA := List.mem_filter.mpr ⟨List.mem_of_getElem? (i := 300) (by decide +kernel), by decide +kernel⟩
theorem mw301 : Cond.code yX8_copy cX8_copy 6 (some .int) ∈ WA := List.mem_filter.mpr ⟨List.mem_of_getElem? (i := 301) (by decide +kernel), by decide +kernel⟩
theorem mw302 : Cond.methodLink RX8 110 yX6_laneOf ∈ WA := List.mem_filter.mpr ⟨List.mem_of_getElem? (i := 302) (by decide +kernel), by decide +kernel⟩
theorem mw303 : Cond.instanceMethod yX6_laneOf ∈ WA := List.mem_filter.mpr ⟨List.mem_of_getElem? (i := 303) (by decide +kernel), by decide +kernel⟩
theorem mw304 : Cond.selects RX6 yX6_laneOf yX6_laneOf ∈ WA := List.mem_filter.mpr ⟨List.mem_of_getElem? (i := 304) (by decide +kernel), by decide +kernel⟩
theorem mw305 : Cond.code yX6_laneOf cX6_laneOf 2 (some .int) ∈ WA := List.mem_filter.mpr ⟨List.mem_of_getElem? (i := 305) (by decide +kernel), by decide +kernel⟩
theorem mw306 : Cond.methodLink RX8 113 yX6_carry ∈ WA := List.mem_filter.mpr ⟨List.mem_of_getElem? (i := 306) (by decide +kernel), by decide +kernel⟩
theorem mw307 : Cond.instanceMethod yX6_carry ∈ WA := List.mem_filter.mpr ⟨List.mem_of_getElem? (i := 307) (by decide +kernel), by decide +kernel⟩
theorem mw308 : Cond.selects RX6 yX6_carry yX6_carry ∈ WA := List.mem_filter.mpr ⟨List.mem_of_getElem? (i := 308) (by decide +kernel), by decide +kernel⟩
theorem mw309 : Cond.code yX6_carry cX6_carry 6 none ∈ WA := List.mem_filter.mpr ⟨List.mem_of_getElem? (i := 309) (by decide +kernel), by decide +kernel⟩
theorem mw310 : Cond.methodLink RX6 32 arraycopyName ∈ WA := List.mem_filter.mpr ⟨List.mem_of_getElem? (i := 310) (by decide +kernel), by decide +kernel⟩
theorem mw311 : Cond.static arraycopyName ∈ WA := List.mem_filter.mpr ⟨List.mem_of_getElem? (i := 311) (by decide +kernel), by decide +kernel⟩
theorem mw312 : Cond.native arraycopyName ∈ WA := List.mem_filter.mpr ⟨List.mem_of_getElem? (i := 312) (by decide +kernel), by decide +kernel⟩
theorem mw313 : Cond.methodLink RL 27 yX8_drop ∈ WA := List.mem_filter.mpr ⟨List.mem_of_getElem? (i := 313) (by decide +kernel), by decide +kernel⟩
theorem mw314 : Cond.instanceMethod yX8_drop ∈ WA := List.mem_filter.mpr ⟨List.mem_of_getElem? (i := 314) (by decide +kernel), by decide +kernel⟩
theorem mw315 : Cond.selects RX8 yX8_drop yX8_drop ∈ WA := List.mem_filter.mpr ⟨List.mem_of_getElem? (i := 315) (by decide +kernel), by decide +kernel⟩
theorem mw316 : Cond.code yX8_drop cX8_drop 2 (some .int) ∈ WA := List.mem_filter.mpr ⟨List.mem_of_getElem? (i := 316) (by decide +kernel), by decide +kernel⟩
theorem mw317 : Cond.methodLink RX8 117 yX6_takeAway ∈ WA := List.mem_filter.mpr ⟨List.mem_of_getElem? (i := 317) (by decide +kernel), by decide +kernel⟩
theorem mw318 : Cond.instanceMethod yX6_takeAway ∈ WA := List.mem_filter.mpr ⟨List.mem_of_getElem? (i := 318) (by decide +kernel), by decide +kernel⟩
theorem mw319 : Cond.selects RX6 yX6_takeAway yX6_takeAway ∈ WA := List.mem_filter.mpr ⟨List.mem_of_getElem? (i := 319) (by decide +kernel), by decide +kernel⟩
theorem mw320 : Cond.code yX6_takeAway cX6_takeAway 3 (some .int) ∈ WA := List.mem_filter.mpr ⟨List.mem_of_getElem? (i := 320) (by decide +kernel), by decide +kernel⟩
theorem mw321 : Cond.methodLink RL 32 yX8_mark ∈ WA := List.mem_filter.mpr ⟨List.mem_of_getElem? (i := 321) (by decide +kernel), by decide +kernel⟩
theorem mw322 : Cond.instanceMethod yX8_mark ∈ WA := List.mem_filter.mpr ⟨List.mem_of_getElem? (i := 322) (by decide +kernel), by decide +kernel⟩
theorem mw323 : Cond.selects RX8 yX8_mark yX8_mark ∈ WA := List.mem_filter.mpr ⟨List.mem_of_getElem? (i := 323) (by decide +kernel), by decide +kernel⟩
theorem mw324 : Cond.code yX8_mark cX8_mark 5 (some .int) ∈ WA := List.mem_filter.mpr ⟨List.mem_of_getElem? (i := 324) (by decide +kernel), by decide +kernel⟩
theorem mw325 : Cond.methodLink RX8 120 yX8_isPlace ∈ WA := List.mem_filter.mpr ⟨List.mem_of_getElem? (i := 325) (by decide +kernel), by decide +kernel⟩
theorem mw326 : Cond.static yX8_isPlace ∈ WA := List.mem_filter.mpr ⟨List.mem_of_getElem? (i := 326) (by decide +kernel), by decide +kernel⟩
theorem mw327 : Cond.code yX8_isPlace cX8_isPlace 2 (some .boolean) ∈ WA := List.mem_filter.mpr ⟨List.mem_of_getElem? (i := 327) (by decide +kernel), by decide +kernel⟩
theorem mw328 : Cond.methodLink RX8 145 yX8_isWithin ∈ WA := List.mem_filter.mpr ⟨List.mem_of_getElem? (i := 328) (by decide +kernel), by decide +kernel⟩
theorem mw329 : Cond.methodLink RX8 124 yX3_isFull ∈ WA := List.mem_filter.mpr ⟨List.mem_of_getElem? (i := 329) (by decide +kernel), by decide +kernel⟩
theorem mw330 : Cond.instanceMethod yX3_isFull ∈ WA := List.mem_filter.mpr ⟨List.mem_of_getElem? (i := 330) (by decide +kernel), by decide +kernel⟩
theorem mw331 : Cond.selects RX3 yX3_isFull yX3_isFull ∈ WA := List.mem_filter.mpr ⟨List.mem_of_getElem? (i := 331) (by decide +kernel), by decide +kernel⟩
theorem mw332 : Cond.code yX3_isFull cX3_isFull 1 (some .boolean) ∈ WA := List.mem_filter.mpr ⟨List.mem_of_getElem? (i := 332) (by decide +kernel), by decide +kernel⟩
theorem mw333 : Cond.constant RX8 128 (-1000003) ∈ WA := List.mem_filter.mpr ⟨List.mem_of_getElem? (i := 333) (by decide +kernel), by decide +kernel⟩
theorem mw334 : Cond.methodLink RX8 129 yX3_add ∈ WA := List.mem_filter.mpr ⟨List.mem_of_getElem? (i := 334) (by decide +kernel), by decide +kernel⟩
theorem mw335 : Cond.instanceMethod yX3_add ∈ WA := List.mem_filter.mpr ⟨List.mem_of_getElem? (i := 335) (by decide +kernel), by decide +kernel⟩
theorem mw336 : Cond.selects RX3 yX3_add yX3_add ∈ WA := List.mem_filter.mpr ⟨List.mem_of_getElem? (i := 336) (by decide +kernel), by decide +kernel⟩
theorem mw337 : Cond.code yX3_add cX3_add 6 (some .int) ∈ WA := List.mem_filter.mpr ⟨List.mem_of_getElem? (i := 337) (by decide +kernel), by decide +kernel⟩
theorem mw338 : Cond.methodLink RX3 20 yX3_put ∈ WA := List.mem_filter.mpr ⟨List.mem_of_getElem? (i := 338) (by decide +kernel), by decide +kernel⟩
theorem mw339 : Cond.instanceMethod yX3_put ∈ WA := List.mem_filter.mpr ⟨List.mem_of_getElem? (i := 339) (by decide +kernel), by decide +kernel⟩
theorem mw340 : Cond.selects RX3 yX3_put yX3_put ∈ WA := List.mem_filter.mpr ⟨List.mem_of_getElem? (i := 340) (by decide +kernel), by decide +kernel⟩
theorem mw341 : Cond.code yX3_put cX3_put 5 none ∈ WA := List.mem_filter.mpr ⟨List.mem_of_getElem? (i := 341) (by decide +kernel), by decide +kernel⟩
theorem mw342 : Cond.methodLink RL 37 yX8_move ∈ WA := List.mem_filter.mpr ⟨List.mem_of_getElem? (i := 342) (by decide +kernel), by decide +kernel⟩
theorem mw343 : Cond.instanceMethod yX8_move ∈ WA := List.mem_filter.mpr ⟨List.mem_of_getElem? (i := 343) (by decide +kernel), by decide +kernel⟩
theorem mw344 : Cond.selects RX8 yX8_move yX8_move ∈ WA := List.mem_filter.mpr ⟨List.mem_of_getElem? (i := 344) (by decide +kernel), by decide +kernel⟩
theorem mw345 : Cond.code yX8_move cX8_move 5 (some .int) ∈ WA := List.mem_filter.mpr ⟨List.mem_of_getElem? (i := 345) (by decide +kernel), by decide +kernel⟩
theorem mw346 : Cond.methodLink RX8 133 yX3_isMark ∈ WA := List.mem_filter.mpr ⟨List.mem_of_getElem? (i := 346) (by decide +kernel), by decide +kernel⟩
theorem mw347 : Cond.instanceMethod yX3_isMark ∈ WA := List.mem_filter.mpr ⟨List.mem_of_getElem? (i := 347) (by decide +kernel), by decide +kernel⟩
theorem mw348 : Cond.selects RX3 yX3_isMark yX3_isMark ∈ WA := List.mem_filter.mpr ⟨List.mem_of_getElem? (i := 348) (by decide +kernel), by decide +kernel⟩
theorem mw349 : Cond.code yX3_isMark cX3_isMark 2 (some .boolean) ∈ WA := List.mem_filter.mpr ⟨List.mem_of_getElem? (i := 349) (by decide +kernel), by decide +kernel⟩
theorem mw350 : Cond.methodLink RX8 136 yX8_isPicture ∈ WA := List.mem_filter.mpr ⟨List.mem_of_getElem? (i := 350) (by decide +kernel), by decide +kernel⟩
theorem mw351 : Cond.static yX8_isPicture ∈ WA := List.mem_filter.mpr ⟨List.mem_of_getElem? (i := 351) (by decide +kernel), by decide +kernel⟩
theorem mw352 : Cond.code yX8_isPicture cX8_isPicture 1 (some .boolean) ∈ WA := List.mem_filter.mpr ⟨List.mem_of_getElem? (i := 352) (by decide +kernel), by decide +kernel⟩
theorem mw353 : Cond.methodLink RX8 139 yX3_put ∈ WA := List.mem_filter.mpr ⟨List.mem_of_getElem? (i := 353) (by decide +kernel), by decide +kernel⟩
theorem mw354 : Cond.methodLink RL 41 yX8_at ∈ WA := List.mem_filter.mpr ⟨List.mem_of_getElem? (i := 354) (by decide +kernel), by decide +kernel⟩
theorem mw355 : Cond.instanceMethod yX8_at ∈ WA := List.mem_filter.mpr ⟨List.mem_of_getElem? (i := 355) (by decide +kernel), by decide +kernel⟩
theorem mw356 : Cond.selects RX8 yX8_at yX8_at ∈ WA := List.mem_filter.mpr ⟨List.mem_of_getElem? (i := 356) (by decide +kernel), by decide +kernel⟩
theorem mw357 : Cond.code yX8_at cX8_at 5 (some .int) ∈ WA := List.mem_filter.mpr ⟨List.mem_of_getElem? (i := 357) (by decide +kernel), by decide +kernel⟩
theorem mw358 : Cond.methodLink RX8 142 yX8_isTick ∈ WA := List.mem_filter.mpr ⟨List.mem_of_getElem? (i := 358) (by decide +kernel), by decide +kernel⟩
theorem mw359 : Cond.static yX8_isTick ∈ WA := List.mem_filter.mpr ⟨List.mem_of_getElem? (i := 359) (by decide +kernel), by decide +kernel⟩
theorem mw360 : Cond.code yX8_isTick cX8_isTick 2 (some .boolean) ∈ WA := List.mem_filter.mpr ⟨List.mem_of_getElem? (i := 360) (by decide +kernel), by decide +kernel⟩
theorem mw361 : Cond.methodLink RX8 171 yX8_isTicks ∈ WA := List.mem_filter.mpr ⟨List.mem_of_getElem? (i := 361) (by decide +kernel), by decide +kernel⟩
theorem mw362 : Cond.static yX8_isTicks ∈ WA := List.mem_filter.mpr ⟨List.mem_of_getElem? (i := 362) (by decide +kernel), by decide +kernel⟩
theorem mw363 : Cond.code yX8_isTicks cX8_isTicks 1 (some .boolean) ∈ WA := List.mem_filter.mpr ⟨List.mem_of_getElem? (i := 363) (by decide +kernel), by decide +kernel⟩
theorem mw364 : Cond.methodLink RX8 148 yX3_tickX ∈ WA := List.mem_filter.mpr ⟨List.mem_of_getElem? (i := 364) (by decide +kernel), by decide +kernel⟩
theorem mw365 : Cond.instanceMethod yX3_tickX ∈ WA := List.mem_filter.mpr ⟨List.mem_of_getElem? (i := 365) (by decide +kernel), by decide +kernel⟩
theorem mw366 : Cond.selects RX3 yX3_tickX yX3_tickX ∈ WA := List.mem_filter.mpr ⟨List.mem_of_getElem? (i := 366) (by decide +kernel), by decide +kernel⟩
theorem mw367 : Cond.code yX3_tickX cX3_tickX 4 (some .int) ∈ WA := List.mem_filter.mpr ⟨List.mem_of_getElem? (i := 367) (by decide +kernel), by decide +kernel⟩
theorem mw368 : Cond.methodLink RX3 24 yX3_x ∈ WA := List.mem_filter.mpr ⟨List.mem_of_getElem? (i := 368) (by decide +kernel), by decide +kernel⟩
theorem mw369 : Cond.instanceMethod yX3_x ∈ WA := List.mem_filter.mpr ⟨List.mem_of_getElem? (i := 369) (by decide +kernel), by decide +kernel⟩
theorem mw370 : Cond.selects RX3 yX3_x yX3_x ∈ WA := List.mem_filter.mpr ⟨List.mem_of_getElem? (i := 370) (by decide +kernel), by decide +kernel⟩
theorem mw371 : Cond.code yX3_x cX3_x 3 (some .int) ∈ WA := List.mem_filter.mpr ⟨List.mem_of_getElem? (i := 371) (by decide +kernel), by decide +kernel⟩
theorem mw372 : Cond.methodLink RX8 152 yX3_tickY ∈ WA := List.mem_filter.mpr ⟨List.mem_of_getElem? (i := 372) (by decide +kernel), by decide +kernel⟩
theorem mw373 : Cond.instanceMethod yX3_tickY ∈ WA := List.mem_filter.mpr ⟨List.mem_of_getElem? (i := 373) (by decide +kernel), by decide +kernel⟩
theorem mw374 : Cond.selects RX3 yX3_tickY yX3_tickY ∈ WA := List.mem_filter.mpr ⟨List.mem_of_getElem? (i := 374) (by decide +kernel), by decide +kernel⟩
theorem mw375 : Cond.code yX3_tickY cX3_tickY 4 (some .int) ∈ WA := List.mem_filter.mpr ⟨List.mem_of_getElem? (i := 375) (by decide +kernel), by decide +kernel⟩
theorem mw376 : Cond.methodLink RX3 28 yX3_y ∈ WA := List.mem_filter.mpr ⟨List.mem_of_getElem? (i := 376) (by decide +kernel), by decide +kernel⟩
theorem mw377 : Cond.instanceMethod yX3_y ∈ WA := List.mem_filter.mpr ⟨List.mem_of_getElem? (i := 377) (by decide +kernel), by decide +kernel⟩
theorem mw378 : Cond.selects RX3 yX3_y yX3_y ∈ WA := List.mem_filter.mpr ⟨List.mem_of_getElem? (i := 378) (by decide +kernel), by decide +kernel⟩
theorem mw379 : Cond.code yX3_y cX3_y 3 (some .int) ∈ WA := List.mem_filter.mpr ⟨List.mem_of_getElem? (i := 379) (by decide +kernel), by decide +kernel⟩
theorem mw380 : Cond.methodLink RL 45 yX8_third ∈ WA := List.mem_filter.mpr ⟨List.mem_of_getElem? (i := 380) (by decide +kernel), by decide +kernel⟩
theorem mw381 : Cond.instanceMethod yX8_third ∈ WA := List.mem_filter.mpr ⟨List.mem_of_getElem? (i := 381) (by decide +kernel), by decide +kernel⟩
theorem mw382 : Cond.selects RX8 yX8_third yX8_third ∈ WA := List.mem_filter.mpr ⟨List.mem_of_getElem? (i := 382) (by decide +kernel), by decide +kernel⟩
theorem mw383 : Cond.code yX8_third cX8_third 4 (some .int) ∈ WA := List.mem_filter.mpr ⟨List.mem_of_getElem? (i := 383) (by decide +kernel), by decide +kernel⟩
theorem mw384 : Cond.methodLink RX8 155 yX7_areJoined ∈ WA := List.mem_filter.mpr ⟨List.mem_of_getElem? (i := 384) (by decide +kernel), by decide +kernel⟩
theorem mw385 : Cond.instanceMethod yX7_areJoined ∈ WA := List.mem_filter.mpr ⟨List.mem_of_getElem? (i := 385) (by decide +kernel), by decide +kernel⟩
theorem mw386 : Cond.selects RX7 yX7_areJoined yX7_areJoined ∈ WA := List.mem_filter.mpr ⟨List.mem_of_getElem? (i := 386) (by decide +kernel), by decide +kernel⟩
theorem mw387 : Cond.code yX7_areJoined cX7_areJoined 5 (some .boolean) ∈ WA := List.mem_filter.mpr ⟨List.mem_of_getElem? (i := 387) (by decide +kernel), by decide +kernel⟩
theorem mw388 : Cond.methodLink RX7 27 yX7_touches ∈ WA := List.mem_filter.mpr ⟨List.mem_of_getElem? (i := 388) (by decide +kernel), by decide +kernel⟩
theorem mw389 : Cond.instanceMethod yX7_touches ∈ WA := List.mem_filter.mpr ⟨List.mem_of_getElem? (i := 389) (by decide +kernel), by decide +kernel⟩
theorem mw390 : Cond.selects RX7 yX7_touches yX7_touches ∈ WA := List.mem_filter.mpr ⟨List.mem_of_getElem? (i := 390) (by decide +kernel), by decide +kernel⟩
theorem mw391 : Cond.code yX7_touches cX7_touches 3 (some .boolean) ∈ WA := List.mem_filter.mpr ⟨List.mem_of_getElem? (i := 391) (by decide +kernel), by decide +kernel⟩
theorem mw392 : Cond.methodLink RX7 23 yX7_corner ∈ WA := List.mem_filter.mpr ⟨List.mem_of_getElem? (i := 392) (by decide +kernel), by decide +kernel⟩
theorem mw393 : Cond.instanceMethod yX7_corner ∈ WA := List.mem_filter.mpr ⟨List.mem_of_getElem? (i := 393) (by decide +kernel), by decide +kernel⟩
theorem mw394 : Cond.selects RX7 yX7_corner yX7_corner ∈ WA := List.mem_filter.mpr ⟨List.mem_of_getElem? (i := 394) (by decide +kernel), by decide +kernel⟩
theorem mw395 : Cond.code yX7_corner cX7_corner 3 (some .int) ∈ WA := List.mem_filter.mpr ⟨List.mem_of_getElem? (i := 395) (by decide +kernel), by decide +kernel⟩
theorem mw396 : Cond.constant RX8 158 (-1000002) ∈ WA := List.mem_filter.mpr ⟨List.mem_of_getElem? (i := 396) (by decide +kernel), by decide +kernel⟩
theorem mw397 : Cond.methodLink RX8 159 yX7_isFull ∈ WA := List.mem_filter.mpr ⟨List.mem_of_getElem? (i := 397) (by decide +kernel), by decide +kernel⟩
theorem mw398 : Cond.instanceMethod yX7_isFull ∈ WA := List.mem_filter.mpr ⟨List.mem_of_getElem? (i := 398) (by decide +kernel), by decide +kernel⟩
theorem mw399 : Cond.selects RX7 yX7_isFull yX7_isFull ∈ WA := List.mem_filter.mpr ⟨List.mem_of_getElem? (i := 399) (by decide +kernel), by decide +kernel⟩
theorem mw400 : Cond.code yX7_isFull cX7_isFull 1 (some .boolean) ∈ WA := List.mem_filter.mpr ⟨List.mem_of_getElem? (i := 400) (by decide +kernel), by decide +kernel⟩
theorem mw401 : Cond.methodLink RX8 160 yX7_add ∈ WA := List.mem_filter.mpr ⟨List.mem_of_getElem? (i := 401) (by decide +kernel), by decide +kernel⟩
theorem mw402 : Cond.instanceMethod yX7_add ∈ WA := List.mem_filter.mpr ⟨List.mem_of_getElem? (i := 402) (by decide +kernel), by decide +kernel⟩
theorem mw403 : Cond.selects RX7 yX7_add yX7_add ∈ WA := List.mem_filter.mpr ⟨List.mem_of_getElem? (i := 403) (by decide +kernel), by decide +kernel⟩
theorem mw404 : Cond.code yX7_add cX7_add 5 (some .int) ∈ WA := List.mem_filter.mpr ⟨List.mem_of_getElem? (i := 404) (by decide +kernel), by decide +kernel⟩
theorem mw405 : Cond.methodLink RL 49 yX8_told ∈ WA := List.mem_filter.mpr ⟨List.mem_of_getElem? (i := 405) (by decide +kernel), by decide +kernel⟩
theorem mw406 : Cond.instanceMethod yX8_told ∈ WA := List.mem_filter.mpr ⟨List.mem_of_getElem? (i := 406) (by decide +kernel), by decide +kernel⟩
theorem mw407 : Cond.selects RX8 yX8_told yX8_told ∈ WA := List.mem_filter.mpr ⟨List.mem_of_getElem? (i := 407) (by decide +kernel), by decide +kernel⟩
theorem mw408 : Cond.code yX8_told cX8_told 3 (some .int) ∈ WA := List.mem_filter.mpr ⟨List.mem_of_getElem? (i := 408) (by decide +kernel), by decide +kernel⟩
theorem mw409 : Cond.methodLink RX8 162 yX7_isThird ∈ WA := List.mem_filter.mpr ⟨List.mem_of_getElem? (i := 409) (by decide +kernel), by decide +kernel⟩
theorem mw410 : Cond.instanceMethod yX7_isThird ∈ WA := List.mem_filter.mpr ⟨List.mem_of_getElem? (i := 410) (by decide +kernel), by decide +kernel⟩
theorem mw411 : Cond.selects RX7 yX7_isThird yX7_isThird ∈ WA := List.mem_filter.mpr ⟨List.mem_of_getElem? (i := 411) (by decide +kernel), by decide +kernel⟩
theorem mw412 : Cond.code yX7_isThird cX7_isThird 2 (some .boolean) ∈ WA := List.mem_filter.mpr ⟨List.mem_of_getElem? (i := 412) (by decide +kernel), by decide +kernel⟩
theorem mw413 : Cond.methodLink RX8 165 yX7_corner ∈ WA := List.mem_filter.mpr ⟨List.mem_of_getElem? (i := 413) (by decide +kernel), by decide +kernel⟩
theorem mw414 : Cond.methodLink RX8 168 yX7_areaIn ∈ WA := List.mem_filter.mpr ⟨List.mem_of_getElem? (i := 414) (by decide +kernel), by decide +kernel⟩
theorem mw415 : Cond.instanceMethod yX7_areaIn ∈ WA := List.mem_filter.mpr ⟨List.mem_of_getElem? (i := 415) (by decide +kernel), by decide +kernel⟩
theorem mw416 : Cond.selects RX7 yX7_areaIn yX7_areaIn ∈ WA := List.mem_filter.mpr ⟨List.mem_of_getElem? (i := 416) (by decide +kernel), by decide +kernel⟩
theorem mw417 : Cond.code yX7_areaIn cX7_areaIn 6 (some .int) ∈ WA := List.mem_filter.mpr ⟨List.mem_of_getElem? (i := 417) (by decide +kernel), by decide +kernel⟩
theorem mw418 : Cond.methodLink RX7 44 yX3_x ∈ WA := List.mem_filter.mpr ⟨List.mem_of_getElem? (i := 418) (by decide +kernel), by decide +kernel⟩
theorem mw419 : Cond.methodLink RX7 47 yX3_y ∈ WA := List.mem_filter.mpr ⟨List.mem_of_getElem? (i := 419) (by decide +kernel), by decide +kernel⟩
theorem mw420 : Cond.methodLink RX7 40 yX3_area ∈ WA := List.mem_filter.mpr ⟨List.mem_of_getElem? (i := 420) (by decide +kernel), by decide +kernel⟩
theorem mw421 : Cond.static yX3_area ∈ WA := List.mem_filter.mpr ⟨List.mem_of_getElem? (i := 421) (by decide +kernel), by decide +kernel⟩
theorem mw422 : Cond.code yX3_area cX3_area 12 (some .long) ∈ WA := List.mem_filter.mpr ⟨List.mem_of_getElem? (i := 422) (by decide +kernel), by decide +kernel⟩
theorem mw423 : Cond.methodLink RL 54 yX8_folds ∈ WA := List.mem_filter.mpr ⟨List.mem_of_getElem? (i := 423) (by decide +kernel), by decide +kernel⟩
theorem mw424 : Cond.instanceMethod yX8_folds ∈ WA := List.mem_filter.mpr ⟨List.mem_of_getElem? (i := 424) (by decide +kernel), by decide +kernel⟩
theorem mw425 : Cond.selects RX8 yX8_folds yX8_folds ∈ WA := List.mem_filter.mpr ⟨List.mem_of_getElem? (i := 425) (by decide +kernel), by decide +kernel⟩
theorem mw426 : Cond.code yX8_folds cX8_folds 3 (some .int) ∈ WA := List.mem_filter.mpr ⟨List.mem_of_getElem? (i := 426) (by decide +kernel), by decide +kernel⟩
theorem mw427 : Cond.methodLink RX8 174 yX7_foldTick ∈ WA := List.mem_filter.mpr ⟨List.mem_of_getElem? (i := 427) (by decide +kernel), by decide +kernel⟩
theorem mw428 : Cond.instanceMethod yX7_foldTick ∈ WA := List.mem_filter.mpr ⟨List.mem_of_getElem? (i := 428) (by decide +kernel), by decide +kernel⟩
theorem mw429 : Cond.selects RX7 yX7_foldTick yX7_foldTick ∈ WA := List.mem_filter.mpr ⟨List.mem_of_getElem? (i := 429) (by decide +kernel), by decide +kernel⟩
theorem mw430 : Cond.code yX7_foldTick cX7_foldTick 4 (some .int) ∈ WA := List.mem_filter.mpr ⟨List.mem_of_getElem? (i := 430) (by decide +kernel), by decide +kernel⟩
theorem mw431 : Cond.methodLink RX7 54 yX7_isUpright ∈ WA := List.mem_filter.mpr ⟨List.mem_of_getElem? (i := 431) (by decide +kernel), by decide +kernel⟩
theorem mw432 : Cond.instanceMethod yX7_isUpright ∈ WA := List.mem_filter.mpr ⟨List.mem_of_getElem? (i := 432) (by decide +kernel), by decide +kernel⟩
theorem mw433 : Cond.selects RX7 yX7_isUpright yX7_isUpright ∈ WA := List.mem_filter.mpr ⟨List.mem_of_getElem? (i := 433) (by decide +kernel), by decide +kernel⟩
theorem mw434 : Cond.code yX7_isUpright cX7_isUpright 4 (some .boolean) ∈ WA := List.mem_filter.mpr ⟨List.mem_of_getElem? (i := 434) (by decide +kernel), by decide +kernel⟩
theorem mw435 : Cond.methodLink RX7 50 yX7_tickArea ∈ WA := List.mem_filter.mpr ⟨List.mem_of_getElem? (i := 435) (by decide +kernel), by decide +kernel⟩
theorem mw436 : Cond.instanceMethod yX7_tickArea ∈ WA := List.mem_filter.mpr ⟨List.mem_of_getElem? (i := 436) (by decide +kernel), by decide +kernel⟩
theorem mw437 : Cond.selects RX7 yX7_tickArea yX7_tickArea ∈ WA := List.mem_filter.mpr ⟨List.mem_of_getElem? (i := 437) (by decide +kernel), by decide +kernel⟩
theorem mw438 : Cond.code yX7_tickArea cX7_tickArea 7 (some .long) ∈ WA := List.mem_filter.mpr ⟨List.mem_of_getElem? (i := 438) (by decide +kernel), by decide +kernel⟩
theorem mw439 : Cond.methodLink RX7 31 yX3_tickX ∈ WA := List.mem_filter.mpr ⟨List.mem_of_getElem? (i := 439) (by decide +kernel), by decide +kernel⟩
theorem mw440 : Cond.methodLink RX7 37 yX3_tickY ∈ WA := List.mem_filter.mpr ⟨List.mem_of_getElem? (i := 440) (by decide +kernel), by decide +kernel⟩
theorem mw441 : Cond.constant RX7 58 (-1000000) ∈ WA := List.mem_filter.mpr ⟨List.mem_of_getElem? (i := 441) (by decide +kernel), by decide +kernel⟩
theorem mw442 : Cond.methodLink RL 58 yX8_first ∈ WA := List.mem_filter.mpr ⟨List.mem_of_getElem? (i := 442) (by decide +kernel), by decide +kernel⟩
theorem mw443 : Cond.instanceMethod yX8_first ∈ WA := List.mem_filter.mpr ⟨List.mem_of_getElem? (i := 443) (by decide +kernel), by decide +kernel⟩
theorem mw444 : Cond.selects RX8 yX8_first yX8_first ∈ WA := List.mem_filter.mpr ⟨List.mem_of_getElem? (i := 444) (by decide +kernel), by decide +kernel⟩
theorem mw445 : Cond.code yX8_first cX8_first 4 (some .int) ∈ WA := List.mem_filter.mpr ⟨List.mem_of_getElem? (i := 445) (by decide +kernel), by decide +kernel⟩
theorem mw446 : Cond.methodLink RX8 177 yX7_firstFolded ∈ WA := List.mem_filter.mpr ⟨List.mem_of_getElem? (i := 446) (by decide +kernel), by decide +kernel⟩
theorem mw447 : Cond.instanceMethod yX7_firstFolded ∈ WA := List.mem_filter.mpr ⟨List.mem_of_getElem? (i := 447) (by decide +kernel), by decide +kernel⟩
theorem mw448 : Cond.selects RX7 yX7_firstFolded yX7_firstFolded ∈ WA := List.mem_filter.mpr ⟨List.mem_of_getElem? (i := 448) (by decide +kernel), by decide +kernel⟩
theorem mw449 : Cond.code yX7_firstFolded cX7_firstFolded 4 (some .int) ∈ WA := List.mem_filter.mpr ⟨List.mem_of_getElem? (i := 449) (by decide +kernel), by decide +kernel⟩
theorem mw450 : Cond.constant RX8 180 (-1000000) ∈ WA := List.mem_filter.mpr ⟨List.mem_of_getElem? (i := 450) (by decide +kernel), by decide +kernel⟩
theorem mw451 : Cond.methodLink RL 62 yX8_sides ∈ WA := List.mem_filter.mpr ⟨List.mem_of_getElem? (i := 451) (by decide +kernel), by decide +kernel⟩
theorem mw452 : Cond.instanceMethod yX8_sides ∈ WA := List.mem_filter.mpr ⟨List.mem_of_getElem? (i := 452) (by decide +kernel), by decide +kernel⟩
theorem mw453 : Cond.selects RX8 yX8_sides yX8_sides ∈ WA := List.mem_filter.mpr ⟨List.mem_of_getElem? (i := 453) (by decide +kernel), by decide +kernel⟩
theorem mw454 : Cond.code yX8_sides cX8_sides 2 (some .int) ∈ WA := List.mem_filter.mpr ⟨List.mem_of_getElem? (i := 454) (by decide +kernel), by decide +kernel⟩
theorem mw455 : Cond.methodLink RX8 181 yX7_sidesOf ∈ WA := List.mem_filter.mpr ⟨List.mem_of_getElem? (i := 455) (by decide +kernel), by decide +kernel⟩
theorem mw456 : Cond.instanceMethod yX7_sidesOf ∈ WA := List.mem_filter.mpr ⟨List.mem_of_getElem? (i := 456) (by decide +kernel), by decide +kernel⟩
theorem mw457 : Cond.selects RX7 yX7_sidesOf yX7_sidesOf ∈ WA := List.mem_filter.mpr ⟨List.mem_of_getElem? (i := 457) (by decide +kernel), by decide +kernel⟩
theorem mw458 : Cond.code yX7_sidesOf cX7_sidesOf 5 (some .int) ∈ WA := List.mem_filter.mpr ⟨List.mem_of_getElem? (i := 458) (by decide +kernel), by decide +kernel⟩
theorem mw459 : Cond.methodLink RX7 59 yX3_many ∈ WA := List.mem_filter.mpr ⟨List.mem_of_getElem? (i := 459) (by decide +kernel), by decide +kernel⟩
theorem mw460 : Cond.instanceMethod yX3_many ∈ WA := List.mem_filter.mpr ⟨List.mem_of_getElem? (i := 460) (by decide +kernel), by decide +kernel⟩
theorem mw461 : Cond.selects RX3 yX3_many yX3_many ∈ WA := List.mem_filter.mpr ⟨List.mem_of_getElem? (i := 461) (by decide +kernel), by decide +kernel⟩
theorem mw462 : Cond.code yX3_many cX3_many 1 (some .int) ∈ WA := List.mem_filter.mpr ⟨List.mem_of_getElem? (i := 462) (by decide +kernel), by decide +kernel⟩
theorem mw463 : Cond.methodLink RX7 62 yX7_thirdsAtSide ∈ WA := List.mem_filter.mpr ⟨List.mem_of_getElem? (i := 463) (by decide +kernel), by decide +kernel⟩
theorem mw465 : Cond.instanceMethod yX7_thirdsAtSide ∈ WA := List.mem_filter.mpr ⟨List.mem_of_getElem? (i := 465) (by decide +kernel), by decide +kernel⟩
theorem mw466 : Cond.code yX7_thirdsAtSide cX7_thirdsAtSide 5 (some .int) ∈ WA := List.mem_filter.mpr ⟨List.mem_of_getElem? (i := 466) (by decide +kernel), by decide +kernel⟩
theorem mw467 : Cond.methodLink RL 66 yX8_key ∈ WA := List.mem_filter.mpr ⟨List.mem_of_getElem? (i := 467) (by decide +kernel), by decide +kernel⟩
theorem mw468 : Cond.instanceMethod yX8_key ∈ WA := List.mem_filter.mpr ⟨List.mem_of_getElem? (i := 468) (by decide +kernel), by decide +kernel⟩
theorem mw469 : Cond.selects RX8 yX8_key yX8_key ∈ WA := List.mem_filter.mpr ⟨List.mem_of_getElem? (i := 469) (by decide +kernel), by decide +kernel⟩
theorem mw470 : Cond.code yX8_key cX8_key 3 (some .int) ∈ WA := List.mem_filter.mpr ⟨List.mem_of_getElem? (i := 470) (by decide +kernel), by decide +kernel⟩
theorem mw471 : Cond.methodLink RX8 184 yX2_rises ∈ WA := List.mem_filter.mpr ⟨List.mem_of_getElem? (i := 471) (by decide +kernel), by decide +kernel⟩
theorem mw472 : Cond.instanceMethod yX2_rises ∈ WA := List.mem_filter.mpr ⟨List.mem_of_getElem? (i := 472) (by decide +kernel), by decide +kernel⟩
theorem mw473 : Cond.selects RX2 yX2_rises yX2_rises ∈ WA := List.mem_filter.mpr ⟨List.mem_of_getElem? (i := 473) (by decide +kernel), by decide +kernel⟩
theorem mw474 : Cond.code yX2_rises cX2_rises 3 (some .boolean) ∈ WA := List.mem_filter.mpr ⟨List.mem_of_getElem? (i := 474) (by decide +kernel), by decide +kernel⟩
theorem mw475 : Cond.methodLink RX8 187 yX2_isFull ∈ WA := List.mem_filter.mpr ⟨List.mem_of_getElem? (i := 475) (by decide +kernel), by decide +kernel⟩
theorem mw476 : Cond.instanceMethod yX2_isFull ∈ WA := List.mem_filter.mpr ⟨List.mem_of_getElem? (i := 476) (by decide +kernel), by decide +kernel⟩
theorem mw477 : Cond.selects RX2 yX2_isFull yX2_isFull ∈ WA := List.mem_filter.mpr ⟨List.mem_of_getElem? (i := 477) (by decide +kernel), by decide +kernel⟩
theorem mw478 : Cond.code yX2_isFull cX2_isFull 1 (some .boolean) ∈ WA := List.mem_filter.mpr ⟨List.mem_of_getElem? (i := 478) (by decide +kernel), by decide +kernel⟩
theorem mw479 : Cond.methodLink RX8 188 yX2_add ∈ WA := List.mem_filter.mpr ⟨List.mem_of_getElem? (i := 479) (by decide +kernel), by decide +kernel⟩
theorem mw480 : Cond.instanceMethod yX2_add ∈ WA := List.mem_filter.mpr ⟨List.mem_of_getElem? (i := 480) (by decide +kernel), by decide +kernel⟩
theorem mw481 : Cond.selects RX2 yX2_add yX2_add ∈ WA := List.mem_filter.mpr ⟨List.mem_of_getElem? (i := 481) (by decide +kernel), by decide +kernel⟩
theorem mw482 : Cond.code yX2_add cX2_add 3 (some .int) ∈ WA := List.mem_filter.mpr ⟨List.mem_of_getElem? (i := 482) (by decide +kernel), by decide +kernel⟩
theorem mw483 : Cond.methodLink RL 70 yX8_eased ∈ WA := List.mem_filter.mpr ⟨List.mem_of_getElem? (i := 483) (by decide +kernel), by decide +kernel⟩
theorem mw484 : Cond.instanceMethod yX8_eased ∈ WA := List.mem_filter.mpr ⟨List.mem_of_getElem? (i := 484) (by decide +kernel), by decide +kernel⟩
theorem mw485 : Cond.selects RX8 yX8_eased yX8_eased ∈ WA := List.mem_filter.mpr ⟨List.mem_of_getElem? (i := 485) (by decide +kernel), by decide +kernel⟩
theorem mw486 : Cond.code yX8_eased cX8_eased 2 (some .int) ∈ WA := List.mem_filter.mpr ⟨List.mem_of_getElem? (i := 486) (by decide +kernel), by decide +kernel⟩
theorem mw487 : Cond.methodLink RX8 190 yX2_shareAt ∈ WA := List.mem_filter.mpr ⟨List.mem_of_getElem? (i := 487) (by decide +kernel), by decide +kernel⟩
theorem mw488 : Cond.instanceMethod yX2_shareAt ∈ WA := List.mem_filter.mpr ⟨List.mem_of_getElem? (i := 488) (by decide +kernel), by decide +kernel⟩
theorem mw489 : Cond.selects RX2 yX2_shareAt yX2_shareAt ∈ WA := List.mem_filter.mpr ⟨List.mem_of_getElem? (i := 489) (by decide +kernel), by decide +kernel⟩
theorem mw490 : Cond.code yX2_shareAt cX2_shareAt 3 (some .int) ∈ WA := List.mem_filter.mpr ⟨List.mem_of_getElem? (i := 490) (by decide +kernel), by decide +kernel⟩
theorem mw491 : Cond.methodLink RX2 20 yX2_shareBetween ∈ WA := List.mem_filter.mpr ⟨List.mem_of_getElem? (i := 491) (by decide +kernel), by decide +kernel⟩
theorem mw493 : Cond.instanceMethod yX2_shareBetween ∈ WA := List.mem_filter.mpr ⟨List.mem_of_getElem? (i := 493) (by decide +kernel), by decide +kernel⟩
theorem mw494 : Cond.code yX2_shareBetween cX2_shareBetween 5 (some .int) ∈ WA := List.mem_filter.mpr ⟨List.mem_of_getElem? (i := 494) (by decide +kernel), by decide +kernel⟩
theorem mw495 : Cond.methodLink RL 74 yX8_unkey ∈ WA := List.mem_filter.mpr ⟨List.mem_of_getElem? (i := 495) (by decide +kernel), by decide +kernel⟩
theorem mw496 : Cond.instanceMethod yX8_unkey ∈ WA := List.mem_filter.mpr ⟨List.mem_of_getElem? (i := 496) (by decide +kernel), by decide +kernel⟩
theorem mw497 : Cond.selects RX8 yX8_unkey yX8_unkey ∈ WA := List.mem_filter.mpr ⟨List.mem_of_getElem? (i := 497) (by decide +kernel), by decide +kernel⟩
theorem mw498 : Cond.code yX8_unkey cX8_unkey 1 (some .int) ∈ WA := List.mem_filter.mpr ⟨List.mem_of_getElem? (i := 498) (by decide +kernel), by decide +kernel⟩
theorem mw499 : Cond.methodLink RX8 193 yX2_takeAway ∈ WA := List.mem_filter.mpr ⟨List.mem_of_getElem? (i := 499) (by decide +kernel), by decide +kernel⟩
theorem mw500 : Cond.instanceMethod yX2_takeAway ∈ WA := List.mem_filter.mpr ⟨List.mem_of_getElem? (i := 500) (by decide +kernel), by decide +kernel⟩
theorem mw501 : Cond.selects RX2 yX2_takeAway yX2_takeAway ∈ WA := List.mem_filter.mpr ⟨List.mem_of_getElem? (i := 501) (by decide +kernel), by decide +kernel⟩
theorem mw502 : Cond.code yX2_takeAway cX2_takeAway 2 (some .int) ∈ WA := List.mem_filter.mpr ⟨List.mem_of_getElem? (i := 502) (by decide +kernel), by decide +kernel⟩
theorem mw503 : Cond.methodLink RL 79 yX8_in ∈ WA := List.mem_filter.mpr ⟨List.mem_of_getElem? (i := 503) (by decide +kernel), by decide +kernel⟩
theorem mw504 : Cond.instanceMethod yX8_in ∈ WA := List.mem_filter.mpr ⟨List.mem_of_getElem? (i := 504) (by decide +kernel), by decide +kernel⟩
theorem mw505 : Cond.selects RX8 yX8_in yX8_in ∈ WA := List.mem_filter.mpr ⟨List.mem_of_getElem? (i := 505) (by decide +kernel), by decide +kernel⟩
theorem mw506 : Cond.code yX8_in cX8_in 5 (some .int) ∈ WA := List.mem_filter.mpr ⟨List.mem_of_getElem? (i := 506) (by decide +kernel), by decide +kernel⟩
theorem mw507 : Cond.methodLink RX8 196 yX1_find ∈ WA := List.mem_filter.mpr ⟨List.mem_of_getElem? (i := 507) (by decide +kernel), by decide +kernel⟩
theorem mw508 : Cond.instanceMethod yX1_find ∈ WA := List.mem_filter.mpr ⟨List.mem_of_getElem? (i := 508) (by decide +kernel), by decide +kernel⟩
theorem mw509 : Cond.selects RX1 yX1_find yX1_find ∈ WA := List.mem_filter.mpr ⟨List.mem_of_getElem? (i := 509) (by decide +kernel), by decide +kernel⟩
theorem mw510 : Cond.code yX1_find cX1_find 6 (some .int) ∈ WA := List.mem_filter.mpr ⟨List.mem_of_getElem? (i := 510) (by decide +kernel), by decide +kernel⟩
theorem mw511 : Cond.methodLink RX1 37 yX7_many ∈ WA := List.mem_filter.mpr ⟨List.mem_of_getElem? (i := 511) (by decide +kernel), by decide +kernel⟩
theorem mw512 : Cond.instanceMethod yX7_many ∈ WA := List.mem_filter.mpr ⟨List.mem_of_getElem? (i := 512) (by decide +kernel), by decide +kernel⟩
theorem mw513 : Cond.selects RX7 yX7_many yX7_many ∈ WA := List.mem_filter.mpr ⟨List.mem_of_getElem? (i := 513) (by decide +kernel), by decide +kernel⟩
theorem mw514 : Cond.code yX7_many cX7_many 1 (some .int) ∈ WA := List.mem_filter.mpr ⟨List.mem_of_getElem? (i := 514) (by decide +kernel), by decide +kernel⟩
theorem mw515 : Cond.methodLink RX1 43 yX1_share ∈ WA := List.mem_filter.mpr ⟨List.mem_of_getElem? (i := 515) (by decide +kernel), by decide +kernel⟩
theorem mw517 : Cond.instanceMethod yX1_share ∈ WA := List.mem_filter.mpr ⟨List.mem_of_getElem? (i := 517) (by decide +kernel), by decide +kernel⟩
theorem mw518 : Cond.code yX1_share cX1_share 25 none ∈ WA := List.mem_filter.mpr ⟨List.mem_of_getElem? (i := 518) (by decide +kernel), by decide +kernel⟩
theorem mw519 : Cond.methodLink RX1 47 yX7_corner ∈ WA := List.mem_filter.mpr ⟨List.mem_of_getElem? (i := 519) (by decide +kernel), by decide +kernel⟩
theorem mw520 : Cond.methodLink RX1 51 yX3_tickX ∈ WA := List.mem_filter.mpr ⟨List.mem_of_getElem? (i := 520) (by decide +kernel), by decide +kernel⟩
theorem mw521 : Cond.methodLink RX1 57 yX3_tickY ∈ WA := List.mem_filter.mpr ⟨List.mem_of_getElem? (i := 521) (by decide +kernel), by decide +kernel⟩
theorem mw522 : Cond.methodLink RX1 60 yX3_area ∈ WA := List.mem_filter.mpr ⟨List.mem_of_getElem? (i := 522) (by decide +kernel), by decide +kernel⟩
theorem mw523 : Cond.methodLink RL 83 yX8_from ∈ WA := List.mem_filter.mpr ⟨List.mem_of_getElem? (i := 523) (by decide +kernel), by decide +kernel⟩
theorem mw524 : Cond.instanceMethod yX8_from ∈ WA := List.mem_filter.mpr ⟨List.mem_of_getElem? (i := 524) (by decide +kernel), by decide +kernel⟩
theorem mw525 : Cond.selects RX8 yX8_from yX8_from ∈ WA := List.mem_filter.mpr ⟨List.mem_of_getElem? (i := 525) (by decide +kernel), by decide +kernel⟩
theorem mw526 : Cond.code yX8_from cX8_from 7 (some .int) ∈ WA := List.mem_filter.mpr ⟨List.mem_of_getElem? (i := 526) (by decide +kernel), by decide +kernel⟩
theorem mw527 : Cond.methodLink RX8 199 yX1_originX ∈ WA := List.mem_filter.mpr ⟨List.mem_of_getElem? (i := 527) (by decide +kernel), by decide +kernel⟩
theorem mw528 : Cond.instanceMethod yX1_originX ∈ WA := List.mem_filter.mpr ⟨List.mem_of_getElem? (i := 528) (by decide +kernel), by decide +kernel⟩
theorem mw529 : Cond.selects RX1 yX1_originX yX1_originX ∈ WA := List.mem_filter.mpr ⟨List.mem_of_getElem? (i := 529) (by decide +kernel), by decide +kernel⟩
theorem mw530 : Cond.code yX1_originX cX1_originX 2 (some .int) ∈ WA := List.mem_filter.mpr ⟨List.mem_of_getElem? (i := 530) (by decide +kernel), by decide +kernel⟩
theorem mw531 : Cond.methodLink RX1 63 yX3_x ∈ WA := List.mem_filter.mpr ⟨List.mem_of_getElem? (i := 531) (by decide +kernel), by decide +kernel⟩
theorem mw532 : Cond.methodLink RX8 202 yX1_originY ∈ WA := List.mem_filter.mpr ⟨List.mem_of_getElem? (i := 532) (by decide +kernel), by decide +kernel⟩
theorem mw533 : Cond.instanceMethod yX1_originY ∈ WA := List.mem_filter.mpr ⟨List.mem_of_getElem? (i := 533) (by decide +kernel), by decide +kernel⟩
theorem mw534 : Cond.selects RX1 yX1_originY yX1_originY ∈ WA := List.mem_filter.mpr ⟨List.mem_of_getElem? (i := 534) (by decide +kernel), by decide +kernel⟩
theorem mw535 : Cond.code yX1_originY cX1_originY 2 (some .int) ∈ WA := List.mem_filter.mpr ⟨List.mem_of_getElem? (i := 535) (by decide +kernel), by decide +kernel⟩
theorem mw536 : Cond.methodLink RX1 66 yX3_y ∈ WA := List.mem_filter.mpr ⟨List.mem_of_getElem? (i := 536) (by decide +kernel), by decide +kernel⟩
theorem mw537 : Cond.methodLink RL 87 yX8_picture ∈ WA := List.mem_filter.mpr ⟨List.mem_of_getElem? (i := 537) (by decide +kernel), by decide +kernel⟩
theorem mw538 : Cond.instanceMethod yX8_picture ∈ WA := List.mem_filter.mpr ⟨List.mem_of_getElem? (i := 538) (by decide +kernel), by decide +kernel⟩
theorem mw539 : Cond.selects RX8 yX8_picture yX8_picture ∈ WA := List.mem_filter.mpr ⟨List.mem_of_getElem? (i := 539) (by decide +kernel), by decide +kernel⟩
theorem mw540 : Cond.code yX8_picture cX8_picture 6 (some .int) ∈ WA := List.mem_filter.mpr ⟨List.mem_of_getElem? (i := 540) (by decide +kernel), by decide +kernel⟩
theorem mw541 : Cond.methodLink RX8 205 yX5_isSize ∈ WA := List.mem_filter.mpr ⟨List.mem_of_getElem? (i := 541) (by decide +kernel), by decide +kernel⟩
theorem mw542 : Cond.static yX5_isSize ∈ WA := List.mem_filter.mpr ⟨List.mem_of_getElem? (i := 542) (by decide +kernel), by decide +kernel⟩
theorem mw543 : Cond.code yX5_isSize cX5_isSize 2 (some .boolean) ∈ WA := List.mem_filter.mpr ⟨List.mem_of_getElem? (i := 543) (by decide +kernel), by decide +kernel⟩
theorem mw545 : Cond.methodLink RX8 208 yX6_allWithin ∈ WA := List.mem_filter.mpr ⟨List.mem_of_getElem? (i := 545) (by decide +kernel), by decide +kernel⟩
theorem mw546 : Cond.instanceMethod yX6_allWithin ∈ WA := List.mem_filter.mpr ⟨List.mem_of_getElem? (i := 546) (by decide +kernel), by decide +kernel⟩
theorem mw547 : Cond.selects RX6 yX6_allWithin yX6_allWithin ∈ WA := List.mem_filter.mpr ⟨List.mem_of_getElem? (i := 547) (by decide +kernel), by decide +kernel⟩
theorem mw548 : Cond.code yX6_allWithin cX6_allWithin 6 (some .boolean) ∈ WA := List.mem_filter.mpr ⟨List.mem_of_getElem? (i := 548) (by decide +kernel), by decide +kernel⟩
theorem mw549 : Cond.methodLink RX6 25 yX6_item ∈ WA := List.mem_filter.mpr ⟨List.mem_of_getElem? (i := 549) (by decide +kernel), by decide +kernel⟩
theorem mw550 : Cond.methodLink RX8 212 yX5_take ∈ WA := List.mem_filter.mpr ⟨List.mem_of_getElem? (i := 550) (by decide +kernel), by decide +kernel⟩
theorem mw551 : Cond.instanceMethod yX5_take ∈ WA := List.mem_filter.mpr ⟨List.mem_of_getElem? (i := 551) (by decide +kernel), by decide +kernel⟩
theorem mw552 : Cond.selects RX5 yX5_take yX5_take ∈ WA := List.mem_filter.mpr ⟨List.mem_of_getElem? (i := 552) (by decide +kernel), by decide +kernel⟩
theorem mw553 : Cond.code yX5_take cX5_take 8 none ∈ WA := List.mem_filter.mpr ⟨List.mem_of_getElem? (i := 553) (by decide +kernel), by decide +kernel⟩
theorem mw554 : Cond.methodLink RX5 25 yX6_item ∈ WA := List.mem_filter.mpr ⟨List.mem_of_getElem? (i := 554) (by decide +kernel), by decide +kernel⟩
theorem mw555 : Cond.methodLink RL 91 yX8_seen ∈ WA := List.mem_filter.mpr ⟨List.mem_of_getElem? (i := 555) (by decide +kernel), by decide +kernel⟩
theorem mw556 : Cond.instanceMethod yX8_seen ∈ WA := List.mem_filter.mpr ⟨List.mem_of_getElem? (i := 556) (by decide +kernel), by decide +kernel⟩
theorem mw557 : Cond.selects RX8 yX8_seen yX8_seen ∈ WA := List.mem_filter.mpr ⟨List.mem_of_getElem? (i := 557) (by decide +kernel), by decide +kernel⟩
theorem mw558 : Cond.code yX8_seen cX8_seen 5 (some .int) ∈ WA := List.mem_filter.mpr ⟨List.mem_of_getElem? (i := 558) (by decide +kernel), by decide +kernel⟩
theorem mw559 : Cond.methodLink RX8 216 yX5_isTold ∈ WA := List.mem_filter.mpr ⟨List.mem_of_getElem? (i := 559) (by decide +kernel), by decide +kernel⟩
theorem mw560 : Cond.instanceMethod yX5_isTold ∈ WA := List.mem_filter.mpr ⟨List.mem_of_getElem? (i := 560) (by decide +kernel), by decide +kernel⟩
theorem mw561 : Cond.selects RX5 yX5_isTold yX5_isTold ∈ WA := List.mem_filter.mpr ⟨List.mem_of_getElem? (i := 561) (by decide +kernel), by decide +kernel⟩
theorem mw562 : Cond.code yX5_isTold cX5_isTold 2 (some .boolean) ∈ WA := List.mem_filter.mpr ⟨List.mem_of_getElem? (i := 562) (by decide +kernel), by decide +kernel⟩
theorem mw563 : Cond.methodLink RX8 219 yX8_numberFrom ∈ WA := List.mem_filter.mpr ⟨List.mem_of_getElem? (i := 563) (by decide +kernel), by decide +kernel⟩
theorem mw565 : Cond.instanceMethod yX8_numberFrom ∈ WA := List.mem_filter.mpr ⟨List.mem_of_getElem? (i := 565) (by decide +kernel), by decide +kernel⟩
theorem mw566 : Cond.code yX8_numberFrom cX8_numberFrom 2 (some .int) ∈ WA := List.mem_filter.mpr ⟨List.mem_of_getElem? (i := 566) (by decide +kernel), by decide +kernel⟩
theorem mw567 : Cond.methodLink RX8 265 yX5_numberAt ∈ WA := List.mem_filter.mpr ⟨List.mem_of_getElem? (i := 567) (by decide +kernel), by decide +kernel⟩
theorem mw568 : Cond.instanceMethod yX5_numberAt ∈ WA := List.mem_filter.mpr ⟨List.mem_of_getElem? (i := 568) (by decide +kernel), by decide +kernel⟩
theorem mw569 : Cond.selects RX5 yX5_numberAt yX5_numberAt ∈ WA := List.mem_filter.mpr ⟨List.mem_of_getElem? (i := 569) (by decide +kernel), by decide +kernel⟩
theorem mw570 : Cond.code yX5_numberAt cX5_numberAt 6 (some .int) ∈ WA := List.mem_filter.mpr ⟨List.mem_of_getElem? (i := 570) (by decide +kernel), by decide +kernel⟩
theorem mw571 : Cond.methodLink RL 95 yX8_pairs ∈ WA := List.mem_filter.mpr ⟨List.mem_of_getElem? (i := 571) (by decide +kernel), by decide +kernel⟩
theorem mw572 : Cond.instanceMethod yX8_pairs ∈ WA := List.mem_filter.mpr ⟨List.mem_of_getElem? (i := 572) (by decide +kernel), by decide +kernel⟩
theorem mw573 : Cond.selects RX8 yX8_pairs yX8_pairs ∈ WA := List.mem_filter.mpr ⟨List.mem_of_getElem? (i := 573) (by decide +kernel), by decide +kernel⟩
theorem mw574 : Cond.code yX8_pairs cX8_pairs 7 (some .int) ∈ WA := List.mem_filter.mpr ⟨List.mem_of_getElem? (i := 574) (by decide +kernel), by decide +kernel⟩
theorem mw575 : Cond.methodLink RX8 222 yX8_refusalOfRows ∈ WA := List.mem_filter.mpr ⟨List.mem_of_getElem? (i := 575) (by decide +kernel), by decide +kernel⟩
theorem mw577 : Cond.instanceMethod yX8_refusalOfRows ∈ WA := List.mem_filter.mpr ⟨List.mem_of_getElem? (i := 577) (by decide +kernel), by decide +kernel⟩
theorem mw578 : Cond.code yX8_refusalOfRows cX8_refusalOfRows 5 (some .int) ∈ WA := List.mem_filter.mpr ⟨List.mem_of_getElem? (i := 578) (by decide +kernel), by decide +kernel⟩
theorem mw579 : Cond.methodLink RX8 262 yX4_isRow ∈ WA := List.mem_filter.mpr ⟨List.mem_of_getElem? (i := 579) (by decide +kernel), by decide +kernel⟩
theorem mw580 : Cond.static yX4_isRow ∈ WA := List.mem_filter.mpr ⟨List.mem_of_getElem? (i := 580) (by decide +kernel), by decide +kernel⟩
theorem mw581 : Cond.code yX4_isRow cX4_isRow 1 (some .boolean) ∈ WA := List.mem_filter.mpr ⟨List.mem_of_getElem? (i := 581) (by decide +kernel), by decide +kernel⟩
theorem mw583 : Cond.methodLink RX8 225 yX4_join ∈ WA := List.mem_filter.mpr ⟨List.mem_of_getElem? (i := 583) (by decide +kernel), by decide +kernel⟩
theorem mw584 : Cond.instanceMethod yX4_join ∈ WA := List.mem_filter.mpr ⟨List.mem_of_getElem? (i := 584) (by decide +kernel), by decide +kernel⟩
theorem mw585 : Cond.selects RX4 yX4_join yX4_join ∈ WA := List.mem_filter.mpr ⟨List.mem_of_getElem? (i := 585) (by decide +kernel), by decide +kernel⟩
theorem mw586 : Cond.code yX4_join cX4_join 7 none ∈ WA := List.mem_filter.mpr ⟨List.mem_of_getElem? (i := 586) (by decide +kernel), by decide +kernel⟩
theorem mw587 : Cond.methodLink RX4 45 yX4_apart ∈ WA := List.mem_filter.mpr ⟨List.mem_of_getElem? (i := 587) (by decide +kernel), by decide +kernel⟩
theorem mw589 : Cond.instanceMethod yX4_apart ∈ WA := List.mem_filter.mpr ⟨List.mem_of_getElem? (i := 589) (by decide +kernel), by decide +kernel⟩
theorem mw590 : Cond.code yX4_apart cX4_apart 3 (some .int) ∈ WA := List.mem_filter.mpr ⟨List.mem_of_getElem? (i := 590) (by decide +kernel), by decide +kernel⟩
theorem mw591 : Cond.methodLink RX4 60 yX6_item ∈ WA := List.mem_filter.mpr ⟨List.mem_of_getElem? (i := 591) (by decide +kernel), by decide +kernel⟩
theorem mw592 : Cond.methodLink RX4 65 yJ9_abs_0f7a4 ∈ WA := List.mem_filter.mpr ⟨List.mem_of_getElem? (i := 592) (by decide +kernel), by decide +kernel⟩
theorem mw593 : Cond.static yJ9_abs_0f7a4 ∈ WA := List.mem_filter.mpr ⟨List.mem_of_getElem? (i := 593) (by decide +kernel), by decide +kernel⟩
theorem mw594 : Cond.code yJ9_abs_0f7a4 Lib.Math.abs.code 1 (some .int) ∈ WA := List.mem_filter.mpr ⟨List.mem_of_getElem? (i := 594) (by decide +kernel), by decide +kernel⟩
theorem mw595 : Cond.methodLink RX4 49 yX4_costAhead ∈ WA := List.mem_filter.mpr ⟨List.mem_of_getElem? (i := 595) (by decide +kernel), by decide +kernel⟩
theorem mw597 : Cond.instanceMethod yX4_costAhead ∈ WA := List.mem_filter.mpr ⟨List.mem_of_getElem? (i := 597) (by decide +kernel), by decide +kernel⟩
theorem mw598 : Cond.code yX4_costAhead cX4_costAhead 4 (some .int) ∈ WA := List.mem_filter.mpr ⟨List.mem_of_getElem? (i := 598) (by decide +kernel), by decide +kernel⟩
theorem mw599 : Cond.methodLink RX4 71 yJ9_min_7cf53 ∈ WA := List.mem_filter.mpr ⟨List.mem_of_getElem? (i := 599) (by decide +kernel), by decide +kernel⟩
theorem mw600 : Cond.static yJ9_min_7cf53 ∈ WA := List.mem_filter.mpr ⟨List.mem_of_getElem? (i := 600) (by decide +kernel), by decide +kernel⟩
theorem mw601 : Cond.code yJ9_min_7cf53 Lib.Math.min.code 2 (some .int) ∈ WA := List.mem_filter.mpr ⟨List.mem_of_getElem? (i := 601) (by decide +kernel), by decide +kernel⟩
theorem mw602 : Cond.methodLink RX4 52 yX4_walkBack ∈ WA := List.mem_filter.mpr ⟨List.mem_of_getElem? (i := 602) (by decide +kernel), by decide +kernel⟩
theorem mw604 : Cond.instanceMethod yX4_walkBack ∈ WA := List.mem_filter.mpr ⟨List.mem_of_getElem? (i := 604) (by decide +kernel), by decide +kernel⟩
theorem mw605 : Cond.code yX4_walkBack cX4_walkBack 6 none ∈ WA := List.mem_filter.mpr ⟨List.mem_of_getElem? (i := 605) (by decide +kernel), by decide +kernel⟩
theorem mw606 : Cond.methodLink RX4 74 yX4_meet ∈ WA := List.mem_filter.mpr ⟨List.mem_of_getElem? (i := 606) (by decide +kernel), by decide +kernel⟩
theorem mw608 : Cond.instanceMethod yX4_meet ∈ WA := List.mem_filter.mpr ⟨List.mem_of_getElem? (i := 608) (by decide +kernel), by decide +kernel⟩
theorem mw609 : Cond.code yX4_meet cX4_meet 4 none ∈ WA := List.mem_filter.mpr ⟨List.mem_of_getElem? (i := 609) (by decide +kernel), by decide +kernel⟩
theorem mw610 : Cond.methodLink RX8 228 yX4_tell ∈ WA := List.mem_filter.mpr ⟨List.mem_of_getElem? (i := 610) (by decide +kernel), by decide +kernel⟩
theorem mw611 : Cond.instanceMethod yX4_tell ∈ WA := List.mem_filter.mpr ⟨List.mem_of_getElem? (i := 611) (by decide +kernel), by decide +kernel⟩
theorem mw612 : Cond.selects RX4 yX4_tell yX4_tell ∈ WA := List.mem_filter.mpr ⟨List.mem_of_getElem? (i := 612) (by decide +kernel), by decide +kernel⟩
theorem mw613 : Cond.code yX4_tell cX4_tell 2 (some .int) ∈ WA := List.mem_filter.mpr ⟨List.mem_of_getElem? (i := 613) (by decide +kernel), by decide +kernel⟩
theorem mw614 : Cond.methodLink RX4 55 yX4_oftenMet ∈ WA := List.mem_filter.mpr ⟨List.mem_of_getElem? (i := 614) (by decide +kernel), by decide +kernel⟩
theorem mw616 : Cond.instanceMethod yX4_oftenMet ∈ WA := List.mem_filter.mpr ⟨List.mem_of_getElem? (i := 616) (by decide +kernel), by decide +kernel⟩
theorem mw617 : Cond.code yX4_oftenMet cX4_oftenMet 5 (some .int) ∈ WA := List.mem_filter.mpr ⟨List.mem_of_getElem? (i := 617) (by decide +kernel), by decide +kernel⟩
theorem mw618 : Cond.methodLink RX4 78 yX4_timesMet ∈ WA := List.mem_filter.mpr ⟨List.mem_of_getElem? (i := 618) (by decide +kernel), by decide +kernel⟩
theorem mw620 : Cond.instanceMethod yX4_timesMet ∈ WA := List.mem_filter.mpr ⟨List.mem_of_getElem? (i := 620) (by decide +kernel), by decide +kernel⟩
theorem mw621 : Cond.code yX4_timesMet cX4_timesMet 5 (some .int) ∈ WA := List.mem_filter.mpr ⟨List.mem_of_getElem? (i := 621) (by decide +kernel), by decide +kernel⟩
theorem mw622 : Cond.methodLink RL 99 yX8_pair ∈ WA := List.mem_filter.mpr ⟨List.mem_of_getElem? (i := 622) (by decide +kernel), by decide +kernel⟩
theorem mw623 : Cond.instanceMethod yX8_pair ∈ WA := List.mem_filter.mpr ⟨List.mem_of_getElem? (i := 623) (by decide +kernel), by decide +kernel⟩
theorem mw624 : Cond.selects RX8 yX8_pair yX8_pair ∈ WA := List.mem_filter.mpr ⟨List.mem_of_getElem? (i := 624) (by decide +kernel), by decide +kernel⟩
theorem mw625 : Cond.code yX8_pair cX8_pair 7 (some .int) ∈ WA := List.mem_filter.mpr ⟨List.mem_of_getElem? (i := 625) (by decide +kernel), by decide +kernel⟩
theorem mw626 : Cond.methodLink RX8 231 yX4_met ∈ WA := List.mem_filter.mpr ⟨List.mem_of_getElem? (i := 626) (by decide +kernel), by decide +kernel⟩
theorem mw627 : Cond.instanceMethod yX4_met ∈ WA := List.mem_filter.mpr ⟨List.mem_of_getElem? (i := 627) (by decide +kernel), by decide +kernel⟩
theorem mw628 : Cond.selects RX4 yX4_met yX4_met ∈ WA := List.mem_filter.mpr ⟨List.mem_of_getElem? (i := 628) (by decide +kernel), by decide +kernel⟩
theorem mw629 : Cond.code yX4_met cX4_met 3 (some .int) ∈ WA := List.mem_filter.mpr ⟨List.mem_of_getElem? (i := 629) (by decide +kernel), by decide +kernel⟩
theorem mw630 : Cond.constant RX4 59 (-1000000) ∈ WA := List.mem_filter.mpr ⟨List.mem_of_getElem? (i := 630) (by decide +kernel), by decide +kernel⟩
theorem mw631 : Cond.methodLink RL 103 yX8_kind ∈ WA := List.mem_filter.mpr ⟨List.mem_of_getElem? (i := 631) (by decide +kernel), by decide +kernel⟩
theorem mw632 : Cond.instanceMethod yX8_kind ∈ WA := List.mem_filter.mpr ⟨List.mem_of_getElem? (i := 632) (by decide +kernel), by decide +kernel⟩
theorem mw633 : Cond.selects RX8 yX8_kind yX8_kind ∈ WA := List.mem_filter.mpr ⟨List.mem_of_getElem? (i := 633) (by decide +kernel), by decide +kernel⟩
theorem mw634 : Cond.code yX8_kind cX8_kind 2 (some .int) ∈ WA := List.mem_filter.mpr ⟨List.mem_of_getElem? (i := 634) (by decide +kernel), by decide +kernel⟩
theorem mw635 : Cond.methodLink RX8 234 yX7_kindOf ∈ WA := List.mem_filter.mpr ⟨List.mem_of_getElem? (i := 635) (by decide +kernel), by decide +kernel⟩
theorem mw636 : Cond.instanceMethod yX7_kindOf ∈ WA := List.mem_filter.mpr ⟨List.mem_of_getElem? (i := 636) (by decide +kernel), by decide +kernel⟩
theorem mw637 : Cond.selects RX7 yX7_kindOf yX7_kindOf ∈ WA := List.mem_filter.mpr ⟨List.mem_of_getElem? (i := 637) (by decide +kernel), by decide +kernel⟩
theorem mw638 : Cond.code yX7_kindOf cX7_kindOf 4 (some .int) ∈ WA := List.mem_filter.mpr ⟨List.mem_of_getElem? (i := 638) (by decide +kernel), by decide +kernel⟩
theorem mw639 : Cond.methodLink RX7 65 yX7_areaIn ∈ WA := List.mem_filter.mpr ⟨List.mem_of_getElem? (i := 639) (by decide +kernel), by decide +kernel⟩
theorem mw640 : Cond.methodLink RX7 68 yX7_staysWhole ∈ WA := List.mem_filter.mpr ⟨List.mem_of_getElem? (i := 640) (by decide +kernel), by decide +kernel⟩
theorem mw642 : Cond.instanceMethod yX7_staysWhole ∈ WA := List.mem_filter.mpr ⟨List.mem_of_getElem? (i := 642) (by decide +kernel), by decide +kernel⟩
theorem mw643 : Cond.code yX7_staysWhole cX7_staysWhole 2 (some .boolean) ∈ WA := List.mem_filter.mpr ⟨List.mem_of_getElem? (i := 643) (by decide +kernel), by decide +kernel⟩
theorem mw644 : Cond.methodLink RX7 72 yX3_stays ∈ WA := List.mem_filter.mpr ⟨List.mem_of_getElem? (i := 644) (by decide +kernel), by decide +kernel⟩
theorem mw645 : Cond.instanceMethod yX3_stays ∈ WA := List.mem_filter.mpr ⟨List.mem_of_getElem? (i := 645) (by decide +kernel), by decide +kernel⟩
theorem mw646 : Cond.selects RX3 yX3_stays yX3_stays ∈ WA := List.mem_filter.mpr ⟨List.mem_of_getElem? (i := 646) (by decide +kernel), by decide +kernel⟩
theorem mw647 : Cond.code yX3_stays cX3_stays 2 (some .boolean) ∈ WA := List.mem_filter.mpr ⟨List.mem_of_getElem? (i := 647) (by decide +kernel), by decide +kernel⟩
theorem mw648 : Cond.methodLink RL 107 yX8_as ∈ WA := List.mem_filter.mpr ⟨List.mem_of_getElem? (i := 648) (by decide +kernel), by decide +kernel⟩
theorem mw649 : Cond.instanceMethod yX8_as ∈ WA := List.mem_filter.mpr ⟨List.mem_of_getElem? (i := 649) (by decide +kernel), by decide +kernel⟩
theorem mw650 : Cond.selects RX8 yX8_as yX8_as ∈ WA := List.mem_filter.mpr ⟨List.mem_of_getElem? (i := 650) (by decide +kernel), by decide +kernel⟩
theorem mw651 : Cond.code yX8_as cX8_as 3 (some .int) ∈ WA := List.mem_filter.mpr ⟨List.mem_of_getElem? (i := 651) (by decide +kernel), by decide +kernel⟩
theorem mw652 : Cond.methodLink RX8 237 yX7_isOf ∈ WA := List.mem_filter.mpr ⟨List.mem_of_getElem? (i := 652) (by decide +kernel), by decide +kernel⟩
theorem mw653 : Cond.instanceMethod yX7_isOf ∈ WA := List.mem_filter.mpr ⟨List.mem_of_getElem? (i := 653) (by decide +kernel), by decide +kernel⟩
theorem mw654 : Cond.selects RX7 yX7_isOf yX7_isOf ∈ WA := List.mem_filter.mpr ⟨List.mem_of_getElem? (i := 654) (by decide +kernel), by decide +kernel⟩
theorem mw655 : Cond.code yX7_isOf cX7_isOf 4 (some .boolean) ∈ WA := List.mem_filter.mpr ⟨List.mem_of_getElem? (i := 655) (by decide +kernel), by decide +kernel⟩
theorem mw656 : Cond.methodLink RX7 75 yX7_kindOf ∈ WA := List.mem_filter.mpr ⟨List.mem_of_getElem? (i := 656) (by decide +kernel), by decide +kernel⟩
theorem mw657 : Cond.methodLink RL 111 yX8_ask ∈ WA := List.mem_filter.mpr ⟨List.mem_of_getElem? (i := 657) (by decide +kernel), by decide +kernel⟩
theorem mw658 : Cond.instanceMethod yX8_ask ∈ WA := List.mem_filter.mpr ⟨List.mem_of_getElem? (i := 658) (by decide +kernel), by decide +kernel⟩
theorem mw659 : Cond.selects RX8 yX8_ask yX8_ask ∈ WA := List.mem_filter.mpr ⟨List.mem_of_getElem? (i := 659) (by decide +kernel), by decide +kernel⟩
theorem mw660 : Cond.code yX8_ask cX8_ask 3 (some .int) ∈ WA := List.mem_filter.mpr ⟨List.mem_of_getElem? (i := 660) (by decide +kernel), by decide +kernel⟩
theorem mw661 : Cond.methodLink RX8 240 yX0_clear ∈ WA := List.mem_filter.mpr ⟨List.mem_of_getElem? (i := 661) (by decide +kernel), by decide +kernel⟩
theorem mw662 : Cond.instanceMethod yX0_clear ∈ WA := List.mem_filter.mpr ⟨List.mem_of_getElem? (i := 662) (by decide +kernel), by decide +kernel⟩
theorem mw663 : Cond.selects RX0 yX0_clear yX0_clear ∈ WA := List.mem_filter.mpr ⟨List.mem_of_getElem? (i := 663) (by decide +kernel), by decide +kernel⟩
theorem mw664 : Cond.code yX0_clear cX0_clear 1 none ∈ WA := List.mem_filter.mpr ⟨List.mem_of_getElem? (i := 664) (by decide +kernel), by decide +kernel⟩
theorem mw665 : Cond.methodLink RX8 243 yX0_sizeOf ∈ WA := List.mem_filter.mpr ⟨List.mem_of_getElem? (i := 665) (by decide +kernel), by decide +kernel⟩
theorem mw666 : Cond.instanceMethod yX0_sizeOf ∈ WA := List.mem_filter.mpr ⟨List.mem_of_getElem? (i := 666) (by decide +kernel), by decide +kernel⟩
theorem mw667 : Cond.selects RX0 yX0_sizeOf yX0_sizeOf ∈ WA := List.mem_filter.mpr ⟨List.mem_of_getElem? (i := 667) (by decide +kernel), by decide +kernel⟩
theorem mw668 : Cond.code yX0_sizeOf cX0_sizeOf 2 (some .int) ∈ WA := List.mem_filter.mpr ⟨List.mem_of_getElem? (i := 668) (by decide +kernel), by decide +kernel⟩
theorem mw669 : Cond.methodLink RX0 24 yX7_kindOf ∈ WA := List.mem_filter.mpr ⟨List.mem_of_getElem? (i := 669) (by decide +kernel), by decide +kernel⟩
theorem mw670 : Cond.methodLink RX0 30 yX0_body12 ∈ WA := List.mem_filter.mpr ⟨List.mem_of_getElem? (i := 670) (by decide +kernel), by decide +kernel⟩
theorem mw672 : Cond.instanceMethod yX0_body12 ∈ WA := List.mem_filter.mpr ⟨List.mem_of_getElem? (i := 672) (by decide +kernel), by decide +kernel⟩
theorem mw673 : Cond.code yX0_body12 cX0_body12 2 (some .int) ∈ WA := List.mem_filter.mpr ⟨List.mem_of_getElem? (i := 673) (by decide +kernel), by decide +kernel⟩
theorem mw674 : Cond.methodLink RX0 52 yX0_begin ∈ WA := List.mem_filter.mpr ⟨List.mem_of_getElem? (i := 674) (by decide +kernel), by decide +kernel⟩
theorem mw676 : Cond.instanceMethod yX0_begin ∈ WA := List.mem_filter.mpr ⟨List.mem_of_getElem? (i := 676) (by decide +kernel), by decide +kernel⟩
theorem mw677 : Cond.code yX0_begin cX0_begin 2 none ∈ WA := List.mem_filter.mpr ⟨List.mem_of_getElem? (i := 677) (by decide +kernel), by decide +kernel⟩
theorem mw678 : Cond.methodLink RX0 33 yX0_body11 ∈ WA := List.mem_filter.mpr ⟨List.mem_of_getElem? (i := 678) (by decide +kernel), by decide +kernel⟩
theorem mw680 : Cond.instanceMethod yX0_body11 ∈ WA := List.mem_filter.mpr ⟨List.mem_of_getElem? (i := 680) (by decide +kernel), by decide +kernel⟩
theorem mw681 : Cond.code yX0_body11 cX0_body11 2 (some .int) ∈ WA := List.mem_filter.mpr ⟨List.mem_of_getElem? (i := 681) (by decide +kernel), by decide +kernel⟩
theorem mw682 : Cond.methodLink RX0 40 yX0_body10 ∈ WA := List.mem_filter.mpr ⟨List.mem_of_getElem? (i := 682) (by decide +kernel), by decide +kernel⟩
theorem mw684 : Cond.instanceMethod yX0_body10 ∈ WA := List.mem_filter.mpr ⟨List.mem_of_getElem? (i := 684) (by decide +kernel), by decide +kernel⟩
theorem mw685 : Cond.code yX0_body10 cX0_body10 2 (some .int) ∈ WA := List.mem_filter.mpr ⟨List.mem_of_getElem? (i := 685) (by decide +kernel), by decide +kernel⟩
theorem mw686 : Cond.methodLink RX0 56 yX7_areaIn ∈ WA := List.mem_filter.mpr ⟨List.mem_of_getElem? (i := 686) (by decide +kernel), by decide +kernel⟩
theorem mw687 : Cond.methodLink RX0 43 yX0_body21 ∈ WA := List.mem_filter.mpr ⟨List.mem_of_getElem? (i := 687) (by decide +kernel), by decide +kernel⟩
theorem mw689 : Cond.instanceMethod yX0_body21 ∈ WA := List.mem_filter.mpr ⟨List.mem_of_getElem? (i := 689) (by decide +kernel), by decide +kernel⟩
theorem mw690 : Cond.code yX0_body21 cX0_body21 2 (some .int) ∈ WA := List.mem_filter.mpr ⟨List.mem_of_getElem? (i := 690) (by decide +kernel), by decide +kernel⟩
theorem mw691 : Cond.methodLink RX0 49 yX0_body20 ∈ WA := List.mem_filter.mpr ⟨List.mem_of_getElem? (i := 691) (by decide +kernel), by decide +kernel⟩
theorem mw693 : Cond.instanceMethod yX0_body20 ∈ WA := List.mem_filter.mpr ⟨List.mem_of_getElem? (i := 693) (by decide +kernel), by decide +kernel⟩
theorem mw694 : Cond.code yX0_body20 cX0_body20 2 (some .int) ∈ WA := List.mem_filter.mpr ⟨List.mem_of_getElem? (i := 694) (by decide +kernel), by decide +kernel⟩
theorem mw695 : Cond.methodLink RX0 60 yX7_corner ∈ WA := List.mem_filter.mpr ⟨List.mem_of_getElem? (i := 695) (by decide +kernel), by decide +kernel⟩
theorem mw696 : Cond.methodLink RX0 36 yX0_body13 ∈ WA := List.mem_filter.mpr ⟨List.mem_of_getElem? (i := 696) (by decide +kernel), by decide +kernel⟩
theorem mw698 : Cond.instanceMethod yX0_body13 ∈ WA := List.mem_filter.mpr ⟨List.mem_of_getElem? (i := 698) (by decide +kernel), by decide +kernel⟩
theorem mw699 : Cond.code yX0_body13 cX0_body13 1 (some .int) ∈ WA := List.mem_filter.mpr ⟨List.mem_of_getElem? (i := 699) (by decide +kernel), by decide +kernel⟩
theorem mw700 : Cond.methodLink RX8 246 yX0_markOf ∈ WA := List.mem_filter.mpr ⟨List.mem_of_getElem? (i := 700) (by decide +kernel), by decide +kernel⟩
theorem mw701 : Cond.instanceMethod yX0_markOf ∈ WA := List.mem_filter.mpr ⟨List.mem_of_getElem? (i := 701) (by decide +kernel), by decide +kernel⟩
theorem mw702 : Cond.selects RX0 yX0_markOf yX0_markOf ∈ WA := List.mem_filter.mpr ⟨List.mem_of_getElem? (i := 702) (by decide +kernel), by decide +kernel⟩
theorem mw703 : Cond.code yX0_markOf cX0_markOf 2 (some .int) ∈ WA := List.mem_filter.mpr ⟨List.mem_of_getElem? (i := 703) (by decide +kernel), by decide +kernel⟩
theorem mw704 : Cond.methodLink RX0 46 yX0_body22 ∈ WA := List.mem_filter.mpr ⟨List.mem_of_getElem? (i := 704) (by decide +kernel), by decide +kernel⟩
theorem mw706 : Cond.instanceMethod yX0_body22 ∈ WA := List.mem_filter.mpr ⟨List.mem_of_getElem? (i := 706) (by decide +kernel), by decide +kernel⟩
theorem mw707 : Cond.code yX0_body22 cX0_body22 2 (some .int) ∈ WA := List.mem_filter.mpr ⟨List.mem_of_getElem? (i := 707) (by decide +kernel), by decide +kernel⟩
theorem mw708 : Cond.methodLink RL 115 yX8_trace ∈ WA := List.mem_filter.mpr ⟨List.mem_of_getElem? (i := 708) (by decide +kernel), by decide +kernel⟩
theorem mw709 : Cond.instanceMethod yX8_trace ∈ WA := List.mem_filter.mpr ⟨List.mem_of_getElem? (i := 709) (by decide +kernel), by decide +kernel⟩
theorem mw710 : Cond.selects RX8 yX8_trace yX8_trace ∈ WA := List.mem_filter.mpr ⟨List.mem_of_getElem? (i := 710) (by decide +kernel), by decide +kernel⟩
theorem mw711 : Cond.code yX8_trace cX8_trace 2 (some .int) ∈ WA := List.mem_filter.mpr ⟨List.mem_of_getElem? (i := 711) (by decide +kernel), by decide +kernel⟩
theorem mw712 : Cond.methodLink RX8 249 yX0_traced ∈ WA := List.mem_filter.mpr ⟨List.mem_of_getElem? (i := 712) (by decide +kernel), by decide +kernel⟩
theorem mw713 : Cond.instanceMethod yX0_traced ∈ WA := List.mem_filter.mpr ⟨List.mem_of_getElem? (i := 713) (by decide +kernel), by decide +kernel⟩
theorem mw714 : Cond.selects RX0 yX0_traced yX0_traced ∈ WA := List.mem_filter.mpr ⟨List.mem_of_getElem? (i := 714) (by decide +kernel), by decide +kernel⟩
theorem mw715 : Cond.code yX0_traced cX0_traced 2 (some .int) ∈ WA := List.mem_filter.mpr ⟨List.mem_of_getElem? (i := 715) (by decide +kernel), by decide +kernel⟩
theorem mw716 : Cond.constant RX0 23 (-1000000) ∈ WA := List.mem_filter.mpr ⟨List.mem_of_getElem? (i := 716) (by decide +kernel), by decide +kernel⟩
theorem mw717 : Cond.methodLink RL 119 yX8_count ∈ WA := List.mem_filter.mpr ⟨List.mem_of_getElem? (i := 717) (by decide +kernel), by decide +kernel⟩
theorem mw718 : Cond.instanceMethod yX8_count ∈ WA := List.mem_filter.mpr ⟨List.mem_of_getElem? (i := 718) (by decide +kernel), by decide +kernel⟩
theorem mw719 : Cond.selects RX8 yX8_count yX8_count ∈ WA := List.mem_filter.mpr ⟨List.mem_of_getElem? (i := 719) (by decide +kernel), by decide +kernel⟩
theorem mw720 : Cond.code yX8_count cX8_count 2 (some .int) ∈ WA := List.mem_filter.mpr ⟨List.mem_of_getElem? (i := 720) (by decide +kernel), by decide +kernel⟩
theorem mw721 : Cond.methodLink RX8 252 yX6_many ∈ WA := List.mem_filter.mpr ⟨List.mem_of_getElem? (i := 721) (by decide +kernel), by decide +kernel⟩
theorem mw722 : Cond.instanceMethod yX6_many ∈ WA := List.mem_filter.mpr ⟨List.mem_of_getElem? (i := 722) (by decide +kernel), by decide +kernel⟩
theorem mw723 : Cond.selects RX6 yX6_many yX6_many ∈ WA := List.mem_filter.mpr ⟨List.mem_of_getElem? (i := 723) (by decide +kernel), by decide +kernel⟩
theorem mw724 : Cond.code yX6_many cX6_many 3 (some .int) ∈ WA := List.mem_filter.mpr ⟨List.mem_of_getElem? (i := 724) (by decide +kernel), by decide +kernel⟩
theorem mw725 : Cond.methodLink RX6 38 yX6_isMissing ∈ WA := List.mem_filter.mpr ⟨List.mem_of_getElem? (i := 725) (by decide +kernel), by decide +kernel⟩
theorem mw726 : Cond.methodLink RX8 255 yX3_many ∈ WA := List.mem_filter.mpr ⟨List.mem_of_getElem? (i := 726) (by decide +kernel), by decide +kernel⟩
theorem mw727 : Cond.methodLink RX8 256 yX7_many ∈ WA := List.mem_filter.mpr ⟨List.mem_of_getElem? (i := 727) (by decide +kernel), by decide +kernel⟩
theorem mw728 : Cond.methodLink RX8 257 yX7_manyOf ∈ WA := List.mem_filter.mpr ⟨List.mem_of_getElem? (i := 728) (by decide +kernel), by decide +kernel⟩
theorem mw729 : Cond.instanceMethod yX7_manyOf ∈ WA := List.mem_filter.mpr ⟨List.mem_of_getElem? (i := 729) (by decide +kernel), by decide +kernel⟩
theorem mw730 : Cond.selects RX7 yX7_manyOf yX7_manyOf ∈ WA := List.mem_filter.mpr ⟨List.mem_of_getElem? (i := 730) (by decide +kernel), by decide +kernel⟩
theorem mw731 : Cond.code yX7_manyOf cX7_manyOf 4 (some .int) ∈ WA := List.mem_filter.mpr ⟨List.mem_of_getElem? (i := 731) (by decide +kernel), by decide +kernel⟩
theorem mw732 : Cond.methodLink RX7 79 yX7_isOf ∈ WA := List.mem_filter.mpr ⟨List.mem_of_getElem? (i := 732) (by decide +kernel), by decide +kernel⟩
theorem mw733 : Cond.methodLink RX8 260 yX2_many ∈ WA := List.mem_filter.mpr ⟨List.mem_of_getElem? (i := 733) (by decide +kernel), by decide +kernel⟩
theorem mw734 : Cond.instanceMethod yX2_many ∈ WA := List.mem_filter.mpr ⟨List.mem_of_getElem? (i := 734) (by decide +kernel), by decide +kernel⟩
theorem mw735 : Cond.selects RX2 yX2_many yX2_many ∈ WA := List.mem_filter.mpr ⟨List.mem_of_getElem? (i := 735) (by decide +kernel), by decide +kernel⟩
theorem mw736 : Cond.code yX2_many cX2_many 1 (some .int) ∈ WA := List.mem_filter.mpr ⟨List.mem_of_getElem? (i := 736) (by decide +kernel), by decide +kernel⟩
theorem mw737 : Cond.methodLink RL 123 yX8_status ∈ WA := List.mem_filter.mpr ⟨List.mem_of_getElem? (i := 737) (by decide +kernel), by decide +kernel⟩
theorem mw738 : Cond.instanceMethod yX8_status ∈ WA := List.mem_filter.mpr ⟨List.mem_of_getElem? (i := 738) (by decide +kernel), by decide +kernel⟩
theorem mw739 : Cond.selects RX8 yX8_status yX8_status ∈ WA := List.mem_filter.mpr ⟨List.mem_of_getElem? (i := 739) (by decide +kernel), by decide +kernel⟩
theorem mw740 : Cond.code yX8_status cX8_status 1 (some .int) ∈ WA := List.mem_filter.mpr ⟨List.mem_of_getElem? (i := 740) (by decide +kernel), by decide +kernel⟩
theorem mw741 : Cond.classLink RL 10 RX9 ∈ WA := List.mem_filter.mpr ⟨List.mem_of_getElem? (i := 741) (by decide +kernel), by decide +kernel⟩
theorem mw742 : Cond.instantiable RX9 24 ∈ WA := List.mem_filter.mpr ⟨List.mem_of_getElem? (i := 742) (by decide +kernel), by decide +kernel⟩
theorem mw743 : Cond.methodLink RL 12 yX9_init ∈ WA := List.mem_filter.mpr ⟨List.mem_of_getElem? (i := 743) (by decide +kernel), by decide +kernel⟩
theorem mw744 : Cond.instanceMethod yX9_init ∈ WA := List.mem_filter.mpr ⟨List.mem_of_getElem? (i := 744) (by decide +kernel), by decide +kernel⟩
theorem mw745 : Cond.code yX9_init cX9_init 1 none ∈ WA := List.mem_filter.mpr ⟨List.mem_of_getElem? (i := 745) (by decide +kernel), by decide +kernel⟩
theorem mw746 : Cond.methodLink RX9 1 objectInit ∈ WA := List.mem_filter.mpr ⟨List.mem_of_getElem? (i := 746) (by decide +kernel), by decide +kernel⟩
theorem mw747 : Cond.fieldLink RX9 52 "ShapeBetweenModel" "thrown" "I" ∈ WA := List.mem_filter.mpr ⟨List.mem_of_getElem? (i := 747) (by decide +kernel), by decide +kernel⟩
theorem mw748 : Cond.fieldLink RX9 56 "ShapeBetweenModel" "status" "I" ∈ WA := List.mem_filter.mpr ⟨List.mem_of_getElem? (i := 748) (by decide +kernel), by decide +kernel⟩
theorem mw749 : Cond.fieldLink RX9 7 "ShapeBetweenModel" "lane" "[I" ∈ WA := List.mem_filter.mpr ⟨List.mem_of_getElem? (i := 749) (by decide +kernel), by decide +kernel⟩
theorem mw750 : Cond.fieldLink RX9 13 "ShapeBetweenModel" "many" "[I" ∈ WA := List.mem_filter.mpr ⟨List.mem_of_getElem? (i := 750) (by decide +kernel), by decide +kernel⟩
theorem mw751 : Cond.fieldLink RX9 16 "ShapeBetweenModel" "item" "[I" ∈ WA := List.mem_filter.mpr ⟨List.mem_of_getElem? (i := 751) (by decide +kernel), by decide +kernel⟩
theorem mw752 : Cond.fieldLink RX9 77 "ShapeBetweenModel" "marks" "I" ∈ WA := List.mem_filter.mpr ⟨List.mem_of_getElem? (i := 752) (by decide +kernel), by decide +kernel⟩
theorem mw753 : Cond.fieldLink RX9 19 "ShapeBetweenModel" "place" "[I" ∈ WA := List.mem_filter.mpr ⟨List.mem_of_getElem? (i := 753) (by decide +kernel), by decide +kernel⟩
theorem mw754 : Cond.fieldLink RX9 99 "ShapeBetweenModel" "thirds" "I" ∈ WA := List.mem_filter.mpr ⟨List.mem_of_getElem? (i := 754) (by decide +kernel), by decide +kernel⟩
theorem mw755 : Cond.fieldLink RX9 22 "ShapeBetweenModel" "corner" "[I" ∈ WA := List.mem_filter.mpr ⟨List.mem_of_getElem? (i := 755) (by decide +kernel), by decide +kernel⟩
theorem mw756 : Cond.fieldLink RX9 123 "ShapeBetweenModel" "keys" "I" ∈ WA := List.mem_filter.mpr ⟨List.mem_of_getElem? (i := 756) (by decide +kernel), by decide +kernel⟩
theorem mw757 : Cond.fieldLink RX9 25 "ShapeBetweenModel" "keyTime" "[I" ∈ WA := List.mem_filter.mpr ⟨List.mem_of_getElem? (i := 757) (by decide +kernel), by decide +kernel⟩
theorem mw758 : Cond.fieldLink RX9 28 "ShapeBetweenModel" "keyShare" "[I" ∈ WA := List.mem_filter.mpr ⟨List.mem_of_getElem? (i := 758) (by decide +kernel), by decide +kernel⟩
theorem mw759 : Cond.fieldLink RX9 126 "ShapeBetweenModel" "shareA" "J" ∈ WA := List.mem_filter.mpr ⟨List.mem_of_getElem? (i := 759) (by decide +kernel), by decide +kernel⟩
theorem mw760 : Cond.fieldLink RX9 130 "ShapeBetweenModel" "shareB" "J" ∈ WA := List.mem_filter.mpr ⟨List.mem_of_getElem? (i := 760) (by decide +kernel), by decide +kernel⟩
theorem mw761 : Cond.fieldLink RX9 133 "ShapeBetweenModel" "shareC" "J" ∈ WA := List.mem_filter.mpr ⟨List.mem_of_getElem? (i := 761) (by decide +kernel), by decide +kernel⟩
theorem mw762 : Cond.fieldLink RX9 31 "ShapeBetweenModel" "wide" "[I" ∈ WA := List.mem_filter.mpr ⟨List.mem_of_getElem? (i := 762) (by decide +kernel), by decide +kernel⟩
theorem mw763 : Cond.fieldLink RX9 34 "ShapeBetweenModel" "high" "[I" ∈ WA := List.mem_filter.mpr ⟨List.mem_of_getElem? (i := 763) (by decide +kernel), by decide +kernel⟩
theorem mw764 : Cond.fieldLink RX9 37 "ShapeBetweenModel" "cell" "[I" ∈ WA := List.mem_filter.mpr ⟨List.mem_of_getElem? (i := 764) (by decide +kernel), by decide +kernel⟩
theorem mw765 : Cond.fieldLink RX9 40 "ShapeBetweenModel" "least" "[I" ∈ WA := List.mem_filter.mpr ⟨List.mem_of_getElem? (i := 765) (by decide +kernel), by decide +kernel⟩
theorem mw766 : Cond.fieldLink RX9 161 "ShapeBetweenModel" "met" "I" ∈ WA := List.mem_filter.mpr ⟨List.mem_of_getElem? (i := 766) (by decide +kernel), by decide +kernel⟩
theorem mw767 : Cond.fieldLink RX9 43 "ShapeBetweenModel" "metA" "[I" ∈ WA := List.mem_filter.mpr ⟨List.mem_of_getElem? (i := 767) (by decide +kernel), by decide +kernel⟩
theorem mw768 : Cond.fieldLink RX9 46 "ShapeBetweenModel" "metB" "[I" ∈ WA := List.mem_filter.mpr ⟨List.mem_of_getElem? (i := 768) (by decide +kernel), by decide +kernel⟩
theorem mw769 : Cond.fieldLink RX9 49 "ShapeBetweenModel" "trace" "[I" ∈ WA := List.mem_filter.mpr ⟨List.mem_of_getElem? (i := 769) (by decide +kernel), by decide +kernel⟩
theorem mw770 : Cond.fieldLink RX9 177 "ShapeBetweenModel" "traced" "I" ∈ WA := List.mem_filter.mpr ⟨List.mem_of_getElem? (i := 770) (by decide +kernel), by decide +kernel⟩
theorem mw820 : Cond.methodLink RL 17 yX9_sheet ∈ WA := List.mem_filter.mpr ⟨List.mem_of_getElem? (i := 820) (by decide +kernel), by decide +kernel⟩
theorem mw821 : Cond.instanceMethod yX9_sheet ∈ WA := List.mem_filter.mpr ⟨List.mem_of_getElem? (i := 821) (by decide +kernel), by decide +kernel⟩
theorem mw822 : Cond.selects RX9 yX9_sheet yX9_sheet ∈ WA := List.mem_filter.mpr ⟨List.mem_of_getElem? (i := 822) (by decide +kernel), by decide +kernel⟩
theorem mw823 : Cond.code yX9_sheet cX9_sheet 5 (some .int) ∈ WA := List.mem_filter.mpr ⟨List.mem_of_getElem? (i := 823) (by decide +kernel), by decide +kernel⟩
theorem mw824 : Cond.methodLink RX9 66 yX9_isSheet ∈ WA := List.mem_filter.mpr ⟨List.mem_of_getElem? (i := 824) (by decide +kernel), by decide +kernel⟩
theorem mw825 : Cond.static yX9_isSheet ∈ WA := List.mem_filter.mpr ⟨List.mem_of_getElem? (i := 825) (by decide +kernel), by decide +kernel⟩
theorem mw826 : Cond.code yX9_isSheet cX9_isSheet 1 (some .boolean) ∈ WA := List.mem_filter.mpr ⟨List.mem_of_getElem? (i := 826) (by decide +kernel), by decide +kernel⟩
theorem mw827 : Cond.constantLong RX9 60 (7) ∈ WA := List.mem_filter.mpr ⟨List.mem_of_getElem? (i := 827) (by decide +kernel), by decide +kernel⟩
theorem mw828 : Cond.methodLink RX9 62 yX9_isIn ∈ WA := List.mem_filter.mpr ⟨List.mem_of_getElem? (i := 828) (by decide +kernel), by decide +kernel⟩
theorem mw829 : Cond.static yX9_isIn ∈ WA := List.mem_filter.mpr ⟨List.mem_of_getElem? (i := 829) (by decide +kernel), by decide +kernel⟩
theorem mw830 : Cond.code yX9_isIn cX9_isIn 6 (some .boolean) ∈ WA := List.mem_filter.mpr ⟨List.mem_of_getElem? (i := 830) (by decide +kernel), by decide +kernel⟩
theorem mw831 : Cond.constantLong RX9 70 (2) ∈ WA := List.mem_filter.mpr ⟨List.mem_of_getElem? (i := 831) (by decide +kernel), by decide +kernel⟩
theorem mw832 : Cond.constant RX9 72 (-1000001) ∈ WA := List.mem_filter.mpr ⟨List.mem_of_getElem? (i := 832) (by decide +kernel), by decide +kernel⟩
theorem mw833 : Cond.methodLink RX9 73 yX9_found ∈ WA := List.mem_filter.mpr ⟨List.mem_of_getElem? (i := 833) (by decide +kernel), by decide +kernel⟩
theorem mw835 : Cond.instanceMethod yX9_found ∈ WA := List.mem_filter.mpr ⟨List.mem_of_getElem? (i := 835) (by decide +kernel), by decide +kernel⟩
theorem mw836 : Cond.code yX9_found cX9_found 2 (some .int) ∈ WA := List.mem_filter.mpr ⟨List.mem_of_getElem? (i := 836) (by decide +kernel), by decide +kernel⟩
theorem mw837 : Cond.constant RX9 59 (-1000010) ∈ WA := List.mem_filter.mpr ⟨List.mem_of_getElem? (i := 837) (by decide +kernel), by decide +kernel⟩
theorem mw838 : Cond.methodLink RL 21 yX9_set ∈ WA := List.mem_filter.mpr ⟨List.mem_of_getElem? (i := 838) (by decide +kernel), by decide +kernel⟩
theorem mw839 : Cond.instanceMethod yX9_set ∈ WA := List.mem_filter.mpr ⟨List.mem_of_getElem? (i := 839) (by decide +kernel), by decide +kernel⟩
theorem mw840 : Cond.selects RX9 yX9_set yX9_set ∈ WA := List.mem_filter.mpr ⟨List.mem_of_getElem? (i := 840) (by decide +kernel), by decide +kernel⟩
theorem mw841 : Cond.code yX9_set cX9_set 4 (some .int) ∈ WA := List.mem_filter.mpr ⟨List.mem_of_getElem? (i := 841) (by decide +kernel), by decide +kernel⟩
theorem mw842 : Cond.methodLink RL 26 yX9_copy ∈ WA := List.mem_filter.mpr ⟨List.mem_of_getElem? (i := 842) (by decide +kernel), by decide +kernel⟩
theorem mw843 : Cond.instanceMethod yX9_copy ∈ WA := List.mem_filter.mpr ⟨List.mem_of_getElem? (i := 843) (by decide +kernel), by decide +kernel⟩
theorem mw844 : Cond.selects RX9 yX9_copy yX9_copy ∈ WA := List.mem_filter.mpr ⟨List.mem_of_getElem? (i := 844) (by decide +kernel), by decide +kernel⟩
theorem mw845 : Cond.code yX9_copy cX9_copy 9 (some .int) ∈ WA := List.mem_filter.mpr ⟨List.mem_of_getElem? (i := 845) (by decide +kernel), by decide +kernel⟩
theorem mw846 : Cond.methodLink RL 31 yX9_drop ∈ WA := List.mem_filter.mpr ⟨List.mem_of_getElem? (i := 846) (by decide +kernel), by decide +kernel⟩
theorem mw847 : Cond.instanceMethod yX9_drop ∈ WA := List.mem_filter.mpr ⟨List.mem_of_getElem? (i := 847) (by decide +kernel), by decide +kernel⟩
theorem mw848 : Cond.selects RX9 yX9_drop yX9_drop ∈ WA := List.mem_filter.mpr ⟨List.mem_of_getElem? (i := 848) (by decide +kernel), by decide +kernel⟩
theorem mw849 : Cond.code yX9_drop cX9_drop 2 (some .int) ∈ WA := List.mem_filter.mpr ⟨List.mem_of_getElem? (i := 849) (by decide +kernel), by decide +kernel⟩
theorem mw850 : Cond.methodLink RL 36 yX9_mark ∈ WA := List.mem_filter.mpr ⟨List.mem_of_getElem? (i := 850) (by decide +kernel), by decide +kernel⟩
theorem mw851 : Cond.instanceMethod yX9_mark ∈ WA := List.mem_filter.mpr ⟨List.mem_of_getElem? (i := 851) (by decide +kernel), by decide +kernel⟩
theorem mw852 : Cond.selects RX9 yX9_mark yX9_mark ∈ WA := List.mem_filter.mpr ⟨List.mem_of_getElem? (i := 852) (by decide +kernel), by decide +kernel⟩
theorem mw853 : Cond.code yX9_mark cX9_mark 5 (some .int) ∈ WA := List.mem_filter.mpr ⟨List.mem_of_getElem? (i := 853) (by decide +kernel), by decide +kernel⟩
theorem mw854 : Cond.methodLink RX9 84 yX9_isPlace ∈ WA := List.mem_filter.mpr ⟨List.mem_of_getElem? (i := 854) (by decide +kernel), by decide +kernel⟩
theorem mw855 : Cond.static yX9_isPlace ∈ WA := List.mem_filter.mpr ⟨List.mem_of_getElem? (i := 855) (by decide +kernel), by decide +kernel⟩
theorem mw856 : Cond.code yX9_isPlace cX9_isPlace 2 (some .boolean) ∈ WA := List.mem_filter.mpr ⟨List.mem_of_getElem? (i := 856) (by decide +kernel), by decide +kernel⟩
theorem mw857 : Cond.constantLong RX9 80 (1000) ∈ WA := List.mem_filter.mpr ⟨List.mem_of_getElem? (i := 857) (by decide +kernel), by decide +kernel⟩
theorem mw858 : Cond.constant RX9 88 (-1000003) ∈ WA := List.mem_filter.mpr ⟨List.mem_of_getElem? (i := 858) (by decide +kernel), by decide +kernel⟩
theorem mw859 : Cond.methodLink RL 40 yX9_move ∈ WA := List.mem_filter.mpr ⟨List.mem_of_getElem? (i := 859) (by decide +kernel), by decide +kernel⟩
theorem mw860 : Cond.instanceMethod yX9_move ∈ WA := List.mem_filter.mpr ⟨List.mem_of_getElem? (i := 860) (by decide +kernel), by decide +kernel⟩
theorem mw861 : Cond.selects RX9 yX9_move yX9_move ∈ WA := List.mem_filter.mpr ⟨List.mem_of_getElem? (i := 861) (by decide +kernel), by decide +kernel⟩
theorem mw862 : Cond.code yX9_move cX9_move 5 (some .int) ∈ WA := List.mem_filter.mpr ⟨List.mem_of_getElem? (i := 862) (by decide +kernel), by decide +kernel⟩
theorem mw863 : Cond.methodLink RX9 89 yX9_isMark ∈ WA := List.mem_filter.mpr ⟨List.mem_of_getElem? (i := 863) (by decide +kernel), by decide +kernel⟩
theorem mw865 : Cond.instanceMethod yX9_isMark ∈ WA := List.mem_filter.mpr ⟨List.mem_of_getElem? (i := 865) (by decide +kernel), by decide +kernel⟩
theorem mw866 : Cond.code yX9_isMark cX9_isMark 2 (some .boolean) ∈ WA := List.mem_filter.mpr ⟨List.mem_of_getElem? (i := 866) (by decide +kernel), by decide +kernel⟩
theorem mw867 : Cond.methodLink RL 44 yX9_at ∈ WA := List.mem_filter.mpr ⟨List.mem_of_getElem? (i := 867) (by decide +kernel), by decide +kernel⟩
theorem mw868 : Cond.instanceMethod yX9_at ∈ WA := List.mem_filter.mpr ⟨List.mem_of_getElem? (i := 868) (by decide +kernel), by decide +kernel⟩
theorem mw869 : Cond.selects RX9 yX9_at yX9_at ∈ WA := List.mem_filter.mpr ⟨List.mem_of_getElem? (i := 869) (by decide +kernel), by decide +kernel⟩
theorem mw870 : Cond.code yX9_at cX9_at 5 (some .int) ∈ WA := List.mem_filter.mpr ⟨List.mem_of_getElem? (i := 870) (by decide +kernel), by decide +kernel⟩
theorem mw871 : Cond.methodLink RX9 92 yX9_isTick ∈ WA := List.mem_filter.mpr ⟨List.mem_of_getElem? (i := 871) (by decide +kernel), by decide +kernel⟩
theorem mw872 : Cond.static yX9_isTick ∈ WA := List.mem_filter.mpr ⟨List.mem_of_getElem? (i := 872) (by decide +kernel), by decide +kernel⟩
theorem mw873 : Cond.code yX9_isTick cX9_isTick 2 (some .boolean) ∈ WA := List.mem_filter.mpr ⟨List.mem_of_getElem? (i := 873) (by decide +kernel), by decide +kernel⟩
theorem mw874 : Cond.constantLong RX9 82 (100) ∈ WA := List.mem_filter.mpr ⟨List.mem_of_getElem? (i := 874) (by decide +kernel), by decide +kernel⟩
theorem mw875 : Cond.methodLink RX9 95 yX9_placeAt ∈ WA := List.mem_filter.mpr ⟨List.mem_of_getElem? (i := 875) (by decide +kernel), by decide +kernel⟩
theorem mw877 : Cond.instanceMethod yX9_placeAt ∈ WA := List.mem_filter.mpr ⟨List.mem_of_getElem? (i := 877) (by decide +kernel), by decide +kernel⟩
theorem mw878 : Cond.code yX9_placeAt cX9_placeAt 5 (some .int) ∈ WA := List.mem_filter.mpr ⟨List.mem_of_getElem? (i := 878) (by decide +kernel), by decide +kernel⟩
theorem mw879 : Cond.methodLink RL 48 yX9_third ∈ WA := List.mem_filter.mpr ⟨List.mem_of_getElem? (i := 879) (by decide +kernel), by decide +kernel⟩
theorem mw880 : Cond.instanceMethod yX9_third ∈ WA := List.mem_filter.mpr ⟨List.mem_of_getElem? (i := 880) (by decide +kernel), by decide +kernel⟩
theorem mw881 : Cond.selects RX9 yX9_third yX9_third ∈ WA := List.mem_filter.mpr ⟨List.mem_of_getElem? (i := 881) (by decide +kernel), by decide +kernel⟩
theorem mw882 : Cond.code yX9_third cX9_third 6 (some .int) ∈ WA := List.mem_filter.mpr ⟨List.mem_of_getElem? (i := 882) (by decide +kernel), by decide +kernel⟩
theorem mw883 : Cond.constant RX9 102 (-1000002) ∈ WA := List.mem_filter.mpr ⟨List.mem_of_getElem? (i := 883) (by decide +kernel), by decide +kernel⟩
theorem mw884 : Cond.methodLink RL 53 yX9_told ∈ WA := List.mem_filter.mpr ⟨List.mem_of_getElem? (i := 884) (by decide +kernel), by decide +kernel⟩
theorem mw885 : Cond.instanceMethod yX9_told ∈ WA := List.mem_filter.mpr ⟨List.mem_of_getElem? (i := 885) (by decide +kernel), by decide +kernel⟩
theorem mw886 : Cond.selects RX9 yX9_told yX9_told ∈ WA := List.mem_filter.mpr ⟨List.mem_of_getElem? (i := 886) (by decide +kernel), by decide +kernel⟩
theorem mw887 : Cond.code yX9_told cX9_told 3 (some .int) ∈ WA := List.mem_filter.mpr ⟨List.mem_of_getElem? (i := 887) (by decide +kernel), by decide +kernel⟩
theorem mw888 : Cond.methodLink RX9 107 yX9_isThird ∈ WA := List.mem_filter.mpr ⟨List.mem_of_getElem? (i := 888) (by decide +kernel), by decide +kernel⟩
theorem mw890 : Cond.instanceMethod yX9_isThird ∈ WA := List.mem_filter.mpr ⟨List.mem_of_getElem? (i := 890) (by decide +kernel), by decide +kernel⟩
theorem mw891 : Cond.code yX9_isThird cX9_isThird 2 (some .boolean) ∈ WA := List.mem_filter.mpr ⟨List.mem_of_getElem? (i := 891) (by decide +kernel), by decide +kernel⟩
theorem mw892 : Cond.constantLong RX9 110 (4) ∈ WA := List.mem_filter.mpr ⟨List.mem_of_getElem? (i := 892) (by decide +kernel), by decide +kernel⟩
theorem mw893 : Cond.methodLink RX9 112 yX9_areaAt ∈ WA := List.mem_filter.mpr ⟨List.mem_of_getElem? (i := 893) (by decide +kernel), by decide +kernel⟩
theorem mw895 : Cond.instanceMethod yX9_areaAt ∈ WA := List.mem_filter.mpr ⟨List.mem_of_getElem? (i := 895) (by decide +kernel), by decide +kernel⟩
theorem mw896 : Cond.code yX9_areaAt cX9_areaAt 7 (some .long) ∈ WA := List.mem_filter.mpr ⟨List.mem_of_getElem? (i := 896) (by decide +kernel), by decide +kernel⟩
theorem mw897 : Cond.methodLink RX9 103 yX9_area ∈ WA := List.mem_filter.mpr ⟨List.mem_of_getElem? (i := 897) (by decide +kernel), by decide +kernel⟩
theorem mw898 : Cond.static yX9_area ∈ WA := List.mem_filter.mpr ⟨List.mem_of_getElem? (i := 898) (by decide +kernel), by decide +kernel⟩
theorem mw899 : Cond.code yX9_area cX9_area 12 (some .long) ∈ WA := List.mem_filter.mpr ⟨List.mem_of_getElem? (i := 899) (by decide +kernel), by decide +kernel⟩
theorem mw900 : Cond.methodLink RL 57 yX9_folds ∈ WA := List.mem_filter.mpr ⟨List.mem_of_getElem? (i := 900) (by decide +kernel), by decide +kernel⟩
theorem mw901 : Cond.instanceMethod yX9_folds ∈ WA := List.mem_filter.mpr ⟨List.mem_of_getElem? (i := 901) (by decide +kernel), by decide +kernel⟩
theorem mw902 : Cond.selects RX9 yX9_folds yX9_folds ∈ WA := List.mem_filter.mpr ⟨List.mem_of_getElem? (i := 902) (by decide +kernel), by decide +kernel⟩
theorem mw903 : Cond.code yX9_folds cX9_folds 3 (some .int) ∈ WA := List.mem_filter.mpr ⟨List.mem_of_getElem? (i := 903) (by decide +kernel), by decide +kernel⟩
theorem mw904 : Cond.methodLink RX9 117 yX9_foldsAt ∈ WA := List.mem_filter.mpr ⟨List.mem_of_getElem? (i := 904) (by decide +kernel), by decide +kernel⟩
theorem mw906 : Cond.instanceMethod yX9_foldsAt ∈ WA := List.mem_filter.mpr ⟨List.mem_of_getElem? (i := 906) (by decide +kernel), by decide +kernel⟩
theorem mw907 : Cond.code yX9_foldsAt cX9_foldsAt 4 (some .int) ∈ WA := List.mem_filter.mpr ⟨List.mem_of_getElem? (i := 907) (by decide +kernel), by decide +kernel⟩
theorem mw908 : Cond.constant RX9 116 (-1000000) ∈ WA := List.mem_filter.mpr ⟨List.mem_of_getElem? (i := 908) (by decide +kernel), by decide +kernel⟩
theorem mw909 : Cond.methodLink RL 61 yX9_first ∈ WA := List.mem_filter.mpr ⟨List.mem_of_getElem? (i := 909) (by decide +kernel), by decide +kernel⟩
theorem mw910 : Cond.instanceMethod yX9_first ∈ WA := List.mem_filter.mpr ⟨List.mem_of_getElem? (i := 910) (by decide +kernel), by decide +kernel⟩
theorem mw911 : Cond.selects RX9 yX9_first yX9_first ∈ WA := List.mem_filter.mpr ⟨List.mem_of_getElem? (i := 911) (by decide +kernel), by decide +kernel⟩
theorem mw912 : Cond.code yX9_first cX9_first 7 (some .int) ∈ WA := List.mem_filter.mpr ⟨List.mem_of_getElem? (i := 912) (by decide +kernel), by decide +kernel⟩
theorem mw913 : Cond.methodLink RL 65 yX9_sides ∈ WA := List.mem_filter.mpr ⟨List.mem_of_getElem? (i := 913) (by decide +kernel), by decide +kernel⟩
theorem mw914 : Cond.instanceMethod yX9_sides ∈ WA := List.mem_filter.mpr ⟨List.mem_of_getElem? (i := 914) (by decide +kernel), by decide +kernel⟩
theorem mw915 : Cond.selects RX9 yX9_sides yX9_sides ∈ WA := List.mem_filter.mpr ⟨List.mem_of_getElem? (i := 915) (by decide +kernel), by decide +kernel⟩
theorem mw916 : Cond.code yX9_sides cX9_sides 8 (some .int) ∈ WA := List.mem_filter.mpr ⟨List.mem_of_getElem? (i := 916) (by decide +kernel), by decide +kernel⟩
theorem mw917 : Cond.constantLong RX9 121 (24) ∈ WA := List.mem_filter.mpr ⟨List.mem_of_getElem? (i := 917) (by decide +kernel), by decide +kernel⟩
theorem mw918 : Cond.methodLink RL 69 yX9_key ∈ WA := List.mem_filter.mpr ⟨List.mem_of_getElem? (i := 918) (by decide +kernel), by decide +kernel⟩
theorem mw919 : Cond.instanceMethod yX9_key ∈ WA := List.mem_filter.mpr ⟨List.mem_of_getElem? (i := 919) (by decide +kernel), by decide +kernel⟩
theorem mw920 : Cond.selects RX9 yX9_key yX9_key ∈ WA := List.mem_filter.mpr ⟨List.mem_of_getElem? (i := 920) (by decide +kernel), by decide +kernel⟩
theorem mw921 : Cond.code yX9_key cX9_key 3 (some .int) ∈ WA := List.mem_filter.mpr ⟨List.mem_of_getElem? (i := 921) (by decide +kernel), by decide +kernel⟩
theorem mw922 : Cond.methodLink RL 73 yX9_eased ∈ WA := List.mem_filter.mpr ⟨List.mem_of_getElem? (i := 922) (by decide +kernel), by decide +kernel⟩
theorem mw923 : Cond.instanceMethod yX9_eased ∈ WA := List.mem_filter.mpr ⟨List.mem_of_getElem? (i := 923) (by decide +kernel), by decide +kernel⟩
theorem mw924 : Cond.selects RX9 yX9_eased yX9_eased ∈ WA := List.mem_filter.mpr ⟨List.mem_of_getElem? (i := 924) (by decide +kernel), by decide +kernel⟩
theorem mw925 : Cond.code yX9_eased cX9_eased 3 (some .int) ∈ WA := List.mem_filter.mpr ⟨List.mem_of_getElem? (i := 925) (by decide +kernel), by decide +kernel⟩
theorem mw926 : Cond.methodLink RL 78 yX9_unkey ∈ WA := List.mem_filter.mpr ⟨List.mem_of_getElem? (i := 926) (by decide +kernel), by decide +kernel⟩
theorem mw927 : Cond.instanceMethod yX9_unkey ∈ WA := List.mem_filter.mpr ⟨List.mem_of_getElem? (i := 927) (by decide +kernel), by decide +kernel⟩
theorem mw928 : Cond.selects RX9 yX9_unkey yX9_unkey ∈ WA := List.mem_filter.mpr ⟨List.mem_of_getElem? (i := 928) (by decide +kernel), by decide +kernel⟩
theorem mw929 : Cond.code yX9_unkey cX9_unkey 2 (some .int) ∈ WA := List.mem_filter.mpr ⟨List.mem_of_getElem? (i := 929) (by decide +kernel), by decide +kernel⟩
theorem mw930 : Cond.methodLink RL 82 yX9_in ∈ WA := List.mem_filter.mpr ⟨List.mem_of_getElem? (i := 930) (by decide +kernel), by decide +kernel⟩
theorem mw931 : Cond.instanceMethod yX9_in ∈ WA := List.mem_filter.mpr ⟨List.mem_of_getElem? (i := 931) (by decide +kernel), by decide +kernel⟩
theorem mw932 : Cond.selects RX9 yX9_in yX9_in ∈ WA := List.mem_filter.mpr ⟨List.mem_of_getElem? (i := 932) (by decide +kernel), by decide +kernel⟩
theorem mw933 : Cond.code yX9_in cX9_in 5 (some .int) ∈ WA := List.mem_filter.mpr ⟨List.mem_of_getElem? (i := 933) (by decide +kernel), by decide +kernel⟩
theorem mw934 : Cond.methodLink RX9 136 yX9_thirdAt ∈ WA := List.mem_filter.mpr ⟨List.mem_of_getElem? (i := 934) (by decide +kernel), by decide +kernel⟩
theorem mw936 : Cond.instanceMethod yX9_thirdAt ∈ WA := List.mem_filter.mpr ⟨List.mem_of_getElem? (i := 936) (by decide +kernel), by decide +kernel⟩
theorem mw937 : Cond.code yX9_thirdAt cX9_thirdAt 25 (some .int) ∈ WA := List.mem_filter.mpr ⟨List.mem_of_getElem? (i := 937) (by decide +kernel), by decide +kernel⟩
theorem mw938 : Cond.methodLink RL 86 yX9_from ∈ WA := List.mem_filter.mpr ⟨List.mem_of_getElem? (i := 938) (by decide +kernel), by decide +kernel⟩
theorem mw939 : Cond.instanceMethod yX9_from ∈ WA := List.mem_filter.mpr ⟨List.mem_of_getElem? (i := 939) (by decide +kernel), by decide +kernel⟩
theorem mw940 : Cond.selects RX9 yX9_from yX9_from ∈ WA := List.mem_filter.mpr ⟨List.mem_of_getElem? (i := 940) (by decide +kernel), by decide +kernel⟩
theorem mw941 : Cond.code yX9_from cX9_from 7 (some .int) ∈ WA := List.mem_filter.mpr ⟨List.mem_of_getElem? (i := 941) (by decide +kernel), by decide +kernel⟩
theorem mw942 : Cond.constantLong RX9 139 (3) ∈ WA := List.mem_filter.mpr ⟨List.mem_of_getElem? (i := 942) (by decide +kernel), by decide +kernel⟩
theorem mw943 : Cond.methodLink RX9 141 yX9_fromBy ∈ WA := List.mem_filter.mpr ⟨List.mem_of_getElem? (i := 943) (by decide +kernel), by decide +kernel⟩
theorem mw945 : Cond.instanceMethod yX9_fromBy ∈ WA := List.mem_filter.mpr ⟨List.mem_of_getElem? (i := 945) (by decide +kernel), by decide +kernel⟩
theorem mw946 : Cond.code yX9_fromBy cX9_fromBy 5 (some .int) ∈ WA := List.mem_filter.mpr ⟨List.mem_of_getElem? (i := 946) (by decide +kernel), by decide +kernel⟩
theorem mw947 : Cond.methodLink RL 90 yX9_picture ∈ WA := List.mem_filter.mpr ⟨List.mem_of_getElem? (i := 947) (by decide +kernel), by decide +kernel⟩
theorem mw948 : Cond.instanceMethod yX9_picture ∈ WA := List.mem_filter.mpr ⟨List.mem_of_getElem? (i := 948) (by decide +kernel), by decide +kernel⟩
theorem mw949 : Cond.selects RX9 yX9_picture yX9_picture ∈ WA := List.mem_filter.mpr ⟨List.mem_of_getElem? (i := 949) (by decide +kernel), by decide +kernel⟩
theorem mw950 : Cond.code yX9_picture cX9_picture 7 (some .int) ∈ WA := List.mem_filter.mpr ⟨List.mem_of_getElem? (i := 950) (by decide +kernel), by decide +kernel⟩
theorem mw951 : Cond.constantLong RX9 144 (12) ∈ WA := List.mem_filter.mpr ⟨List.mem_of_getElem? (i := 951) (by decide +kernel), by decide +kernel⟩
theorem mw952 : Cond.constantLong RX9 146 (255) ∈ WA := List.mem_filter.mpr ⟨List.mem_of_getElem? (i := 952) (by decide +kernel), by decide +kernel⟩
theorem mw953 : Cond.methodLink RL 94 yX9_seen ∈ WA := List.mem_filter.mpr ⟨List.mem_of_getElem? (i := 953) (by decide +kernel), by decide +kernel⟩
theorem mw954 : Cond.instanceMethod yX9_seen ∈ WA := List.mem_filter.mpr ⟨List.mem_of_getElem? (i := 954) (by decide +kernel), by decide +kernel⟩
theorem mw955 : Cond.selects RX9 yX9_seen yX9_seen ∈ WA := List.mem_filter.mpr ⟨List.mem_of_getElem? (i := 955) (by decide +kernel), by decide +kernel⟩
theorem mw956 : Cond.code yX9_seen cX9_seen 8 (some .int) ∈ WA := List.mem_filter.mpr ⟨List.mem_of_getElem? (i := 956) (by decide +kernel), by decide +kernel⟩
theorem mw957 : Cond.methodLink RX9 148 yX9_numberAt ∈ WA := List.mem_filter.mpr ⟨List.mem_of_getElem? (i := 957) (by decide +kernel), by decide +kernel⟩
theorem mw959 : Cond.instanceMethod yX9_numberAt ∈ WA := List.mem_filter.mpr ⟨List.mem_of_getElem? (i := 959) (by decide +kernel), by decide +kernel⟩
theorem mw960 : Cond.code yX9_numberAt cX9_numberAt 4 (some .int) ∈ WA := List.mem_filter.mpr ⟨List.mem_of_getElem? (i := 960) (by decide +kernel), by decide +kernel⟩
theorem mw961 : Cond.methodLink RL 98 yX9_pairs ∈ WA := List.mem_filter.mpr ⟨List.mem_of_getElem? (i := 961) (by decide +kernel), by decide +kernel⟩
theorem mw962 : Cond.instanceMethod yX9_pairs ∈ WA := List.mem_filter.mpr ⟨List.mem_of_getElem? (i := 962) (by decide +kernel), by decide +kernel⟩
theorem mw963 : Cond.selects RX9 yX9_pairs yX9_pairs ∈ WA := List.mem_filter.mpr ⟨List.mem_of_getElem? (i := 963) (by decide +kernel), by decide +kernel⟩
theorem mw964 : Cond.code yX9_pairs cX9_pairs 13 (some .int) ∈ WA := List.mem_filter.mpr ⟨List.mem_of_getElem? (i := 964) (by decide +kernel), by decide +kernel⟩
theorem mw965 : Cond.methodLink RX9 164 yX9_look ∈ WA := List.mem_filter.mpr ⟨List.mem_of_getElem? (i := 965) (by decide +kernel), by decide +kernel⟩
theorem mw967 : Cond.instanceMethod yX9_look ∈ WA := List.mem_filter.mpr ⟨List.mem_of_getElem? (i := 967) (by decide +kernel), by decide +kernel⟩
theorem mw968 : Cond.code yX9_look cX9_look 6 (some .int) ∈ WA := List.mem_filter.mpr ⟨List.mem_of_getElem? (i := 968) (by decide +kernel), by decide +kernel⟩
theorem mw969 : Cond.constantLong RX9 155 (30) ∈ WA := List.mem_filter.mpr ⟨List.mem_of_getElem? (i := 969) (by decide +kernel), by decide +kernel⟩
theorem mw970 : Cond.methodLink RX9 167 yX9_findPairs ∈ WA := List.mem_filter.mpr ⟨List.mem_of_getElem? (i := 970) (by decide +kernel), by decide +kernel⟩
theorem mw972 : Cond.instanceMethod yX9_findPairs ∈ WA := List.mem_filter.mpr ⟨List.mem_of_getElem? (i := 972) (by decide +kernel), by decide +kernel⟩
theorem mw973 : Cond.code yX9_findPairs cX9_findPairs 9 none ∈ WA := List.mem_filter.mpr ⟨List.mem_of_getElem? (i := 973) (by decide +kernel), by decide +kernel⟩
theorem mw974 : Cond.constant RX9 157 (1000000000) ∈ WA := List.mem_filter.mpr ⟨List.mem_of_getElem? (i := 974) (by decide +kernel), by decide +kernel⟩
theorem mw975 : Cond.methodLink RX9 158 yX9_apart ∈ WA := List.mem_filter.mpr ⟨List.mem_of_getElem? (i := 975) (by decide +kernel), by decide +kernel⟩
theorem mw977 : Cond.instanceMethod yX9_apart ∈ WA := List.mem_filter.mpr ⟨List.mem_of_getElem? (i := 977) (by decide +kernel), by decide +kernel⟩
theorem mw978 : Cond.code yX9_apart cX9_apart 5 (some .int) ∈ WA := List.mem_filter.mpr ⟨List.mem_of_getElem? (i := 978) (by decide +kernel), by decide +kernel⟩
theorem mw979 : Cond.methodLink RX9 152 yX9_size ∈ WA := List.mem_filter.mpr ⟨List.mem_of_getElem? (i := 979) (by decide +kernel), by decide +kernel⟩
theorem mw980 : Cond.static yX9_size ∈ WA := List.mem_filter.mpr ⟨List.mem_of_getElem? (i := 980) (by decide +kernel), by decide +kernel⟩
theorem mw981 : Cond.code yX9_size cX9_size 1 (some .int) ∈ WA := List.mem_filter.mpr ⟨List.mem_of_getElem? (i := 981) (by decide +kernel), by decide +kernel⟩
theorem mw982 : Cond.methodLink RL 102 yX9_pair ∈ WA := List.mem_filter.mpr ⟨List.mem_of_getElem? (i := 982) (by decide +kernel), by decide +kernel⟩
theorem mw983 : Cond.instanceMethod yX9_pair ∈ WA := List.mem_filter.mpr ⟨List.mem_of_getElem? (i := 983) (by decide +kernel), by decide +kernel⟩
theorem mw984 : Cond.selects RX9 yX9_pair yX9_pair ∈ WA := List.mem_filter.mpr ⟨List.mem_of_getElem? (i := 984) (by decide +kernel), by decide +kernel⟩
theorem mw985 : Cond.code yX9_pair cX9_pair 7 (some .int) ∈ WA := List.mem_filter.mpr ⟨List.mem_of_getElem? (i := 985) (by decide +kernel), by decide +kernel⟩
theorem mw986 : Cond.methodLink RL 106 yX9_kind ∈ WA := List.mem_filter.mpr ⟨List.mem_of_getElem? (i := 986) (by decide +kernel), by decide +kernel⟩
theorem mw987 : Cond.instanceMethod yX9_kind ∈ WA := List.mem_filter.mpr ⟨List.mem_of_getElem? (i := 987) (by decide +kernel), by decide +kernel⟩
theorem mw988 : Cond.selects RX9 yX9_kind yX9_kind ∈ WA := List.mem_filter.mpr ⟨List.mem_of_getElem? (i := 988) (by decide +kernel), by decide +kernel⟩
theorem mw989 : Cond.code yX9_kind cX9_kind 2 (some .int) ∈ WA := List.mem_filter.mpr ⟨List.mem_of_getElem? (i := 989) (by decide +kernel), by decide +kernel⟩
theorem mw990 : Cond.methodLink RX9 171 yX9_kindOf ∈ WA := List.mem_filter.mpr ⟨List.mem_of_getElem? (i := 990) (by decide +kernel), by decide +kernel⟩
theorem mw992 : Cond.instanceMethod yX9_kindOf ∈ WA := List.mem_filter.mpr ⟨List.mem_of_getElem? (i := 992) (by decide +kernel), by decide +kernel⟩
theorem mw993 : Cond.code yX9_kindOf cX9_kindOf 9 (some .int) ∈ WA := List.mem_filter.mpr ⟨List.mem_of_getElem? (i := 993) (by decide +kernel), by decide +kernel⟩
theorem mw994 : Cond.methodLink RL 110 yX9_as ∈ WA := List.mem_filter.mpr ⟨List.mem_of_getElem? (i := 994) (by decide +kernel), by decide +kernel⟩
theorem mw995 : Cond.instanceMethod yX9_as ∈ WA := List.mem_filter.mpr ⟨List.mem_of_getElem? (i := 995) (by decide +kernel), by decide +kernel⟩
theorem mw996 : Cond.selects RX9 yX9_as yX9_as ∈ WA := List.mem_filter.mpr ⟨List.mem_of_getElem? (i := 996) (by decide +kernel), by decide +kernel⟩
theorem mw997 : Cond.code yX9_as cX9_as 3 (some .int) ∈ WA := List.mem_filter.mpr ⟨List.mem_of_getElem? (i := 997) (by decide +kernel), by decide +kernel⟩
theorem mw998 : Cond.methodLink RX9 174 yX9_isOf ∈ WA := List.mem_filter.mpr ⟨List.mem_of_getElem? (i := 998) (by decide +kernel), by decide +kernel⟩
theorem mw999 : Cond.static yX9_isOf ∈ WA := List.mem_filter.mpr ⟨List.mem_of_getElem? (i := 999) (by decide +kernel), by decide +kernel⟩
theorem mw1000 : Cond.code yX9_isOf cX9_isOf 2 (some .boolean) ∈ WA := List.mem_filter.mpr ⟨List.mem_of_getElem? (i := 1000) (by decide +kernel), by decide +kernel⟩
theorem mw1001 : Cond.methodLink RL 114 yX9_ask ∈ WA := List.mem_filter.mpr ⟨List.mem_of_getElem? (i := 1001) (by decide +kernel), by decide +kernel⟩
theorem mw1002 : Cond.instanceMethod yX9_ask ∈ WA := List.mem_filter.mpr ⟨List.mem_of_getElem? (i := 1002) (by decide +kernel), by decide +kernel⟩
theorem mw1003 : Cond.selects RX9 yX9_ask yX9_ask ∈ WA := List.mem_filter.mpr ⟨List.mem_of_getElem? (i := 1003) (by decide +kernel), by decide +kernel⟩
theorem mw1004 : Cond.code yX9_ask cX9_ask 3 (some .int) ∈ WA := List.mem_filter.mpr ⟨List.mem_of_getElem? (i := 1004) (by decide +kernel), by decide +kernel⟩
theorem mw1005 : Cond.methodLink RX9 190 yX9_sized ∈ WA := List.mem_filter.mpr ⟨List.mem_of_getElem? (i := 1005) (by decide +kernel), by decide +kernel⟩
theorem mw1007 : Cond.instanceMethod yX9_sized ∈ WA := List.mem_filter.mpr ⟨List.mem_of_getElem? (i := 1007) (by decide +kernel), by decide +kernel⟩
theorem mw1008 : Cond.code yX9_sized cX9_sized 4 (some .int) ∈ WA := List.mem_filter.mpr ⟨List.mem_of_getElem? (i := 1008) (by decide +kernel), by decide +kernel⟩
theorem mw1009 : Cond.methodLink RX9 180 yX9_began ∈ WA := List.mem_filter.mpr ⟨List.mem_of_getElem? (i := 1009) (by decide +kernel), by decide +kernel⟩
theorem mw1011 : Cond.instanceMethod yX9_began ∈ WA := List.mem_filter.mpr ⟨List.mem_of_getElem? (i := 1011) (by decide +kernel), by decide +kernel⟩
theorem mw1012 : Cond.code yX9_began cX9_began 2 none ∈ WA := List.mem_filter.mpr ⟨List.mem_of_getElem? (i := 1012) (by decide +kernel), by decide +kernel⟩
theorem mw1013 : Cond.methodLink RX9 184 yX9_plainSize ∈ WA := List.mem_filter.mpr ⟨List.mem_of_getElem? (i := 1013) (by decide +kernel), by decide +kernel⟩
theorem mw1015 : Cond.instanceMethod yX9_plainSize ∈ WA := List.mem_filter.mpr ⟨List.mem_of_getElem? (i := 1015) (by decide +kernel), by decide +kernel⟩
theorem mw1016 : Cond.code yX9_plainSize cX9_plainSize 2 (some .int) ∈ WA := List.mem_filter.mpr ⟨List.mem_of_getElem? (i := 1016) (by decide +kernel), by decide +kernel⟩
theorem mw1017 : Cond.methodLink RX9 187 yX9_marked ∈ WA := List.mem_filter.mpr ⟨List.mem_of_getElem? (i := 1017) (by decide +kernel), by decide +kernel⟩
theorem mw1019 : Cond.instanceMethod yX9_marked ∈ WA := List.mem_filter.mpr ⟨List.mem_of_getElem? (i := 1019) (by decide +kernel), by decide +kernel⟩
theorem mw1020 : Cond.code yX9_marked cX9_marked 4 (some .int) ∈ WA := List.mem_filter.mpr ⟨List.mem_of_getElem? (i := 1020) (by decide +kernel), by decide +kernel⟩
theorem mw1021 : Cond.methodLink RL 118 yX9_trace ∈ WA := List.mem_filter.mpr ⟨List.mem_of_getElem? (i := 1021) (by decide +kernel), by decide +kernel⟩
theorem mw1022 : Cond.instanceMethod yX9_trace ∈ WA := List.mem_filter.mpr ⟨List.mem_of_getElem? (i := 1022) (by decide +kernel), by decide +kernel⟩
theorem mw1023 : Cond.selects RX9 yX9_trace yX9_trace ∈ WA := List.mem_filter.mpr ⟨List.mem_of_getElem? (i := 1023) (by decide +kernel), by decide +kernel⟩
theorem mw1024 : Cond.code yX9_trace cX9_trace 2 (some .int) ∈ WA := List.mem_filter.mpr ⟨List.mem_of_getElem? (i := 1024) (by decide +kernel), by decide +kernel⟩
theorem mw1025 : Cond.methodLink RL 122 yX9_count ∈ WA := List.mem_filter.mpr ⟨List.mem_of_getElem? (i := 1025) (by decide +kernel), by decide +kernel⟩
theorem mw1026 : Cond.instanceMethod yX9_count ∈ WA := List.mem_filter.mpr ⟨List.mem_of_getElem? (i := 1026) (by decide +kernel), by decide +kernel⟩
theorem mw1027 : Cond.selects RX9 yX9_count yX9_count ∈ WA := List.mem_filter.mpr ⟨List.mem_of_getElem? (i := 1027) (by decide +kernel), by decide +kernel⟩
theorem mw1028 : Cond.code yX9_count cX9_count 4 (some .int) ∈ WA := List.mem_filter.mpr ⟨List.mem_of_getElem? (i := 1028) (by decide +kernel), by decide +kernel⟩
theorem mw1029 : Cond.methodLink RL 126 yX9_status ∈ WA := List.mem_filter.mpr ⟨List.mem_of_getElem? (i := 1029) (by decide +kernel), by decide +kernel⟩
theorem mw1030 : Cond.instanceMethod yX9_status ∈ WA := List.mem_filter.mpr ⟨List.mem_of_getElem? (i := 1030) (by decide +kernel), by decide +kernel⟩
theorem mw1031 : Cond.selects RX9 yX9_status yX9_status ∈ WA := List.mem_filter.mpr ⟨List.mem_of_getElem? (i := 1031) (by decide +kernel), by decide +kernel⟩
theorem mw1032 : Cond.code yX9_status cX9_status 1 (some .int) ∈ WA := List.mem_filter.mpr ⟨List.mem_of_getElem? (i := 1032) (by decide +kernel), by decide +kernel⟩
