section
-- ===== PART A: goes FIRST, ahead of the names: the tables' words, and 'selects' of the private methods out of them =====
/-- a private method of a class that the tables say can be made, by its rows of tables_1 -/
def lw_okq (q : MethodName × Nat) : Prop := (q.1.cls ≠ "java/lang/invoke/MethodHandle" ∧ q.1.cls ≠ "java/lang/invoke/VarHandle") ∧ Cond.instantiable q.1.cls q.2 ∈ tables_1 ∧ Cond.privateMethod q.1 ∈ tables_1 ∧ Cond.instanceMethod q.1 ∈ tables_1
theorem lw_p0 : lw_okq (⟨"ShapeBetween", "found", "(I)I"⟩, 9) := ⟨⟨by decide +kernel, by decide +kernel⟩, List.mem_of_getElem? (i := 14) (by decide +kernel), List.mem_of_getElem? (i := 224) (by decide +kernel), List.mem_of_getElem? (i := 225) (by decide +kernel)⟩
theorem lw_p1 : lw_okq (⟨"ShapeBetween", "answered", "(I)I"⟩, 9) := ⟨⟨by decide +kernel, by decide +kernel⟩, List.mem_of_getElem? (i := 14) (by decide +kernel), List.mem_of_getElem? (i := 233) (by decide +kernel), List.mem_of_getElem? (i := 234) (by decide +kernel)⟩
theorem lw_p2 : lw_okq (⟨"ShapeBetween$Thirds", "thirdsAtSide", "(II)I"⟩, 3) := ⟨⟨by decide +kernel, by decide +kernel⟩, List.mem_of_getElem? (i := 55) (by decide +kernel), List.mem_of_getElem? (i := 425) (by decide +kernel), List.mem_of_getElem? (i := 426) (by decide +kernel)⟩
theorem lw_p3 : lw_okq (⟨"ShapeBetween$Easing", "shareBetween", "(III)I"⟩, 3) := ⟨⟨by decide +kernel, by decide +kernel⟩, List.mem_of_getElem? (i := 71) (by decide +kernel), List.mem_of_getElem? (i := 453) (by decide +kernel), List.mem_of_getElem? (i := 454) (by decide +kernel)⟩
theorem lw_p4 : lw_okq (⟨"ShapeBetween$Between", "share", "(IIIII)V"⟩, 7) := ⟨⟨by decide +kernel, by decide +kernel⟩, List.mem_of_getElem? (i := 87) (by decide +kernel), List.mem_of_getElem? (i := 477) (by decide +kernel), List.mem_of_getElem? (i := 478) (by decide +kernel)⟩
theorem lw_p5 : lw_okq (⟨"ShapeBetween", "numberFrom", "(I)I"⟩, 9) := ⟨⟨by decide +kernel, by decide +kernel⟩, List.mem_of_getElem? (i := 14) (by decide +kernel), List.mem_of_getElem? (i := 525) (by decide +kernel), List.mem_of_getElem? (i := 526) (by decide +kernel)⟩
theorem lw_p6 : lw_okq (⟨"ShapeBetween", "refusalOfRows", "(IIII)I"⟩, 9) := ⟨⟨by decide +kernel, by decide +kernel⟩, List.mem_of_getElem? (i := 14) (by decide +kernel), List.mem_of_getElem? (i := 537) (by decide +kernel), List.mem_of_getElem? (i := 538) (by decide +kernel)⟩
theorem lw_p7 : lw_okq (⟨"ShapeBetween$Pairing", "apart", "(II)I"⟩, 9) := ⟨⟨by decide +kernel, by decide +kernel⟩, List.mem_of_getElem? (i := 132) (by decide +kernel), List.mem_of_getElem? (i := 549) (by decide +kernel), List.mem_of_getElem? (i := 550) (by decide +kernel)⟩
theorem lw_p8 : lw_okq (⟨"ShapeBetween$Pairing", "costAhead", "(II)I"⟩, 9) := ⟨⟨by decide +kernel, by decide +kernel⟩, List.mem_of_getElem? (i := 132) (by decide +kernel), List.mem_of_getElem? (i := 557) (by decide +kernel), List.mem_of_getElem? (i := 558) (by decide +kernel)⟩
theorem lw_p9 : lw_okq (⟨"ShapeBetween$Pairing", "walkBack", "()V"⟩, 9) := ⟨⟨by decide +kernel, by decide +kernel⟩, List.mem_of_getElem? (i := 132) (by decide +kernel), List.mem_of_getElem? (i := 564) (by decide +kernel), List.mem_of_getElem? (i := 565) (by decide +kernel)⟩
theorem lw_p10 : lw_okq (⟨"ShapeBetween$Pairing", "meet", "(III)V"⟩, 9) := ⟨⟨by decide +kernel, by decide +kernel⟩, List.mem_of_getElem? (i := 132) (by decide +kernel), List.mem_of_getElem? (i := 568) (by decide +kernel), List.mem_of_getElem? (i := 569) (by decide +kernel)⟩
theorem lw_p11 : lw_okq (⟨"ShapeBetween$Pairing", "oftenMet", "([II)I"⟩, 9) := ⟨⟨by decide +kernel, by decide +kernel⟩, List.mem_of_getElem? (i := 132) (by decide +kernel), List.mem_of_getElem? (i := 576) (by decide +kernel), List.mem_of_getElem? (i := 577) (by decide +kernel)⟩
theorem lw_p12 : lw_okq (⟨"ShapeBetween$Pairing", "timesMet", "([II)I"⟩, 9) := ⟨⟨by decide +kernel, by decide +kernel⟩, List.mem_of_getElem? (i := 132) (by decide +kernel), List.mem_of_getElem? (i := 580) (by decide +kernel), List.mem_of_getElem? (i := 581) (by decide +kernel)⟩
theorem lw_p13 : lw_okq (⟨"ShapeBetween$Thirds", "staysWhole", "(I)Z"⟩, 3) := ⟨⟨by decide +kernel, by decide +kernel⟩, List.mem_of_getElem? (i := 55) (by decide +kernel), List.mem_of_getElem? (i := 602) (by decide +kernel), List.mem_of_getElem? (i := 603) (by decide +kernel)⟩
theorem lw_p14 : lw_okq (⟨"ShapeBetween$Asks", "body12", "(I)I"⟩, 3) := ⟨⟨by decide +kernel, by decide +kernel⟩, List.mem_of_getElem? (i := 166) (by decide +kernel), List.mem_of_getElem? (i := 632) (by decide +kernel), List.mem_of_getElem? (i := 633) (by decide +kernel)⟩
theorem lw_p15 : lw_okq (⟨"ShapeBetween$Asks", "begin", "(I)V"⟩, 3) := ⟨⟨by decide +kernel, by decide +kernel⟩, List.mem_of_getElem? (i := 166) (by decide +kernel), List.mem_of_getElem? (i := 636) (by decide +kernel), List.mem_of_getElem? (i := 637) (by decide +kernel)⟩
def lw_privs_1 : List (MethodName × Nat) := [(⟨"ShapeBetween", "found", "(I)I"⟩, 9), (⟨"ShapeBetween", "answered", "(I)I"⟩, 9), (⟨"ShapeBetween$Thirds", "thirdsAtSide", "(II)I"⟩, 3), (⟨"ShapeBetween$Easing", "shareBetween", "(III)I"⟩, 3), (⟨"ShapeBetween$Between", "share", "(IIIII)V"⟩, 7), (⟨"ShapeBetween", "numberFrom", "(I)I"⟩, 9), (⟨"ShapeBetween", "refusalOfRows", "(IIII)I"⟩, 9), (⟨"ShapeBetween$Pairing", "apart", "(II)I"⟩, 9), (⟨"ShapeBetween$Pairing", "costAhead", "(II)I"⟩, 9), (⟨"ShapeBetween$Pairing", "walkBack", "()V"⟩, 9), (⟨"ShapeBetween$Pairing", "meet", "(III)V"⟩, 9), (⟨"ShapeBetween$Pairing", "oftenMet", "([II)I"⟩, 9), (⟨"ShapeBetween$Pairing", "timesMet", "([II)I"⟩, 9), (⟨"ShapeBetween$Thirds", "staysWhole", "(I)Z"⟩, 3), (⟨"ShapeBetween$Asks", "body12", "(I)I"⟩, 3), (⟨"ShapeBetween$Asks", "begin", "(I)V"⟩, 3)]
theorem lw_r1 : ∀ q ∈ lw_privs_1, lw_okq q := List.forall_mem_cons.mpr ⟨lw_p0, List.forall_mem_cons.mpr ⟨lw_p1, List.forall_mem_cons.mpr ⟨lw_p2, List.forall_mem_cons.mpr ⟨lw_p3, List.forall_mem_cons.mpr ⟨lw_p4, List.forall_mem_cons.mpr ⟨lw_p5, List.forall_mem_cons.mpr ⟨lw_p6, List.forall_mem_cons.mpr ⟨lw_p7, List.forall_mem_cons.mpr ⟨lw_p8, List.forall_mem_cons.mpr ⟨lw_p9, List.forall_mem_cons.mpr ⟨lw_p10, List.forall_mem_cons.mpr ⟨lw_p11, List.forall_mem_cons.mpr ⟨lw_p12, List.forall_mem_cons.mpr ⟨lw_p13, List.forall_mem_cons.mpr ⟨lw_p14, List.forall_mem_cons.mpr ⟨lw_p15, fun _ h => absurd h List.not_mem_nil⟩⟩⟩⟩⟩⟩⟩⟩⟩⟩⟩⟩⟩⟩⟩⟩
theorem lw_p16 : lw_okq (⟨"ShapeBetween$Asks", "body11", "(I)I"⟩, 3) := ⟨⟨by decide +kernel, by decide +kernel⟩, List.mem_of_getElem? (i := 166) (by decide +kernel), List.mem_of_getElem? (i := 640) (by decide +kernel), List.mem_of_getElem? (i := 641) (by decide +kernel)⟩
theorem lw_p17 : lw_okq (⟨"ShapeBetween$Asks", "body10", "(I)I"⟩, 3) := ⟨⟨by decide +kernel, by decide +kernel⟩, List.mem_of_getElem? (i := 166) (by decide +kernel), List.mem_of_getElem? (i := 644) (by decide +kernel), List.mem_of_getElem? (i := 645) (by decide +kernel)⟩
theorem lw_p18 : lw_okq (⟨"ShapeBetween$Asks", "body21", "(I)I"⟩, 3) := ⟨⟨by decide +kernel, by decide +kernel⟩, List.mem_of_getElem? (i := 166) (by decide +kernel), List.mem_of_getElem? (i := 649) (by decide +kernel), List.mem_of_getElem? (i := 650) (by decide +kernel)⟩
theorem lw_p19 : lw_okq (⟨"ShapeBetween$Asks", "body20", "(I)I"⟩, 3) := ⟨⟨by decide +kernel, by decide +kernel⟩, List.mem_of_getElem? (i := 166) (by decide +kernel), List.mem_of_getElem? (i := 653) (by decide +kernel), List.mem_of_getElem? (i := 654) (by decide +kernel)⟩
theorem lw_p20 : lw_okq (⟨"ShapeBetween$Asks", "body13", "()I"⟩, 3) := ⟨⟨by decide +kernel, by decide +kernel⟩, List.mem_of_getElem? (i := 166) (by decide +kernel), List.mem_of_getElem? (i := 658) (by decide +kernel), List.mem_of_getElem? (i := 659) (by decide +kernel)⟩
theorem lw_p21 : lw_okq (⟨"ShapeBetween$Asks", "body22", "(I)I"⟩, 3) := ⟨⟨by decide +kernel, by decide +kernel⟩, List.mem_of_getElem? (i := 166) (by decide +kernel), List.mem_of_getElem? (i := 666) (by decide +kernel), List.mem_of_getElem? (i := 667) (by decide +kernel)⟩
theorem lw_p22 : lw_okq (⟨"ShapeBetweenModel", "found", "(I)I"⟩, 24) := ⟨⟨by decide +kernel, by decide +kernel⟩, List.mem_of_getElem? (i := 703) (by decide +kernel), List.mem_of_getElem? (i := 795) (by decide +kernel), List.mem_of_getElem? (i := 796) (by decide +kernel)⟩
theorem lw_p23 : lw_okq (⟨"ShapeBetweenModel", "isMark", "(I)Z"⟩, 24) := ⟨⟨by decide +kernel, by decide +kernel⟩, List.mem_of_getElem? (i := 703) (by decide +kernel), List.mem_of_getElem? (i := 825) (by decide +kernel), List.mem_of_getElem? (i := 826) (by decide +kernel)⟩
theorem lw_p24 : lw_okq (⟨"ShapeBetweenModel", "placeAt", "(IIII)I"⟩, 24) := ⟨⟨by decide +kernel, by decide +kernel⟩, List.mem_of_getElem? (i := 703) (by decide +kernel), List.mem_of_getElem? (i := 837) (by decide +kernel), List.mem_of_getElem? (i := 838) (by decide +kernel)⟩
theorem lw_p25 : lw_okq (⟨"ShapeBetweenModel", "isThird", "(I)Z"⟩, 24) := ⟨⟨by decide +kernel, by decide +kernel⟩, List.mem_of_getElem? (i := 703) (by decide +kernel), List.mem_of_getElem? (i := 850) (by decide +kernel), List.mem_of_getElem? (i := 851) (by decide +kernel)⟩
theorem lw_p26 : lw_okq (⟨"ShapeBetweenModel", "areaAt", "(III)J"⟩, 24) := ⟨⟨by decide +kernel, by decide +kernel⟩, List.mem_of_getElem? (i := 703) (by decide +kernel), List.mem_of_getElem? (i := 855) (by decide +kernel), List.mem_of_getElem? (i := 856) (by decide +kernel)⟩
theorem lw_p27 : lw_okq (⟨"ShapeBetweenModel", "foldsAt", "(II)I"⟩, 24) := ⟨⟨by decide +kernel, by decide +kernel⟩, List.mem_of_getElem? (i := 703) (by decide +kernel), List.mem_of_getElem? (i := 866) (by decide +kernel), List.mem_of_getElem? (i := 867) (by decide +kernel)⟩
theorem lw_p28 : lw_okq (⟨"ShapeBetweenModel", "thirdAt", "(IIII)I"⟩, 24) := ⟨⟨by decide +kernel, by decide +kernel⟩, List.mem_of_getElem? (i := 703) (by decide +kernel), List.mem_of_getElem? (i := 896) (by decide +kernel), List.mem_of_getElem? (i := 897) (by decide +kernel)⟩
theorem lw_p29 : lw_okq (⟨"ShapeBetweenModel", "fromBy", "(II)I"⟩, 24) := ⟨⟨by decide +kernel, by decide +kernel⟩, List.mem_of_getElem? (i := 703) (by decide +kernel), List.mem_of_getElem? (i := 905) (by decide +kernel), List.mem_of_getElem? (i := 906) (by decide +kernel)⟩
theorem lw_p30 : lw_okq (⟨"ShapeBetweenModel", "numberAt", "(III)I"⟩, 24) := ⟨⟨by decide +kernel, by decide +kernel⟩, List.mem_of_getElem? (i := 703) (by decide +kernel), List.mem_of_getElem? (i := 919) (by decide +kernel), List.mem_of_getElem? (i := 920) (by decide +kernel)⟩
theorem lw_p31 : lw_okq (⟨"ShapeBetweenModel", "look", "(IIII)I"⟩, 24) := ⟨⟨by decide +kernel, by decide +kernel⟩, List.mem_of_getElem? (i := 703) (by decide +kernel), List.mem_of_getElem? (i := 927) (by decide +kernel), List.mem_of_getElem? (i := 928) (by decide +kernel)⟩
def lw_privs_2 : List (MethodName × Nat) := [(⟨"ShapeBetween$Asks", "body11", "(I)I"⟩, 3), (⟨"ShapeBetween$Asks", "body10", "(I)I"⟩, 3), (⟨"ShapeBetween$Asks", "body21", "(I)I"⟩, 3), (⟨"ShapeBetween$Asks", "body20", "(I)I"⟩, 3), (⟨"ShapeBetween$Asks", "body13", "()I"⟩, 3), (⟨"ShapeBetween$Asks", "body22", "(I)I"⟩, 3), (⟨"ShapeBetweenModel", "found", "(I)I"⟩, 24), (⟨"ShapeBetweenModel", "isMark", "(I)Z"⟩, 24), (⟨"ShapeBetweenModel", "placeAt", "(IIII)I"⟩, 24), (⟨"ShapeBetweenModel", "isThird", "(I)Z"⟩, 24), (⟨"ShapeBetweenModel", "areaAt", "(III)J"⟩, 24), (⟨"ShapeBetweenModel", "foldsAt", "(II)I"⟩, 24), (⟨"ShapeBetweenModel", "thirdAt", "(IIII)I"⟩, 24), (⟨"ShapeBetweenModel", "fromBy", "(II)I"⟩, 24), (⟨"ShapeBetweenModel", "numberAt", "(III)I"⟩, 24), (⟨"ShapeBetweenModel", "look", "(IIII)I"⟩, 24)]
theorem lw_r2 : ∀ q ∈ lw_privs_2, lw_okq q := List.forall_mem_cons.mpr ⟨lw_p16, List.forall_mem_cons.mpr ⟨lw_p17, List.forall_mem_cons.mpr ⟨lw_p18, List.forall_mem_cons.mpr ⟨lw_p19, List.forall_mem_cons.mpr ⟨lw_p20, List.forall_mem_cons.mpr ⟨lw_p21, List.forall_mem_cons.mpr ⟨lw_p22, List.forall_mem_cons.mpr ⟨lw_p23, List.forall_mem_cons.mpr ⟨lw_p24, List.forall_mem_cons.mpr ⟨lw_p25, List.forall_mem_cons.mpr ⟨lw_p26, List.forall_mem_cons.mpr ⟨lw_p27, List.forall_mem_cons.mpr ⟨lw_p28, List.forall_mem_cons.mpr ⟨lw_p29, List.forall_mem_cons.mpr ⟨lw_p30, List.forall_mem_cons.mpr ⟨lw_p31, fun _ h => absurd h List.not_mem_nil⟩⟩⟩⟩⟩⟩⟩⟩⟩⟩⟩⟩⟩⟩⟩⟩
theorem lw_p32 : lw_okq (⟨"ShapeBetweenModel", "findPairs", "(IIII)V"⟩, 24) := ⟨⟨by decide +kernel, by decide +kernel⟩, List.mem_of_getElem? (i := 703) (by decide +kernel), List.mem_of_getElem? (i := 932) (by decide +kernel), List.mem_of_getElem? (i := 933) (by decide +kernel)⟩
theorem lw_p33 : lw_okq (⟨"ShapeBetweenModel", "apart", "(IIII)I"⟩, 24) := ⟨⟨by decide +kernel, by decide +kernel⟩, List.mem_of_getElem? (i := 703) (by decide +kernel), List.mem_of_getElem? (i := 937) (by decide +kernel), List.mem_of_getElem? (i := 938) (by decide +kernel)⟩
theorem lw_p34 : lw_okq (⟨"ShapeBetweenModel", "kindOf", "(I)I"⟩, 24) := ⟨⟨by decide +kernel, by decide +kernel⟩, List.mem_of_getElem? (i := 703) (by decide +kernel), List.mem_of_getElem? (i := 952) (by decide +kernel), List.mem_of_getElem? (i := 953) (by decide +kernel)⟩
theorem lw_p35 : lw_okq (⟨"ShapeBetweenModel", "sized", "(I)I"⟩, 24) := ⟨⟨by decide +kernel, by decide +kernel⟩, List.mem_of_getElem? (i := 703) (by decide +kernel), List.mem_of_getElem? (i := 967) (by decide +kernel), List.mem_of_getElem? (i := 968) (by decide +kernel)⟩
theorem lw_p36 : lw_okq (⟨"ShapeBetweenModel", "began", "(I)V"⟩, 24) := ⟨⟨by decide +kernel, by decide +kernel⟩, List.mem_of_getElem? (i := 703) (by decide +kernel), List.mem_of_getElem? (i := 971) (by decide +kernel), List.mem_of_getElem? (i := 972) (by decide +kernel)⟩
theorem lw_p37 : lw_okq (⟨"ShapeBetweenModel", "plainSize", "(I)I"⟩, 24) := ⟨⟨by decide +kernel, by decide +kernel⟩, List.mem_of_getElem? (i := 703) (by decide +kernel), List.mem_of_getElem? (i := 975) (by decide +kernel), List.mem_of_getElem? (i := 976) (by decide +kernel)⟩
theorem lw_p38 : lw_okq (⟨"ShapeBetweenModel", "marked", "(I)I"⟩, 24) := ⟨⟨by decide +kernel, by decide +kernel⟩, List.mem_of_getElem? (i := 703) (by decide +kernel), List.mem_of_getElem? (i := 979) (by decide +kernel), List.mem_of_getElem? (i := 980) (by decide +kernel)⟩
def lw_privs_3 : List (MethodName × Nat) := [(⟨"ShapeBetweenModel", "findPairs", "(IIII)V"⟩, 24), (⟨"ShapeBetweenModel", "apart", "(IIII)I"⟩, 24), (⟨"ShapeBetweenModel", "kindOf", "(I)I"⟩, 24), (⟨"ShapeBetweenModel", "sized", "(I)I"⟩, 24), (⟨"ShapeBetweenModel", "began", "(I)V"⟩, 24), (⟨"ShapeBetweenModel", "plainSize", "(I)I"⟩, 24), (⟨"ShapeBetweenModel", "marked", "(I)I"⟩, 24)]
theorem lw_r3 : ∀ q ∈ lw_privs_3, lw_okq q := List.forall_mem_cons.mpr ⟨lw_p32, List.forall_mem_cons.mpr ⟨lw_p33, List.forall_mem_cons.mpr ⟨lw_p34, List.forall_mem_cons.mpr ⟨lw_p35, List.forall_mem_cons.mpr ⟨lw_p36, List.forall_mem_cons.mpr ⟨lw_p37, List.forall_mem_cons.mpr ⟨lw_p38, fun _ h => absurd h List.not_mem_nil⟩⟩⟩⟩⟩⟩⟩
def lw_privs : List (MethodName × Nat) := lw_privs_1 ++ (lw_privs_2 ++ (lw_privs_3))
def lw_tbl : List Cond := k2_sels lw_privs ++ tables_1
theorem lw_privs_ok : ∀ q ∈ lw_privs, lw_okq q := by
  show ∀ q ∈ lw_privs_1 ++ (lw_privs_2 ++ (lw_privs_3)), lw_okq q
  exact List.forall_mem_append.mpr ⟨lw_r1, List.forall_mem_append.mpr ⟨lw_r2, lw_r3⟩⟩
end
section
def RX0 : String := "ShapeBetween$Asks"
def TX0 : u_T := fun k => match k with
  | 0 => ("ShapeBetween$Asks", "thirds", "LShapeBetween$Thirds;", true)
  | 1 => ("ShapeBetween$Asks", "numbers", "[I", true)
  | _ => ("ShapeBetween$Asks", "many", "I", false)
def tyX0 : Nat → FieldType := fun k => match k with
  | 0 => .object "ShapeBetween$Thirds"
  | 1 => .array .int
  | _ => .int
abbrev wsX00 : List Cond := u_ws RX0 TX0 3
theorem nmX0 : ∀ a, a < 3 → ∀ b, b < 3 → a ≠ b → (TX0 a).2.1 ≠ (TX0 b).2.1 := by decide +kernel
theorem tyX0_ok : ∀ k, k < 3 → parseFieldDescriptor (TX0 k).2.2.1 = some (tyX0 k) := by decide +kernel
abbrev cX0_init : ByteArray := prog_2_method_1_code
def yX0_init : MethodName := ⟨RX0, "<init>", "(LShapeBetween$Thirds;)V"⟩
abbrev cX0_clear : ByteArray := prog_2_method_2_code
def yX0_clear : MethodName := ⟨RX0, "clear", "()V"⟩
abbrev cX0_traced : ByteArray := prog_2_method_3_code
def yX0_traced : MethodName := ⟨RX0, "traced", "(I)I"⟩
abbrev cX0_sizeOf : ByteArray := prog_2_method_4_code
def yX0_sizeOf : MethodName := ⟨RX0, "sizeOf", "(I)I"⟩
abbrev cX0_markOf : ByteArray := prog_2_method_5_code
def yX0_markOf : MethodName := ⟨RX0, "markOf", "(I)I"⟩
abbrev cX0_begin : ByteArray := prog_2_method_6_code
def yX0_begin : MethodName := ⟨RX0, "begin", "(I)V"⟩
abbrev cX0_body10 : ByteArray := prog_2_method_7_code
def yX0_body10 : MethodName := ⟨RX0, "body10", "(I)I"⟩
abbrev cX0_body11 : ByteArray := prog_2_method_8_code
def yX0_body11 : MethodName := ⟨RX0, "body11", "(I)I"⟩
abbrev cX0_body12 : ByteArray := prog_2_method_9_code
def yX0_body12 : MethodName := ⟨RX0, "body12", "(I)I"⟩
abbrev cX0_body13 : ByteArray := prog_2_method_10_code
def yX0_body13 : MethodName := ⟨RX0, "body13", "()I"⟩
abbrev cX0_body20 : ByteArray := prog_2_method_11_code
def yX0_body20 : MethodName := ⟨RX0, "body20", "(I)I"⟩
abbrev cX0_body21 : ByteArray := prog_2_method_12_code
def yX0_body21 : MethodName := ⟨RX0, "body21", "(I)I"⟩
abbrev cX0_body22 : ByteArray := prog_2_method_13_code
def yX0_body22 : MethodName := ⟨RX0, "body22", "(I)I"⟩
def RX1 : String := "ShapeBetween$Between"
def TX1 : u_T := fun k => match k with
  | 0 => ("ShapeBetween$Between", "marks", "LShapeBetween$Marks;", true)
  | 1 => ("ShapeBetween$Between", "thirds", "LShapeBetween$Thirds;", true)
  | 2 => ("ShapeBetween$Between", "third", "I", false)
  | 3 => ("ShapeBetween$Between", "area", "J", false)
  | 4 => ("ShapeBetween$Between", "shareA", "J", false)
  | 5 => ("ShapeBetween$Between", "shareB", "J", false)
  | _ => ("ShapeBetween$Between", "shareC", "J", false)
def tyX1 : Nat → FieldType := fun k => match k with
  | 0 => .object "ShapeBetween$Marks"
  | 1 => .object "ShapeBetween$Thirds"
  | 2 => .int
  | 3 => .long
  | 4 => .long
  | 5 => .long
  | _ => .long
abbrev wsX10 : List Cond := u_ws RX1 TX1 7
theorem nmX1 : ∀ a, a < 7 → ∀ b, b < 7 → a ≠ b → (TX1 a).2.1 ≠ (TX1 b).2.1 := by decide +kernel
theorem tyX1_ok : ∀ k, k < 7 → parseFieldDescriptor (TX1 k).2.2.1 = some (tyX1 k) := by decide +kernel
abbrev cX1_init : ByteArray := prog_3_method_1_code
def yX1_init : MethodName := ⟨RX1, "<init>", "(LShapeBetween$Marks;LShapeBetween$Thirds;)V"⟩
abbrev cX1_find : ByteArray := prog_3_method_2_code
def yX1_find : MethodName := ⟨RX1, "find", "(IIII)I"⟩
abbrev cX1_share : ByteArray := prog_3_method_3_code
def yX1_share : MethodName := ⟨RX1, "share", "(IIIII)V"⟩
abbrev cX1_originX : ByteArray := prog_3_method_4_code
def yX1_originX : MethodName := ⟨RX1, "originX", "(I)I"⟩
abbrev cX1_originY : ByteArray := prog_3_method_5_code
def yX1_originY : MethodName := ⟨RX1, "originY", "(I)I"⟩
def RX2 : String := "ShapeBetween$Easing"
def TX2 : u_T := fun k => match k with
  | 0 => ("ShapeBetween$Easing", "many", "I", false)
  | 1 => ("ShapeBetween$Easing", "times", "[I", true)
  | _ => ("ShapeBetween$Easing", "shares", "[I", true)
def tyX2 : Nat → FieldType := fun k => match k with
  | 0 => .int
  | 1 => .array .int
  | _ => .array .int
abbrev wsX20 : List Cond := u_ws RX2 TX2 3
theorem nmX2 : ∀ a, a < 3 → ∀ b, b < 3 → a ≠ b → (TX2 a).2.1 ≠ (TX2 b).2.1 := by decide +kernel
theorem tyX2_ok : ∀ k, k < 3 → parseFieldDescriptor (TX2 k).2.2.1 = some (tyX2 k) := by decide +kernel
abbrev cX2_init : ByteArray := prog_4_method_1_code
def yX2_init : MethodName := ⟨RX2, "<init>", "()V"⟩
abbrev cX2_many : ByteArray := prog_4_method_2_code
def yX2_many : MethodName := ⟨RX2, "many", "()I"⟩
abbrev cX2_isFull : ByteArray := prog_4_method_3_code
def yX2_isFull : MethodName := ⟨RX2, "isFull", "()Z"⟩
abbrev cX2_rises : ByteArray := prog_4_method_4_code
def yX2_rises : MethodName := ⟨RX2, "rises", "(II)Z"⟩
abbrev cX2_add : ByteArray := prog_4_method_5_code
def yX2_add : MethodName := ⟨RX2, "add", "(II)I"⟩
abbrev cX2_takeAway : ByteArray := prog_4_method_6_code
def yX2_takeAway : MethodName := ⟨RX2, "takeAway", "()I"⟩
abbrev cX2_shareAt : ByteArray := prog_4_method_7_code
def yX2_shareAt : MethodName := ⟨RX2, "shareAt", "(I)I"⟩
abbrev cX2_shareBetween : ByteArray := prog_4_method_8_code
def yX2_shareBetween : MethodName := ⟨RX2, "shareBetween", "(III)I"⟩
def RX3 : String := "ShapeBetween$Marks"
def TX3 : u_T := fun k => match k with
  | 0 => ("ShapeBetween$Marks", "many", "I", false)
  | 1 => ("ShapeBetween$Marks", "xs", "[I", true)
  | _ => ("ShapeBetween$Marks", "ys", "[I", true)
def tyX3 : Nat → FieldType := fun k => match k with
  | 0 => .int
  | 1 => .array .int
  | _ => .array .int
abbrev wsX30 : List Cond := u_ws RX3 TX3 3
theorem nmX3 : ∀ a, a < 3 → ∀ b, b < 3 → a ≠ b → (TX3 a).2.1 ≠ (TX3 b).2.1 := by decide +kernel
theorem tyX3_ok : ∀ k, k < 3 → parseFieldDescriptor (TX3 k).2.2.1 = some (tyX3 k) := by decide +kernel
abbrev cX3_init : ByteArray := prog_5_method_1_code
def yX3_init : MethodName := ⟨RX3, "<init>", "()V"⟩
abbrev cX3_many : ByteArray := prog_5_method_2_code
def yX3_many : MethodName := ⟨RX3, "many", "()I"⟩
abbrev cX3_isFull : ByteArray := prog_5_method_3_code
def yX3_isFull : MethodName := ⟨RX3, "isFull", "()Z"⟩
abbrev cX3_isMark : ByteArray := prog_5_method_4_code
def yX3_isMark : MethodName := ⟨RX3, "isMark", "(I)Z"⟩
abbrev cX3_add : ByteArray := prog_5_method_5_code
def yX3_add : MethodName := ⟨RX3, "add", "(IIII)I"⟩
abbrev cX3_put : ByteArray := prog_5_method_6_code
def yX3_put : MethodName := ⟨RX3, "put", "(IIII)V"⟩
abbrev cX3_x : ByteArray := prog_5_method_7_code
def yX3_x : MethodName := ⟨RX3, "x", "(II)I"⟩
abbrev cX3_y : ByteArray := prog_5_method_8_code
def yX3_y : MethodName := ⟨RX3, "y", "(II)I"⟩
abbrev cX3_tickX : ByteArray := prog_5_method_9_code
def yX3_tickX : MethodName := ⟨RX3, "tickX", "(III)I"⟩
abbrev cX3_tickY : ByteArray := prog_5_method_10_code
def yX3_tickY : MethodName := ⟨RX3, "tickY", "(III)I"⟩
abbrev cX3_stays : ByteArray := prog_5_method_11_code
def yX3_stays : MethodName := ⟨RX3, "stays", "(I)Z"⟩
abbrev cX3_area : ByteArray := prog_5_method_12_code
def yX3_area : MethodName := ⟨RX3, "area", "(JJJJJJ)J"⟩
def RX4 : String := "ShapeBetween$Pairing"
def TX4 : u_T := fun k => match k with
  | 0 => ("ShapeBetween$Pairing", "sheets", "LShapeBetween$Sheets;", true)
  | 1 => ("ShapeBetween$Pairing", "rowA", "I", false)
  | 2 => ("ShapeBetween$Pairing", "rowB", "I", false)
  | 3 => ("ShapeBetween$Pairing", "pointsA", "I", false)
  | 4 => ("ShapeBetween$Pairing", "pointsB", "I", false)
  | 5 => ("ShapeBetween$Pairing", "costs", "[I", true)
  | 6 => ("ShapeBetween$Pairing", "metA", "[I", true)
  | 7 => ("ShapeBetween$Pairing", "metB", "[I", true)
  | _ => ("ShapeBetween$Pairing", "many", "I", false)
def tyX4 : Nat → FieldType := fun k => match k with
  | 0 => .object "ShapeBetween$Sheets"
  | 1 => .int
  | 2 => .int
  | 3 => .int
  | 4 => .int
  | 5 => .array .int
  | 6 => .array .int
  | 7 => .array .int
  | _ => .int
abbrev wsX40 : List Cond := u_ws RX4 TX4 9
theorem nmX4 : ∀ a, a < 9 → ∀ b, b < 9 → a ≠ b → (TX4 a).2.1 ≠ (TX4 b).2.1 := by decide +kernel
theorem tyX4_ok : ∀ k, k < 9 → parseFieldDescriptor (TX4 k).2.2.1 = some (tyX4 k) := by decide +kernel
abbrev cX4_init : ByteArray := prog_6_method_1_code
def yX4_init : MethodName := ⟨RX4, "<init>", "(LShapeBetween$Sheets;)V"⟩
abbrev cX4_isRow : ByteArray := prog_6_method_2_code
def yX4_isRow : MethodName := ⟨RX4, "isRow", "(I)Z"⟩
abbrev cX4_join : ByteArray := prog_6_method_3_code
def yX4_join : MethodName := ⟨RX4, "join", "(IIII)V"⟩
abbrev cX4_tell : ByteArray := prog_6_method_4_code
def yX4_tell : MethodName := ⟨RX4, "tell", "(I)I"⟩
abbrev cX4_met : ByteArray := prog_6_method_5_code
def yX4_met : MethodName := ⟨RX4, "met", "(I)I"⟩
abbrev cX4_apart : ByteArray := prog_6_method_6_code
def yX4_apart : MethodName := ⟨RX4, "apart", "(II)I"⟩
abbrev cX4_costAhead : ByteArray := prog_6_method_7_code
def yX4_costAhead : MethodName := ⟨RX4, "costAhead", "(II)I"⟩
abbrev cX4_walkBack : ByteArray := prog_6_method_8_code
def yX4_walkBack : MethodName := ⟨RX4, "walkBack", "()V"⟩
abbrev cX4_meet : ByteArray := prog_6_method_9_code
def yX4_meet : MethodName := ⟨RX4, "meet", "(III)V"⟩
abbrev cX4_oftenMet : ByteArray := prog_6_method_10_code
def yX4_oftenMet : MethodName := ⟨RX4, "oftenMet", "([II)I"⟩
abbrev cX4_timesMet : ByteArray := prog_6_method_11_code
def yX4_timesMet : MethodName := ⟨RX4, "timesMet", "([II)I"⟩
def RX5 : String := "ShapeBetween$Pictures"
def TX5 : u_T := fun k => match k with
  | 0 => ("ShapeBetween$Pictures", "wide", "[I", true)
  | 1 => ("ShapeBetween$Pictures", "high", "[I", true)
  | _ => ("ShapeBetween$Pictures", "numbers", "[I", true)
def tyX5 : Nat → FieldType := fun k => match k with
  | 0 => .array .int
  | 1 => .array .int
  | _ => .array .int
abbrev wsX50 : List Cond := u_ws RX5 TX5 3
theorem nmX5 : ∀ a, a < 3 → ∀ b, b < 3 → a ≠ b → (TX5 a).2.1 ≠ (TX5 b).2.1 := by decide +kernel
theorem tyX5_ok : ∀ k, k < 3 → parseFieldDescriptor (TX5 k).2.2.1 = some (tyX5 k) := by decide +kernel
abbrev cX5_init : ByteArray := prog_7_method_1_code
def yX5_init : MethodName := ⟨RX5, "<init>", "()V"⟩
abbrev cX5_isSize : ByteArray := prog_7_method_2_code
def yX5_isSize : MethodName := ⟨RX5, "isSize", "(II)Z"⟩
abbrev cX5_isTold : ByteArray := prog_7_method_3_code
def yX5_isTold : MethodName := ⟨RX5, "isTold", "(I)Z"⟩
abbrev cX5_take : ByteArray := prog_7_method_4_code
def yX5_take : MethodName := ⟨RX5, "take", "(ILShapeBetween$Sheets;IIII)V"⟩
abbrev cX5_numberAt : ByteArray := prog_7_method_5_code
def yX5_numberAt : MethodName := ⟨RX5, "numberAt", "(III)I"⟩
def RX6 : String := "ShapeBetween$Sheets"
def TX6 : u_T := fun k => match k with
  | 0 => ("ShapeBetween$Sheets", "lanes", "[I", true)
  | 1 => ("ShapeBetween$Sheets", "lengths", "[I", true)
  | _ => ("ShapeBetween$Sheets", "items", "[I", true)
def tyX6 : Nat → FieldType := fun k => match k with
  | 0 => .array .int
  | 1 => .array .int
  | _ => .array .int
abbrev wsX60 : List Cond := u_ws RX6 TX6 3
theorem nmX6 : ∀ a, a < 3 → ∀ b, b < 3 → a ≠ b → (TX6 a).2.1 ≠ (TX6 b).2.1 := by decide +kernel
theorem tyX6_ok : ∀ k, k < 3 → parseFieldDescriptor (TX6 k).2.2.1 = some (tyX6 k) := by decide +kernel
abbrev cX6_init : ByteArray := prog_8_method_1_code
def yX6_init : MethodName := ⟨RX6, "<init>", "()V"⟩
abbrev cX6_isSheet : ByteArray := prog_8_method_2_code
def yX6_isSheet : MethodName := ⟨RX6, "isSheet", "(I)Z"⟩
abbrev cX6_isLane : ByteArray := prog_8_method_3_code
def yX6_isLane : MethodName := ⟨RX6, "isLane", "(I)Z"⟩
abbrev cX6_isMissing : ByteArray := prog_8_method_4_code
def yX6_isMissing : MethodName := ⟨RX6, "isMissing", "(I)Z"⟩
abbrev cX6_hasItems : ByteArray := prog_8_method_5_code
def yX6_hasItems : MethodName := ⟨RX6, "hasItems", "(III)Z"⟩
abbrev cX6_allWithin : ByteArray := prog_8_method_6_code
def yX6_allWithin : MethodName := ⟨RX6, "allWithin", "(IIII)Z"⟩
abbrev cX6_laneOf : ByteArray := prog_8_method_7_code
def yX6_laneOf : MethodName := ⟨RX6, "laneOf", "(I)I"⟩
abbrev cX6_item : ByteArray := prog_8_method_8_code
def yX6_item : MethodName := ⟨RX6, "item", "(II)I"⟩
abbrev cX6_lay : ByteArray := prog_8_method_9_code
def yX6_lay : MethodName := ⟨RX6, "lay", "(III)V"⟩
abbrev cX6_put : ByteArray := prog_8_method_10_code
def yX6_put : MethodName := ⟨RX6, "put", "(III)V"⟩
abbrev cX6_carry : ByteArray := prog_8_method_11_code
def yX6_carry : MethodName := ⟨RX6, "carry", "(IIIII)V"⟩
abbrev cX6_takeAway : ByteArray := prog_8_method_12_code
def yX6_takeAway : MethodName := ⟨RX6, "takeAway", "(I)I"⟩
abbrev cX6_many : ByteArray := prog_8_method_13_code
def yX6_many : MethodName := ⟨RX6, "many", "()I"⟩
abbrev cX6_cutToLane : ByteArray := prog_8_method_14_code
def yX6_cutToLane : MethodName := ⟨RX6, "cutToLane", "(II)I"⟩
def RX7 : String := "ShapeBetween$Thirds"
def TX7 : u_T := fun k => match k with
  | 0 => ("ShapeBetween$Thirds", "marks", "LShapeBetween$Marks;", true)
  | 1 => ("ShapeBetween$Thirds", "many", "I", false)
  | _ => ("ShapeBetween$Thirds", "corners", "[I", true)
def tyX7 : Nat → FieldType := fun k => match k with
  | 0 => .object "ShapeBetween$Marks"
  | 1 => .int
  | _ => .array .int
abbrev wsX70 : List Cond := u_ws RX7 TX7 3
theorem nmX7 : ∀ a, a < 3 → ∀ b, b < 3 → a ≠ b → (TX7 a).2.1 ≠ (TX7 b).2.1 := by decide +kernel
theorem tyX7_ok : ∀ k, k < 3 → parseFieldDescriptor (TX7 k).2.2.1 = some (tyX7 k) := by decide +kernel
abbrev cX7_init : ByteArray := prog_9_method_1_code
def yX7_init : MethodName := ⟨RX7, "<init>", "(LShapeBetween$Marks;)V"⟩
abbrev cX7_many : ByteArray := prog_9_method_2_code
def yX7_many : MethodName := ⟨RX7, "many", "()I"⟩
abbrev cX7_isFull : ByteArray := prog_9_method_3_code
def yX7_isFull : MethodName := ⟨RX7, "isFull", "()Z"⟩
abbrev cX7_isThird : ByteArray := prog_9_method_4_code
def yX7_isThird : MethodName := ⟨RX7, "isThird", "(I)Z"⟩
abbrev cX7_add : ByteArray := prog_9_method_5_code
def yX7_add : MethodName := ⟨RX7, "add", "(III)I"⟩
abbrev cX7_corner : ByteArray := prog_9_method_6_code
def yX7_corner : MethodName := ⟨RX7, "corner", "(II)I"⟩
abbrev cX7_touches : ByteArray := prog_9_method_7_code
def yX7_touches : MethodName := ⟨RX7, "touches", "(II)Z"⟩
abbrev cX7_areJoined : ByteArray := prog_9_method_8_code
def yX7_areJoined : MethodName := ⟨RX7, "areJoined", "(III)Z"⟩
abbrev cX7_tickArea : ByteArray := prog_9_method_9_code
def yX7_tickArea : MethodName := ⟨RX7, "tickArea", "(III)J"⟩
abbrev cX7_areaIn : ByteArray := prog_9_method_10_code
def yX7_areaIn : MethodName := ⟨RX7, "areaIn", "(II)I"⟩
abbrev cX7_isUpright : ByteArray := prog_9_method_11_code
def yX7_isUpright : MethodName := ⟨RX7, "isUpright", "(III)Z"⟩
abbrev cX7_foldTick : ByteArray := prog_9_method_12_code
def yX7_foldTick : MethodName := ⟨RX7, "foldTick", "(II)I"⟩
abbrev cX7_firstFolded : ByteArray := prog_9_method_13_code
def yX7_firstFolded : MethodName := ⟨RX7, "firstFolded", "(I)I"⟩
abbrev cX7_sidesOf : ByteArray := prog_9_method_14_code
def yX7_sidesOf : MethodName := ⟨RX7, "sidesOf", "(I)I"⟩
abbrev cX7_thirdsAtSide : ByteArray := prog_9_method_15_code
def yX7_thirdsAtSide : MethodName := ⟨RX7, "thirdsAtSide", "(II)I"⟩
abbrev cX7_kindOf : ByteArray := prog_9_method_16_code
def yX7_kindOf : MethodName := ⟨RX7, "kindOf", "(I)I"⟩
abbrev cX7_staysWhole : ByteArray := prog_9_method_17_code
def yX7_staysWhole : MethodName := ⟨RX7, "staysWhole", "(I)Z"⟩
abbrev cX7_isOf : ByteArray := prog_9_method_18_code
def yX7_isOf : MethodName := ⟨RX7, "isOf", "(II)Z"⟩
abbrev cX7_manyOf : ByteArray := prog_9_method_19_code
def yX7_manyOf : MethodName := ⟨RX7, "manyOf", "(I)I"⟩
def RX8 : String := "ShapeBetween"
def TX8 : u_T := fun k => match k with
  | 0 => ("ShapeBetween", "sheets", "LShapeBetween$Sheets;", true)
  | 1 => ("ShapeBetween", "marks", "LShapeBetween$Marks;", true)
  | 2 => ("ShapeBetween", "thirds", "LShapeBetween$Thirds;", true)
  | 3 => ("ShapeBetween", "easing", "LShapeBetween$Easing;", true)
  | 4 => ("ShapeBetween", "between", "LShapeBetween$Between;", true)
  | 5 => ("ShapeBetween", "pictures", "LShapeBetween$Pictures;", true)
  | 6 => ("ShapeBetween", "pairing", "LShapeBetween$Pairing;", true)
  | 7 => ("ShapeBetween", "asks", "LShapeBetween$Asks;", true)
  | _ => ("ShapeBetween", "finding", "I", false)
def tyX8 : Nat → FieldType := fun k => match k with
  | 0 => .object "ShapeBetween$Sheets"
  | 1 => .object "ShapeBetween$Marks"
  | 2 => .object "ShapeBetween$Thirds"
  | 3 => .object "ShapeBetween$Easing"
  | 4 => .object "ShapeBetween$Between"
  | 5 => .object "ShapeBetween$Pictures"
  | 6 => .object "ShapeBetween$Pairing"
  | 7 => .object "ShapeBetween$Asks"
  | _ => .int
abbrev wsX80 : List Cond := u_ws RX8 TX8 9
theorem nmX8 : ∀ a, a < 9 → ∀ b, b < 9 → a ≠ b → (TX8 a).2.1 ≠ (TX8 b).2.1 := by decide +kernel
theorem tyX8_ok : ∀ k, k < 9 → parseFieldDescriptor (TX8 k).2.2.1 = some (tyX8 k) := by decide +kernel
abbrev cX8_init : ByteArray := prog_1_method_1_code
def yX8_init : MethodName := ⟨RX8, "<init>", "()V"⟩
abbrev cX8_sheet : ByteArray := prog_1_method_2_code
def yX8_sheet : MethodName := ⟨RX8, "sheet", "(III)I"⟩
abbrev cX8_set : ByteArray := prog_1_method_3_code
def yX8_set : MethodName := ⟨RX8, "set", "(III)I"⟩
abbrev cX8_copy : ByteArray := prog_1_method_4_code
def yX8_copy : MethodName := ⟨RX8, "copy", "(IIIII)I"⟩
abbrev cX8_drop : ByteArray := prog_1_method_5_code
def yX8_drop : MethodName := ⟨RX8, "drop", "(I)I"⟩
abbrev cX8_mark : ByteArray := prog_1_method_6_code
def yX8_mark : MethodName := ⟨RX8, "mark", "(IIII)I"⟩
abbrev cX8_move : ByteArray := prog_1_method_7_code
def yX8_move : MethodName := ⟨RX8, "move", "(IIII)I"⟩
abbrev cX8_at : ByteArray := prog_1_method_8_code
def yX8_at : MethodName := ⟨RX8, "at", "(IIII)I"⟩
abbrev cX8_third : ByteArray := prog_1_method_9_code
def yX8_third : MethodName := ⟨RX8, "third", "(III)I"⟩
abbrev cX8_told : ByteArray := prog_1_method_10_code
def yX8_told : MethodName := ⟨RX8, "told", "(II)I"⟩
abbrev cX8_folds : ByteArray := prog_1_method_11_code
def yX8_folds : MethodName := ⟨RX8, "folds", "(II)I"⟩
abbrev cX8_first : ByteArray := prog_1_method_12_code
def yX8_first : MethodName := ⟨RX8, "first", "(II)I"⟩
abbrev cX8_sides : ByteArray := prog_1_method_13_code
def yX8_sides : MethodName := ⟨RX8, "sides", "(I)I"⟩
abbrev cX8_key : ByteArray := prog_1_method_14_code
def yX8_key : MethodName := ⟨RX8, "key", "(II)I"⟩
abbrev cX8_eased : ByteArray := prog_1_method_15_code
def yX8_eased : MethodName := ⟨RX8, "eased", "(I)I"⟩
abbrev cX8_unkey : ByteArray := prog_1_method_16_code
def yX8_unkey : MethodName := ⟨RX8, "unkey", "()I"⟩
abbrev cX8_in : ByteArray := prog_1_method_17_code
def yX8_in : MethodName := ⟨RX8, "in", "(IIII)I"⟩
abbrev cX8_from : ByteArray := prog_1_method_18_code
def yX8_from : MethodName := ⟨RX8, "from", "(IIIII)I"⟩
abbrev cX8_picture : ByteArray := prog_1_method_19_code
def yX8_picture : MethodName := ⟨RX8, "picture", "(IIIII)I"⟩
abbrev cX8_seen : ByteArray := prog_1_method_20_code
def yX8_seen : MethodName := ⟨RX8, "seen", "(IIII)I"⟩
abbrev cX8_pairs : ByteArray := prog_1_method_21_code
def yX8_pairs : MethodName := ⟨RX8, "pairs", "(IIIII)I"⟩
abbrev cX8_pair : ByteArray := prog_1_method_22_code
def yX8_pair : MethodName := ⟨RX8, "pair", "(IIIII)I"⟩
abbrev cX8_kind : ByteArray := prog_1_method_23_code
def yX8_kind : MethodName := ⟨RX8, "kind", "(I)I"⟩
abbrev cX8_as : ByteArray := prog_1_method_24_code
def yX8_as : MethodName := ⟨RX8, "as", "(II)I"⟩
abbrev cX8_ask : ByteArray := prog_1_method_25_code
def yX8_ask : MethodName := ⟨RX8, "ask", "(II)I"⟩
abbrev cX8_trace : ByteArray := prog_1_method_26_code
def yX8_trace : MethodName := ⟨RX8, "trace", "(I)I"⟩
abbrev cX8_count : ByteArray := prog_1_method_27_code
def yX8_count : MethodName := ⟨RX8, "count", "(I)I"⟩
abbrev cX8_status : ByteArray := prog_1_method_28_code
def yX8_status : MethodName := ⟨RX8, "status", "()I"⟩
abbrev cX8_found : ByteArray := prog_1_method_29_code
def yX8_found : MethodName := ⟨RX8, "found", "(I)I"⟩
abbrev cX8_answered : ByteArray := prog_1_method_30_code
def yX8_answered : MethodName := ⟨RX8, "answered", "(I)I"⟩
abbrev cX8_refusalOfRows : ByteArray := prog_1_method_31_code
def yX8_refusalOfRows : MethodName := ⟨RX8, "refusalOfRows", "(IIII)I"⟩
abbrev cX8_numberFrom : ByteArray := prog_1_method_32_code
def yX8_numberFrom : MethodName := ⟨RX8, "numberFrom", "(I)I"⟩
abbrev cX8_isWithin : ByteArray := prog_1_method_33_code
def yX8_isWithin : MethodName := ⟨RX8, "isWithin", "(III)Z"⟩
abbrev cX8_isPlace : ByteArray := prog_1_method_34_code
def yX8_isPlace : MethodName := ⟨RX8, "isPlace", "(II)Z"⟩
abbrev cX8_isPicture : ByteArray := prog_1_method_35_code
def yX8_isPicture : MethodName := ⟨RX8, "isPicture", "(I)Z"⟩
abbrev cX8_isTicks : ByteArray := prog_1_method_36_code
def yX8_isTicks : MethodName := ⟨RX8, "isTicks", "(I)Z"⟩
abbrev cX8_isTick : ByteArray := prog_1_method_37_code
def yX8_isTick : MethodName := ⟨RX8, "isTick", "(II)Z"⟩
def RX9 : String := "ShapeBetweenModel"
def TX9 : u_T := fun k => match k with
  | 0 => ("ShapeBetweenModel", "thrown", "I", false)
  | 1 => ("ShapeBetweenModel", "status", "I", false)
  | 2 => ("ShapeBetweenModel", "lane", "[I", true)
  | 3 => ("ShapeBetweenModel", "many", "[I", true)
  | 4 => ("ShapeBetweenModel", "item", "[I", true)
  | 5 => ("ShapeBetweenModel", "marks", "I", false)
  | 6 => ("ShapeBetweenModel", "place", "[I", true)
  | 7 => ("ShapeBetweenModel", "thirds", "I", false)
  | 8 => ("ShapeBetweenModel", "corner", "[I", true)
  | 9 => ("ShapeBetweenModel", "keys", "I", false)
  | 10 => ("ShapeBetweenModel", "keyTime", "[I", true)
  | 11 => ("ShapeBetweenModel", "keyShare", "[I", true)
  | 12 => ("ShapeBetweenModel", "shareA", "J", false)
  | 13 => ("ShapeBetweenModel", "shareB", "J", false)
  | 14 => ("ShapeBetweenModel", "shareC", "J", false)
  | 15 => ("ShapeBetweenModel", "wide", "[I", true)
  | 16 => ("ShapeBetweenModel", "high", "[I", true)
  | 17 => ("ShapeBetweenModel", "cell", "[I", true)
  | 18 => ("ShapeBetweenModel", "least", "[I", true)
  | 19 => ("ShapeBetweenModel", "met", "I", false)
  | 20 => ("ShapeBetweenModel", "metA", "[I", true)
  | 21 => ("ShapeBetweenModel", "metB", "[I", true)
  | 22 => ("ShapeBetweenModel", "trace", "[I", true)
  | _ => ("ShapeBetweenModel", "traced", "I", false)
def tyX9 : Nat → FieldType := fun k => match k with
  | 0 => .int
  | 1 => .int
  | 2 => .array .int
  | 3 => .array .int
  | 4 => .array .int
  | 5 => .int
  | 6 => .array .int
  | 7 => .int
  | 8 => .array .int
  | 9 => .int
  | 10 => .array .int
  | 11 => .array .int
  | 12 => .long
  | 13 => .long
  | 14 => .long
  | 15 => .array .int
  | 16 => .array .int
  | 17 => .array .int
  | 18 => .array .int
  | 19 => .int
  | 20 => .array .int
  | 21 => .array .int
  | 22 => .array .int
  | _ => .int
abbrev wsX90 : List Cond := u_ws RX9 TX9 24
theorem nmX9 : ∀ a, a < 24 → ∀ b, b < 24 → a ≠ b → (TX9 a).2.1 ≠ (TX9 b).2.1 := by decide +kernel
theorem tyX9_ok : ∀ k, k < 24 → parseFieldDescriptor (TX9 k).2.2.1 = some (tyX9 k) := by decide +kernel
abbrev cX9_init : ByteArray := prog_11_method_1_code
def yX9_init : MethodName := ⟨RX9, "<init>", "()V"⟩
abbrev cX9_isIn : ByteArray := prog_11_method_3_code
def yX9_isIn : MethodName := ⟨RX9, "isIn", "(JJJ)Z"⟩
abbrev cX9_found : ByteArray := prog_11_method_4_code
def yX9_found : MethodName := ⟨RX9, "found", "(I)I"⟩
abbrev cX9_isSheet : ByteArray := prog_11_method_5_code
def yX9_isSheet : MethodName := ⟨RX9, "isSheet", "(I)Z"⟩
abbrev cX9_sheet : ByteArray := prog_11_method_6_code
def yX9_sheet : MethodName := ⟨RX9, "sheet", "(III)I"⟩
abbrev cX9_set : ByteArray := prog_11_method_7_code
def yX9_set : MethodName := ⟨RX9, "set", "(III)I"⟩
abbrev cX9_copy : ByteArray := prog_11_method_8_code
def yX9_copy : MethodName := ⟨RX9, "copy", "(IIIII)I"⟩
abbrev cX9_drop : ByteArray := prog_11_method_9_code
def yX9_drop : MethodName := ⟨RX9, "drop", "(I)I"⟩
abbrev cX9_isMark : ByteArray := prog_11_method_10_code
def yX9_isMark : MethodName := ⟨RX9, "isMark", "(I)Z"⟩
abbrev cX9_isPlace : ByteArray := prog_11_method_11_code
def yX9_isPlace : MethodName := ⟨RX9, "isPlace", "(II)Z"⟩
abbrev cX9_isTick : ByteArray := prog_11_method_12_code
def yX9_isTick : MethodName := ⟨RX9, "isTick", "(II)Z"⟩
abbrev cX9_mark : ByteArray := prog_11_method_13_code
def yX9_mark : MethodName := ⟨RX9, "mark", "(IIII)I"⟩
abbrev cX9_move : ByteArray := prog_11_method_14_code
def yX9_move : MethodName := ⟨RX9, "move", "(IIII)I"⟩
abbrev cX9_placeAt : ByteArray := prog_11_method_15_code
def yX9_placeAt : MethodName := ⟨RX9, "placeAt", "(IIII)I"⟩
abbrev cX9_at : ByteArray := prog_11_method_16_code
def yX9_at : MethodName := ⟨RX9, "at", "(IIII)I"⟩
abbrev cX9_third : ByteArray := prog_11_method_17_code
def yX9_third : MethodName := ⟨RX9, "third", "(III)I"⟩
abbrev cX9_isThird : ByteArray := prog_11_method_18_code
def yX9_isThird : MethodName := ⟨RX9, "isThird", "(I)Z"⟩
abbrev cX9_area : ByteArray := prog_11_method_19_code
def yX9_area : MethodName := ⟨RX9, "area", "(JJJJJJ)J"⟩
abbrev cX9_areaAt : ByteArray := prog_11_method_20_code
def yX9_areaAt : MethodName := ⟨RX9, "areaAt", "(III)J"⟩
abbrev cX9_told : ByteArray := prog_11_method_21_code
def yX9_told : MethodName := ⟨RX9, "told", "(II)I"⟩
abbrev cX9_foldsAt : ByteArray := prog_11_method_22_code
def yX9_foldsAt : MethodName := ⟨RX9, "foldsAt", "(II)I"⟩
abbrev cX9_folds : ByteArray := prog_11_method_23_code
def yX9_folds : MethodName := ⟨RX9, "folds", "(II)I"⟩
abbrev cX9_first : ByteArray := prog_11_method_24_code
def yX9_first : MethodName := ⟨RX9, "first", "(II)I"⟩
abbrev cX9_sides : ByteArray := prog_11_method_25_code
def yX9_sides : MethodName := ⟨RX9, "sides", "(I)I"⟩
abbrev cX9_key : ByteArray := prog_11_method_26_code
def yX9_key : MethodName := ⟨RX9, "key", "(II)I"⟩
abbrev cX9_eased : ByteArray := prog_11_method_27_code
def yX9_eased : MethodName := ⟨RX9, "eased", "(I)I"⟩
abbrev cX9_unkey : ByteArray := prog_11_method_28_code
def yX9_unkey : MethodName := ⟨RX9, "unkey", "()I"⟩
abbrev cX9_thirdAt : ByteArray := prog_11_method_29_code
def yX9_thirdAt : MethodName := ⟨RX9, "thirdAt", "(IIII)I"⟩
abbrev cX9_in : ByteArray := prog_11_method_30_code
def yX9_in : MethodName := ⟨RX9, "in", "(IIII)I"⟩
abbrev cX9_fromBy : ByteArray := prog_11_method_31_code
def yX9_fromBy : MethodName := ⟨RX9, "fromBy", "(II)I"⟩
abbrev cX9_from : ByteArray := prog_11_method_32_code
def yX9_from : MethodName := ⟨RX9, "from", "(IIIII)I"⟩
abbrev cX9_picture : ByteArray := prog_11_method_33_code
def yX9_picture : MethodName := ⟨RX9, "picture", "(IIIII)I"⟩
abbrev cX9_numberAt : ByteArray := prog_11_method_34_code
def yX9_numberAt : MethodName := ⟨RX9, "numberAt", "(III)I"⟩
abbrev cX9_seen : ByteArray := prog_11_method_35_code
def yX9_seen : MethodName := ⟨RX9, "seen", "(IIII)I"⟩
abbrev cX9_size : ByteArray := prog_11_method_36_code
def yX9_size : MethodName := ⟨RX9, "size", "(I)I"⟩
abbrev cX9_apart : ByteArray := prog_11_method_37_code
def yX9_apart : MethodName := ⟨RX9, "apart", "(IIII)I"⟩
abbrev cX9_look : ByteArray := prog_11_method_38_code
def yX9_look : MethodName := ⟨RX9, "look", "(IIII)I"⟩
abbrev cX9_findPairs : ByteArray := prog_11_method_39_code
def yX9_findPairs : MethodName := ⟨RX9, "findPairs", "(IIII)V"⟩
abbrev cX9_pairs : ByteArray := prog_11_method_40_code
def yX9_pairs : MethodName := ⟨RX9, "pairs", "(IIIII)I"⟩
abbrev cX9_pair : ByteArray := prog_11_method_41_code
def yX9_pair : MethodName := ⟨RX9, "pair", "(IIIII)I"⟩
abbrev cX9_kindOf : ByteArray := prog_11_method_42_code
def yX9_kindOf : MethodName := ⟨RX9, "kindOf", "(I)I"⟩
abbrev cX9_kind : ByteArray := prog_11_method_43_code
def yX9_kind : MethodName := ⟨RX9, "kind", "(I)I"⟩
abbrev cX9_isOf : ByteArray := prog_11_method_44_code
def yX9_isOf : MethodName := ⟨RX9, "isOf", "(II)Z"⟩
abbrev cX9_as : ByteArray := prog_11_method_45_code
def yX9_as : MethodName := ⟨RX9, "as", "(II)I"⟩
abbrev cX9_began : ByteArray := prog_11_method_46_code
def yX9_began : MethodName := ⟨RX9, "began", "(I)V"⟩
abbrev cX9_plainSize : ByteArray := prog_11_method_47_code
def yX9_plainSize : MethodName := ⟨RX9, "plainSize", "(I)I"⟩
abbrev cX9_marked : ByteArray := prog_11_method_48_code
def yX9_marked : MethodName := ⟨RX9, "marked", "(I)I"⟩
abbrev cX9_sized : ByteArray := prog_11_method_49_code
def yX9_sized : MethodName := ⟨RX9, "sized", "(I)I"⟩
abbrev cX9_ask : ByteArray := prog_11_method_50_code
def yX9_ask : MethodName := ⟨RX9, "ask", "(II)I"⟩
abbrev cX9_trace : ByteArray := prog_11_method_51_code
def yX9_trace : MethodName := ⟨RX9, "trace", "(I)I"⟩
abbrev cX9_count : ByteArray := prog_11_method_52_code
def yX9_count : MethodName := ⟨RX9, "count", "(I)I"⟩
abbrev cX9_status : ByteArray := prog_11_method_53_code
def yX9_status : MethodName := ⟨RX9, "status", "()I"⟩
def RJ9 : String := "java/lang/Math"
def TJ9 : u_T := fun k => match k with
  | _ => ("", "", "", false)
def tyJ9 : Nat → FieldType := fun k => match k with
  | _ => .int
abbrev wsJ90 : List Cond := u_ws RJ9 TJ9 0
theorem nmJ9 : ∀ a, a < 0 → ∀ b, b < 0 → a ≠ b → (TJ9 a).2.1 ≠ (TJ9 b).2.1 := by decide +kernel
theorem tyJ9_ok : ∀ k, k < 0 → parseFieldDescriptor (TJ9 k).2.2.1 = some (tyJ9 k) := by decide +kernel
abbrev cJ9_abs_0f7a4 : ByteArray := prog_12_method_59_code
def yJ9_abs_0f7a4 : MethodName := ⟨RJ9, "abs", "(I)I"⟩
abbrev cJ9_min_7cf53 : ByteArray := prog_12_method_69_code
def yJ9_min_7cf53 : MethodName := ⟨RJ9, "min", "(II)I"⟩
def RJ10 : String := "java/lang/System"
def TJ10 : u_T := fun k => match k with
  | _ => ("", "", "", false)
def tyJ10 : Nat → FieldType := fun k => match k with
  | _ => .int
abbrev wsJ100 : List Cond := u_ws RJ10 TJ10 0
theorem nmJ10 : ∀ a, a < 0 → ∀ b, b < 0 → a ≠ b → (TJ10 a).2.1 ≠ (TJ10 b).2.1 := by decide +kernel
theorem tyJ10_ok : ∀ k, k < 0 → parseFieldDescriptor (TJ10 k).2.2.1 = some (tyJ10 k) := by decide +kernel
def RL : String := "ShapeBetweenLaw"
abbrev cL_law : ByteArray := code
def yL_law : MethodName := ⟨RL, "law", "([I)Z"⟩
abbrev vwCl : List vw_C := [(RX0, TX0, 3), (RX1, TX1, 7), (RX2, TX2, 3), (RX3, TX3, 3), (RX4, TX4, 9), (RX5, TX5, 3), (RX6, TX6, 3), (RX7, TX7, 3), (RX8, TX8, 9), (RX9, TX9, 24)]
end
section
/-- all words of the tables that a method may be handed: one list for every contract -/
def WA : List Cond := lw_tbl.filter goodWord
def wm (y : MethodName) (c : ByteArray) (n : Nat) (r : Option FieldType) : List Cond := Cond.code y c n r :: WA
theorem WA_good : GoodIn WA WA := fun w h => ⟨h, good_of_word (List.mem_filter.mp h).2⟩
theorem wm_good {y : MethodName} {c : ByteArray} {n : Nat} {r : Option FieldType} (h : Cond.code y c n r ∈ WA) : GoodIn WA (wm y c n r) := fun w hw => (List.mem_cons.mp hw).elim (fun e => by rw [e]; exact WA_good _ h) (fun h => WA_good w h)
theorem inA0 : ∀ w ∈ wsX00, w ∈ WA := fun w h => List.mem_filter.mpr ⟨(by decide +kernel : ∀ w ∈ wsX00, w ∈ lw_tbl) w h, (by decide +kernel : ∀ w ∈ wsX00, goodWord w = true) w h⟩
theorem inA1 : ∀ w ∈ wsX10, w ∈ WA := fun w h => List.mem_filter.mpr ⟨(by decide +kernel : ∀ w ∈ wsX10, w ∈ lw_tbl) w h, (by decide +kernel : ∀ w ∈ wsX10, goodWord w = true) w h⟩
theorem inA2 : ∀ w ∈ wsX20, w ∈ WA := fun w h => List.mem_filter.mpr ⟨(by decide +kernel : ∀ w ∈ wsX20, w ∈ lw_tbl) w h, (by decide +kernel : ∀ w ∈ wsX20, goodWord w = true) w h⟩
theorem inA3 : ∀ w ∈ wsX30, w ∈ WA := fun w h => List.mem_filter.mpr ⟨(by decide +kernel : ∀ w ∈ wsX30, w ∈ lw_tbl) w h, (by decide +kernel : ∀ w ∈ wsX30, goodWord w = true) w h⟩
theorem inA4 : ∀ w ∈ wsX40, w ∈ WA := fun w h => List.mem_filter.mpr ⟨(by decide +kernel : ∀ w ∈ wsX40, w ∈ lw_tbl) w h, (by decide +kernel : ∀ w ∈ wsX40, goodWord w = true) w h⟩
theorem inA5 : ∀ w ∈ wsX50, w ∈ WA := fun w h => List.mem_filter.mpr ⟨(by decide +kernel : ∀ w ∈ wsX50, w ∈ lw_tbl) w h, (by decide +kernel : ∀ w ∈ wsX50, goodWord w = true) w h⟩
theorem inA6 : ∀ w ∈ wsX60, w ∈ WA := fun w h => List.mem_filter.mpr ⟨(by decide +kernel : ∀ w ∈ wsX60, w ∈ lw_tbl) w h, (by decide +kernel : ∀ w ∈ wsX60, goodWord w = true) w h⟩
theorem inA7 : ∀ w ∈ wsX70, w ∈ WA := fun w h => List.mem_filter.mpr ⟨(by decide +kernel : ∀ w ∈ wsX70, w ∈ lw_tbl) w h, (by decide +kernel : ∀ w ∈ wsX70, goodWord w = true) w h⟩
theorem inA8 : ∀ w ∈ wsX80, w ∈ WA := fun w h => List.mem_filter.mpr ⟨(by decide +kernel : ∀ w ∈ wsX80, w ∈ lw_tbl) w h, (by decide +kernel : ∀ w ∈ wsX80, goodWord w = true) w h⟩
theorem inA9 : ∀ w ∈ wsX90, w ∈ WA := fun w h => List.mem_filter.mpr ⟨(by decide +kernel : ∀ w ∈ wsX90, w ∈ lw_tbl) w h, (by decide +kernel : ∀ w ∈ wsX90, goodWord w = true) w h⟩
theorem mw0 : Cond.selects RX8 yX8_found yX8_found ∈ WA := List.mem_filter.mpr ⟨List.mem_of_getElem? (i := 0) (by decide +kernel), by decide +kernel⟩
theorem mw1 : Cond.selects RX8 yX8_answered yX8_answered ∈ WA := List.mem_filter.mpr ⟨List.mem_of_getElem? (i := 1) (by decide +kernel), by decide +kernel⟩
theorem mw2 : Cond.selects RX7 yX7_thirdsAtSide yX7_thirdsAtSide ∈ WA := List.mem_filter.mpr ⟨List.mem_of_getElem? (i := 2) (by decide +kernel), by decide +kernel⟩
theorem mw3 : Cond.selects RX2 yX2_shareBetween yX2_shareBetween ∈ WA := List.mem_filter.mpr ⟨List.mem_of_getElem? (i := 3) (by decide +kernel), by decide +kernel⟩
theorem mw4 : Cond.selects RX1 yX1_share yX1_share ∈ WA := List.mem_filter.mpr ⟨List.mem_of_getElem? (i := 4) (by decide +kernel), by decide +kernel⟩
theorem mw5 : Cond.selects RX8 yX8_numberFrom yX8_numberFrom ∈ WA := List.mem_filter.mpr ⟨List.mem_of_getElem? (i := 5) (by decide +kernel), by decide +kernel⟩
theorem mw6 : Cond.selects RX8 yX8_refusalOfRows yX8_refusalOfRows ∈ WA := List.mem_filter.mpr ⟨List.mem_of_getElem? (i := 6) (by decide +kernel), by decide +kernel⟩
theorem mw7 : Cond.selects RX4 yX4_apart yX4_apart ∈ WA := List.mem_filter.mpr ⟨List.mem_of_getElem? (i := 7) (by decide +kernel), by decide +kernel⟩
theorem mw8 : Cond.selects RX4 yX4_costAhead yX4_costAhead ∈ WA := List.mem_filter.mpr ⟨List.mem_of_getElem? (i := 8) (by decide +kernel), by decide +kernel⟩
theorem mw9 : Cond.selects RX4 yX4_walkBack yX4_walkBack ∈ WA := List.mem_filter.mpr ⟨List.mem_of_getElem? (i := 9) (by decide +kernel), by decide +kernel⟩
theorem mw10 : Cond.selects RX4 yX4_meet yX4_meet ∈ WA := List.mem_filter.mpr ⟨List.mem_of_getElem? (i := 10) (by decide +kernel), by decide +kernel⟩
theorem mw11 : Cond.selects RX4 yX4_oftenMet yX4_oftenMet ∈ WA := List.mem_filter.mpr ⟨List.mem_of_getElem? (i := 11) (by decide +kernel), by decide +kernel⟩
theorem mw12 : Cond.selects RX4 yX4_timesMet yX4_timesMet ∈ WA := List.mem_filter.mpr ⟨List.mem_of_getElem? (i := 12) (by decide +kernel), by decide +kernel⟩
theorem mw13 : Cond.selects RX7 yX7_staysWhole yX7_staysWhole ∈ WA := List.mem_filter.mpr ⟨List.mem_of_getElem? (i := 13) (by decide +kernel), by decide +kernel⟩
theorem mw14 : Cond.selects RX0 yX0_body12 yX0_body12 ∈ WA := List.mem_filter.mpr ⟨List.mem_of_getElem? (i := 14) (by decide +kernel), by decide +kernel⟩
theorem mw15 : Cond.selects RX0 yX0_begin yX0_begin ∈ WA := List.mem_filter.mpr ⟨List.mem_of_getElem? (i := 15) (by decide +kernel), by decide +kernel⟩
theorem mw16 : Cond.selects RX0 yX0_body11 yX0_body11 ∈ WA := List.mem_filter.mpr ⟨List.mem_of_getElem? (i := 16) (by decide +kernel), by decide +kernel⟩
theorem mw17 : Cond.selects RX0 yX0_body10 yX0_body10 ∈ WA := List.mem_filter.mpr ⟨List.mem_of_getElem? (i := 17) (by decide +kernel), by decide +kernel⟩
theorem mw18 : Cond.selects RX0 yX0_body21 yX0_body21 ∈ WA := List.mem_filter.mpr ⟨List.mem_of_getElem? (i := 18) (by decide +kernel), by decide +kernel⟩
theorem mw19 : Cond.selects RX0 yX0_body20 yX0_body20 ∈ WA := List.mem_filter.mpr ⟨List.mem_of_getElem? (i := 19) (by decide +kernel), by decide +kernel⟩
theorem mw20 : Cond.selects RX0 yX0_body13 yX0_body13 ∈ WA := List.mem_filter.mpr ⟨List.mem_of_getElem? (i := 20) (by decide +kernel), by decide +kernel⟩
theorem mw21 : Cond.selects RX0 yX0_body22 yX0_body22 ∈ WA := List.mem_filter.mpr ⟨List.mem_of_getElem? (i := 21) (by decide +kernel), by decide +kernel⟩
theorem mw22 : Cond.selects RX9 yX9_found yX9_found ∈ WA := List.mem_filter.mpr ⟨List.mem_of_getElem? (i := 22) (by decide +kernel), by decide +kernel⟩
theorem mw23 : Cond.selects RX9 yX9_isMark yX9_isMark ∈ WA := List.mem_filter.mpr ⟨List.mem_of_getElem? (i := 23) (by decide +kernel), by decide +kernel⟩
theorem mw24 : Cond.selects RX9 yX9_placeAt yX9_placeAt ∈ WA := List.mem_filter.mpr ⟨List.mem_of_getElem? (i := 24) (by decide +kernel), by decide +kernel⟩
theorem mw25 : Cond.selects RX9 yX9_isThird yX9_isThird ∈ WA := List.mem_filter.mpr ⟨List.mem_of_getElem? (i := 25) (by decide +kernel), by decide +kernel⟩
theorem mw26 : Cond.selects RX9 yX9_areaAt yX9_areaAt ∈ WA := List.mem_filter.mpr ⟨List.mem_of_getElem? (i := 26) (by decide +kernel), by decide +kernel⟩
theorem mw27 : Cond.selects RX9 yX9_foldsAt yX9_foldsAt ∈ WA := List.mem_filter.mpr ⟨List.mem_of_getElem? (i := 27) (by decide +kernel), by decide +kernel⟩
theorem mw28 : Cond.selects RX9 yX9_thirdAt yX9_thirdAt ∈ WA := List.mem_filter.mpr ⟨List.mem_of_getElem? (i := 28) (by decide +kernel), by decide +kernel⟩
theorem mw29 : Cond.selects RX9 yX9_fromBy yX9_fromBy ∈ WA := List.mem_filter.mpr ⟨List.mem_of_getElem? (i := 29) (by decide +kernel), by decide +kernel⟩
theorem mw30 : Cond.selects RX9 yX9_numberAt yX9_numberAt ∈ WA := List.mem_filter.mpr ⟨List.mem_of_getElem? (i := 30) (by decide +kernel), by decide +kernel⟩
theorem mw31 : Cond.selects RX9 yX9_look yX9_look ∈ WA := List.mem_filter.mpr ⟨List.mem_of_getElem? (i := 31) (by decide +kernel), by decide +kernel⟩
theorem mw32 : Cond.selects RX9 yX9_findPairs yX9_findPairs ∈ WA := List.mem_filter.mpr ⟨List.mem_of_getElem? (i := 32) (by decide +kernel), by decide +kernel⟩
theorem mw33 : Cond.selects RX9 yX9_apart yX9_apart ∈ WA := List.mem_filter.mpr ⟨List.mem_of_getElem? (i := 33) (by decide +kernel), by decide +kernel⟩
theorem mw34 : Cond.selects RX9 yX9_kindOf yX9_kindOf ∈ WA := List.mem_filter.mpr ⟨List.mem_of_getElem? (i := 34) (by decide +kernel), by decide +kernel⟩
theorem mw35 : Cond.selects RX9 yX9_sized yX9_sized ∈ WA := List.mem_filter.mpr ⟨List.mem_of_getElem? (i := 35) (by decide +kernel), by decide +kernel⟩
theorem mw36 : Cond.selects RX9 yX9_began yX9_began ∈ WA := List.mem_filter.mpr ⟨List.mem_of_getElem? (i := 36) (by decide +kernel), by decide +kernel⟩
theorem mw37 : Cond.selects RX9 yX9_plainSize yX9_plainSize ∈ WA := List.mem_filter.mpr ⟨List.mem_of_getElem? (i := 37) (by decide +kernel), by decide +kernel⟩
theorem mw38 : Cond.selects RX9 yX9_marked yX9_marked ∈ WA := List.mem_filter.mpr ⟨List.mem_of_getElem? (i := 38) (by decide +kernel), by decide +kernel⟩
theorem mw39 : Cond.initialized RL ∈ WA := List.mem_filter.mpr ⟨List.mem_of_getElem? (i := 39) (by decide +kernel), by decide +kernel⟩
theorem mw40 : Cond.initialized RX8 ∈ WA := List.mem_filter.mpr ⟨List.mem_of_getElem? (i := 40) (by decide +kernel), by decide +kernel⟩
theorem mw41 : Cond.initialized RX6 ∈ WA := List.mem_filter.mpr ⟨List.mem_of_getElem? (i := 41) (by decide +kernel), by decide +kernel⟩
theorem mw42 : Cond.initialized RX3 ∈ WA := List.mem_filter.mpr ⟨List.mem_of_getElem? (i := 42) (by decide +kernel), by decide +kernel⟩
theorem mw43 : Cond.initialized RX7 ∈ WA := List.mem_filter.mpr ⟨List.mem_of_getElem? (i := 43) (by decide +kernel), by decide +kernel⟩
theorem mw44 : Cond.initialized RX2 ∈ WA := List.mem_filter.mpr ⟨List.mem_of_getElem? (i := 44) (by decide +kernel), by decide +kernel⟩
theorem mw45 : Cond.initialized RX1 ∈ WA := List.mem_filter.mpr ⟨List.mem_of_getElem? (i := 45) (by decide +kernel), by decide +kernel⟩
theorem mw46 : Cond.initialized RX5 ∈ WA := List.mem_filter.mpr ⟨List.mem_of_getElem? (i := 46) (by decide +kernel), by decide +kernel⟩
theorem mw47 : Cond.initialized RX4 ∈ WA := List.mem_filter.mpr ⟨List.mem_of_getElem? (i := 47) (by decide +kernel), by decide +kernel⟩
theorem mw48 : Cond.initialized RX0 ∈ WA := List.mem_filter.mpr ⟨List.mem_of_getElem? (i := 48) (by decide +kernel), by decide +kernel⟩
theorem mw49 : Cond.initialized RX9 ∈ WA := List.mem_filter.mpr ⟨List.mem_of_getElem? (i := 49) (by decide +kernel), by decide +kernel⟩
theorem mw50 : Cond.initialized RJ10 ∈ WA := List.mem_filter.mpr ⟨List.mem_of_getElem? (i := 50) (by decide +kernel), by decide +kernel⟩
theorem mw51 : Cond.initialized RJ9 ∈ WA := List.mem_filter.mpr ⟨List.mem_of_getElem? (i := 51) (by decide +kernel), by decide +kernel⟩
theorem mw52 : Cond.classLink RL 7 RX8 ∈ WA := List.mem_filter.mpr ⟨List.mem_of_getElem? (i := 52) (by decide +kernel), by decide +kernel⟩
theorem mw53 : Cond.instantiable RX8 9 ∈ WA := List.mem_filter.mpr ⟨List.mem_of_getElem? (i := 53) (by decide +kernel), by decide +kernel⟩
theorem mw54 : Cond.methodLink RL 9 yX8_init ∈ WA := List.mem_filter.mpr ⟨List.mem_of_getElem? (i := 54) (by decide +kernel), by decide +kernel⟩
theorem mw55 : Cond.instanceMethod yX8_init ∈ WA := List.mem_filter.mpr ⟨List.mem_of_getElem? (i := 55) (by decide +kernel), by decide +kernel⟩
theorem mw56 : Cond.code yX8_init cX8_init 1 none ∈ WA := List.mem_filter.mpr ⟨List.mem_of_getElem? (i := 56) (by decide +kernel), by decide +kernel⟩
theorem mw57 : Cond.methodLink RX8 1 objectInit ∈ WA := List.mem_filter.mpr ⟨List.mem_of_getElem? (i := 57) (by decide +kernel), by decide +kernel⟩
theorem mw58 : Cond.instanceMethod objectInit ∈ WA := List.mem_filter.mpr ⟨List.mem_of_getElem? (i := 58) (by decide +kernel), by decide +kernel⟩
theorem mw59 : Cond.code objectInit ⟨#[0xb1]⟩ 1 none ∈ WA := List.mem_filter.mpr ⟨List.mem_of_getElem? (i := 59) (by decide +kernel), by decide +kernel⟩
theorem mw60 : Cond.classLink RX8 7 RX6 ∈ WA := List.mem_filter.mpr ⟨List.mem_of_getElem? (i := 60) (by decide +kernel), by decide +kernel⟩
theorem mw61 : Cond.instantiable RX6 3 ∈ WA := List.mem_filter.mpr ⟨List.mem_of_getElem? (i := 61) (by decide +kernel), by decide +kernel⟩
theorem mw62 : Cond.methodLink RX8 9 yX6_init ∈ WA := List.mem_filter.mpr ⟨List.mem_of_getElem? (i := 62) (by decide +kernel), by decide +kernel⟩
theorem mw63 : Cond.instanceMethod yX6_init ∈ WA := List.mem_filter.mpr ⟨List.mem_of_getElem? (i := 63) (by decide +kernel), by decide +kernel⟩
theorem mw64 : Cond.code yX6_init cX6_init 2 none ∈ WA := List.mem_filter.mpr ⟨List.mem_of_getElem? (i := 64) (by decide +kernel), by decide +kernel⟩
theorem mw65 : Cond.methodLink RX6 1 objectInit ∈ WA := List.mem_filter.mpr ⟨List.mem_of_getElem? (i := 65) (by decide +kernel), by decide +kernel⟩
theorem mw66 : Cond.fieldLink RX6 9 "ShapeBetween$Sheets" "lanes" "[I" ∈ WA := List.mem_filter.mpr ⟨List.mem_of_getElem? (i := 66) (by decide +kernel), by decide +kernel⟩
theorem mw67 : Cond.fieldLink RX6 13 "ShapeBetween$Sheets" "lengths" "[I" ∈ WA := List.mem_filter.mpr ⟨List.mem_of_getElem? (i := 67) (by decide +kernel), by decide +kernel⟩
theorem mw68 : Cond.fieldLink RX6 16 "ShapeBetween$Sheets" "items" "[I" ∈ WA := List.mem_filter.mpr ⟨List.mem_of_getElem? (i := 68) (by decide +kernel), by decide +kernel⟩
theorem mw76 : Cond.arrayClass .int ∈ WA := List.mem_filter.mpr ⟨List.mem_of_getElem? (i := 76) (by decide +kernel), by decide +kernel⟩
theorem mw77 : Cond.classLink RX8 16 RX3 ∈ WA := List.mem_filter.mpr ⟨List.mem_of_getElem? (i := 77) (by decide +kernel), by decide +kernel⟩
theorem mw78 : Cond.instantiable RX3 3 ∈ WA := List.mem_filter.mpr ⟨List.mem_of_getElem? (i := 78) (by decide +kernel), by decide +kernel⟩
theorem mw80 : Cond.instanceMethod yX3_init ∈ WA := List.mem_filter.mpr ⟨List.mem_of_getElem? (i := 80) (by decide +kernel), by decide +kernel⟩
theorem mw81 : Cond.code yX3_init cX3_init 1 none ∈ WA := List.mem_filter.mpr ⟨List.mem_of_getElem? (i := 81) (by decide +kernel), by decide +kernel⟩
theorem mw82 : Cond.methodLink RX3 1 objectInit ∈ WA := List.mem_filter.mpr ⟨List.mem_of_getElem? (i := 82) (by decide +kernel), by decide +kernel⟩
theorem mw83 : Cond.fieldLink RX3 7 "ShapeBetween$Marks" "many" "I" ∈ WA := List.mem_filter.mpr ⟨List.mem_of_getElem? (i := 83) (by decide +kernel), by decide +kernel⟩
theorem mw84 : Cond.fieldLink RX3 13 "ShapeBetween$Marks" "xs" "[I" ∈ WA := List.mem_filter.mpr ⟨List.mem_of_getElem? (i := 84) (by decide +kernel), by decide +kernel⟩
theorem mw85 : Cond.fieldLink RX3 17 "ShapeBetween$Marks" "ys" "[I" ∈ WA := List.mem_filter.mpr ⟨List.mem_of_getElem? (i := 85) (by decide +kernel), by decide +kernel⟩
theorem mw93 : Cond.classLink RX8 23 RX7 ∈ WA := List.mem_filter.mpr ⟨List.mem_of_getElem? (i := 93) (by decide +kernel), by decide +kernel⟩
theorem mw94 : Cond.instantiable RX7 3 ∈ WA := List.mem_filter.mpr ⟨List.mem_of_getElem? (i := 94) (by decide +kernel), by decide +kernel⟩
theorem mw95 : Cond.methodLink RX8 25 yX7_init ∈ WA := List.mem_filter.mpr ⟨List.mem_of_getElem? (i := 95) (by decide +kernel), by decide +kernel⟩
theorem mw96 : Cond.instanceMethod yX7_init ∈ WA := List.mem_filter.mpr ⟨List.mem_of_getElem? (i := 96) (by decide +kernel), by decide +kernel⟩
theorem mw97 : Cond.code yX7_init cX7_init 2 none ∈ WA := List.mem_filter.mpr ⟨List.mem_of_getElem? (i := 97) (by decide +kernel), by decide +kernel⟩
theorem mw98 : Cond.methodLink RX7 3 objectInit ∈ WA := List.mem_filter.mpr ⟨List.mem_of_getElem? (i := 98) (by decide +kernel), by decide +kernel⟩
theorem mw99 : Cond.fieldLink RX7 19 "ShapeBetween$Thirds" "marks" "LShapeBetween$Marks;" ∈ WA := List.mem_filter.mpr ⟨List.mem_of_getElem? (i := 99) (by decide +kernel), by decide +kernel⟩
theorem mw100 : Cond.fieldLink RX7 9 "ShapeBetween$Thirds" "many" "I" ∈ WA := List.mem_filter.mpr ⟨List.mem_of_getElem? (i := 100) (by decide +kernel), by decide +kernel⟩
theorem mw101 : Cond.fieldLink RX7 15 "ShapeBetween$Thirds" "corners" "[I" ∈ WA := List.mem_filter.mpr ⟨List.mem_of_getElem? (i := 101) (by decide +kernel), by decide +kernel⟩
theorem mw109 : Cond.classLink RX8 32 RX2 ∈ WA := List.mem_filter.mpr ⟨List.mem_of_getElem? (i := 109) (by decide +kernel), by decide +kernel⟩
theorem mw110 : Cond.instantiable RX2 3 ∈ WA := List.mem_filter.mpr ⟨List.mem_of_getElem? (i := 110) (by decide +kernel), by decide +kernel⟩
theorem mw112 : Cond.instanceMethod yX2_init ∈ WA := List.mem_filter.mpr ⟨List.mem_of_getElem? (i := 112) (by decide +kernel), by decide +kernel⟩
theorem mw113 : Cond.code yX2_init cX2_init 1 none ∈ WA := List.mem_filter.mpr ⟨List.mem_of_getElem? (i := 113) (by decide +kernel), by decide +kernel⟩
theorem mw114 : Cond.methodLink RX2 1 objectInit ∈ WA := List.mem_filter.mpr ⟨List.mem_of_getElem? (i := 114) (by decide +kernel), by decide +kernel⟩
theorem mw115 : Cond.fieldLink RX2 7 "ShapeBetween$Easing" "many" "I" ∈ WA := List.mem_filter.mpr ⟨List.mem_of_getElem? (i := 115) (by decide +kernel), by decide +kernel⟩
theorem mw116 : Cond.fieldLink RX2 13 "ShapeBetween$Easing" "times" "[I" ∈ WA := List.mem_filter.mpr ⟨List.mem_of_getElem? (i := 116) (by decide +kernel), by decide +kernel⟩
theorem mw117 : Cond.fieldLink RX2 17 "ShapeBetween$Easing" "shares" "[I" ∈ WA := List.mem_filter.mpr ⟨List.mem_of_getElem? (i := 117) (by decide +kernel), by decide +kernel⟩
theorem mw125 : Cond.classLink RX8 39 RX1 ∈ WA := List.mem_filter.mpr ⟨List.mem_of_getElem? (i := 125) (by decide +kernel), by decide +kernel⟩
theorem mw126 : Cond.instantiable RX1 7 ∈ WA := List.mem_filter.mpr ⟨List.mem_of_getElem? (i := 126) (by decide +kernel), by decide +kernel⟩
theorem mw127 : Cond.methodLink RX8 41 yX1_init ∈ WA := List.mem_filter.mpr ⟨List.mem_of_getElem? (i := 127) (by decide +kernel), by decide +kernel⟩
theorem mw128 : Cond.instanceMethod yX1_init ∈ WA := List.mem_filter.mpr ⟨List.mem_of_getElem? (i := 128) (by decide +kernel), by decide +kernel⟩
theorem mw129 : Cond.code yX1_init cX1_init 3 none ∈ WA := List.mem_filter.mpr ⟨List.mem_of_getElem? (i := 129) (by decide +kernel), by decide +kernel⟩
theorem mw130 : Cond.methodLink RX1 3 objectInit ∈ WA := List.mem_filter.mpr ⟨List.mem_of_getElem? (i := 130) (by decide +kernel), by decide +kernel⟩
theorem mw131 : Cond.constant RX1 9 (-1000000) ∈ WA := List.mem_filter.mpr ⟨List.mem_of_getElem? (i := 131) (by decide +kernel), by decide +kernel⟩
theorem mw132 : Cond.fieldLink RX1 29 "ShapeBetween$Between" "marks" "LShapeBetween$Marks;" ∈ WA := List.mem_filter.mpr ⟨List.mem_of_getElem? (i := 132) (by decide +kernel), by decide +kernel⟩
theorem mw133 : Cond.fieldLink RX1 33 "ShapeBetween$Between" "thirds" "LShapeBetween$Thirds;" ∈ WA := List.mem_filter.mpr ⟨List.mem_of_getElem? (i := 133) (by decide +kernel), by decide +kernel⟩
theorem mw134 : Cond.fieldLink RX1 10 "ShapeBetween$Between" "third" "I" ∈ WA := List.mem_filter.mpr ⟨List.mem_of_getElem? (i := 134) (by decide +kernel), by decide +kernel⟩
theorem mw135 : Cond.fieldLink RX1 16 "ShapeBetween$Between" "area" "J" ∈ WA := List.mem_filter.mpr ⟨List.mem_of_getElem? (i := 135) (by decide +kernel), by decide +kernel⟩
theorem mw136 : Cond.fieldLink RX1 20 "ShapeBetween$Between" "shareA" "J" ∈ WA := List.mem_filter.mpr ⟨List.mem_of_getElem? (i := 136) (by decide +kernel), by decide +kernel⟩
theorem mw137 : Cond.fieldLink RX1 23 "ShapeBetween$Between" "shareB" "J" ∈ WA := List.mem_filter.mpr ⟨List.mem_of_getElem? (i := 137) (by decide +kernel), by decide +kernel⟩
theorem mw138 : Cond.fieldLink RX1 26 "ShapeBetween$Between" "shareC" "J" ∈ WA := List.mem_filter.mpr ⟨List.mem_of_getElem? (i := 138) (by decide +kernel), by decide +kernel⟩
theorem mw154 : Cond.classLink RX8 48 RX5 ∈ WA := List.mem_filter.mpr ⟨List.mem_of_getElem? (i := 154) (by decide +kernel), by decide +kernel⟩
theorem mw155 : Cond.instantiable RX5 3 ∈ WA := List.mem_filter.mpr ⟨List.mem_of_getElem? (i := 155) (by decide +kernel), by decide +kernel⟩
theorem mw157 : Cond.instanceMethod yX5_init ∈ WA := List.mem_filter.mpr ⟨List.mem_of_getElem? (i := 157) (by decide +kernel), by decide +kernel⟩
theorem mw158 : Cond.code yX5_init cX5_init 1 none ∈ WA := List.mem_filter.mpr ⟨List.mem_of_getElem? (i := 158) (by decide +kernel), by decide +kernel⟩
theorem mw159 : Cond.methodLink RX5 5 objectInit ∈ WA := List.mem_filter.mpr ⟨List.mem_of_getElem? (i := 159) (by decide +kernel), by decide +kernel⟩
theorem mw160 : Cond.fieldLink RX5 11 "ShapeBetween$Pictures" "wide" "[I" ∈ WA := List.mem_filter.mpr ⟨List.mem_of_getElem? (i := 160) (by decide +kernel), by decide +kernel⟩
theorem mw161 : Cond.fieldLink RX5 15 "ShapeBetween$Pictures" "high" "[I" ∈ WA := List.mem_filter.mpr ⟨List.mem_of_getElem? (i := 161) (by decide +kernel), by decide +kernel⟩
theorem mw162 : Cond.fieldLink RX5 18 "ShapeBetween$Pictures" "numbers" "[I" ∈ WA := List.mem_filter.mpr ⟨List.mem_of_getElem? (i := 162) (by decide +kernel), by decide +kernel⟩
theorem mw170 : Cond.classLink RX8 55 RX4 ∈ WA := List.mem_filter.mpr ⟨List.mem_of_getElem? (i := 170) (by decide +kernel), by decide +kernel⟩
theorem mw171 : Cond.instantiable RX4 9 ∈ WA := List.mem_filter.mpr ⟨List.mem_of_getElem? (i := 171) (by decide +kernel), by decide +kernel⟩
theorem mw172 : Cond.methodLink RX8 57 yX4_init ∈ WA := List.mem_filter.mpr ⟨List.mem_of_getElem? (i := 172) (by decide +kernel), by decide +kernel⟩
theorem mw173 : Cond.instanceMethod yX4_init ∈ WA := List.mem_filter.mpr ⟨List.mem_of_getElem? (i := 173) (by decide +kernel), by decide +kernel⟩
theorem mw174 : Cond.code yX4_init cX4_init 2 none ∈ WA := List.mem_filter.mpr ⟨List.mem_of_getElem? (i := 174) (by decide +kernel), by decide +kernel⟩
theorem mw175 : Cond.methodLink RX4 5 objectInit ∈ WA := List.mem_filter.mpr ⟨List.mem_of_getElem? (i := 175) (by decide +kernel), by decide +kernel⟩
theorem mw176 : Cond.fieldLink RX4 37 "ShapeBetween$Pairing" "sheets" "LShapeBetween$Sheets;" ∈ WA := List.mem_filter.mpr ⟨List.mem_of_getElem? (i := 176) (by decide +kernel), by decide +kernel⟩
theorem mw177 : Cond.fieldLink RX4 11 "ShapeBetween$Pairing" "rowA" "I" ∈ WA := List.mem_filter.mpr ⟨List.mem_of_getElem? (i := 177) (by decide +kernel), by decide +kernel⟩
theorem mw178 : Cond.fieldLink RX4 15 "ShapeBetween$Pairing" "rowB" "I" ∈ WA := List.mem_filter.mpr ⟨List.mem_of_getElem? (i := 178) (by decide +kernel), by decide +kernel⟩
theorem mw179 : Cond.fieldLink RX4 18 "ShapeBetween$Pairing" "pointsA" "I" ∈ WA := List.mem_filter.mpr ⟨List.mem_of_getElem? (i := 179) (by decide +kernel), by decide +kernel⟩
theorem mw180 : Cond.fieldLink RX4 21 "ShapeBetween$Pairing" "pointsB" "I" ∈ WA := List.mem_filter.mpr ⟨List.mem_of_getElem? (i := 180) (by decide +kernel), by decide +kernel⟩
theorem mw181 : Cond.fieldLink RX4 24 "ShapeBetween$Pairing" "costs" "[I" ∈ WA := List.mem_filter.mpr ⟨List.mem_of_getElem? (i := 181) (by decide +kernel), by decide +kernel⟩
theorem mw182 : Cond.fieldLink RX4 28 "ShapeBetween$Pairing" "metA" "[I" ∈ WA := List.mem_filter.mpr ⟨List.mem_of_getElem? (i := 182) (by decide +kernel), by decide +kernel⟩
theorem mw183 : Cond.fieldLink RX4 31 "ShapeBetween$Pairing" "metB" "[I" ∈ WA := List.mem_filter.mpr ⟨List.mem_of_getElem? (i := 183) (by decide +kernel), by decide +kernel⟩
theorem mw184 : Cond.fieldLink RX4 34 "ShapeBetween$Pairing" "many" "I" ∈ WA := List.mem_filter.mpr ⟨List.mem_of_getElem? (i := 184) (by decide +kernel), by decide +kernel⟩
theorem mw204 : Cond.classLink RX8 64 RX0 ∈ WA := List.mem_filter.mpr ⟨List.mem_of_getElem? (i := 204) (by decide +kernel), by decide +kernel⟩
theorem mw205 : Cond.instantiable RX0 3 ∈ WA := List.mem_filter.mpr ⟨List.mem_of_getElem? (i := 205) (by decide +kernel), by decide +kernel⟩
theorem mw206 : Cond.methodLink RX8 66 yX0_init ∈ WA := List.mem_filter.mpr ⟨List.mem_of_getElem? (i := 206) (by decide +kernel), by decide +kernel⟩
theorem mw207 : Cond.instanceMethod yX0_init ∈ WA := List.mem_filter.mpr ⟨List.mem_of_getElem? (i := 207) (by decide +kernel), by decide +kernel⟩
theorem mw208 : Cond.code yX0_init cX0_init 2 none ∈ WA := List.mem_filter.mpr ⟨List.mem_of_getElem? (i := 208) (by decide +kernel), by decide +kernel⟩
theorem mw209 : Cond.methodLink RX0 3 objectInit ∈ WA := List.mem_filter.mpr ⟨List.mem_of_getElem? (i := 209) (by decide +kernel), by decide +kernel⟩
theorem mw210 : Cond.fieldLink RX0 19 "ShapeBetween$Asks" "thirds" "LShapeBetween$Thirds;" ∈ WA := List.mem_filter.mpr ⟨List.mem_of_getElem? (i := 210) (by decide +kernel), by decide +kernel⟩
theorem mw211 : Cond.fieldLink RX0 11 "ShapeBetween$Asks" "numbers" "[I" ∈ WA := List.mem_filter.mpr ⟨List.mem_of_getElem? (i := 211) (by decide +kernel), by decide +kernel⟩
theorem mw212 : Cond.fieldLink RX0 15 "ShapeBetween$Asks" "many" "I" ∈ WA := List.mem_filter.mpr ⟨List.mem_of_getElem? (i := 212) (by decide +kernel), by decide +kernel⟩
theorem mw220 : Cond.fieldLink RX8 10 "ShapeBetween" "sheets" "LShapeBetween$Sheets;" ∈ WA := List.mem_filter.mpr ⟨List.mem_of_getElem? (i := 220) (by decide +kernel), by decide +kernel⟩
theorem mw221 : Cond.fieldLink RX8 19 "ShapeBetween" "marks" "LShapeBetween$Marks;" ∈ WA := List.mem_filter.mpr ⟨List.mem_of_getElem? (i := 221) (by decide +kernel), by decide +kernel⟩
theorem mw222 : Cond.fieldLink RX8 28 "ShapeBetween" "thirds" "LShapeBetween$Thirds;" ∈ WA := List.mem_filter.mpr ⟨List.mem_of_getElem? (i := 222) (by decide +kernel), by decide +kernel⟩
theorem mw223 : Cond.fieldLink RX8 35 "ShapeBetween" "easing" "LShapeBetween$Easing;" ∈ WA := List.mem_filter.mpr ⟨List.mem_of_getElem? (i := 223) (by decide +kernel), by decide +kernel⟩
theorem mw224 : Cond.fieldLink RX8 44 "ShapeBetween" "between" "LShapeBetween$Between;" ∈ WA := List.mem_filter.mpr ⟨List.mem_of_getElem? (i := 224) (by decide +kernel), by decide +kernel⟩
theorem mw225 : Cond.fieldLink RX8 51 "ShapeBetween" "pictures" "LShapeBetween$Pictures;" ∈ WA := List.mem_filter.mpr ⟨List.mem_of_getElem? (i := 225) (by decide +kernel), by decide +kernel⟩
theorem mw226 : Cond.fieldLink RX8 60 "ShapeBetween" "pairing" "LShapeBetween$Pairing;" ∈ WA := List.mem_filter.mpr ⟨List.mem_of_getElem? (i := 226) (by decide +kernel), by decide +kernel⟩
theorem mw227 : Cond.fieldLink RX8 69 "ShapeBetween" "asks" "LShapeBetween$Asks;" ∈ WA := List.mem_filter.mpr ⟨List.mem_of_getElem? (i := 227) (by decide +kernel), by decide +kernel⟩
theorem mw228 : Cond.fieldLink RX8 73 "ShapeBetween" "finding" "I" ∈ WA := List.mem_filter.mpr ⟨List.mem_of_getElem? (i := 228) (by decide +kernel), by decide +kernel⟩
theorem mw248 : Cond.methodLink RL 13 yX8_sheet ∈ WA := List.mem_filter.mpr ⟨List.mem_of_getElem? (i := 248) (by decide +kernel), by decide +kernel⟩
theorem mw249 : Cond.instanceMethod yX8_sheet ∈ WA := List.mem_filter.mpr ⟨List.mem_of_getElem? (i := 249) (by decide +kernel), by decide +kernel⟩
theorem mw250 : Cond.selects RX8 yX8_sheet yX8_sheet ∈ WA := List.mem_filter.mpr ⟨List.mem_of_getElem? (i := 250) (by decide +kernel), by decide +kernel⟩
theorem mw251 : Cond.code yX8_sheet cX8_sheet 4 (some .int) ∈ WA := List.mem_filter.mpr ⟨List.mem_of_getElem? (i := 251) (by decide +kernel), by decide +kernel⟩
theorem mw252 : Cond.methodLink RX8 77 yX6_isSheet ∈ WA := List.mem_filter.mpr ⟨List.mem_of_getElem? (i := 252) (by decide +kernel), by decide +kernel⟩
theorem mw253 : Cond.static yX6_isSheet ∈ WA := List.mem_filter.mpr ⟨List.mem_of_getElem? (i := 253) (by decide +kernel), by decide +kernel⟩
theorem mw254 : Cond.code yX6_isSheet cX6_isSheet 1 (some .boolean) ∈ WA := List.mem_filter.mpr ⟨List.mem_of_getElem? (i := 254) (by decide +kernel), by decide +kernel⟩
theorem mw256 : Cond.static yX8_isWithin ∈ WA := List.mem_filter.mpr ⟨List.mem_of_getElem? (i := 256) (by decide +kernel), by decide +kernel⟩
theorem mw257 : Cond.code yX8_isWithin cX8_isWithin 3 (some .boolean) ∈ WA := List.mem_filter.mpr ⟨List.mem_of_getElem? (i := 257) (by decide +kernel), by decide +kernel⟩
theorem mw258 : Cond.methodLink RX8 81 yX6_isLane ∈ WA := List.mem_filter.mpr ⟨List.mem_of_getElem? (i := 258) (by decide +kernel), by decide +kernel⟩
theorem mw259 : Cond.static yX6_isLane ∈ WA := List.mem_filter.mpr ⟨List.mem_of_getElem? (i := 259) (by decide +kernel), by decide +kernel⟩
theorem mw260 : Cond.code yX6_isLane cX6_isLane 1 (some .boolean) ∈ WA := List.mem_filter.mpr ⟨List.mem_of_getElem? (i := 260) (by decide +kernel), by decide +kernel⟩
theorem mw261 : Cond.constant RX8 84 (-1000001) ∈ WA := List.mem_filter.mpr ⟨List.mem_of_getElem? (i := 261) (by decide +kernel), by decide +kernel⟩
theorem mw262 : Cond.methodLink RX8 85 yX8_found ∈ WA := List.mem_filter.mpr ⟨List.mem_of_getElem? (i := 262) (by decide +kernel), by decide +kernel⟩
theorem mw264 : Cond.instanceMethod yX8_found ∈ WA := List.mem_filter.mpr ⟨List.mem_of_getElem? (i := 264) (by decide +kernel), by decide +kernel⟩
theorem mw265 : Cond.code yX8_found cX8_found 2 (some .int) ∈ WA := List.mem_filter.mpr ⟨List.mem_of_getElem? (i := 265) (by decide +kernel), by decide +kernel⟩
theorem mw266 : Cond.constant RX8 261 (-1000010) ∈ WA := List.mem_filter.mpr ⟨List.mem_of_getElem? (i := 266) (by decide +kernel), by decide +kernel⟩
theorem mw267 : Cond.methodLink RX8 89 yX6_lay ∈ WA := List.mem_filter.mpr ⟨List.mem_of_getElem? (i := 267) (by decide +kernel), by decide +kernel⟩
theorem mw268 : Cond.instanceMethod yX6_lay ∈ WA := List.mem_filter.mpr ⟨List.mem_of_getElem? (i := 268) (by decide +kernel), by decide +kernel⟩
theorem mw269 : Cond.selects RX6 yX6_lay yX6_lay ∈ WA := List.mem_filter.mpr ⟨List.mem_of_getElem? (i := 269) (by decide +kernel), by decide +kernel⟩
theorem mw270 : Cond.code yX6_lay cX6_lay 5 none ∈ WA := List.mem_filter.mpr ⟨List.mem_of_getElem? (i := 270) (by decide +kernel), by decide +kernel⟩
theorem mw271 : Cond.methodLink RX8 93 yX8_answered ∈ WA := List.mem_filter.mpr ⟨List.mem_of_getElem? (i := 271) (by decide +kernel), by decide +kernel⟩
theorem mw273 : Cond.instanceMethod yX8_answered ∈ WA := List.mem_filter.mpr ⟨List.mem_of_getElem? (i := 273) (by decide +kernel), by decide +kernel⟩
theorem mw274 : Cond.code yX8_answered cX8_answered 2 (some .int) ∈ WA := List.mem_filter.mpr ⟨List.mem_of_getElem? (i := 274) (by decide +kernel), by decide +kernel⟩
theorem mw275 : Cond.methodLink RL 18 yX8_set ∈ WA := List.mem_filter.mpr ⟨List.mem_of_getElem? (i := 275) (by decide +kernel), by decide +kernel⟩
theorem mw276 : Cond.instanceMethod yX8_set ∈ WA := List.mem_filter.mpr ⟨List.mem_of_getElem? (i := 276) (by decide +kernel), by decide +kernel⟩
theorem mw277 : Cond.selects RX8 yX8_set yX8_set ∈ WA := List.mem_filter.mpr ⟨List.mem_of_getElem? (i := 277) (by decide +kernel), by decide +kernel⟩
theorem mw278 : Cond.code yX8_set cX8_set 4 (some .int) ∈ WA := List.mem_filter.mpr ⟨List.mem_of_getElem? (i := 278) (by decide +kernel), by decide +kernel⟩
theorem mw279 : Cond.methodLink RX8 96 yX6_isMissing ∈ WA := List.mem_filter.mpr ⟨List.mem_of_getElem? (i := 279) (by decide +kernel), by decide +kernel⟩
theorem mw280 : Cond.instanceMethod yX6_isMissing ∈ WA := List.mem_filter.mpr ⟨List.mem_of_getElem? (i := 280) (by decide +kernel), by decide +kernel⟩
theorem mw281 : Cond.selects RX6 yX6_isMissing yX6_isMissing ∈ WA := List.mem_filter.mpr ⟨List.mem_of_getElem? (i := 281) (by decide +kernel), by decide +kernel⟩
theorem mw282 : Cond.code yX6_isMissing cX6_isMissing 2 (some .boolean) ∈ WA := List.mem_filter.mpr ⟨List.mem_of_getElem? (i := 282) (by decide +kernel), by decide +kernel⟩
theorem mw283 : Cond.methodLink RX8 99 yX6_hasItems ∈ WA := List.mem_filter.mpr ⟨List.mem_of_getElem? (i := 283) (by decide +kernel), by decide +kernel⟩
theorem mw284 : Cond.instanceMethod yX6_hasItems ∈ WA := List.mem_filter.mpr ⟨List.mem_of_getElem? (i := 284) (by decide +kernel), by decide +kernel⟩
theorem mw285 : Cond.selects RX6 yX6_hasItems yX6_hasItems ∈ WA := List.mem_filter.mpr ⟨List.mem_of_getElem? (i := 285) (by decide +kernel), by decide +kernel⟩
theorem mw286 : Cond.code yX6_hasItems cX6_hasItems 4 (some .boolean) ∈ WA := List.mem_filter.mpr ⟨List.mem_of_getElem? (i := 286) (by decide +kernel), by decide +kernel⟩
theorem mw287 : Cond.methodLink RX8 103 yX6_put ∈ WA := List.mem_filter.mpr ⟨List.mem_of_getElem? (i := 287) (by decide +kernel), by decide +kernel⟩
theorem mw288 : Cond.instanceMethod yX6_put ∈ WA := List.mem_filter.mpr ⟨List.mem_of_getElem? (i := 288) (by decide +kernel), by decide +kernel⟩
theorem mw289 : Cond.selects RX6 yX6_put yX6_put ∈ WA := List.mem_filter.mpr ⟨List.mem_of_getElem? (i := 289) (by decide +kernel), by decide +kernel⟩
theorem mw290 : Cond.code yX6_put cX6_put 4 none ∈ WA := List.mem_filter.mpr ⟨List.mem_of_getElem? (i := 290) (by decide +kernel), by decide +kernel⟩
theorem mw291 : Cond.methodLink RX6 29 yX6_cutToLane ∈ WA := List.mem_filter.mpr ⟨List.mem_of_getElem? (i := 291) (by decide +kernel), by decide +kernel⟩
theorem mw292 : Cond.static yX6_cutToLane ∈ WA := List.mem_filter.mpr ⟨List.mem_of_getElem? (i := 292) (by decide +kernel), by decide +kernel⟩
theorem mw293 : Cond.code yX6_cutToLane cX6_cutToLane 2 (some .int) ∈ WA := List.mem_filter.mpr ⟨List.mem_of_getElem? (i := 293) (by decide +kernel), by decide +kernel⟩
theorem mw294 : Cond.methodLink RX8 106 yX6_item ∈ WA := List.mem_filter.mpr ⟨List.mem_of_getElem? (i := 294) (by decide +kernel), by decide +kernel⟩
theorem mw295 : Cond.instanceMethod yX6_item ∈ WA := List.mem_filter.mpr ⟨List.mem_of_getElem? (i := 295) (by decide +kernel), by decide +kernel⟩
theorem mw296 : Cond.selects RX6 yX6_item yX6_item ∈ WA := List.mem_filter.mpr ⟨List.mem_of_getElem? (i := 296) (by decide +kernel), by decide +kernel⟩
theorem mw297 : Cond.code yX6_item cX6_item 3 (some .int) ∈ WA := List.mem_filter.mpr ⟨List.mem_of_getElem? (i := 297) (by decide +kernel), by decide +kernel⟩
theorem mw298 : Cond.methodLink RL 22 yX8_copy ∈ WA := List.mem_filter.mpr ⟨List.mem_of_getElem? (i := 298) (by decide +kernel), by decide +kernel⟩
theorem mw299 : Cond.instanceMethod yX8_copy ∈ WA := List.mem_filter.mpr ⟨List.mem_of_getElem? (i := 299) (by decide +kernel), by decide +kernel⟩
theorem mw300 : Cond.selects RX8 yX8_copy yX8_copy ∈ WA := List.mem_filter.mpr ⟨List.mem_of_getElem? (i := 300) (by decide +kernel), by decide +kernel⟩
theorem mw301 : Cond.code yX8_copy cX8_copy 6 (some .int) ∈ WA := List.mem_filter.mpr ⟨List.mem_of_getElem? (i := 301) (by decide +kernel), by decide +kernel⟩
theorem mw302 : Cond.methodLink RX8 110 yX6_laneOf ∈ WA := List.mem_filter.mpr ⟨List.mem_of_getElem? (i := 302) (by decide +kernel), by decide +kernel⟩
theorem mw303 : Cond.instanceMethod yX6_laneOf ∈ WA := List.mem_filter.mpr ⟨List.mem_of_getElem? (i := 303) (by decide +kernel), by decide +kernel⟩
theorem mw304 : Cond.selects RX6 yX6_laneOf yX6_laneOf ∈ WA := List.mem_filter.mpr ⟨List.mem_of_getElem? (i := 304) (by decide +kernel), by decide +kernel⟩
theorem mw305 : Cond.code yX6_laneOf cX6_laneOf 2 (some .int) ∈ WA := List.mem_filter.mpr ⟨List.mem_of_getElem? (i := 305) (by decide +kernel), by decide +kernel⟩
theorem mw306 : Cond.methodLink RX8 113 yX6_carry ∈ WA := List.mem_filter.mpr ⟨List.mem_of_getElem? (i := 306) (by decide +kernel), by decide +kernel⟩
theorem mw307 : Cond.instanceMethod yX6_carry ∈ WA := List.mem_filter.mpr ⟨List.mem_of_getElem? (i := 307) (by decide +kernel), by decide +kernel⟩
theorem mw308 : Cond.selects RX6 yX6_carry yX6_carry ∈ WA := List.mem_filter.mpr ⟨List.mem_of_getElem? (i := 308) (by decide +kernel), by decide +kernel⟩
theorem mw309 : Cond.code yX6_carry cX6_carry 6 none ∈ WA := List.mem_filter.mpr ⟨List.mem_of_getElem? (i := 309) (by decide +kernel), by decide +kernel⟩
theorem mw310 : Cond.methodLink RX6 32 arraycopyName ∈ WA := List.mem_filter.mpr ⟨List.mem_of_getElem? (i := 310) (by decide +kernel), by decide +kernel⟩
theorem mw311 : Cond.static arraycopyName ∈ WA := List.mem_filter.mpr ⟨List.mem_of_getElem? (i := 311) (by decide +kernel), by decide +kernel⟩
theorem mw312 : Cond.native arraycopyName ∈ WA := List.mem_filter.mpr ⟨List.mem_of_getElem? (i := 312) (by decide +kernel), by decide +kernel⟩
theorem mw313 : Cond.methodLink RL 27 yX8_drop ∈ WA := List.mem_filter.mpr ⟨List.mem_of_getElem? (i := 313) (by decide +kernel), by decide +kernel⟩
theorem mw314 : Cond.instanceMethod yX8_drop ∈ WA := List.mem_filter.mpr ⟨List.mem_of_getElem? (i := 314) (by decide +kernel), by decide +kernel⟩
theorem mw315 : Cond.selects RX8 yX8_drop yX8_drop ∈ WA := List.mem_filter.mpr ⟨List.mem_of_getElem? (i := 315) (by decide +kernel), by decide +kernel⟩
theorem mw316 : Cond.code yX8_drop cX8_drop 2 (some .int) ∈ WA := List.mem_filter.mpr ⟨List.mem_of_getElem? (i := 316) (by decide +kernel), by decide +kernel⟩
theorem mw317 : Cond.methodLink RX8 117 yX6_takeAway ∈ WA := List.mem_filter.mpr ⟨List.mem_of_getElem? (i := 317) (by decide +kernel), by decide +kernel⟩
theorem mw318 : Cond.instanceMethod yX6_takeAway ∈ WA := List.mem_filter.mpr ⟨List.mem_of_getElem? (i := 318) (by decide +kernel), by decide +kernel⟩
theorem mw319 : Cond.selects RX6 yX6_takeAway yX6_takeAway ∈ WA := List.mem_filter.mpr ⟨List.mem_of_getElem? (i := 319) (by decide +kernel), by decide +kernel⟩
theorem mw320 : Cond.code yX6_takeAway cX6_takeAway 3 (some .int) ∈ WA := List.mem_filter.mpr ⟨List.mem_of_getElem? (i := 320) (by decide +kernel), by decide +kernel⟩
theorem mw321 : Cond.methodLink RL 32 yX8_mark ∈ WA := List.mem_filter.mpr ⟨List.mem_of_getElem? (i := 321) (by decide +kernel), by decide +kernel⟩
theorem mw322 : Cond.instanceMethod yX8_mark ∈ WA := List.mem_filter.mpr ⟨List.mem_of_getElem? (i := 322) (by decide +kernel), by decide +kernel⟩
theorem mw323 : Cond.selects RX8 yX8_mark yX8_mark ∈ WA := List.mem_filter.mpr ⟨List.mem_of_getElem? (i := 323) (by decide +kernel), by decide +kernel⟩
theorem mw324 : Cond.code yX8_mark cX8_mark 5 (some .int) ∈ WA := List.mem_filter.mpr ⟨List.mem_of_getElem? (i := 324) (by decide +kernel), by decide +kernel⟩
theorem mw325 : Cond.methodLink RX8 120 yX8_isPlace ∈ WA := List.mem_filter.mpr ⟨List.mem_of_getElem? (i := 325) (by decide +kernel), by decide +kernel⟩
theorem mw326 : Cond.static yX8_isPlace ∈ WA := List.mem_filter.mpr ⟨List.mem_of_getElem? (i := 326) (by decide +kernel), by decide +kernel⟩
theorem mw327 : Cond.code yX8_isPlace cX8_isPlace 2 (some .boolean) ∈ WA := List.mem_filter.mpr ⟨List.mem_of_getElem? (i := 327) (by decide +kernel), by decide +kernel⟩
theorem mw328 : Cond.methodLink RX8 145 yX8_isWithin ∈ WA := List.mem_filter.mpr ⟨List.mem_of_getElem? (i := 328) (by decide +kernel), by decide +kernel⟩
theorem mw329 : Cond.methodLink RX8 124 yX3_isFull ∈ WA := List.mem_filter.mpr ⟨List.mem_of_getElem? (i := 329) (by decide +kernel), by decide +kernel⟩
theorem mw330 : Cond.instanceMethod yX3_isFull ∈ WA := List.mem_filter.mpr ⟨List.mem_of_getElem? (i := 330) (by decide +kernel), by decide +kernel⟩
theorem mw331 : Cond.selects RX3 yX3_isFull yX3_isFull ∈ WA := List.mem_filter.mpr ⟨List.mem_of_getElem? (i := 331) (by decide +kernel), by decide +kernel⟩
theorem mw332 : Cond.code yX3_isFull cX3_isFull 1 (some .boolean) ∈ WA := List.mem_filter.mpr ⟨List.mem_of_getElem? (i := 332) (by decide +kernel), by decide +kernel⟩
theorem mw333 : Cond.constant RX8 128 (-1000003) ∈ WA := List.mem_filter.mpr ⟨List.mem_of_getElem? (i := 333) (by decide +kernel), by decide +kernel⟩
theorem mw334 : Cond.methodLink RX8 129 yX3_add ∈ WA := List.mem_filter.mpr ⟨List.mem_of_getElem? (i := 334) (by decide +kernel), by decide +kernel⟩
theorem mw335 : Cond.instanceMethod yX3_add ∈ WA := List.mem_filter.mpr ⟨List.mem_of_getElem? (i := 335) (by decide +kernel), by decide +kernel⟩
theorem mw336 : Cond.selects RX3 yX3_add yX3_add ∈ WA := List.mem_filter.mpr ⟨List.mem_of_getElem? (i := 336) (by decide +kernel), by decide +kernel⟩
theorem mw337 : Cond.code yX3_add cX3_add 6 (some .int) ∈ WA := List.mem_filter.mpr ⟨List.mem_of_getElem? (i := 337) (by decide +kernel), by decide +kernel⟩
theorem mw338 : Cond.methodLink RX3 20 yX3_put ∈ WA := List.mem_filter.mpr ⟨List.mem_of_getElem? (i := 338) (by decide +kernel), by decide +kernel⟩
theorem mw339 : Cond.instanceMethod yX3_put ∈ WA := List.mem_filter.mpr ⟨List.mem_of_getElem? (i := 339) (by decide +kernel), by decide +kernel⟩
theorem mw340 : Cond.selects RX3 yX3_put yX3_put ∈ WA := List.mem_filter.mpr ⟨List.mem_of_getElem? (i := 340) (by decide +kernel), by decide +kernel⟩
theorem mw341 : Cond.code yX3_put cX3_put 5 none ∈ WA := List.mem_filter.mpr ⟨List.mem_of_getElem? (i := 341) (by decide +kernel), by decide +kernel⟩
theorem mw342 : Cond.methodLink RL 37 yX8_move ∈ WA := List.mem_filter.mpr ⟨List.mem_of_getElem? (i := 342) (by decide +kernel), by decide +kernel⟩
theorem mw343 : Cond.instanceMethod yX8_move ∈ WA := List.mem_filter.mpr ⟨List.mem_of_getElem? (i := 343) (by decide +kernel), by decide +kernel⟩
theorem mw344 : Cond.selects RX8 yX8_move yX8_move ∈ WA := List.mem_filter.mpr ⟨List.mem_of_getElem? (i := 344) (by decide +kernel), by decide +kernel⟩
theorem mw345 : Cond.code yX8_move cX8_move 5 (some .int) ∈ WA := List.mem_filter.mpr ⟨List.mem_of_getElem? (i := 345) (by decide +kernel), by decide +kernel⟩
theorem mw346 : Cond.methodLink RX8 133 yX3_isMark ∈ WA := List.mem_filter.mpr ⟨List.mem_of_getElem? (i := 346) (by decide +kernel), by decide +kernel⟩
theorem mw347 : Cond.instanceMethod yX3_isMark ∈ WA := List.mem_filter.mpr ⟨List.mem_of_getElem? (i := 347) (by decide +kernel), by decide +kernel⟩
theorem mw348 : Cond.selects RX3 yX3_isMark yX3_isMark ∈ WA := List.mem_filter.mpr ⟨List.mem_of_getElem? (i := 348) (by decide +kernel), by decide +kernel⟩
theorem mw349 : Cond.code yX3_isMark cX3_isMark 2 (some .boolean) ∈ WA := List.mem_filter.mpr ⟨List.mem_of_getElem? (i := 349) (by decide +kernel), by decide +kernel⟩
theorem mw350 : Cond.methodLink RX8 136 yX8_isPicture ∈ WA := List.mem_filter.mpr ⟨List.mem_of_getElem? (i := 350) (by decide +kernel), by decide +kernel⟩
theorem mw351 : Cond.static yX8_isPicture ∈ WA := List.mem_filter.mpr ⟨List.mem_of_getElem? (i := 351) (by decide +kernel), by decide +kernel⟩
theorem mw352 : Cond.code yX8_isPicture cX8_isPicture 1 (some .boolean) ∈ WA := List.mem_filter.mpr ⟨List.mem_of_getElem? (i := 352) (by decide +kernel), by decide +kernel⟩
theorem mw353 : Cond.methodLink RX8 139 yX3_put ∈ WA := List.mem_filter.mpr ⟨List.mem_of_getElem? (i := 353) (by decide +kernel), by decide +kernel⟩
theorem mw354 : Cond.methodLink RL 41 yX8_at ∈ WA := List.mem_filter.mpr ⟨List.mem_of_getElem? (i := 354) (by decide +kernel), by decide +kernel⟩
theorem mw355 : Cond.instanceMethod yX8_at ∈ WA := List.mem_filter.mpr ⟨List.mem_of_getElem? (i := 355) (by decide +kernel), by decide +kernel⟩
theorem mw356 : Cond.selects RX8 yX8_at yX8_at ∈ WA := List.mem_filter.mpr ⟨List.mem_of_getElem? (i := 356) (by decide +kernel), by decide +kernel⟩
theorem mw357 : Cond.code yX8_at cX8_at 5 (some .int) ∈ WA := List.mem_filter.mpr ⟨List.mem_of_getElem? (i := 357) (by decide +kernel), by decide +kernel⟩
theorem mw358 : Cond.methodLink RX8 142 yX8_isTick ∈ WA := List.mem_filter.mpr ⟨List.mem_of_getElem? (i := 358) (by decide +kernel), by decide +kernel⟩
theorem mw359 : Cond.static yX8_isTick ∈ WA := List.mem_filter.mpr ⟨List.mem_of_getElem? (i := 359) (by decide +kernel), by decide +kernel⟩
theorem mw360 : Cond.code yX8_isTick cX8_isTick 2 (some .boolean) ∈ WA := List.mem_filter.mpr ⟨List.mem_of_getElem? (i := 360) (by decide +kernel), by decide +kernel⟩
theorem mw361 : Cond.methodLink RX8 171 yX8_isTicks ∈ WA := List.mem_filter.mpr ⟨List.mem_of_getElem? (i := 361) (by decide +kernel), by decide +kernel⟩
theorem mw362 : Cond.static yX8_isTicks ∈ WA := List.mem_filter.mpr ⟨List.mem_of_getElem? (i := 362) (by decide +kernel), by decide +kernel⟩
theorem mw363 : Cond.code yX8_isTicks cX8_isTicks 1 (some .boolean) ∈ WA := List.mem_filter.mpr ⟨List.mem_of_getElem? (i := 363) (by decide +kernel), by decide +kernel⟩
theorem mw364 : Cond.methodLink RX8 148 yX3_tickX ∈ WA := List.mem_filter.mpr ⟨List.mem_of_getElem? (i := 364) (by decide +kernel), by decide +kernel⟩
theorem mw365 : Cond.instanceMethod yX3_tickX ∈ WA := List.mem_filter.mpr ⟨List.mem_of_getElem? (i := 365) (by decide +kernel), by decide +kernel⟩
theorem mw366 : Cond.selects RX3 yX3_tickX yX3_tickX ∈ WA := List.mem_filter.mpr ⟨List.mem_of_getElem? (i := 366) (by decide +kernel), by decide +kernel⟩
theorem mw367 : Cond.code yX3_tickX cX3_tickX 4 (some .int) ∈ WA := List.mem_filter.mpr ⟨List.mem_of_getElem? (i := 367) (by decide +kernel), by decide +kernel⟩
theorem mw368 : Cond.methodLink RX3 24 yX3_x ∈ WA := List.mem_filter.mpr ⟨List.mem_of_getElem? (i := 368) (by decide +kernel), by decide +kernel⟩
theorem mw369 : Cond.instanceMethod yX3_x ∈ WA := List.mem_filter.mpr ⟨List.mem_of_getElem? (i := 369) (by decide +kernel), by decide +kernel⟩
theorem mw370 : Cond.selects RX3 yX3_x yX3_x ∈ WA := List.mem_filter.mpr ⟨List.mem_of_getElem? (i := 370) (by decide +kernel), by decide +kernel⟩
theorem mw371 : Cond.code yX3_x cX3_x 3 (some .int) ∈ WA := List.mem_filter.mpr ⟨List.mem_of_getElem? (i := 371) (by decide +kernel), by decide +kernel⟩
theorem mw372 : Cond.methodLink RX8 152 yX3_tickY ∈ WA := List.mem_filter.mpr ⟨List.mem_of_getElem? (i := 372) (by decide +kernel), by decide +kernel⟩
theorem mw373 : Cond.instanceMethod yX3_tickY ∈ WA := List.mem_filter.mpr ⟨List.mem_of_getElem? (i := 373) (by decide +kernel), by decide +kernel⟩
theorem mw374 : Cond.selects RX3 yX3_tickY yX3_tickY ∈ WA := List.mem_filter.mpr ⟨List.mem_of_getElem? (i := 374) (by decide +kernel), by decide +kernel⟩
theorem mw375 : Cond.code yX3_tickY cX3_tickY 4 (some .int) ∈ WA := List.mem_filter.mpr ⟨List.mem_of_getElem? (i := 375) (by decide +kernel), by decide +kernel⟩
theorem mw376 : Cond.methodLink RX3 28 yX3_y ∈ WA := List.mem_filter.mpr ⟨List.mem_of_getElem? (i := 376) (by decide +kernel), by decide +kernel⟩
theorem mw377 : Cond.instanceMethod yX3_y ∈ WA := List.mem_filter.mpr ⟨List.mem_of_getElem? (i := 377) (by decide +kernel), by decide +kernel⟩
theorem mw378 : Cond.selects RX3 yX3_y yX3_y ∈ WA := List.mem_filter.mpr ⟨List.mem_of_getElem? (i := 378) (by decide +kernel), by decide +kernel⟩
theorem mw379 : Cond.code yX3_y cX3_y 3 (some .int) ∈ WA := List.mem_filter.mpr ⟨List.mem_of_getElem? (i := 379) (by decide +kernel), by decide +kernel⟩
theorem mw380 : Cond.methodLink RL 45 yX8_third ∈ WA := List.mem_filter.mpr ⟨List.mem_of_getElem? (i := 380) (by decide +kernel), by decide +kernel⟩
theorem mw381 : Cond.instanceMethod yX8_third ∈ WA := List.mem_filter.mpr ⟨List.mem_of_getElem? (i := 381) (by decide +kernel), by decide +kernel⟩
theorem mw382 : Cond.selects RX8 yX8_third yX8_third ∈ WA := List.mem_filter.mpr ⟨List.mem_of_getElem? (i := 382) (by decide +kernel), by decide +kernel⟩
theorem mw383 : Cond.code yX8_third cX8_third 4 (some .int) ∈ WA := List.mem_filter.mpr ⟨List.mem_of_getElem? (i := 383) (by decide +kernel), by decide +kernel⟩
theorem mw384 : Cond.methodLink RX8 155 yX7_areJoined ∈ WA := List.mem_filter.mpr ⟨List.mem_of_getElem? (i := 384) (by decide +kernel), by decide +kernel⟩
theorem mw385 : Cond.instanceMethod yX7_areJoined ∈ WA := List.mem_filter.mpr ⟨List.mem_of_getElem? (i := 385) (by decide +kernel), by decide +kernel⟩
theorem mw386 : Cond.selects RX7 yX7_areJoined yX7_areJoined ∈ WA := List.mem_filter.mpr ⟨List.mem_of_getElem? (i := 386) (by decide +kernel), by decide +kernel⟩
theorem mw387 : Cond.code yX7_areJoined cX7_areJoined 5 (some .boolean) ∈ WA := List.mem_filter.mpr ⟨List.mem_of_getElem? (i := 387) (by decide +kernel), by decide +kernel⟩
theorem mw388 : Cond.methodLink RX7 27 yX7_touches ∈ WA := List.mem_filter.mpr ⟨List.mem_of_getElem? (i := 388) (by decide +kernel), by decide +kernel⟩
theorem mw389 : Cond.instanceMethod yX7_touches ∈ WA := List.mem_filter.mpr ⟨List.mem_of_getElem? (i := 389) (by decide +kernel), by decide +kernel⟩
theorem mw390 : Cond.selects RX7 yX7_touches yX7_touches ∈ WA := List.mem_filter.mpr ⟨List.mem_of_getElem? (i := 390) (by decide +kernel), by decide +kernel⟩
theorem mw391 : Cond.code yX7_touches cX7_touches 3 (some .boolean) ∈ WA := List.mem_filter.mpr ⟨List.mem_of_getElem? (i := 391) (by decide +kernel), by decide +kernel⟩
theorem mw392 : Cond.methodLink RX7 23 yX7_corner ∈ WA := List.mem_filter.mpr ⟨List.mem_of_getElem? (i := 392) (by decide +kernel), by decide +kernel⟩
theorem mw393 : Cond.instanceMethod yX7_corner ∈ WA := List.mem_filter.mpr ⟨List.mem_of_getElem? (i := 393) (by decide +kernel), by decide +kernel⟩
theorem mw394 : Cond.selects RX7 yX7_corner yX7_corner ∈ WA := List.mem_filter.mpr ⟨List.mem_of_getElem? (i := 394) (by decide +kernel), by decide +kernel⟩
theorem mw395 : Cond.code yX7_corner cX7_corner 3 (some .int) ∈ WA := List.mem_filter.mpr ⟨List.mem_of_getElem? (i := 395) (by decide +kernel), by decide +kernel⟩
theorem mw396 : Cond.constant RX8 158 (-1000002) ∈ WA := List.mem_filter.mpr ⟨List.mem_of_getElem? (i := 396) (by decide +kernel), by decide +kernel⟩
theorem mw397 : Cond.methodLink RX8 159 yX7_isFull ∈ WA := List.mem_filter.mpr ⟨List.mem_of_getElem? (i := 397) (by decide +kernel), by decide +kernel⟩
theorem mw398 : Cond.instanceMethod yX7_isFull ∈ WA := List.mem_filter.mpr ⟨List.mem_of_getElem? (i := 398) (by decide +kernel), by decide +kernel⟩
theorem mw399 : Cond.selects RX7 yX7_isFull yX7_isFull ∈ WA := List.mem_filter.mpr ⟨List.mem_of_getElem? (i := 399) (by decide +kernel), by decide +kernel⟩
theorem mw400 : Cond.code yX7_isFull cX7_isFull 1 (some .boolean) ∈ WA := List.mem_filter.mpr ⟨List.mem_of_getElem? (i := 400) (by decide +kernel), by decide +kernel⟩
theorem mw401 : Cond.methodLink RX8 160 yX7_add ∈ WA := List.mem_filter.mpr ⟨List.mem_of_getElem? (i := 401) (by decide +kernel), by decide +kernel⟩
theorem mw402 : Cond.instanceMethod yX7_add ∈ WA := List.mem_filter.mpr ⟨List.mem_of_getElem? (i := 402) (by decide +kernel), by decide +kernel⟩
theorem mw403 : Cond.selects RX7 yX7_add yX7_add ∈ WA := List.mem_filter.mpr ⟨List.mem_of_getElem? (i := 403) (by decide +kernel), by decide +kernel⟩
theorem mw404 : Cond.code yX7_add cX7_add 5 (some .int) ∈ WA := List.mem_filter.mpr ⟨List.mem_of_getElem? (i := 404) (by decide +kernel), by decide +kernel⟩
theorem mw405 : Cond.methodLink RL 49 yX8_told ∈ WA := List.mem_filter.mpr ⟨List.mem_of_getElem? (i := 405) (by decide +kernel), by decide +kernel⟩
theorem mw406 : Cond.instanceMethod yX8_told ∈ WA := List.mem_filter.mpr ⟨List.mem_of_getElem? (i := 406) (by decide +kernel), by decide +kernel⟩
theorem mw407 : Cond.selects RX8 yX8_told yX8_told ∈ WA := List.mem_filter.mpr ⟨List.mem_of_getElem? (i := 407) (by decide +kernel), by decide +kernel⟩
theorem mw408 : Cond.code yX8_told cX8_told 3 (some .int) ∈ WA := List.mem_filter.mpr ⟨List.mem_of_getElem? (i := 408) (by decide +kernel), by decide +kernel⟩
theorem mw409 : Cond.methodLink RX8 162 yX7_isThird ∈ WA := List.mem_filter.mpr ⟨List.mem_of_getElem? (i := 409) (by decide +kernel), by decide +kernel⟩
theorem mw410 : Cond.instanceMethod yX7_isThird ∈ WA := List.mem_filter.mpr ⟨List.mem_of_getElem? (i := 410) (by decide +kernel), by decide +kernel⟩
theorem mw411 : Cond.selects RX7 yX7_isThird yX7_isThird ∈ WA := List.mem_filter.mpr ⟨List.mem_of_getElem? (i := 411) (by decide +kernel), by decide +kernel⟩
theorem mw412 : Cond.code yX7_isThird cX7_isThird 2 (some .boolean) ∈ WA := List.mem_filter.mpr ⟨List.mem_of_getElem? (i := 412) (by decide +kernel), by decide +kernel⟩
theorem mw413 : Cond.methodLink RX8 165 yX7_corner ∈ WA := List.mem_filter.mpr ⟨List.mem_of_getElem? (i := 413) (by decide +kernel), by decide +kernel⟩
theorem mw414 : Cond.methodLink RX8 168 yX7_areaIn ∈ WA := List.mem_filter.mpr ⟨List.mem_of_getElem? (i := 414) (by decide +kernel), by decide +kernel⟩
theorem mw415 : Cond.instanceMethod yX7_areaIn ∈ WA := List.mem_filter.mpr ⟨List.mem_of_getElem? (i := 415) (by decide +kernel), by decide +kernel⟩
theorem mw416 : Cond.selects RX7 yX7_areaIn yX7_areaIn ∈ WA := List.mem_filter.mpr ⟨List.mem_of_getElem? (i := 416) (by decide +kernel), by decide +kernel⟩
theorem mw417 : Cond.code yX7_areaIn cX7_areaIn 6 (some .int) ∈ WA := List.mem_filter.mpr ⟨List.mem_of_getElem? (i := 417) (by decide +kernel), by decide +kernel⟩
theorem mw418 : Cond.methodLink RX7 44 yX3_x ∈ WA := List.mem_filter.mpr ⟨List.mem_of_getElem? (i := 418) (by decide +kernel), by decide +kernel⟩
theorem mw419 : Cond.methodLink RX7 47 yX3_y ∈ WA := List.mem_filter.mpr ⟨List.mem_of_getElem? (i := 419) (by decide +kernel), by decide +kernel⟩
theorem mw420 : Cond.methodLink RX7 40 yX3_area ∈ WA := List.mem_filter.mpr ⟨List.mem_of_getElem? (i := 420) (by decide +kernel), by decide +kernel⟩
theorem mw421 : Cond.static yX3_area ∈ WA := List.mem_filter.mpr ⟨List.mem_of_getElem? (i := 421) (by decide +kernel), by decide +kernel⟩
theorem mw422 : Cond.code yX3_area cX3_area 12 (some .long) ∈ WA := List.mem_filter.mpr ⟨List.mem_of_getElem? (i := 422) (by decide +kernel), by decide +kernel⟩
theorem mw423 : Cond.methodLink RL 54 yX8_folds ∈ WA := List.mem_filter.mpr ⟨List.mem_of_getElem? (i := 423) (by decide +kernel), by decide +kernel⟩
theorem mw424 : Cond.instanceMethod yX8_folds ∈ WA := List.mem_filter.mpr ⟨List.mem_of_getElem? (i := 424) (by decide +kernel), by decide +kernel⟩
theorem mw425 : Cond.selects RX8 yX8_folds yX8_folds ∈ WA := List.mem_filter.mpr ⟨List.mem_of_getElem? (i := 425) (by decide +kernel), by decide +kernel⟩
theorem mw426 : Cond.code yX8_folds cX8_folds 3 (some .int) ∈ WA := List.mem_filter.mpr ⟨List.mem_of_getElem? (i := 426) (by decide +kernel), by decide +kernel⟩
theorem mw427 : Cond.methodLink RX8 174 yX7_foldTick ∈ WA := List.mem_filter.mpr ⟨List.mem_of_getElem? (i := 427) (by decide +kernel), by decide +kernel⟩
theorem mw428 : Cond.instanceMethod yX7_foldTick ∈ WA := List.mem_filter.mpr ⟨List.mem_of_getElem? (i := 428) (by decide +kernel), by decide +kernel⟩
theorem mw429 : Cond.selects RX7 yX7_foldTick yX7_foldTick ∈ WA := List.mem_filter.mpr ⟨List.mem_of_getElem? (i := 429) (by decide +kernel), by decide +kernel⟩
theorem mw430 : Cond.code yX7_foldTick cX7_foldTick 4 (some .int) ∈ WA := List.mem_filter.mpr ⟨List.mem_of_getElem? (i := 430) (by decide +kernel), by decide +kernel⟩
theorem mw431 : Cond.methodLink RX7 54 yX7_isUpright ∈ WA := List.mem_filter.mpr ⟨List.mem_of_getElem? (i := 431) (by decide +kernel), by decide +kernel⟩
theorem mw432 : Cond.instanceMethod yX7_isUpright ∈ WA := List.mem_filter.mpr ⟨List.mem_of_getElem? (i := 432) (by decide +kernel), by decide +kernel⟩
theorem mw433 : Cond.selects RX7 yX7_isUpright yX7_isUpright ∈ WA := List.mem_filter.mpr ⟨List.mem_of_getElem? (i := 433) (by decide +kernel), by decide +kernel⟩
theorem mw434 : Cond.code yX7_isUpright cX7_isUpright 4 (some .boolean) ∈ WA := List.mem_filter.mpr ⟨List.mem_of_getElem? (i := 434) (by decide +kernel), by decide +kernel⟩
theorem mw435 : Cond.methodLink RX7 50 yX7_tickArea ∈ WA := List.mem_filter.mpr ⟨List.mem_of_getElem? (i := 435) (by decide +kernel), by decide +kernel⟩
theorem mw436 : Cond.instanceMethod yX7_tickArea ∈ WA := List.mem_filter.mpr ⟨List.mem_of_getElem? (i := 436) (by decide +kernel), by decide +kernel⟩
theorem mw437 : Cond.selects RX7 yX7_tickArea yX7_tickArea ∈ WA := List.mem_filter.mpr ⟨List.mem_of_getElem? (i := 437) (by decide +kernel), by decide +kernel⟩
theorem mw438 : Cond.code yX7_tickArea cX7_tickArea 7 (some .long) ∈ WA := List.mem_filter.mpr ⟨List.mem_of_getElem? (i := 438) (by decide +kernel), by decide +kernel⟩
theorem mw439 : Cond.methodLink RX7 31 yX3_tickX ∈ WA := List.mem_filter.mpr ⟨List.mem_of_getElem? (i := 439) (by decide +kernel), by decide +kernel⟩
theorem mw440 : Cond.methodLink RX7 37 yX3_tickY ∈ WA := List.mem_filter.mpr ⟨List.mem_of_getElem? (i := 440) (by decide +kernel), by decide +kernel⟩
theorem mw441 : Cond.constant RX7 58 (-1000000) ∈ WA := List.mem_filter.mpr ⟨List.mem_of_getElem? (i := 441) (by decide +kernel), by decide +kernel⟩
theorem mw442 : Cond.methodLink RL 58 yX8_first ∈ WA := List.mem_filter.mpr ⟨List.mem_of_getElem? (i := 442) (by decide +kernel), by decide +kernel⟩
theorem mw443 : Cond.instanceMethod yX8_first ∈ WA := List.mem_filter.mpr ⟨List.mem_of_getElem? (i := 443) (by decide +kernel), by decide +kernel⟩
theorem mw444 : Cond.selects RX8 yX8_first yX8_first ∈ WA := List.mem_filter.mpr ⟨List.mem_of_getElem? (i := 444) (by decide +kernel), by decide +kernel⟩
theorem mw445 : Cond.code yX8_first cX8_first 4 (some .int) ∈ WA := List.mem_filter.mpr ⟨List.mem_of_getElem? (i := 445) (by decide +kernel), by decide +kernel⟩
theorem mw446 : Cond.methodLink RX8 177 yX7_firstFolded ∈ WA := List.mem_filter.mpr ⟨List.mem_of_getElem? (i := 446) (by decide +kernel), by decide +kernel⟩
theorem mw447 : Cond.instanceMethod yX7_firstFolded ∈ WA := List.mem_filter.mpr ⟨List.mem_of_getElem? (i := 447) (by decide +kernel), by decide +kernel⟩
theorem mw448 : Cond.selects RX7 yX7_firstFolded yX7_firstFolded ∈ WA := List.mem_filter.mpr ⟨List.mem_of_getElem? (i := 448) (by decide +kernel), by decide +kernel⟩
theorem mw449 : Cond.code yX7_firstFolded cX7_firstFolded 4 (some .int) ∈ WA := List.mem_filter.mpr ⟨List.mem_of_getElem? (i := 449) (by decide +kernel), by decide +kernel⟩
theorem mw450 : Cond.constant RX8 180 (-1000000) ∈ WA := List.mem_filter.mpr ⟨List.mem_of_getElem? (i := 450) (by decide +kernel), by decide +kernel⟩
theorem mw451 : Cond.methodLink RL 62 yX8_sides ∈ WA := List.mem_filter.mpr ⟨List.mem_of_getElem? (i := 451) (by decide +kernel), by decide +kernel⟩
theorem mw452 : Cond.instanceMethod yX8_sides ∈ WA := List.mem_filter.mpr ⟨List.mem_of_getElem? (i := 452) (by decide +kernel), by decide +kernel⟩
theorem mw453 : Cond.selects RX8 yX8_sides yX8_sides ∈ WA := List.mem_filter.mpr ⟨List.mem_of_getElem? (i := 453) (by decide +kernel), by decide +kernel⟩
theorem mw454 : Cond.code yX8_sides cX8_sides 2 (some .int) ∈ WA := List.mem_filter.mpr ⟨List.mem_of_getElem? (i := 454) (by decide +kernel), by decide +kernel⟩
theorem mw455 : Cond.methodLink RX8 181 yX7_sidesOf ∈ WA := List.mem_filter.mpr ⟨List.mem_of_getElem? (i := 455) (by decide +kernel), by decide +kernel⟩
theorem mw456 : Cond.instanceMethod yX7_sidesOf ∈ WA := List.mem_filter.mpr ⟨List.mem_of_getElem? (i := 456) (by decide +kernel), by decide +kernel⟩
theorem mw457 : Cond.selects RX7 yX7_sidesOf yX7_sidesOf ∈ WA := List.mem_filter.mpr ⟨List.mem_of_getElem? (i := 457) (by decide +kernel), by decide +kernel⟩
theorem mw458 : Cond.code yX7_sidesOf cX7_sidesOf 5 (some .int) ∈ WA := List.mem_filter.mpr ⟨List.mem_of_getElem? (i := 458) (by decide +kernel), by decide +kernel⟩
theorem mw459 : Cond.methodLink RX7 59 yX3_many ∈ WA := List.mem_filter.mpr ⟨List.mem_of_getElem? (i := 459) (by decide +kernel), by decide +kernel⟩
theorem mw460 : Cond.instanceMethod yX3_many ∈ WA := List.mem_filter.mpr ⟨List.mem_of_getElem? (i := 460) (by decide +kernel), by decide +kernel⟩
theorem mw461 : Cond.selects RX3 yX3_many yX3_many ∈ WA := List.mem_filter.mpr ⟨List.mem_of_getElem? (i := 461) (by decide +kernel), by decide +kernel⟩
theorem mw462 : Cond.code yX3_many cX3_many 1 (some .int) ∈ WA := List.mem_filter.mpr ⟨List.mem_of_getElem? (i := 462) (by decide +kernel), by decide +kernel⟩
theorem mw463 : Cond.methodLink RX7 62 yX7_thirdsAtSide ∈ WA := List.mem_filter.mpr ⟨List.mem_of_getElem? (i := 463) (by decide +kernel), by decide +kernel⟩
theorem mw465 : Cond.instanceMethod yX7_thirdsAtSide ∈ WA := List.mem_filter.mpr ⟨List.mem_of_getElem? (i := 465) (by decide +kernel), by decide +kernel⟩
theorem mw466 : Cond.code yX7_thirdsAtSide cX7_thirdsAtSide 5 (some .int) ∈ WA := List.mem_filter.mpr ⟨List.mem_of_getElem? (i := 466) (by decide +kernel), by decide +kernel⟩
theorem mw467 : Cond.methodLink RL 66 yX8_key ∈ WA := List.mem_filter.mpr ⟨List.mem_of_getElem? (i := 467) (by decide +kernel), by decide +kernel⟩
theorem mw468 : Cond.instanceMethod yX8_key ∈ WA := List.mem_filter.mpr ⟨List.mem_of_getElem? (i := 468) (by decide +kernel), by decide +kernel⟩
theorem mw469 : Cond.selects RX8 yX8_key yX8_key ∈ WA := List.mem_filter.mpr ⟨List.mem_of_getElem? (i := 469) (by decide +kernel), by decide +kernel⟩
theorem mw470 : Cond.code yX8_key cX8_key 3 (some .int) ∈ WA := List.mem_filter.mpr ⟨List.mem_of_getElem? (i := 470) (by decide +kernel), by decide +kernel⟩
theorem mw471 : Cond.methodLink RX8 184 yX2_rises ∈ WA := List.mem_filter.mpr ⟨List.mem_of_getElem? (i := 471) (by decide +kernel), by decide +kernel⟩
theorem mw472 : Cond.instanceMethod yX2_rises ∈ WA := List.mem_filter.mpr ⟨List.mem_of_getElem? (i := 472) (by decide +kernel), by decide +kernel⟩
theorem mw473 : Cond.selects RX2 yX2_rises yX2_rises ∈ WA := List.mem_filter.mpr ⟨List.mem_of_getElem? (i := 473) (by decide +kernel), by decide +kernel⟩
theorem mw474 : Cond.code yX2_rises cX2_rises 3 (some .boolean) ∈ WA := List.mem_filter.mpr ⟨List.mem_of_getElem? (i := 474) (by decide +kernel), by decide +kernel⟩
theorem mw475 : Cond.methodLink RX8 187 yX2_isFull ∈ WA := List.mem_filter.mpr ⟨List.mem_of_getElem? (i := 475) (by decide +kernel), by decide +kernel⟩
theorem mw476 : Cond.instanceMethod yX2_isFull ∈ WA := List.mem_filter.mpr ⟨List.mem_of_getElem? (i := 476) (by decide +kernel), by decide +kernel⟩
theorem mw477 : Cond.selects RX2 yX2_isFull yX2_isFull ∈ WA := List.mem_filter.mpr ⟨List.mem_of_getElem? (i := 477) (by decide +kernel), by decide +kernel⟩
theorem mw478 : Cond.code yX2_isFull cX2_isFull 1 (some .boolean) ∈ WA := List.mem_filter.mpr ⟨List.mem_of_getElem? (i := 478) (by decide +kernel), by decide +kernel⟩
theorem mw479 : Cond.methodLink RX8 188 yX2_add ∈ WA := List.mem_filter.mpr ⟨List.mem_of_getElem? (i := 479) (by decide +kernel), by decide +kernel⟩
theorem mw480 : Cond.instanceMethod yX2_add ∈ WA := List.mem_filter.mpr ⟨List.mem_of_getElem? (i := 480) (by decide +kernel), by decide +kernel⟩
theorem mw481 : Cond.selects RX2 yX2_add yX2_add ∈ WA := List.mem_filter.mpr ⟨List.mem_of_getElem? (i := 481) (by decide +kernel), by decide +kernel⟩
theorem mw482 : Cond.code yX2_add cX2_add 3 (some .int) ∈ WA := List.mem_filter.mpr ⟨List.mem_of_getElem? (i := 482) (by decide +kernel), by decide +kernel⟩
theorem mw483 : Cond.methodLink RL 70 yX8_eased ∈ WA := List.mem_filter.mpr ⟨List.mem_of_getElem? (i := 483) (by decide +kernel), by decide +kernel⟩
theorem mw484 : Cond.instanceMethod yX8_eased ∈ WA := List.mem_filter.mpr ⟨List.mem_of_getElem? (i := 484) (by decide +kernel), by decide +kernel⟩
theorem mw485 : Cond.selects RX8 yX8_eased yX8_eased ∈ WA := List.mem_filter.mpr ⟨List.mem_of_getElem? (i := 485) (by decide +kernel), by decide +kernel⟩
theorem mw486 : Cond.code yX8_eased cX8_eased 2 (some .int) ∈ WA := List.mem_filter.mpr ⟨List.mem_of_getElem? (i := 486) (by decide +kernel), by decide +kernel⟩
theorem mw487 : Cond.methodLink RX8 190 yX2_shareAt ∈ WA := List.mem_filter.mpr ⟨List.mem_of_getElem? (i := 487) (by decide +kernel), by decide +kernel⟩
theorem mw488 : Cond.instanceMethod yX2_shareAt ∈ WA := List.mem_filter.mpr ⟨List.mem_of_getElem? (i := 488) (by decide +kernel), by decide +kernel⟩
theorem mw489 : Cond.selects RX2 yX2_shareAt yX2_shareAt ∈ WA := List.mem_filter.mpr ⟨List.mem_of_getElem? (i := 489) (by decide +kernel), by decide +kernel⟩
theorem mw490 : Cond.code yX2_shareAt cX2_shareAt 3 (some .int) ∈ WA := List.mem_filter.mpr ⟨List.mem_of_getElem? (i := 490) (by decide +kernel), by decide +kernel⟩
theorem mw491 : Cond.methodLink RX2 20 yX2_shareBetween ∈ WA := List.mem_filter.mpr ⟨List.mem_of_getElem? (i := 491) (by decide +kernel), by decide +kernel⟩
theorem mw493 : Cond.instanceMethod yX2_shareBetween ∈ WA := List.mem_filter.mpr ⟨List.mem_of_getElem? (i := 493) (by decide +kernel), by decide +kernel⟩
theorem mw494 : Cond.code yX2_shareBetween cX2_shareBetween 5 (some .int) ∈ WA := List.mem_filter.mpr ⟨List.mem_of_getElem? (i := 494) (by decide +kernel), by decide +kernel⟩
theorem mw495 : Cond.methodLink RL 74 yX8_unkey ∈ WA := List.mem_filter.mpr ⟨List.mem_of_getElem? (i := 495) (by decide +kernel), by decide +kernel⟩
theorem mw496 : Cond.instanceMethod yX8_unkey ∈ WA := List.mem_filter.mpr ⟨List.mem_of_getElem? (i := 496) (by decide +kernel), by decide +kernel⟩
theorem mw497 : Cond.selects RX8 yX8_unkey yX8_unkey ∈ WA := List.mem_filter.mpr ⟨List.mem_of_getElem? (i := 497) (by decide +kernel), by decide +kernel⟩
theorem mw498 : Cond.code yX8_unkey cX8_unkey 1 (some .int) ∈ WA := List.mem_filter.mpr ⟨List.mem_of_getElem? (i := 498) (by decide +kernel), by decide +kernel⟩
theorem mw499 : Cond.methodLink RX8 193 yX2_takeAway ∈ WA := List.mem_filter.mpr ⟨List.mem_of_getElem? (i := 499) (by decide +kernel), by decide +kernel⟩
theorem mw500 : Cond.instanceMethod yX2_takeAway ∈ WA := List.mem_filter.mpr ⟨List.mem_of_getElem? (i := 500) (by decide +kernel), by decide +kernel⟩
theorem mw501 : Cond.selects RX2 yX2_takeAway yX2_takeAway ∈ WA := List.mem_filter.mpr ⟨List.mem_of_getElem? (i := 501) (by decide +kernel), by decide +kernel⟩
theorem mw502 : Cond.code yX2_takeAway cX2_takeAway 2 (some .int) ∈ WA := List.mem_filter.mpr ⟨List.mem_of_getElem? (i := 502) (by decide +kernel), by decide +kernel⟩
theorem mw503 : Cond.methodLink RL 79 yX8_in ∈ WA := List.mem_filter.mpr ⟨List.mem_of_getElem? (i := 503) (by decide +kernel), by decide +kernel⟩
theorem mw504 : Cond.instanceMethod yX8_in ∈ WA := List.mem_filter.mpr ⟨List.mem_of_getElem? (i := 504) (by decide +kernel), by decide +kernel⟩
theorem mw505 : Cond.selects RX8 yX8_in yX8_in ∈ WA := List.mem_filter.mpr ⟨List.mem_of_getElem? (i := 505) (by decide +kernel), by decide +kernel⟩
theorem mw506 : Cond.code yX8_in cX8_in 5 (some .int) ∈ WA := List.mem_filter.mpr ⟨List.mem_of_getElem? (i := 506) (by decide +kernel), by decide +kernel⟩
theorem mw507 : Cond.methodLink RX8 196 yX1_find ∈ WA := List.mem_filter.mpr ⟨List.mem_of_getElem? (i := 507) (by decide +kernel), by decide +kernel⟩
theorem mw508 : Cond.instanceMethod yX1_find ∈ WA := List.mem_filter.mpr ⟨List.mem_of_getElem? (i := 508) (by decide +kernel), by decide +kernel⟩
theorem mw509 : Cond.selects RX1 yX1_find yX1_find ∈ WA := List.mem_filter.mpr ⟨List.mem_of_getElem? (i := 509) (by decide +kernel), by decide +kernel⟩
theorem mw510 : Cond.code yX1_find cX1_find 6 (some .int) ∈ WA := List.mem_filter.mpr ⟨List.mem_of_getElem? (i := 510) (by decide +kernel), by decide +kernel⟩
theorem mw511 : Cond.methodLink RX1 37 yX7_many ∈ WA := List.mem_filter.mpr ⟨List.mem_of_getElem? (i := 511) (by decide +kernel), by decide +kernel⟩
theorem mw512 : Cond.instanceMethod yX7_many ∈ WA := List.mem_filter.mpr ⟨List.mem_of_getElem? (i := 512) (by decide +kernel), by decide +kernel⟩
theorem mw513 : Cond.selects RX7 yX7_many yX7_many ∈ WA := List.mem_filter.mpr ⟨List.mem_of_getElem? (i := 513) (by decide +kernel), by decide +kernel⟩
theorem mw514 : Cond.code yX7_many cX7_many 1 (some .int) ∈ WA := List.mem_filter.mpr ⟨List.mem_of_getElem? (i := 514) (by decide +kernel), by decide +kernel⟩
theorem mw515 : Cond.methodLink RX1 43 yX1_share ∈ WA := List.mem_filter.mpr ⟨List.mem_of_getElem? (i := 515) (by decide +kernel), by decide +kernel⟩
theorem mw517 : Cond.instanceMethod yX1_share ∈ WA := List.mem_filter.mpr ⟨List.mem_of_getElem? (i := 517) (by decide +kernel), by decide +kernel⟩
theorem mw518 : Cond.code yX1_share cX1_share 25 none ∈ WA := List.mem_filter.mpr ⟨List.mem_of_getElem? (i := 518) (by decide +kernel), by decide +kernel⟩
theorem mw519 : Cond.methodLink RX1 47 yX7_corner ∈ WA := List.mem_filter.mpr ⟨List.mem_of_getElem? (i := 519) (by decide +kernel), by decide +kernel⟩
theorem mw520 : Cond.methodLink RX1 51 yX3_tickX ∈ WA := List.mem_filter.mpr ⟨List.mem_of_getElem? (i := 520) (by decide +kernel), by decide +kernel⟩
theorem mw521 : Cond.methodLink RX1 57 yX3_tickY ∈ WA := List.mem_filter.mpr ⟨List.mem_of_getElem? (i := 521) (by decide +kernel), by decide +kernel⟩
theorem mw522 : Cond.methodLink RX1 60 yX3_area ∈ WA := List.mem_filter.mpr ⟨List.mem_of_getElem? (i := 522) (by decide +kernel), by decide +kernel⟩
theorem mw523 : Cond.methodLink RL 83 yX8_from ∈ WA := List.mem_filter.mpr ⟨List.mem_of_getElem? (i := 523) (by decide +kernel), by decide +kernel⟩
theorem mw524 : Cond.instanceMethod yX8_from ∈ WA := List.mem_filter.mpr ⟨List.mem_of_getElem? (i := 524) (by decide +kernel), by decide +kernel⟩
theorem mw525 : Cond.selects RX8 yX8_from yX8_from ∈ WA := List.mem_filter.mpr ⟨List.mem_of_getElem? (i := 525) (by decide +kernel), by decide +kernel⟩
theorem mw526 : Cond.code yX8_from cX8_from 7 (some .int) ∈ WA := List.mem_filter.mpr ⟨List.mem_of_getElem? (i := 526) (by decide +kernel), by decide +kernel⟩
theorem mw527 : Cond.methodLink RX8 199 yX1_originX ∈ WA := List.mem_filter.mpr ⟨List.mem_of_getElem? (i := 527) (by decide +kernel), by decide +kernel⟩
theorem mw528 : Cond.instanceMethod yX1_originX ∈ WA := List.mem_filter.mpr ⟨List.mem_of_getElem? (i := 528) (by decide +kernel), by decide +kernel⟩
theorem mw529 : Cond.selects RX1 yX1_originX yX1_originX ∈ WA := List.mem_filter.mpr ⟨List.mem_of_getElem? (i := 529) (by decide +kernel), by decide +kernel⟩
theorem mw530 : Cond.code yX1_originX cX1_originX 2 (some .int) ∈ WA := List.mem_filter.mpr ⟨List.mem_of_getElem? (i := 530) (by decide +kernel), by decide +kernel⟩
theorem mw531 : Cond.methodLink RX1 63 yX3_x ∈ WA := List.mem_filter.mpr ⟨List.mem_of_getElem? (i := 531) (by decide +kernel), by decide +kernel⟩
theorem mw532 : Cond.methodLink RX8 202 yX1_originY ∈ WA := List.mem_filter.mpr ⟨List.mem_of_getElem? (i := 532) (by decide +kernel), by decide +kernel⟩
theorem mw533 : Cond.instanceMethod yX1_originY ∈ WA := List.mem_filter.mpr ⟨List.mem_of_getElem? (i := 533) (by decide +kernel), by decide +kernel⟩
theorem mw534 : Cond.selects RX1 yX1_originY yX1_originY ∈ WA := List.mem_filter.mpr ⟨List.mem_of_getElem? (i := 534) (by decide +kernel), by decide +kernel⟩
theorem mw535 : Cond.code yX1_originY cX1_originY 2 (some .int) ∈ WA := List.mem_filter.mpr ⟨List.mem_of_getElem? (i := 535) (by decide +kernel), by decide +kernel⟩
theorem mw536 : Cond.methodLink RX1 66 yX3_y ∈ WA := List.mem_filter.mpr ⟨List.mem_of_getElem? (i := 536) (by decide +kernel), by decide +kernel⟩
theorem mw537 : Cond.methodLink RL 87 yX8_picture ∈ WA := List.mem_filter.mpr ⟨List.mem_of_getElem? (i := 537) (by decide +kernel), by decide +kernel⟩
theorem mw538 : Cond.instanceMethod yX8_picture ∈ WA := List.mem_filter.mpr ⟨List.mem_of_getElem? (i := 538) (by decide +kernel), by decide +kernel⟩
theorem mw539 : Cond.selects RX8 yX8_picture yX8_picture ∈ WA := List.mem_filter.mpr ⟨List.mem_of_getElem? (i := 539) (by decide +kernel), by decide +kernel⟩
theorem mw540 : Cond.code yX8_picture cX8_picture 6 (some .int) ∈ WA := List.mem_filter.mpr ⟨List.mem_of_getElem? (i := 540) (by decide +kernel), by decide +kernel⟩
theorem mw541 : Cond.methodLink RX8 205 yX5_isSize ∈ WA := List.mem_filter.mpr ⟨List.mem_of_getElem? (i := 541) (by decide +kernel), by decide +kernel⟩
theorem mw542 : Cond.static yX5_isSize ∈ WA := List.mem_filter.mpr ⟨List.mem_of_getElem? (i := 542) (by decide +kernel), by decide +kernel⟩
theorem mw543 : Cond.code yX5_isSize cX5_isSize 2 (some .boolean) ∈ WA := List.mem_filter.mpr ⟨List.mem_of_getElem? (i := 543) (by decide +kernel), by decide +kernel⟩
theorem mw545 : Cond.methodLink RX8 208 yX6_allWithin ∈ WA := List.mem_filter.mpr ⟨List.mem_of_getElem? (i := 545) (by decide +kernel), by decide +kernel⟩
theorem mw546 : Cond.instanceMethod yX6_allWithin ∈ WA := List.mem_filter.mpr ⟨List.mem_of_getElem? (i := 546) (by decide +kernel), by decide +kernel⟩
theorem mw547 : Cond.selects RX6 yX6_allWithin yX6_allWithin ∈ WA := List.mem_filter.mpr ⟨List.mem_of_getElem? (i := 547) (by decide +kernel), by decide +kernel⟩
theorem mw548 : Cond.code yX6_allWithin cX6_allWithin 6 (some .boolean) ∈ WA := List.mem_filter.mpr ⟨List.mem_of_getElem? (i := 548) (by decide +kernel), by decide +kernel⟩
theorem mw549 : Cond.methodLink RX6 25 yX6_item ∈ WA := List.mem_filter.mpr ⟨List.mem_of_getElem? (i := 549) (by decide +kernel), by decide +kernel⟩
theorem mw550 : Cond.methodLink RX8 212 yX5_take ∈ WA := List.mem_filter.mpr ⟨List.mem_of_getElem? (i := 550) (by decide +kernel), by decide +kernel⟩
theorem mw551 : Cond.instanceMethod yX5_take ∈ WA := List.mem_filter.mpr ⟨List.mem_of_getElem? (i := 551) (by decide +kernel), by decide +kernel⟩
theorem mw552 : Cond.selects RX5 yX5_take yX5_take ∈ WA := List.mem_filter.mpr ⟨List.mem_of_getElem? (i := 552) (by decide +kernel), by decide +kernel⟩
theorem mw553 : Cond.code yX5_take cX5_take 8 none ∈ WA := List.mem_filter.mpr ⟨List.mem_of_getElem? (i := 553) (by decide +kernel), by decide +kernel⟩
theorem mw554 : Cond.methodLink RX5 25 yX6_item ∈ WA := List.mem_filter.mpr ⟨List.mem_of_getElem? (i := 554) (by decide +kernel), by decide +kernel⟩
theorem mw555 : Cond.methodLink RL 91 yX8_seen ∈ WA := List.mem_filter.mpr ⟨List.mem_of_getElem? (i := 555) (by decide +kernel), by decide +kernel⟩
theorem mw556 : Cond.instanceMethod yX8_seen ∈ WA := List.mem_filter.mpr ⟨List.mem_of_getElem? (i := 556) (by decide +kernel), by decide +kernel⟩
theorem mw557 : Cond.selects RX8 yX8_seen yX8_seen ∈ WA := List.mem_filter.mpr ⟨List.mem_of_getElem? (i := 557) (by decide +kernel), by decide +kernel⟩
theorem mw558 : Cond.code yX8_seen cX8_seen 5 (some .int) ∈ WA := List.mem_filter.mpr ⟨List.mem_of_getElem? (i := 558) (by decide +kernel), by decide +kernel⟩
theorem mw559 : Cond.methodLink RX8 216 yX5_isTold ∈ WA := List.mem_filter.mpr ⟨List.mem_of_getElem? (i := 559) (by decide +kernel), by decide +kernel⟩
theorem mw560 : Cond.instanceMethod yX5_isTold ∈ WA := List.mem_filter.mpr ⟨List.mem_of_getElem? (i := 560) (by decide +kernel), by decide +kernel⟩
theorem mw561 : Cond.selects RX5 yX5_isTold yX5_isTold ∈ WA := List.mem_filter.mpr ⟨List.mem_of_getElem? (i := 561) (by decide +kernel), by decide +kernel⟩
theorem mw562 : Cond.code yX5_isTold cX5_isTold 2 (some .boolean) ∈ WA := List.mem_filter.mpr ⟨List.mem_of_getElem? (i := 562) (by decide +kernel), by decide +kernel⟩
theorem mw563 : Cond.methodLink RX8 219 yX8_numberFrom ∈ WA := List.mem_filter.mpr ⟨List.mem_of_getElem? (i := 563) (by decide +kernel), by decide +kernel⟩
theorem mw565 : Cond.instanceMethod yX8_numberFrom ∈ WA := List.mem_filter.mpr ⟨List.mem_of_getElem? (i := 565) (by decide +kernel), by decide +kernel⟩
theorem mw566 : Cond.code yX8_numberFrom cX8_numberFrom 2 (some .int) ∈ WA := List.mem_filter.mpr ⟨List.mem_of_getElem? (i := 566) (by decide +kernel), by decide +kernel⟩
theorem mw567 : Cond.methodLink RX8 265 yX5_numberAt ∈ WA := List.mem_filter.mpr ⟨List.mem_of_getElem? (i := 567) (by decide +kernel), by decide +kernel⟩
theorem mw568 : Cond.instanceMethod yX5_numberAt ∈ WA := List.mem_filter.mpr ⟨List.mem_of_getElem? (i := 568) (by decide +kernel), by decide +kernel⟩
theorem mw569 : Cond.selects RX5 yX5_numberAt yX5_numberAt ∈ WA := List.mem_filter.mpr ⟨List.mem_of_getElem? (i := 569) (by decide +kernel), by decide +kernel⟩
theorem mw570 : Cond.code yX5_numberAt cX5_numberAt 6 (some .int) ∈ WA := List.mem_filter.mpr ⟨List.mem_of_getElem? (i := 570) (by decide +kernel), by decide +kernel⟩
theorem mw571 : Cond.methodLink RL 95 yX8_pairs ∈ WA := List.mem_filter.mpr ⟨List.mem_of_getElem? (i := 571) (by decide +kernel), by decide +kernel⟩
theorem mw572 : Cond.instanceMethod yX8_pairs ∈ WA := List.mem_filter.mpr ⟨List.mem_of_getElem? (i := 572) (by decide +kernel), by decide +kernel⟩
theorem mw573 : Cond.selects RX8 yX8_pairs yX8_pairs ∈ WA := List.mem_filter.mpr ⟨List.mem_of_getElem? (i := 573) (by decide +kernel), by decide +kernel⟩
theorem mw574 : Cond.code yX8_pairs cX8_pairs 7 (some .int) ∈ WA := List.mem_filter.mpr ⟨List.mem_of_getElem? (i := 574) (by decide +kernel), by decide +kernel⟩
theorem mw575 : Cond.methodLink RX8 222 yX8_refusalOfRows ∈ WA := List.mem_filter.mpr ⟨List.mem_of_getElem? (i := 575) (by decide +kernel), by decide +kernel⟩
theorem mw577 : Cond.instanceMethod yX8_refusalOfRows ∈ WA := List.mem_filter.mpr ⟨List.mem_of_getElem? (i := 577) (by decide +kernel), by decide +kernel⟩
theorem mw578 : Cond.code yX8_refusalOfRows cX8_refusalOfRows 5 (some .int) ∈ WA := List.mem_filter.mpr ⟨List.mem_of_getElem? (i := 578) (by decide +kernel), by decide +kernel⟩
theorem mw579 : Cond.methodLink RX8 262 yX4_isRow ∈ WA := List.mem_filter.mpr ⟨List.mem_of_getElem? (i := 579) (by decide +kernel), by decide +kernel⟩
theorem mw580 : Cond.static yX4_isRow ∈ WA := List.mem_filter.mpr ⟨List.mem_of_getElem? (i := 580) (by decide +kernel), by decide +kernel⟩
theorem mw581 : Cond.code yX4_isRow cX4_isRow 1 (some .boolean) ∈ WA := List.mem_filter.mpr ⟨List.mem_of_getElem? (i := 581) (by decide +kernel), by decide +kernel⟩
theorem mw583 : Cond.methodLink RX8 225 yX4_join ∈ WA := List.mem_filter.mpr ⟨List.mem_of_getElem? (i := 583) (by decide +kernel), by decide +kernel⟩
theorem mw584 : Cond.instanceMethod yX4_join ∈ WA := List.mem_filter.mpr ⟨List.mem_of_getElem? (i := 584) (by decide +kernel), by decide +kernel⟩
theorem mw585 : Cond.selects RX4 yX4_join yX4_join ∈ WA := List.mem_filter.mpr ⟨List.mem_of_getElem? (i := 585) (by decide +kernel), by decide +kernel⟩
theorem mw586 : Cond.code yX4_join cX4_join 7 none ∈ WA := List.mem_filter.mpr ⟨List.mem_of_getElem? (i := 586) (by decide +kernel), by decide +kernel⟩
theorem mw587 : Cond.methodLink RX4 45 yX4_apart ∈ WA := List.mem_filter.mpr ⟨List.mem_of_getElem? (i := 587) (by decide +kernel), by decide +kernel⟩
theorem mw589 : Cond.instanceMethod yX4_apart ∈ WA := List.mem_filter.mpr ⟨List.mem_of_getElem? (i := 589) (by decide +kernel), by decide +kernel⟩
theorem mw590 : Cond.code yX4_apart cX4_apart 3 (some .int) ∈ WA := List.mem_filter.mpr ⟨List.mem_of_getElem? (i := 590) (by decide +kernel), by decide +kernel⟩
theorem mw591 : Cond.methodLink RX4 60 yX6_item ∈ WA := List.mem_filter.mpr ⟨List.mem_of_getElem? (i := 591) (by decide +kernel), by decide +kernel⟩
theorem mw592 : Cond.methodLink RX4 65 yJ9_abs_0f7a4 ∈ WA := List.mem_filter.mpr ⟨List.mem_of_getElem? (i := 592) (by decide +kernel), by decide +kernel⟩
theorem mw593 : Cond.static yJ9_abs_0f7a4 ∈ WA := List.mem_filter.mpr ⟨List.mem_of_getElem? (i := 593) (by decide +kernel), by decide +kernel⟩
theorem mw594 : Cond.code yJ9_abs_0f7a4 Lib.Math.abs.code 1 (some .int) ∈ WA := List.mem_filter.mpr ⟨List.mem_of_getElem? (i := 594) (by decide +kernel), by decide +kernel⟩
theorem mw595 : Cond.methodLink RX4 49 yX4_costAhead ∈ WA := List.mem_filter.mpr ⟨List.mem_of_getElem? (i := 595) (by decide +kernel), by decide +kernel⟩
theorem mw597 : Cond.instanceMethod yX4_costAhead ∈ WA := List.mem_filter.mpr ⟨List.mem_of_getElem? (i := 597) (by decide +kernel), by decide +kernel⟩
theorem mw598 : Cond.code yX4_costAhead cX4_costAhead 4 (some .int) ∈ WA := List.mem_filter.mpr ⟨List.mem_of_getElem? (i := 598) (by decide +kernel), by decide +kernel⟩
theorem mw599 : Cond.methodLink RX4 71 yJ9_min_7cf53 ∈ WA := List.mem_filter.mpr ⟨List.mem_of_getElem? (i := 599) (by decide +kernel), by decide +kernel⟩
theorem mw600 : Cond.static yJ9_min_7cf53 ∈ WA := List.mem_filter.mpr ⟨List.mem_of_getElem? (i := 600) (by decide +kernel), by decide +kernel⟩
theorem mw601 : Cond.code yJ9_min_7cf53 Lib.Math.min.code 2 (some .int) ∈ WA := List.mem_filter.mpr ⟨List.mem_of_getElem? (i := 601) (by decide +kernel), by decide +kernel⟩
theorem mw602 : Cond.methodLink RX4 52 yX4_walkBack ∈ WA := List.mem_filter.mpr ⟨List.mem_of_getElem? (i := 602) (by decide +kernel), by decide +kernel⟩
theorem mw604 : Cond.instanceMethod yX4_walkBack ∈ WA := List.mem_filter.mpr ⟨List.mem_of_getElem? (i := 604) (by decide +kernel), by decide +kernel⟩
theorem mw605 : Cond.code yX4_walkBack cX4_walkBack 6 none ∈ WA := List.mem_filter.mpr ⟨List.mem_of_getElem? (i := 605) (by decide +kernel), by decide +kernel⟩
theorem mw606 : Cond.methodLink RX4 74 yX4_meet ∈ WA := List.mem_filter.mpr ⟨List.mem_of_getElem? (i := 606) (by decide +kernel), by decide +kernel⟩
theorem mw608 : Cond.instanceMethod yX4_meet ∈ WA := List.mem_filter.mpr ⟨List.mem_of_getElem? (i := 608) (by decide +kernel), by decide +kernel⟩
theorem mw609 : Cond.code yX4_meet cX4_meet 4 none ∈ WA := List.mem_filter.mpr ⟨List.mem_of_getElem? (i := 609) (by decide +kernel), by decide +kernel⟩
theorem mw610 : Cond.methodLink RX8 228 yX4_tell ∈ WA := List.mem_filter.mpr ⟨List.mem_of_getElem? (i := 610) (by decide +kernel), by decide +kernel⟩
theorem mw611 : Cond.instanceMethod yX4_tell ∈ WA := List.mem_filter.mpr ⟨List.mem_of_getElem? (i := 611) (by decide +kernel), by decide +kernel⟩
theorem mw612 : Cond.selects RX4 yX4_tell yX4_tell ∈ WA := List.mem_filter.mpr ⟨List.mem_of_getElem? (i := 612) (by decide +kernel), by decide +kernel⟩
theorem mw613 : Cond.code yX4_tell cX4_tell 2 (some .int) ∈ WA := List.mem_filter.mpr ⟨List.mem_of_getElem? (i := 613) (by decide +kernel), by decide +kernel⟩
theorem mw614 : Cond.methodLink RX4 55 yX4_oftenMet ∈ WA := List.mem_filter.mpr ⟨List.mem_of_getElem? (i := 614) (by decide +kernel), by decide +kernel⟩
theorem mw616 : Cond.instanceMethod yX4_oftenMet ∈ WA := List.mem_filter.mpr ⟨List.mem_of_getElem? (i := 616) (by decide +kernel), by decide +kernel⟩
theorem mw617 : Cond.code yX4_oftenMet cX4_oftenMet 5 (some .int) ∈ WA := List.mem_filter.mpr ⟨List.mem_of_getElem? (i := 617) (by decide +kernel), by decide +kernel⟩
theorem mw618 : Cond.methodLink RX4 78 yX4_timesMet ∈ WA := List.mem_filter.mpr ⟨List.mem_of_getElem? (i := 618) (by decide +kernel), by decide +kernel⟩
theorem mw620 : Cond.instanceMethod yX4_timesMet ∈ WA := List.mem_filter.mpr ⟨List.mem_of_getElem? (i := 620) (by decide +kernel), by decide +kernel⟩
theorem mw621 : Cond.code yX4_timesMet cX4_timesMet 5 (some .int) ∈ WA := List.mem_filter.mpr ⟨List.mem_of_getElem? (i := 621) (by decide +kernel), by decide +kernel⟩
theorem mw622 : Cond.methodLink RL 99 yX8_pair ∈ WA := List.mem_filter.mpr ⟨List.mem_of_getElem? (i := 622) (by decide +kernel), by decide +kernel⟩
theorem mw623 : Cond.instanceMethod yX8_pair ∈ WA := List.mem_filter.mpr ⟨List.mem_of_getElem? (i := 623) (by decide +kernel), by decide +kernel⟩
theorem mw624 : Cond.selects RX8 yX8_pair yX8_pair ∈ WA := List.mem_filter.mpr ⟨List.mem_of_getElem? (i := 624) (by decide +kernel), by decide +kernel⟩
theorem mw625 : Cond.code yX8_pair cX8_pair 7 (some .int) ∈ WA := List.mem_filter.mpr ⟨List.mem_of_getElem? (i := 625) (by decide +kernel), by decide +kernel⟩
theorem mw626 : Cond.methodLink RX8 231 yX4_met ∈ WA := List.mem_filter.mpr ⟨List.mem_of_getElem? (i := 626) (by decide +kernel), by decide +kernel⟩
theorem mw627 : Cond.instanceMethod yX4_met ∈ WA := List.mem_filter.mpr ⟨List.mem_of_getElem? (i := 627) (by decide +kernel), by decide +kernel⟩
theorem mw628 : Cond.selects RX4 yX4_met yX4_met ∈ WA := List.mem_filter.mpr ⟨List.mem_of_getElem? (i := 628) (by decide +kernel), by decide +kernel⟩
theorem mw629 : Cond.code yX4_met cX4_met 3 (some .int) ∈ WA := List.mem_filter.mpr ⟨List.mem_of_getElem? (i := 629) (by decide +kernel), by decide +kernel⟩
theorem mw630 : Cond.constant RX4 59 (-1000000) ∈ WA := List.mem_filter.mpr ⟨List.mem_of_getElem? (i := 630) (by decide +kernel), by decide +kernel⟩
theorem mw631 : Cond.methodLink RL 103 yX8_kind ∈ WA := List.mem_filter.mpr ⟨List.mem_of_getElem? (i := 631) (by decide +kernel), by decide +kernel⟩
theorem mw632 : Cond.instanceMethod yX8_kind ∈ WA := List.mem_filter.mpr ⟨List.mem_of_getElem? (i := 632) (by decide +kernel), by decide +kernel⟩
theorem mw633 : Cond.selects RX8 yX8_kind yX8_kind ∈ WA := List.mem_filter.mpr ⟨List.mem_of_getElem? (i := 633) (by decide +kernel), by decide +kernel⟩
theorem mw634 : Cond.code yX8_kind cX8_kind 2 (some .int) ∈ WA := List.mem_filter.mpr ⟨List.mem_of_getElem? (i := 634) (by decide +kernel), by decide +kernel⟩
theorem mw635 : Cond.methodLink RX8 234 yX7_kindOf ∈ WA := List.mem_filter.mpr ⟨List.mem_of_getElem? (i := 635) (by decide +kernel), by decide +kernel⟩
theorem mw636 : Cond.instanceMethod yX7_kindOf ∈ WA := List.mem_filter.mpr ⟨List.mem_of_getElem? (i := 636) (by decide +kernel), by decide +kernel⟩
theorem mw637 : Cond.selects RX7 yX7_kindOf yX7_kindOf ∈ WA := List.mem_filter.mpr ⟨List.mem_of_getElem? (i := 637) (by decide +kernel), by decide +kernel⟩
theorem mw638 : Cond.code yX7_kindOf cX7_kindOf 4 (some .int) ∈ WA := List.mem_filter.mpr ⟨List.mem_of_getElem? (i := 638) (by decide +kernel), by decide +kernel⟩
theorem mw639 : Cond.methodLink RX7 65 yX7_areaIn ∈ WA := List.mem_filter.mpr ⟨List.mem_of_getElem? (i := 639) (by decide +kernel), by decide +kernel⟩
theorem mw640 : Cond.methodLink RX7 68 yX7_staysWhole ∈ WA := List.mem_filter.mpr ⟨List.mem_of_getElem? (i := 640) (by decide +kernel), by decide +kernel⟩
theorem mw642 : Cond.instanceMethod yX7_staysWhole ∈ WA := List.mem_filter.mpr ⟨List.mem_of_getElem? (i := 642) (by decide +kernel), by decide +kernel⟩
theorem mw643 : Cond.code yX7_staysWhole cX7_staysWhole 2 (some .boolean) ∈ WA := List.mem_filter.mpr ⟨List.mem_of_getElem? (i := 643) (by decide +kernel), by decide +kernel⟩
theorem mw644 : Cond.methodLink RX7 72 yX3_stays ∈ WA := List.mem_filter.mpr ⟨List.mem_of_getElem? (i := 644) (by decide +kernel), by decide +kernel⟩
theorem mw645 : Cond.instanceMethod yX3_stays ∈ WA := List.mem_filter.mpr ⟨List.mem_of_getElem? (i := 645) (by decide +kernel), by decide +kernel⟩
theorem mw646 : Cond.selects RX3 yX3_stays yX3_stays ∈ WA := List.mem_filter.mpr ⟨List.mem_of_getElem? (i := 646) (by decide +kernel), by decide +kernel⟩
theorem mw647 : Cond.code yX3_stays cX3_stays 2 (some .boolean) ∈ WA := List.mem_filter.mpr ⟨List.mem_of_getElem? (i := 647) (by decide +kernel), by decide +kernel⟩
theorem mw648 : Cond.methodLink RL 107 yX8_as ∈ WA := List.mem_filter.mpr ⟨List.mem_of_getElem? (i := 648) (by decide +kernel), by decide +kernel⟩
theorem mw649 : Cond.instanceMethod yX8_as ∈ WA := List.mem_filter.mpr ⟨List.mem_of_getElem? (i := 649) (by decide +kernel), by decide +kernel⟩
theorem mw650 : Cond.selects RX8 yX8_as yX8_as ∈ WA := List.mem_filter.mpr ⟨List.mem_of_getElem? (i := 650) (by decide +kernel), by decide +kernel⟩
theorem mw651 : Cond.code yX8_as cX8_as 3 (some .int) ∈ WA := List.mem_filter.mpr ⟨List.mem_of_getElem? (i := 651) (by decide +kernel), by decide +kernel⟩
theorem mw652 : Cond.methodLink RX8 237 yX7_isOf ∈ WA := List.mem_filter.mpr ⟨List.mem_of_getElem? (i := 652) (by decide +kernel), by decide +kernel⟩
theorem mw653 : Cond.instanceMethod yX7_isOf ∈ WA := List.mem_filter.mpr ⟨List.mem_of_getElem? (i := 653) (by decide +kernel), by decide +kernel⟩
theorem mw654 : Cond.selects RX7 yX7_isOf yX7_isOf ∈ WA := List.mem_filter.mpr ⟨List.mem_of_getElem? (i := 654) (by decide +kernel), by decide +kernel⟩
theorem mw655 : Cond.code yX7_isOf cX7_isOf 4 (some .boolean) ∈ WA := List.mem_filter.mpr ⟨List.mem_of_getElem? (i := 655) (by decide +kernel), by decide +kernel⟩
theorem mw656 : Cond.methodLink RX7 75 yX7_kindOf ∈ WA := List.mem_filter.mpr ⟨List.mem_of_getElem? (i := 656) (by decide +kernel), by decide +kernel⟩
theorem mw657 : Cond.methodLink RL 111 yX8_ask ∈ WA := List.mem_filter.mpr ⟨List.mem_of_getElem? (i := 657) (by decide +kernel), by decide +kernel⟩
theorem mw658 : Cond.instanceMethod yX8_ask ∈ WA := List.mem_filter.mpr ⟨List.mem_of_getElem? (i := 658) (by decide +kernel), by decide +kernel⟩
theorem mw659 : Cond.selects RX8 yX8_ask yX8_ask ∈ WA := List.mem_filter.mpr ⟨List.mem_of_getElem? (i := 659) (by decide +kernel), by decide +kernel⟩
theorem mw660 : Cond.code yX8_ask cX8_ask 3 (some .int) ∈ WA := List.mem_filter.mpr ⟨List.mem_of_getElem? (i := 660) (by decide +kernel), by decide +kernel⟩
theorem mw661 : Cond.methodLink RX8 240 yX0_clear ∈ WA := List.mem_filter.mpr ⟨List.mem_of_getElem? (i := 661) (by decide +kernel), by decide +kernel⟩
theorem mw662 : Cond.instanceMethod yX0_clear ∈ WA := List.mem_filter.mpr ⟨List.mem_of_getElem? (i := 662) (by decide +kernel), by decide +kernel⟩
theorem mw663 : Cond.selects RX0 yX0_clear yX0_clear ∈ WA := List.mem_filter.mpr ⟨List.mem_of_getElem? (i := 663) (by decide +kernel), by decide +kernel⟩
theorem mw664 : Cond.code yX0_clear cX0_clear 1 none ∈ WA := List.mem_filter.mpr ⟨List.mem_of_getElem? (i := 664) (by decide +kernel), by decide +kernel⟩
theorem mw665 : Cond.methodLink RX8 243 yX0_sizeOf ∈ WA := List.mem_filter.mpr ⟨List.mem_of_getElem? (i := 665) (by decide +kernel), by decide +kernel⟩
theorem mw666 : Cond.instanceMethod yX0_sizeOf ∈ WA := List.mem_filter.mpr ⟨List.mem_of_getElem? (i := 666) (by decide +kernel), by decide +kernel⟩
theorem mw667 : Cond.selects RX0 yX0_sizeOf yX0_sizeOf ∈ WA := List.mem_filter.mpr ⟨List.mem_of_getElem? (i := 667) (by decide +kernel), by decide +kernel⟩
theorem mw668 : Cond.code yX0_sizeOf cX0_sizeOf 2 (some .int) ∈ WA := List.mem_filter.mpr ⟨List.mem_of_getElem? (i := 668) (by decide +kernel), by decide +kernel⟩
theorem mw669 : Cond.methodLink RX0 24 yX7_kindOf ∈ WA := List.mem_filter.mpr ⟨List.mem_of_getElem? (i := 669) (by decide +kernel), by decide +kernel⟩
theorem mw670 : Cond.methodLink RX0 30 yX0_body12 ∈ WA := List.mem_filter.mpr ⟨List.mem_of_getElem? (i := 670) (by decide +kernel), by decide +kernel⟩
theorem mw672 : Cond.instanceMethod yX0_body12 ∈ WA := List.mem_filter.mpr ⟨List.mem_of_getElem? (i := 672) (by decide +kernel), by decide +kernel⟩
theorem mw673 : Cond.code yX0_body12 cX0_body12 2 (some .int) ∈ WA := List.mem_filter.mpr ⟨List.mem_of_getElem? (i := 673) (by decide +kernel), by decide +kernel⟩
theorem mw674 : Cond.methodLink RX0 52 yX0_begin ∈ WA := List.mem_filter.mpr ⟨List.mem_of_getElem? (i := 674) (by decide +kernel), by decide +kernel⟩
theorem mw676 : Cond.instanceMethod yX0_begin ∈ WA := List.mem_filter.mpr ⟨List.mem_of_getElem? (i := 676) (by decide +kernel), by decide +kernel⟩
theorem mw677 : Cond.code yX0_begin cX0_begin 2 none ∈ WA := List.mem_filter.mpr ⟨List.mem_of_getElem? (i := 677) (by decide +kernel), by decide +kernel⟩
theorem mw678 : Cond.methodLink RX0 33 yX0_body11 ∈ WA := List.mem_filter.mpr ⟨List.mem_of_getElem? (i := 678) (by decide +kernel), by decide +kernel⟩
theorem mw680 : Cond.instanceMethod yX0_body11 ∈ WA := List.mem_filter.mpr ⟨List.mem_of_getElem? (i := 680) (by decide +kernel), by decide +kernel⟩
theorem mw681 : Cond.code yX0_body11 cX0_body11 2 (some .int) ∈ WA := List.mem_filter.mpr ⟨List.mem_of_getElem? (i := 681) (by decide +kernel), by decide +kernel⟩
theorem mw682 : Cond.methodLink RX0 40 yX0_body10 ∈ WA := List.mem_filter.mpr ⟨List.mem_of_getElem? (i := 682) (by decide +kernel), by decide +kernel⟩
theorem mw684 : Cond.instanceMethod yX0_body10 ∈ WA := List.mem_filter.mpr ⟨List.mem_of_getElem? (i := 684) (by decide +kernel), by decide +kernel⟩
theorem mw685 : Cond.code yX0_body10 cX0_body10 2 (some .int) ∈ WA := List.mem_filter.mpr ⟨List.mem_of_getElem? (i := 685) (by decide +kernel), by decide +kernel⟩
theorem mw686 : Cond.methodLink RX0 56 yX7_areaIn ∈ WA := List.mem_filter.mpr ⟨List.mem_of_getElem? (i := 686) (by decide +kernel), by decide +kernel⟩
theorem mw687 : Cond.methodLink RX0 43 yX0_body21 ∈ WA := List.mem_filter.mpr ⟨List.mem_of_getElem? (i := 687) (by decide +kernel), by decide +kernel⟩
theorem mw689 : Cond.instanceMethod yX0_body21 ∈ WA := List.mem_filter.mpr ⟨List.mem_of_getElem? (i := 689) (by decide +kernel), by decide +kernel⟩
theorem mw690 : Cond.code yX0_body21 cX0_body21 2 (some .int) ∈ WA := List.mem_filter.mpr ⟨List.mem_of_getElem? (i := 690) (by decide +kernel), by decide +kernel⟩
theorem mw691 : Cond.methodLink RX0 49 yX0_body20 ∈ WA := List.mem_filter.mpr ⟨List.mem_of_getElem? (i := 691) (by decide +kernel), by decide +kernel⟩
theorem mw693 : Cond.instanceMethod yX0_body20 ∈ WA := List.mem_filter.mpr ⟨List.mem_of_getElem? (i := 693) (by decide +kernel), by decide +kernel⟩
theorem mw694 : Cond.code yX0_body20 cX0_body20 2 (some .int) ∈ WA := List.mem_filter.mpr ⟨List.mem_of_getElem? (i := 694) (by decide +kernel), by decide +kernel⟩
theorem mw695 : Cond.methodLink RX0 60 yX7_corner ∈ WA := List.mem_filter.mpr ⟨List.mem_of_getElem? (i := 695) (by decide +kernel), by decide +kernel⟩
theorem mw696 : Cond.methodLink RX0 36 yX0_body13 ∈ WA := List.mem_filter.mpr ⟨List.mem_of_getElem? (i := 696) (by decide +kernel), by decide +kernel⟩
theorem mw698 : Cond.instanceMethod yX0_body13 ∈ WA := List.mem_filter.mpr ⟨List.mem_of_getElem? (i := 698) (by decide +kernel), by decide +kernel⟩
theorem mw699 : Cond.code yX0_body13 cX0_body13 1 (some .int) ∈ WA := List.mem_filter.mpr ⟨List.mem_of_getElem? (i := 699) (by decide +kernel), by decide +kernel⟩
theorem mw700 : Cond.methodLink RX8 246 yX0_markOf ∈ WA := List.mem_filter.mpr ⟨List.mem_of_getElem? (i := 700) (by decide +kernel), by decide +kernel⟩
theorem mw701 : Cond.instanceMethod yX0_markOf ∈ WA := List.mem_filter.mpr ⟨List.mem_of_getElem? (i := 701) (by decide +kernel), by decide +kernel⟩
theorem mw702 : Cond.selects RX0 yX0_markOf yX0_markOf ∈ WA := List.mem_filter.mpr ⟨List.mem_of_getElem? (i := 702) (by decide +kernel), by decide +kernel⟩
theorem mw703 : Cond.code yX0_markOf cX0_markOf 2 (some .int) ∈ WA := List.mem_filter.mpr ⟨List.mem_of_getElem? (i := 703) (by decide +kernel), by decide +kernel⟩
theorem mw704 : Cond.methodLink RX0 46 yX0_body22 ∈ WA := List.mem_filter.mpr ⟨List.mem_of_getElem? (i := 704) (by decide +kernel), by decide +kernel⟩
theorem mw706 : Cond.instanceMethod yX0_body22 ∈ WA := List.mem_filter.mpr ⟨List.mem_of_getElem? (i := 706) (by decide +kernel), by decide +kernel⟩
theorem mw707 : Cond.code yX0_body22 cX0_body22 2 (some .int) ∈ WA := List.mem_filter.mpr ⟨List.mem_of_getElem? (i := 707) (by decide +kernel), by decide +kernel⟩
theorem mw708 : Cond.methodLink RL 115 yX8_trace ∈ WA := List.mem_filter.mpr ⟨List.mem_of_getElem? (i := 708) (by decide +kernel), by decide +kernel⟩
theorem mw709 : Cond.instanceMethod yX8_trace ∈ WA := List.mem_filter.mpr ⟨List.mem_of_getElem? (i := 709) (by decide +kernel), by decide +kernel⟩
theorem mw710 : Cond.selects RX8 yX8_trace yX8_trace ∈ WA := List.mem_filter.mpr ⟨List.mem_of_getElem? (i := 710) (by decide +kernel), by decide +kernel⟩
theorem mw711 : Cond.code yX8_trace cX8_trace 2 (some .int) ∈ WA := List.mem_filter.mpr ⟨List.mem_of_getElem? (i := 711) (by decide +kernel), by decide +kernel⟩
theorem mw712 : Cond.methodLink RX8 249 yX0_traced ∈ WA := List.mem_filter.mpr ⟨List.mem_of_getElem? (i := 712) (by decide +kernel), by decide +kernel⟩
theorem mw713 : Cond.instanceMethod yX0_traced ∈ WA := List.mem_filter.mpr ⟨List.mem_of_getElem? (i := 713) (by decide +kernel), by decide +kernel⟩
theorem mw714 : Cond.selects RX0 yX0_traced yX0_traced ∈ WA := List.mem_filter.mpr ⟨List.mem_of_getElem? (i := 714) (by decide +kernel), by decide +kernel⟩
theorem mw715 : Cond.code yX0_traced cX0_traced 2 (some .int) ∈ WA := List.mem_filter.mpr ⟨List.mem_of_getElem? (i := 715) (by decide +kernel), by decide +kernel⟩
theorem mw716 : Cond.constant RX0 23 (-1000000) ∈ WA := List.mem_filter.mpr ⟨List.mem_of_getElem? (i := 716) (by decide +kernel), by decide +kernel⟩
theorem mw717 : Cond.methodLink RL 119 yX8_count ∈ WA := List.mem_filter.mpr ⟨List.mem_of_getElem? (i := 717) (by decide +kernel), by decide +kernel⟩
theorem mw718 : Cond.instanceMethod yX8_count ∈ WA := List.mem_filter.mpr ⟨List.mem_of_getElem? (i := 718) (by decide +kernel), by decide +kernel⟩
theorem mw719 : Cond.selects RX8 yX8_count yX8_count ∈ WA := List.mem_filter.mpr ⟨List.mem_of_getElem? (i := 719) (by decide +kernel), by decide +kernel⟩
theorem mw720 : Cond.code yX8_count cX8_count 2 (some .int) ∈ WA := List.mem_filter.mpr ⟨List.mem_of_getElem? (i := 720) (by decide +kernel), by decide +kernel⟩
theorem mw721 : Cond.methodLink RX8 252 yX6_many ∈ WA := List.mem_filter.mpr ⟨List.mem_of_getElem? (i := 721) (by decide +kernel), by decide +kernel⟩
theorem mw722 : Cond.instanceMethod yX6_many ∈ WA := List.mem_filter.mpr ⟨List.mem_of_getElem? (i := 722) (by decide +kernel), by decide +kernel⟩
theorem mw723 : Cond.selects RX6 yX6_many yX6_many ∈ WA := List.mem_filter.mpr ⟨List.mem_of_getElem? (i := 723) (by decide +kernel), by decide +kernel⟩
theorem mw724 : Cond.code yX6_many cX6_many 3 (some .int) ∈ WA := List.mem_filter.mpr ⟨List.mem_of_getElem? (i := 724) (by decide +kernel), by decide +kernel⟩
theorem mw725 : Cond.methodLink RX6 38 yX6_isMissing ∈ WA := List.mem_filter.mpr ⟨List.mem_of_getElem? (i := 725) (by decide +kernel), by decide +kernel⟩
theorem mw726 : Cond.methodLink RX8 255 yX3_many ∈ WA := List.mem_filter.mpr ⟨List.mem_of_getElem? (i := 726) (by decide +kernel), by decide +kernel⟩
theorem mw727 : Cond.methodLink RX8 256 yX7_many ∈ WA := List.mem_filter.mpr ⟨List.mem_of_getElem? (i := 727) (by decide +kernel), by decide +kernel⟩
theorem mw728 : Cond.methodLink RX8 257 yX7_manyOf ∈ WA := List.mem_filter.mpr ⟨List.mem_of_getElem? (i := 728) (by decide +kernel), by decide +kernel⟩
theorem mw729 : Cond.instanceMethod yX7_manyOf ∈ WA := List.mem_filter.mpr ⟨List.mem_of_getElem? (i := 729) (by decide +kernel), by decide +kernel⟩
theorem mw730 : Cond.selects RX7 yX7_manyOf yX7_manyOf ∈ WA := List.mem_filter.mpr ⟨List.mem_of_getElem? (i := 730) (by decide +kernel), by decide +kernel⟩
theorem mw731 : Cond.code yX7_manyOf cX7_manyOf 4 (some .int) ∈ WA := List.mem_filter.mpr ⟨List.mem_of_getElem? (i := 731) (by decide +kernel), by decide +kernel⟩
theorem mw732 : Cond.methodLink RX7 79 yX7_isOf ∈ WA := List.mem_filter.mpr ⟨List.mem_of_getElem? (i := 732) (by decide +kernel), by decide +kernel⟩
theorem mw733 : Cond.methodLink RX8 260 yX2_many ∈ WA := List.mem_filter.mpr ⟨List.mem_of_getElem? (i := 733) (by decide +kernel), by decide +kernel⟩
theorem mw734 : Cond.instanceMethod yX2_many ∈ WA := List.mem_filter.mpr ⟨List.mem_of_getElem? (i := 734) (by decide +kernel), by decide +kernel⟩
theorem mw735 : Cond.selects RX2 yX2_many yX2_many ∈ WA := List.mem_filter.mpr ⟨List.mem_of_getElem? (i := 735) (by decide +kernel), by decide +kernel⟩
theorem mw736 : Cond.code yX2_many cX2_many 1 (some .int) ∈ WA := List.mem_filter.mpr ⟨List.mem_of_getElem? (i := 736) (by decide +kernel), by decide +kernel⟩
theorem mw737 : Cond.methodLink RL 123 yX8_status ∈ WA := List.mem_filter.mpr ⟨List.mem_of_getElem? (i := 737) (by decide +kernel), by decide +kernel⟩
theorem mw738 : Cond.instanceMethod yX8_status ∈ WA := List.mem_filter.mpr ⟨List.mem_of_getElem? (i := 738) (by decide +kernel), by decide +kernel⟩
theorem mw739 : Cond.selects RX8 yX8_status yX8_status ∈ WA := List.mem_filter.mpr ⟨List.mem_of_getElem? (i := 739) (by decide +kernel), by decide +kernel⟩
theorem mw740 : Cond.code yX8_status cX8_status 1 (some .int) ∈ WA := List.mem_filter.mpr ⟨List.mem_of_getElem? (i := 740) (by decide +kernel), by decide +kernel⟩
theorem mw741 : Cond.classLink RL 10 RX9 ∈ WA := List.mem_filter.mpr ⟨List.mem_of_getElem? (i := 741) (by decide +kernel), by decide +kernel⟩
theorem mw742 : Cond.instantiable RX9 24 ∈ WA := List.mem_filter.mpr ⟨List.mem_of_getElem? (i := 742) (by decide +kernel), by decide +kernel⟩
theorem mw743 : Cond.methodLink RL 12 yX9_init ∈ WA := List.mem_filter.mpr ⟨List.mem_of_getElem? (i := 743) (by decide +kernel), by decide +kernel⟩
theorem mw744 : Cond.instanceMethod yX9_init ∈ WA := List.mem_filter.mpr ⟨List.mem_of_getElem? (i := 744) (by decide +kernel), by decide +kernel⟩
theorem mw745 : Cond.code yX9_init cX9_init 1 none ∈ WA := List.mem_filter.mpr ⟨List.mem_of_getElem? (i := 745) (by decide +kernel), by decide +kernel⟩
theorem mw746 : Cond.methodLink RX9 1 objectInit ∈ WA := List.mem_filter.mpr ⟨List.mem_of_getElem? (i := 746) (by decide +kernel), by decide +kernel⟩
theorem mw747 : Cond.fieldLink RX9 52 "ShapeBetweenModel" "thrown" "I" ∈ WA := List.mem_filter.mpr ⟨List.mem_of_getElem? (i := 747) (by decide +kernel), by decide +kernel⟩
theorem mw748 : Cond.fieldLink RX9 56 "ShapeBetweenModel" "status" "I" ∈ WA := List.mem_filter.mpr ⟨List.mem_of_getElem? (i := 748) (by decide +kernel), by decide +kernel⟩
theorem mw749 : Cond.fieldLink RX9 7 "ShapeBetweenModel" "lane" "[I" ∈ WA := List.mem_filter.mpr ⟨List.mem_of_getElem? (i := 749) (by decide +kernel), by decide +kernel⟩
theorem mw750 : Cond.fieldLink RX9 13 "ShapeBetweenModel" "many" "[I" ∈ WA := List.mem_filter.mpr ⟨List.mem_of_getElem? (i := 750) (by decide +kernel), by decide +kernel⟩
theorem mw751 : Cond.fieldLink RX9 16 "ShapeBetweenModel" "item" "[I" ∈ WA := List.mem_filter.mpr ⟨List.mem_of_getElem? (i := 751) (by decide +kernel), by decide +kernel⟩
theorem mw752 : Cond.fieldLink RX9 77 "ShapeBetweenModel" "marks" "I" ∈ WA := List.mem_filter.mpr ⟨List.mem_of_getElem? (i := 752) (by decide +kernel), by decide +kernel⟩
theorem mw753 : Cond.fieldLink RX9 19 "ShapeBetweenModel" "place" "[I" ∈ WA := List.mem_filter.mpr ⟨List.mem_of_getElem? (i := 753) (by decide +kernel), by decide +kernel⟩
theorem mw754 : Cond.fieldLink RX9 99 "ShapeBetweenModel" "thirds" "I" ∈ WA := List.mem_filter.mpr ⟨List.mem_of_getElem? (i := 754) (by decide +kernel), by decide +kernel⟩
theorem mw755 : Cond.fieldLink RX9 22 "ShapeBetweenModel" "corner" "[I" ∈ WA := List.mem_filter.mpr ⟨List.mem_of_getElem? (i := 755) (by decide +kernel), by decide +kernel⟩
theorem mw756 : Cond.fieldLink RX9 123 "ShapeBetweenModel" "keys" "I" ∈ WA := List.mem_filter.mpr ⟨List.mem_of_getElem? (i := 756) (by decide +kernel), by decide +kernel⟩
theorem mw757 : Cond.fieldLink RX9 25 "ShapeBetweenModel" "keyTime" "[I" ∈ WA := List.mem_filter.mpr ⟨List.mem_of_getElem? (i := 757) (by decide +kernel), by decide +kernel⟩
theorem mw758 : Cond.fieldLink RX9 28 "ShapeBetweenModel" "keyShare" "[I" ∈ WA := List.mem_filter.mpr ⟨List.mem_of_getElem? (i := 758) (by decide +kernel), by decide +kernel⟩
theorem mw759 : Cond.fieldLink RX9 126 "ShapeBetweenModel" "shareA" "J" ∈ WA := List.mem_filter.mpr ⟨List.mem_of_getElem? (i := 759) (by decide +kernel), by decide +kernel⟩
theorem mw760 : Cond.fieldLink RX9 130 "ShapeBetweenModel" "shareB" "J" ∈ WA := List.mem_filter.mpr ⟨List.mem_of_getElem? (i := 760) (by decide +kernel), by decide +kernel⟩
theorem mw761 : Cond.fieldLink RX9 133 "ShapeBetweenModel" "shareC" "J" ∈ WA := List.mem_filter.mpr ⟨List.mem_of_getElem? (i := 761) (by decide +kernel), by decide +kernel⟩
theorem mw762 : Cond.fieldLink RX9 31 "ShapeBetweenModel" "wide" "[I" ∈ WA := List.mem_filter.mpr ⟨List.mem_of_getElem? (i := 762) (by decide +kernel), by decide +kernel⟩
theorem mw763 : Cond.fieldLink RX9 34 "ShapeBetweenModel" "high" "[I" ∈ WA := List.mem_filter.mpr ⟨List.mem_of_getElem? (i := 763) (by decide +kernel), by decide +kernel⟩
theorem mw764 : Cond.fieldLink RX9 37 "ShapeBetweenModel" "cell" "[I" ∈ WA := List.mem_filter.mpr ⟨List.mem_of_getElem? (i := 764) (by decide +kernel), by decide +kernel⟩
theorem mw765 : Cond.fieldLink RX9 40 "ShapeBetweenModel" "least" "[I" ∈ WA := List.mem_filter.mpr ⟨List.mem_of_getElem? (i := 765) (by decide +kernel), by decide +kernel⟩
theorem mw766 : Cond.fieldLink RX9 161 "ShapeBetweenModel" "met" "I" ∈ WA := List.mem_filter.mpr ⟨List.mem_of_getElem? (i := 766) (by decide +kernel), by decide +kernel⟩
theorem mw767 : Cond.fieldLink RX9 43 "ShapeBetweenModel" "metA" "[I" ∈ WA := List.mem_filter.mpr ⟨List.mem_of_getElem? (i := 767) (by decide +kernel), by decide +kernel⟩
theorem mw768 : Cond.fieldLink RX9 46 "ShapeBetweenModel" "metB" "[I" ∈ WA := List.mem_filter.mpr ⟨List.mem_of_getElem? (i := 768) (by decide +kernel), by decide +kernel⟩
theorem mw769 : Cond.fieldLink RX9 49 "ShapeBetweenModel" "trace" "[I" ∈ WA := List.mem_filter.mpr ⟨List.mem_of_getElem? (i := 769) (by decide +kernel), by decide +kernel⟩
theorem mw770 : Cond.fieldLink RX9 177 "ShapeBetweenModel" "traced" "I" ∈ WA := List.mem_filter.mpr ⟨List.mem_of_getElem? (i := 770) (by decide +kernel), by decide +kernel⟩
theorem mw820 : Cond.methodLink RL 17 yX9_sheet ∈ WA := List.mem_filter.mpr ⟨List.mem_of_getElem? (i := 820) (by decide +kernel), by decide +kernel⟩
theorem mw821 : Cond.instanceMethod yX9_sheet ∈ WA := List.mem_filter.mpr ⟨List.mem_of_getElem? (i := 821) (by decide +kernel), by decide +kernel⟩
theorem mw822 : Cond.selects RX9 yX9_sheet yX9_sheet ∈ WA := List.mem_filter.mpr ⟨List.mem_of_getElem? (i := 822) (by decide +kernel), by decide +kernel⟩
theorem mw823 : Cond.code yX9_sheet cX9_sheet 5 (some .int) ∈ WA := List.mem_filter.mpr ⟨List.mem_of_getElem? (i := 823) (by decide +kernel), by decide +kernel⟩
theorem mw824 : Cond.methodLink RX9 66 yX9_isSheet ∈ WA := List.mem_filter.mpr ⟨List.mem_of_getElem? (i := 824) (by decide +kernel), by decide +kernel⟩
theorem mw825 : Cond.static yX9_isSheet ∈ WA := List.mem_filter.mpr ⟨List.mem_of_getElem? (i := 825) (by decide +kernel), by decide +kernel⟩
theorem mw826 : Cond.code yX9_isSheet cX9_isSheet 1 (some .boolean) ∈ WA := List.mem_filter.mpr ⟨List.mem_of_getElem? (i := 826) (by decide +kernel), by decide +kernel⟩
theorem mw827 : Cond.constantLong RX9 60 (7) ∈ WA := List.mem_filter.mpr ⟨List.mem_of_getElem? (i := 827) (by decide +kernel), by decide +kernel⟩
theorem mw828 : Cond.methodLink RX9 62 yX9_isIn ∈ WA := List.mem_filter.mpr ⟨List.mem_of_getElem? (i := 828) (by decide +kernel), by decide +kernel⟩
theorem mw829 : Cond.static yX9_isIn ∈ WA := List.mem_filter.mpr ⟨List.mem_of_getElem? (i := 829) (by decide +kernel), by decide +kernel⟩
theorem mw830 : Cond.code yX9_isIn cX9_isIn 6 (some .boolean) ∈ WA := List.mem_filter.mpr ⟨List.mem_of_getElem? (i := 830) (by decide +kernel), by decide +kernel⟩
theorem mw831 : Cond.constantLong RX9 70 (2) ∈ WA := List.mem_filter.mpr ⟨List.mem_of_getElem? (i := 831) (by decide +kernel), by decide +kernel⟩
theorem mw832 : Cond.constant RX9 72 (-1000001) ∈ WA := List.mem_filter.mpr ⟨List.mem_of_getElem? (i := 832) (by decide +kernel), by decide +kernel⟩
theorem mw833 : Cond.methodLink RX9 73 yX9_found ∈ WA := List.mem_filter.mpr ⟨List.mem_of_getElem? (i := 833) (by decide +kernel), by decide +kernel⟩
theorem mw835 : Cond.instanceMethod yX9_found ∈ WA := List.mem_filter.mpr ⟨List.mem_of_getElem? (i := 835) (by decide +kernel), by decide +kernel⟩
theorem mw836 : Cond.code yX9_found cX9_found 2 (some .int) ∈ WA := List.mem_filter.mpr ⟨List.mem_of_getElem? (i := 836) (by decide +kernel), by decide +kernel⟩
theorem mw837 : Cond.constant RX9 59 (-1000010) ∈ WA := List.mem_filter.mpr ⟨List.mem_of_getElem? (i := 837) (by decide +kernel), by decide +kernel⟩
theorem mw838 : Cond.methodLink RL 21 yX9_set ∈ WA := List.mem_filter.mpr ⟨List.mem_of_getElem? (i := 838) (by decide +kernel), by decide +kernel⟩
theorem mw839 : Cond.instanceMethod yX9_set ∈ WA := List.mem_filter.mpr ⟨List.mem_of_getElem? (i := 839) (by decide +kernel), by decide +kernel⟩
theorem mw840 : Cond.selects RX9 yX9_set yX9_set ∈ WA := List.mem_filter.mpr ⟨List.mem_of_getElem? (i := 840) (by decide +kernel), by decide +kernel⟩
theorem mw841 : Cond.code yX9_set cX9_set 4 (some .int) ∈ WA := List.mem_filter.mpr ⟨List.mem_of_getElem? (i := 841) (by decide +kernel), by decide +kernel⟩
theorem mw842 : Cond.methodLink RL 26 yX9_copy ∈ WA := List.mem_filter.mpr ⟨List.mem_of_getElem? (i := 842) (by decide +kernel), by decide +kernel⟩
theorem mw843 : Cond.instanceMethod yX9_copy ∈ WA := List.mem_filter.mpr ⟨List.mem_of_getElem? (i := 843) (by decide +kernel), by decide +kernel⟩
theorem mw844 : Cond.selects RX9 yX9_copy yX9_copy ∈ WA := List.mem_filter.mpr ⟨List.mem_of_getElem? (i := 844) (by decide +kernel), by decide +kernel⟩
theorem mw845 : Cond.code yX9_copy cX9_copy 9 (some .int) ∈ WA := List.mem_filter.mpr ⟨List.mem_of_getElem? (i := 845) (by decide +kernel), by decide +kernel⟩
theorem mw846 : Cond.methodLink RL 31 yX9_drop ∈ WA := List.mem_filter.mpr ⟨List.mem_of_getElem? (i := 846) (by decide +kernel), by decide +kernel⟩
theorem mw847 : Cond.instanceMethod yX9_drop ∈ WA := List.mem_filter.mpr ⟨List.mem_of_getElem? (i := 847) (by decide +kernel), by decide +kernel⟩
theorem mw848 : Cond.selects RX9 yX9_drop yX9_drop ∈ WA := List.mem_filter.mpr ⟨List.mem_of_getElem? (i := 848) (by decide +kernel), by decide +kernel⟩
theorem mw849 : Cond.code yX9_drop cX9_drop 2 (some .int) ∈ WA := List.mem_filter.mpr ⟨List.mem_of_getElem? (i := 849) (by decide +kernel), by decide +kernel⟩
theorem mw850 : Cond.methodLink RL 36 yX9_mark ∈ WA := List.mem_filter.mpr ⟨List.mem_of_getElem? (i := 850) (by decide +kernel), by decide +kernel⟩
theorem mw851 : Cond.instanceMethod yX9_mark ∈ WA := List.mem_filter.mpr ⟨List.mem_of_getElem? (i := 851) (by decide +kernel), by decide +kernel⟩
theorem mw852 : Cond.selects RX9 yX9_mark yX9_mark ∈ WA := List.mem_filter.mpr ⟨List.mem_of_getElem? (i := 852) (by decide +kernel), by decide +kernel⟩
theorem mw853 : Cond.code yX9_mark cX9_mark 5 (some .int) ∈ WA := List.mem_filter.mpr ⟨List.mem_of_getElem? (i := 853) (by decide +kernel), by decide +kernel⟩
theorem mw854 : Cond.methodLink RX9 84 yX9_isPlace ∈ WA := List.mem_filter.mpr ⟨List.mem_of_getElem? (i := 854) (by decide +kernel), by decide +kernel⟩
theorem mw855 : Cond.static yX9_isPlace ∈ WA := List.mem_filter.mpr ⟨List.mem_of_getElem? (i := 855) (by decide +kernel), by decide +kernel⟩
theorem mw856 : Cond.code yX9_isPlace cX9_isPlace 2 (some .boolean) ∈ WA := List.mem_filter.mpr ⟨List.mem_of_getElem? (i := 856) (by decide +kernel), by decide +kernel⟩
theorem mw857 : Cond.constantLong RX9 80 (1000) ∈ WA := List.mem_filter.mpr ⟨List.mem_of_getElem? (i := 857) (by decide +kernel), by decide +kernel⟩
theorem mw858 : Cond.constant RX9 88 (-1000003) ∈ WA := List.mem_filter.mpr ⟨List.mem_of_getElem? (i := 858) (by decide +kernel), by decide +kernel⟩
theorem mw859 : Cond.methodLink RL 40 yX9_move ∈ WA := List.mem_filter.mpr ⟨List.mem_of_getElem? (i := 859) (by decide +kernel), by decide +kernel⟩
theorem mw860 : Cond.instanceMethod yX9_move ∈ WA := List.mem_filter.mpr ⟨List.mem_of_getElem? (i := 860) (by decide +kernel), by decide +kernel⟩
theorem mw861 : Cond.selects RX9 yX9_move yX9_move ∈ WA := List.mem_filter.mpr ⟨List.mem_of_getElem? (i := 861) (by decide +kernel), by decide +kernel⟩
theorem mw862 : Cond.code yX9_move cX9_move 5 (some .int) ∈ WA := List.mem_filter.mpr ⟨List.mem_of_getElem? (i := 862) (by decide +kernel), by decide +kernel⟩
theorem mw863 : Cond.methodLink RX9 89 yX9_isMark ∈ WA := List.mem_filter.mpr ⟨List.mem_of_getElem? (i := 863) (by decide +kernel), by decide +kernel⟩
theorem mw865 : Cond.instanceMethod yX9_isMark ∈ WA := List.mem_filter.mpr ⟨List.mem_of_getElem? (i := 865) (by decide +kernel), by decide +kernel⟩
theorem mw866 : Cond.code yX9_isMark cX9_isMark 2 (some .boolean) ∈ WA := List.mem_filter.mpr ⟨List.mem_of_getElem? (i := 866) (by decide +kernel), by decide +kernel⟩
theorem mw867 : Cond.methodLink RL 44 yX9_at ∈ WA := List.mem_filter.mpr ⟨List.mem_of_getElem? (i := 867) (by decide +kernel), by decide +kernel⟩
theorem mw868 : Cond.instanceMethod yX9_at ∈ WA := List.mem_filter.mpr ⟨List.mem_of_getElem? (i := 868) (by decide +kernel), by decide +kernel⟩
theorem mw869 : Cond.selects RX9 yX9_at yX9_at ∈ WA := List.mem_filter.mpr ⟨List.mem_of_getElem? (i := 869) (by decide +kernel), by decide +kernel⟩
theorem mw870 : Cond.code yX9_at cX9_at 5 (some .int) ∈ WA := List.mem_filter.mpr ⟨List.mem_of_getElem? (i := 870) (by decide +kernel), by decide +kernel⟩
theorem mw871 : Cond.methodLink RX9 92 yX9_isTick ∈ WA := List.mem_filter.mpr ⟨List.mem_of_getElem? (i := 871) (by decide +kernel), by decide +kernel⟩
theorem mw872 : Cond.static yX9_isTick ∈ WA := List.mem_filter.mpr ⟨List.mem_of_getElem? (i := 872) (by decide +kernel), by decide +kernel⟩
theorem mw873 : Cond.code yX9_isTick cX9_isTick 2 (some .boolean) ∈ WA := List.mem_filter.mpr ⟨List.mem_of_getElem? (i := 873) (by decide +kernel), by decide +kernel⟩
theorem mw874 : Cond.constantLong RX9 82 (100) ∈ WA := List.mem_filter.mpr ⟨List.mem_of_getElem? (i := 874) (by decide +kernel), by decide +kernel⟩
theorem mw875 : Cond.methodLink RX9 95 yX9_placeAt ∈ WA := List.mem_filter.mpr ⟨List.mem_of_getElem? (i := 875) (by decide +kernel), by decide +kernel⟩
theorem mw877 : Cond.instanceMethod yX9_placeAt ∈ WA := List.mem_filter.mpr ⟨List.mem_of_getElem? (i := 877) (by decide +kernel), by decide +kernel⟩
theorem mw878 : Cond.code yX9_placeAt cX9_placeAt 5 (some .int) ∈ WA := List.mem_filter.mpr ⟨List.mem_of_getElem? (i := 878) (by decide +kernel), by decide +kernel⟩
theorem mw879 : Cond.methodLink RL 48 yX9_third ∈ WA := List.mem_filter.mpr ⟨List.mem_of_getElem? (i := 879) (by decide +kernel), by decide +kernel⟩
theorem mw880 : Cond.instanceMethod yX9_third ∈ WA := List.mem_filter.mpr ⟨List.mem_of_getElem? (i := 880) (by decide +kernel), by decide +kernel⟩
theorem mw881 : Cond.selects RX9 yX9_third yX9_third ∈ WA := List.mem_filter.mpr ⟨List.mem_of_getElem? (i := 881) (by decide +kernel), by decide +kernel⟩
theorem mw882 : Cond.code yX9_third cX9_third 6 (some .int) ∈ WA := List.mem_filter.mpr ⟨List.mem_of_getElem? (i := 882) (by decide +kernel), by decide +kernel⟩
theorem mw883 : Cond.constant RX9 102 (-1000002) ∈ WA := List.mem_filter.mpr ⟨List.mem_of_getElem? (i := 883) (by decide +kernel), by decide +kernel⟩
theorem mw884 : Cond.methodLink RL 53 yX9_told ∈ WA := List.mem_filter.mpr ⟨List.mem_of_getElem? (i := 884) (by decide +kernel), by decide +kernel⟩
theorem mw885 : Cond.instanceMethod yX9_told ∈ WA := List.mem_filter.mpr ⟨List.mem_of_getElem? (i := 885) (by decide +kernel), by decide +kernel⟩
theorem mw886 : Cond.selects RX9 yX9_told yX9_told ∈ WA := List.mem_filter.mpr ⟨List.mem_of_getElem? (i := 886) (by decide +kernel), by decide +kernel⟩
theorem mw887 : Cond.code yX9_told cX9_told 3 (some .int) ∈ WA := List.mem_filter.mpr ⟨List.mem_of_getElem? (i := 887) (by decide +kernel), by decide +kernel⟩
theorem mw888 : Cond.methodLink RX9 107 yX9_isThird ∈ WA := List.mem_filter.mpr ⟨List.mem_of_getElem? (i := 888) (by decide +kernel), by decide +kernel⟩
theorem mw890 : Cond.instanceMethod yX9_isThird ∈ WA := List.mem_filter.mpr ⟨List.mem_of_getElem? (i := 890) (by decide +kernel), by decide +kernel⟩
theorem mw891 : Cond.code yX9_isThird cX9_isThird 2 (some .boolean) ∈ WA := List.mem_filter.mpr ⟨List.mem_of_getElem? (i := 891) (by decide +kernel), by decide +kernel⟩
theorem mw892 : Cond.constantLong RX9 110 (4) ∈ WA := List.mem_filter.mpr ⟨List.mem_of_getElem? (i := 892) (by decide +kernel), by decide +kernel⟩
theorem mw893 : Cond.methodLink RX9 112 yX9_areaAt ∈ WA := List.mem_filter.mpr ⟨List.mem_of_getElem? (i := 893) (by decide +kernel), by decide +kernel⟩
theorem mw895 : Cond.instanceMethod yX9_areaAt ∈ WA := List.mem_filter.mpr ⟨List.mem_of_getElem? (i := 895) (by decide +kernel), by decide +kernel⟩
theorem mw896 : Cond.code yX9_areaAt cX9_areaAt 7 (some .long) ∈ WA := List.mem_filter.mpr ⟨List.mem_of_getElem? (i := 896) (by decide +kernel), by decide +kernel⟩
theorem mw897 : Cond.methodLink RX9 103 yX9_area ∈ WA := List.mem_filter.mpr ⟨List.mem_of_getElem? (i := 897) (by decide +kernel), by decide +kernel⟩
theorem mw898 : Cond.static yX9_area ∈ WA := List.mem_filter.mpr ⟨List.mem_of_getElem? (i := 898) (by decide +kernel), by decide +kernel⟩
theorem mw899 : Cond.code yX9_area cX9_area 12 (some .long) ∈ WA := List.mem_filter.mpr ⟨List.mem_of_getElem? (i := 899) (by decide +kernel), by decide +kernel⟩
theorem mw900 : Cond.methodLink RL 57 yX9_folds ∈ WA := List.mem_filter.mpr ⟨List.mem_of_getElem? (i := 900) (by decide +kernel), by decide +kernel⟩
theorem mw901 : Cond.instanceMethod yX9_folds ∈ WA := List.mem_filter.mpr ⟨List.mem_of_getElem? (i := 901) (by decide +kernel), by decide +kernel⟩
theorem mw902 : Cond.selects RX9 yX9_folds yX9_folds ∈ WA := List.mem_filter.mpr ⟨List.mem_of_getElem? (i := 902) (by decide +kernel), by decide +kernel⟩
theorem mw903 : Cond.code yX9_folds cX9_folds 3 (some .int) ∈ WA := List.mem_filter.mpr ⟨List.mem_of_getElem? (i := 903) (by decide +kernel), by decide +kernel⟩
theorem mw904 : Cond.methodLink RX9 117 yX9_foldsAt ∈ WA := List.mem_filter.mpr ⟨List.mem_of_getElem? (i := 904) (by decide +kernel), by decide +kernel⟩
theorem mw906 : Cond.instanceMethod yX9_foldsAt ∈ WA := List.mem_filter.mpr ⟨List.mem_of_getElem? (i := 906) (by decide +kernel), by decide +kernel⟩
theorem mw907 : Cond.code yX9_foldsAt cX9_foldsAt 4 (some .int) ∈ WA := List.mem_filter.mpr ⟨List.mem_of_getElem? (i := 907) (by decide +kernel), by decide +kernel⟩
theorem mw908 : Cond.constant RX9 116 (-1000000) ∈ WA := List.mem_filter.mpr ⟨List.mem_of_getElem? (i := 908) (by decide +kernel), by decide +kernel⟩
theorem mw909 : Cond.methodLink RL 61 yX9_first ∈ WA := List.mem_filter.mpr ⟨List.mem_of_getElem? (i := 909) (by decide +kernel), by decide +kernel⟩
theorem mw910 : Cond.instanceMethod yX9_first ∈ WA := List.mem_filter.mpr ⟨List.mem_of_getElem? (i := 910) (by decide +kernel), by decide +kernel⟩
theorem mw911 : Cond.selects RX9 yX9_first yX9_first ∈ WA := List.mem_filter.mpr ⟨List.mem_of_getElem? (i := 911) (by decide +kernel), by decide +kernel⟩
theorem mw912 : Cond.code yX9_first cX9_first 7 (some .int) ∈ WA := List.mem_filter.mpr ⟨List.mem_of_getElem? (i := 912) (by decide +kernel), by decide +kernel⟩
theorem mw913 : Cond.methodLink RL 65 yX9_sides ∈ WA := List.mem_filter.mpr ⟨List.mem_of_getElem? (i := 913) (by decide +kernel), by decide +kernel⟩
theorem mw914 : Cond.instanceMethod yX9_sides ∈ WA := List.mem_filter.mpr ⟨List.mem_of_getElem? (i := 914) (by decide +kernel), by decide +kernel⟩
theorem mw915 : Cond.selects RX9 yX9_sides yX9_sides ∈ WA := List.mem_filter.mpr ⟨List.mem_of_getElem? (i := 915) (by decide +kernel), by decide +kernel⟩
theorem mw916 : Cond.code yX9_sides cX9_sides 8 (some .int) ∈ WA := List.mem_filter.mpr ⟨List.mem_of_getElem? (i := 916) (by decide +kernel), by decide +kernel⟩
theorem mw917 : Cond.constantLong RX9 121 (24) ∈ WA := List.mem_filter.mpr ⟨List.mem_of_getElem? (i := 917) (by decide +kernel), by decide +kernel⟩
theorem mw918 : Cond.methodLink RL 69 yX9_key ∈ WA := List.mem_filter.mpr ⟨List.mem_of_getElem? (i := 918) (by decide +kernel), by decide +kernel⟩
theorem mw919 : Cond.instanceMethod yX9_key ∈ WA := List.mem_filter.mpr ⟨List.mem_of_getElem? (i := 919) (by decide +kernel), by decide +kernel⟩
theorem mw920 : Cond.selects RX9 yX9_key yX9_key ∈ WA := List.mem_filter.mpr ⟨List.mem_of_getElem? (i := 920) (by decide +kernel), by decide +kernel⟩
theorem mw921 : Cond.code yX9_key cX9_key 3 (some .int) ∈ WA := List.mem_filter.mpr ⟨List.mem_of_getElem? (i := 921) (by decide +kernel), by decide +kernel⟩
theorem mw922 : Cond.methodLink RL 73 yX9_eased ∈ WA := List.mem_filter.mpr ⟨List.mem_of_getElem? (i := 922) (by decide +kernel), by decide +kernel⟩
theorem mw923 : Cond.instanceMethod yX9_eased ∈ WA := List.mem_filter.mpr ⟨List.mem_of_getElem? (i := 923) (by decide +kernel), by decide +kernel⟩
theorem mw924 : Cond.selects RX9 yX9_eased yX9_eased ∈ WA := List.mem_filter.mpr ⟨List.mem_of_getElem? (i := 924) (by decide +kernel), by decide +kernel⟩
theorem mw925 : Cond.code yX9_eased cX9_eased 3 (some .int) ∈ WA := List.mem_filter.mpr ⟨List.mem_of_getElem? (i := 925) (by decide +kernel), by decide +kernel⟩
theorem mw926 : Cond.methodLink RL 78 yX9_unkey ∈ WA := List.mem_filter.mpr ⟨List.mem_of_getElem? (i := 926) (by decide +kernel), by decide +kernel⟩
theorem mw927 : Cond.instanceMethod yX9_unkey ∈ WA := List.mem_filter.mpr ⟨List.mem_of_getElem? (i := 927) (by decide +kernel), by decide +kernel⟩
theorem mw928 : Cond.selects RX9 yX9_unkey yX9_unkey ∈ WA := List.mem_filter.mpr ⟨List.mem_of_getElem? (i := 928) (by decide +kernel), by decide +kernel⟩
theorem mw929 : Cond.code yX9_unkey cX9_unkey 2 (some .int) ∈ WA := List.mem_filter.mpr ⟨List.mem_of_getElem? (i := 929) (by decide +kernel), by decide +kernel⟩
theorem mw930 : Cond.methodLink RL 82 yX9_in ∈ WA := List.mem_filter.mpr ⟨List.mem_of_getElem? (i := 930) (by decide +kernel), by decide +kernel⟩
theorem mw931 : Cond.instanceMethod yX9_in ∈ WA := List.mem_filter.mpr ⟨List.mem_of_getElem? (i := 931) (by decide +kernel), by decide +kernel⟩
theorem mw932 : Cond.selects RX9 yX9_in yX9_in ∈ WA := List.mem_filter.mpr ⟨List.mem_of_getElem? (i := 932) (by decide +kernel), by decide +kernel⟩
theorem mw933 : Cond.code yX9_in cX9_in 5 (some .int) ∈ WA := List.mem_filter.mpr ⟨List.mem_of_getElem? (i := 933) (by decide +kernel), by decide +kernel⟩
theorem mw934 : Cond.methodLink RX9 136 yX9_thirdAt ∈ WA := List.mem_filter.mpr ⟨List.mem_of_getElem? (i := 934) (by decide +kernel), by decide +kernel⟩
theorem mw936 : Cond.instanceMethod yX9_thirdAt ∈ WA := List.mem_filter.mpr ⟨List.mem_of_getElem? (i := 936) (by decide +kernel), by decide +kernel⟩
theorem mw937 : Cond.code yX9_thirdAt cX9_thirdAt 25 (some .int) ∈ WA := List.mem_filter.mpr ⟨List.mem_of_getElem? (i := 937) (by decide +kernel), by decide +kernel⟩
theorem mw938 : Cond.methodLink RL 86 yX9_from ∈ WA := List.mem_filter.mpr ⟨List.mem_of_getElem? (i := 938) (by decide +kernel), by decide +kernel⟩
theorem mw939 : Cond.instanceMethod yX9_from ∈ WA := List.mem_filter.mpr ⟨List.mem_of_getElem? (i := 939) (by decide +kernel), by decide +kernel⟩
theorem mw940 : Cond.selects RX9 yX9_from yX9_from ∈ WA := List.mem_filter.mpr ⟨List.mem_of_getElem? (i := 940) (by decide +kernel), by decide +kernel⟩
theorem mw941 : Cond.code yX9_from cX9_from 7 (some .int) ∈ WA := List.mem_filter.mpr ⟨List.mem_of_getElem? (i := 941) (by decide +kernel), by decide +kernel⟩
theorem mw942 : Cond.constantLong RX9 139 (3) ∈ WA := List.mem_filter.mpr ⟨List.mem_of_getElem? (i := 942) (by decide +kernel), by decide +kernel⟩
theorem mw943 : Cond.methodLink RX9 141 yX9_fromBy ∈ WA := List.mem_filter.mpr ⟨List.mem_of_getElem? (i := 943) (by decide +kernel), by decide +kernel⟩
theorem mw945 : Cond.instanceMethod yX9_fromBy ∈ WA := List.mem_filter.mpr ⟨List.mem_of_getElem? (i := 945) (by decide +kernel), by decide +kernel⟩
theorem mw946 : Cond.code yX9_fromBy cX9_fromBy 5 (some .int) ∈ WA := List.mem_filter.mpr ⟨List.mem_of_getElem? (i := 946) (by decide +kernel), by decide +kernel⟩
theorem mw947 : Cond.methodLink RL 90 yX9_picture ∈ WA := List.mem_filter.mpr ⟨List.mem_of_getElem? (i := 947) (by decide +kernel), by decide +kernel⟩
theorem mw948 : Cond.instanceMethod yX9_picture ∈ WA := List.mem_filter.mpr ⟨List.mem_of_getElem? (i := 948) (by decide +kernel), by decide +kernel⟩
theorem mw949 : Cond.selects RX9 yX9_picture yX9_picture ∈ WA := List.mem_filter.mpr ⟨List.mem_of_getElem? (i := 949) (by decide +kernel), by decide +kernel⟩
theorem mw950 : Cond.code yX9_picture cX9_picture 7 (some .int) ∈ WA := List.mem_filter.mpr ⟨List.mem_of_getElem? (i := 950) (by decide +kernel), by decide +kernel⟩
theorem mw951 : Cond.constantLong RX9 144 (12) ∈ WA := List.mem_filter.mpr ⟨List.mem_of_getElem? (i := 951) (by decide +kernel), by decide +kernel⟩
theorem mw952 : Cond.constantLong RX9 146 (255) ∈ WA := List.mem_filter.mpr ⟨List.mem_of_getElem? (i := 952) (by decide +kernel), by decide +kernel⟩
theorem mw953 : Cond.methodLink RL 94 yX9_seen ∈ WA := List.mem_filter.mpr ⟨List.mem_of_getElem? (i := 953) (by decide +kernel), by decide +kernel⟩
theorem mw954 : Cond.instanceMethod yX9_seen ∈ WA := List.mem_filter.mpr ⟨List.mem_of_getElem? (i := 954) (by decide +kernel), by decide +kernel⟩
theorem mw955 : Cond.selects RX9 yX9_seen yX9_seen ∈ WA := List.mem_filter.mpr ⟨List.mem_of_getElem? (i := 955) (by decide +kernel), by decide +kernel⟩
theorem mw956 : Cond.code yX9_seen cX9_seen 8 (some .int) ∈ WA := List.mem_filter.mpr ⟨List.mem_of_getElem? (i := 956) (by decide +kernel), by decide +kernel⟩
theorem mw957 : Cond.methodLink RX9 148 yX9_numberAt ∈ WA := List.mem_filter.mpr ⟨List.mem_of_getElem? (i := 957) (by decide +kernel), by decide +kernel⟩
theorem mw959 : Cond.instanceMethod yX9_numberAt ∈ WA := List.mem_filter.mpr ⟨List.mem_of_getElem? (i := 959) (by decide +kernel), by decide +kernel⟩
theorem mw960 : Cond.code yX9_numberAt cX9_numberAt 4 (some .int) ∈ WA := List.mem_filter.mpr ⟨List.mem_of_getElem? (i := 960) (by decide +kernel), by decide +kernel⟩
theorem mw961 : Cond.methodLink RL 98 yX9_pairs ∈ WA := List.mem_filter.mpr ⟨List.mem_of_getElem? (i := 961) (by decide +kernel), by decide +kernel⟩
theorem mw962 : Cond.instanceMethod yX9_pairs ∈ WA := List.mem_filter.mpr ⟨List.mem_of_getElem? (i := 962) (by decide +kernel), by decide +kernel⟩
theorem mw963 : Cond.selects RX9 yX9_pairs yX9_pairs ∈ WA := List.mem_filter.mpr ⟨List.mem_of_getElem? (i := 963) (by decide +kernel), by decide +kernel⟩
theorem mw964 : Cond.code yX9_pairs cX9_pairs 13 (some .int) ∈ WA := List.mem_filter.mpr ⟨List.mem_of_getElem? (i := 964) (by decide +kernel), by decide +kernel⟩
theorem mw965 : Cond.methodLink RX9 164 yX9_look ∈ WA := List.mem_filter.mpr ⟨List.mem_of_getElem? (i := 965) (by decide +kernel), by decide +kernel⟩
theorem mw967 : Cond.instanceMethod yX9_look ∈ WA := List.mem_filter.mpr ⟨List.mem_of_getElem? (i := 967) (by decide +kernel), by decide +kernel⟩
theorem mw968 : Cond.code yX9_look cX9_look 6 (some .int) ∈ WA := List.mem_filter.mpr ⟨List.mem_of_getElem? (i := 968) (by decide +kernel), by decide +kernel⟩
theorem mw969 : Cond.constantLong RX9 155 (30) ∈ WA := List.mem_filter.mpr ⟨List.mem_of_getElem? (i := 969) (by decide +kernel), by decide +kernel⟩
theorem mw970 : Cond.methodLink RX9 167 yX9_findPairs ∈ WA := List.mem_filter.mpr ⟨List.mem_of_getElem? (i := 970) (by decide +kernel), by decide +kernel⟩
theorem mw972 : Cond.instanceMethod yX9_findPairs ∈ WA := List.mem_filter.mpr ⟨List.mem_of_getElem? (i := 972) (by decide +kernel), by decide +kernel⟩
theorem mw973 : Cond.code yX9_findPairs cX9_findPairs 9 none ∈ WA := List.mem_filter.mpr ⟨List.mem_of_getElem? (i := 973) (by decide +kernel), by decide +kernel⟩
theorem mw974 : Cond.constant RX9 157 (1000000000) ∈ WA := List.mem_filter.mpr ⟨List.mem_of_getElem? (i := 974) (by decide +kernel), by decide +kernel⟩
theorem mw975 : Cond.methodLink RX9 158 yX9_apart ∈ WA := List.mem_filter.mpr ⟨List.mem_of_getElem? (i := 975) (by decide +kernel), by decide +kernel⟩
theorem mw977 : Cond.instanceMethod yX9_apart ∈ WA := List.mem_filter.mpr ⟨List.mem_of_getElem? (i := 977) (by decide +kernel), by decide +kernel⟩
theorem mw978 : Cond.code yX9_apart cX9_apart 5 (some .int) ∈ WA := List.mem_filter.mpr ⟨List.mem_of_getElem? (i := 978) (by decide +kernel), by decide +kernel⟩
theorem mw979 : Cond.methodLink RX9 152 yX9_size ∈ WA := List.mem_filter.mpr ⟨List.mem_of_getElem? (i := 979) (by decide +kernel), by decide +kernel⟩
theorem mw980 : Cond.static yX9_size ∈ WA := List.mem_filter.mpr ⟨List.mem_of_getElem? (i := 980) (by decide +kernel), by decide +kernel⟩
theorem mw981 : Cond.code yX9_size cX9_size 1 (some .int) ∈ WA := List.mem_filter.mpr ⟨List.mem_of_getElem? (i := 981) (by decide +kernel), by decide +kernel⟩
theorem mw982 : Cond.methodLink RL 102 yX9_pair ∈ WA := List.mem_filter.mpr ⟨List.mem_of_getElem? (i := 982) (by decide +kernel), by decide +kernel⟩
theorem mw983 : Cond.instanceMethod yX9_pair ∈ WA := List.mem_filter.mpr ⟨List.mem_of_getElem? (i := 983) (by decide +kernel), by decide +kernel⟩
theorem mw984 : Cond.selects RX9 yX9_pair yX9_pair ∈ WA := List.mem_filter.mpr ⟨List.mem_of_getElem? (i := 984) (by decide +kernel), by decide +kernel⟩
theorem mw985 : Cond.code yX9_pair cX9_pair 7 (some .int) ∈ WA := List.mem_filter.mpr ⟨List.mem_of_getElem? (i := 985) (by decide +kernel), by decide +kernel⟩
theorem mw986 : Cond.methodLink RL 106 yX9_kind ∈ WA := List.mem_filter.mpr ⟨List.mem_of_getElem? (i := 986) (by decide +kernel), by decide +kernel⟩
theorem mw987 : Cond.instanceMethod yX9_kind ∈ WA := List.mem_filter.mpr ⟨List.mem_of_getElem? (i := 987) (by decide +kernel), by decide +kernel⟩
theorem mw988 : Cond.selects RX9 yX9_kind yX9_kind ∈ WA := List.mem_filter.mpr ⟨List.mem_of_getElem? (i := 988) (by decide +kernel), by decide +kernel⟩
theorem mw989 : Cond.code yX9_kind cX9_kind 2 (some .int) ∈ WA := List.mem_filter.mpr ⟨List.mem_of_getElem? (i := 989) (by decide +kernel), by decide +kernel⟩
theorem mw990 : Cond.methodLink RX9 171 yX9_kindOf ∈ WA := List.mem_filter.mpr ⟨List.mem_of_getElem? (i := 990) (by decide +kernel), by decide +kernel⟩
theorem mw992 : Cond.instanceMethod yX9_kindOf ∈ WA := List.mem_filter.mpr ⟨List.mem_of_getElem? (i := 992) (by decide +kernel), by decide +kernel⟩
theorem mw993 : Cond.code yX9_kindOf cX9_kindOf 9 (some .int) ∈ WA := List.mem_filter.mpr ⟨List.mem_of_getElem? (i := 993) (by decide +kernel), by decide +kernel⟩
theorem mw994 : Cond.methodLink RL 110 yX9_as ∈ WA := List.mem_filter.mpr ⟨List.mem_of_getElem? (i := 994) (by decide +kernel), by decide +kernel⟩
theorem mw995 : Cond.instanceMethod yX9_as ∈ WA := List.mem_filter.mpr ⟨List.mem_of_getElem? (i := 995) (by decide +kernel), by decide +kernel⟩
theorem mw996 : Cond.selects RX9 yX9_as yX9_as ∈ WA := List.mem_filter.mpr ⟨List.mem_of_getElem? (i := 996) (by decide +kernel), by decide +kernel⟩
theorem mw997 : Cond.code yX9_as cX9_as 3 (some .int) ∈ WA := List.mem_filter.mpr ⟨List.mem_of_getElem? (i := 997) (by decide +kernel), by decide +kernel⟩
theorem mw998 : Cond.methodLink RX9 174 yX9_isOf ∈ WA := List.mem_filter.mpr ⟨List.mem_of_getElem? (i := 998) (by decide +kernel), by decide +kernel⟩
theorem mw999 : Cond.static yX9_isOf ∈ WA := List.mem_filter.mpr ⟨List.mem_of_getElem? (i := 999) (by decide +kernel), by decide +kernel⟩
theorem mw1000 : Cond.code yX9_isOf cX9_isOf 2 (some .boolean) ∈ WA := List.mem_filter.mpr ⟨List.mem_of_getElem? (i := 1000) (by decide +kernel), by decide +kernel⟩
theorem mw1001 : Cond.methodLink RL 114 yX9_ask ∈ WA := List.mem_filter.mpr ⟨List.mem_of_getElem? (i := 1001) (by decide +kernel), by decide +kernel⟩
theorem mw1002 : Cond.instanceMethod yX9_ask ∈ WA := List.mem_filter.mpr ⟨List.mem_of_getElem? (i := 1002) (by decide +kernel), by decide +kernel⟩
theorem mw1003 : Cond.selects RX9 yX9_ask yX9_ask ∈ WA := List.mem_filter.mpr ⟨List.mem_of_getElem? (i := 1003) (by decide +kernel), by decide +kernel⟩
theorem mw1004 : Cond.code yX9_ask cX9_ask 3 (some .int) ∈ WA := List.mem_filter.mpr ⟨List.mem_of_getElem? (i := 1004) (by decide +kernel), by decide +kernel⟩
theorem mw1005 : Cond.methodLink RX9 190 yX9_sized ∈ WA := List.mem_filter.mpr ⟨List.mem_of_getElem? (i := 1005) (by decide +kernel), by decide +kernel⟩
theorem mw1007 : Cond.instanceMethod yX9_sized ∈ WA := List.mem_filter.mpr ⟨List.mem_of_getElem? (i := 1007) (by decide +kernel), by decide +kernel⟩
theorem mw1008 : Cond.code yX9_sized cX9_sized 4 (some .int) ∈ WA := List.mem_filter.mpr ⟨List.mem_of_getElem? (i := 1008) (by decide +kernel), by decide +kernel⟩
theorem mw1009 : Cond.methodLink RX9 180 yX9_began ∈ WA := List.mem_filter.mpr ⟨List.mem_of_getElem? (i := 1009) (by decide +kernel), by decide +kernel⟩
theorem mw1011 : Cond.instanceMethod yX9_began ∈ WA := List.mem_filter.mpr ⟨List.mem_of_getElem? (i := 1011) (by decide +kernel), by decide +kernel⟩
theorem mw1012 : Cond.code yX9_began cX9_began 2 none ∈ WA := List.mem_filter.mpr ⟨List.mem_of_getElem? (i := 1012) (by decide +kernel), by decide +kernel⟩
theorem mw1013 : Cond.methodLink RX9 184 yX9_plainSize ∈ WA := List.mem_filter.mpr ⟨List.mem_of_getElem? (i := 1013) (by decide +kernel), by decide +kernel⟩
theorem mw1015 : Cond.instanceMethod yX9_plainSize ∈ WA := List.mem_filter.mpr ⟨List.mem_of_getElem? (i := 1015) (by decide +kernel), by decide +kernel⟩
theorem mw1016 : Cond.code yX9_plainSize cX9_plainSize 2 (some .int) ∈ WA := List.mem_filter.mpr ⟨List.mem_of_getElem? (i := 1016) (by decide +kernel), by decide +kernel⟩
theorem mw1017 : Cond.methodLink RX9 187 yX9_marked ∈ WA := List.mem_filter.mpr ⟨List.mem_of_getElem? (i := 1017) (by decide +kernel), by decide +kernel⟩
theorem mw1019 : Cond.instanceMethod yX9_marked ∈ WA := List.mem_filter.mpr ⟨List.mem_of_getElem? (i := 1019) (by decide +kernel), by decide +kernel⟩
theorem mw1020 : Cond.code yX9_marked cX9_marked 4 (some .int) ∈ WA := List.mem_filter.mpr ⟨List.mem_of_getElem? (i := 1020) (by decide +kernel), by decide +kernel⟩
theorem mw1021 : Cond.methodLink RL 118 yX9_trace ∈ WA := List.mem_filter.mpr ⟨List.mem_of_getElem? (i := 1021) (by decide +kernel), by decide +kernel⟩
theorem mw1022 : Cond.instanceMethod yX9_trace ∈ WA := List.mem_filter.mpr ⟨List.mem_of_getElem? (i := 1022) (by decide +kernel), by decide +kernel⟩
theorem mw1023 : Cond.selects RX9 yX9_trace yX9_trace ∈ WA := List.mem_filter.mpr ⟨List.mem_of_getElem? (i := 1023) (by decide +kernel), by decide +kernel⟩
theorem mw1024 : Cond.code yX9_trace cX9_trace 2 (some .int) ∈ WA := List.mem_filter.mpr ⟨List.mem_of_getElem? (i := 1024) (by decide +kernel), by decide +kernel⟩
theorem mw1025 : Cond.methodLink RL 122 yX9_count ∈ WA := List.mem_filter.mpr ⟨List.mem_of_getElem? (i := 1025) (by decide +kernel), by decide +kernel⟩
theorem mw1026 : Cond.instanceMethod yX9_count ∈ WA := List.mem_filter.mpr ⟨List.mem_of_getElem? (i := 1026) (by decide +kernel), by decide +kernel⟩
theorem mw1027 : Cond.selects RX9 yX9_count yX9_count ∈ WA := List.mem_filter.mpr ⟨List.mem_of_getElem? (i := 1027) (by decide +kernel), by decide +kernel⟩
theorem mw1028 : Cond.code yX9_count cX9_count 4 (some .int) ∈ WA := List.mem_filter.mpr ⟨List.mem_of_getElem? (i := 1028) (by decide +kernel), by decide +kernel⟩
theorem mw1029 : Cond.methodLink RL 126 yX9_status ∈ WA := List.mem_filter.mpr ⟨List.mem_of_getElem? (i := 1029) (by decide +kernel), by decide +kernel⟩
theorem mw1030 : Cond.instanceMethod yX9_status ∈ WA := List.mem_filter.mpr ⟨List.mem_of_getElem? (i := 1030) (by decide +kernel), by decide +kernel⟩
theorem mw1031 : Cond.selects RX9 yX9_status yX9_status ∈ WA := List.mem_filter.mpr ⟨List.mem_of_getElem? (i := 1031) (by decide +kernel), by decide +kernel⟩
theorem mw1032 : Cond.code yX9_status cX9_status 1 (some .int) ∈ WA := List.mem_filter.mpr ⟨List.mem_of_getElem? (i := 1032) (by decide +kernel), by decide +kernel⟩
end
section
theorem dX0_init_0 : decode cX0_init 0 = .ok (.aload_n 0, 1) := by decide +kernel
theorem dX0_init_1 : decode cX0_init 1 = .ok (.invokespecial 3, 3) := by decide +kernel
theorem dX0_init_4 : decode cX0_init 4 = .ok (.aload_n 0, 1) := by decide +kernel
theorem dX0_init_5 : decode cX0_init 5 = .ok (.bipush 16, 2) := by decide +kernel
theorem dX0_init_7 : decode cX0_init 7 = .ok (.newarray .int, 2) := by decide +kernel
theorem dX0_init_9 : decode cX0_init 9 = .ok (.putfield 11, 3) := by decide +kernel
theorem dX0_init_12 : decode cX0_init 12 = .ok (.aload_n 0, 1) := by decide +kernel
theorem dX0_init_13 : decode cX0_init 13 = .ok (.iconst 0, 1) := by decide +kernel
theorem dX0_init_14 : decode cX0_init 14 = .ok (.putfield 15, 3) := by decide +kernel
theorem dX0_init_17 : decode cX0_init 17 = .ok (.aload_n 0, 1) := by decide +kernel
theorem dX0_init_18 : decode cX0_init 18 = .ok (.aload_n 1, 1) := by decide +kernel
theorem dX0_init_19 : decode cX0_init 19 = .ok (.putfield 19, 3) := by decide +kernel
theorem dX0_init_22 : decode cX0_init 22 = .ok (.return_, 1) := by decide +kernel
theorem dX0_clear_0 : decode cX0_clear 0 = .ok (.aload_n 0, 1) := by decide +kernel
theorem dX0_clear_1 : decode cX0_clear 1 = .ok (.iconst 0, 1) := by decide +kernel
theorem dX0_clear_2 : decode cX0_clear 2 = .ok (.putfield 15, 3) := by decide +kernel
theorem dX0_clear_5 : decode cX0_clear 5 = .ok (.return_, 1) := by decide +kernel
theorem dX0_traced_0 : decode cX0_traced 0 = .ok (.iload_n 1, 1) := by decide +kernel
theorem dX0_traced_1 : decode cX0_traced 1 = .ok (.ifCond .lt 20, 3) := by decide +kernel
theorem dX0_traced_4 : decode cX0_traced 4 = .ok (.iload_n 1, 1) := by decide +kernel
theorem dX0_traced_5 : decode cX0_traced 5 = .ok (.aload_n 0, 1) := by decide +kernel
theorem dX0_traced_6 : decode cX0_traced 6 = .ok (.getfield 15, 3) := by decide +kernel
theorem dX0_traced_9 : decode cX0_traced 9 = .ok (.if_icmp .ge 12, 3) := by decide +kernel
theorem dX0_traced_12 : decode cX0_traced 12 = .ok (.aload_n 0, 1) := by decide +kernel
theorem dX0_traced_13 : decode cX0_traced 13 = .ok (.getfield 11, 3) := by decide +kernel
theorem dX0_traced_16 : decode cX0_traced 16 = .ok (.iload_n 1, 1) := by decide +kernel
theorem dX0_traced_17 : decode cX0_traced 17 = .ok (.iaload, 1) := by decide +kernel
theorem dX0_traced_18 : decode cX0_traced 18 = .ok (.goto 5, 3) := by decide +kernel
theorem dX0_traced_21 : decode cX0_traced 21 = .ok (.ldc 23, 2) := by decide +kernel
theorem dX0_traced_23 : decode cX0_traced 23 = .ok (.ireturn, 1) := by decide +kernel
theorem dX0_sizeOf_0 : decode cX0_sizeOf 0 = .ok (.aload_n 0, 1) := by decide +kernel
theorem dX0_sizeOf_1 : decode cX0_sizeOf 1 = .ok (.getfield 19, 3) := by decide +kernel
theorem dX0_sizeOf_4 : decode cX0_sizeOf 4 = .ok (.iload_n 1, 1) := by decide +kernel
theorem dX0_sizeOf_5 : decode cX0_sizeOf 5 = .ok (.invokevirtual 24, 3) := by decide +kernel
theorem dX0_sizeOf_8 : decode cX0_sizeOf 8 = .ok (.tableswitch 45 1 3 #[34, 28, 40], 28) := by decide +kernel
theorem dX0_sizeOf_36 : decode cX0_sizeOf 36 = .ok (.aload_n 0, 1) := by decide +kernel
theorem dX0_sizeOf_37 : decode cX0_sizeOf 37 = .ok (.iload_n 1, 1) := by decide +kernel
theorem dX0_sizeOf_38 : decode cX0_sizeOf 38 = .ok (.invokevirtual 30, 3) := by decide +kernel
theorem dX0_sizeOf_41 : decode cX0_sizeOf 41 = .ok (.ireturn, 1) := by decide +kernel
theorem dX0_sizeOf_42 : decode cX0_sizeOf 42 = .ok (.aload_n 0, 1) := by decide +kernel
theorem dX0_sizeOf_43 : decode cX0_sizeOf 43 = .ok (.iload_n 1, 1) := by decide +kernel
theorem dX0_sizeOf_44 : decode cX0_sizeOf 44 = .ok (.invokevirtual 33, 3) := by decide +kernel
theorem dX0_sizeOf_47 : decode cX0_sizeOf 47 = .ok (.ireturn, 1) := by decide +kernel
theorem dX0_sizeOf_48 : decode cX0_sizeOf 48 = .ok (.aload_n 0, 1) := by decide +kernel
theorem dX0_sizeOf_49 : decode cX0_sizeOf 49 = .ok (.invokevirtual 36, 3) := by decide +kernel
theorem dX0_sizeOf_52 : decode cX0_sizeOf 52 = .ok (.ireturn, 1) := by decide +kernel
theorem dX0_sizeOf_53 : decode cX0_sizeOf 53 = .ok (.aload_n 0, 1) := by decide +kernel
theorem dX0_sizeOf_54 : decode cX0_sizeOf 54 = .ok (.iload_n 1, 1) := by decide +kernel
theorem dX0_sizeOf_55 : decode cX0_sizeOf 55 = .ok (.invokevirtual 40, 3) := by decide +kernel
theorem dX0_sizeOf_58 : decode cX0_sizeOf 58 = .ok (.ireturn, 1) := by decide +kernel
theorem dX0_markOf_0 : decode cX0_markOf 0 = .ok (.aload_n 0, 1) := by decide +kernel
theorem dX0_markOf_1 : decode cX0_markOf 1 = .ok (.getfield 19, 3) := by decide +kernel
theorem dX0_markOf_4 : decode cX0_markOf 4 = .ok (.iload_n 1, 1) := by decide +kernel
theorem dX0_markOf_5 : decode cX0_markOf 5 = .ok (.invokevirtual 24, 3) := by decide +kernel
theorem dX0_markOf_8 : decode cX0_markOf 8 = .ok (.tableswitch 44 1 4 #[32, 32, 44, 38], 32) := by decide +kernel
theorem dX0_markOf_40 : decode cX0_markOf 40 = .ok (.aload_n 0, 1) := by decide +kernel
theorem dX0_markOf_41 : decode cX0_markOf 41 = .ok (.iload_n 1, 1) := by decide +kernel
theorem dX0_markOf_42 : decode cX0_markOf 42 = .ok (.invokevirtual 43, 3) := by decide +kernel
theorem dX0_markOf_45 : decode cX0_markOf 45 = .ok (.ireturn, 1) := by decide +kernel
theorem dX0_markOf_46 : decode cX0_markOf 46 = .ok (.aload_n 0, 1) := by decide +kernel
theorem dX0_markOf_47 : decode cX0_markOf 47 = .ok (.iload_n 1, 1) := by decide +kernel
theorem dX0_markOf_48 : decode cX0_markOf 48 = .ok (.invokevirtual 46, 3) := by decide +kernel
theorem dX0_markOf_51 : decode cX0_markOf 51 = .ok (.ireturn, 1) := by decide +kernel
theorem dX0_markOf_52 : decode cX0_markOf 52 = .ok (.aload_n 0, 1) := by decide +kernel
theorem dX0_markOf_53 : decode cX0_markOf 53 = .ok (.iload_n 1, 1) := by decide +kernel
theorem dX0_markOf_54 : decode cX0_markOf 54 = .ok (.invokevirtual 49, 3) := by decide +kernel
theorem dX0_markOf_57 : decode cX0_markOf 57 = .ok (.ireturn, 1) := by decide +kernel
theorem dX0_begin_0 : decode cX0_begin 0 = .ok (.aload_n 0, 1) := by decide +kernel
theorem dX0_begin_1 : decode cX0_begin 1 = .ok (.getfield 15, 3) := by decide +kernel
theorem dX0_begin_4 : decode cX0_begin 4 = .ok (.bipush 16, 2) := by decide +kernel
theorem dX0_begin_6 : decode cX0_begin 6 = .ok (.if_icmp .ge 23, 3) := by decide +kernel
theorem dX0_begin_9 : decode cX0_begin 9 = .ok (.aload_n 0, 1) := by decide +kernel
theorem dX0_begin_10 : decode cX0_begin 10 = .ok (.getfield 11, 3) := by decide +kernel
theorem dX0_begin_13 : decode cX0_begin 13 = .ok (.aload_n 0, 1) := by decide +kernel
theorem dX0_begin_14 : decode cX0_begin 14 = .ok (.getfield 15, 3) := by decide +kernel
theorem dX0_begin_17 : decode cX0_begin 17 = .ok (.iload_n 1, 1) := by decide +kernel
theorem dX0_begin_18 : decode cX0_begin 18 = .ok (.iastore, 1) := by decide +kernel
theorem dX0_begin_19 : decode cX0_begin 19 = .ok (.aload_n 0, 1) := by decide +kernel
theorem dX0_begin_20 : decode cX0_begin 20 = .ok (.dup, 1) := by decide +kernel
theorem dX0_begin_21 : decode cX0_begin 21 = .ok (.getfield 15, 3) := by decide +kernel
theorem dX0_begin_24 : decode cX0_begin 24 = .ok (.iconst 1, 1) := by decide +kernel
theorem dX0_begin_25 : decode cX0_begin 25 = .ok (.iadd, 1) := by decide +kernel
theorem dX0_begin_26 : decode cX0_begin 26 = .ok (.putfield 15, 3) := by decide +kernel
theorem dX0_begin_29 : decode cX0_begin 29 = .ok (.return_, 1) := by decide +kernel
theorem dX0_body10_0 : decode cX0_body10 0 = .ok (.aload_n 0, 1) := by decide +kernel
theorem dX0_body10_1 : decode cX0_body10 1 = .ok (.bipush 10, 2) := by decide +kernel
theorem dX0_body10_3 : decode cX0_body10 3 = .ok (.invokevirtual 52, 3) := by decide +kernel
theorem dX0_body10_6 : decode cX0_body10 6 = .ok (.aload_n 0, 1) := by decide +kernel
theorem dX0_body10_7 : decode cX0_body10 7 = .ok (.getfield 19, 3) := by decide +kernel
theorem dX0_body10_10 : decode cX0_body10 10 = .ok (.iload_n 1, 1) := by decide +kernel
theorem dX0_body10_11 : decode cX0_body10 11 = .ok (.iconst 0, 1) := by decide +kernel
theorem dX0_body10_12 : decode cX0_body10 12 = .ok (.invokevirtual 56, 3) := by decide +kernel
theorem dX0_body10_15 : decode cX0_body10 15 = .ok (.iconst 2, 1) := by decide +kernel
theorem dX0_body10_16 : decode cX0_body10 16 = .ok (.idiv, 1) := by decide +kernel
theorem dX0_body10_17 : decode cX0_body10 17 = .ok (.ireturn, 1) := by decide +kernel
theorem dX0_body11_0 : decode cX0_body11 0 = .ok (.aload_n 0, 1) := by decide +kernel
theorem dX0_body11_1 : decode cX0_body11 1 = .ok (.bipush 11, 2) := by decide +kernel
theorem dX0_body11_3 : decode cX0_body11 3 = .ok (.invokevirtual 52, 3) := by decide +kernel
theorem dX0_body11_6 : decode cX0_body11 6 = .ok (.aload_n 0, 1) := by decide +kernel
theorem dX0_body11_7 : decode cX0_body11 7 = .ok (.iload_n 1, 1) := by decide +kernel
theorem dX0_body11_8 : decode cX0_body11 8 = .ok (.invokevirtual 40, 3) := by decide +kernel
theorem dX0_body11_11 : decode cX0_body11 11 = .ok (.aload_n 0, 1) := by decide +kernel
theorem dX0_body11_12 : decode cX0_body11 12 = .ok (.getfield 19, 3) := by decide +kernel
theorem dX0_body11_15 : decode cX0_body11 15 = .ok (.iload_n 1, 1) := by decide +kernel
theorem dX0_body11_16 : decode cX0_body11 16 = .ok (.iconst 1, 1) := by decide +kernel
theorem dX0_body11_17 : decode cX0_body11 17 = .ok (.invokevirtual 56, 3) := by decide +kernel
theorem dX0_body11_20 : decode cX0_body11 20 = .ok (.iconst 2, 1) := by decide +kernel
theorem dX0_body11_21 : decode cX0_body11 21 = .ok (.idiv, 1) := by decide +kernel
theorem dX0_body11_22 : decode cX0_body11 22 = .ok (.iadd, 1) := by decide +kernel
theorem dX0_body11_23 : decode cX0_body11 23 = .ok (.ireturn, 1) := by decide +kernel
theorem dX0_body12_0 : decode cX0_body12 0 = .ok (.aload_n 0, 1) := by decide +kernel
theorem dX0_body12_1 : decode cX0_body12 1 = .ok (.bipush 12, 2) := by decide +kernel
theorem dX0_body12_3 : decode cX0_body12 3 = .ok (.invokevirtual 52, 3) := by decide +kernel
theorem dX0_body12_6 : decode cX0_body12 6 = .ok (.aload_n 0, 1) := by decide +kernel
theorem dX0_body12_7 : decode cX0_body12 7 = .ok (.iload_n 1, 1) := by decide +kernel
theorem dX0_body12_8 : decode cX0_body12 8 = .ok (.invokevirtual 33, 3) := by decide +kernel
theorem dX0_body12_11 : decode cX0_body12 11 = .ok (.aload_n 0, 1) := by decide +kernel
theorem dX0_body12_12 : decode cX0_body12 12 = .ok (.iload_n 1, 1) := by decide +kernel
theorem dX0_body12_13 : decode cX0_body12 13 = .ok (.invokevirtual 43, 3) := by decide +kernel
theorem dX0_body12_16 : decode cX0_body12 16 = .ok (.iadd, 1) := by decide +kernel
theorem dX0_body12_17 : decode cX0_body12 17 = .ok (.ireturn, 1) := by decide +kernel
theorem dX0_body13_0 : decode cX0_body13 0 = .ok (.aload_n 0, 1) := by decide +kernel
theorem dX0_body13_1 : decode cX0_body13 1 = .ok (.bipush 13, 2) := by decide +kernel
theorem dX0_body13_3 : decode cX0_body13 3 = .ok (.invokevirtual 52, 3) := by decide +kernel
theorem dX0_body13_6 : decode cX0_body13 6 = .ok (.iconst 0, 1) := by decide +kernel
theorem dX0_body13_7 : decode cX0_body13 7 = .ok (.ireturn, 1) := by decide +kernel
theorem dX0_body20_0 : decode cX0_body20 0 = .ok (.aload_n 0, 1) := by decide +kernel
theorem dX0_body20_1 : decode cX0_body20 1 = .ok (.bipush 20, 2) := by decide +kernel
theorem dX0_body20_3 : decode cX0_body20 3 = .ok (.invokevirtual 52, 3) := by decide +kernel
theorem dX0_body20_6 : decode cX0_body20 6 = .ok (.aload_n 0, 1) := by decide +kernel
theorem dX0_body20_7 : decode cX0_body20 7 = .ok (.getfield 19, 3) := by decide +kernel
theorem dX0_body20_10 : decode cX0_body20 10 = .ok (.iload_n 1, 1) := by decide +kernel
theorem dX0_body20_11 : decode cX0_body20 11 = .ok (.iconst 0, 1) := by decide +kernel
theorem dX0_body20_12 : decode cX0_body20 12 = .ok (.invokevirtual 60, 3) := by decide +kernel
theorem dX0_body20_15 : decode cX0_body20 15 = .ok (.aload_n 0, 1) := by decide +kernel
theorem dX0_body20_16 : decode cX0_body20 16 = .ok (.getfield 19, 3) := by decide +kernel
theorem dX0_body20_19 : decode cX0_body20 19 = .ok (.iload_n 1, 1) := by decide +kernel
theorem dX0_body20_20 : decode cX0_body20 20 = .ok (.iconst 1, 1) := by decide +kernel
theorem dX0_body20_21 : decode cX0_body20 21 = .ok (.invokevirtual 60, 3) := by decide +kernel
theorem dX0_body20_24 : decode cX0_body20 24 = .ok (.iadd, 1) := by decide +kernel
theorem dX0_body20_25 : decode cX0_body20 25 = .ok (.aload_n 0, 1) := by decide +kernel
theorem dX0_body20_26 : decode cX0_body20 26 = .ok (.getfield 19, 3) := by decide +kernel
theorem dX0_body20_29 : decode cX0_body20 29 = .ok (.iload_n 1, 1) := by decide +kernel
theorem dX0_body20_30 : decode cX0_body20 30 = .ok (.iconst 2, 1) := by decide +kernel
theorem dX0_body20_31 : decode cX0_body20 31 = .ok (.invokevirtual 60, 3) := by decide +kernel
theorem dX0_body20_34 : decode cX0_body20 34 = .ok (.iadd, 1) := by decide +kernel
theorem dX0_body20_35 : decode cX0_body20 35 = .ok (.ireturn, 1) := by decide +kernel
theorem dX0_body21_0 : decode cX0_body21 0 = .ok (.aload_n 0, 1) := by decide +kernel
theorem dX0_body21_1 : decode cX0_body21 1 = .ok (.bipush 21, 2) := by decide +kernel
theorem dX0_body21_3 : decode cX0_body21 3 = .ok (.invokevirtual 52, 3) := by decide +kernel
theorem dX0_body21_6 : decode cX0_body21 6 = .ok (.aload_n 0, 1) := by decide +kernel
theorem dX0_body21_7 : decode cX0_body21 7 = .ok (.iload_n 1, 1) := by decide +kernel
theorem dX0_body21_8 : decode cX0_body21 8 = .ok (.invokevirtual 49, 3) := by decide +kernel
theorem dX0_body21_11 : decode cX0_body21 11 = .ok (.bipush 100, 2) := by decide +kernel
theorem dX0_body21_13 : decode cX0_body21 13 = .ok (.iadd, 1) := by decide +kernel
theorem dX0_body21_14 : decode cX0_body21 14 = .ok (.ireturn, 1) := by decide +kernel
theorem dX0_body22_0 : decode cX0_body22 0 = .ok (.aload_n 0, 1) := by decide +kernel
theorem dX0_body22_1 : decode cX0_body22 1 = .ok (.bipush 22, 2) := by decide +kernel
theorem dX0_body22_3 : decode cX0_body22 3 = .ok (.invokevirtual 52, 3) := by decide +kernel
theorem dX0_body22_6 : decode cX0_body22 6 = .ok (.aload_n 0, 1) := by decide +kernel
theorem dX0_body22_7 : decode cX0_body22 7 = .ok (.iload_n 1, 1) := by decide +kernel
theorem dX0_body22_8 : decode cX0_body22 8 = .ok (.invokevirtual 49, 3) := by decide +kernel
theorem dX0_body22_11 : decode cX0_body22 11 = .ok (.aload_n 0, 1) := by decide +kernel
theorem dX0_body22_12 : decode cX0_body22 12 = .ok (.iload_n 1, 1) := by decide +kernel
theorem dX0_body22_13 : decode cX0_body22 13 = .ok (.invokevirtual 40, 3) := by decide +kernel
theorem dX0_body22_16 : decode cX0_body22 16 = .ok (.iadd, 1) := by decide +kernel
theorem dX0_body22_17 : decode cX0_body22 17 = .ok (.ireturn, 1) := by decide +kernel
theorem dX1_init_0 : decode cX1_init 0 = .ok (.aload_n 0, 1) := by decide +kernel
theorem dX1_init_1 : decode cX1_init 1 = .ok (.invokespecial 3, 3) := by decide +kernel
theorem dX1_init_4 : decode cX1_init 4 = .ok (.aload_n 0, 1) := by decide +kernel
theorem dX1_init_5 : decode cX1_init 5 = .ok (.ldc 9, 2) := by decide +kernel
theorem dX1_init_7 : decode cX1_init 7 = .ok (.putfield 10, 3) := by decide +kernel
theorem dX1_init_10 : decode cX1_init 10 = .ok (.aload_n 0, 1) := by decide +kernel
theorem dX1_init_11 : decode cX1_init 11 = .ok (.lconst 0, 1) := by decide +kernel
theorem dX1_init_12 : decode cX1_init 12 = .ok (.putfield 16, 3) := by decide +kernel
theorem dX1_init_15 : decode cX1_init 15 = .ok (.aload_n 0, 1) := by decide +kernel
theorem dX1_init_16 : decode cX1_init 16 = .ok (.lconst 0, 1) := by decide +kernel
theorem dX1_init_17 : decode cX1_init 17 = .ok (.putfield 20, 3) := by decide +kernel
theorem dX1_init_20 : decode cX1_init 20 = .ok (.aload_n 0, 1) := by decide +kernel
theorem dX1_init_21 : decode cX1_init 21 = .ok (.lconst 0, 1) := by decide +kernel
theorem dX1_init_22 : decode cX1_init 22 = .ok (.putfield 23, 3) := by decide +kernel
theorem dX1_init_25 : decode cX1_init 25 = .ok (.aload_n 0, 1) := by decide +kernel
theorem dX1_init_26 : decode cX1_init 26 = .ok (.lconst 0, 1) := by decide +kernel
theorem dX1_init_27 : decode cX1_init 27 = .ok (.putfield 26, 3) := by decide +kernel
theorem dX1_init_30 : decode cX1_init 30 = .ok (.aload_n 0, 1) := by decide +kernel
theorem dX1_init_31 : decode cX1_init 31 = .ok (.aload_n 1, 1) := by decide +kernel
theorem dX1_init_32 : decode cX1_init 32 = .ok (.putfield 29, 3) := by decide +kernel
theorem dX1_init_35 : decode cX1_init 35 = .ok (.aload_n 0, 1) := by decide +kernel
theorem dX1_init_36 : decode cX1_init 36 = .ok (.aload_n 2, 1) := by decide +kernel
theorem dX1_init_37 : decode cX1_init 37 = .ok (.putfield 33, 3) := by decide +kernel
theorem dX1_init_40 : decode cX1_init 40 = .ok (.return_, 1) := by decide +kernel
theorem dX1_find_0 : decode cX1_find 0 = .ok (.iconst 0, 1) := by decide +kernel
theorem dX1_find_1 : decode cX1_find 1 = .ok (.istore 5, 2) := by decide +kernel
theorem dX1_find_3 : decode cX1_find 3 = .ok (.iload 5, 2) := by decide +kernel
theorem dX1_find_5 : decode cX1_find 5 = .ok (.aload_n 0, 1) := by decide +kernel
theorem dX1_find_6 : decode cX1_find 6 = .ok (.getfield 33, 3) := by decide +kernel
theorem dX1_find_9 : decode cX1_find 9 = .ok (.invokevirtual 37, 3) := by decide +kernel
theorem dX1_find_12 : decode cX1_find 12 = .ok (.if_icmp .ge 65, 3) := by decide +kernel
theorem dX1_find_15 : decode cX1_find 15 = .ok (.aload_n 0, 1) := by decide +kernel
theorem dX1_find_16 : decode cX1_find 16 = .ok (.iload 5, 2) := by decide +kernel
theorem dX1_find_18 : decode cX1_find 18 = .ok (.iload_n 1, 1) := by decide +kernel
theorem dX1_find_19 : decode cX1_find 19 = .ok (.iload_n 2, 1) := by decide +kernel
theorem dX1_find_20 : decode cX1_find 20 = .ok (.iload_n 3, 1) := by decide +kernel
theorem dX1_find_21 : decode cX1_find 21 = .ok (.iload 4, 2) := by decide +kernel
theorem dX1_find_23 : decode cX1_find 23 = .ok (.invokevirtual 43, 3) := by decide +kernel
theorem dX1_find_26 : decode cX1_find 26 = .ok (.aload_n 0, 1) := by decide +kernel
theorem dX1_find_27 : decode cX1_find 27 = .ok (.getfield 16, 3) := by decide +kernel
theorem dX1_find_30 : decode cX1_find 30 = .ok (.lconst 0, 1) := by decide +kernel
theorem dX1_find_31 : decode cX1_find 31 = .ok (.lcmp, 1) := by decide +kernel
theorem dX1_find_32 : decode cX1_find 32 = .ok (.ifCond .le 39, 3) := by decide +kernel
theorem dX1_find_35 : decode cX1_find 35 = .ok (.aload_n 0, 1) := by decide +kernel
theorem dX1_find_36 : decode cX1_find 36 = .ok (.getfield 20, 3) := by decide +kernel
theorem dX1_find_39 : decode cX1_find 39 = .ok (.lconst 0, 1) := by decide +kernel
theorem dX1_find_40 : decode cX1_find 40 = .ok (.lcmp, 1) := by decide +kernel
theorem dX1_find_41 : decode cX1_find 41 = .ok (.ifCond .lt 30, 3) := by decide +kernel
theorem dX1_find_44 : decode cX1_find 44 = .ok (.aload_n 0, 1) := by decide +kernel
theorem dX1_find_45 : decode cX1_find 45 = .ok (.getfield 23, 3) := by decide +kernel
theorem dX1_find_48 : decode cX1_find 48 = .ok (.lconst 0, 1) := by decide +kernel
theorem dX1_find_49 : decode cX1_find 49 = .ok (.lcmp, 1) := by decide +kernel
theorem dX1_find_50 : decode cX1_find 50 = .ok (.ifCond .lt 21, 3) := by decide +kernel
theorem dX1_find_53 : decode cX1_find 53 = .ok (.aload_n 0, 1) := by decide +kernel
theorem dX1_find_54 : decode cX1_find 54 = .ok (.getfield 26, 3) := by decide +kernel
theorem dX1_find_57 : decode cX1_find 57 = .ok (.lconst 0, 1) := by decide +kernel
theorem dX1_find_58 : decode cX1_find 58 = .ok (.lcmp, 1) := by decide +kernel
theorem dX1_find_59 : decode cX1_find 59 = .ok (.ifCond .lt 12, 3) := by decide +kernel
theorem dX1_find_62 : decode cX1_find 62 = .ok (.aload_n 0, 1) := by decide +kernel
theorem dX1_find_63 : decode cX1_find 63 = .ok (.iload 5, 2) := by decide +kernel
theorem dX1_find_65 : decode cX1_find 65 = .ok (.putfield 10, 3) := by decide +kernel
theorem dX1_find_68 : decode cX1_find 68 = .ok (.iload 5, 2) := by decide +kernel
theorem dX1_find_70 : decode cX1_find 70 = .ok (.ireturn, 1) := by decide +kernel
theorem dX1_find_71 : decode cX1_find 71 = .ok (.iinc 5 1, 3) := by decide +kernel
theorem dX1_find_74 : decode cX1_find 74 = .ok (.goto (-71), 3) := by decide +kernel
theorem dX1_find_77 : decode cX1_find 77 = .ok (.aload_n 0, 1) := by decide +kernel
theorem dX1_find_78 : decode cX1_find 78 = .ok (.ldc 9, 2) := by decide +kernel
theorem dX1_find_80 : decode cX1_find 80 = .ok (.putfield 10, 3) := by decide +kernel
theorem dX1_find_83 : decode cX1_find 83 = .ok (.ldc 9, 2) := by decide +kernel
theorem dX1_find_85 : decode cX1_find 85 = .ok (.ireturn, 1) := by decide +kernel
theorem dX1_share_0 : decode cX1_share 0 = .ok (.aload_n 0, 1) := by decide +kernel
theorem dX1_share_1 : decode cX1_share 1 = .ok (.getfield 33, 3) := by decide +kernel
theorem dX1_share_4 : decode cX1_share 4 = .ok (.iload_n 1, 1) := by decide +kernel
theorem dX1_share_5 : decode cX1_share 5 = .ok (.iconst 0, 1) := by decide +kernel
theorem dX1_share_6 : decode cX1_share 6 = .ok (.invokevirtual 47, 3) := by decide +kernel
theorem dX1_share_9 : decode cX1_share 9 = .ok (.istore 6, 2) := by decide +kernel
theorem dX1_share_11 : decode cX1_share 11 = .ok (.aload_n 0, 1) := by decide +kernel
theorem dX1_share_12 : decode cX1_share 12 = .ok (.getfield 33, 3) := by decide +kernel
theorem dX1_share_15 : decode cX1_share 15 = .ok (.iload_n 1, 1) := by decide +kernel
theorem dX1_share_16 : decode cX1_share 16 = .ok (.iconst 1, 1) := by decide +kernel
theorem dX1_share_17 : decode cX1_share 17 = .ok (.invokevirtual 47, 3) := by decide +kernel
theorem dX1_share_20 : decode cX1_share 20 = .ok (.istore 7, 2) := by decide +kernel
theorem dX1_share_22 : decode cX1_share 22 = .ok (.aload_n 0, 1) := by decide +kernel
theorem dX1_share_23 : decode cX1_share 23 = .ok (.getfield 33, 3) := by decide +kernel
theorem dX1_share_26 : decode cX1_share 26 = .ok (.iload_n 1, 1) := by decide +kernel
theorem dX1_share_27 : decode cX1_share 27 = .ok (.iconst 2, 1) := by decide +kernel
theorem dX1_share_28 : decode cX1_share 28 = .ok (.invokevirtual 47, 3) := by decide +kernel
theorem dX1_share_31 : decode cX1_share 31 = .ok (.istore 8, 2) := by decide +kernel
theorem dX1_share_33 : decode cX1_share 33 = .ok (.aload_n 0, 1) := by decide +kernel
theorem dX1_share_34 : decode cX1_share 34 = .ok (.getfield 29, 3) := by decide +kernel
theorem dX1_share_37 : decode cX1_share 37 = .ok (.iload 6, 2) := by decide +kernel
theorem dX1_share_39 : decode cX1_share 39 = .ok (.iload 4, 2) := by decide +kernel
theorem dX1_share_41 : decode cX1_share 41 = .ok (.iload 5, 2) := by decide +kernel
theorem dX1_share_43 : decode cX1_share 43 = .ok (.invokevirtual 51, 3) := by decide +kernel
theorem dX1_share_46 : decode cX1_share 46 = .ok (.i2l, 1) := by decide +kernel
theorem dX1_share_47 : decode cX1_share 47 = .ok (.lstore 9, 2) := by decide +kernel
theorem dX1_share_49 : decode cX1_share 49 = .ok (.aload_n 0, 1) := by decide +kernel
theorem dX1_share_50 : decode cX1_share 50 = .ok (.getfield 29, 3) := by decide +kernel
theorem dX1_share_53 : decode cX1_share 53 = .ok (.iload 6, 2) := by decide +kernel
theorem dX1_share_55 : decode cX1_share 55 = .ok (.iload 4, 2) := by decide +kernel
theorem dX1_share_57 : decode cX1_share 57 = .ok (.iload 5, 2) := by decide +kernel
theorem dX1_share_59 : decode cX1_share 59 = .ok (.invokevirtual 57, 3) := by decide +kernel
theorem dX1_share_62 : decode cX1_share 62 = .ok (.i2l, 1) := by decide +kernel
theorem dX1_share_63 : decode cX1_share 63 = .ok (.lstore 11, 2) := by decide +kernel
theorem dX1_share_65 : decode cX1_share 65 = .ok (.aload_n 0, 1) := by decide +kernel
theorem dX1_share_66 : decode cX1_share 66 = .ok (.getfield 29, 3) := by decide +kernel
theorem dX1_share_69 : decode cX1_share 69 = .ok (.iload 7, 2) := by decide +kernel
theorem dX1_share_71 : decode cX1_share 71 = .ok (.iload 4, 2) := by decide +kernel
theorem dX1_share_73 : decode cX1_share 73 = .ok (.iload 5, 2) := by decide +kernel
theorem dX1_share_75 : decode cX1_share 75 = .ok (.invokevirtual 51, 3) := by decide +kernel
theorem dX1_share_78 : decode cX1_share 78 = .ok (.i2l, 1) := by decide +kernel
theorem dX1_share_79 : decode cX1_share 79 = .ok (.lstore 13, 2) := by decide +kernel
theorem dX1_share_81 : decode cX1_share 81 = .ok (.aload_n 0, 1) := by decide +kernel
theorem dX1_share_82 : decode cX1_share 82 = .ok (.getfield 29, 3) := by decide +kernel
theorem dX1_share_85 : decode cX1_share 85 = .ok (.iload 7, 2) := by decide +kernel
theorem dX1_share_87 : decode cX1_share 87 = .ok (.iload 4, 2) := by decide +kernel
theorem dX1_share_89 : decode cX1_share 89 = .ok (.iload 5, 2) := by decide +kernel
theorem dX1_share_91 : decode cX1_share 91 = .ok (.invokevirtual 57, 3) := by decide +kernel
theorem dX1_share_94 : decode cX1_share 94 = .ok (.i2l, 1) := by decide +kernel
theorem dX1_share_95 : decode cX1_share 95 = .ok (.lstore 15, 2) := by decide +kernel
theorem dX1_share_97 : decode cX1_share 97 = .ok (.aload_n 0, 1) := by decide +kernel
theorem dX1_share_98 : decode cX1_share 98 = .ok (.getfield 29, 3) := by decide +kernel
theorem dX1_share_101 : decode cX1_share 101 = .ok (.iload 8, 2) := by decide +kernel
theorem dX1_share_103 : decode cX1_share 103 = .ok (.iload 4, 2) := by decide +kernel
theorem dX1_share_105 : decode cX1_share 105 = .ok (.iload 5, 2) := by decide +kernel
theorem dX1_share_107 : decode cX1_share 107 = .ok (.invokevirtual 51, 3) := by decide +kernel
theorem dX1_share_110 : decode cX1_share 110 = .ok (.i2l, 1) := by decide +kernel
theorem dX1_share_111 : decode cX1_share 111 = .ok (.lstore 17, 2) := by decide +kernel
theorem dX1_share_113 : decode cX1_share 113 = .ok (.aload_n 0, 1) := by decide +kernel
theorem dX1_share_114 : decode cX1_share 114 = .ok (.getfield 29, 3) := by decide +kernel
theorem dX1_share_117 : decode cX1_share 117 = .ok (.iload 8, 2) := by decide +kernel
theorem dX1_share_119 : decode cX1_share 119 = .ok (.iload 4, 2) := by decide +kernel
theorem dX1_share_121 : decode cX1_share 121 = .ok (.iload 5, 2) := by decide +kernel
theorem dX1_share_123 : decode cX1_share 123 = .ok (.invokevirtual 57, 3) := by decide +kernel
theorem dX1_share_126 : decode cX1_share 126 = .ok (.i2l, 1) := by decide +kernel
theorem dX1_share_127 : decode cX1_share 127 = .ok (.lstore 19, 2) := by decide +kernel
theorem dX1_share_129 : decode cX1_share 129 = .ok (.iload_n 2, 1) := by decide +kernel
theorem dX1_share_130 : decode cX1_share 130 = .ok (.i2l, 1) := by decide +kernel
theorem dX1_share_131 : decode cX1_share 131 = .ok (.iload 5, 2) := by decide +kernel
theorem dX1_share_133 : decode cX1_share 133 = .ok (.i2l, 1) := by decide +kernel
theorem dX1_share_134 : decode cX1_share 134 = .ok (.lmul, 1) := by decide +kernel
theorem dX1_share_135 : decode cX1_share 135 = .ok (.lstore 21, 2) := by decide +kernel
theorem dX1_share_137 : decode cX1_share 137 = .ok (.iload_n 3, 1) := by decide +kernel
theorem dX1_share_138 : decode cX1_share 138 = .ok (.i2l, 1) := by decide +kernel
theorem dX1_share_139 : decode cX1_share 139 = .ok (.iload 5, 2) := by decide +kernel
theorem dX1_share_141 : decode cX1_share 141 = .ok (.i2l, 1) := by decide +kernel
theorem dX1_share_142 : decode cX1_share 142 = .ok (.lmul, 1) := by decide +kernel
theorem dX1_share_143 : decode cX1_share 143 = .ok (.lstore 23, 2) := by decide +kernel
theorem dX1_share_145 : decode cX1_share 145 = .ok (.aload_n 0, 1) := by decide +kernel
theorem dX1_share_146 : decode cX1_share 146 = .ok (.lload 9, 2) := by decide +kernel
theorem dX1_share_148 : decode cX1_share 148 = .ok (.lload 11, 2) := by decide +kernel
theorem dX1_share_150 : decode cX1_share 150 = .ok (.lload 13, 2) := by decide +kernel
theorem dX1_share_152 : decode cX1_share 152 = .ok (.lload 15, 2) := by decide +kernel
theorem dX1_share_154 : decode cX1_share 154 = .ok (.lload 17, 2) := by decide +kernel
theorem dX1_share_156 : decode cX1_share 156 = .ok (.lload 19, 2) := by decide +kernel
theorem dX1_share_158 : decode cX1_share 158 = .ok (.invokestatic 60, 3) := by decide +kernel
theorem dX1_share_161 : decode cX1_share 161 = .ok (.putfield 16, 3) := by decide +kernel
theorem dX1_share_164 : decode cX1_share 164 = .ok (.aload_n 0, 1) := by decide +kernel
theorem dX1_share_165 : decode cX1_share 165 = .ok (.lload 21, 2) := by decide +kernel
theorem dX1_share_167 : decode cX1_share 167 = .ok (.lload 23, 2) := by decide +kernel
theorem dX1_share_169 : decode cX1_share 169 = .ok (.lload 13, 2) := by decide +kernel
theorem dX1_share_171 : decode cX1_share 171 = .ok (.lload 15, 2) := by decide +kernel
theorem dX1_share_173 : decode cX1_share 173 = .ok (.lload 17, 2) := by decide +kernel
theorem dX1_share_175 : decode cX1_share 175 = .ok (.lload 19, 2) := by decide +kernel
theorem dX1_share_177 : decode cX1_share 177 = .ok (.invokestatic 60, 3) := by decide +kernel
theorem dX1_share_180 : decode cX1_share 180 = .ok (.putfield 20, 3) := by decide +kernel
theorem dX1_share_183 : decode cX1_share 183 = .ok (.aload_n 0, 1) := by decide +kernel
theorem dX1_share_184 : decode cX1_share 184 = .ok (.lload 9, 2) := by decide +kernel
theorem dX1_share_186 : decode cX1_share 186 = .ok (.lload 11, 2) := by decide +kernel
theorem dX1_share_188 : decode cX1_share 188 = .ok (.lload 21, 2) := by decide +kernel
theorem dX1_share_190 : decode cX1_share 190 = .ok (.lload 23, 2) := by decide +kernel
theorem dX1_share_192 : decode cX1_share 192 = .ok (.lload 17, 2) := by decide +kernel
theorem dX1_share_194 : decode cX1_share 194 = .ok (.lload 19, 2) := by decide +kernel
theorem dX1_share_196 : decode cX1_share 196 = .ok (.invokestatic 60, 3) := by decide +kernel
theorem dX1_share_199 : decode cX1_share 199 = .ok (.putfield 23, 3) := by decide +kernel
theorem dX1_share_202 : decode cX1_share 202 = .ok (.aload_n 0, 1) := by decide +kernel
theorem dX1_share_203 : decode cX1_share 203 = .ok (.lload 9, 2) := by decide +kernel
theorem dX1_share_205 : decode cX1_share 205 = .ok (.lload 11, 2) := by decide +kernel
theorem dX1_share_207 : decode cX1_share 207 = .ok (.lload 13, 2) := by decide +kernel
theorem dX1_share_209 : decode cX1_share 209 = .ok (.lload 15, 2) := by decide +kernel
theorem dX1_share_211 : decode cX1_share 211 = .ok (.lload 21, 2) := by decide +kernel
theorem dX1_share_213 : decode cX1_share 213 = .ok (.lload 23, 2) := by decide +kernel
theorem dX1_share_215 : decode cX1_share 215 = .ok (.invokestatic 60, 3) := by decide +kernel
theorem dX1_share_218 : decode cX1_share 218 = .ok (.putfield 26, 3) := by decide +kernel
theorem dX1_share_221 : decode cX1_share 221 = .ok (.return_, 1) := by decide +kernel
theorem dX1_originX_0 : decode cX1_originX 0 = .ok (.aload_n 0, 1) := by decide +kernel
theorem dX1_originX_1 : decode cX1_originX 1 = .ok (.getfield 10, 3) := by decide +kernel
theorem dX1_originX_4 : decode cX1_originX 4 = .ok (.ldc 9, 2) := by decide +kernel
theorem dX1_originX_6 : decode cX1_originX 6 = .ok (.if_icmp .eq 12, 3) := by decide +kernel
theorem dX1_originX_9 : decode cX1_originX 9 = .ok (.aload_n 0, 1) := by decide +kernel
theorem dX1_originX_10 : decode cX1_originX 10 = .ok (.getfield 16, 3) := by decide +kernel
theorem dX1_originX_13 : decode cX1_originX 13 = .ok (.lconst 0, 1) := by decide +kernel
theorem dX1_originX_14 : decode cX1_originX 14 = .ok (.lcmp, 1) := by decide +kernel
theorem dX1_originX_15 : decode cX1_originX 15 = .ok (.ifCond .gt 6, 3) := by decide +kernel
theorem dX1_originX_18 : decode cX1_originX 18 = .ok (.ldc 9, 2) := by decide +kernel
theorem dX1_originX_20 : decode cX1_originX 20 = .ok (.ireturn, 1) := by decide +kernel
theorem dX1_originX_21 : decode cX1_originX 21 = .ok (.aload_n 0, 1) := by decide +kernel
theorem dX1_originX_22 : decode cX1_originX 22 = .ok (.getfield 20, 3) := by decide +kernel
theorem dX1_originX_25 : decode cX1_originX 25 = .ok (.aload_n 0, 1) := by decide +kernel
theorem dX1_originX_26 : decode cX1_originX 26 = .ok (.getfield 29, 3) := by decide +kernel
theorem dX1_originX_29 : decode cX1_originX 29 = .ok (.aload_n 0, 1) := by decide +kernel
theorem dX1_originX_30 : decode cX1_originX 30 = .ok (.getfield 33, 3) := by decide +kernel
theorem dX1_originX_33 : decode cX1_originX 33 = .ok (.aload_n 0, 1) := by decide +kernel
theorem dX1_originX_34 : decode cX1_originX 34 = .ok (.getfield 10, 3) := by decide +kernel
theorem dX1_originX_37 : decode cX1_originX 37 = .ok (.iconst 0, 1) := by decide +kernel
theorem dX1_originX_38 : decode cX1_originX 38 = .ok (.invokevirtual 47, 3) := by decide +kernel
theorem dX1_originX_41 : decode cX1_originX 41 = .ok (.iload_n 1, 1) := by decide +kernel
theorem dX1_originX_42 : decode cX1_originX 42 = .ok (.invokevirtual 63, 3) := by decide +kernel
theorem dX1_originX_45 : decode cX1_originX 45 = .ok (.i2l, 1) := by decide +kernel
theorem dX1_originX_46 : decode cX1_originX 46 = .ok (.lmul, 1) := by decide +kernel
theorem dX1_originX_47 : decode cX1_originX 47 = .ok (.aload_n 0, 1) := by decide +kernel
theorem dX1_originX_48 : decode cX1_originX 48 = .ok (.getfield 23, 3) := by decide +kernel
theorem dX1_originX_51 : decode cX1_originX 51 = .ok (.aload_n 0, 1) := by decide +kernel
theorem dX1_originX_52 : decode cX1_originX 52 = .ok (.getfield 29, 3) := by decide +kernel
theorem dX1_originX_55 : decode cX1_originX 55 = .ok (.aload_n 0, 1) := by decide +kernel
theorem dX1_originX_56 : decode cX1_originX 56 = .ok (.getfield 33, 3) := by decide +kernel
theorem dX1_originX_59 : decode cX1_originX 59 = .ok (.aload_n 0, 1) := by decide +kernel
theorem dX1_originX_60 : decode cX1_originX 60 = .ok (.getfield 10, 3) := by decide +kernel
theorem dX1_originX_63 : decode cX1_originX 63 = .ok (.iconst 1, 1) := by decide +kernel
theorem dX1_originX_64 : decode cX1_originX 64 = .ok (.invokevirtual 47, 3) := by decide +kernel
theorem dX1_originX_67 : decode cX1_originX 67 = .ok (.iload_n 1, 1) := by decide +kernel
theorem dX1_originX_68 : decode cX1_originX 68 = .ok (.invokevirtual 63, 3) := by decide +kernel
theorem dX1_originX_71 : decode cX1_originX 71 = .ok (.i2l, 1) := by decide +kernel
theorem dX1_originX_72 : decode cX1_originX 72 = .ok (.lmul, 1) := by decide +kernel
theorem dX1_originX_73 : decode cX1_originX 73 = .ok (.ladd, 1) := by decide +kernel
theorem dX1_originX_74 : decode cX1_originX 74 = .ok (.aload_n 0, 1) := by decide +kernel
theorem dX1_originX_75 : decode cX1_originX 75 = .ok (.getfield 26, 3) := by decide +kernel
theorem dX1_originX_78 : decode cX1_originX 78 = .ok (.aload_n 0, 1) := by decide +kernel
theorem dX1_originX_79 : decode cX1_originX 79 = .ok (.getfield 29, 3) := by decide +kernel
theorem dX1_originX_82 : decode cX1_originX 82 = .ok (.aload_n 0, 1) := by decide +kernel
theorem dX1_originX_83 : decode cX1_originX 83 = .ok (.getfield 33, 3) := by decide +kernel
theorem dX1_originX_86 : decode cX1_originX 86 = .ok (.aload_n 0, 1) := by decide +kernel
theorem dX1_originX_87 : decode cX1_originX 87 = .ok (.getfield 10, 3) := by decide +kernel
theorem dX1_originX_90 : decode cX1_originX 90 = .ok (.iconst 2, 1) := by decide +kernel
theorem dX1_originX_91 : decode cX1_originX 91 = .ok (.invokevirtual 47, 3) := by decide +kernel
theorem dX1_originX_94 : decode cX1_originX 94 = .ok (.iload_n 1, 1) := by decide +kernel
theorem dX1_originX_95 : decode cX1_originX 95 = .ok (.invokevirtual 63, 3) := by decide +kernel
theorem dX1_originX_98 : decode cX1_originX 98 = .ok (.i2l, 1) := by decide +kernel
theorem dX1_originX_99 : decode cX1_originX 99 = .ok (.lmul, 1) := by decide +kernel
theorem dX1_originX_100 : decode cX1_originX 100 = .ok (.ladd, 1) := by decide +kernel
theorem dX1_originX_101 : decode cX1_originX 101 = .ok (.aload_n 0, 1) := by decide +kernel
theorem dX1_originX_102 : decode cX1_originX 102 = .ok (.getfield 16, 3) := by decide +kernel
theorem dX1_originX_105 : decode cX1_originX 105 = .ok (.ldiv, 1) := by decide +kernel
theorem dX1_originX_106 : decode cX1_originX 106 = .ok (.l2i, 1) := by decide +kernel
theorem dX1_originX_107 : decode cX1_originX 107 = .ok (.ireturn, 1) := by decide +kernel
theorem dX1_originY_0 : decode cX1_originY 0 = .ok (.aload_n 0, 1) := by decide +kernel
theorem dX1_originY_1 : decode cX1_originY 1 = .ok (.getfield 10, 3) := by decide +kernel
theorem dX1_originY_4 : decode cX1_originY 4 = .ok (.ldc 9, 2) := by decide +kernel
theorem dX1_originY_6 : decode cX1_originY 6 = .ok (.if_icmp .eq 12, 3) := by decide +kernel
theorem dX1_originY_9 : decode cX1_originY 9 = .ok (.aload_n 0, 1) := by decide +kernel
theorem dX1_originY_10 : decode cX1_originY 10 = .ok (.getfield 16, 3) := by decide +kernel
theorem dX1_originY_13 : decode cX1_originY 13 = .ok (.lconst 0, 1) := by decide +kernel
theorem dX1_originY_14 : decode cX1_originY 14 = .ok (.lcmp, 1) := by decide +kernel
theorem dX1_originY_15 : decode cX1_originY 15 = .ok (.ifCond .gt 6, 3) := by decide +kernel
theorem dX1_originY_18 : decode cX1_originY 18 = .ok (.ldc 9, 2) := by decide +kernel
theorem dX1_originY_20 : decode cX1_originY 20 = .ok (.ireturn, 1) := by decide +kernel
theorem dX1_originY_21 : decode cX1_originY 21 = .ok (.aload_n 0, 1) := by decide +kernel
theorem dX1_originY_22 : decode cX1_originY 22 = .ok (.getfield 20, 3) := by decide +kernel
theorem dX1_originY_25 : decode cX1_originY 25 = .ok (.aload_n 0, 1) := by decide +kernel
theorem dX1_originY_26 : decode cX1_originY 26 = .ok (.getfield 29, 3) := by decide +kernel
theorem dX1_originY_29 : decode cX1_originY 29 = .ok (.aload_n 0, 1) := by decide +kernel
theorem dX1_originY_30 : decode cX1_originY 30 = .ok (.getfield 33, 3) := by decide +kernel
theorem dX1_originY_33 : decode cX1_originY 33 = .ok (.aload_n 0, 1) := by decide +kernel
theorem dX1_originY_34 : decode cX1_originY 34 = .ok (.getfield 10, 3) := by decide +kernel
theorem dX1_originY_37 : decode cX1_originY 37 = .ok (.iconst 0, 1) := by decide +kernel
theorem dX1_originY_38 : decode cX1_originY 38 = .ok (.invokevirtual 47, 3) := by decide +kernel
theorem dX1_originY_41 : decode cX1_originY 41 = .ok (.iload_n 1, 1) := by decide +kernel
theorem dX1_originY_42 : decode cX1_originY 42 = .ok (.invokevirtual 66, 3) := by decide +kernel
theorem dX1_originY_45 : decode cX1_originY 45 = .ok (.i2l, 1) := by decide +kernel
theorem dX1_originY_46 : decode cX1_originY 46 = .ok (.lmul, 1) := by decide +kernel
theorem dX1_originY_47 : decode cX1_originY 47 = .ok (.aload_n 0, 1) := by decide +kernel
theorem dX1_originY_48 : decode cX1_originY 48 = .ok (.getfield 23, 3) := by decide +kernel
theorem dX1_originY_51 : decode cX1_originY 51 = .ok (.aload_n 0, 1) := by decide +kernel
theorem dX1_originY_52 : decode cX1_originY 52 = .ok (.getfield 29, 3) := by decide +kernel
theorem dX1_originY_55 : decode cX1_originY 55 = .ok (.aload_n 0, 1) := by decide +kernel
theorem dX1_originY_56 : decode cX1_originY 56 = .ok (.getfield 33, 3) := by decide +kernel
theorem dX1_originY_59 : decode cX1_originY 59 = .ok (.aload_n 0, 1) := by decide +kernel
theorem dX1_originY_60 : decode cX1_originY 60 = .ok (.getfield 10, 3) := by decide +kernel
theorem dX1_originY_63 : decode cX1_originY 63 = .ok (.iconst 1, 1) := by decide +kernel
theorem dX1_originY_64 : decode cX1_originY 64 = .ok (.invokevirtual 47, 3) := by decide +kernel
theorem dX1_originY_67 : decode cX1_originY 67 = .ok (.iload_n 1, 1) := by decide +kernel
theorem dX1_originY_68 : decode cX1_originY 68 = .ok (.invokevirtual 66, 3) := by decide +kernel
theorem dX1_originY_71 : decode cX1_originY 71 = .ok (.i2l, 1) := by decide +kernel
theorem dX1_originY_72 : decode cX1_originY 72 = .ok (.lmul, 1) := by decide +kernel
theorem dX1_originY_73 : decode cX1_originY 73 = .ok (.ladd, 1) := by decide +kernel
theorem dX1_originY_74 : decode cX1_originY 74 = .ok (.aload_n 0, 1) := by decide +kernel
theorem dX1_originY_75 : decode cX1_originY 75 = .ok (.getfield 26, 3) := by decide +kernel
theorem dX1_originY_78 : decode cX1_originY 78 = .ok (.aload_n 0, 1) := by decide +kernel
theorem dX1_originY_79 : decode cX1_originY 79 = .ok (.getfield 29, 3) := by decide +kernel
theorem dX1_originY_82 : decode cX1_originY 82 = .ok (.aload_n 0, 1) := by decide +kernel
theorem dX1_originY_83 : decode cX1_originY 83 = .ok (.getfield 33, 3) := by decide +kernel
theorem dX1_originY_86 : decode cX1_originY 86 = .ok (.aload_n 0, 1) := by decide +kernel
theorem dX1_originY_87 : decode cX1_originY 87 = .ok (.getfield 10, 3) := by decide +kernel
theorem dX1_originY_90 : decode cX1_originY 90 = .ok (.iconst 2, 1) := by decide +kernel
theorem dX1_originY_91 : decode cX1_originY 91 = .ok (.invokevirtual 47, 3) := by decide +kernel
theorem dX1_originY_94 : decode cX1_originY 94 = .ok (.iload_n 1, 1) := by decide +kernel
theorem dX1_originY_95 : decode cX1_originY 95 = .ok (.invokevirtual 66, 3) := by decide +kernel
theorem dX1_originY_98 : decode cX1_originY 98 = .ok (.i2l, 1) := by decide +kernel
theorem dX1_originY_99 : decode cX1_originY 99 = .ok (.lmul, 1) := by decide +kernel
theorem dX1_originY_100 : decode cX1_originY 100 = .ok (.ladd, 1) := by decide +kernel
theorem dX1_originY_101 : decode cX1_originY 101 = .ok (.aload_n 0, 1) := by decide +kernel
theorem dX1_originY_102 : decode cX1_originY 102 = .ok (.getfield 16, 3) := by decide +kernel
theorem dX1_originY_105 : decode cX1_originY 105 = .ok (.ldiv, 1) := by decide +kernel
theorem dX1_originY_106 : decode cX1_originY 106 = .ok (.l2i, 1) := by decide +kernel
theorem dX1_originY_107 : decode cX1_originY 107 = .ok (.ireturn, 1) := by decide +kernel
theorem dX2_init_0 : decode cX2_init 0 = .ok (.aload_n 0, 1) := by decide +kernel
theorem dX2_init_1 : decode cX2_init 1 = .ok (.invokespecial 1, 3) := by decide +kernel
theorem dX2_init_4 : decode cX2_init 4 = .ok (.aload_n 0, 1) := by decide +kernel
theorem dX2_init_5 : decode cX2_init 5 = .ok (.iconst 0, 1) := by decide +kernel
theorem dX2_init_6 : decode cX2_init 6 = .ok (.putfield 7, 3) := by decide +kernel
theorem dX2_init_9 : decode cX2_init 9 = .ok (.aload_n 0, 1) := by decide +kernel
theorem dX2_init_10 : decode cX2_init 10 = .ok (.bipush 6, 2) := by decide +kernel
theorem dX2_init_12 : decode cX2_init 12 = .ok (.newarray .int, 2) := by decide +kernel
theorem dX2_init_14 : decode cX2_init 14 = .ok (.putfield 13, 3) := by decide +kernel
theorem dX2_init_17 : decode cX2_init 17 = .ok (.aload_n 0, 1) := by decide +kernel
theorem dX2_init_18 : decode cX2_init 18 = .ok (.bipush 6, 2) := by decide +kernel
theorem dX2_init_20 : decode cX2_init 20 = .ok (.newarray .int, 2) := by decide +kernel
theorem dX2_init_22 : decode cX2_init 22 = .ok (.putfield 17, 3) := by decide +kernel
theorem dX2_init_25 : decode cX2_init 25 = .ok (.return_, 1) := by decide +kernel
theorem dX2_many_0 : decode cX2_many 0 = .ok (.aload_n 0, 1) := by decide +kernel
theorem dX2_many_1 : decode cX2_many 1 = .ok (.getfield 7, 3) := by decide +kernel
theorem dX2_many_4 : decode cX2_many 4 = .ok (.ireturn, 1) := by decide +kernel
theorem dX2_isFull_0 : decode cX2_isFull 0 = .ok (.aload_n 0, 1) := by decide +kernel
theorem dX2_isFull_1 : decode cX2_isFull 1 = .ok (.getfield 7, 3) := by decide +kernel
theorem dX2_isFull_4 : decode cX2_isFull 4 = .ok (.bipush 6, 2) := by decide +kernel
theorem dX2_isFull_6 : decode cX2_isFull 6 = .ok (.if_icmp .lt 7, 3) := by decide +kernel
theorem dX2_isFull_9 : decode cX2_isFull 9 = .ok (.iconst 1, 1) := by decide +kernel
theorem dX2_isFull_10 : decode cX2_isFull 10 = .ok (.goto 4, 3) := by decide +kernel
theorem dX2_isFull_13 : decode cX2_isFull 13 = .ok (.iconst 0, 1) := by decide +kernel
theorem dX2_isFull_14 : decode cX2_isFull 14 = .ok (.ireturn, 1) := by decide +kernel
theorem dX2_rises_0 : decode cX2_rises 0 = .ok (.aload_n 0, 1) := by decide +kernel
theorem dX2_rises_1 : decode cX2_rises 1 = .ok (.getfield 7, 3) := by decide +kernel
theorem dX2_rises_4 : decode cX2_rises 4 = .ok (.ifCond .eq 33, 3) := by decide +kernel
theorem dX2_rises_7 : decode cX2_rises 7 = .ok (.iload_n 1, 1) := by decide +kernel
theorem dX2_rises_8 : decode cX2_rises 8 = .ok (.aload_n 0, 1) := by decide +kernel
theorem dX2_rises_9 : decode cX2_rises 9 = .ok (.getfield 13, 3) := by decide +kernel
theorem dX2_rises_12 : decode cX2_rises 12 = .ok (.aload_n 0, 1) := by decide +kernel
theorem dX2_rises_13 : decode cX2_rises 13 = .ok (.getfield 7, 3) := by decide +kernel
theorem dX2_rises_16 : decode cX2_rises 16 = .ok (.iconst 1, 1) := by decide +kernel
theorem dX2_rises_17 : decode cX2_rises 17 = .ok (.isub, 1) := by decide +kernel
theorem dX2_rises_18 : decode cX2_rises 18 = .ok (.iaload, 1) := by decide +kernel
theorem dX2_rises_19 : decode cX2_rises 19 = .ok (.if_icmp .le 22, 3) := by decide +kernel
theorem dX2_rises_22 : decode cX2_rises 22 = .ok (.iload_n 2, 1) := by decide +kernel
theorem dX2_rises_23 : decode cX2_rises 23 = .ok (.aload_n 0, 1) := by decide +kernel
theorem dX2_rises_24 : decode cX2_rises 24 = .ok (.getfield 17, 3) := by decide +kernel
theorem dX2_rises_27 : decode cX2_rises 27 = .ok (.aload_n 0, 1) := by decide +kernel
theorem dX2_rises_28 : decode cX2_rises 28 = .ok (.getfield 7, 3) := by decide +kernel
theorem dX2_rises_31 : decode cX2_rises 31 = .ok (.iconst 1, 1) := by decide +kernel
theorem dX2_rises_32 : decode cX2_rises 32 = .ok (.isub, 1) := by decide +kernel
theorem dX2_rises_33 : decode cX2_rises 33 = .ok (.iaload, 1) := by decide +kernel
theorem dX2_rises_34 : decode cX2_rises 34 = .ok (.if_icmp .lt 7, 3) := by decide +kernel
theorem dX2_rises_37 : decode cX2_rises 37 = .ok (.iconst 1, 1) := by decide +kernel
theorem dX2_rises_38 : decode cX2_rises 38 = .ok (.goto 4, 3) := by decide +kernel
theorem dX2_rises_41 : decode cX2_rises 41 = .ok (.iconst 0, 1) := by decide +kernel
theorem dX2_rises_42 : decode cX2_rises 42 = .ok (.ireturn, 1) := by decide +kernel
theorem dX2_add_0 : decode cX2_add 0 = .ok (.aload_n 0, 1) := by decide +kernel
theorem dX2_add_1 : decode cX2_add 1 = .ok (.getfield 13, 3) := by decide +kernel
theorem dX2_add_4 : decode cX2_add 4 = .ok (.aload_n 0, 1) := by decide +kernel
theorem dX2_add_5 : decode cX2_add 5 = .ok (.getfield 7, 3) := by decide +kernel
theorem dX2_add_8 : decode cX2_add 8 = .ok (.iload_n 1, 1) := by decide +kernel
theorem dX2_add_9 : decode cX2_add 9 = .ok (.iastore, 1) := by decide +kernel
theorem dX2_add_10 : decode cX2_add 10 = .ok (.aload_n 0, 1) := by decide +kernel
theorem dX2_add_11 : decode cX2_add 11 = .ok (.getfield 17, 3) := by decide +kernel
theorem dX2_add_14 : decode cX2_add 14 = .ok (.aload_n 0, 1) := by decide +kernel
theorem dX2_add_15 : decode cX2_add 15 = .ok (.getfield 7, 3) := by decide +kernel
theorem dX2_add_18 : decode cX2_add 18 = .ok (.iload_n 2, 1) := by decide +kernel
theorem dX2_add_19 : decode cX2_add 19 = .ok (.iastore, 1) := by decide +kernel
theorem dX2_add_20 : decode cX2_add 20 = .ok (.aload_n 0, 1) := by decide +kernel
theorem dX2_add_21 : decode cX2_add 21 = .ok (.dup, 1) := by decide +kernel
theorem dX2_add_22 : decode cX2_add 22 = .ok (.getfield 7, 3) := by decide +kernel
theorem dX2_add_25 : decode cX2_add 25 = .ok (.iconst 1, 1) := by decide +kernel
theorem dX2_add_26 : decode cX2_add 26 = .ok (.iadd, 1) := by decide +kernel
theorem dX2_add_27 : decode cX2_add 27 = .ok (.putfield 7, 3) := by decide +kernel
theorem dX2_add_30 : decode cX2_add 30 = .ok (.aload_n 0, 1) := by decide +kernel
theorem dX2_add_31 : decode cX2_add 31 = .ok (.getfield 7, 3) := by decide +kernel
theorem dX2_add_34 : decode cX2_add 34 = .ok (.ireturn, 1) := by decide +kernel
theorem dX2_takeAway_0 : decode cX2_takeAway 0 = .ok (.aload_n 0, 1) := by decide +kernel
theorem dX2_takeAway_1 : decode cX2_takeAway 1 = .ok (.getfield 7, 3) := by decide +kernel
theorem dX2_takeAway_4 : decode cX2_takeAway 4 = .ok (.istore_n 1, 1) := by decide +kernel
theorem dX2_takeAway_5 : decode cX2_takeAway 5 = .ok (.aload_n 0, 1) := by decide +kernel
theorem dX2_takeAway_6 : decode cX2_takeAway 6 = .ok (.iconst 0, 1) := by decide +kernel
theorem dX2_takeAway_7 : decode cX2_takeAway 7 = .ok (.putfield 7, 3) := by decide +kernel
theorem dX2_takeAway_10 : decode cX2_takeAway 10 = .ok (.iload_n 1, 1) := by decide +kernel
theorem dX2_takeAway_11 : decode cX2_takeAway 11 = .ok (.ireturn, 1) := by decide +kernel
theorem dX2_shareAt_0 : decode cX2_shareAt 0 = .ok (.aload_n 0, 1) := by decide +kernel
theorem dX2_shareAt_1 : decode cX2_shareAt 1 = .ok (.getfield 7, 3) := by decide +kernel
theorem dX2_shareAt_4 : decode cX2_shareAt 4 = .ok (.ifCond .ne 5, 3) := by decide +kernel
theorem dX2_shareAt_7 : decode cX2_shareAt 7 = .ok (.iload_n 1, 1) := by decide +kernel
theorem dX2_shareAt_8 : decode cX2_shareAt 8 = .ok (.ireturn, 1) := by decide +kernel
theorem dX2_shareAt_9 : decode cX2_shareAt 9 = .ok (.iload_n 1, 1) := by decide +kernel
theorem dX2_shareAt_10 : decode cX2_shareAt 10 = .ok (.aload_n 0, 1) := by decide +kernel
theorem dX2_shareAt_11 : decode cX2_shareAt 11 = .ok (.getfield 13, 3) := by decide +kernel
theorem dX2_shareAt_14 : decode cX2_shareAt 14 = .ok (.iconst 0, 1) := by decide +kernel
theorem dX2_shareAt_15 : decode cX2_shareAt 15 = .ok (.iaload, 1) := by decide +kernel
theorem dX2_shareAt_16 : decode cX2_shareAt 16 = .ok (.if_icmp .ge 10, 3) := by decide +kernel
theorem dX2_shareAt_19 : decode cX2_shareAt 19 = .ok (.aload_n 0, 1) := by decide +kernel
theorem dX2_shareAt_20 : decode cX2_shareAt 20 = .ok (.getfield 17, 3) := by decide +kernel
theorem dX2_shareAt_23 : decode cX2_shareAt 23 = .ok (.iconst 0, 1) := by decide +kernel
theorem dX2_shareAt_24 : decode cX2_shareAt 24 = .ok (.iaload, 1) := by decide +kernel
theorem dX2_shareAt_25 : decode cX2_shareAt 25 = .ok (.ireturn, 1) := by decide +kernel
theorem dX2_shareAt_26 : decode cX2_shareAt 26 = .ok (.iconst 1, 1) := by decide +kernel
theorem dX2_shareAt_27 : decode cX2_shareAt 27 = .ok (.istore_n 2, 1) := by decide +kernel
theorem dX2_shareAt_28 : decode cX2_shareAt 28 = .ok (.iload_n 2, 1) := by decide +kernel
theorem dX2_shareAt_29 : decode cX2_shareAt 29 = .ok (.aload_n 0, 1) := by decide +kernel
theorem dX2_shareAt_30 : decode cX2_shareAt 30 = .ok (.getfield 7, 3) := by decide +kernel
theorem dX2_shareAt_33 : decode cX2_shareAt 33 = .ok (.if_icmp .ge 29, 3) := by decide +kernel
theorem dX2_shareAt_36 : decode cX2_shareAt 36 = .ok (.iload_n 1, 1) := by decide +kernel
theorem dX2_shareAt_37 : decode cX2_shareAt 37 = .ok (.aload_n 0, 1) := by decide +kernel
theorem dX2_shareAt_38 : decode cX2_shareAt 38 = .ok (.getfield 13, 3) := by decide +kernel
theorem dX2_shareAt_41 : decode cX2_shareAt 41 = .ok (.iload_n 2, 1) := by decide +kernel
theorem dX2_shareAt_42 : decode cX2_shareAt 42 = .ok (.iaload, 1) := by decide +kernel
theorem dX2_shareAt_43 : decode cX2_shareAt 43 = .ok (.if_icmp .ge 13, 3) := by decide +kernel
theorem dX2_shareAt_46 : decode cX2_shareAt 46 = .ok (.aload_n 0, 1) := by decide +kernel
theorem dX2_shareAt_47 : decode cX2_shareAt 47 = .ok (.iload_n 2, 1) := by decide +kernel
theorem dX2_shareAt_48 : decode cX2_shareAt 48 = .ok (.iconst 1, 1) := by decide +kernel
theorem dX2_shareAt_49 : decode cX2_shareAt 49 = .ok (.isub, 1) := by decide +kernel
theorem dX2_shareAt_50 : decode cX2_shareAt 50 = .ok (.iload_n 2, 1) := by decide +kernel
theorem dX2_shareAt_51 : decode cX2_shareAt 51 = .ok (.iload_n 1, 1) := by decide +kernel
theorem dX2_shareAt_52 : decode cX2_shareAt 52 = .ok (.invokevirtual 20, 3) := by decide +kernel
theorem dX2_shareAt_55 : decode cX2_shareAt 55 = .ok (.ireturn, 1) := by decide +kernel
theorem dX2_shareAt_56 : decode cX2_shareAt 56 = .ok (.iinc 2 1, 3) := by decide +kernel
theorem dX2_shareAt_59 : decode cX2_shareAt 59 = .ok (.goto (-31), 3) := by decide +kernel
theorem dX2_shareAt_62 : decode cX2_shareAt 62 = .ok (.aload_n 0, 1) := by decide +kernel
theorem dX2_shareAt_63 : decode cX2_shareAt 63 = .ok (.getfield 17, 3) := by decide +kernel
theorem dX2_shareAt_66 : decode cX2_shareAt 66 = .ok (.aload_n 0, 1) := by decide +kernel
theorem dX2_shareAt_67 : decode cX2_shareAt 67 = .ok (.getfield 7, 3) := by decide +kernel
theorem dX2_shareAt_70 : decode cX2_shareAt 70 = .ok (.iconst 1, 1) := by decide +kernel
theorem dX2_shareAt_71 : decode cX2_shareAt 71 = .ok (.isub, 1) := by decide +kernel
theorem dX2_shareAt_72 : decode cX2_shareAt 72 = .ok (.iaload, 1) := by decide +kernel
theorem dX2_shareAt_73 : decode cX2_shareAt 73 = .ok (.ireturn, 1) := by decide +kernel
theorem dX2_shareBetween_0 : decode cX2_shareBetween 0 = .ok (.aload_n 0, 1) := by decide +kernel
theorem dX2_shareBetween_1 : decode cX2_shareBetween 1 = .ok (.getfield 17, 3) := by decide +kernel
theorem dX2_shareBetween_4 : decode cX2_shareBetween 4 = .ok (.iload_n 2, 1) := by decide +kernel
theorem dX2_shareBetween_5 : decode cX2_shareBetween 5 = .ok (.iaload, 1) := by decide +kernel
theorem dX2_shareBetween_6 : decode cX2_shareBetween 6 = .ok (.aload_n 0, 1) := by decide +kernel
theorem dX2_shareBetween_7 : decode cX2_shareBetween 7 = .ok (.getfield 17, 3) := by decide +kernel
theorem dX2_shareBetween_10 : decode cX2_shareBetween 10 = .ok (.iload_n 1, 1) := by decide +kernel
theorem dX2_shareBetween_11 : decode cX2_shareBetween 11 = .ok (.iaload, 1) := by decide +kernel
theorem dX2_shareBetween_12 : decode cX2_shareBetween 12 = .ok (.isub, 1) := by decide +kernel
theorem dX2_shareBetween_13 : decode cX2_shareBetween 13 = .ok (.istore 4, 2) := by decide +kernel
theorem dX2_shareBetween_15 : decode cX2_shareBetween 15 = .ok (.aload_n 0, 1) := by decide +kernel
theorem dX2_shareBetween_16 : decode cX2_shareBetween 16 = .ok (.getfield 17, 3) := by decide +kernel
theorem dX2_shareBetween_19 : decode cX2_shareBetween 19 = .ok (.iload_n 1, 1) := by decide +kernel
theorem dX2_shareBetween_20 : decode cX2_shareBetween 20 = .ok (.iaload, 1) := by decide +kernel
theorem dX2_shareBetween_21 : decode cX2_shareBetween 21 = .ok (.iload 4, 2) := by decide +kernel
theorem dX2_shareBetween_23 : decode cX2_shareBetween 23 = .ok (.iload_n 3, 1) := by decide +kernel
theorem dX2_shareBetween_24 : decode cX2_shareBetween 24 = .ok (.aload_n 0, 1) := by decide +kernel
theorem dX2_shareBetween_25 : decode cX2_shareBetween 25 = .ok (.getfield 13, 3) := by decide +kernel
theorem dX2_shareBetween_28 : decode cX2_shareBetween 28 = .ok (.iload_n 1, 1) := by decide +kernel
theorem dX2_shareBetween_29 : decode cX2_shareBetween 29 = .ok (.iaload, 1) := by decide +kernel
theorem dX2_shareBetween_30 : decode cX2_shareBetween 30 = .ok (.isub, 1) := by decide +kernel
theorem dX2_shareBetween_31 : decode cX2_shareBetween 31 = .ok (.imul, 1) := by decide +kernel
theorem dX2_shareBetween_32 : decode cX2_shareBetween 32 = .ok (.aload_n 0, 1) := by decide +kernel
theorem dX2_shareBetween_33 : decode cX2_shareBetween 33 = .ok (.getfield 13, 3) := by decide +kernel
theorem dX2_shareBetween_36 : decode cX2_shareBetween 36 = .ok (.iload_n 2, 1) := by decide +kernel
theorem dX2_shareBetween_37 : decode cX2_shareBetween 37 = .ok (.iaload, 1) := by decide +kernel
theorem dX2_shareBetween_38 : decode cX2_shareBetween 38 = .ok (.aload_n 0, 1) := by decide +kernel
theorem dX2_shareBetween_39 : decode cX2_shareBetween 39 = .ok (.getfield 13, 3) := by decide +kernel
theorem dX2_shareBetween_42 : decode cX2_shareBetween 42 = .ok (.iload_n 1, 1) := by decide +kernel
theorem dX2_shareBetween_43 : decode cX2_shareBetween 43 = .ok (.iaload, 1) := by decide +kernel
theorem dX2_shareBetween_44 : decode cX2_shareBetween 44 = .ok (.isub, 1) := by decide +kernel
theorem dX2_shareBetween_45 : decode cX2_shareBetween 45 = .ok (.idiv, 1) := by decide +kernel
theorem dX2_shareBetween_46 : decode cX2_shareBetween 46 = .ok (.iadd, 1) := by decide +kernel
theorem dX2_shareBetween_47 : decode cX2_shareBetween 47 = .ok (.ireturn, 1) := by decide +kernel
theorem dX3_init_0 : decode cX3_init 0 = .ok (.aload_n 0, 1) := by decide +kernel
theorem dX3_init_1 : decode cX3_init 1 = .ok (.invokespecial 1, 3) := by decide +kernel
theorem dX3_init_4 : decode cX3_init 4 = .ok (.aload_n 0, 1) := by decide +kernel
theorem dX3_init_5 : decode cX3_init 5 = .ok (.iconst 0, 1) := by decide +kernel
theorem dX3_init_6 : decode cX3_init 6 = .ok (.putfield 7, 3) := by decide +kernel
theorem dX3_init_9 : decode cX3_init 9 = .ok (.aload_n 0, 1) := by decide +kernel
theorem dX3_init_10 : decode cX3_init 10 = .ok (.bipush 32, 2) := by decide +kernel
theorem dX3_init_12 : decode cX3_init 12 = .ok (.newarray .int, 2) := by decide +kernel
theorem dX3_init_14 : decode cX3_init 14 = .ok (.putfield 13, 3) := by decide +kernel
theorem dX3_init_17 : decode cX3_init 17 = .ok (.aload_n 0, 1) := by decide +kernel
theorem dX3_init_18 : decode cX3_init 18 = .ok (.bipush 32, 2) := by decide +kernel
theorem dX3_init_20 : decode cX3_init 20 = .ok (.newarray .int, 2) := by decide +kernel
theorem dX3_init_22 : decode cX3_init 22 = .ok (.putfield 17, 3) := by decide +kernel
theorem dX3_init_25 : decode cX3_init 25 = .ok (.return_, 1) := by decide +kernel
theorem dX3_many_0 : decode cX3_many 0 = .ok (.aload_n 0, 1) := by decide +kernel
theorem dX3_many_1 : decode cX3_many 1 = .ok (.getfield 7, 3) := by decide +kernel
theorem dX3_many_4 : decode cX3_many 4 = .ok (.ireturn, 1) := by decide +kernel
theorem dX3_isFull_0 : decode cX3_isFull 0 = .ok (.aload_n 0, 1) := by decide +kernel
theorem dX3_isFull_1 : decode cX3_isFull 1 = .ok (.getfield 7, 3) := by decide +kernel
theorem dX3_isFull_4 : decode cX3_isFull 4 = .ok (.bipush 16, 2) := by decide +kernel
theorem dX3_isFull_6 : decode cX3_isFull 6 = .ok (.if_icmp .lt 7, 3) := by decide +kernel
theorem dX3_isFull_9 : decode cX3_isFull 9 = .ok (.iconst 1, 1) := by decide +kernel
theorem dX3_isFull_10 : decode cX3_isFull 10 = .ok (.goto 4, 3) := by decide +kernel
theorem dX3_isFull_13 : decode cX3_isFull 13 = .ok (.iconst 0, 1) := by decide +kernel
theorem dX3_isFull_14 : decode cX3_isFull 14 = .ok (.ireturn, 1) := by decide +kernel
theorem dX3_isMark_0 : decode cX3_isMark 0 = .ok (.iload_n 1, 1) := by decide +kernel
theorem dX3_isMark_1 : decode cX3_isMark 1 = .ok (.ifCond .lt 15, 3) := by decide +kernel
theorem dX3_isMark_4 : decode cX3_isMark 4 = .ok (.iload_n 1, 1) := by decide +kernel
theorem dX3_isMark_5 : decode cX3_isMark 5 = .ok (.aload_n 0, 1) := by decide +kernel
theorem dX3_isMark_6 : decode cX3_isMark 6 = .ok (.getfield 7, 3) := by decide +kernel
theorem dX3_isMark_9 : decode cX3_isMark 9 = .ok (.if_icmp .ge 7, 3) := by decide +kernel
theorem dX3_isMark_12 : decode cX3_isMark 12 = .ok (.iconst 1, 1) := by decide +kernel
theorem dX3_isMark_13 : decode cX3_isMark 13 = .ok (.goto 4, 3) := by decide +kernel
theorem dX3_isMark_16 : decode cX3_isMark 16 = .ok (.iconst 0, 1) := by decide +kernel
theorem dX3_isMark_17 : decode cX3_isMark 17 = .ok (.ireturn, 1) := by decide +kernel
theorem dX3_add_0 : decode cX3_add 0 = .ok (.aload_n 0, 1) := by decide +kernel
theorem dX3_add_1 : decode cX3_add 1 = .ok (.getfield 7, 3) := by decide +kernel
theorem dX3_add_4 : decode cX3_add 4 = .ok (.istore 5, 2) := by decide +kernel
theorem dX3_add_6 : decode cX3_add 6 = .ok (.aload_n 0, 1) := by decide +kernel
theorem dX3_add_7 : decode cX3_add 7 = .ok (.dup, 1) := by decide +kernel
theorem dX3_add_8 : decode cX3_add 8 = .ok (.getfield 7, 3) := by decide +kernel
theorem dX3_add_11 : decode cX3_add 11 = .ok (.iconst 1, 1) := by decide +kernel
theorem dX3_add_12 : decode cX3_add 12 = .ok (.iadd, 1) := by decide +kernel
theorem dX3_add_13 : decode cX3_add 13 = .ok (.putfield 7, 3) := by decide +kernel
theorem dX3_add_16 : decode cX3_add 16 = .ok (.aload_n 0, 1) := by decide +kernel
theorem dX3_add_17 : decode cX3_add 17 = .ok (.iload 5, 2) := by decide +kernel
theorem dX3_add_19 : decode cX3_add 19 = .ok (.iconst 0, 1) := by decide +kernel
theorem dX3_add_20 : decode cX3_add 20 = .ok (.iload_n 1, 1) := by decide +kernel
theorem dX3_add_21 : decode cX3_add 21 = .ok (.iload_n 2, 1) := by decide +kernel
theorem dX3_add_22 : decode cX3_add 22 = .ok (.invokevirtual 20, 3) := by decide +kernel
theorem dX3_add_25 : decode cX3_add 25 = .ok (.aload_n 0, 1) := by decide +kernel
theorem dX3_add_26 : decode cX3_add 26 = .ok (.iload 5, 2) := by decide +kernel
theorem dX3_add_28 : decode cX3_add 28 = .ok (.iconst 1, 1) := by decide +kernel
theorem dX3_add_29 : decode cX3_add 29 = .ok (.iload_n 3, 1) := by decide +kernel
theorem dX3_add_30 : decode cX3_add 30 = .ok (.iload 4, 2) := by decide +kernel
theorem dX3_add_32 : decode cX3_add 32 = .ok (.invokevirtual 20, 3) := by decide +kernel
theorem dX3_add_35 : decode cX3_add 35 = .ok (.iload 5, 2) := by decide +kernel
theorem dX3_add_37 : decode cX3_add 37 = .ok (.ireturn, 1) := by decide +kernel
theorem dX3_put_0 : decode cX3_put 0 = .ok (.aload_n 0, 1) := by decide +kernel
theorem dX3_put_1 : decode cX3_put 1 = .ok (.getfield 13, 3) := by decide +kernel
theorem dX3_put_4 : decode cX3_put 4 = .ok (.iload_n 2, 1) := by decide +kernel
theorem dX3_put_5 : decode cX3_put 5 = .ok (.bipush 16, 2) := by decide +kernel
theorem dX3_put_7 : decode cX3_put 7 = .ok (.imul, 1) := by decide +kernel
theorem dX3_put_8 : decode cX3_put 8 = .ok (.iload_n 1, 1) := by decide +kernel
theorem dX3_put_9 : decode cX3_put 9 = .ok (.iadd, 1) := by decide +kernel
theorem dX3_put_10 : decode cX3_put 10 = .ok (.iload_n 3, 1) := by decide +kernel
theorem dX3_put_11 : decode cX3_put 11 = .ok (.iastore, 1) := by decide +kernel
theorem dX3_put_12 : decode cX3_put 12 = .ok (.aload_n 0, 1) := by decide +kernel
theorem dX3_put_13 : decode cX3_put 13 = .ok (.getfield 17, 3) := by decide +kernel
theorem dX3_put_16 : decode cX3_put 16 = .ok (.iload_n 2, 1) := by decide +kernel
theorem dX3_put_17 : decode cX3_put 17 = .ok (.bipush 16, 2) := by decide +kernel
theorem dX3_put_19 : decode cX3_put 19 = .ok (.imul, 1) := by decide +kernel
theorem dX3_put_20 : decode cX3_put 20 = .ok (.iload_n 1, 1) := by decide +kernel
theorem dX3_put_21 : decode cX3_put 21 = .ok (.iadd, 1) := by decide +kernel
theorem dX3_put_22 : decode cX3_put 22 = .ok (.iload 4, 2) := by decide +kernel
theorem dX3_put_24 : decode cX3_put 24 = .ok (.iastore, 1) := by decide +kernel
theorem dX3_put_25 : decode cX3_put 25 = .ok (.return_, 1) := by decide +kernel
theorem dX3_x_0 : decode cX3_x 0 = .ok (.aload_n 0, 1) := by decide +kernel
theorem dX3_x_1 : decode cX3_x 1 = .ok (.getfield 13, 3) := by decide +kernel
theorem dX3_x_4 : decode cX3_x 4 = .ok (.iload_n 2, 1) := by decide +kernel
theorem dX3_x_5 : decode cX3_x 5 = .ok (.bipush 16, 2) := by decide +kernel
theorem dX3_x_7 : decode cX3_x 7 = .ok (.imul, 1) := by decide +kernel
theorem dX3_x_8 : decode cX3_x 8 = .ok (.iload_n 1, 1) := by decide +kernel
theorem dX3_x_9 : decode cX3_x 9 = .ok (.iadd, 1) := by decide +kernel
theorem dX3_x_10 : decode cX3_x 10 = .ok (.iaload, 1) := by decide +kernel
theorem dX3_x_11 : decode cX3_x 11 = .ok (.ireturn, 1) := by decide +kernel
theorem dX3_y_0 : decode cX3_y 0 = .ok (.aload_n 0, 1) := by decide +kernel
theorem dX3_y_1 : decode cX3_y 1 = .ok (.getfield 17, 3) := by decide +kernel
theorem dX3_y_4 : decode cX3_y 4 = .ok (.iload_n 2, 1) := by decide +kernel
theorem dX3_y_5 : decode cX3_y 5 = .ok (.bipush 16, 2) := by decide +kernel
theorem dX3_y_7 : decode cX3_y 7 = .ok (.imul, 1) := by decide +kernel
theorem dX3_y_8 : decode cX3_y 8 = .ok (.iload_n 1, 1) := by decide +kernel
theorem dX3_y_9 : decode cX3_y 9 = .ok (.iadd, 1) := by decide +kernel
theorem dX3_y_10 : decode cX3_y 10 = .ok (.iaload, 1) := by decide +kernel
theorem dX3_y_11 : decode cX3_y 11 = .ok (.ireturn, 1) := by decide +kernel
theorem dX3_tickX_0 : decode cX3_tickX 0 = .ok (.iload_n 3, 1) := by decide +kernel
theorem dX3_tickX_1 : decode cX3_tickX 1 = .ok (.iload_n 2, 1) := by decide +kernel
theorem dX3_tickX_2 : decode cX3_tickX 2 = .ok (.isub, 1) := by decide +kernel
theorem dX3_tickX_3 : decode cX3_tickX 3 = .ok (.aload_n 0, 1) := by decide +kernel
theorem dX3_tickX_4 : decode cX3_tickX 4 = .ok (.iload_n 1, 1) := by decide +kernel
theorem dX3_tickX_5 : decode cX3_tickX 5 = .ok (.iconst 0, 1) := by decide +kernel
theorem dX3_tickX_6 : decode cX3_tickX 6 = .ok (.invokevirtual 24, 3) := by decide +kernel
theorem dX3_tickX_9 : decode cX3_tickX 9 = .ok (.imul, 1) := by decide +kernel
theorem dX3_tickX_10 : decode cX3_tickX 10 = .ok (.iload_n 2, 1) := by decide +kernel
theorem dX3_tickX_11 : decode cX3_tickX 11 = .ok (.aload_n 0, 1) := by decide +kernel
theorem dX3_tickX_12 : decode cX3_tickX 12 = .ok (.iload_n 1, 1) := by decide +kernel
theorem dX3_tickX_13 : decode cX3_tickX 13 = .ok (.iconst 1, 1) := by decide +kernel
theorem dX3_tickX_14 : decode cX3_tickX 14 = .ok (.invokevirtual 24, 3) := by decide +kernel
theorem dX3_tickX_17 : decode cX3_tickX 17 = .ok (.imul, 1) := by decide +kernel
theorem dX3_tickX_18 : decode cX3_tickX 18 = .ok (.iadd, 1) := by decide +kernel
theorem dX3_tickX_19 : decode cX3_tickX 19 = .ok (.ireturn, 1) := by decide +kernel
theorem dX3_tickY_0 : decode cX3_tickY 0 = .ok (.iload_n 3, 1) := by decide +kernel
theorem dX3_tickY_1 : decode cX3_tickY 1 = .ok (.iload_n 2, 1) := by decide +kernel
theorem dX3_tickY_2 : decode cX3_tickY 2 = .ok (.isub, 1) := by decide +kernel
theorem dX3_tickY_3 : decode cX3_tickY 3 = .ok (.aload_n 0, 1) := by decide +kernel
theorem dX3_tickY_4 : decode cX3_tickY 4 = .ok (.iload_n 1, 1) := by decide +kernel
theorem dX3_tickY_5 : decode cX3_tickY 5 = .ok (.iconst 0, 1) := by decide +kernel
theorem dX3_tickY_6 : decode cX3_tickY 6 = .ok (.invokevirtual 28, 3) := by decide +kernel
theorem dX3_tickY_9 : decode cX3_tickY 9 = .ok (.imul, 1) := by decide +kernel
theorem dX3_tickY_10 : decode cX3_tickY 10 = .ok (.iload_n 2, 1) := by decide +kernel
theorem dX3_tickY_11 : decode cX3_tickY 11 = .ok (.aload_n 0, 1) := by decide +kernel
theorem dX3_tickY_12 : decode cX3_tickY 12 = .ok (.iload_n 1, 1) := by decide +kernel
theorem dX3_tickY_13 : decode cX3_tickY 13 = .ok (.iconst 1, 1) := by decide +kernel
theorem dX3_tickY_14 : decode cX3_tickY 14 = .ok (.invokevirtual 28, 3) := by decide +kernel
theorem dX3_tickY_17 : decode cX3_tickY 17 = .ok (.imul, 1) := by decide +kernel
theorem dX3_tickY_18 : decode cX3_tickY 18 = .ok (.iadd, 1) := by decide +kernel
theorem dX3_tickY_19 : decode cX3_tickY 19 = .ok (.ireturn, 1) := by decide +kernel
theorem dX3_stays_0 : decode cX3_stays 0 = .ok (.aload_n 0, 1) := by decide +kernel
theorem dX3_stays_1 : decode cX3_stays 1 = .ok (.iload_n 1, 1) := by decide +kernel
theorem dX3_stays_2 : decode cX3_stays 2 = .ok (.iconst 0, 1) := by decide +kernel
theorem dX3_stays_3 : decode cX3_stays 3 = .ok (.invokevirtual 24, 3) := by decide +kernel
theorem dX3_stays_6 : decode cX3_stays 6 = .ok (.aload_n 0, 1) := by decide +kernel
theorem dX3_stays_7 : decode cX3_stays 7 = .ok (.iload_n 1, 1) := by decide +kernel
theorem dX3_stays_8 : decode cX3_stays 8 = .ok (.iconst 1, 1) := by decide +kernel
theorem dX3_stays_9 : decode cX3_stays 9 = .ok (.invokevirtual 24, 3) := by decide +kernel
theorem dX3_stays_12 : decode cX3_stays 12 = .ok (.if_icmp .ne 22, 3) := by decide +kernel
theorem dX3_stays_15 : decode cX3_stays 15 = .ok (.aload_n 0, 1) := by decide +kernel
theorem dX3_stays_16 : decode cX3_stays 16 = .ok (.iload_n 1, 1) := by decide +kernel
theorem dX3_stays_17 : decode cX3_stays 17 = .ok (.iconst 0, 1) := by decide +kernel
theorem dX3_stays_18 : decode cX3_stays 18 = .ok (.invokevirtual 28, 3) := by decide +kernel
theorem dX3_stays_21 : decode cX3_stays 21 = .ok (.aload_n 0, 1) := by decide +kernel
theorem dX3_stays_22 : decode cX3_stays 22 = .ok (.iload_n 1, 1) := by decide +kernel
theorem dX3_stays_23 : decode cX3_stays 23 = .ok (.iconst 1, 1) := by decide +kernel
theorem dX3_stays_24 : decode cX3_stays 24 = .ok (.invokevirtual 28, 3) := by decide +kernel
theorem dX3_stays_27 : decode cX3_stays 27 = .ok (.if_icmp .ne 7, 3) := by decide +kernel
theorem dX3_stays_30 : decode cX3_stays 30 = .ok (.iconst 1, 1) := by decide +kernel
theorem dX3_stays_31 : decode cX3_stays 31 = .ok (.goto 4, 3) := by decide +kernel
theorem dX3_stays_34 : decode cX3_stays 34 = .ok (.iconst 0, 1) := by decide +kernel
theorem dX3_stays_35 : decode cX3_stays 35 = .ok (.ireturn, 1) := by decide +kernel
theorem dX3_area_0 : decode cX3_area 0 = .ok (.lload 4, 2) := by decide +kernel
theorem dX3_area_2 : decode cX3_area 2 = .ok (.lload_n 0, 1) := by decide +kernel
theorem dX3_area_3 : decode cX3_area 3 = .ok (.lsub, 1) := by decide +kernel
theorem dX3_area_4 : decode cX3_area 4 = .ok (.lload 10, 2) := by decide +kernel
theorem dX3_area_6 : decode cX3_area 6 = .ok (.lload_n 2, 1) := by decide +kernel
theorem dX3_area_7 : decode cX3_area 7 = .ok (.lsub, 1) := by decide +kernel
theorem dX3_area_8 : decode cX3_area 8 = .ok (.lmul, 1) := by decide +kernel
theorem dX3_area_9 : decode cX3_area 9 = .ok (.lload 6, 2) := by decide +kernel
theorem dX3_area_11 : decode cX3_area 11 = .ok (.lload_n 2, 1) := by decide +kernel
theorem dX3_area_12 : decode cX3_area 12 = .ok (.lsub, 1) := by decide +kernel
theorem dX3_area_13 : decode cX3_area 13 = .ok (.lload 8, 2) := by decide +kernel
theorem dX3_area_15 : decode cX3_area 15 = .ok (.lload_n 0, 1) := by decide +kernel
theorem dX3_area_16 : decode cX3_area 16 = .ok (.lsub, 1) := by decide +kernel
theorem dX3_area_17 : decode cX3_area 17 = .ok (.lmul, 1) := by decide +kernel
theorem dX3_area_18 : decode cX3_area 18 = .ok (.lsub, 1) := by decide +kernel
theorem dX3_area_19 : decode cX3_area 19 = .ok (.lreturn, 1) := by decide +kernel
theorem dX4_init_0 : decode cX4_init 0 = .ok (.aload_n 0, 1) := by decide +kernel
theorem dX4_init_1 : decode cX4_init 1 = .ok (.invokespecial 5, 3) := by decide +kernel
theorem dX4_init_4 : decode cX4_init 4 = .ok (.aload_n 0, 1) := by decide +kernel
theorem dX4_init_5 : decode cX4_init 5 = .ok (.iconst 0, 1) := by decide +kernel
theorem dX4_init_6 : decode cX4_init 6 = .ok (.putfield 11, 3) := by decide +kernel
theorem dX4_init_9 : decode cX4_init 9 = .ok (.aload_n 0, 1) := by decide +kernel
theorem dX4_init_10 : decode cX4_init 10 = .ok (.iconst 0, 1) := by decide +kernel
theorem dX4_init_11 : decode cX4_init 11 = .ok (.putfield 15, 3) := by decide +kernel
theorem dX4_init_14 : decode cX4_init 14 = .ok (.aload_n 0, 1) := by decide +kernel
theorem dX4_init_15 : decode cX4_init 15 = .ok (.iconst 0, 1) := by decide +kernel
theorem dX4_init_16 : decode cX4_init 16 = .ok (.putfield 18, 3) := by decide +kernel
theorem dX4_init_19 : decode cX4_init 19 = .ok (.aload_n 0, 1) := by decide +kernel
theorem dX4_init_20 : decode cX4_init 20 = .ok (.iconst 0, 1) := by decide +kernel
theorem dX4_init_21 : decode cX4_init 21 = .ok (.putfield 21, 3) := by decide +kernel
theorem dX4_init_24 : decode cX4_init 24 = .ok (.aload_n 0, 1) := by decide +kernel
theorem dX4_init_25 : decode cX4_init 25 = .ok (.sipush 900, 3) := by decide +kernel
theorem dX4_init_28 : decode cX4_init 28 = .ok (.newarray .int, 2) := by decide +kernel
theorem dX4_init_30 : decode cX4_init 30 = .ok (.putfield 24, 3) := by decide +kernel
theorem dX4_init_33 : decode cX4_init 33 = .ok (.aload_n 0, 1) := by decide +kernel
theorem dX4_init_34 : decode cX4_init 34 = .ok (.bipush 59, 2) := by decide +kernel
theorem dX4_init_36 : decode cX4_init 36 = .ok (.newarray .int, 2) := by decide +kernel
theorem dX4_init_38 : decode cX4_init 38 = .ok (.putfield 28, 3) := by decide +kernel
theorem dX4_init_41 : decode cX4_init 41 = .ok (.aload_n 0, 1) := by decide +kernel
theorem dX4_init_42 : decode cX4_init 42 = .ok (.bipush 59, 2) := by decide +kernel
theorem dX4_init_44 : decode cX4_init 44 = .ok (.newarray .int, 2) := by decide +kernel
theorem dX4_init_46 : decode cX4_init 46 = .ok (.putfield 31, 3) := by decide +kernel
theorem dX4_init_49 : decode cX4_init 49 = .ok (.aload_n 0, 1) := by decide +kernel
theorem dX4_init_50 : decode cX4_init 50 = .ok (.iconst 0, 1) := by decide +kernel
theorem dX4_init_51 : decode cX4_init 51 = .ok (.putfield 34, 3) := by decide +kernel
theorem dX4_init_54 : decode cX4_init 54 = .ok (.aload_n 0, 1) := by decide +kernel
theorem dX4_init_55 : decode cX4_init 55 = .ok (.aload_n 1, 1) := by decide +kernel
theorem dX4_init_56 : decode cX4_init 56 = .ok (.putfield 37, 3) := by decide +kernel
theorem dX4_init_59 : decode cX4_init 59 = .ok (.return_, 1) := by decide +kernel
theorem dX4_isRow_0 : decode cX4_isRow 0 = .ok (.iload_n 0, 1) := by decide +kernel
theorem dX4_isRow_1 : decode cX4_isRow 1 = .ok (.iconst 1, 1) := by decide +kernel
theorem dX4_isRow_2 : decode cX4_isRow 2 = .ok (.bipush 30, 2) := by decide +kernel
theorem dX4_isRow_4 : decode cX4_isRow 4 = .ok (.invokestatic 41, 3) := by decide +kernel
theorem dX4_isRow_7 : decode cX4_isRow 7 = .ok (.ireturn, 1) := by decide +kernel
theorem dX4_join_0 : decode cX4_join 0 = .ok (.aload_n 0, 1) := by decide +kernel
theorem dX4_join_1 : decode cX4_join 1 = .ok (.iload_n 1, 1) := by decide +kernel
theorem dX4_join_2 : decode cX4_join 2 = .ok (.putfield 11, 3) := by decide +kernel
theorem dX4_join_5 : decode cX4_join 5 = .ok (.aload_n 0, 1) := by decide +kernel
theorem dX4_join_6 : decode cX4_join 6 = .ok (.iload_n 3, 1) := by decide +kernel
theorem dX4_join_7 : decode cX4_join 7 = .ok (.putfield 15, 3) := by decide +kernel
theorem dX4_join_10 : decode cX4_join 10 = .ok (.aload_n 0, 1) := by decide +kernel
theorem dX4_join_11 : decode cX4_join 11 = .ok (.iload_n 2, 1) := by decide +kernel
theorem dX4_join_12 : decode cX4_join 12 = .ok (.putfield 18, 3) := by decide +kernel
theorem dX4_join_15 : decode cX4_join 15 = .ok (.aload_n 0, 1) := by decide +kernel
theorem dX4_join_16 : decode cX4_join 16 = .ok (.iload 4, 2) := by decide +kernel
theorem dX4_join_18 : decode cX4_join 18 = .ok (.putfield 21, 3) := by decide +kernel
theorem dX4_join_21 : decode cX4_join 21 = .ok (.iconst 0, 1) := by decide +kernel
theorem dX4_join_22 : decode cX4_join 22 = .ok (.istore 5, 2) := by decide +kernel
theorem dX4_join_24 : decode cX4_join 24 = .ok (.iload 5, 2) := by decide +kernel
theorem dX4_join_26 : decode cX4_join 26 = .ok (.iload_n 2, 1) := by decide +kernel
theorem dX4_join_27 : decode cX4_join 27 = .ok (.if_icmp .ge 55, 3) := by decide +kernel
theorem dX4_join_30 : decode cX4_join 30 = .ok (.iconst 0, 1) := by decide +kernel
theorem dX4_join_31 : decode cX4_join 31 = .ok (.istore 6, 2) := by decide +kernel
theorem dX4_join_33 : decode cX4_join 33 = .ok (.iload 6, 2) := by decide +kernel
theorem dX4_join_35 : decode cX4_join 35 = .ok (.iload 4, 2) := by decide +kernel
theorem dX4_join_37 : decode cX4_join 37 = .ok (.if_icmp .ge 39, 3) := by decide +kernel
theorem dX4_join_40 : decode cX4_join 40 = .ok (.aload_n 0, 1) := by decide +kernel
theorem dX4_join_41 : decode cX4_join 41 = .ok (.getfield 24, 3) := by decide +kernel
theorem dX4_join_44 : decode cX4_join 44 = .ok (.iload 5, 2) := by decide +kernel
theorem dX4_join_46 : decode cX4_join 46 = .ok (.bipush 30, 2) := by decide +kernel
theorem dX4_join_48 : decode cX4_join 48 = .ok (.imul, 1) := by decide +kernel
theorem dX4_join_49 : decode cX4_join 49 = .ok (.iload 6, 2) := by decide +kernel
theorem dX4_join_51 : decode cX4_join 51 = .ok (.iadd, 1) := by decide +kernel
theorem dX4_join_52 : decode cX4_join 52 = .ok (.aload_n 0, 1) := by decide +kernel
theorem dX4_join_53 : decode cX4_join 53 = .ok (.iload 5, 2) := by decide +kernel
theorem dX4_join_55 : decode cX4_join 55 = .ok (.iload 6, 2) := by decide +kernel
theorem dX4_join_57 : decode cX4_join 57 = .ok (.invokevirtual 45, 3) := by decide +kernel
theorem dX4_join_60 : decode cX4_join 60 = .ok (.aload_n 0, 1) := by decide +kernel
theorem dX4_join_61 : decode cX4_join 61 = .ok (.iload 5, 2) := by decide +kernel
theorem dX4_join_63 : decode cX4_join 63 = .ok (.iload 6, 2) := by decide +kernel
theorem dX4_join_65 : decode cX4_join 65 = .ok (.invokevirtual 49, 3) := by decide +kernel
theorem dX4_join_68 : decode cX4_join 68 = .ok (.iadd, 1) := by decide +kernel
theorem dX4_join_69 : decode cX4_join 69 = .ok (.iastore, 1) := by decide +kernel
theorem dX4_join_70 : decode cX4_join 70 = .ok (.iinc 6 1, 3) := by decide +kernel
theorem dX4_join_73 : decode cX4_join 73 = .ok (.goto (-40), 3) := by decide +kernel
theorem dX4_join_76 : decode cX4_join 76 = .ok (.iinc 5 1, 3) := by decide +kernel
theorem dX4_join_79 : decode cX4_join 79 = .ok (.goto (-55), 3) := by decide +kernel
theorem dX4_join_82 : decode cX4_join 82 = .ok (.aload_n 0, 1) := by decide +kernel
theorem dX4_join_83 : decode cX4_join 83 = .ok (.invokevirtual 52, 3) := by decide +kernel
theorem dX4_join_86 : decode cX4_join 86 = .ok (.return_, 1) := by decide +kernel
theorem dX4_tell_0 : decode cX4_tell 0 = .ok (.iload_n 1, 1) := by decide +kernel
theorem dX4_tell_1 : decode cX4_tell 1 = .ok (.tableswitch 67 0 2 #[27, 49, 54], 27) := by decide +kernel
theorem dX4_tell_28 : decode cX4_tell 28 = .ok (.aload_n 0, 1) := by decide +kernel
theorem dX4_tell_29 : decode cX4_tell 29 = .ok (.getfield 24, 3) := by decide +kernel
theorem dX4_tell_32 : decode cX4_tell 32 = .ok (.aload_n 0, 1) := by decide +kernel
theorem dX4_tell_33 : decode cX4_tell 33 = .ok (.getfield 18, 3) := by decide +kernel
theorem dX4_tell_36 : decode cX4_tell 36 = .ok (.iconst 1, 1) := by decide +kernel
theorem dX4_tell_37 : decode cX4_tell 37 = .ok (.isub, 1) := by decide +kernel
theorem dX4_tell_38 : decode cX4_tell 38 = .ok (.bipush 30, 2) := by decide +kernel
theorem dX4_tell_40 : decode cX4_tell 40 = .ok (.imul, 1) := by decide +kernel
theorem dX4_tell_41 : decode cX4_tell 41 = .ok (.aload_n 0, 1) := by decide +kernel
theorem dX4_tell_42 : decode cX4_tell 42 = .ok (.getfield 21, 3) := by decide +kernel
theorem dX4_tell_45 : decode cX4_tell 45 = .ok (.iadd, 1) := by decide +kernel
theorem dX4_tell_46 : decode cX4_tell 46 = .ok (.iconst 1, 1) := by decide +kernel
theorem dX4_tell_47 : decode cX4_tell 47 = .ok (.isub, 1) := by decide +kernel
theorem dX4_tell_48 : decode cX4_tell 48 = .ok (.iaload, 1) := by decide +kernel
theorem dX4_tell_49 : decode cX4_tell 49 = .ok (.ireturn, 1) := by decide +kernel
theorem dX4_tell_50 : decode cX4_tell 50 = .ok (.aload_n 0, 1) := by decide +kernel
theorem dX4_tell_51 : decode cX4_tell 51 = .ok (.getfield 34, 3) := by decide +kernel
theorem dX4_tell_54 : decode cX4_tell 54 = .ok (.ireturn, 1) := by decide +kernel
theorem dX4_tell_55 : decode cX4_tell 55 = .ok (.aload_n 0, 1) := by decide +kernel
theorem dX4_tell_56 : decode cX4_tell 56 = .ok (.aload_n 0, 1) := by decide +kernel
theorem dX4_tell_57 : decode cX4_tell 57 = .ok (.getfield 31, 3) := by decide +kernel
theorem dX4_tell_60 : decode cX4_tell 60 = .ok (.aload_n 0, 1) := by decide +kernel
theorem dX4_tell_61 : decode cX4_tell 61 = .ok (.getfield 21, 3) := by decide +kernel
theorem dX4_tell_64 : decode cX4_tell 64 = .ok (.invokevirtual 55, 3) := by decide +kernel
theorem dX4_tell_67 : decode cX4_tell 67 = .ok (.ireturn, 1) := by decide +kernel
theorem dX4_tell_68 : decode cX4_tell 68 = .ok (.aload_n 0, 1) := by decide +kernel
theorem dX4_tell_69 : decode cX4_tell 69 = .ok (.aload_n 0, 1) := by decide +kernel
theorem dX4_tell_70 : decode cX4_tell 70 = .ok (.getfield 28, 3) := by decide +kernel
theorem dX4_tell_73 : decode cX4_tell 73 = .ok (.aload_n 0, 1) := by decide +kernel
theorem dX4_tell_74 : decode cX4_tell 74 = .ok (.getfield 18, 3) := by decide +kernel
theorem dX4_tell_77 : decode cX4_tell 77 = .ok (.invokevirtual 55, 3) := by decide +kernel
theorem dX4_tell_80 : decode cX4_tell 80 = .ok (.ireturn, 1) := by decide +kernel
theorem dX4_met_0 : decode cX4_met 0 = .ok (.iload_n 1, 1) := by decide +kernel
theorem dX4_met_1 : decode cX4_met 1 = .ok (.ifCond .lt 11, 3) := by decide +kernel
theorem dX4_met_4 : decode cX4_met 4 = .ok (.iload_n 1, 1) := by decide +kernel
theorem dX4_met_5 : decode cX4_met 5 = .ok (.aload_n 0, 1) := by decide +kernel
theorem dX4_met_6 : decode cX4_met 6 = .ok (.getfield 34, 3) := by decide +kernel
theorem dX4_met_9 : decode cX4_met 9 = .ok (.if_icmp .lt 6, 3) := by decide +kernel
theorem dX4_met_12 : decode cX4_met 12 = .ok (.ldc 59, 2) := by decide +kernel
theorem dX4_met_14 : decode cX4_met 14 = .ok (.ireturn, 1) := by decide +kernel
theorem dX4_met_15 : decode cX4_met 15 = .ok (.aload_n 0, 1) := by decide +kernel
theorem dX4_met_16 : decode cX4_met 16 = .ok (.getfield 34, 3) := by decide +kernel
theorem dX4_met_19 : decode cX4_met 19 = .ok (.iconst 1, 1) := by decide +kernel
theorem dX4_met_20 : decode cX4_met 20 = .ok (.isub, 1) := by decide +kernel
theorem dX4_met_21 : decode cX4_met 21 = .ok (.iload_n 1, 1) := by decide +kernel
theorem dX4_met_22 : decode cX4_met 22 = .ok (.isub, 1) := by decide +kernel
theorem dX4_met_23 : decode cX4_met 23 = .ok (.istore_n 2, 1) := by decide +kernel
theorem dX4_met_24 : decode cX4_met 24 = .ok (.aload_n 0, 1) := by decide +kernel
theorem dX4_met_25 : decode cX4_met 25 = .ok (.getfield 28, 3) := by decide +kernel
theorem dX4_met_28 : decode cX4_met 28 = .ok (.iload_n 2, 1) := by decide +kernel
theorem dX4_met_29 : decode cX4_met 29 = .ok (.iaload, 1) := by decide +kernel
theorem dX4_met_30 : decode cX4_met 30 = .ok (.bipush 100, 2) := by decide +kernel
theorem dX4_met_32 : decode cX4_met 32 = .ok (.imul, 1) := by decide +kernel
theorem dX4_met_33 : decode cX4_met 33 = .ok (.aload_n 0, 1) := by decide +kernel
theorem dX4_met_34 : decode cX4_met 34 = .ok (.getfield 31, 3) := by decide +kernel
theorem dX4_met_37 : decode cX4_met 37 = .ok (.iload_n 2, 1) := by decide +kernel
theorem dX4_met_38 : decode cX4_met 38 = .ok (.iaload, 1) := by decide +kernel
theorem dX4_met_39 : decode cX4_met 39 = .ok (.iadd, 1) := by decide +kernel
theorem dX4_met_40 : decode cX4_met 40 = .ok (.ireturn, 1) := by decide +kernel
theorem dX4_apart_0 : decode cX4_apart 0 = .ok (.aload_n 0, 1) := by decide +kernel
theorem dX4_apart_1 : decode cX4_apart 1 = .ok (.getfield 37, 3) := by decide +kernel
theorem dX4_apart_4 : decode cX4_apart 4 = .ok (.aload_n 0, 1) := by decide +kernel
theorem dX4_apart_5 : decode cX4_apart 5 = .ok (.getfield 11, 3) := by decide +kernel
theorem dX4_apart_8 : decode cX4_apart 8 = .ok (.iconst 2, 1) := by decide +kernel
theorem dX4_apart_9 : decode cX4_apart 9 = .ok (.iload_n 1, 1) := by decide +kernel
theorem dX4_apart_10 : decode cX4_apart 10 = .ok (.imul, 1) := by decide +kernel
theorem dX4_apart_11 : decode cX4_apart 11 = .ok (.invokevirtual 60, 3) := by decide +kernel
theorem dX4_apart_14 : decode cX4_apart 14 = .ok (.aload_n 0, 1) := by decide +kernel
theorem dX4_apart_15 : decode cX4_apart 15 = .ok (.getfield 37, 3) := by decide +kernel
theorem dX4_apart_18 : decode cX4_apart 18 = .ok (.aload_n 0, 1) := by decide +kernel
theorem dX4_apart_19 : decode cX4_apart 19 = .ok (.getfield 15, 3) := by decide +kernel
theorem dX4_apart_22 : decode cX4_apart 22 = .ok (.iconst 2, 1) := by decide +kernel
theorem dX4_apart_23 : decode cX4_apart 23 = .ok (.iload_n 2, 1) := by decide +kernel
theorem dX4_apart_24 : decode cX4_apart 24 = .ok (.imul, 1) := by decide +kernel
theorem dX4_apart_25 : decode cX4_apart 25 = .ok (.invokevirtual 60, 3) := by decide +kernel
theorem dX4_apart_28 : decode cX4_apart 28 = .ok (.isub, 1) := by decide +kernel
theorem dX4_apart_29 : decode cX4_apart 29 = .ok (.invokestatic 65, 3) := by decide +kernel
theorem dX4_apart_32 : decode cX4_apart 32 = .ok (.aload_n 0, 1) := by decide +kernel
theorem dX4_apart_33 : decode cX4_apart 33 = .ok (.getfield 37, 3) := by decide +kernel
theorem dX4_apart_36 : decode cX4_apart 36 = .ok (.aload_n 0, 1) := by decide +kernel
theorem dX4_apart_37 : decode cX4_apart 37 = .ok (.getfield 11, 3) := by decide +kernel
theorem dX4_apart_40 : decode cX4_apart 40 = .ok (.iconst 2, 1) := by decide +kernel
theorem dX4_apart_41 : decode cX4_apart 41 = .ok (.iload_n 1, 1) := by decide +kernel
theorem dX4_apart_42 : decode cX4_apart 42 = .ok (.imul, 1) := by decide +kernel
theorem dX4_apart_43 : decode cX4_apart 43 = .ok (.iconst 1, 1) := by decide +kernel
theorem dX4_apart_44 : decode cX4_apart 44 = .ok (.iadd, 1) := by decide +kernel
theorem dX4_apart_45 : decode cX4_apart 45 = .ok (.invokevirtual 60, 3) := by decide +kernel
theorem dX4_apart_48 : decode cX4_apart 48 = .ok (.aload_n 0, 1) := by decide +kernel
theorem dX4_apart_49 : decode cX4_apart 49 = .ok (.getfield 37, 3) := by decide +kernel
theorem dX4_apart_52 : decode cX4_apart 52 = .ok (.aload_n 0, 1) := by decide +kernel
theorem dX4_apart_53 : decode cX4_apart 53 = .ok (.getfield 15, 3) := by decide +kernel
theorem dX4_apart_56 : decode cX4_apart 56 = .ok (.iconst 2, 1) := by decide +kernel
theorem dX4_apart_57 : decode cX4_apart 57 = .ok (.iload_n 2, 1) := by decide +kernel
theorem dX4_apart_58 : decode cX4_apart 58 = .ok (.imul, 1) := by decide +kernel
theorem dX4_apart_59 : decode cX4_apart 59 = .ok (.iconst 1, 1) := by decide +kernel
theorem dX4_apart_60 : decode cX4_apart 60 = .ok (.iadd, 1) := by decide +kernel
theorem dX4_apart_61 : decode cX4_apart 61 = .ok (.invokevirtual 60, 3) := by decide +kernel
theorem dX4_apart_64 : decode cX4_apart 64 = .ok (.isub, 1) := by decide +kernel
theorem dX4_apart_65 : decode cX4_apart 65 = .ok (.invokestatic 65, 3) := by decide +kernel
theorem dX4_apart_68 : decode cX4_apart 68 = .ok (.iadd, 1) := by decide +kernel
theorem dX4_apart_69 : decode cX4_apart 69 = .ok (.ireturn, 1) := by decide +kernel
theorem dX4_costAhead_0 : decode cX4_costAhead 0 = .ok (.iload_n 1, 1) := by decide +kernel
theorem dX4_costAhead_1 : decode cX4_costAhead 1 = .ok (.ifCond .ne 9, 3) := by decide +kernel
theorem dX4_costAhead_4 : decode cX4_costAhead 4 = .ok (.iload_n 2, 1) := by decide +kernel
theorem dX4_costAhead_5 : decode cX4_costAhead 5 = .ok (.ifCond .ne 5, 3) := by decide +kernel
theorem dX4_costAhead_8 : decode cX4_costAhead 8 = .ok (.iconst 0, 1) := by decide +kernel
theorem dX4_costAhead_9 : decode cX4_costAhead 9 = .ok (.ireturn, 1) := by decide +kernel
theorem dX4_costAhead_10 : decode cX4_costAhead 10 = .ok (.iload_n 1, 1) := by decide +kernel
theorem dX4_costAhead_11 : decode cX4_costAhead 11 = .ok (.ifCond .ne 12, 3) := by decide +kernel
theorem dX4_costAhead_14 : decode cX4_costAhead 14 = .ok (.aload_n 0, 1) := by decide +kernel
theorem dX4_costAhead_15 : decode cX4_costAhead 15 = .ok (.getfield 24, 3) := by decide +kernel
theorem dX4_costAhead_18 : decode cX4_costAhead 18 = .ok (.iload_n 2, 1) := by decide +kernel
theorem dX4_costAhead_19 : decode cX4_costAhead 19 = .ok (.iconst 1, 1) := by decide +kernel
theorem dX4_costAhead_20 : decode cX4_costAhead 20 = .ok (.isub, 1) := by decide +kernel
theorem dX4_costAhead_21 : decode cX4_costAhead 21 = .ok (.iaload, 1) := by decide +kernel
theorem dX4_costAhead_22 : decode cX4_costAhead 22 = .ok (.ireturn, 1) := by decide +kernel
theorem dX4_costAhead_23 : decode cX4_costAhead 23 = .ok (.iload_n 2, 1) := by decide +kernel
theorem dX4_costAhead_24 : decode cX4_costAhead 24 = .ok (.ifCond .ne 15, 3) := by decide +kernel
theorem dX4_costAhead_27 : decode cX4_costAhead 27 = .ok (.aload_n 0, 1) := by decide +kernel
theorem dX4_costAhead_28 : decode cX4_costAhead 28 = .ok (.getfield 24, 3) := by decide +kernel
theorem dX4_costAhead_31 : decode cX4_costAhead 31 = .ok (.iload_n 1, 1) := by decide +kernel
theorem dX4_costAhead_32 : decode cX4_costAhead 32 = .ok (.iconst 1, 1) := by decide +kernel
theorem dX4_costAhead_33 : decode cX4_costAhead 33 = .ok (.isub, 1) := by decide +kernel
theorem dX4_costAhead_34 : decode cX4_costAhead 34 = .ok (.bipush 30, 2) := by decide +kernel
theorem dX4_costAhead_36 : decode cX4_costAhead 36 = .ok (.imul, 1) := by decide +kernel
theorem dX4_costAhead_37 : decode cX4_costAhead 37 = .ok (.iaload, 1) := by decide +kernel
theorem dX4_costAhead_38 : decode cX4_costAhead 38 = .ok (.ireturn, 1) := by decide +kernel
theorem dX4_costAhead_39 : decode cX4_costAhead 39 = .ok (.aload_n 0, 1) := by decide +kernel
theorem dX4_costAhead_40 : decode cX4_costAhead 40 = .ok (.getfield 24, 3) := by decide +kernel
theorem dX4_costAhead_43 : decode cX4_costAhead 43 = .ok (.iload_n 1, 1) := by decide +kernel
theorem dX4_costAhead_44 : decode cX4_costAhead 44 = .ok (.iconst 1, 1) := by decide +kernel
theorem dX4_costAhead_45 : decode cX4_costAhead 45 = .ok (.isub, 1) := by decide +kernel
theorem dX4_costAhead_46 : decode cX4_costAhead 46 = .ok (.bipush 30, 2) := by decide +kernel
theorem dX4_costAhead_48 : decode cX4_costAhead 48 = .ok (.imul, 1) := by decide +kernel
theorem dX4_costAhead_49 : decode cX4_costAhead 49 = .ok (.iload_n 2, 1) := by decide +kernel
theorem dX4_costAhead_50 : decode cX4_costAhead 50 = .ok (.iadd, 1) := by decide +kernel
theorem dX4_costAhead_51 : decode cX4_costAhead 51 = .ok (.iaload, 1) := by decide +kernel
theorem dX4_costAhead_52 : decode cX4_costAhead 52 = .ok (.aload_n 0, 1) := by decide +kernel
theorem dX4_costAhead_53 : decode cX4_costAhead 53 = .ok (.getfield 24, 3) := by decide +kernel
theorem dX4_costAhead_56 : decode cX4_costAhead 56 = .ok (.iload_n 1, 1) := by decide +kernel
theorem dX4_costAhead_57 : decode cX4_costAhead 57 = .ok (.bipush 30, 2) := by decide +kernel
theorem dX4_costAhead_59 : decode cX4_costAhead 59 = .ok (.imul, 1) := by decide +kernel
theorem dX4_costAhead_60 : decode cX4_costAhead 60 = .ok (.iload_n 2, 1) := by decide +kernel
theorem dX4_costAhead_61 : decode cX4_costAhead 61 = .ok (.iadd, 1) := by decide +kernel
theorem dX4_costAhead_62 : decode cX4_costAhead 62 = .ok (.iconst 1, 1) := by decide +kernel
theorem dX4_costAhead_63 : decode cX4_costAhead 63 = .ok (.isub, 1) := by decide +kernel
theorem dX4_costAhead_64 : decode cX4_costAhead 64 = .ok (.iaload, 1) := by decide +kernel
theorem dX4_costAhead_65 : decode cX4_costAhead 65 = .ok (.invokestatic 71, 3) := by decide +kernel
theorem dX4_costAhead_68 : decode cX4_costAhead 68 = .ok (.istore_n 3, 1) := by decide +kernel
theorem dX4_costAhead_69 : decode cX4_costAhead 69 = .ok (.iload_n 3, 1) := by decide +kernel
theorem dX4_costAhead_70 : decode cX4_costAhead 70 = .ok (.aload_n 0, 1) := by decide +kernel
theorem dX4_costAhead_71 : decode cX4_costAhead 71 = .ok (.getfield 24, 3) := by decide +kernel
theorem dX4_costAhead_74 : decode cX4_costAhead 74 = .ok (.iload_n 1, 1) := by decide +kernel
theorem dX4_costAhead_75 : decode cX4_costAhead 75 = .ok (.iconst 1, 1) := by decide +kernel
theorem dX4_costAhead_76 : decode cX4_costAhead 76 = .ok (.isub, 1) := by decide +kernel
theorem dX4_costAhead_77 : decode cX4_costAhead 77 = .ok (.bipush 30, 2) := by decide +kernel
theorem dX4_costAhead_79 : decode cX4_costAhead 79 = .ok (.imul, 1) := by decide +kernel
theorem dX4_costAhead_80 : decode cX4_costAhead 80 = .ok (.iload_n 2, 1) := by decide +kernel
theorem dX4_costAhead_81 : decode cX4_costAhead 81 = .ok (.iadd, 1) := by decide +kernel
theorem dX4_costAhead_82 : decode cX4_costAhead 82 = .ok (.iconst 1, 1) := by decide +kernel
theorem dX4_costAhead_83 : decode cX4_costAhead 83 = .ok (.isub, 1) := by decide +kernel
theorem dX4_costAhead_84 : decode cX4_costAhead 84 = .ok (.iaload, 1) := by decide +kernel
theorem dX4_costAhead_85 : decode cX4_costAhead 85 = .ok (.invokestatic 71, 3) := by decide +kernel
theorem dX4_costAhead_88 : decode cX4_costAhead 88 = .ok (.ireturn, 1) := by decide +kernel
theorem dX4_walkBack_0 : decode cX4_walkBack 0 = .ok (.aload_n 0, 1) := by decide +kernel
theorem dX4_walkBack_1 : decode cX4_walkBack 1 = .ok (.getfield 18, 3) := by decide +kernel
theorem dX4_walkBack_4 : decode cX4_walkBack 4 = .ok (.iconst 1, 1) := by decide +kernel
theorem dX4_walkBack_5 : decode cX4_walkBack 5 = .ok (.isub, 1) := by decide +kernel
theorem dX4_walkBack_6 : decode cX4_walkBack 6 = .ok (.istore_n 1, 1) := by decide +kernel
theorem dX4_walkBack_7 : decode cX4_walkBack 7 = .ok (.aload_n 0, 1) := by decide +kernel
theorem dX4_walkBack_8 : decode cX4_walkBack 8 = .ok (.getfield 21, 3) := by decide +kernel
theorem dX4_walkBack_11 : decode cX4_walkBack 11 = .ok (.iconst 1, 1) := by decide +kernel
theorem dX4_walkBack_12 : decode cX4_walkBack 12 = .ok (.isub, 1) := by decide +kernel
theorem dX4_walkBack_13 : decode cX4_walkBack 13 = .ok (.istore_n 2, 1) := by decide +kernel
theorem dX4_walkBack_14 : decode cX4_walkBack 14 = .ok (.aload_n 0, 1) := by decide +kernel
theorem dX4_walkBack_15 : decode cX4_walkBack 15 = .ok (.iconst 0, 1) := by decide +kernel
theorem dX4_walkBack_16 : decode cX4_walkBack 16 = .ok (.iload_n 1, 1) := by decide +kernel
theorem dX4_walkBack_17 : decode cX4_walkBack 17 = .ok (.iload_n 2, 1) := by decide +kernel
theorem dX4_walkBack_18 : decode cX4_walkBack 18 = .ok (.invokevirtual 74, 3) := by decide +kernel
theorem dX4_walkBack_21 : decode cX4_walkBack 21 = .ok (.aload_n 0, 1) := by decide +kernel
theorem dX4_walkBack_22 : decode cX4_walkBack 22 = .ok (.iconst 1, 1) := by decide +kernel
theorem dX4_walkBack_23 : decode cX4_walkBack 23 = .ok (.putfield 34, 3) := by decide +kernel
theorem dX4_walkBack_26 : decode cX4_walkBack 26 = .ok (.aload_n 0, 1) := by decide +kernel
theorem dX4_walkBack_27 : decode cX4_walkBack 27 = .ok (.getfield 34, 3) := by decide +kernel
theorem dX4_walkBack_30 : decode cX4_walkBack 30 = .ok (.bipush 59, 2) := by decide +kernel
theorem dX4_walkBack_32 : decode cX4_walkBack 32 = .ok (.if_icmp .ge 129, 3) := by decide +kernel
theorem dX4_walkBack_35 : decode cX4_walkBack 35 = .ok (.iload_n 1, 1) := by decide +kernel
theorem dX4_walkBack_36 : decode cX4_walkBack 36 = .ok (.ifCond .gt 7, 3) := by decide +kernel
theorem dX4_walkBack_39 : decode cX4_walkBack 39 = .ok (.iload_n 2, 1) := by decide +kernel
theorem dX4_walkBack_40 : decode cX4_walkBack 40 = .ok (.ifCond .le 121, 3) := by decide +kernel
theorem dX4_walkBack_43 : decode cX4_walkBack 43 = .ok (.aload_n 0, 1) := by decide +kernel
theorem dX4_walkBack_44 : decode cX4_walkBack 44 = .ok (.iload_n 1, 1) := by decide +kernel
theorem dX4_walkBack_45 : decode cX4_walkBack 45 = .ok (.iload_n 2, 1) := by decide +kernel
theorem dX4_walkBack_46 : decode cX4_walkBack 46 = .ok (.invokevirtual 49, 3) := by decide +kernel
theorem dX4_walkBack_49 : decode cX4_walkBack 49 = .ok (.istore_n 3, 1) := by decide +kernel
theorem dX4_walkBack_50 : decode cX4_walkBack 50 = .ok (.iload_n 1, 1) := by decide +kernel
theorem dX4_walkBack_51 : decode cX4_walkBack 51 = .ok (.ifCond .le 30, 3) := by decide +kernel
theorem dX4_walkBack_54 : decode cX4_walkBack 54 = .ok (.iload_n 2, 1) := by decide +kernel
theorem dX4_walkBack_55 : decode cX4_walkBack 55 = .ok (.ifCond .le 26, 3) := by decide +kernel
theorem dX4_walkBack_58 : decode cX4_walkBack 58 = .ok (.aload_n 0, 1) := by decide +kernel
theorem dX4_walkBack_59 : decode cX4_walkBack 59 = .ok (.getfield 24, 3) := by decide +kernel
theorem dX4_walkBack_62 : decode cX4_walkBack 62 = .ok (.iload_n 1, 1) := by decide +kernel
theorem dX4_walkBack_63 : decode cX4_walkBack 63 = .ok (.iconst 1, 1) := by decide +kernel
theorem dX4_walkBack_64 : decode cX4_walkBack 64 = .ok (.isub, 1) := by decide +kernel
theorem dX4_walkBack_65 : decode cX4_walkBack 65 = .ok (.bipush 30, 2) := by decide +kernel
theorem dX4_walkBack_67 : decode cX4_walkBack 67 = .ok (.imul, 1) := by decide +kernel
theorem dX4_walkBack_68 : decode cX4_walkBack 68 = .ok (.iload_n 2, 1) := by decide +kernel
theorem dX4_walkBack_69 : decode cX4_walkBack 69 = .ok (.iadd, 1) := by decide +kernel
theorem dX4_walkBack_70 : decode cX4_walkBack 70 = .ok (.iconst 1, 1) := by decide +kernel
theorem dX4_walkBack_71 : decode cX4_walkBack 71 = .ok (.isub, 1) := by decide +kernel
theorem dX4_walkBack_72 : decode cX4_walkBack 72 = .ok (.iaload, 1) := by decide +kernel
theorem dX4_walkBack_73 : decode cX4_walkBack 73 = .ok (.iload_n 3, 1) := by decide +kernel
theorem dX4_walkBack_74 : decode cX4_walkBack 74 = .ok (.if_icmp .ne 7, 3) := by decide +kernel
theorem dX4_walkBack_77 : decode cX4_walkBack 77 = .ok (.iconst 1, 1) := by decide +kernel
theorem dX4_walkBack_78 : decode cX4_walkBack 78 = .ok (.goto 4, 3) := by decide +kernel
theorem dX4_walkBack_81 : decode cX4_walkBack 81 = .ok (.iconst 0, 1) := by decide +kernel
theorem dX4_walkBack_82 : decode cX4_walkBack 82 = .ok (.istore 4, 2) := by decide +kernel
theorem dX4_walkBack_84 : decode cX4_walkBack 84 = .ok (.iload 4, 2) := by decide +kernel
theorem dX4_walkBack_86 : decode cX4_walkBack 86 = .ok (.ifCond .ne 28, 3) := by decide +kernel
theorem dX4_walkBack_89 : decode cX4_walkBack 89 = .ok (.iload_n 1, 1) := by decide +kernel
theorem dX4_walkBack_90 : decode cX4_walkBack 90 = .ok (.ifCond .le 24, 3) := by decide +kernel
theorem dX4_walkBack_93 : decode cX4_walkBack 93 = .ok (.aload_n 0, 1) := by decide +kernel
theorem dX4_walkBack_94 : decode cX4_walkBack 94 = .ok (.getfield 24, 3) := by decide +kernel
theorem dX4_walkBack_97 : decode cX4_walkBack 97 = .ok (.iload_n 1, 1) := by decide +kernel
theorem dX4_walkBack_98 : decode cX4_walkBack 98 = .ok (.iconst 1, 1) := by decide +kernel
theorem dX4_walkBack_99 : decode cX4_walkBack 99 = .ok (.isub, 1) := by decide +kernel
theorem dX4_walkBack_100 : decode cX4_walkBack 100 = .ok (.bipush 30, 2) := by decide +kernel
theorem dX4_walkBack_102 : decode cX4_walkBack 102 = .ok (.imul, 1) := by decide +kernel
theorem dX4_walkBack_103 : decode cX4_walkBack 103 = .ok (.iload_n 2, 1) := by decide +kernel
theorem dX4_walkBack_104 : decode cX4_walkBack 104 = .ok (.iadd, 1) := by decide +kernel
theorem dX4_walkBack_105 : decode cX4_walkBack 105 = .ok (.iaload, 1) := by decide +kernel
theorem dX4_walkBack_106 : decode cX4_walkBack 106 = .ok (.iload_n 3, 1) := by decide +kernel
theorem dX4_walkBack_107 : decode cX4_walkBack 107 = .ok (.if_icmp .ne 7, 3) := by decide +kernel
theorem dX4_walkBack_110 : decode cX4_walkBack 110 = .ok (.iconst 1, 1) := by decide +kernel
theorem dX4_walkBack_111 : decode cX4_walkBack 111 = .ok (.goto 4, 3) := by decide +kernel
theorem dX4_walkBack_114 : decode cX4_walkBack 114 = .ok (.iconst 0, 1) := by decide +kernel
theorem dX4_walkBack_115 : decode cX4_walkBack 115 = .ok (.istore 5, 2) := by decide +kernel
theorem dX4_walkBack_117 : decode cX4_walkBack 117 = .ok (.iload 4, 2) := by decide +kernel
theorem dX4_walkBack_119 : decode cX4_walkBack 119 = .ok (.ifCond .ne 8, 3) := by decide +kernel
theorem dX4_walkBack_122 : decode cX4_walkBack 122 = .ok (.iload 5, 2) := by decide +kernel
theorem dX4_walkBack_124 : decode cX4_walkBack 124 = .ok (.ifCond .eq 6, 3) := by decide +kernel
theorem dX4_walkBack_127 : decode cX4_walkBack 127 = .ok (.iinc 1 (-1), 3) := by decide +kernel
theorem dX4_walkBack_130 : decode cX4_walkBack 130 = .ok (.iload 5, 2) := by decide +kernel
theorem dX4_walkBack_132 : decode cX4_walkBack 132 = .ok (.ifCond .ne 6, 3) := by decide +kernel
theorem dX4_walkBack_135 : decode cX4_walkBack 135 = .ok (.iinc 2 (-1), 3) := by decide +kernel
theorem dX4_walkBack_138 : decode cX4_walkBack 138 = .ok (.aload_n 0, 1) := by decide +kernel
theorem dX4_walkBack_139 : decode cX4_walkBack 139 = .ok (.aload_n 0, 1) := by decide +kernel
theorem dX4_walkBack_140 : decode cX4_walkBack 140 = .ok (.getfield 34, 3) := by decide +kernel
theorem dX4_walkBack_143 : decode cX4_walkBack 143 = .ok (.iload_n 1, 1) := by decide +kernel
theorem dX4_walkBack_144 : decode cX4_walkBack 144 = .ok (.iload_n 2, 1) := by decide +kernel
theorem dX4_walkBack_145 : decode cX4_walkBack 145 = .ok (.invokevirtual 74, 3) := by decide +kernel
theorem dX4_walkBack_148 : decode cX4_walkBack 148 = .ok (.aload_n 0, 1) := by decide +kernel
theorem dX4_walkBack_149 : decode cX4_walkBack 149 = .ok (.dup, 1) := by decide +kernel
theorem dX4_walkBack_150 : decode cX4_walkBack 150 = .ok (.getfield 34, 3) := by decide +kernel
theorem dX4_walkBack_153 : decode cX4_walkBack 153 = .ok (.iconst 1, 1) := by decide +kernel
theorem dX4_walkBack_154 : decode cX4_walkBack 154 = .ok (.iadd, 1) := by decide +kernel
theorem dX4_walkBack_155 : decode cX4_walkBack 155 = .ok (.putfield 34, 3) := by decide +kernel
theorem dX4_walkBack_158 : decode cX4_walkBack 158 = .ok (.goto (-132), 3) := by decide +kernel
theorem dX4_walkBack_161 : decode cX4_walkBack 161 = .ok (.return_, 1) := by decide +kernel
theorem dX4_meet_0 : decode cX4_meet 0 = .ok (.aload_n 0, 1) := by decide +kernel
theorem dX4_meet_1 : decode cX4_meet 1 = .ok (.getfield 28, 3) := by decide +kernel
theorem dX4_meet_4 : decode cX4_meet 4 = .ok (.iload_n 1, 1) := by decide +kernel
theorem dX4_meet_5 : decode cX4_meet 5 = .ok (.iload_n 2, 1) := by decide +kernel
theorem dX4_meet_6 : decode cX4_meet 6 = .ok (.iastore, 1) := by decide +kernel
theorem dX4_meet_7 : decode cX4_meet 7 = .ok (.aload_n 0, 1) := by decide +kernel
theorem dX4_meet_8 : decode cX4_meet 8 = .ok (.getfield 31, 3) := by decide +kernel
theorem dX4_meet_11 : decode cX4_meet 11 = .ok (.iload_n 1, 1) := by decide +kernel
theorem dX4_meet_12 : decode cX4_meet 12 = .ok (.iload_n 3, 1) := by decide +kernel
theorem dX4_meet_13 : decode cX4_meet 13 = .ok (.iastore, 1) := by decide +kernel
theorem dX4_meet_14 : decode cX4_meet 14 = .ok (.return_, 1) := by decide +kernel
theorem dX4_oftenMet_0 : decode cX4_oftenMet 0 = .ok (.iconst 0, 1) := by decide +kernel
theorem dX4_oftenMet_1 : decode cX4_oftenMet 1 = .ok (.istore_n 3, 1) := by decide +kernel
theorem dX4_oftenMet_2 : decode cX4_oftenMet 2 = .ok (.iconst 0, 1) := by decide +kernel
theorem dX4_oftenMet_3 : decode cX4_oftenMet 3 = .ok (.istore 4, 2) := by decide +kernel
theorem dX4_oftenMet_5 : decode cX4_oftenMet 5 = .ok (.iload 4, 2) := by decide +kernel
theorem dX4_oftenMet_7 : decode cX4_oftenMet 7 = .ok (.iload_n 2, 1) := by decide +kernel
theorem dX4_oftenMet_8 : decode cX4_oftenMet 8 = .ok (.if_icmp .ge 23, 3) := by decide +kernel
theorem dX4_oftenMet_11 : decode cX4_oftenMet 11 = .ok (.aload_n 0, 1) := by decide +kernel
theorem dX4_oftenMet_12 : decode cX4_oftenMet 12 = .ok (.aload_n 1, 1) := by decide +kernel
theorem dX4_oftenMet_13 : decode cX4_oftenMet 13 = .ok (.iload 4, 2) := by decide +kernel
theorem dX4_oftenMet_15 : decode cX4_oftenMet 15 = .ok (.invokevirtual 78, 3) := by decide +kernel
theorem dX4_oftenMet_18 : decode cX4_oftenMet 18 = .ok (.iconst 2, 1) := by decide +kernel
theorem dX4_oftenMet_19 : decode cX4_oftenMet 19 = .ok (.if_icmp .lt 6, 3) := by decide +kernel
theorem dX4_oftenMet_22 : decode cX4_oftenMet 22 = .ok (.iinc 3 1, 3) := by decide +kernel
theorem dX4_oftenMet_25 : decode cX4_oftenMet 25 = .ok (.iinc 4 1, 3) := by decide +kernel
theorem dX4_oftenMet_28 : decode cX4_oftenMet 28 = .ok (.goto (-23), 3) := by decide +kernel
theorem dX4_oftenMet_31 : decode cX4_oftenMet 31 = .ok (.iload_n 3, 1) := by decide +kernel
theorem dX4_oftenMet_32 : decode cX4_oftenMet 32 = .ok (.ireturn, 1) := by decide +kernel
theorem dX4_timesMet_0 : decode cX4_timesMet 0 = .ok (.iconst 0, 1) := by decide +kernel
theorem dX4_timesMet_1 : decode cX4_timesMet 1 = .ok (.istore_n 3, 1) := by decide +kernel
theorem dX4_timesMet_2 : decode cX4_timesMet 2 = .ok (.iconst 0, 1) := by decide +kernel
theorem dX4_timesMet_3 : decode cX4_timesMet 3 = .ok (.istore 4, 2) := by decide +kernel
theorem dX4_timesMet_5 : decode cX4_timesMet 5 = .ok (.iload 4, 2) := by decide +kernel
theorem dX4_timesMet_7 : decode cX4_timesMet 7 = .ok (.aload_n 0, 1) := by decide +kernel
theorem dX4_timesMet_8 : decode cX4_timesMet 8 = .ok (.getfield 34, 3) := by decide +kernel
theorem dX4_timesMet_11 : decode cX4_timesMet 11 = .ok (.if_icmp .ge 20, 3) := by decide +kernel
theorem dX4_timesMet_14 : decode cX4_timesMet 14 = .ok (.aload_n 1, 1) := by decide +kernel
theorem dX4_timesMet_15 : decode cX4_timesMet 15 = .ok (.iload 4, 2) := by decide +kernel
theorem dX4_timesMet_17 : decode cX4_timesMet 17 = .ok (.iaload, 1) := by decide +kernel
theorem dX4_timesMet_18 : decode cX4_timesMet 18 = .ok (.iload_n 2, 1) := by decide +kernel
theorem dX4_timesMet_19 : decode cX4_timesMet 19 = .ok (.if_icmp .ne 6, 3) := by decide +kernel
theorem dX4_timesMet_22 : decode cX4_timesMet 22 = .ok (.iinc 3 1, 3) := by decide +kernel
theorem dX4_timesMet_25 : decode cX4_timesMet 25 = .ok (.iinc 4 1, 3) := by decide +kernel
theorem dX4_timesMet_28 : decode cX4_timesMet 28 = .ok (.goto (-23), 3) := by decide +kernel
theorem dX4_timesMet_31 : decode cX4_timesMet 31 = .ok (.iload_n 3, 1) := by decide +kernel
theorem dX4_timesMet_32 : decode cX4_timesMet 32 = .ok (.ireturn, 1) := by decide +kernel
theorem dX5_init_0 : decode cX5_init 0 = .ok (.aload_n 0, 1) := by decide +kernel
theorem dX5_init_1 : decode cX5_init 1 = .ok (.invokespecial 5, 3) := by decide +kernel
theorem dX5_init_4 : decode cX5_init 4 = .ok (.aload_n 0, 1) := by decide +kernel
theorem dX5_init_5 : decode cX5_init 5 = .ok (.iconst 2, 1) := by decide +kernel
theorem dX5_init_6 : decode cX5_init 6 = .ok (.newarray .int, 2) := by decide +kernel
theorem dX5_init_8 : decode cX5_init 8 = .ok (.putfield 11, 3) := by decide +kernel
theorem dX5_init_11 : decode cX5_init 11 = .ok (.aload_n 0, 1) := by decide +kernel
theorem dX5_init_12 : decode cX5_init 12 = .ok (.iconst 2, 1) := by decide +kernel
theorem dX5_init_13 : decode cX5_init 13 = .ok (.newarray .int, 2) := by decide +kernel
theorem dX5_init_15 : decode cX5_init 15 = .ok (.putfield 15, 3) := by decide +kernel
theorem dX5_init_18 : decode cX5_init 18 = .ok (.aload_n 0, 1) := by decide +kernel
theorem dX5_init_19 : decode cX5_init 19 = .ok (.sipush 288, 3) := by decide +kernel
theorem dX5_init_22 : decode cX5_init 22 = .ok (.newarray .int, 2) := by decide +kernel
theorem dX5_init_24 : decode cX5_init 24 = .ok (.putfield 18, 3) := by decide +kernel
theorem dX5_init_27 : decode cX5_init 27 = .ok (.return_, 1) := by decide +kernel
theorem dX5_isSize_0 : decode cX5_isSize 0 = .ok (.iload_n 0, 1) := by decide +kernel
theorem dX5_isSize_1 : decode cX5_isSize 1 = .ok (.iconst 1, 1) := by decide +kernel
theorem dX5_isSize_2 : decode cX5_isSize 2 = .ok (.bipush 12, 2) := by decide +kernel
theorem dX5_isSize_4 : decode cX5_isSize 4 = .ok (.invokestatic 21, 3) := by decide +kernel
theorem dX5_isSize_7 : decode cX5_isSize 7 = .ok (.ifCond .eq 17, 3) := by decide +kernel
theorem dX5_isSize_10 : decode cX5_isSize 10 = .ok (.iload_n 1, 1) := by decide +kernel
theorem dX5_isSize_11 : decode cX5_isSize 11 = .ok (.iconst 1, 1) := by decide +kernel
theorem dX5_isSize_12 : decode cX5_isSize 12 = .ok (.bipush 12, 2) := by decide +kernel
theorem dX5_isSize_14 : decode cX5_isSize 14 = .ok (.invokestatic 21, 3) := by decide +kernel
theorem dX5_isSize_17 : decode cX5_isSize 17 = .ok (.ifCond .eq 7, 3) := by decide +kernel
theorem dX5_isSize_20 : decode cX5_isSize 20 = .ok (.iconst 1, 1) := by decide +kernel
theorem dX5_isSize_21 : decode cX5_isSize 21 = .ok (.goto 4, 3) := by decide +kernel
theorem dX5_isSize_24 : decode cX5_isSize 24 = .ok (.iconst 0, 1) := by decide +kernel
theorem dX5_isSize_25 : decode cX5_isSize 25 = .ok (.ireturn, 1) := by decide +kernel
theorem dX5_isTold_0 : decode cX5_isTold 0 = .ok (.aload_n 0, 1) := by decide +kernel
theorem dX5_isTold_1 : decode cX5_isTold 1 = .ok (.getfield 11, 3) := by decide +kernel
theorem dX5_isTold_4 : decode cX5_isTold 4 = .ok (.iload_n 1, 1) := by decide +kernel
theorem dX5_isTold_5 : decode cX5_isTold 5 = .ok (.iaload, 1) := by decide +kernel
theorem dX5_isTold_6 : decode cX5_isTold 6 = .ok (.ifCond .le 7, 3) := by decide +kernel
theorem dX5_isTold_9 : decode cX5_isTold 9 = .ok (.iconst 1, 1) := by decide +kernel
theorem dX5_isTold_10 : decode cX5_isTold 10 = .ok (.goto 4, 3) := by decide +kernel
theorem dX5_isTold_13 : decode cX5_isTold 13 = .ok (.iconst 0, 1) := by decide +kernel
theorem dX5_isTold_14 : decode cX5_isTold 14 = .ok (.ireturn, 1) := by decide +kernel
theorem dX5_take_0 : decode cX5_take 0 = .ok (.aload_n 0, 1) := by decide +kernel
theorem dX5_take_1 : decode cX5_take 1 = .ok (.getfield 11, 3) := by decide +kernel
theorem dX5_take_4 : decode cX5_take 4 = .ok (.iload_n 1, 1) := by decide +kernel
theorem dX5_take_5 : decode cX5_take 5 = .ok (.iload 5, 2) := by decide +kernel
theorem dX5_take_7 : decode cX5_take 7 = .ok (.iastore, 1) := by decide +kernel
theorem dX5_take_8 : decode cX5_take 8 = .ok (.aload_n 0, 1) := by decide +kernel
theorem dX5_take_9 : decode cX5_take 9 = .ok (.getfield 15, 3) := by decide +kernel
theorem dX5_take_12 : decode cX5_take 12 = .ok (.iload_n 1, 1) := by decide +kernel
theorem dX5_take_13 : decode cX5_take 13 = .ok (.iload 6, 2) := by decide +kernel
theorem dX5_take_15 : decode cX5_take 15 = .ok (.iastore, 1) := by decide +kernel
theorem dX5_take_16 : decode cX5_take 16 = .ok (.iconst 0, 1) := by decide +kernel
theorem dX5_take_17 : decode cX5_take 17 = .ok (.istore 7, 2) := by decide +kernel
theorem dX5_take_19 : decode cX5_take 19 = .ok (.iload 7, 2) := by decide +kernel
theorem dX5_take_21 : decode cX5_take 21 = .ok (.iload 5, 2) := by decide +kernel
theorem dX5_take_23 : decode cX5_take 23 = .ok (.iload 6, 2) := by decide +kernel
theorem dX5_take_25 : decode cX5_take 25 = .ok (.imul, 1) := by decide +kernel
theorem dX5_take_26 : decode cX5_take 26 = .ok (.if_icmp .ge 32, 3) := by decide +kernel
theorem dX5_take_29 : decode cX5_take 29 = .ok (.aload_n 0, 1) := by decide +kernel
theorem dX5_take_30 : decode cX5_take 30 = .ok (.getfield 18, 3) := by decide +kernel
theorem dX5_take_33 : decode cX5_take 33 = .ok (.iload_n 1, 1) := by decide +kernel
theorem dX5_take_34 : decode cX5_take 34 = .ok (.sipush 144, 3) := by decide +kernel
theorem dX5_take_37 : decode cX5_take 37 = .ok (.imul, 1) := by decide +kernel
theorem dX5_take_38 : decode cX5_take 38 = .ok (.iload 7, 2) := by decide +kernel
theorem dX5_take_40 : decode cX5_take 40 = .ok (.iadd, 1) := by decide +kernel
theorem dX5_take_41 : decode cX5_take 41 = .ok (.aload_n 2, 1) := by decide +kernel
theorem dX5_take_42 : decode cX5_take 42 = .ok (.iload_n 3, 1) := by decide +kernel
theorem dX5_take_43 : decode cX5_take 43 = .ok (.iload 4, 2) := by decide +kernel
theorem dX5_take_45 : decode cX5_take 45 = .ok (.iload 7, 2) := by decide +kernel
theorem dX5_take_47 : decode cX5_take 47 = .ok (.iadd, 1) := by decide +kernel
theorem dX5_take_48 : decode cX5_take 48 = .ok (.invokevirtual 25, 3) := by decide +kernel
theorem dX5_take_51 : decode cX5_take 51 = .ok (.iastore, 1) := by decide +kernel
theorem dX5_take_52 : decode cX5_take 52 = .ok (.iinc 7 1, 3) := by decide +kernel
theorem dX5_take_55 : decode cX5_take 55 = .ok (.goto (-36), 3) := by decide +kernel
theorem dX5_take_58 : decode cX5_take 58 = .ok (.return_, 1) := by decide +kernel
theorem dX5_numberAt_0 : decode cX5_numberAt 0 = .ok (.iload_n 2, 1) := by decide +kernel
theorem dX5_numberAt_1 : decode cX5_numberAt 1 = .ok (.aload_n 0, 1) := by decide +kernel
theorem dX5_numberAt_2 : decode cX5_numberAt 2 = .ok (.getfield 11, 3) := by decide +kernel
theorem dX5_numberAt_5 : decode cX5_numberAt 5 = .ok (.iload_n 1, 1) := by decide +kernel
theorem dX5_numberAt_6 : decode cX5_numberAt 6 = .ok (.iaload, 1) := by decide +kernel
theorem dX5_numberAt_7 : decode cX5_numberAt 7 = .ok (.imul, 1) := by decide +kernel
theorem dX5_numberAt_8 : decode cX5_numberAt 8 = .ok (.sipush 1001, 3) := by decide +kernel
theorem dX5_numberAt_11 : decode cX5_numberAt 11 = .ok (.idiv, 1) := by decide +kernel
theorem dX5_numberAt_12 : decode cX5_numberAt 12 = .ok (.istore 4, 2) := by decide +kernel
theorem dX5_numberAt_14 : decode cX5_numberAt 14 = .ok (.iload_n 3, 1) := by decide +kernel
theorem dX5_numberAt_15 : decode cX5_numberAt 15 = .ok (.aload_n 0, 1) := by decide +kernel
theorem dX5_numberAt_16 : decode cX5_numberAt 16 = .ok (.getfield 15, 3) := by decide +kernel
theorem dX5_numberAt_19 : decode cX5_numberAt 19 = .ok (.iload_n 1, 1) := by decide +kernel
theorem dX5_numberAt_20 : decode cX5_numberAt 20 = .ok (.iaload, 1) := by decide +kernel
theorem dX5_numberAt_21 : decode cX5_numberAt 21 = .ok (.imul, 1) := by decide +kernel
theorem dX5_numberAt_22 : decode cX5_numberAt 22 = .ok (.sipush 1001, 3) := by decide +kernel
theorem dX5_numberAt_25 : decode cX5_numberAt 25 = .ok (.idiv, 1) := by decide +kernel
theorem dX5_numberAt_26 : decode cX5_numberAt 26 = .ok (.istore 5, 2) := by decide +kernel
theorem dX5_numberAt_28 : decode cX5_numberAt 28 = .ok (.aload_n 0, 1) := by decide +kernel
theorem dX5_numberAt_29 : decode cX5_numberAt 29 = .ok (.getfield 18, 3) := by decide +kernel
theorem dX5_numberAt_32 : decode cX5_numberAt 32 = .ok (.iload_n 1, 1) := by decide +kernel
theorem dX5_numberAt_33 : decode cX5_numberAt 33 = .ok (.sipush 144, 3) := by decide +kernel
theorem dX5_numberAt_36 : decode cX5_numberAt 36 = .ok (.imul, 1) := by decide +kernel
theorem dX5_numberAt_37 : decode cX5_numberAt 37 = .ok (.iload 5, 2) := by decide +kernel
theorem dX5_numberAt_39 : decode cX5_numberAt 39 = .ok (.aload_n 0, 1) := by decide +kernel
theorem dX5_numberAt_40 : decode cX5_numberAt 40 = .ok (.getfield 11, 3) := by decide +kernel
theorem dX5_numberAt_43 : decode cX5_numberAt 43 = .ok (.iload_n 1, 1) := by decide +kernel
theorem dX5_numberAt_44 : decode cX5_numberAt 44 = .ok (.iaload, 1) := by decide +kernel
theorem dX5_numberAt_45 : decode cX5_numberAt 45 = .ok (.imul, 1) := by decide +kernel
theorem dX5_numberAt_46 : decode cX5_numberAt 46 = .ok (.iadd, 1) := by decide +kernel
theorem dX5_numberAt_47 : decode cX5_numberAt 47 = .ok (.iload 4, 2) := by decide +kernel
theorem dX5_numberAt_49 : decode cX5_numberAt 49 = .ok (.iadd, 1) := by decide +kernel
theorem dX5_numberAt_50 : decode cX5_numberAt 50 = .ok (.iaload, 1) := by decide +kernel
theorem dX5_numberAt_51 : decode cX5_numberAt 51 = .ok (.ireturn, 1) := by decide +kernel
theorem dX6_init_0 : decode cX6_init 0 = .ok (.aload_n 0, 1) := by decide +kernel
theorem dX6_init_1 : decode cX6_init 1 = .ok (.invokespecial 1, 3) := by decide +kernel
theorem dX6_init_4 : decode cX6_init 4 = .ok (.aload_n 0, 1) := by decide +kernel
theorem dX6_init_5 : decode cX6_init 5 = .ok (.bipush 8, 2) := by decide +kernel
theorem dX6_init_7 : decode cX6_init 7 = .ok (.newarray .int, 2) := by decide +kernel
theorem dX6_init_9 : decode cX6_init 9 = .ok (.putfield 9, 3) := by decide +kernel
theorem dX6_init_12 : decode cX6_init 12 = .ok (.aload_n 0, 1) := by decide +kernel
theorem dX6_init_13 : decode cX6_init 13 = .ok (.bipush 8, 2) := by decide +kernel
theorem dX6_init_15 : decode cX6_init 15 = .ok (.newarray .int, 2) := by decide +kernel
theorem dX6_init_17 : decode cX6_init 17 = .ok (.putfield 13, 3) := by decide +kernel
theorem dX6_init_20 : decode cX6_init 20 = .ok (.aload_n 0, 1) := by decide +kernel
theorem dX6_init_21 : decode cX6_init 21 = .ok (.sipush 1152, 3) := by decide +kernel
theorem dX6_init_24 : decode cX6_init 24 = .ok (.newarray .int, 2) := by decide +kernel
theorem dX6_init_26 : decode cX6_init 26 = .ok (.putfield 16, 3) := by decide +kernel
theorem dX6_init_29 : decode cX6_init 29 = .ok (.iconst 0, 1) := by decide +kernel
theorem dX6_init_30 : decode cX6_init 30 = .ok (.istore_n 1, 1) := by decide +kernel
theorem dX6_init_31 : decode cX6_init 31 = .ok (.iload_n 1, 1) := by decide +kernel
theorem dX6_init_32 : decode cX6_init 32 = .ok (.bipush 8, 2) := by decide +kernel
theorem dX6_init_34 : decode cX6_init 34 = .ok (.if_icmp .ge 16, 3) := by decide +kernel
theorem dX6_init_37 : decode cX6_init 37 = .ok (.aload_n 0, 1) := by decide +kernel
theorem dX6_init_38 : decode cX6_init 38 = .ok (.getfield 13, 3) := by decide +kernel
theorem dX6_init_41 : decode cX6_init 41 = .ok (.iload_n 1, 1) := by decide +kernel
theorem dX6_init_42 : decode cX6_init 42 = .ok (.iconst (-1), 1) := by decide +kernel
theorem dX6_init_43 : decode cX6_init 43 = .ok (.iastore, 1) := by decide +kernel
theorem dX6_init_44 : decode cX6_init 44 = .ok (.iinc 1 1, 3) := by decide +kernel
theorem dX6_init_47 : decode cX6_init 47 = .ok (.goto (-16), 3) := by decide +kernel
theorem dX6_init_50 : decode cX6_init 50 = .ok (.return_, 1) := by decide +kernel
theorem dX6_isSheet_0 : decode cX6_isSheet 0 = .ok (.iload_n 0, 1) := by decide +kernel
theorem dX6_isSheet_1 : decode cX6_isSheet 1 = .ok (.iconst 0, 1) := by decide +kernel
theorem dX6_isSheet_2 : decode cX6_isSheet 2 = .ok (.bipush 7, 2) := by decide +kernel
theorem dX6_isSheet_4 : decode cX6_isSheet 4 = .ok (.invokestatic 19, 3) := by decide +kernel
theorem dX6_isSheet_7 : decode cX6_isSheet 7 = .ok (.ireturn, 1) := by decide +kernel
theorem dX6_isLane_0 : decode cX6_isLane 0 = .ok (.iload_n 0, 1) := by decide +kernel
theorem dX6_isLane_1 : decode cX6_isLane 1 = .ok (.iconst 0, 1) := by decide +kernel
theorem dX6_isLane_2 : decode cX6_isLane 2 = .ok (.iconst 2, 1) := by decide +kernel
theorem dX6_isLane_3 : decode cX6_isLane 3 = .ok (.invokestatic 19, 3) := by decide +kernel
theorem dX6_isLane_6 : decode cX6_isLane 6 = .ok (.ireturn, 1) := by decide +kernel
theorem dX6_isMissing_0 : decode cX6_isMissing 0 = .ok (.aload_n 0, 1) := by decide +kernel
theorem dX6_isMissing_1 : decode cX6_isMissing 1 = .ok (.getfield 13, 3) := by decide +kernel
theorem dX6_isMissing_4 : decode cX6_isMissing 4 = .ok (.iload_n 1, 1) := by decide +kernel
theorem dX6_isMissing_5 : decode cX6_isMissing 5 = .ok (.iaload, 1) := by decide +kernel
theorem dX6_isMissing_6 : decode cX6_isMissing 6 = .ok (.iconst (-1), 1) := by decide +kernel
theorem dX6_isMissing_7 : decode cX6_isMissing 7 = .ok (.if_icmp .ne 7, 3) := by decide +kernel
theorem dX6_isMissing_10 : decode cX6_isMissing 10 = .ok (.iconst 1, 1) := by decide +kernel
theorem dX6_isMissing_11 : decode cX6_isMissing 11 = .ok (.goto 4, 3) := by decide +kernel
theorem dX6_isMissing_14 : decode cX6_isMissing 14 = .ok (.iconst 0, 1) := by decide +kernel
theorem dX6_isMissing_15 : decode cX6_isMissing 15 = .ok (.ireturn, 1) := by decide +kernel
theorem dX6_hasItems_0 : decode cX6_hasItems 0 = .ok (.iload_n 2, 1) := by decide +kernel
theorem dX6_hasItems_1 : decode cX6_hasItems 1 = .ok (.ifCond .lt 23, 3) := by decide +kernel
theorem dX6_hasItems_4 : decode cX6_hasItems 4 = .ok (.iload_n 3, 1) := by decide +kernel
theorem dX6_hasItems_5 : decode cX6_hasItems 5 = .ok (.ifCond .lt 19, 3) := by decide +kernel
theorem dX6_hasItems_8 : decode cX6_hasItems 8 = .ok (.iload_n 2, 1) := by decide +kernel
theorem dX6_hasItems_9 : decode cX6_hasItems 9 = .ok (.aload_n 0, 1) := by decide +kernel
theorem dX6_hasItems_10 : decode cX6_hasItems 10 = .ok (.getfield 13, 3) := by decide +kernel
theorem dX6_hasItems_13 : decode cX6_hasItems 13 = .ok (.iload_n 1, 1) := by decide +kernel
theorem dX6_hasItems_14 : decode cX6_hasItems 14 = .ok (.iaload, 1) := by decide +kernel
theorem dX6_hasItems_15 : decode cX6_hasItems 15 = .ok (.iload_n 3, 1) := by decide +kernel
theorem dX6_hasItems_16 : decode cX6_hasItems 16 = .ok (.isub, 1) := by decide +kernel
theorem dX6_hasItems_17 : decode cX6_hasItems 17 = .ok (.if_icmp .gt 7, 3) := by decide +kernel
theorem dX6_hasItems_20 : decode cX6_hasItems 20 = .ok (.iconst 1, 1) := by decide +kernel
theorem dX6_hasItems_21 : decode cX6_hasItems 21 = .ok (.goto 4, 3) := by decide +kernel
theorem dX6_hasItems_24 : decode cX6_hasItems 24 = .ok (.iconst 0, 1) := by decide +kernel
theorem dX6_hasItems_25 : decode cX6_hasItems 25 = .ok (.ireturn, 1) := by decide +kernel
theorem dX6_allWithin_0 : decode cX6_allWithin 0 = .ok (.iload_n 2, 1) := by decide +kernel
theorem dX6_allWithin_1 : decode cX6_allWithin 1 = .ok (.istore 5, 2) := by decide +kernel
theorem dX6_allWithin_3 : decode cX6_allWithin 3 = .ok (.iload 5, 2) := by decide +kernel
theorem dX6_allWithin_5 : decode cX6_allWithin 5 = .ok (.iload_n 2, 1) := by decide +kernel
theorem dX6_allWithin_6 : decode cX6_allWithin 6 = .ok (.iload_n 3, 1) := by decide +kernel
theorem dX6_allWithin_7 : decode cX6_allWithin 7 = .ok (.iadd, 1) := by decide +kernel
theorem dX6_allWithin_8 : decode cX6_allWithin 8 = .ok (.if_icmp .ge 27, 3) := by decide +kernel
theorem dX6_allWithin_11 : decode cX6_allWithin 11 = .ok (.aload_n 0, 1) := by decide +kernel
theorem dX6_allWithin_12 : decode cX6_allWithin 12 = .ok (.iload_n 1, 1) := by decide +kernel
theorem dX6_allWithin_13 : decode cX6_allWithin 13 = .ok (.iload 5, 2) := by decide +kernel
theorem dX6_allWithin_15 : decode cX6_allWithin 15 = .ok (.invokevirtual 25, 3) := by decide +kernel
theorem dX6_allWithin_18 : decode cX6_allWithin 18 = .ok (.iconst 0, 1) := by decide +kernel
theorem dX6_allWithin_19 : decode cX6_allWithin 19 = .ok (.iload 4, 2) := by decide +kernel
theorem dX6_allWithin_21 : decode cX6_allWithin 21 = .ok (.invokestatic 19, 3) := by decide +kernel
theorem dX6_allWithin_24 : decode cX6_allWithin 24 = .ok (.ifCond .ne 5, 3) := by decide +kernel
theorem dX6_allWithin_27 : decode cX6_allWithin 27 = .ok (.iconst 0, 1) := by decide +kernel
theorem dX6_allWithin_28 : decode cX6_allWithin 28 = .ok (.ireturn, 1) := by decide +kernel
theorem dX6_allWithin_29 : decode cX6_allWithin 29 = .ok (.iinc 5 1, 3) := by decide +kernel
theorem dX6_allWithin_32 : decode cX6_allWithin 32 = .ok (.goto (-29), 3) := by decide +kernel
theorem dX6_allWithin_35 : decode cX6_allWithin 35 = .ok (.iconst 1, 1) := by decide +kernel
theorem dX6_allWithin_36 : decode cX6_allWithin 36 = .ok (.ireturn, 1) := by decide +kernel
theorem dX6_laneOf_0 : decode cX6_laneOf 0 = .ok (.aload_n 0, 1) := by decide +kernel
theorem dX6_laneOf_1 : decode cX6_laneOf 1 = .ok (.getfield 9, 3) := by decide +kernel
theorem dX6_laneOf_4 : decode cX6_laneOf 4 = .ok (.iload_n 1, 1) := by decide +kernel
theorem dX6_laneOf_5 : decode cX6_laneOf 5 = .ok (.iaload, 1) := by decide +kernel
theorem dX6_laneOf_6 : decode cX6_laneOf 6 = .ok (.ireturn, 1) := by decide +kernel
theorem dX6_item_0 : decode cX6_item 0 = .ok (.aload_n 0, 1) := by decide +kernel
theorem dX6_item_1 : decode cX6_item 1 = .ok (.getfield 16, 3) := by decide +kernel
theorem dX6_item_4 : decode cX6_item 4 = .ok (.iload_n 1, 1) := by decide +kernel
theorem dX6_item_5 : decode cX6_item 5 = .ok (.sipush 144, 3) := by decide +kernel
theorem dX6_item_8 : decode cX6_item 8 = .ok (.imul, 1) := by decide +kernel
theorem dX6_item_9 : decode cX6_item 9 = .ok (.iload_n 2, 1) := by decide +kernel
theorem dX6_item_10 : decode cX6_item 10 = .ok (.iadd, 1) := by decide +kernel
theorem dX6_item_11 : decode cX6_item 11 = .ok (.iaload, 1) := by decide +kernel
theorem dX6_item_12 : decode cX6_item 12 = .ok (.ireturn, 1) := by decide +kernel
theorem dX6_lay_0 : decode cX6_lay 0 = .ok (.aload_n 0, 1) := by decide +kernel
theorem dX6_lay_1 : decode cX6_lay 1 = .ok (.getfield 9, 3) := by decide +kernel
theorem dX6_lay_4 : decode cX6_lay 4 = .ok (.iload_n 1, 1) := by decide +kernel
theorem dX6_lay_5 : decode cX6_lay 5 = .ok (.iload_n 2, 1) := by decide +kernel
theorem dX6_lay_6 : decode cX6_lay 6 = .ok (.iastore, 1) := by decide +kernel
theorem dX6_lay_7 : decode cX6_lay 7 = .ok (.aload_n 0, 1) := by decide +kernel
theorem dX6_lay_8 : decode cX6_lay 8 = .ok (.getfield 13, 3) := by decide +kernel
theorem dX6_lay_11 : decode cX6_lay 11 = .ok (.iload_n 1, 1) := by decide +kernel
theorem dX6_lay_12 : decode cX6_lay 12 = .ok (.iload_n 3, 1) := by decide +kernel
theorem dX6_lay_13 : decode cX6_lay 13 = .ok (.iastore, 1) := by decide +kernel
theorem dX6_lay_14 : decode cX6_lay 14 = .ok (.iconst 0, 1) := by decide +kernel
theorem dX6_lay_15 : decode cX6_lay 15 = .ok (.istore 4, 2) := by decide +kernel
theorem dX6_lay_17 : decode cX6_lay 17 = .ok (.iload 4, 2) := by decide +kernel
theorem dX6_lay_19 : decode cX6_lay 19 = .ok (.iload_n 3, 1) := by decide +kernel
theorem dX6_lay_20 : decode cX6_lay 20 = .ok (.if_icmp .ge 23, 3) := by decide +kernel
theorem dX6_lay_23 : decode cX6_lay 23 = .ok (.aload_n 0, 1) := by decide +kernel
theorem dX6_lay_24 : decode cX6_lay 24 = .ok (.getfield 16, 3) := by decide +kernel
theorem dX6_lay_27 : decode cX6_lay 27 = .ok (.iload_n 1, 1) := by decide +kernel
theorem dX6_lay_28 : decode cX6_lay 28 = .ok (.sipush 144, 3) := by decide +kernel
theorem dX6_lay_31 : decode cX6_lay 31 = .ok (.imul, 1) := by decide +kernel
theorem dX6_lay_32 : decode cX6_lay 32 = .ok (.iload 4, 2) := by decide +kernel
theorem dX6_lay_34 : decode cX6_lay 34 = .ok (.iadd, 1) := by decide +kernel
theorem dX6_lay_35 : decode cX6_lay 35 = .ok (.iconst 0, 1) := by decide +kernel
theorem dX6_lay_36 : decode cX6_lay 36 = .ok (.iastore, 1) := by decide +kernel
theorem dX6_lay_37 : decode cX6_lay 37 = .ok (.iinc 4 1, 3) := by decide +kernel
theorem dX6_lay_40 : decode cX6_lay 40 = .ok (.goto (-23), 3) := by decide +kernel
theorem dX6_lay_43 : decode cX6_lay 43 = .ok (.return_, 1) := by decide +kernel
theorem dX6_put_0 : decode cX6_put 0 = .ok (.aload_n 0, 1) := by decide +kernel
theorem dX6_put_1 : decode cX6_put 1 = .ok (.getfield 16, 3) := by decide +kernel
theorem dX6_put_4 : decode cX6_put 4 = .ok (.iload_n 1, 1) := by decide +kernel
theorem dX6_put_5 : decode cX6_put 5 = .ok (.sipush 144, 3) := by decide +kernel
theorem dX6_put_8 : decode cX6_put 8 = .ok (.imul, 1) := by decide +kernel
theorem dX6_put_9 : decode cX6_put 9 = .ok (.iload_n 2, 1) := by decide +kernel
theorem dX6_put_10 : decode cX6_put 10 = .ok (.iadd, 1) := by decide +kernel
theorem dX6_put_11 : decode cX6_put 11 = .ok (.aload_n 0, 1) := by decide +kernel
theorem dX6_put_12 : decode cX6_put 12 = .ok (.getfield 9, 3) := by decide +kernel
theorem dX6_put_15 : decode cX6_put 15 = .ok (.iload_n 1, 1) := by decide +kernel
theorem dX6_put_16 : decode cX6_put 16 = .ok (.iaload, 1) := by decide +kernel
theorem dX6_put_17 : decode cX6_put 17 = .ok (.iload_n 3, 1) := by decide +kernel
theorem dX6_put_18 : decode cX6_put 18 = .ok (.invokestatic 29, 3) := by decide +kernel
theorem dX6_put_21 : decode cX6_put 21 = .ok (.iastore, 1) := by decide +kernel
theorem dX6_put_22 : decode cX6_put 22 = .ok (.return_, 1) := by decide +kernel
theorem dX6_carry_0 : decode cX6_carry 0 = .ok (.aload_n 0, 1) := by decide +kernel
theorem dX6_carry_1 : decode cX6_carry 1 = .ok (.getfield 16, 3) := by decide +kernel
theorem dX6_carry_4 : decode cX6_carry 4 = .ok (.iload_n 1, 1) := by decide +kernel
theorem dX6_carry_5 : decode cX6_carry 5 = .ok (.sipush 144, 3) := by decide +kernel
theorem dX6_carry_8 : decode cX6_carry 8 = .ok (.imul, 1) := by decide +kernel
theorem dX6_carry_9 : decode cX6_carry 9 = .ok (.iload_n 2, 1) := by decide +kernel
theorem dX6_carry_10 : decode cX6_carry 10 = .ok (.iadd, 1) := by decide +kernel
theorem dX6_carry_11 : decode cX6_carry 11 = .ok (.aload_n 0, 1) := by decide +kernel
theorem dX6_carry_12 : decode cX6_carry 12 = .ok (.getfield 16, 3) := by decide +kernel
theorem dX6_carry_15 : decode cX6_carry 15 = .ok (.iload_n 3, 1) := by decide +kernel
theorem dX6_carry_16 : decode cX6_carry 16 = .ok (.sipush 144, 3) := by decide +kernel
theorem dX6_carry_19 : decode cX6_carry 19 = .ok (.imul, 1) := by decide +kernel
theorem dX6_carry_20 : decode cX6_carry 20 = .ok (.iload 4, 2) := by decide +kernel
theorem dX6_carry_22 : decode cX6_carry 22 = .ok (.iadd, 1) := by decide +kernel
theorem dX6_carry_23 : decode cX6_carry 23 = .ok (.iload 5, 2) := by decide +kernel
theorem dX6_carry_25 : decode cX6_carry 25 = .ok (.invokestatic 32, 3) := by decide +kernel
theorem dX6_carry_28 : decode cX6_carry 28 = .ok (.return_, 1) := by decide +kernel
theorem dX6_takeAway_0 : decode cX6_takeAway 0 = .ok (.aload_n 0, 1) := by decide +kernel
theorem dX6_takeAway_1 : decode cX6_takeAway 1 = .ok (.getfield 13, 3) := by decide +kernel
theorem dX6_takeAway_4 : decode cX6_takeAway 4 = .ok (.iload_n 1, 1) := by decide +kernel
theorem dX6_takeAway_5 : decode cX6_takeAway 5 = .ok (.iaload, 1) := by decide +kernel
theorem dX6_takeAway_6 : decode cX6_takeAway 6 = .ok (.istore_n 2, 1) := by decide +kernel
theorem dX6_takeAway_7 : decode cX6_takeAway 7 = .ok (.aload_n 0, 1) := by decide +kernel
theorem dX6_takeAway_8 : decode cX6_takeAway 8 = .ok (.getfield 13, 3) := by decide +kernel
theorem dX6_takeAway_11 : decode cX6_takeAway 11 = .ok (.iload_n 1, 1) := by decide +kernel
theorem dX6_takeAway_12 : decode cX6_takeAway 12 = .ok (.iconst (-1), 1) := by decide +kernel
theorem dX6_takeAway_13 : decode cX6_takeAway 13 = .ok (.iastore, 1) := by decide +kernel
theorem dX6_takeAway_14 : decode cX6_takeAway 14 = .ok (.iload_n 2, 1) := by decide +kernel
theorem dX6_takeAway_15 : decode cX6_takeAway 15 = .ok (.ireturn, 1) := by decide +kernel
theorem dX6_many_0 : decode cX6_many 0 = .ok (.iconst 0, 1) := by decide +kernel
theorem dX6_many_1 : decode cX6_many 1 = .ok (.istore_n 1, 1) := by decide +kernel
theorem dX6_many_2 : decode cX6_many 2 = .ok (.iconst 0, 1) := by decide +kernel
theorem dX6_many_3 : decode cX6_many 3 = .ok (.istore_n 2, 1) := by decide +kernel
theorem dX6_many_4 : decode cX6_many 4 = .ok (.iload_n 2, 1) := by decide +kernel
theorem dX6_many_5 : decode cX6_many 5 = .ok (.bipush 8, 2) := by decide +kernel
theorem dX6_many_7 : decode cX6_many 7 = .ok (.if_icmp .ge 20, 3) := by decide +kernel
theorem dX6_many_10 : decode cX6_many 10 = .ok (.aload_n 0, 1) := by decide +kernel
theorem dX6_many_11 : decode cX6_many 11 = .ok (.iload_n 2, 1) := by decide +kernel
theorem dX6_many_12 : decode cX6_many 12 = .ok (.invokevirtual 38, 3) := by decide +kernel
theorem dX6_many_15 : decode cX6_many 15 = .ok (.ifCond .ne 6, 3) := by decide +kernel
theorem dX6_many_18 : decode cX6_many 18 = .ok (.iinc 1 1, 3) := by decide +kernel
theorem dX6_many_21 : decode cX6_many 21 = .ok (.iinc 2 1, 3) := by decide +kernel
theorem dX6_many_24 : decode cX6_many 24 = .ok (.goto (-20), 3) := by decide +kernel
theorem dX6_many_27 : decode cX6_many 27 = .ok (.iload_n 1, 1) := by decide +kernel
theorem dX6_many_28 : decode cX6_many 28 = .ok (.ireturn, 1) := by decide +kernel
theorem dX6_cutToLane_0 : decode cX6_cutToLane 0 = .ok (.iload_n 0, 1) := by decide +kernel
theorem dX6_cutToLane_1 : decode cX6_cutToLane 1 = .ok (.ifCond .ne 6, 3) := by decide +kernel
theorem dX6_cutToLane_4 : decode cX6_cutToLane 4 = .ok (.iload_n 1, 1) := by decide +kernel
theorem dX6_cutToLane_5 : decode cX6_cutToLane 5 = .ok (.i2b, 1) := by decide +kernel
theorem dX6_cutToLane_6 : decode cX6_cutToLane 6 = .ok (.ireturn, 1) := by decide +kernel
theorem dX6_cutToLane_7 : decode cX6_cutToLane 7 = .ok (.iload_n 0, 1) := by decide +kernel
theorem dX6_cutToLane_8 : decode cX6_cutToLane 8 = .ok (.iconst 1, 1) := by decide +kernel
theorem dX6_cutToLane_9 : decode cX6_cutToLane 9 = .ok (.if_icmp .ne 8, 3) := by decide +kernel
theorem dX6_cutToLane_12 : decode cX6_cutToLane 12 = .ok (.iload_n 1, 1) := by decide +kernel
theorem dX6_cutToLane_13 : decode cX6_cutToLane 13 = .ok (.i2s, 1) := by decide +kernel
theorem dX6_cutToLane_14 : decode cX6_cutToLane 14 = .ok (.goto 4, 3) := by decide +kernel
theorem dX6_cutToLane_17 : decode cX6_cutToLane 17 = .ok (.iload_n 1, 1) := by decide +kernel
theorem dX6_cutToLane_18 : decode cX6_cutToLane 18 = .ok (.ireturn, 1) := by decide +kernel
theorem dX7_init_0 : decode cX7_init 0 = .ok (.aload_n 0, 1) := by decide +kernel
theorem dX7_init_1 : decode cX7_init 1 = .ok (.invokespecial 3, 3) := by decide +kernel
theorem dX7_init_4 : decode cX7_init 4 = .ok (.aload_n 0, 1) := by decide +kernel
theorem dX7_init_5 : decode cX7_init 5 = .ok (.iconst 0, 1) := by decide +kernel
theorem dX7_init_6 : decode cX7_init 6 = .ok (.putfield 9, 3) := by decide +kernel
theorem dX7_init_9 : decode cX7_init 9 = .ok (.aload_n 0, 1) := by decide +kernel
theorem dX7_init_10 : decode cX7_init 10 = .ok (.bipush 72, 2) := by decide +kernel
theorem dX7_init_12 : decode cX7_init 12 = .ok (.newarray .int, 2) := by decide +kernel
theorem dX7_init_14 : decode cX7_init 14 = .ok (.putfield 15, 3) := by decide +kernel
theorem dX7_init_17 : decode cX7_init 17 = .ok (.aload_n 0, 1) := by decide +kernel
theorem dX7_init_18 : decode cX7_init 18 = .ok (.aload_n 1, 1) := by decide +kernel
theorem dX7_init_19 : decode cX7_init 19 = .ok (.putfield 19, 3) := by decide +kernel
theorem dX7_init_22 : decode cX7_init 22 = .ok (.return_, 1) := by decide +kernel
theorem dX7_many_0 : decode cX7_many 0 = .ok (.aload_n 0, 1) := by decide +kernel
theorem dX7_many_1 : decode cX7_many 1 = .ok (.getfield 9, 3) := by decide +kernel
theorem dX7_many_4 : decode cX7_many 4 = .ok (.ireturn, 1) := by decide +kernel
theorem dX7_isFull_0 : decode cX7_isFull 0 = .ok (.aload_n 0, 1) := by decide +kernel
theorem dX7_isFull_1 : decode cX7_isFull 1 = .ok (.getfield 9, 3) := by decide +kernel
theorem dX7_isFull_4 : decode cX7_isFull 4 = .ok (.bipush 24, 2) := by decide +kernel
theorem dX7_isFull_6 : decode cX7_isFull 6 = .ok (.if_icmp .lt 7, 3) := by decide +kernel
theorem dX7_isFull_9 : decode cX7_isFull 9 = .ok (.iconst 1, 1) := by decide +kernel
theorem dX7_isFull_10 : decode cX7_isFull 10 = .ok (.goto 4, 3) := by decide +kernel
theorem dX7_isFull_13 : decode cX7_isFull 13 = .ok (.iconst 0, 1) := by decide +kernel
theorem dX7_isFull_14 : decode cX7_isFull 14 = .ok (.ireturn, 1) := by decide +kernel
theorem dX7_isThird_0 : decode cX7_isThird 0 = .ok (.iload_n 1, 1) := by decide +kernel
theorem dX7_isThird_1 : decode cX7_isThird 1 = .ok (.ifCond .lt 15, 3) := by decide +kernel
theorem dX7_isThird_4 : decode cX7_isThird 4 = .ok (.iload_n 1, 1) := by decide +kernel
theorem dX7_isThird_5 : decode cX7_isThird 5 = .ok (.aload_n 0, 1) := by decide +kernel
theorem dX7_isThird_6 : decode cX7_isThird 6 = .ok (.getfield 9, 3) := by decide +kernel
theorem dX7_isThird_9 : decode cX7_isThird 9 = .ok (.if_icmp .ge 7, 3) := by decide +kernel
theorem dX7_isThird_12 : decode cX7_isThird 12 = .ok (.iconst 1, 1) := by decide +kernel
theorem dX7_isThird_13 : decode cX7_isThird 13 = .ok (.goto 4, 3) := by decide +kernel
theorem dX7_isThird_16 : decode cX7_isThird 16 = .ok (.iconst 0, 1) := by decide +kernel
theorem dX7_isThird_17 : decode cX7_isThird 17 = .ok (.ireturn, 1) := by decide +kernel
theorem dX7_add_0 : decode cX7_add 0 = .ok (.aload_n 0, 1) := by decide +kernel
theorem dX7_add_1 : decode cX7_add 1 = .ok (.getfield 9, 3) := by decide +kernel
theorem dX7_add_4 : decode cX7_add 4 = .ok (.istore 4, 2) := by decide +kernel
theorem dX7_add_6 : decode cX7_add 6 = .ok (.aload_n 0, 1) := by decide +kernel
theorem dX7_add_7 : decode cX7_add 7 = .ok (.dup, 1) := by decide +kernel
theorem dX7_add_8 : decode cX7_add 8 = .ok (.getfield 9, 3) := by decide +kernel
theorem dX7_add_11 : decode cX7_add 11 = .ok (.iconst 1, 1) := by decide +kernel
theorem dX7_add_12 : decode cX7_add 12 = .ok (.iadd, 1) := by decide +kernel
theorem dX7_add_13 : decode cX7_add 13 = .ok (.putfield 9, 3) := by decide +kernel
theorem dX7_add_16 : decode cX7_add 16 = .ok (.aload_n 0, 1) := by decide +kernel
theorem dX7_add_17 : decode cX7_add 17 = .ok (.getfield 15, 3) := by decide +kernel
theorem dX7_add_20 : decode cX7_add 20 = .ok (.iconst 3, 1) := by decide +kernel
theorem dX7_add_21 : decode cX7_add 21 = .ok (.iload 4, 2) := by decide +kernel
theorem dX7_add_23 : decode cX7_add 23 = .ok (.imul, 1) := by decide +kernel
theorem dX7_add_24 : decode cX7_add 24 = .ok (.iload_n 1, 1) := by decide +kernel
theorem dX7_add_25 : decode cX7_add 25 = .ok (.iastore, 1) := by decide +kernel
theorem dX7_add_26 : decode cX7_add 26 = .ok (.aload_n 0, 1) := by decide +kernel
theorem dX7_add_27 : decode cX7_add 27 = .ok (.getfield 15, 3) := by decide +kernel
theorem dX7_add_30 : decode cX7_add 30 = .ok (.iconst 3, 1) := by decide +kernel
theorem dX7_add_31 : decode cX7_add 31 = .ok (.iload 4, 2) := by decide +kernel
theorem dX7_add_33 : decode cX7_add 33 = .ok (.imul, 1) := by decide +kernel
theorem dX7_add_34 : decode cX7_add 34 = .ok (.iconst 1, 1) := by decide +kernel
theorem dX7_add_35 : decode cX7_add 35 = .ok (.iadd, 1) := by decide +kernel
theorem dX7_add_36 : decode cX7_add 36 = .ok (.iload_n 2, 1) := by decide +kernel
theorem dX7_add_37 : decode cX7_add 37 = .ok (.iastore, 1) := by decide +kernel
theorem dX7_add_38 : decode cX7_add 38 = .ok (.aload_n 0, 1) := by decide +kernel
theorem dX7_add_39 : decode cX7_add 39 = .ok (.getfield 15, 3) := by decide +kernel
theorem dX7_add_42 : decode cX7_add 42 = .ok (.iconst 3, 1) := by decide +kernel
theorem dX7_add_43 : decode cX7_add 43 = .ok (.iload 4, 2) := by decide +kernel
theorem dX7_add_45 : decode cX7_add 45 = .ok (.imul, 1) := by decide +kernel
theorem dX7_add_46 : decode cX7_add 46 = .ok (.iconst 2, 1) := by decide +kernel
theorem dX7_add_47 : decode cX7_add 47 = .ok (.iadd, 1) := by decide +kernel
theorem dX7_add_48 : decode cX7_add 48 = .ok (.iload_n 3, 1) := by decide +kernel
theorem dX7_add_49 : decode cX7_add 49 = .ok (.iastore, 1) := by decide +kernel
theorem dX7_add_50 : decode cX7_add 50 = .ok (.iload 4, 2) := by decide +kernel
theorem dX7_add_52 : decode cX7_add 52 = .ok (.ireturn, 1) := by decide +kernel
theorem dX7_corner_0 : decode cX7_corner 0 = .ok (.aload_n 0, 1) := by decide +kernel
theorem dX7_corner_1 : decode cX7_corner 1 = .ok (.getfield 15, 3) := by decide +kernel
theorem dX7_corner_4 : decode cX7_corner 4 = .ok (.iconst 3, 1) := by decide +kernel
theorem dX7_corner_5 : decode cX7_corner 5 = .ok (.iload_n 1, 1) := by decide +kernel
theorem dX7_corner_6 : decode cX7_corner 6 = .ok (.imul, 1) := by decide +kernel
theorem dX7_corner_7 : decode cX7_corner 7 = .ok (.iload_n 2, 1) := by decide +kernel
theorem dX7_corner_8 : decode cX7_corner 8 = .ok (.iadd, 1) := by decide +kernel
theorem dX7_corner_9 : decode cX7_corner 9 = .ok (.iaload, 1) := by decide +kernel
theorem dX7_corner_10 : decode cX7_corner 10 = .ok (.ireturn, 1) := by decide +kernel
theorem dX7_touches_0 : decode cX7_touches 0 = .ok (.aload_n 0, 1) := by decide +kernel
theorem dX7_touches_1 : decode cX7_touches 1 = .ok (.iload_n 1, 1) := by decide +kernel
theorem dX7_touches_2 : decode cX7_touches 2 = .ok (.iconst 0, 1) := by decide +kernel
theorem dX7_touches_3 : decode cX7_touches 3 = .ok (.invokevirtual 23, 3) := by decide +kernel
theorem dX7_touches_6 : decode cX7_touches 6 = .ok (.iload_n 2, 1) := by decide +kernel
theorem dX7_touches_7 : decode cX7_touches 7 = .ok (.if_icmp .eq 23, 3) := by decide +kernel
theorem dX7_touches_10 : decode cX7_touches 10 = .ok (.aload_n 0, 1) := by decide +kernel
theorem dX7_touches_11 : decode cX7_touches 11 = .ok (.iload_n 1, 1) := by decide +kernel
theorem dX7_touches_12 : decode cX7_touches 12 = .ok (.iconst 1, 1) := by decide +kernel
theorem dX7_touches_13 : decode cX7_touches 13 = .ok (.invokevirtual 23, 3) := by decide +kernel
theorem dX7_touches_16 : decode cX7_touches 16 = .ok (.iload_n 2, 1) := by decide +kernel
theorem dX7_touches_17 : decode cX7_touches 17 = .ok (.if_icmp .eq 13, 3) := by decide +kernel
theorem dX7_touches_20 : decode cX7_touches 20 = .ok (.aload_n 0, 1) := by decide +kernel
theorem dX7_touches_21 : decode cX7_touches 21 = .ok (.iload_n 1, 1) := by decide +kernel
theorem dX7_touches_22 : decode cX7_touches 22 = .ok (.iconst 2, 1) := by decide +kernel
theorem dX7_touches_23 : decode cX7_touches 23 = .ok (.invokevirtual 23, 3) := by decide +kernel
theorem dX7_touches_26 : decode cX7_touches 26 = .ok (.iload_n 2, 1) := by decide +kernel
theorem dX7_touches_27 : decode cX7_touches 27 = .ok (.if_icmp .ne 7, 3) := by decide +kernel
theorem dX7_touches_30 : decode cX7_touches 30 = .ok (.iconst 1, 1) := by decide +kernel
theorem dX7_touches_31 : decode cX7_touches 31 = .ok (.goto 4, 3) := by decide +kernel
theorem dX7_touches_34 : decode cX7_touches 34 = .ok (.iconst 0, 1) := by decide +kernel
theorem dX7_touches_35 : decode cX7_touches 35 = .ok (.ireturn, 1) := by decide +kernel
theorem dX7_areJoined_0 : decode cX7_areJoined 0 = .ok (.iconst 0, 1) := by decide +kernel
theorem dX7_areJoined_1 : decode cX7_areJoined 1 = .ok (.istore 4, 2) := by decide +kernel
theorem dX7_areJoined_3 : decode cX7_areJoined 3 = .ok (.iload 4, 2) := by decide +kernel
theorem dX7_areJoined_5 : decode cX7_areJoined 5 = .ok (.aload_n 0, 1) := by decide +kernel
theorem dX7_areJoined_6 : decode cX7_areJoined 6 = .ok (.getfield 9, 3) := by decide +kernel
theorem dX7_areJoined_9 : decode cX7_areJoined 9 = .ok (.if_icmp .ge 41, 3) := by decide +kernel
theorem dX7_areJoined_12 : decode cX7_areJoined 12 = .ok (.aload_n 0, 1) := by decide +kernel
theorem dX7_areJoined_13 : decode cX7_areJoined 13 = .ok (.iload 4, 2) := by decide +kernel
theorem dX7_areJoined_15 : decode cX7_areJoined 15 = .ok (.iload_n 1, 1) := by decide +kernel
theorem dX7_areJoined_16 : decode cX7_areJoined 16 = .ok (.invokevirtual 27, 3) := by decide +kernel
theorem dX7_areJoined_19 : decode cX7_areJoined 19 = .ok (.ifCond .eq 25, 3) := by decide +kernel
theorem dX7_areJoined_22 : decode cX7_areJoined 22 = .ok (.aload_n 0, 1) := by decide +kernel
theorem dX7_areJoined_23 : decode cX7_areJoined 23 = .ok (.iload 4, 2) := by decide +kernel
theorem dX7_areJoined_25 : decode cX7_areJoined 25 = .ok (.iload_n 2, 1) := by decide +kernel
theorem dX7_areJoined_26 : decode cX7_areJoined 26 = .ok (.invokevirtual 27, 3) := by decide +kernel
theorem dX7_areJoined_29 : decode cX7_areJoined 29 = .ok (.ifCond .eq 15, 3) := by decide +kernel
theorem dX7_areJoined_32 : decode cX7_areJoined 32 = .ok (.aload_n 0, 1) := by decide +kernel
theorem dX7_areJoined_33 : decode cX7_areJoined 33 = .ok (.iload 4, 2) := by decide +kernel
theorem dX7_areJoined_35 : decode cX7_areJoined 35 = .ok (.iload_n 3, 1) := by decide +kernel
theorem dX7_areJoined_36 : decode cX7_areJoined 36 = .ok (.invokevirtual 27, 3) := by decide +kernel
theorem dX7_areJoined_39 : decode cX7_areJoined 39 = .ok (.ifCond .eq 5, 3) := by decide +kernel
theorem dX7_areJoined_42 : decode cX7_areJoined 42 = .ok (.iconst 1, 1) := by decide +kernel
theorem dX7_areJoined_43 : decode cX7_areJoined 43 = .ok (.ireturn, 1) := by decide +kernel
theorem dX7_areJoined_44 : decode cX7_areJoined 44 = .ok (.iinc 4 1, 3) := by decide +kernel
theorem dX7_areJoined_47 : decode cX7_areJoined 47 = .ok (.goto (-44), 3) := by decide +kernel
theorem dX7_areJoined_50 : decode cX7_areJoined 50 = .ok (.iconst 0, 1) := by decide +kernel
theorem dX7_areJoined_51 : decode cX7_areJoined 51 = .ok (.ireturn, 1) := by decide +kernel
theorem dX7_tickArea_0 : decode cX7_tickArea 0 = .ok (.aload_n 0, 1) := by decide +kernel
theorem dX7_tickArea_1 : decode cX7_tickArea 1 = .ok (.iload_n 1, 1) := by decide +kernel
theorem dX7_tickArea_2 : decode cX7_tickArea 2 = .ok (.iconst 0, 1) := by decide +kernel
theorem dX7_tickArea_3 : decode cX7_tickArea 3 = .ok (.invokevirtual 23, 3) := by decide +kernel
theorem dX7_tickArea_6 : decode cX7_tickArea 6 = .ok (.istore 4, 2) := by decide +kernel
theorem dX7_tickArea_8 : decode cX7_tickArea 8 = .ok (.aload_n 0, 1) := by decide +kernel
theorem dX7_tickArea_9 : decode cX7_tickArea 9 = .ok (.iload_n 1, 1) := by decide +kernel
theorem dX7_tickArea_10 : decode cX7_tickArea 10 = .ok (.iconst 1, 1) := by decide +kernel
theorem dX7_tickArea_11 : decode cX7_tickArea 11 = .ok (.invokevirtual 23, 3) := by decide +kernel
theorem dX7_tickArea_14 : decode cX7_tickArea 14 = .ok (.istore 5, 2) := by decide +kernel
theorem dX7_tickArea_16 : decode cX7_tickArea 16 = .ok (.aload_n 0, 1) := by decide +kernel
theorem dX7_tickArea_17 : decode cX7_tickArea 17 = .ok (.iload_n 1, 1) := by decide +kernel
theorem dX7_tickArea_18 : decode cX7_tickArea 18 = .ok (.iconst 2, 1) := by decide +kernel
theorem dX7_tickArea_19 : decode cX7_tickArea 19 = .ok (.invokevirtual 23, 3) := by decide +kernel
theorem dX7_tickArea_22 : decode cX7_tickArea 22 = .ok (.istore 6, 2) := by decide +kernel
theorem dX7_tickArea_24 : decode cX7_tickArea 24 = .ok (.aload_n 0, 1) := by decide +kernel
theorem dX7_tickArea_25 : decode cX7_tickArea 25 = .ok (.getfield 19, 3) := by decide +kernel
theorem dX7_tickArea_28 : decode cX7_tickArea 28 = .ok (.iload 4, 2) := by decide +kernel
theorem dX7_tickArea_30 : decode cX7_tickArea 30 = .ok (.iload_n 2, 1) := by decide +kernel
theorem dX7_tickArea_31 : decode cX7_tickArea 31 = .ok (.iload_n 3, 1) := by decide +kernel
theorem dX7_tickArea_32 : decode cX7_tickArea 32 = .ok (.invokevirtual 31, 3) := by decide +kernel
theorem dX7_tickArea_35 : decode cX7_tickArea 35 = .ok (.i2l, 1) := by decide +kernel
theorem dX7_tickArea_36 : decode cX7_tickArea 36 = .ok (.aload_n 0, 1) := by decide +kernel
theorem dX7_tickArea_37 : decode cX7_tickArea 37 = .ok (.getfield 19, 3) := by decide +kernel
theorem dX7_tickArea_40 : decode cX7_tickArea 40 = .ok (.iload 4, 2) := by decide +kernel
theorem dX7_tickArea_42 : decode cX7_tickArea 42 = .ok (.iload_n 2, 1) := by decide +kernel
theorem dX7_tickArea_43 : decode cX7_tickArea 43 = .ok (.iload_n 3, 1) := by decide +kernel
theorem dX7_tickArea_44 : decode cX7_tickArea 44 = .ok (.invokevirtual 37, 3) := by decide +kernel
theorem dX7_tickArea_47 : decode cX7_tickArea 47 = .ok (.i2l, 1) := by decide +kernel
theorem dX7_tickArea_48 : decode cX7_tickArea 48 = .ok (.aload_n 0, 1) := by decide +kernel
theorem dX7_tickArea_49 : decode cX7_tickArea 49 = .ok (.getfield 19, 3) := by decide +kernel
theorem dX7_tickArea_52 : decode cX7_tickArea 52 = .ok (.iload 5, 2) := by decide +kernel
theorem dX7_tickArea_54 : decode cX7_tickArea 54 = .ok (.iload_n 2, 1) := by decide +kernel
theorem dX7_tickArea_55 : decode cX7_tickArea 55 = .ok (.iload_n 3, 1) := by decide +kernel
theorem dX7_tickArea_56 : decode cX7_tickArea 56 = .ok (.invokevirtual 31, 3) := by decide +kernel
theorem dX7_tickArea_59 : decode cX7_tickArea 59 = .ok (.i2l, 1) := by decide +kernel
theorem dX7_tickArea_60 : decode cX7_tickArea 60 = .ok (.aload_n 0, 1) := by decide +kernel
theorem dX7_tickArea_61 : decode cX7_tickArea 61 = .ok (.getfield 19, 3) := by decide +kernel
theorem dX7_tickArea_64 : decode cX7_tickArea 64 = .ok (.iload 5, 2) := by decide +kernel
theorem dX7_tickArea_66 : decode cX7_tickArea 66 = .ok (.iload_n 2, 1) := by decide +kernel
theorem dX7_tickArea_67 : decode cX7_tickArea 67 = .ok (.iload_n 3, 1) := by decide +kernel
theorem dX7_tickArea_68 : decode cX7_tickArea 68 = .ok (.invokevirtual 37, 3) := by decide +kernel
theorem dX7_tickArea_71 : decode cX7_tickArea 71 = .ok (.i2l, 1) := by decide +kernel
theorem dX7_tickArea_72 : decode cX7_tickArea 72 = .ok (.aload_n 0, 1) := by decide +kernel
theorem dX7_tickArea_73 : decode cX7_tickArea 73 = .ok (.getfield 19, 3) := by decide +kernel
theorem dX7_tickArea_76 : decode cX7_tickArea 76 = .ok (.iload 6, 2) := by decide +kernel
theorem dX7_tickArea_78 : decode cX7_tickArea 78 = .ok (.iload_n 2, 1) := by decide +kernel
theorem dX7_tickArea_79 : decode cX7_tickArea 79 = .ok (.iload_n 3, 1) := by decide +kernel
theorem dX7_tickArea_80 : decode cX7_tickArea 80 = .ok (.invokevirtual 31, 3) := by decide +kernel
theorem dX7_tickArea_83 : decode cX7_tickArea 83 = .ok (.i2l, 1) := by decide +kernel
theorem dX7_tickArea_84 : decode cX7_tickArea 84 = .ok (.aload_n 0, 1) := by decide +kernel
theorem dX7_tickArea_85 : decode cX7_tickArea 85 = .ok (.getfield 19, 3) := by decide +kernel
theorem dX7_tickArea_88 : decode cX7_tickArea 88 = .ok (.iload 6, 2) := by decide +kernel
theorem dX7_tickArea_90 : decode cX7_tickArea 90 = .ok (.iload_n 2, 1) := by decide +kernel
theorem dX7_tickArea_91 : decode cX7_tickArea 91 = .ok (.iload_n 3, 1) := by decide +kernel
theorem dX7_tickArea_92 : decode cX7_tickArea 92 = .ok (.invokevirtual 37, 3) := by decide +kernel
theorem dX7_tickArea_95 : decode cX7_tickArea 95 = .ok (.i2l, 1) := by decide +kernel
theorem dX7_tickArea_96 : decode cX7_tickArea 96 = .ok (.invokestatic 40, 3) := by decide +kernel
theorem dX7_tickArea_99 : decode cX7_tickArea 99 = .ok (.lreturn, 1) := by decide +kernel
theorem dX7_areaIn_0 : decode cX7_areaIn 0 = .ok (.aload_n 0, 1) := by decide +kernel
theorem dX7_areaIn_1 : decode cX7_areaIn 1 = .ok (.iload_n 1, 1) := by decide +kernel
theorem dX7_areaIn_2 : decode cX7_areaIn 2 = .ok (.iconst 0, 1) := by decide +kernel
theorem dX7_areaIn_3 : decode cX7_areaIn 3 = .ok (.invokevirtual 23, 3) := by decide +kernel
theorem dX7_areaIn_6 : decode cX7_areaIn 6 = .ok (.istore_n 3, 1) := by decide +kernel
theorem dX7_areaIn_7 : decode cX7_areaIn 7 = .ok (.aload_n 0, 1) := by decide +kernel
theorem dX7_areaIn_8 : decode cX7_areaIn 8 = .ok (.iload_n 1, 1) := by decide +kernel
theorem dX7_areaIn_9 : decode cX7_areaIn 9 = .ok (.iconst 1, 1) := by decide +kernel
theorem dX7_areaIn_10 : decode cX7_areaIn 10 = .ok (.invokevirtual 23, 3) := by decide +kernel
theorem dX7_areaIn_13 : decode cX7_areaIn 13 = .ok (.istore 4, 2) := by decide +kernel
theorem dX7_areaIn_15 : decode cX7_areaIn 15 = .ok (.aload_n 0, 1) := by decide +kernel
theorem dX7_areaIn_16 : decode cX7_areaIn 16 = .ok (.iload_n 1, 1) := by decide +kernel
theorem dX7_areaIn_17 : decode cX7_areaIn 17 = .ok (.iconst 2, 1) := by decide +kernel
theorem dX7_areaIn_18 : decode cX7_areaIn 18 = .ok (.invokevirtual 23, 3) := by decide +kernel
theorem dX7_areaIn_21 : decode cX7_areaIn 21 = .ok (.istore 5, 2) := by decide +kernel
theorem dX7_areaIn_23 : decode cX7_areaIn 23 = .ok (.aload_n 0, 1) := by decide +kernel
theorem dX7_areaIn_24 : decode cX7_areaIn 24 = .ok (.getfield 19, 3) := by decide +kernel
theorem dX7_areaIn_27 : decode cX7_areaIn 27 = .ok (.iload_n 3, 1) := by decide +kernel
theorem dX7_areaIn_28 : decode cX7_areaIn 28 = .ok (.iload_n 2, 1) := by decide +kernel
theorem dX7_areaIn_29 : decode cX7_areaIn 29 = .ok (.invokevirtual 44, 3) := by decide +kernel
theorem dX7_areaIn_32 : decode cX7_areaIn 32 = .ok (.i2l, 1) := by decide +kernel
theorem dX7_areaIn_33 : decode cX7_areaIn 33 = .ok (.aload_n 0, 1) := by decide +kernel
theorem dX7_areaIn_34 : decode cX7_areaIn 34 = .ok (.getfield 19, 3) := by decide +kernel
theorem dX7_areaIn_37 : decode cX7_areaIn 37 = .ok (.iload_n 3, 1) := by decide +kernel
theorem dX7_areaIn_38 : decode cX7_areaIn 38 = .ok (.iload_n 2, 1) := by decide +kernel
theorem dX7_areaIn_39 : decode cX7_areaIn 39 = .ok (.invokevirtual 47, 3) := by decide +kernel
theorem dX7_areaIn_42 : decode cX7_areaIn 42 = .ok (.i2l, 1) := by decide +kernel
theorem dX7_areaIn_43 : decode cX7_areaIn 43 = .ok (.aload_n 0, 1) := by decide +kernel
theorem dX7_areaIn_44 : decode cX7_areaIn 44 = .ok (.getfield 19, 3) := by decide +kernel
theorem dX7_areaIn_47 : decode cX7_areaIn 47 = .ok (.iload 4, 2) := by decide +kernel
theorem dX7_areaIn_49 : decode cX7_areaIn 49 = .ok (.iload_n 2, 1) := by decide +kernel
theorem dX7_areaIn_50 : decode cX7_areaIn 50 = .ok (.invokevirtual 44, 3) := by decide +kernel
theorem dX7_areaIn_53 : decode cX7_areaIn 53 = .ok (.i2l, 1) := by decide +kernel
theorem dX7_areaIn_54 : decode cX7_areaIn 54 = .ok (.aload_n 0, 1) := by decide +kernel
theorem dX7_areaIn_55 : decode cX7_areaIn 55 = .ok (.getfield 19, 3) := by decide +kernel
theorem dX7_areaIn_58 : decode cX7_areaIn 58 = .ok (.iload 4, 2) := by decide +kernel
theorem dX7_areaIn_60 : decode cX7_areaIn 60 = .ok (.iload_n 2, 1) := by decide +kernel
theorem dX7_areaIn_61 : decode cX7_areaIn 61 = .ok (.invokevirtual 47, 3) := by decide +kernel
theorem dX7_areaIn_64 : decode cX7_areaIn 64 = .ok (.i2l, 1) := by decide +kernel
theorem dX7_areaIn_65 : decode cX7_areaIn 65 = .ok (.aload_n 0, 1) := by decide +kernel
theorem dX7_areaIn_66 : decode cX7_areaIn 66 = .ok (.getfield 19, 3) := by decide +kernel
theorem dX7_areaIn_69 : decode cX7_areaIn 69 = .ok (.iload 5, 2) := by decide +kernel
theorem dX7_areaIn_71 : decode cX7_areaIn 71 = .ok (.iload_n 2, 1) := by decide +kernel
theorem dX7_areaIn_72 : decode cX7_areaIn 72 = .ok (.invokevirtual 44, 3) := by decide +kernel
theorem dX7_areaIn_75 : decode cX7_areaIn 75 = .ok (.i2l, 1) := by decide +kernel
theorem dX7_areaIn_76 : decode cX7_areaIn 76 = .ok (.aload_n 0, 1) := by decide +kernel
theorem dX7_areaIn_77 : decode cX7_areaIn 77 = .ok (.getfield 19, 3) := by decide +kernel
theorem dX7_areaIn_80 : decode cX7_areaIn 80 = .ok (.iload 5, 2) := by decide +kernel
theorem dX7_areaIn_82 : decode cX7_areaIn 82 = .ok (.iload_n 2, 1) := by decide +kernel
theorem dX7_areaIn_83 : decode cX7_areaIn 83 = .ok (.invokevirtual 47, 3) := by decide +kernel
theorem dX7_areaIn_86 : decode cX7_areaIn 86 = .ok (.i2l, 1) := by decide +kernel
theorem dX7_areaIn_87 : decode cX7_areaIn 87 = .ok (.invokestatic 40, 3) := by decide +kernel
theorem dX7_areaIn_90 : decode cX7_areaIn 90 = .ok (.l2i, 1) := by decide +kernel
theorem dX7_areaIn_91 : decode cX7_areaIn 91 = .ok (.ireturn, 1) := by decide +kernel
theorem dX7_isUpright_0 : decode cX7_isUpright 0 = .ok (.aload_n 0, 1) := by decide +kernel
theorem dX7_isUpright_1 : decode cX7_isUpright 1 = .ok (.iload_n 1, 1) := by decide +kernel
theorem dX7_isUpright_2 : decode cX7_isUpright 2 = .ok (.iload_n 2, 1) := by decide +kernel
theorem dX7_isUpright_3 : decode cX7_isUpright 3 = .ok (.iload_n 3, 1) := by decide +kernel
theorem dX7_isUpright_4 : decode cX7_isUpright 4 = .ok (.invokevirtual 50, 3) := by decide +kernel
theorem dX7_isUpright_7 : decode cX7_isUpright 7 = .ok (.lconst 0, 1) := by decide +kernel
theorem dX7_isUpright_8 : decode cX7_isUpright 8 = .ok (.lcmp, 1) := by decide +kernel
theorem dX7_isUpright_9 : decode cX7_isUpright 9 = .ok (.ifCond .le 7, 3) := by decide +kernel
theorem dX7_isUpright_12 : decode cX7_isUpright 12 = .ok (.iconst 1, 1) := by decide +kernel
theorem dX7_isUpright_13 : decode cX7_isUpright 13 = .ok (.goto 4, 3) := by decide +kernel
theorem dX7_isUpright_16 : decode cX7_isUpright 16 = .ok (.iconst 0, 1) := by decide +kernel
theorem dX7_isUpright_17 : decode cX7_isUpright 17 = .ok (.ireturn, 1) := by decide +kernel
theorem dX7_foldTick_0 : decode cX7_foldTick 0 = .ok (.iconst 0, 1) := by decide +kernel
theorem dX7_foldTick_1 : decode cX7_foldTick 1 = .ok (.istore_n 3, 1) := by decide +kernel
theorem dX7_foldTick_2 : decode cX7_foldTick 2 = .ok (.iload_n 3, 1) := by decide +kernel
theorem dX7_foldTick_3 : decode cX7_foldTick 3 = .ok (.iload_n 2, 1) := by decide +kernel
theorem dX7_foldTick_4 : decode cX7_foldTick 4 = .ok (.if_icmp .gt 21, 3) := by decide +kernel
theorem dX7_foldTick_7 : decode cX7_foldTick 7 = .ok (.aload_n 0, 1) := by decide +kernel
theorem dX7_foldTick_8 : decode cX7_foldTick 8 = .ok (.iload_n 1, 1) := by decide +kernel
theorem dX7_foldTick_9 : decode cX7_foldTick 9 = .ok (.iload_n 3, 1) := by decide +kernel
theorem dX7_foldTick_10 : decode cX7_foldTick 10 = .ok (.iload_n 2, 1) := by decide +kernel
theorem dX7_foldTick_11 : decode cX7_foldTick 11 = .ok (.invokevirtual 54, 3) := by decide +kernel
theorem dX7_foldTick_14 : decode cX7_foldTick 14 = .ok (.ifCond .ne 5, 3) := by decide +kernel
theorem dX7_foldTick_17 : decode cX7_foldTick 17 = .ok (.iload_n 3, 1) := by decide +kernel
theorem dX7_foldTick_18 : decode cX7_foldTick 18 = .ok (.ireturn, 1) := by decide +kernel
theorem dX7_foldTick_19 : decode cX7_foldTick 19 = .ok (.iinc 3 1, 3) := by decide +kernel
theorem dX7_foldTick_22 : decode cX7_foldTick 22 = .ok (.goto (-20), 3) := by decide +kernel
theorem dX7_foldTick_25 : decode cX7_foldTick 25 = .ok (.ldc 58, 2) := by decide +kernel
theorem dX7_foldTick_27 : decode cX7_foldTick 27 = .ok (.ireturn, 1) := by decide +kernel
theorem dX7_firstFolded_0 : decode cX7_firstFolded 0 = .ok (.iconst 0, 1) := by decide +kernel
theorem dX7_firstFolded_1 : decode cX7_firstFolded 1 = .ok (.istore_n 2, 1) := by decide +kernel
theorem dX7_firstFolded_2 : decode cX7_firstFolded 2 = .ok (.iload_n 2, 1) := by decide +kernel
theorem dX7_firstFolded_3 : decode cX7_firstFolded 3 = .ok (.iload_n 1, 1) := by decide +kernel
theorem dX7_firstFolded_4 : decode cX7_firstFolded 4 = .ok (.if_icmp .gt 37, 3) := by decide +kernel
theorem dX7_firstFolded_7 : decode cX7_firstFolded 7 = .ok (.iconst 0, 1) := by decide +kernel
theorem dX7_firstFolded_8 : decode cX7_firstFolded 8 = .ok (.istore_n 3, 1) := by decide +kernel
theorem dX7_firstFolded_9 : decode cX7_firstFolded 9 = .ok (.iload_n 3, 1) := by decide +kernel
theorem dX7_firstFolded_10 : decode cX7_firstFolded 10 = .ok (.aload_n 0, 1) := by decide +kernel
theorem dX7_firstFolded_11 : decode cX7_firstFolded 11 = .ok (.getfield 9, 3) := by decide +kernel
theorem dX7_firstFolded_14 : decode cX7_firstFolded 14 = .ok (.if_icmp .ge 21, 3) := by decide +kernel
theorem dX7_firstFolded_17 : decode cX7_firstFolded 17 = .ok (.aload_n 0, 1) := by decide +kernel
theorem dX7_firstFolded_18 : decode cX7_firstFolded 18 = .ok (.iload_n 3, 1) := by decide +kernel
theorem dX7_firstFolded_19 : decode cX7_firstFolded 19 = .ok (.iload_n 2, 1) := by decide +kernel
theorem dX7_firstFolded_20 : decode cX7_firstFolded 20 = .ok (.iload_n 1, 1) := by decide +kernel
theorem dX7_firstFolded_21 : decode cX7_firstFolded 21 = .ok (.invokevirtual 54, 3) := by decide +kernel
theorem dX7_firstFolded_24 : decode cX7_firstFolded 24 = .ok (.ifCond .ne 5, 3) := by decide +kernel
theorem dX7_firstFolded_27 : decode cX7_firstFolded 27 = .ok (.iload_n 3, 1) := by decide +kernel
theorem dX7_firstFolded_28 : decode cX7_firstFolded 28 = .ok (.ireturn, 1) := by decide +kernel
theorem dX7_firstFolded_29 : decode cX7_firstFolded 29 = .ok (.iinc 3 1, 3) := by decide +kernel
theorem dX7_firstFolded_32 : decode cX7_firstFolded 32 = .ok (.goto (-23), 3) := by decide +kernel
theorem dX7_firstFolded_35 : decode cX7_firstFolded 35 = .ok (.iinc 2 1, 3) := by decide +kernel
theorem dX7_firstFolded_38 : decode cX7_firstFolded 38 = .ok (.goto (-36), 3) := by decide +kernel
theorem dX7_firstFolded_41 : decode cX7_firstFolded 41 = .ok (.ldc 58, 2) := by decide +kernel
theorem dX7_firstFolded_43 : decode cX7_firstFolded 43 = .ok (.ireturn, 1) := by decide +kernel
theorem dX7_sidesOf_0 : decode cX7_sidesOf 0 = .ok (.iconst 0, 1) := by decide +kernel
theorem dX7_sidesOf_1 : decode cX7_sidesOf 1 = .ok (.istore_n 2, 1) := by decide +kernel
theorem dX7_sidesOf_2 : decode cX7_sidesOf 2 = .ok (.iconst 0, 1) := by decide +kernel
theorem dX7_sidesOf_3 : decode cX7_sidesOf 3 = .ok (.istore_n 3, 1) := by decide +kernel
theorem dX7_sidesOf_4 : decode cX7_sidesOf 4 = .ok (.iload_n 3, 1) := by decide +kernel
theorem dX7_sidesOf_5 : decode cX7_sidesOf 5 = .ok (.aload_n 0, 1) := by decide +kernel
theorem dX7_sidesOf_6 : decode cX7_sidesOf 6 = .ok (.getfield 19, 3) := by decide +kernel
theorem dX7_sidesOf_9 : decode cX7_sidesOf 9 = .ok (.invokevirtual 59, 3) := by decide +kernel
theorem dX7_sidesOf_12 : decode cX7_sidesOf 12 = .ok (.if_icmp .ge 46, 3) := by decide +kernel
theorem dX7_sidesOf_15 : decode cX7_sidesOf 15 = .ok (.iload_n 3, 1) := by decide +kernel
theorem dX7_sidesOf_16 : decode cX7_sidesOf 16 = .ok (.iconst 1, 1) := by decide +kernel
theorem dX7_sidesOf_17 : decode cX7_sidesOf 17 = .ok (.iadd, 1) := by decide +kernel
theorem dX7_sidesOf_18 : decode cX7_sidesOf 18 = .ok (.istore 4, 2) := by decide +kernel
theorem dX7_sidesOf_20 : decode cX7_sidesOf 20 = .ok (.iload 4, 2) := by decide +kernel
theorem dX7_sidesOf_22 : decode cX7_sidesOf 22 = .ok (.aload_n 0, 1) := by decide +kernel
theorem dX7_sidesOf_23 : decode cX7_sidesOf 23 = .ok (.getfield 19, 3) := by decide +kernel
theorem dX7_sidesOf_26 : decode cX7_sidesOf 26 = .ok (.invokevirtual 59, 3) := by decide +kernel
theorem dX7_sidesOf_29 : decode cX7_sidesOf 29 = .ok (.if_icmp .ge 23, 3) := by decide +kernel
theorem dX7_sidesOf_32 : decode cX7_sidesOf 32 = .ok (.aload_n 0, 1) := by decide +kernel
theorem dX7_sidesOf_33 : decode cX7_sidesOf 33 = .ok (.iload_n 3, 1) := by decide +kernel
theorem dX7_sidesOf_34 : decode cX7_sidesOf 34 = .ok (.iload 4, 2) := by decide +kernel
theorem dX7_sidesOf_36 : decode cX7_sidesOf 36 = .ok (.invokevirtual 62, 3) := by decide +kernel
theorem dX7_sidesOf_39 : decode cX7_sidesOf 39 = .ok (.iload_n 1, 1) := by decide +kernel
theorem dX7_sidesOf_40 : decode cX7_sidesOf 40 = .ok (.if_icmp .ne 6, 3) := by decide +kernel
theorem dX7_sidesOf_43 : decode cX7_sidesOf 43 = .ok (.iinc 2 1, 3) := by decide +kernel
theorem dX7_sidesOf_46 : decode cX7_sidesOf 46 = .ok (.iinc 4 1, 3) := by decide +kernel
theorem dX7_sidesOf_49 : decode cX7_sidesOf 49 = .ok (.goto (-29), 3) := by decide +kernel
theorem dX7_sidesOf_52 : decode cX7_sidesOf 52 = .ok (.iinc 3 1, 3) := by decide +kernel
theorem dX7_sidesOf_55 : decode cX7_sidesOf 55 = .ok (.goto (-51), 3) := by decide +kernel
theorem dX7_sidesOf_58 : decode cX7_sidesOf 58 = .ok (.iload_n 2, 1) := by decide +kernel
theorem dX7_sidesOf_59 : decode cX7_sidesOf 59 = .ok (.ireturn, 1) := by decide +kernel
theorem dX7_thirdsAtSide_0 : decode cX7_thirdsAtSide 0 = .ok (.iconst 0, 1) := by decide +kernel
theorem dX7_thirdsAtSide_1 : decode cX7_thirdsAtSide 1 = .ok (.istore_n 3, 1) := by decide +kernel
theorem dX7_thirdsAtSide_2 : decode cX7_thirdsAtSide 2 = .ok (.iconst 0, 1) := by decide +kernel
theorem dX7_thirdsAtSide_3 : decode cX7_thirdsAtSide 3 = .ok (.istore 4, 2) := by decide +kernel
theorem dX7_thirdsAtSide_5 : decode cX7_thirdsAtSide 5 = .ok (.iload 4, 2) := by decide +kernel
theorem dX7_thirdsAtSide_7 : decode cX7_thirdsAtSide 7 = .ok (.aload_n 0, 1) := by decide +kernel
theorem dX7_thirdsAtSide_8 : decode cX7_thirdsAtSide 8 = .ok (.getfield 9, 3) := by decide +kernel
theorem dX7_thirdsAtSide_11 : decode cX7_thirdsAtSide 11 = .ok (.if_icmp .ge 32, 3) := by decide +kernel
theorem dX7_thirdsAtSide_14 : decode cX7_thirdsAtSide 14 = .ok (.aload_n 0, 1) := by decide +kernel
theorem dX7_thirdsAtSide_15 : decode cX7_thirdsAtSide 15 = .ok (.iload 4, 2) := by decide +kernel
theorem dX7_thirdsAtSide_17 : decode cX7_thirdsAtSide 17 = .ok (.iload_n 1, 1) := by decide +kernel
theorem dX7_thirdsAtSide_18 : decode cX7_thirdsAtSide 18 = .ok (.invokevirtual 27, 3) := by decide +kernel
theorem dX7_thirdsAtSide_21 : decode cX7_thirdsAtSide 21 = .ok (.ifCond .eq 16, 3) := by decide +kernel
theorem dX7_thirdsAtSide_24 : decode cX7_thirdsAtSide 24 = .ok (.aload_n 0, 1) := by decide +kernel
theorem dX7_thirdsAtSide_25 : decode cX7_thirdsAtSide 25 = .ok (.iload 4, 2) := by decide +kernel
theorem dX7_thirdsAtSide_27 : decode cX7_thirdsAtSide 27 = .ok (.iload_n 2, 1) := by decide +kernel
theorem dX7_thirdsAtSide_28 : decode cX7_thirdsAtSide 28 = .ok (.invokevirtual 27, 3) := by decide +kernel
theorem dX7_thirdsAtSide_31 : decode cX7_thirdsAtSide 31 = .ok (.ifCond .eq 6, 3) := by decide +kernel
theorem dX7_thirdsAtSide_34 : decode cX7_thirdsAtSide 34 = .ok (.iinc 3 1, 3) := by decide +kernel
theorem dX7_thirdsAtSide_37 : decode cX7_thirdsAtSide 37 = .ok (.iinc 4 1, 3) := by decide +kernel
theorem dX7_thirdsAtSide_40 : decode cX7_thirdsAtSide 40 = .ok (.goto (-35), 3) := by decide +kernel
theorem dX7_thirdsAtSide_43 : decode cX7_thirdsAtSide 43 = .ok (.iload_n 3, 1) := by decide +kernel
theorem dX7_thirdsAtSide_44 : decode cX7_thirdsAtSide 44 = .ok (.ireturn, 1) := by decide +kernel
theorem dX7_kindOf_0 : decode cX7_kindOf 0 = .ok (.aload_n 0, 1) := by decide +kernel
theorem dX7_kindOf_1 : decode cX7_kindOf 1 = .ok (.iload_n 1, 1) := by decide +kernel
theorem dX7_kindOf_2 : decode cX7_kindOf 2 = .ok (.iconst 0, 1) := by decide +kernel
theorem dX7_kindOf_3 : decode cX7_kindOf 3 = .ok (.invokevirtual 65, 3) := by decide +kernel
theorem dX7_kindOf_6 : decode cX7_kindOf 6 = .ok (.istore_n 2, 1) := by decide +kernel
theorem dX7_kindOf_7 : decode cX7_kindOf 7 = .ok (.aload_n 0, 1) := by decide +kernel
theorem dX7_kindOf_8 : decode cX7_kindOf 8 = .ok (.iload_n 1, 1) := by decide +kernel
theorem dX7_kindOf_9 : decode cX7_kindOf 9 = .ok (.iconst 1, 1) := by decide +kernel
theorem dX7_kindOf_10 : decode cX7_kindOf 10 = .ok (.invokevirtual 65, 3) := by decide +kernel
theorem dX7_kindOf_13 : decode cX7_kindOf 13 = .ok (.istore_n 3, 1) := by decide +kernel
theorem dX7_kindOf_14 : decode cX7_kindOf 14 = .ok (.iload_n 2, 1) := by decide +kernel
theorem dX7_kindOf_15 : decode cX7_kindOf 15 = .ok (.ifCond .le 21, 3) := by decide +kernel
theorem dX7_kindOf_18 : decode cX7_kindOf 18 = .ok (.iload_n 3, 1) := by decide +kernel
theorem dX7_kindOf_19 : decode cX7_kindOf 19 = .ok (.ifCond .le 17, 3) := by decide +kernel
theorem dX7_kindOf_22 : decode cX7_kindOf 22 = .ok (.aload_n 0, 1) := by decide +kernel
theorem dX7_kindOf_23 : decode cX7_kindOf 23 = .ok (.iload_n 1, 1) := by decide +kernel
theorem dX7_kindOf_24 : decode cX7_kindOf 24 = .ok (.invokevirtual 68, 3) := by decide +kernel
theorem dX7_kindOf_27 : decode cX7_kindOf 27 = .ok (.ifCond .eq 7, 3) := by decide +kernel
theorem dX7_kindOf_30 : decode cX7_kindOf 30 = .ok (.iconst 2, 1) := by decide +kernel
theorem dX7_kindOf_31 : decode cX7_kindOf 31 = .ok (.goto 4, 3) := by decide +kernel
theorem dX7_kindOf_34 : decode cX7_kindOf 34 = .ok (.iconst 1, 1) := by decide +kernel
theorem dX7_kindOf_35 : decode cX7_kindOf 35 = .ok (.ireturn, 1) := by decide +kernel
theorem dX7_kindOf_36 : decode cX7_kindOf 36 = .ok (.iload_n 2, 1) := by decide +kernel
theorem dX7_kindOf_37 : decode cX7_kindOf 37 = .ok (.ifCond .eq 7, 3) := by decide +kernel
theorem dX7_kindOf_40 : decode cX7_kindOf 40 = .ok (.iload_n 3, 1) := by decide +kernel
theorem dX7_kindOf_41 : decode cX7_kindOf 41 = .ok (.ifCond .ne 7, 3) := by decide +kernel
theorem dX7_kindOf_44 : decode cX7_kindOf 44 = .ok (.iconst 3, 1) := by decide +kernel
theorem dX7_kindOf_45 : decode cX7_kindOf 45 = .ok (.goto 4, 3) := by decide +kernel
theorem dX7_kindOf_48 : decode cX7_kindOf 48 = .ok (.iconst 4, 1) := by decide +kernel
theorem dX7_kindOf_49 : decode cX7_kindOf 49 = .ok (.ireturn, 1) := by decide +kernel
theorem dX7_staysWhole_0 : decode cX7_staysWhole 0 = .ok (.aload_n 0, 1) := by decide +kernel
theorem dX7_staysWhole_1 : decode cX7_staysWhole 1 = .ok (.getfield 19, 3) := by decide +kernel
theorem dX7_staysWhole_4 : decode cX7_staysWhole 4 = .ok (.aload_n 0, 1) := by decide +kernel
theorem dX7_staysWhole_5 : decode cX7_staysWhole 5 = .ok (.iload_n 1, 1) := by decide +kernel
theorem dX7_staysWhole_6 : decode cX7_staysWhole 6 = .ok (.iconst 0, 1) := by decide +kernel
theorem dX7_staysWhole_7 : decode cX7_staysWhole 7 = .ok (.invokevirtual 23, 3) := by decide +kernel
theorem dX7_staysWhole_10 : decode cX7_staysWhole 10 = .ok (.invokevirtual 72, 3) := by decide +kernel
theorem dX7_staysWhole_13 : decode cX7_staysWhole 13 = .ok (.ifCond .eq 39, 3) := by decide +kernel
theorem dX7_staysWhole_16 : decode cX7_staysWhole 16 = .ok (.aload_n 0, 1) := by decide +kernel
theorem dX7_staysWhole_17 : decode cX7_staysWhole 17 = .ok (.getfield 19, 3) := by decide +kernel
theorem dX7_staysWhole_20 : decode cX7_staysWhole 20 = .ok (.aload_n 0, 1) := by decide +kernel
theorem dX7_staysWhole_21 : decode cX7_staysWhole 21 = .ok (.iload_n 1, 1) := by decide +kernel
theorem dX7_staysWhole_22 : decode cX7_staysWhole 22 = .ok (.iconst 1, 1) := by decide +kernel
theorem dX7_staysWhole_23 : decode cX7_staysWhole 23 = .ok (.invokevirtual 23, 3) := by decide +kernel
theorem dX7_staysWhole_26 : decode cX7_staysWhole 26 = .ok (.invokevirtual 72, 3) := by decide +kernel
theorem dX7_staysWhole_29 : decode cX7_staysWhole 29 = .ok (.ifCond .eq 23, 3) := by decide +kernel
theorem dX7_staysWhole_32 : decode cX7_staysWhole 32 = .ok (.aload_n 0, 1) := by decide +kernel
theorem dX7_staysWhole_33 : decode cX7_staysWhole 33 = .ok (.getfield 19, 3) := by decide +kernel
theorem dX7_staysWhole_36 : decode cX7_staysWhole 36 = .ok (.aload_n 0, 1) := by decide +kernel
theorem dX7_staysWhole_37 : decode cX7_staysWhole 37 = .ok (.iload_n 1, 1) := by decide +kernel
theorem dX7_staysWhole_38 : decode cX7_staysWhole 38 = .ok (.iconst 2, 1) := by decide +kernel
theorem dX7_staysWhole_39 : decode cX7_staysWhole 39 = .ok (.invokevirtual 23, 3) := by decide +kernel
theorem dX7_staysWhole_42 : decode cX7_staysWhole 42 = .ok (.invokevirtual 72, 3) := by decide +kernel
theorem dX7_staysWhole_45 : decode cX7_staysWhole 45 = .ok (.ifCond .eq 7, 3) := by decide +kernel
theorem dX7_staysWhole_48 : decode cX7_staysWhole 48 = .ok (.iconst 1, 1) := by decide +kernel
theorem dX7_staysWhole_49 : decode cX7_staysWhole 49 = .ok (.goto 4, 3) := by decide +kernel
theorem dX7_staysWhole_52 : decode cX7_staysWhole 52 = .ok (.iconst 0, 1) := by decide +kernel
theorem dX7_staysWhole_53 : decode cX7_staysWhole 53 = .ok (.ireturn, 1) := by decide +kernel
theorem dX7_isOf_0 : decode cX7_isOf 0 = .ok (.aload_n 0, 1) := by decide +kernel
theorem dX7_isOf_1 : decode cX7_isOf 1 = .ok (.iload_n 1, 1) := by decide +kernel
theorem dX7_isOf_2 : decode cX7_isOf 2 = .ok (.invokevirtual 75, 3) := by decide +kernel
theorem dX7_isOf_5 : decode cX7_isOf 5 = .ok (.istore_n 3, 1) := by decide +kernel
theorem dX7_isOf_6 : decode cX7_isOf 6 = .ok (.iload_n 2, 1) := by decide +kernel
theorem dX7_isOf_7 : decode cX7_isOf 7 = .ok (.ifCond .eq 18, 3) := by decide +kernel
theorem dX7_isOf_10 : decode cX7_isOf 10 = .ok (.iload_n 2, 1) := by decide +kernel
theorem dX7_isOf_11 : decode cX7_isOf 11 = .ok (.iload_n 3, 1) := by decide +kernel
theorem dX7_isOf_12 : decode cX7_isOf 12 = .ok (.if_icmp .eq 13, 3) := by decide +kernel
theorem dX7_isOf_15 : decode cX7_isOf 15 = .ok (.iload_n 2, 1) := by decide +kernel
theorem dX7_isOf_16 : decode cX7_isOf 16 = .ok (.iconst 1, 1) := by decide +kernel
theorem dX7_isOf_17 : decode cX7_isOf 17 = .ok (.if_icmp .ne 12, 3) := by decide +kernel
theorem dX7_isOf_20 : decode cX7_isOf 20 = .ok (.iload_n 3, 1) := by decide +kernel
theorem dX7_isOf_21 : decode cX7_isOf 21 = .ok (.iconst 2, 1) := by decide +kernel
theorem dX7_isOf_22 : decode cX7_isOf 22 = .ok (.if_icmp .ne 7, 3) := by decide +kernel
theorem dX7_isOf_25 : decode cX7_isOf 25 = .ok (.iconst 1, 1) := by decide +kernel
theorem dX7_isOf_26 : decode cX7_isOf 26 = .ok (.goto 4, 3) := by decide +kernel
theorem dX7_isOf_29 : decode cX7_isOf 29 = .ok (.iconst 0, 1) := by decide +kernel
theorem dX7_isOf_30 : decode cX7_isOf 30 = .ok (.ireturn, 1) := by decide +kernel
theorem dX7_manyOf_0 : decode cX7_manyOf 0 = .ok (.iconst 0, 1) := by decide +kernel
theorem dX7_manyOf_1 : decode cX7_manyOf 1 = .ok (.istore_n 2, 1) := by decide +kernel
theorem dX7_manyOf_2 : decode cX7_manyOf 2 = .ok (.iconst 0, 1) := by decide +kernel
theorem dX7_manyOf_3 : decode cX7_manyOf 3 = .ok (.istore_n 3, 1) := by decide +kernel
theorem dX7_manyOf_4 : decode cX7_manyOf 4 = .ok (.iload_n 3, 1) := by decide +kernel
theorem dX7_manyOf_5 : decode cX7_manyOf 5 = .ok (.aload_n 0, 1) := by decide +kernel
theorem dX7_manyOf_6 : decode cX7_manyOf 6 = .ok (.getfield 9, 3) := by decide +kernel
theorem dX7_manyOf_9 : decode cX7_manyOf 9 = .ok (.if_icmp .ge 21, 3) := by decide +kernel
theorem dX7_manyOf_12 : decode cX7_manyOf 12 = .ok (.aload_n 0, 1) := by decide +kernel
theorem dX7_manyOf_13 : decode cX7_manyOf 13 = .ok (.iload_n 3, 1) := by decide +kernel
theorem dX7_manyOf_14 : decode cX7_manyOf 14 = .ok (.iload_n 1, 1) := by decide +kernel
theorem dX7_manyOf_15 : decode cX7_manyOf 15 = .ok (.invokevirtual 79, 3) := by decide +kernel
theorem dX7_manyOf_18 : decode cX7_manyOf 18 = .ok (.ifCond .eq 6, 3) := by decide +kernel
theorem dX7_manyOf_21 : decode cX7_manyOf 21 = .ok (.iinc 2 1, 3) := by decide +kernel
theorem dX7_manyOf_24 : decode cX7_manyOf 24 = .ok (.iinc 3 1, 3) := by decide +kernel
theorem dX7_manyOf_27 : decode cX7_manyOf 27 = .ok (.goto (-23), 3) := by decide +kernel
theorem dX7_manyOf_30 : decode cX7_manyOf 30 = .ok (.iload_n 2, 1) := by decide +kernel
theorem dX7_manyOf_31 : decode cX7_manyOf 31 = .ok (.ireturn, 1) := by decide +kernel
end
section
theorem dX8_init_0 : decode cX8_init 0 = .ok (.aload_n 0, 1) := by decide +kernel
theorem dX8_init_1 : decode cX8_init 1 = .ok (.invokespecial 1, 3) := by decide +kernel
theorem dX8_init_4 : decode cX8_init 4 = .ok (.aload_n 0, 1) := by decide +kernel
theorem dX8_init_5 : decode cX8_init 5 = .ok (.new 7, 3) := by decide +kernel
theorem dX8_init_8 : decode cX8_init 8 = .ok (.dup, 1) := by decide +kernel
theorem dX8_init_9 : decode cX8_init 9 = .ok (.invokespecial 9, 3) := by decide +kernel
theorem dX8_init_12 : decode cX8_init 12 = .ok (.putfield 10, 3) := by decide +kernel
theorem dX8_init_15 : decode cX8_init 15 = .ok (.aload_n 0, 1) := by decide +kernel
theorem dX8_init_16 : decode cX8_init 16 = .ok (.new 16, 3) := by decide +kernel
theorem dX8_init_19 : decode cX8_init 19 = .ok (.dup, 1) := by decide +kernel
theorem dX8_init_20 : decode cX8_init 20 = .ok (.invokespecial 18, 3) := by decide +kernel
theorem dX8_init_23 : decode cX8_init 23 = .ok (.putfield 19, 3) := by decide +kernel
theorem dX8_init_26 : decode cX8_init 26 = .ok (.aload_n 0, 1) := by decide +kernel
theorem dX8_init_27 : decode cX8_init 27 = .ok (.new 23, 3) := by decide +kernel
theorem dX8_init_30 : decode cX8_init 30 = .ok (.dup, 1) := by decide +kernel
theorem dX8_init_31 : decode cX8_init 31 = .ok (.aload_n 0, 1) := by decide +kernel
theorem dX8_init_32 : decode cX8_init 32 = .ok (.getfield 19, 3) := by decide +kernel
theorem dX8_init_35 : decode cX8_init 35 = .ok (.invokespecial 25, 3) := by decide +kernel
theorem dX8_init_38 : decode cX8_init 38 = .ok (.putfield 28, 3) := by decide +kernel
theorem dX8_init_41 : decode cX8_init 41 = .ok (.aload_n 0, 1) := by decide +kernel
theorem dX8_init_42 : decode cX8_init 42 = .ok (.new 32, 3) := by decide +kernel
theorem dX8_init_45 : decode cX8_init 45 = .ok (.dup, 1) := by decide +kernel
theorem dX8_init_46 : decode cX8_init 46 = .ok (.invokespecial 34, 3) := by decide +kernel
theorem dX8_init_49 : decode cX8_init 49 = .ok (.putfield 35, 3) := by decide +kernel
theorem dX8_init_52 : decode cX8_init 52 = .ok (.aload_n 0, 1) := by decide +kernel
theorem dX8_init_53 : decode cX8_init 53 = .ok (.new 39, 3) := by decide +kernel
theorem dX8_init_56 : decode cX8_init 56 = .ok (.dup, 1) := by decide +kernel
theorem dX8_init_57 : decode cX8_init 57 = .ok (.aload_n 0, 1) := by decide +kernel
theorem dX8_init_58 : decode cX8_init 58 = .ok (.getfield 19, 3) := by decide +kernel
theorem dX8_init_61 : decode cX8_init 61 = .ok (.aload_n 0, 1) := by decide +kernel
theorem dX8_init_62 : decode cX8_init 62 = .ok (.getfield 28, 3) := by decide +kernel
theorem dX8_init_65 : decode cX8_init 65 = .ok (.invokespecial 41, 3) := by decide +kernel
theorem dX8_init_68 : decode cX8_init 68 = .ok (.putfield 44, 3) := by decide +kernel
theorem dX8_init_71 : decode cX8_init 71 = .ok (.aload_n 0, 1) := by decide +kernel
theorem dX8_init_72 : decode cX8_init 72 = .ok (.new 48, 3) := by decide +kernel
theorem dX8_init_75 : decode cX8_init 75 = .ok (.dup, 1) := by decide +kernel
theorem dX8_init_76 : decode cX8_init 76 = .ok (.invokespecial 50, 3) := by decide +kernel
theorem dX8_init_79 : decode cX8_init 79 = .ok (.putfield 51, 3) := by decide +kernel
theorem dX8_init_82 : decode cX8_init 82 = .ok (.aload_n 0, 1) := by decide +kernel
theorem dX8_init_83 : decode cX8_init 83 = .ok (.new 55, 3) := by decide +kernel
theorem dX8_init_86 : decode cX8_init 86 = .ok (.dup, 1) := by decide +kernel
theorem dX8_init_87 : decode cX8_init 87 = .ok (.aload_n 0, 1) := by decide +kernel
theorem dX8_init_88 : decode cX8_init 88 = .ok (.getfield 10, 3) := by decide +kernel
theorem dX8_init_91 : decode cX8_init 91 = .ok (.invokespecial 57, 3) := by decide +kernel
theorem dX8_init_94 : decode cX8_init 94 = .ok (.putfield 60, 3) := by decide +kernel
theorem dX8_init_97 : decode cX8_init 97 = .ok (.aload_n 0, 1) := by decide +kernel
theorem dX8_init_98 : decode cX8_init 98 = .ok (.new 64, 3) := by decide +kernel
theorem dX8_init_101 : decode cX8_init 101 = .ok (.dup, 1) := by decide +kernel
theorem dX8_init_102 : decode cX8_init 102 = .ok (.aload_n 0, 1) := by decide +kernel
theorem dX8_init_103 : decode cX8_init 103 = .ok (.getfield 28, 3) := by decide +kernel
theorem dX8_init_106 : decode cX8_init 106 = .ok (.invokespecial 66, 3) := by decide +kernel
theorem dX8_init_109 : decode cX8_init 109 = .ok (.putfield 69, 3) := by decide +kernel
theorem dX8_init_112 : decode cX8_init 112 = .ok (.aload_n 0, 1) := by decide +kernel
theorem dX8_init_113 : decode cX8_init 113 = .ok (.iconst 0, 1) := by decide +kernel
theorem dX8_init_114 : decode cX8_init 114 = .ok (.putfield 73, 3) := by decide +kernel
theorem dX8_init_117 : decode cX8_init 117 = .ok (.return_, 1) := by decide +kernel
theorem dX8_sheet_0 : decode cX8_sheet 0 = .ok (.iload_n 1, 1) := by decide +kernel
theorem dX8_sheet_1 : decode cX8_sheet 1 = .ok (.invokestatic 77, 3) := by decide +kernel
theorem dX8_sheet_4 : decode cX8_sheet 4 = .ok (.ifCond .eq 17, 3) := by decide +kernel
theorem dX8_sheet_7 : decode cX8_sheet 7 = .ok (.iload_n 2, 1) := by decide +kernel
theorem dX8_sheet_8 : decode cX8_sheet 8 = .ok (.invokestatic 81, 3) := by decide +kernel
theorem dX8_sheet_11 : decode cX8_sheet 11 = .ok (.ifCond .eq 10, 3) := by decide +kernel
theorem dX8_sheet_14 : decode cX8_sheet 14 = .ok (.iload_n 3, 1) := by decide +kernel
theorem dX8_sheet_15 : decode cX8_sheet 15 = .ok (.sipush 144, 3) := by decide +kernel
theorem dX8_sheet_18 : decode cX8_sheet 18 = .ok (.if_icmp .le 6, 3) := by decide +kernel
theorem dX8_sheet_21 : decode cX8_sheet 21 = .ok (.ldc 84, 2) := by decide +kernel
theorem dX8_sheet_23 : decode cX8_sheet 23 = .ok (.ireturn, 1) := by decide +kernel
theorem dX8_sheet_24 : decode cX8_sheet 24 = .ok (.iload_n 3, 1) := by decide +kernel
theorem dX8_sheet_25 : decode cX8_sheet 25 = .ok (.ifCond .ge 9, 3) := by decide +kernel
theorem dX8_sheet_28 : decode cX8_sheet 28 = .ok (.aload_n 0, 1) := by decide +kernel
theorem dX8_sheet_29 : decode cX8_sheet 29 = .ok (.iconst 4, 1) := by decide +kernel
theorem dX8_sheet_30 : decode cX8_sheet 30 = .ok (.invokevirtual 85, 3) := by decide +kernel
theorem dX8_sheet_33 : decode cX8_sheet 33 = .ok (.ireturn, 1) := by decide +kernel
theorem dX8_sheet_34 : decode cX8_sheet 34 = .ok (.aload_n 0, 1) := by decide +kernel
theorem dX8_sheet_35 : decode cX8_sheet 35 = .ok (.getfield 10, 3) := by decide +kernel
theorem dX8_sheet_38 : decode cX8_sheet 38 = .ok (.iload_n 1, 1) := by decide +kernel
theorem dX8_sheet_39 : decode cX8_sheet 39 = .ok (.iload_n 2, 1) := by decide +kernel
theorem dX8_sheet_40 : decode cX8_sheet 40 = .ok (.iload_n 3, 1) := by decide +kernel
theorem dX8_sheet_41 : decode cX8_sheet 41 = .ok (.invokevirtual 89, 3) := by decide +kernel
theorem dX8_sheet_44 : decode cX8_sheet 44 = .ok (.aload_n 0, 1) := by decide +kernel
theorem dX8_sheet_45 : decode cX8_sheet 45 = .ok (.iload_n 3, 1) := by decide +kernel
theorem dX8_sheet_46 : decode cX8_sheet 46 = .ok (.invokevirtual 93, 3) := by decide +kernel
theorem dX8_sheet_49 : decode cX8_sheet 49 = .ok (.ireturn, 1) := by decide +kernel
theorem dX8_set_0 : decode cX8_set 0 = .ok (.iload_n 1, 1) := by decide +kernel
theorem dX8_set_1 : decode cX8_set 1 = .ok (.invokestatic 77, 3) := by decide +kernel
theorem dX8_set_4 : decode cX8_set 4 = .ok (.ifCond .ne 6, 3) := by decide +kernel
theorem dX8_set_7 : decode cX8_set 7 = .ok (.ldc 84, 2) := by decide +kernel
theorem dX8_set_9 : decode cX8_set 9 = .ok (.ireturn, 1) := by decide +kernel
theorem dX8_set_10 : decode cX8_set 10 = .ok (.aload_n 0, 1) := by decide +kernel
theorem dX8_set_11 : decode cX8_set 11 = .ok (.getfield 10, 3) := by decide +kernel
theorem dX8_set_14 : decode cX8_set 14 = .ok (.iload_n 1, 1) := by decide +kernel
theorem dX8_set_15 : decode cX8_set 15 = .ok (.invokevirtual 96, 3) := by decide +kernel
theorem dX8_set_18 : decode cX8_set 18 = .ok (.ifCond .eq 9, 3) := by decide +kernel
theorem dX8_set_21 : decode cX8_set 21 = .ok (.aload_n 0, 1) := by decide +kernel
theorem dX8_set_22 : decode cX8_set 22 = .ok (.iconst 1, 1) := by decide +kernel
theorem dX8_set_23 : decode cX8_set 23 = .ok (.invokevirtual 85, 3) := by decide +kernel
theorem dX8_set_26 : decode cX8_set 26 = .ok (.ireturn, 1) := by decide +kernel
theorem dX8_set_27 : decode cX8_set 27 = .ok (.aload_n 0, 1) := by decide +kernel
theorem dX8_set_28 : decode cX8_set 28 = .ok (.getfield 10, 3) := by decide +kernel
theorem dX8_set_31 : decode cX8_set 31 = .ok (.iload_n 1, 1) := by decide +kernel
theorem dX8_set_32 : decode cX8_set 32 = .ok (.iload_n 2, 1) := by decide +kernel
theorem dX8_set_33 : decode cX8_set 33 = .ok (.iconst 1, 1) := by decide +kernel
theorem dX8_set_34 : decode cX8_set 34 = .ok (.invokevirtual 99, 3) := by decide +kernel
theorem dX8_set_37 : decode cX8_set 37 = .ok (.ifCond .ne 9, 3) := by decide +kernel
theorem dX8_set_40 : decode cX8_set 40 = .ok (.aload_n 0, 1) := by decide +kernel
theorem dX8_set_41 : decode cX8_set 41 = .ok (.iconst 2, 1) := by decide +kernel
theorem dX8_set_42 : decode cX8_set 42 = .ok (.invokevirtual 85, 3) := by decide +kernel
theorem dX8_set_45 : decode cX8_set 45 = .ok (.ireturn, 1) := by decide +kernel
theorem dX8_set_46 : decode cX8_set 46 = .ok (.aload_n 0, 1) := by decide +kernel
theorem dX8_set_47 : decode cX8_set 47 = .ok (.getfield 10, 3) := by decide +kernel
theorem dX8_set_50 : decode cX8_set 50 = .ok (.iload_n 1, 1) := by decide +kernel
theorem dX8_set_51 : decode cX8_set 51 = .ok (.iload_n 2, 1) := by decide +kernel
theorem dX8_set_52 : decode cX8_set 52 = .ok (.iload_n 3, 1) := by decide +kernel
theorem dX8_set_53 : decode cX8_set 53 = .ok (.invokevirtual 103, 3) := by decide +kernel
theorem dX8_set_56 : decode cX8_set 56 = .ok (.aload_n 0, 1) := by decide +kernel
theorem dX8_set_57 : decode cX8_set 57 = .ok (.aload_n 0, 1) := by decide +kernel
theorem dX8_set_58 : decode cX8_set 58 = .ok (.getfield 10, 3) := by decide +kernel
theorem dX8_set_61 : decode cX8_set 61 = .ok (.iload_n 1, 1) := by decide +kernel
theorem dX8_set_62 : decode cX8_set 62 = .ok (.iload_n 2, 1) := by decide +kernel
theorem dX8_set_63 : decode cX8_set 63 = .ok (.invokevirtual 106, 3) := by decide +kernel
theorem dX8_set_66 : decode cX8_set 66 = .ok (.invokevirtual 93, 3) := by decide +kernel
theorem dX8_set_69 : decode cX8_set 69 = .ok (.ireturn, 1) := by decide +kernel
theorem dX8_copy_0 : decode cX8_copy 0 = .ok (.iload_n 1, 1) := by decide +kernel
theorem dX8_copy_1 : decode cX8_copy 1 = .ok (.invokestatic 77, 3) := by decide +kernel
theorem dX8_copy_4 : decode cX8_copy 4 = .ok (.ifCond .eq 10, 3) := by decide +kernel
theorem dX8_copy_7 : decode cX8_copy 7 = .ok (.iload_n 3, 1) := by decide +kernel
theorem dX8_copy_8 : decode cX8_copy 8 = .ok (.invokestatic 77, 3) := by decide +kernel
theorem dX8_copy_11 : decode cX8_copy 11 = .ok (.ifCond .ne 6, 3) := by decide +kernel
theorem dX8_copy_14 : decode cX8_copy 14 = .ok (.ldc 84, 2) := by decide +kernel
theorem dX8_copy_16 : decode cX8_copy 16 = .ok (.ireturn, 1) := by decide +kernel
theorem dX8_copy_17 : decode cX8_copy 17 = .ok (.aload_n 0, 1) := by decide +kernel
theorem dX8_copy_18 : decode cX8_copy 18 = .ok (.getfield 10, 3) := by decide +kernel
theorem dX8_copy_21 : decode cX8_copy 21 = .ok (.iload_n 1, 1) := by decide +kernel
theorem dX8_copy_22 : decode cX8_copy 22 = .ok (.invokevirtual 96, 3) := by decide +kernel
theorem dX8_copy_25 : decode cX8_copy 25 = .ok (.ifCond .ne 14, 3) := by decide +kernel
theorem dX8_copy_28 : decode cX8_copy 28 = .ok (.aload_n 0, 1) := by decide +kernel
theorem dX8_copy_29 : decode cX8_copy 29 = .ok (.getfield 10, 3) := by decide +kernel
theorem dX8_copy_32 : decode cX8_copy 32 = .ok (.iload_n 3, 1) := by decide +kernel
theorem dX8_copy_33 : decode cX8_copy 33 = .ok (.invokevirtual 96, 3) := by decide +kernel
theorem dX8_copy_36 : decode cX8_copy 36 = .ok (.ifCond .eq 9, 3) := by decide +kernel
theorem dX8_copy_39 : decode cX8_copy 39 = .ok (.aload_n 0, 1) := by decide +kernel
theorem dX8_copy_40 : decode cX8_copy 40 = .ok (.iconst 1, 1) := by decide +kernel
theorem dX8_copy_41 : decode cX8_copy 41 = .ok (.invokevirtual 85, 3) := by decide +kernel
theorem dX8_copy_44 : decode cX8_copy 44 = .ok (.ireturn, 1) := by decide +kernel
theorem dX8_copy_45 : decode cX8_copy 45 = .ok (.aload_n 0, 1) := by decide +kernel
theorem dX8_copy_46 : decode cX8_copy 46 = .ok (.getfield 10, 3) := by decide +kernel
theorem dX8_copy_49 : decode cX8_copy 49 = .ok (.iload_n 1, 1) := by decide +kernel
theorem dX8_copy_50 : decode cX8_copy 50 = .ok (.invokevirtual 110, 3) := by decide +kernel
theorem dX8_copy_53 : decode cX8_copy 53 = .ok (.aload_n 0, 1) := by decide +kernel
theorem dX8_copy_54 : decode cX8_copy 54 = .ok (.getfield 10, 3) := by decide +kernel
theorem dX8_copy_57 : decode cX8_copy 57 = .ok (.iload_n 3, 1) := by decide +kernel
theorem dX8_copy_58 : decode cX8_copy 58 = .ok (.invokevirtual 110, 3) := by decide +kernel
theorem dX8_copy_61 : decode cX8_copy 61 = .ok (.if_icmp .eq 9, 3) := by decide +kernel
theorem dX8_copy_64 : decode cX8_copy 64 = .ok (.aload_n 0, 1) := by decide +kernel
theorem dX8_copy_65 : decode cX8_copy 65 = .ok (.iconst 5, 1) := by decide +kernel
theorem dX8_copy_66 : decode cX8_copy 66 = .ok (.invokevirtual 85, 3) := by decide +kernel
theorem dX8_copy_69 : decode cX8_copy 69 = .ok (.ireturn, 1) := by decide +kernel
theorem dX8_copy_70 : decode cX8_copy 70 = .ok (.aload_n 0, 1) := by decide +kernel
theorem dX8_copy_71 : decode cX8_copy 71 = .ok (.getfield 10, 3) := by decide +kernel
theorem dX8_copy_74 : decode cX8_copy 74 = .ok (.iload_n 1, 1) := by decide +kernel
theorem dX8_copy_75 : decode cX8_copy 75 = .ok (.iload_n 2, 1) := by decide +kernel
theorem dX8_copy_76 : decode cX8_copy 76 = .ok (.iload 5, 2) := by decide +kernel
theorem dX8_copy_78 : decode cX8_copy 78 = .ok (.invokevirtual 99, 3) := by decide +kernel
theorem dX8_copy_81 : decode cX8_copy 81 = .ok (.ifCond .eq 18, 3) := by decide +kernel
theorem dX8_copy_84 : decode cX8_copy 84 = .ok (.aload_n 0, 1) := by decide +kernel
theorem dX8_copy_85 : decode cX8_copy 85 = .ok (.getfield 10, 3) := by decide +kernel
theorem dX8_copy_88 : decode cX8_copy 88 = .ok (.iload_n 3, 1) := by decide +kernel
theorem dX8_copy_89 : decode cX8_copy 89 = .ok (.iload 4, 2) := by decide +kernel
theorem dX8_copy_91 : decode cX8_copy 91 = .ok (.iload 5, 2) := by decide +kernel
theorem dX8_copy_93 : decode cX8_copy 93 = .ok (.invokevirtual 99, 3) := by decide +kernel
theorem dX8_copy_96 : decode cX8_copy 96 = .ok (.ifCond .ne 9, 3) := by decide +kernel
theorem dX8_copy_99 : decode cX8_copy 99 = .ok (.aload_n 0, 1) := by decide +kernel
theorem dX8_copy_100 : decode cX8_copy 100 = .ok (.iconst 2, 1) := by decide +kernel
theorem dX8_copy_101 : decode cX8_copy 101 = .ok (.invokevirtual 85, 3) := by decide +kernel
theorem dX8_copy_104 : decode cX8_copy 104 = .ok (.ireturn, 1) := by decide +kernel
theorem dX8_copy_105 : decode cX8_copy 105 = .ok (.aload_n 0, 1) := by decide +kernel
theorem dX8_copy_106 : decode cX8_copy 106 = .ok (.getfield 10, 3) := by decide +kernel
theorem dX8_copy_109 : decode cX8_copy 109 = .ok (.iload_n 1, 1) := by decide +kernel
theorem dX8_copy_110 : decode cX8_copy 110 = .ok (.iload_n 2, 1) := by decide +kernel
theorem dX8_copy_111 : decode cX8_copy 111 = .ok (.iload_n 3, 1) := by decide +kernel
theorem dX8_copy_112 : decode cX8_copy 112 = .ok (.iload 4, 2) := by decide +kernel
theorem dX8_copy_114 : decode cX8_copy 114 = .ok (.iload 5, 2) := by decide +kernel
theorem dX8_copy_116 : decode cX8_copy 116 = .ok (.invokevirtual 113, 3) := by decide +kernel
theorem dX8_copy_119 : decode cX8_copy 119 = .ok (.aload_n 0, 1) := by decide +kernel
theorem dX8_copy_120 : decode cX8_copy 120 = .ok (.iload 5, 2) := by decide +kernel
theorem dX8_copy_122 : decode cX8_copy 122 = .ok (.invokevirtual 93, 3) := by decide +kernel
theorem dX8_copy_125 : decode cX8_copy 125 = .ok (.ireturn, 1) := by decide +kernel
theorem dX8_drop_0 : decode cX8_drop 0 = .ok (.iload_n 1, 1) := by decide +kernel
theorem dX8_drop_1 : decode cX8_drop 1 = .ok (.invokestatic 77, 3) := by decide +kernel
theorem dX8_drop_4 : decode cX8_drop 4 = .ok (.ifCond .ne 6, 3) := by decide +kernel
theorem dX8_drop_7 : decode cX8_drop 7 = .ok (.ldc 84, 2) := by decide +kernel
theorem dX8_drop_9 : decode cX8_drop 9 = .ok (.ireturn, 1) := by decide +kernel
theorem dX8_drop_10 : decode cX8_drop 10 = .ok (.aload_n 0, 1) := by decide +kernel
theorem dX8_drop_11 : decode cX8_drop 11 = .ok (.getfield 10, 3) := by decide +kernel
theorem dX8_drop_14 : decode cX8_drop 14 = .ok (.iload_n 1, 1) := by decide +kernel
theorem dX8_drop_15 : decode cX8_drop 15 = .ok (.invokevirtual 96, 3) := by decide +kernel
theorem dX8_drop_18 : decode cX8_drop 18 = .ok (.ifCond .eq 9, 3) := by decide +kernel
theorem dX8_drop_21 : decode cX8_drop 21 = .ok (.aload_n 0, 1) := by decide +kernel
theorem dX8_drop_22 : decode cX8_drop 22 = .ok (.iconst 1, 1) := by decide +kernel
theorem dX8_drop_23 : decode cX8_drop 23 = .ok (.invokevirtual 85, 3) := by decide +kernel
theorem dX8_drop_26 : decode cX8_drop 26 = .ok (.ireturn, 1) := by decide +kernel
theorem dX8_drop_27 : decode cX8_drop 27 = .ok (.aload_n 0, 1) := by decide +kernel
theorem dX8_drop_28 : decode cX8_drop 28 = .ok (.aload_n 0, 1) := by decide +kernel
theorem dX8_drop_29 : decode cX8_drop 29 = .ok (.getfield 10, 3) := by decide +kernel
theorem dX8_drop_32 : decode cX8_drop 32 = .ok (.iload_n 1, 1) := by decide +kernel
theorem dX8_drop_33 : decode cX8_drop 33 = .ok (.invokevirtual 117, 3) := by decide +kernel
theorem dX8_drop_36 : decode cX8_drop 36 = .ok (.invokevirtual 93, 3) := by decide +kernel
theorem dX8_drop_39 : decode cX8_drop 39 = .ok (.ireturn, 1) := by decide +kernel
theorem dX8_mark_0 : decode cX8_mark 0 = .ok (.iload_n 1, 1) := by decide +kernel
theorem dX8_mark_1 : decode cX8_mark 1 = .ok (.iload_n 2, 1) := by decide +kernel
theorem dX8_mark_2 : decode cX8_mark 2 = .ok (.invokestatic 120, 3) := by decide +kernel
theorem dX8_mark_5 : decode cX8_mark 5 = .ok (.ifCond .eq 12, 3) := by decide +kernel
theorem dX8_mark_8 : decode cX8_mark 8 = .ok (.iload_n 3, 1) := by decide +kernel
theorem dX8_mark_9 : decode cX8_mark 9 = .ok (.iload 4, 2) := by decide +kernel
theorem dX8_mark_11 : decode cX8_mark 11 = .ok (.invokestatic 120, 3) := by decide +kernel
theorem dX8_mark_14 : decode cX8_mark 14 = .ok (.ifCond .ne 6, 3) := by decide +kernel
theorem dX8_mark_17 : decode cX8_mark 17 = .ok (.ldc 84, 2) := by decide +kernel
theorem dX8_mark_19 : decode cX8_mark 19 = .ok (.ireturn, 1) := by decide +kernel
theorem dX8_mark_20 : decode cX8_mark 20 = .ok (.aload_n 0, 1) := by decide +kernel
theorem dX8_mark_21 : decode cX8_mark 21 = .ok (.getfield 19, 3) := by decide +kernel
theorem dX8_mark_24 : decode cX8_mark 24 = .ok (.invokevirtual 124, 3) := by decide +kernel
theorem dX8_mark_27 : decode cX8_mark 27 = .ok (.ifCond .eq 6, 3) := by decide +kernel
theorem dX8_mark_30 : decode cX8_mark 30 = .ok (.ldc 128, 2) := by decide +kernel
theorem dX8_mark_32 : decode cX8_mark 32 = .ok (.ireturn, 1) := by decide +kernel
theorem dX8_mark_33 : decode cX8_mark 33 = .ok (.aload_n 0, 1) := by decide +kernel
theorem dX8_mark_34 : decode cX8_mark 34 = .ok (.getfield 19, 3) := by decide +kernel
theorem dX8_mark_37 : decode cX8_mark 37 = .ok (.iload_n 1, 1) := by decide +kernel
theorem dX8_mark_38 : decode cX8_mark 38 = .ok (.iload_n 2, 1) := by decide +kernel
theorem dX8_mark_39 : decode cX8_mark 39 = .ok (.iload_n 3, 1) := by decide +kernel
theorem dX8_mark_40 : decode cX8_mark 40 = .ok (.iload 4, 2) := by decide +kernel
theorem dX8_mark_42 : decode cX8_mark 42 = .ok (.invokevirtual 129, 3) := by decide +kernel
theorem dX8_mark_45 : decode cX8_mark 45 = .ok (.ireturn, 1) := by decide +kernel
theorem dX8_move_0 : decode cX8_move 0 = .ok (.aload_n 0, 1) := by decide +kernel
theorem dX8_move_1 : decode cX8_move 1 = .ok (.getfield 19, 3) := by decide +kernel
theorem dX8_move_4 : decode cX8_move 4 = .ok (.iload_n 1, 1) := by decide +kernel
theorem dX8_move_5 : decode cX8_move 5 = .ok (.invokevirtual 133, 3) := by decide +kernel
theorem dX8_move_8 : decode cX8_move 8 = .ok (.ifCond .eq 19, 3) := by decide +kernel
theorem dX8_move_11 : decode cX8_move 11 = .ok (.iload_n 2, 1) := by decide +kernel
theorem dX8_move_12 : decode cX8_move 12 = .ok (.invokestatic 136, 3) := by decide +kernel
theorem dX8_move_15 : decode cX8_move 15 = .ok (.ifCond .eq 12, 3) := by decide +kernel
theorem dX8_move_18 : decode cX8_move 18 = .ok (.iload_n 3, 1) := by decide +kernel
theorem dX8_move_19 : decode cX8_move 19 = .ok (.iload 4, 2) := by decide +kernel
theorem dX8_move_21 : decode cX8_move 21 = .ok (.invokestatic 120, 3) := by decide +kernel
theorem dX8_move_24 : decode cX8_move 24 = .ok (.ifCond .ne 6, 3) := by decide +kernel
theorem dX8_move_27 : decode cX8_move 27 = .ok (.ldc 84, 2) := by decide +kernel
theorem dX8_move_29 : decode cX8_move 29 = .ok (.ireturn, 1) := by decide +kernel
theorem dX8_move_30 : decode cX8_move 30 = .ok (.aload_n 0, 1) := by decide +kernel
theorem dX8_move_31 : decode cX8_move 31 = .ok (.getfield 19, 3) := by decide +kernel
theorem dX8_move_34 : decode cX8_move 34 = .ok (.iload_n 1, 1) := by decide +kernel
theorem dX8_move_35 : decode cX8_move 35 = .ok (.iload_n 2, 1) := by decide +kernel
theorem dX8_move_36 : decode cX8_move 36 = .ok (.iload_n 3, 1) := by decide +kernel
theorem dX8_move_37 : decode cX8_move 37 = .ok (.iload 4, 2) := by decide +kernel
theorem dX8_move_39 : decode cX8_move 39 = .ok (.invokevirtual 139, 3) := by decide +kernel
theorem dX8_move_42 : decode cX8_move 42 = .ok (.iconst 1, 1) := by decide +kernel
theorem dX8_move_43 : decode cX8_move 43 = .ok (.ireturn, 1) := by decide +kernel
theorem dX8_at_0 : decode cX8_at 0 = .ok (.aload_n 0, 1) := by decide +kernel
theorem dX8_at_1 : decode cX8_at 1 = .ok (.getfield 19, 3) := by decide +kernel
theorem dX8_at_4 : decode cX8_at 4 = .ok (.iload_n 1, 1) := by decide +kernel
theorem dX8_at_5 : decode cX8_at 5 = .ok (.invokevirtual 133, 3) := by decide +kernel
theorem dX8_at_8 : decode cX8_at 8 = .ok (.ifCond .eq 21, 3) := by decide +kernel
theorem dX8_at_11 : decode cX8_at 11 = .ok (.iload_n 2, 1) := by decide +kernel
theorem dX8_at_12 : decode cX8_at 12 = .ok (.iload_n 3, 1) := by decide +kernel
theorem dX8_at_13 : decode cX8_at 13 = .ok (.invokestatic 142, 3) := by decide +kernel
theorem dX8_at_16 : decode cX8_at 16 = .ok (.ifCond .eq 13, 3) := by decide +kernel
theorem dX8_at_19 : decode cX8_at 19 = .ok (.iload 4, 2) := by decide +kernel
theorem dX8_at_21 : decode cX8_at 21 = .ok (.iconst 0, 1) := by decide +kernel
theorem dX8_at_22 : decode cX8_at 22 = .ok (.iconst 1, 1) := by decide +kernel
theorem dX8_at_23 : decode cX8_at 23 = .ok (.invokestatic 145, 3) := by decide +kernel
theorem dX8_at_26 : decode cX8_at 26 = .ok (.ifCond .ne 6, 3) := by decide +kernel
theorem dX8_at_29 : decode cX8_at 29 = .ok (.ldc 84, 2) := by decide +kernel
theorem dX8_at_31 : decode cX8_at 31 = .ok (.ireturn, 1) := by decide +kernel
theorem dX8_at_32 : decode cX8_at 32 = .ok (.iload 4, 2) := by decide +kernel
theorem dX8_at_34 : decode cX8_at 34 = .ok (.ifCond .ne 16, 3) := by decide +kernel
theorem dX8_at_37 : decode cX8_at 37 = .ok (.aload_n 0, 1) := by decide +kernel
theorem dX8_at_38 : decode cX8_at 38 = .ok (.getfield 19, 3) := by decide +kernel
theorem dX8_at_41 : decode cX8_at 41 = .ok (.iload_n 1, 1) := by decide +kernel
theorem dX8_at_42 : decode cX8_at 42 = .ok (.iload_n 2, 1) := by decide +kernel
theorem dX8_at_43 : decode cX8_at 43 = .ok (.iload_n 3, 1) := by decide +kernel
theorem dX8_at_44 : decode cX8_at 44 = .ok (.invokevirtual 148, 3) := by decide +kernel
theorem dX8_at_47 : decode cX8_at 47 = .ok (.goto 13, 3) := by decide +kernel
theorem dX8_at_50 : decode cX8_at 50 = .ok (.aload_n 0, 1) := by decide +kernel
theorem dX8_at_51 : decode cX8_at 51 = .ok (.getfield 19, 3) := by decide +kernel
theorem dX8_at_54 : decode cX8_at 54 = .ok (.iload_n 1, 1) := by decide +kernel
theorem dX8_at_55 : decode cX8_at 55 = .ok (.iload_n 2, 1) := by decide +kernel
theorem dX8_at_56 : decode cX8_at 56 = .ok (.iload_n 3, 1) := by decide +kernel
theorem dX8_at_57 : decode cX8_at 57 = .ok (.invokevirtual 152, 3) := by decide +kernel
theorem dX8_at_60 : decode cX8_at 60 = .ok (.ireturn, 1) := by decide +kernel
theorem dX8_third_0 : decode cX8_third 0 = .ok (.aload_n 0, 1) := by decide +kernel
theorem dX8_third_1 : decode cX8_third 1 = .ok (.getfield 19, 3) := by decide +kernel
theorem dX8_third_4 : decode cX8_third 4 = .ok (.iload_n 1, 1) := by decide +kernel
theorem dX8_third_5 : decode cX8_third 5 = .ok (.invokevirtual 133, 3) := by decide +kernel
theorem dX8_third_8 : decode cX8_third 8 = .ok (.ifCond .eq 40, 3) := by decide +kernel
theorem dX8_third_11 : decode cX8_third 11 = .ok (.aload_n 0, 1) := by decide +kernel
theorem dX8_third_12 : decode cX8_third 12 = .ok (.getfield 19, 3) := by decide +kernel
theorem dX8_third_15 : decode cX8_third 15 = .ok (.iload_n 2, 1) := by decide +kernel
theorem dX8_third_16 : decode cX8_third 16 = .ok (.invokevirtual 133, 3) := by decide +kernel
theorem dX8_third_19 : decode cX8_third 19 = .ok (.ifCond .eq 29, 3) := by decide +kernel
theorem dX8_third_22 : decode cX8_third 22 = .ok (.aload_n 0, 1) := by decide +kernel
theorem dX8_third_23 : decode cX8_third 23 = .ok (.getfield 19, 3) := by decide +kernel
theorem dX8_third_26 : decode cX8_third 26 = .ok (.iload_n 3, 1) := by decide +kernel
theorem dX8_third_27 : decode cX8_third 27 = .ok (.invokevirtual 133, 3) := by decide +kernel
theorem dX8_third_30 : decode cX8_third 30 = .ok (.ifCond .eq 18, 3) := by decide +kernel
theorem dX8_third_33 : decode cX8_third 33 = .ok (.iload_n 1, 1) := by decide +kernel
theorem dX8_third_34 : decode cX8_third 34 = .ok (.iload_n 2, 1) := by decide +kernel
theorem dX8_third_35 : decode cX8_third 35 = .ok (.if_icmp .eq 13, 3) := by decide +kernel
theorem dX8_third_38 : decode cX8_third 38 = .ok (.iload_n 2, 1) := by decide +kernel
theorem dX8_third_39 : decode cX8_third 39 = .ok (.iload_n 3, 1) := by decide +kernel
theorem dX8_third_40 : decode cX8_third 40 = .ok (.if_icmp .eq 8, 3) := by decide +kernel
theorem dX8_third_43 : decode cX8_third 43 = .ok (.iload_n 1, 1) := by decide +kernel
theorem dX8_third_44 : decode cX8_third 44 = .ok (.iload_n 3, 1) := by decide +kernel
theorem dX8_third_45 : decode cX8_third 45 = .ok (.if_icmp .ne 6, 3) := by decide +kernel
theorem dX8_third_48 : decode cX8_third 48 = .ok (.ldc 84, 2) := by decide +kernel
theorem dX8_third_50 : decode cX8_third 50 = .ok (.ireturn, 1) := by decide +kernel
theorem dX8_third_51 : decode cX8_third 51 = .ok (.aload_n 0, 1) := by decide +kernel
theorem dX8_third_52 : decode cX8_third 52 = .ok (.getfield 28, 3) := by decide +kernel
theorem dX8_third_55 : decode cX8_third 55 = .ok (.iload_n 1, 1) := by decide +kernel
theorem dX8_third_56 : decode cX8_third 56 = .ok (.iload_n 2, 1) := by decide +kernel
theorem dX8_third_57 : decode cX8_third 57 = .ok (.iload_n 3, 1) := by decide +kernel
theorem dX8_third_58 : decode cX8_third 58 = .ok (.invokevirtual 155, 3) := by decide +kernel
theorem dX8_third_61 : decode cX8_third 61 = .ok (.ifCond .eq 6, 3) := by decide +kernel
theorem dX8_third_64 : decode cX8_third 64 = .ok (.ldc 158, 2) := by decide +kernel
theorem dX8_third_66 : decode cX8_third 66 = .ok (.ireturn, 1) := by decide +kernel
theorem dX8_third_67 : decode cX8_third 67 = .ok (.aload_n 0, 1) := by decide +kernel
theorem dX8_third_68 : decode cX8_third 68 = .ok (.getfield 28, 3) := by decide +kernel
theorem dX8_third_71 : decode cX8_third 71 = .ok (.invokevirtual 159, 3) := by decide +kernel
theorem dX8_third_74 : decode cX8_third 74 = .ok (.ifCond .eq 6, 3) := by decide +kernel
theorem dX8_third_77 : decode cX8_third 77 = .ok (.ldc 128, 2) := by decide +kernel
theorem dX8_third_79 : decode cX8_third 79 = .ok (.ireturn, 1) := by decide +kernel
theorem dX8_third_80 : decode cX8_third 80 = .ok (.aload_n 0, 1) := by decide +kernel
theorem dX8_third_81 : decode cX8_third 81 = .ok (.getfield 28, 3) := by decide +kernel
theorem dX8_third_84 : decode cX8_third 84 = .ok (.iload_n 1, 1) := by decide +kernel
theorem dX8_third_85 : decode cX8_third 85 = .ok (.iload_n 2, 1) := by decide +kernel
theorem dX8_third_86 : decode cX8_third 86 = .ok (.iload_n 3, 1) := by decide +kernel
theorem dX8_third_87 : decode cX8_third 87 = .ok (.invokevirtual 160, 3) := by decide +kernel
theorem dX8_third_90 : decode cX8_third 90 = .ok (.ireturn, 1) := by decide +kernel
theorem dX8_told_0 : decode cX8_told 0 = .ok (.aload_n 0, 1) := by decide +kernel
theorem dX8_told_1 : decode cX8_told 1 = .ok (.getfield 28, 3) := by decide +kernel
theorem dX8_told_4 : decode cX8_told 4 = .ok (.iload_n 1, 1) := by decide +kernel
theorem dX8_told_5 : decode cX8_told 5 = .ok (.invokevirtual 162, 3) := by decide +kernel
theorem dX8_told_8 : decode cX8_told 8 = .ok (.ifCond .eq 12, 3) := by decide +kernel
theorem dX8_told_11 : decode cX8_told 11 = .ok (.iload_n 2, 1) := by decide +kernel
theorem dX8_told_12 : decode cX8_told 12 = .ok (.iconst 0, 1) := by decide +kernel
theorem dX8_told_13 : decode cX8_told 13 = .ok (.iconst 4, 1) := by decide +kernel
theorem dX8_told_14 : decode cX8_told 14 = .ok (.invokestatic 145, 3) := by decide +kernel
theorem dX8_told_17 : decode cX8_told 17 = .ok (.ifCond .ne 6, 3) := by decide +kernel
theorem dX8_told_20 : decode cX8_told 20 = .ok (.ldc 84, 2) := by decide +kernel
theorem dX8_told_22 : decode cX8_told 22 = .ok (.ireturn, 1) := by decide +kernel
theorem dX8_told_23 : decode cX8_told 23 = .ok (.iload_n 2, 1) := by decide +kernel
theorem dX8_told_24 : decode cX8_told 24 = .ok (.iconst 3, 1) := by decide +kernel
theorem dX8_told_25 : decode cX8_told 25 = .ok (.if_icmp .ge 15, 3) := by decide +kernel
theorem dX8_told_28 : decode cX8_told 28 = .ok (.aload_n 0, 1) := by decide +kernel
theorem dX8_told_29 : decode cX8_told 29 = .ok (.getfield 28, 3) := by decide +kernel
theorem dX8_told_32 : decode cX8_told 32 = .ok (.iload_n 1, 1) := by decide +kernel
theorem dX8_told_33 : decode cX8_told 33 = .ok (.iload_n 2, 1) := by decide +kernel
theorem dX8_told_34 : decode cX8_told 34 = .ok (.invokevirtual 165, 3) := by decide +kernel
theorem dX8_told_37 : decode cX8_told 37 = .ok (.goto 14, 3) := by decide +kernel
theorem dX8_told_40 : decode cX8_told 40 = .ok (.aload_n 0, 1) := by decide +kernel
theorem dX8_told_41 : decode cX8_told 41 = .ok (.getfield 28, 3) := by decide +kernel
theorem dX8_told_44 : decode cX8_told 44 = .ok (.iload_n 1, 1) := by decide +kernel
theorem dX8_told_45 : decode cX8_told 45 = .ok (.iload_n 2, 1) := by decide +kernel
theorem dX8_told_46 : decode cX8_told 46 = .ok (.iconst 3, 1) := by decide +kernel
theorem dX8_told_47 : decode cX8_told 47 = .ok (.isub, 1) := by decide +kernel
theorem dX8_told_48 : decode cX8_told 48 = .ok (.invokevirtual 168, 3) := by decide +kernel
theorem dX8_told_51 : decode cX8_told 51 = .ok (.ireturn, 1) := by decide +kernel
theorem dX8_folds_0 : decode cX8_folds 0 = .ok (.aload_n 0, 1) := by decide +kernel
theorem dX8_folds_1 : decode cX8_folds 1 = .ok (.getfield 28, 3) := by decide +kernel
theorem dX8_folds_4 : decode cX8_folds 4 = .ok (.iload_n 1, 1) := by decide +kernel
theorem dX8_folds_5 : decode cX8_folds 5 = .ok (.invokevirtual 162, 3) := by decide +kernel
theorem dX8_folds_8 : decode cX8_folds 8 = .ok (.ifCond .eq 10, 3) := by decide +kernel
theorem dX8_folds_11 : decode cX8_folds 11 = .ok (.iload_n 2, 1) := by decide +kernel
theorem dX8_folds_12 : decode cX8_folds 12 = .ok (.invokestatic 171, 3) := by decide +kernel
theorem dX8_folds_15 : decode cX8_folds 15 = .ok (.ifCond .ne 6, 3) := by decide +kernel
theorem dX8_folds_18 : decode cX8_folds 18 = .ok (.ldc 84, 2) := by decide +kernel
theorem dX8_folds_20 : decode cX8_folds 20 = .ok (.ireturn, 1) := by decide +kernel
theorem dX8_folds_21 : decode cX8_folds 21 = .ok (.aload_n 0, 1) := by decide +kernel
theorem dX8_folds_22 : decode cX8_folds 22 = .ok (.getfield 28, 3) := by decide +kernel
theorem dX8_folds_25 : decode cX8_folds 25 = .ok (.iload_n 1, 1) := by decide +kernel
theorem dX8_folds_26 : decode cX8_folds 26 = .ok (.iload_n 2, 1) := by decide +kernel
theorem dX8_folds_27 : decode cX8_folds 27 = .ok (.invokevirtual 174, 3) := by decide +kernel
theorem dX8_folds_30 : decode cX8_folds 30 = .ok (.ireturn, 1) := by decide +kernel
theorem dX8_first_0 : decode cX8_first 0 = .ok (.iload_n 1, 1) := by decide +kernel
theorem dX8_first_1 : decode cX8_first 1 = .ok (.invokestatic 171, 3) := by decide +kernel
theorem dX8_first_4 : decode cX8_first 4 = .ok (.ifCond .eq 12, 3) := by decide +kernel
theorem dX8_first_7 : decode cX8_first 7 = .ok (.iload_n 2, 1) := by decide +kernel
theorem dX8_first_8 : decode cX8_first 8 = .ok (.iconst 0, 1) := by decide +kernel
theorem dX8_first_9 : decode cX8_first 9 = .ok (.iconst 1, 1) := by decide +kernel
theorem dX8_first_10 : decode cX8_first 10 = .ok (.invokestatic 145, 3) := by decide +kernel
theorem dX8_first_13 : decode cX8_first 13 = .ok (.ifCond .ne 6, 3) := by decide +kernel
theorem dX8_first_16 : decode cX8_first 16 = .ok (.ldc 84, 2) := by decide +kernel
theorem dX8_first_18 : decode cX8_first 18 = .ok (.ireturn, 1) := by decide +kernel
theorem dX8_first_19 : decode cX8_first 19 = .ok (.aload_n 0, 1) := by decide +kernel
theorem dX8_first_20 : decode cX8_first 20 = .ok (.getfield 28, 3) := by decide +kernel
theorem dX8_first_23 : decode cX8_first 23 = .ok (.iload_n 1, 1) := by decide +kernel
theorem dX8_first_24 : decode cX8_first 24 = .ok (.invokevirtual 177, 3) := by decide +kernel
theorem dX8_first_27 : decode cX8_first 27 = .ok (.istore_n 3, 1) := by decide +kernel
theorem dX8_first_28 : decode cX8_first 28 = .ok (.iload_n 3, 1) := by decide +kernel
theorem dX8_first_29 : decode cX8_first 29 = .ok (.ldc 180, 2) := by decide +kernel
theorem dX8_first_31 : decode cX8_first 31 = .ok (.if_icmp .eq 8, 3) := by decide +kernel
theorem dX8_first_34 : decode cX8_first 34 = .ok (.iload_n 2, 1) := by decide +kernel
theorem dX8_first_35 : decode cX8_first 35 = .ok (.iconst 1, 1) := by decide +kernel
theorem dX8_first_36 : decode cX8_first 36 = .ok (.if_icmp .ne 5, 3) := by decide +kernel
theorem dX8_first_39 : decode cX8_first 39 = .ok (.iload_n 3, 1) := by decide +kernel
theorem dX8_first_40 : decode cX8_first 40 = .ok (.ireturn, 1) := by decide +kernel
theorem dX8_first_41 : decode cX8_first 41 = .ok (.aload_n 0, 1) := by decide +kernel
theorem dX8_first_42 : decode cX8_first 42 = .ok (.getfield 28, 3) := by decide +kernel
theorem dX8_first_45 : decode cX8_first 45 = .ok (.iload_n 3, 1) := by decide +kernel
theorem dX8_first_46 : decode cX8_first 46 = .ok (.iload_n 1, 1) := by decide +kernel
theorem dX8_first_47 : decode cX8_first 47 = .ok (.invokevirtual 174, 3) := by decide +kernel
theorem dX8_first_50 : decode cX8_first 50 = .ok (.ireturn, 1) := by decide +kernel
theorem dX8_sides_0 : decode cX8_sides 0 = .ok (.iload_n 1, 1) := by decide +kernel
theorem dX8_sides_1 : decode cX8_sides 1 = .ok (.iconst 1, 1) := by decide +kernel
theorem dX8_sides_2 : decode cX8_sides 2 = .ok (.bipush 24, 2) := by decide +kernel
theorem dX8_sides_4 : decode cX8_sides 4 = .ok (.invokestatic 145, 3) := by decide +kernel
theorem dX8_sides_7 : decode cX8_sides 7 = .ok (.ifCond .ne 6, 3) := by decide +kernel
theorem dX8_sides_10 : decode cX8_sides 10 = .ok (.ldc 84, 2) := by decide +kernel
theorem dX8_sides_12 : decode cX8_sides 12 = .ok (.ireturn, 1) := by decide +kernel
theorem dX8_sides_13 : decode cX8_sides 13 = .ok (.aload_n 0, 1) := by decide +kernel
theorem dX8_sides_14 : decode cX8_sides 14 = .ok (.getfield 28, 3) := by decide +kernel
theorem dX8_sides_17 : decode cX8_sides 17 = .ok (.iload_n 1, 1) := by decide +kernel
theorem dX8_sides_18 : decode cX8_sides 18 = .ok (.invokevirtual 181, 3) := by decide +kernel
theorem dX8_sides_21 : decode cX8_sides 21 = .ok (.ireturn, 1) := by decide +kernel
theorem dX8_key_0 : decode cX8_key 0 = .ok (.iload_n 1, 1) := by decide +kernel
theorem dX8_key_1 : decode cX8_key 1 = .ok (.iload_n 2, 1) := by decide +kernel
theorem dX8_key_2 : decode cX8_key 2 = .ok (.invokestatic 120, 3) := by decide +kernel
theorem dX8_key_5 : decode cX8_key 5 = .ok (.ifCond .ne 6, 3) := by decide +kernel
theorem dX8_key_8 : decode cX8_key 8 = .ok (.ldc 84, 2) := by decide +kernel
theorem dX8_key_10 : decode cX8_key 10 = .ok (.ireturn, 1) := by decide +kernel
theorem dX8_key_11 : decode cX8_key 11 = .ok (.aload_n 0, 1) := by decide +kernel
theorem dX8_key_12 : decode cX8_key 12 = .ok (.getfield 35, 3) := by decide +kernel
theorem dX8_key_15 : decode cX8_key 15 = .ok (.iload_n 1, 1) := by decide +kernel
theorem dX8_key_16 : decode cX8_key 16 = .ok (.iload_n 2, 1) := by decide +kernel
theorem dX8_key_17 : decode cX8_key 17 = .ok (.invokevirtual 184, 3) := by decide +kernel
theorem dX8_key_20 : decode cX8_key 20 = .ok (.ifCond .ne 6, 3) := by decide +kernel
theorem dX8_key_23 : decode cX8_key 23 = .ok (.ldc 158, 2) := by decide +kernel
theorem dX8_key_25 : decode cX8_key 25 = .ok (.ireturn, 1) := by decide +kernel
theorem dX8_key_26 : decode cX8_key 26 = .ok (.aload_n 0, 1) := by decide +kernel
theorem dX8_key_27 : decode cX8_key 27 = .ok (.getfield 35, 3) := by decide +kernel
theorem dX8_key_30 : decode cX8_key 30 = .ok (.invokevirtual 187, 3) := by decide +kernel
theorem dX8_key_33 : decode cX8_key 33 = .ok (.ifCond .eq 6, 3) := by decide +kernel
theorem dX8_key_36 : decode cX8_key 36 = .ok (.ldc 128, 2) := by decide +kernel
theorem dX8_key_38 : decode cX8_key 38 = .ok (.ireturn, 1) := by decide +kernel
theorem dX8_key_39 : decode cX8_key 39 = .ok (.aload_n 0, 1) := by decide +kernel
theorem dX8_key_40 : decode cX8_key 40 = .ok (.getfield 35, 3) := by decide +kernel
theorem dX8_key_43 : decode cX8_key 43 = .ok (.iload_n 1, 1) := by decide +kernel
theorem dX8_key_44 : decode cX8_key 44 = .ok (.iload_n 2, 1) := by decide +kernel
theorem dX8_key_45 : decode cX8_key 45 = .ok (.invokevirtual 188, 3) := by decide +kernel
theorem dX8_key_48 : decode cX8_key 48 = .ok (.ireturn, 1) := by decide +kernel
theorem dX8_eased_0 : decode cX8_eased 0 = .ok (.iload_n 1, 1) := by decide +kernel
theorem dX8_eased_1 : decode cX8_eased 1 = .ok (.iconst 0, 1) := by decide +kernel
theorem dX8_eased_2 : decode cX8_eased 2 = .ok (.sipush 1000, 3) := by decide +kernel
theorem dX8_eased_5 : decode cX8_eased 5 = .ok (.invokestatic 145, 3) := by decide +kernel
theorem dX8_eased_8 : decode cX8_eased 8 = .ok (.ifCond .ne 6, 3) := by decide +kernel
theorem dX8_eased_11 : decode cX8_eased 11 = .ok (.ldc 84, 2) := by decide +kernel
theorem dX8_eased_13 : decode cX8_eased 13 = .ok (.ireturn, 1) := by decide +kernel
theorem dX8_eased_14 : decode cX8_eased 14 = .ok (.aload_n 0, 1) := by decide +kernel
theorem dX8_eased_15 : decode cX8_eased 15 = .ok (.getfield 35, 3) := by decide +kernel
theorem dX8_eased_18 : decode cX8_eased 18 = .ok (.iload_n 1, 1) := by decide +kernel
theorem dX8_eased_19 : decode cX8_eased 19 = .ok (.invokevirtual 190, 3) := by decide +kernel
theorem dX8_eased_22 : decode cX8_eased 22 = .ok (.ireturn, 1) := by decide +kernel
theorem dX8_unkey_0 : decode cX8_unkey 0 = .ok (.aload_n 0, 1) := by decide +kernel
theorem dX8_unkey_1 : decode cX8_unkey 1 = .ok (.getfield 35, 3) := by decide +kernel
theorem dX8_unkey_4 : decode cX8_unkey 4 = .ok (.invokevirtual 193, 3) := by decide +kernel
theorem dX8_unkey_7 : decode cX8_unkey 7 = .ok (.ireturn, 1) := by decide +kernel
theorem dX8_in_0 : decode cX8_in 0 = .ok (.iload_n 1, 1) := by decide +kernel
theorem dX8_in_1 : decode cX8_in 1 = .ok (.iload_n 2, 1) := by decide +kernel
theorem dX8_in_2 : decode cX8_in 2 = .ok (.invokestatic 120, 3) := by decide +kernel
theorem dX8_in_5 : decode cX8_in 5 = .ok (.ifCond .eq 12, 3) := by decide +kernel
theorem dX8_in_8 : decode cX8_in 8 = .ok (.iload_n 3, 1) := by decide +kernel
theorem dX8_in_9 : decode cX8_in 9 = .ok (.iload 4, 2) := by decide +kernel
theorem dX8_in_11 : decode cX8_in 11 = .ok (.invokestatic 142, 3) := by decide +kernel
theorem dX8_in_14 : decode cX8_in 14 = .ok (.ifCond .ne 6, 3) := by decide +kernel
theorem dX8_in_17 : decode cX8_in 17 = .ok (.ldc 84, 2) := by decide +kernel
theorem dX8_in_19 : decode cX8_in 19 = .ok (.ireturn, 1) := by decide +kernel
theorem dX8_in_20 : decode cX8_in 20 = .ok (.aload_n 0, 1) := by decide +kernel
theorem dX8_in_21 : decode cX8_in 21 = .ok (.getfield 44, 3) := by decide +kernel
theorem dX8_in_24 : decode cX8_in 24 = .ok (.iload_n 1, 1) := by decide +kernel
theorem dX8_in_25 : decode cX8_in 25 = .ok (.iload_n 2, 1) := by decide +kernel
theorem dX8_in_26 : decode cX8_in 26 = .ok (.iload_n 3, 1) := by decide +kernel
theorem dX8_in_27 : decode cX8_in 27 = .ok (.iload 4, 2) := by decide +kernel
theorem dX8_in_29 : decode cX8_in 29 = .ok (.invokevirtual 196, 3) := by decide +kernel
theorem dX8_in_32 : decode cX8_in 32 = .ok (.ireturn, 1) := by decide +kernel
theorem dX8_from_0 : decode cX8_from 0 = .ok (.iload_n 1, 1) := by decide +kernel
theorem dX8_from_1 : decode cX8_from 1 = .ok (.iload_n 2, 1) := by decide +kernel
theorem dX8_from_2 : decode cX8_from 2 = .ok (.invokestatic 120, 3) := by decide +kernel
theorem dX8_from_5 : decode cX8_from 5 = .ok (.ifCond .eq 22, 3) := by decide +kernel
theorem dX8_from_8 : decode cX8_from 8 = .ok (.iload_n 3, 1) := by decide +kernel
theorem dX8_from_9 : decode cX8_from 9 = .ok (.iload 4, 2) := by decide +kernel
theorem dX8_from_11 : decode cX8_from 11 = .ok (.invokestatic 142, 3) := by decide +kernel
theorem dX8_from_14 : decode cX8_from 14 = .ok (.ifCond .eq 13, 3) := by decide +kernel
theorem dX8_from_17 : decode cX8_from 17 = .ok (.iload 5, 2) := by decide +kernel
theorem dX8_from_19 : decode cX8_from 19 = .ok (.iconst 0, 1) := by decide +kernel
theorem dX8_from_20 : decode cX8_from 20 = .ok (.iconst 3, 1) := by decide +kernel
theorem dX8_from_21 : decode cX8_from 21 = .ok (.invokestatic 145, 3) := by decide +kernel
theorem dX8_from_24 : decode cX8_from 24 = .ok (.ifCond .ne 6, 3) := by decide +kernel
theorem dX8_from_27 : decode cX8_from 27 = .ok (.ldc 84, 2) := by decide +kernel
theorem dX8_from_29 : decode cX8_from 29 = .ok (.ireturn, 1) := by decide +kernel
theorem dX8_from_30 : decode cX8_from 30 = .ok (.aload_n 0, 1) := by decide +kernel
theorem dX8_from_31 : decode cX8_from 31 = .ok (.getfield 44, 3) := by decide +kernel
theorem dX8_from_34 : decode cX8_from 34 = .ok (.iload_n 1, 1) := by decide +kernel
theorem dX8_from_35 : decode cX8_from 35 = .ok (.iload_n 2, 1) := by decide +kernel
theorem dX8_from_36 : decode cX8_from 36 = .ok (.iload_n 3, 1) := by decide +kernel
theorem dX8_from_37 : decode cX8_from 37 = .ok (.iload 4, 2) := by decide +kernel
theorem dX8_from_39 : decode cX8_from 39 = .ok (.invokevirtual 196, 3) := by decide +kernel
theorem dX8_from_42 : decode cX8_from 42 = .ok (.ldc 180, 2) := by decide +kernel
theorem dX8_from_44 : decode cX8_from 44 = .ok (.if_icmp .ne 6, 3) := by decide +kernel
theorem dX8_from_47 : decode cX8_from 47 = .ok (.ldc 180, 2) := by decide +kernel
theorem dX8_from_49 : decode cX8_from 49 = .ok (.ireturn, 1) := by decide +kernel
theorem dX8_from_50 : decode cX8_from 50 = .ok (.iload 5, 2) := by decide +kernel
theorem dX8_from_52 : decode cX8_from 52 = .ok (.iconst 2, 1) := by decide +kernel
theorem dX8_from_53 : decode cX8_from 53 = .ok (.idiv, 1) := by decide +kernel
theorem dX8_from_54 : decode cX8_from 54 = .ok (.istore 6, 2) := by decide +kernel
theorem dX8_from_56 : decode cX8_from 56 = .ok (.iload 5, 2) := by decide +kernel
theorem dX8_from_58 : decode cX8_from 58 = .ok (.iconst 2, 1) := by decide +kernel
theorem dX8_from_59 : decode cX8_from 59 = .ok (.irem, 1) := by decide +kernel
theorem dX8_from_60 : decode cX8_from 60 = .ok (.ifCond .ne 15, 3) := by decide +kernel
theorem dX8_from_63 : decode cX8_from 63 = .ok (.aload_n 0, 1) := by decide +kernel
theorem dX8_from_64 : decode cX8_from 64 = .ok (.getfield 44, 3) := by decide +kernel
theorem dX8_from_67 : decode cX8_from 67 = .ok (.iload 6, 2) := by decide +kernel
theorem dX8_from_69 : decode cX8_from 69 = .ok (.invokevirtual 199, 3) := by decide +kernel
theorem dX8_from_72 : decode cX8_from 72 = .ok (.goto 12, 3) := by decide +kernel
theorem dX8_from_75 : decode cX8_from 75 = .ok (.aload_n 0, 1) := by decide +kernel
theorem dX8_from_76 : decode cX8_from 76 = .ok (.getfield 44, 3) := by decide +kernel
theorem dX8_from_79 : decode cX8_from 79 = .ok (.iload 6, 2) := by decide +kernel
theorem dX8_from_81 : decode cX8_from 81 = .ok (.invokevirtual 202, 3) := by decide +kernel
theorem dX8_from_84 : decode cX8_from 84 = .ok (.ireturn, 1) := by decide +kernel
theorem dX8_picture_0 : decode cX8_picture 0 = .ok (.iload_n 1, 1) := by decide +kernel
theorem dX8_picture_1 : decode cX8_picture 1 = .ok (.invokestatic 136, 3) := by decide +kernel
theorem dX8_picture_4 : decode cX8_picture 4 = .ok (.ifCond .eq 20, 3) := by decide +kernel
theorem dX8_picture_7 : decode cX8_picture 7 = .ok (.iload_n 2, 1) := by decide +kernel
theorem dX8_picture_8 : decode cX8_picture 8 = .ok (.invokestatic 77, 3) := by decide +kernel
theorem dX8_picture_11 : decode cX8_picture 11 = .ok (.ifCond .eq 13, 3) := by decide +kernel
theorem dX8_picture_14 : decode cX8_picture 14 = .ok (.iload 4, 2) := by decide +kernel
theorem dX8_picture_16 : decode cX8_picture 16 = .ok (.iload 5, 2) := by decide +kernel
theorem dX8_picture_18 : decode cX8_picture 18 = .ok (.invokestatic 205, 3) := by decide +kernel
theorem dX8_picture_21 : decode cX8_picture 21 = .ok (.ifCond .ne 6, 3) := by decide +kernel
theorem dX8_picture_24 : decode cX8_picture 24 = .ok (.ldc 84, 2) := by decide +kernel
theorem dX8_picture_26 : decode cX8_picture 26 = .ok (.ireturn, 1) := by decide +kernel
theorem dX8_picture_27 : decode cX8_picture 27 = .ok (.aload_n 0, 1) := by decide +kernel
theorem dX8_picture_28 : decode cX8_picture 28 = .ok (.getfield 10, 3) := by decide +kernel
theorem dX8_picture_31 : decode cX8_picture 31 = .ok (.iload_n 2, 1) := by decide +kernel
theorem dX8_picture_32 : decode cX8_picture 32 = .ok (.invokevirtual 96, 3) := by decide +kernel
theorem dX8_picture_35 : decode cX8_picture 35 = .ok (.ifCond .eq 9, 3) := by decide +kernel
theorem dX8_picture_38 : decode cX8_picture 38 = .ok (.aload_n 0, 1) := by decide +kernel
theorem dX8_picture_39 : decode cX8_picture 39 = .ok (.iconst 1, 1) := by decide +kernel
theorem dX8_picture_40 : decode cX8_picture 40 = .ok (.invokevirtual 85, 3) := by decide +kernel
theorem dX8_picture_43 : decode cX8_picture 43 = .ok (.ireturn, 1) := by decide +kernel
theorem dX8_picture_44 : decode cX8_picture 44 = .ok (.aload_n 0, 1) := by decide +kernel
theorem dX8_picture_45 : decode cX8_picture 45 = .ok (.getfield 10, 3) := by decide +kernel
theorem dX8_picture_48 : decode cX8_picture 48 = .ok (.iload_n 2, 1) := by decide +kernel
theorem dX8_picture_49 : decode cX8_picture 49 = .ok (.iload_n 3, 1) := by decide +kernel
theorem dX8_picture_50 : decode cX8_picture 50 = .ok (.iload 4, 2) := by decide +kernel
theorem dX8_picture_52 : decode cX8_picture 52 = .ok (.iload 5, 2) := by decide +kernel
theorem dX8_picture_54 : decode cX8_picture 54 = .ok (.imul, 1) := by decide +kernel
theorem dX8_picture_55 : decode cX8_picture 55 = .ok (.invokevirtual 99, 3) := by decide +kernel
theorem dX8_picture_58 : decode cX8_picture 58 = .ok (.ifCond .ne 9, 3) := by decide +kernel
theorem dX8_picture_61 : decode cX8_picture 61 = .ok (.aload_n 0, 1) := by decide +kernel
theorem dX8_picture_62 : decode cX8_picture 62 = .ok (.iconst 2, 1) := by decide +kernel
theorem dX8_picture_63 : decode cX8_picture 63 = .ok (.invokevirtual 85, 3) := by decide +kernel
theorem dX8_picture_66 : decode cX8_picture 66 = .ok (.ireturn, 1) := by decide +kernel
theorem dX8_picture_67 : decode cX8_picture 67 = .ok (.aload_n 0, 1) := by decide +kernel
theorem dX8_picture_68 : decode cX8_picture 68 = .ok (.getfield 10, 3) := by decide +kernel
theorem dX8_picture_71 : decode cX8_picture 71 = .ok (.iload_n 2, 1) := by decide +kernel
theorem dX8_picture_72 : decode cX8_picture 72 = .ok (.iload_n 3, 1) := by decide +kernel
theorem dX8_picture_73 : decode cX8_picture 73 = .ok (.iload 4, 2) := by decide +kernel
theorem dX8_picture_75 : decode cX8_picture 75 = .ok (.iload 5, 2) := by decide +kernel
theorem dX8_picture_77 : decode cX8_picture 77 = .ok (.imul, 1) := by decide +kernel
theorem dX8_picture_78 : decode cX8_picture 78 = .ok (.sipush 255, 3) := by decide +kernel
theorem dX8_picture_81 : decode cX8_picture 81 = .ok (.invokevirtual 208, 3) := by decide +kernel
theorem dX8_picture_84 : decode cX8_picture 84 = .ok (.ifCond .ne 6, 3) := by decide +kernel
theorem dX8_picture_87 : decode cX8_picture 87 = .ok (.ldc 84, 2) := by decide +kernel
theorem dX8_picture_89 : decode cX8_picture 89 = .ok (.ireturn, 1) := by decide +kernel
theorem dX8_picture_90 : decode cX8_picture 90 = .ok (.aload_n 0, 1) := by decide +kernel
theorem dX8_picture_91 : decode cX8_picture 91 = .ok (.getfield 51, 3) := by decide +kernel
theorem dX8_picture_94 : decode cX8_picture 94 = .ok (.iload_n 1, 1) := by decide +kernel
theorem dX8_picture_95 : decode cX8_picture 95 = .ok (.aload_n 0, 1) := by decide +kernel
theorem dX8_picture_96 : decode cX8_picture 96 = .ok (.getfield 10, 3) := by decide +kernel
theorem dX8_picture_99 : decode cX8_picture 99 = .ok (.iload_n 2, 1) := by decide +kernel
theorem dX8_picture_100 : decode cX8_picture 100 = .ok (.iload_n 3, 1) := by decide +kernel
theorem dX8_picture_101 : decode cX8_picture 101 = .ok (.iload 4, 2) := by decide +kernel
theorem dX8_picture_103 : decode cX8_picture 103 = .ok (.iload 5, 2) := by decide +kernel
theorem dX8_picture_105 : decode cX8_picture 105 = .ok (.invokevirtual 212, 3) := by decide +kernel
theorem dX8_picture_108 : decode cX8_picture 108 = .ok (.aload_n 0, 1) := by decide +kernel
theorem dX8_picture_109 : decode cX8_picture 109 = .ok (.iconst 1, 1) := by decide +kernel
theorem dX8_picture_110 : decode cX8_picture 110 = .ok (.invokevirtual 93, 3) := by decide +kernel
theorem dX8_picture_113 : decode cX8_picture 113 = .ok (.ireturn, 1) := by decide +kernel
theorem dX8_seen_0 : decode cX8_seen 0 = .ok (.iload_n 1, 1) := by decide +kernel
theorem dX8_seen_1 : decode cX8_seen 1 = .ok (.iload_n 2, 1) := by decide +kernel
theorem dX8_seen_2 : decode cX8_seen 2 = .ok (.invokestatic 120, 3) := by decide +kernel
theorem dX8_seen_5 : decode cX8_seen 5 = .ok (.ifCond .eq 12, 3) := by decide +kernel
theorem dX8_seen_8 : decode cX8_seen 8 = .ok (.iload_n 3, 1) := by decide +kernel
theorem dX8_seen_9 : decode cX8_seen 9 = .ok (.iload 4, 2) := by decide +kernel
theorem dX8_seen_11 : decode cX8_seen 11 = .ok (.invokestatic 142, 3) := by decide +kernel
theorem dX8_seen_14 : decode cX8_seen 14 = .ok (.ifCond .ne 6, 3) := by decide +kernel
theorem dX8_seen_17 : decode cX8_seen 17 = .ok (.ldc 84, 2) := by decide +kernel
theorem dX8_seen_19 : decode cX8_seen 19 = .ok (.ireturn, 1) := by decide +kernel
theorem dX8_seen_20 : decode cX8_seen 20 = .ok (.aload_n 0, 1) := by decide +kernel
theorem dX8_seen_21 : decode cX8_seen 21 = .ok (.getfield 51, 3) := by decide +kernel
theorem dX8_seen_24 : decode cX8_seen 24 = .ok (.iconst 0, 1) := by decide +kernel
theorem dX8_seen_25 : decode cX8_seen 25 = .ok (.invokevirtual 216, 3) := by decide +kernel
theorem dX8_seen_28 : decode cX8_seen 28 = .ok (.ifCond .eq 14, 3) := by decide +kernel
theorem dX8_seen_31 : decode cX8_seen 31 = .ok (.aload_n 0, 1) := by decide +kernel
theorem dX8_seen_32 : decode cX8_seen 32 = .ok (.getfield 51, 3) := by decide +kernel
theorem dX8_seen_35 : decode cX8_seen 35 = .ok (.iconst 1, 1) := by decide +kernel
theorem dX8_seen_36 : decode cX8_seen 36 = .ok (.invokevirtual 216, 3) := by decide +kernel
theorem dX8_seen_39 : decode cX8_seen 39 = .ok (.ifCond .ne 6, 3) := by decide +kernel
theorem dX8_seen_42 : decode cX8_seen 42 = .ok (.ldc 158, 2) := by decide +kernel
theorem dX8_seen_44 : decode cX8_seen 44 = .ok (.ireturn, 1) := by decide +kernel
theorem dX8_seen_45 : decode cX8_seen 45 = .ok (.aload_n 0, 1) := by decide +kernel
theorem dX8_seen_46 : decode cX8_seen 46 = .ok (.getfield 44, 3) := by decide +kernel
theorem dX8_seen_49 : decode cX8_seen 49 = .ok (.iload_n 1, 1) := by decide +kernel
theorem dX8_seen_50 : decode cX8_seen 50 = .ok (.iload_n 2, 1) := by decide +kernel
theorem dX8_seen_51 : decode cX8_seen 51 = .ok (.iload_n 3, 1) := by decide +kernel
theorem dX8_seen_52 : decode cX8_seen 52 = .ok (.iload 4, 2) := by decide +kernel
theorem dX8_seen_54 : decode cX8_seen 54 = .ok (.invokevirtual 196, 3) := by decide +kernel
theorem dX8_seen_57 : decode cX8_seen 57 = .ok (.ldc 180, 2) := by decide +kernel
theorem dX8_seen_59 : decode cX8_seen 59 = .ok (.if_icmp .ne 6, 3) := by decide +kernel
theorem dX8_seen_62 : decode cX8_seen 62 = .ok (.ldc 180, 2) := by decide +kernel
theorem dX8_seen_64 : decode cX8_seen 64 = .ok (.ireturn, 1) := by decide +kernel
theorem dX8_seen_65 : decode cX8_seen 65 = .ok (.iload 4, 2) := by decide +kernel
theorem dX8_seen_67 : decode cX8_seen 67 = .ok (.iload_n 3, 1) := by decide +kernel
theorem dX8_seen_68 : decode cX8_seen 68 = .ok (.isub, 1) := by decide +kernel
theorem dX8_seen_69 : decode cX8_seen 69 = .ok (.aload_n 0, 1) := by decide +kernel
theorem dX8_seen_70 : decode cX8_seen 70 = .ok (.iconst 0, 1) := by decide +kernel
theorem dX8_seen_71 : decode cX8_seen 71 = .ok (.invokevirtual 219, 3) := by decide +kernel
theorem dX8_seen_74 : decode cX8_seen 74 = .ok (.imul, 1) := by decide +kernel
theorem dX8_seen_75 : decode cX8_seen 75 = .ok (.iload_n 3, 1) := by decide +kernel
theorem dX8_seen_76 : decode cX8_seen 76 = .ok (.aload_n 0, 1) := by decide +kernel
theorem dX8_seen_77 : decode cX8_seen 77 = .ok (.iconst 1, 1) := by decide +kernel
theorem dX8_seen_78 : decode cX8_seen 78 = .ok (.invokevirtual 219, 3) := by decide +kernel
theorem dX8_seen_81 : decode cX8_seen 81 = .ok (.imul, 1) := by decide +kernel
theorem dX8_seen_82 : decode cX8_seen 82 = .ok (.iadd, 1) := by decide +kernel
theorem dX8_seen_83 : decode cX8_seen 83 = .ok (.iload 4, 2) := by decide +kernel
theorem dX8_seen_85 : decode cX8_seen 85 = .ok (.idiv, 1) := by decide +kernel
theorem dX8_seen_86 : decode cX8_seen 86 = .ok (.ireturn, 1) := by decide +kernel
theorem dX8_pairs_0 : decode cX8_pairs 0 = .ok (.iload 5, 2) := by decide +kernel
theorem dX8_pairs_2 : decode cX8_pairs 2 = .ok (.iconst 0, 1) := by decide +kernel
theorem dX8_pairs_3 : decode cX8_pairs 3 = .ok (.iconst 3, 1) := by decide +kernel
theorem dX8_pairs_4 : decode cX8_pairs 4 = .ok (.invokestatic 145, 3) := by decide +kernel
theorem dX8_pairs_7 : decode cX8_pairs 7 = .ok (.ifCond .ne 6, 3) := by decide +kernel
theorem dX8_pairs_10 : decode cX8_pairs 10 = .ok (.ldc 84, 2) := by decide +kernel
theorem dX8_pairs_12 : decode cX8_pairs 12 = .ok (.ireturn, 1) := by decide +kernel
theorem dX8_pairs_13 : decode cX8_pairs 13 = .ok (.aload_n 0, 1) := by decide +kernel
theorem dX8_pairs_14 : decode cX8_pairs 14 = .ok (.iload_n 1, 1) := by decide +kernel
theorem dX8_pairs_15 : decode cX8_pairs 15 = .ok (.iload_n 2, 1) := by decide +kernel
theorem dX8_pairs_16 : decode cX8_pairs 16 = .ok (.iload_n 3, 1) := by decide +kernel
theorem dX8_pairs_17 : decode cX8_pairs 17 = .ok (.iload 4, 2) := by decide +kernel
theorem dX8_pairs_19 : decode cX8_pairs 19 = .ok (.invokevirtual 222, 3) := by decide +kernel
theorem dX8_pairs_22 : decode cX8_pairs 22 = .ok (.istore 6, 2) := by decide +kernel
theorem dX8_pairs_24 : decode cX8_pairs 24 = .ok (.iload 6, 2) := by decide +kernel
theorem dX8_pairs_26 : decode cX8_pairs 26 = .ok (.ifCond .eq 6, 3) := by decide +kernel
theorem dX8_pairs_29 : decode cX8_pairs 29 = .ok (.iload 6, 2) := by decide +kernel
theorem dX8_pairs_31 : decode cX8_pairs 31 = .ok (.ireturn, 1) := by decide +kernel
theorem dX8_pairs_32 : decode cX8_pairs 32 = .ok (.aload_n 0, 1) := by decide +kernel
theorem dX8_pairs_33 : decode cX8_pairs 33 = .ok (.getfield 60, 3) := by decide +kernel
theorem dX8_pairs_36 : decode cX8_pairs 36 = .ok (.iload_n 1, 1) := by decide +kernel
theorem dX8_pairs_37 : decode cX8_pairs 37 = .ok (.iload_n 2, 1) := by decide +kernel
theorem dX8_pairs_38 : decode cX8_pairs 38 = .ok (.iload_n 3, 1) := by decide +kernel
theorem dX8_pairs_39 : decode cX8_pairs 39 = .ok (.iload 4, 2) := by decide +kernel
theorem dX8_pairs_41 : decode cX8_pairs 41 = .ok (.invokevirtual 225, 3) := by decide +kernel
theorem dX8_pairs_44 : decode cX8_pairs 44 = .ok (.aload_n 0, 1) := by decide +kernel
theorem dX8_pairs_45 : decode cX8_pairs 45 = .ok (.aload_n 0, 1) := by decide +kernel
theorem dX8_pairs_46 : decode cX8_pairs 46 = .ok (.getfield 60, 3) := by decide +kernel
theorem dX8_pairs_49 : decode cX8_pairs 49 = .ok (.iload 5, 2) := by decide +kernel
theorem dX8_pairs_51 : decode cX8_pairs 51 = .ok (.invokevirtual 228, 3) := by decide +kernel
theorem dX8_pairs_54 : decode cX8_pairs 54 = .ok (.invokevirtual 93, 3) := by decide +kernel
theorem dX8_pairs_57 : decode cX8_pairs 57 = .ok (.ireturn, 1) := by decide +kernel
theorem dX8_pair_0 : decode cX8_pair 0 = .ok (.aload_n 0, 1) := by decide +kernel
theorem dX8_pair_1 : decode cX8_pair 1 = .ok (.iload_n 1, 1) := by decide +kernel
theorem dX8_pair_2 : decode cX8_pair 2 = .ok (.iload_n 2, 1) := by decide +kernel
theorem dX8_pair_3 : decode cX8_pair 3 = .ok (.iload_n 3, 1) := by decide +kernel
theorem dX8_pair_4 : decode cX8_pair 4 = .ok (.iload 4, 2) := by decide +kernel
theorem dX8_pair_6 : decode cX8_pair 6 = .ok (.invokevirtual 222, 3) := by decide +kernel
theorem dX8_pair_9 : decode cX8_pair 9 = .ok (.istore 6, 2) := by decide +kernel
theorem dX8_pair_11 : decode cX8_pair 11 = .ok (.iload 6, 2) := by decide +kernel
theorem dX8_pair_13 : decode cX8_pair 13 = .ok (.ifCond .eq 6, 3) := by decide +kernel
theorem dX8_pair_16 : decode cX8_pair 16 = .ok (.iload 6, 2) := by decide +kernel
theorem dX8_pair_18 : decode cX8_pair 18 = .ok (.ireturn, 1) := by decide +kernel
theorem dX8_pair_19 : decode cX8_pair 19 = .ok (.aload_n 0, 1) := by decide +kernel
theorem dX8_pair_20 : decode cX8_pair 20 = .ok (.getfield 60, 3) := by decide +kernel
theorem dX8_pair_23 : decode cX8_pair 23 = .ok (.iload_n 1, 1) := by decide +kernel
theorem dX8_pair_24 : decode cX8_pair 24 = .ok (.iload_n 2, 1) := by decide +kernel
theorem dX8_pair_25 : decode cX8_pair 25 = .ok (.iload_n 3, 1) := by decide +kernel
theorem dX8_pair_26 : decode cX8_pair 26 = .ok (.iload 4, 2) := by decide +kernel
theorem dX8_pair_28 : decode cX8_pair 28 = .ok (.invokevirtual 225, 3) := by decide +kernel
theorem dX8_pair_31 : decode cX8_pair 31 = .ok (.aload_n 0, 1) := by decide +kernel
theorem dX8_pair_32 : decode cX8_pair 32 = .ok (.aload_n 0, 1) := by decide +kernel
theorem dX8_pair_33 : decode cX8_pair 33 = .ok (.getfield 60, 3) := by decide +kernel
theorem dX8_pair_36 : decode cX8_pair 36 = .ok (.iload 5, 2) := by decide +kernel
theorem dX8_pair_38 : decode cX8_pair 38 = .ok (.invokevirtual 231, 3) := by decide +kernel
theorem dX8_pair_41 : decode cX8_pair 41 = .ok (.invokevirtual 93, 3) := by decide +kernel
theorem dX8_pair_44 : decode cX8_pair 44 = .ok (.ireturn, 1) := by decide +kernel
theorem dX8_kind_0 : decode cX8_kind 0 = .ok (.aload_n 0, 1) := by decide +kernel
theorem dX8_kind_1 : decode cX8_kind 1 = .ok (.getfield 28, 3) := by decide +kernel
theorem dX8_kind_4 : decode cX8_kind 4 = .ok (.iload_n 1, 1) := by decide +kernel
theorem dX8_kind_5 : decode cX8_kind 5 = .ok (.invokevirtual 162, 3) := by decide +kernel
theorem dX8_kind_8 : decode cX8_kind 8 = .ok (.ifCond .ne 6, 3) := by decide +kernel
theorem dX8_kind_11 : decode cX8_kind 11 = .ok (.ldc 84, 2) := by decide +kernel
theorem dX8_kind_13 : decode cX8_kind 13 = .ok (.ireturn, 1) := by decide +kernel
theorem dX8_kind_14 : decode cX8_kind 14 = .ok (.aload_n 0, 1) := by decide +kernel
theorem dX8_kind_15 : decode cX8_kind 15 = .ok (.getfield 28, 3) := by decide +kernel
theorem dX8_kind_18 : decode cX8_kind 18 = .ok (.iload_n 1, 1) := by decide +kernel
theorem dX8_kind_19 : decode cX8_kind 19 = .ok (.invokevirtual 234, 3) := by decide +kernel
theorem dX8_kind_22 : decode cX8_kind 22 = .ok (.ireturn, 1) := by decide +kernel
theorem dX8_as_0 : decode cX8_as 0 = .ok (.aload_n 0, 1) := by decide +kernel
theorem dX8_as_1 : decode cX8_as 1 = .ok (.getfield 28, 3) := by decide +kernel
theorem dX8_as_4 : decode cX8_as 4 = .ok (.iload_n 1, 1) := by decide +kernel
theorem dX8_as_5 : decode cX8_as 5 = .ok (.invokevirtual 162, 3) := by decide +kernel
theorem dX8_as_8 : decode cX8_as 8 = .ok (.ifCond .eq 12, 3) := by decide +kernel
theorem dX8_as_11 : decode cX8_as 11 = .ok (.iload_n 2, 1) := by decide +kernel
theorem dX8_as_12 : decode cX8_as 12 = .ok (.iconst 0, 1) := by decide +kernel
theorem dX8_as_13 : decode cX8_as 13 = .ok (.iconst 4, 1) := by decide +kernel
theorem dX8_as_14 : decode cX8_as 14 = .ok (.invokestatic 145, 3) := by decide +kernel
theorem dX8_as_17 : decode cX8_as 17 = .ok (.ifCond .ne 6, 3) := by decide +kernel
theorem dX8_as_20 : decode cX8_as 20 = .ok (.ldc 84, 2) := by decide +kernel
theorem dX8_as_22 : decode cX8_as 22 = .ok (.ireturn, 1) := by decide +kernel
theorem dX8_as_23 : decode cX8_as 23 = .ok (.aload_n 0, 1) := by decide +kernel
theorem dX8_as_24 : decode cX8_as 24 = .ok (.getfield 28, 3) := by decide +kernel
theorem dX8_as_27 : decode cX8_as 27 = .ok (.iload_n 1, 1) := by decide +kernel
theorem dX8_as_28 : decode cX8_as 28 = .ok (.iload_n 2, 1) := by decide +kernel
theorem dX8_as_29 : decode cX8_as 29 = .ok (.invokevirtual 237, 3) := by decide +kernel
theorem dX8_as_32 : decode cX8_as 32 = .ok (.ifCond .ne 9, 3) := by decide +kernel
theorem dX8_as_35 : decode cX8_as 35 = .ok (.aload_n 0, 1) := by decide +kernel
theorem dX8_as_36 : decode cX8_as 36 = .ok (.iconst 3, 1) := by decide +kernel
theorem dX8_as_37 : decode cX8_as 37 = .ok (.invokevirtual 85, 3) := by decide +kernel
theorem dX8_as_40 : decode cX8_as 40 = .ok (.ireturn, 1) := by decide +kernel
theorem dX8_as_41 : decode cX8_as 41 = .ok (.aload_n 0, 1) := by decide +kernel
theorem dX8_as_42 : decode cX8_as 42 = .ok (.aload_n 0, 1) := by decide +kernel
theorem dX8_as_43 : decode cX8_as 43 = .ok (.getfield 28, 3) := by decide +kernel
theorem dX8_as_46 : decode cX8_as 46 = .ok (.iload_n 1, 1) := by decide +kernel
theorem dX8_as_47 : decode cX8_as 47 = .ok (.iconst 1, 1) := by decide +kernel
theorem dX8_as_48 : decode cX8_as 48 = .ok (.invokevirtual 168, 3) := by decide +kernel
theorem dX8_as_51 : decode cX8_as 51 = .ok (.invokevirtual 93, 3) := by decide +kernel
theorem dX8_as_54 : decode cX8_as 54 = .ok (.ireturn, 1) := by decide +kernel
theorem dX8_ask_0 : decode cX8_ask 0 = .ok (.aload_n 0, 1) := by decide +kernel
theorem dX8_ask_1 : decode cX8_ask 1 = .ok (.getfield 28, 3) := by decide +kernel
theorem dX8_ask_4 : decode cX8_ask 4 = .ok (.iload_n 1, 1) := by decide +kernel
theorem dX8_ask_5 : decode cX8_ask 5 = .ok (.invokevirtual 162, 3) := by decide +kernel
theorem dX8_ask_8 : decode cX8_ask 8 = .ok (.ifCond .eq 12, 3) := by decide +kernel
theorem dX8_ask_11 : decode cX8_ask 11 = .ok (.iload_n 2, 1) := by decide +kernel
theorem dX8_ask_12 : decode cX8_ask 12 = .ok (.iconst 0, 1) := by decide +kernel
theorem dX8_ask_13 : decode cX8_ask 13 = .ok (.iconst 1, 1) := by decide +kernel
theorem dX8_ask_14 : decode cX8_ask 14 = .ok (.invokestatic 145, 3) := by decide +kernel
theorem dX8_ask_17 : decode cX8_ask 17 = .ok (.ifCond .ne 6, 3) := by decide +kernel
theorem dX8_ask_20 : decode cX8_ask 20 = .ok (.ldc 84, 2) := by decide +kernel
theorem dX8_ask_22 : decode cX8_ask 22 = .ok (.ireturn, 1) := by decide +kernel
theorem dX8_ask_23 : decode cX8_ask 23 = .ok (.aload_n 0, 1) := by decide +kernel
theorem dX8_ask_24 : decode cX8_ask 24 = .ok (.getfield 69, 3) := by decide +kernel
theorem dX8_ask_27 : decode cX8_ask 27 = .ok (.invokevirtual 240, 3) := by decide +kernel
theorem dX8_ask_30 : decode cX8_ask 30 = .ok (.iload_n 2, 1) := by decide +kernel
theorem dX8_ask_31 : decode cX8_ask 31 = .ok (.ifCond .ne 14, 3) := by decide +kernel
theorem dX8_ask_34 : decode cX8_ask 34 = .ok (.aload_n 0, 1) := by decide +kernel
theorem dX8_ask_35 : decode cX8_ask 35 = .ok (.getfield 69, 3) := by decide +kernel
theorem dX8_ask_38 : decode cX8_ask 38 = .ok (.iload_n 1, 1) := by decide +kernel
theorem dX8_ask_39 : decode cX8_ask 39 = .ok (.invokevirtual 243, 3) := by decide +kernel
theorem dX8_ask_42 : decode cX8_ask 42 = .ok (.goto 11, 3) := by decide +kernel
theorem dX8_ask_45 : decode cX8_ask 45 = .ok (.aload_n 0, 1) := by decide +kernel
theorem dX8_ask_46 : decode cX8_ask 46 = .ok (.getfield 69, 3) := by decide +kernel
theorem dX8_ask_49 : decode cX8_ask 49 = .ok (.iload_n 1, 1) := by decide +kernel
theorem dX8_ask_50 : decode cX8_ask 50 = .ok (.invokevirtual 246, 3) := by decide +kernel
theorem dX8_ask_53 : decode cX8_ask 53 = .ok (.ireturn, 1) := by decide +kernel
theorem dX8_trace_0 : decode cX8_trace 0 = .ok (.aload_n 0, 1) := by decide +kernel
theorem dX8_trace_1 : decode cX8_trace 1 = .ok (.getfield 69, 3) := by decide +kernel
theorem dX8_trace_4 : decode cX8_trace 4 = .ok (.iload_n 1, 1) := by decide +kernel
theorem dX8_trace_5 : decode cX8_trace 5 = .ok (.invokevirtual 249, 3) := by decide +kernel
theorem dX8_trace_8 : decode cX8_trace 8 = .ok (.ireturn, 1) := by decide +kernel
theorem dX8_count_0 : decode cX8_count 0 = .ok (.iload_n 1, 1) := by decide +kernel
theorem dX8_count_1 : decode cX8_count 1 = .ok (.tableswitch 115 0 7 #[47, 55, 63, 71, 80, 89, 98, 107], 47) := by decide +kernel
theorem dX8_count_48 : decode cX8_count 48 = .ok (.aload_n 0, 1) := by decide +kernel
theorem dX8_count_49 : decode cX8_count 49 = .ok (.getfield 10, 3) := by decide +kernel
theorem dX8_count_52 : decode cX8_count 52 = .ok (.invokevirtual 252, 3) := by decide +kernel
theorem dX8_count_55 : decode cX8_count 55 = .ok (.ireturn, 1) := by decide +kernel
theorem dX8_count_56 : decode cX8_count 56 = .ok (.aload_n 0, 1) := by decide +kernel
theorem dX8_count_57 : decode cX8_count 57 = .ok (.getfield 19, 3) := by decide +kernel
theorem dX8_count_60 : decode cX8_count 60 = .ok (.invokevirtual 255, 3) := by decide +kernel
theorem dX8_count_63 : decode cX8_count 63 = .ok (.ireturn, 1) := by decide +kernel
theorem dX8_count_64 : decode cX8_count 64 = .ok (.aload_n 0, 1) := by decide +kernel
theorem dX8_count_65 : decode cX8_count 65 = .ok (.getfield 28, 3) := by decide +kernel
theorem dX8_count_68 : decode cX8_count 68 = .ok (.invokevirtual 256, 3) := by decide +kernel
theorem dX8_count_71 : decode cX8_count 71 = .ok (.ireturn, 1) := by decide +kernel
theorem dX8_count_72 : decode cX8_count 72 = .ok (.aload_n 0, 1) := by decide +kernel
theorem dX8_count_73 : decode cX8_count 73 = .ok (.getfield 28, 3) := by decide +kernel
theorem dX8_count_76 : decode cX8_count 76 = .ok (.iconst 1, 1) := by decide +kernel
theorem dX8_count_77 : decode cX8_count 77 = .ok (.invokevirtual 257, 3) := by decide +kernel
theorem dX8_count_80 : decode cX8_count 80 = .ok (.ireturn, 1) := by decide +kernel
theorem dX8_count_81 : decode cX8_count 81 = .ok (.aload_n 0, 1) := by decide +kernel
theorem dX8_count_82 : decode cX8_count 82 = .ok (.getfield 28, 3) := by decide +kernel
theorem dX8_count_85 : decode cX8_count 85 = .ok (.iconst 2, 1) := by decide +kernel
theorem dX8_count_86 : decode cX8_count 86 = .ok (.invokevirtual 257, 3) := by decide +kernel
theorem dX8_count_89 : decode cX8_count 89 = .ok (.ireturn, 1) := by decide +kernel
theorem dX8_count_90 : decode cX8_count 90 = .ok (.aload_n 0, 1) := by decide +kernel
theorem dX8_count_91 : decode cX8_count 91 = .ok (.getfield 28, 3) := by decide +kernel
theorem dX8_count_94 : decode cX8_count 94 = .ok (.iconst 3, 1) := by decide +kernel
theorem dX8_count_95 : decode cX8_count 95 = .ok (.invokevirtual 257, 3) := by decide +kernel
theorem dX8_count_98 : decode cX8_count 98 = .ok (.ireturn, 1) := by decide +kernel
theorem dX8_count_99 : decode cX8_count 99 = .ok (.aload_n 0, 1) := by decide +kernel
theorem dX8_count_100 : decode cX8_count 100 = .ok (.getfield 28, 3) := by decide +kernel
theorem dX8_count_103 : decode cX8_count 103 = .ok (.iconst 4, 1) := by decide +kernel
theorem dX8_count_104 : decode cX8_count 104 = .ok (.invokevirtual 257, 3) := by decide +kernel
theorem dX8_count_107 : decode cX8_count 107 = .ok (.ireturn, 1) := by decide +kernel
theorem dX8_count_108 : decode cX8_count 108 = .ok (.aload_n 0, 1) := by decide +kernel
theorem dX8_count_109 : decode cX8_count 109 = .ok (.getfield 35, 3) := by decide +kernel
theorem dX8_count_112 : decode cX8_count 112 = .ok (.invokevirtual 260, 3) := by decide +kernel
theorem dX8_count_115 : decode cX8_count 115 = .ok (.ireturn, 1) := by decide +kernel
theorem dX8_count_116 : decode cX8_count 116 = .ok (.ldc 84, 2) := by decide +kernel
theorem dX8_count_118 : decode cX8_count 118 = .ok (.ireturn, 1) := by decide +kernel
theorem dX8_status_0 : decode cX8_status 0 = .ok (.aload_n 0, 1) := by decide +kernel
theorem dX8_status_1 : decode cX8_status 1 = .ok (.getfield 73, 3) := by decide +kernel
theorem dX8_status_4 : decode cX8_status 4 = .ok (.ireturn, 1) := by decide +kernel
theorem dX8_found_0 : decode cX8_found 0 = .ok (.aload_n 0, 1) := by decide +kernel
theorem dX8_found_1 : decode cX8_found 1 = .ok (.iload_n 1, 1) := by decide +kernel
theorem dX8_found_2 : decode cX8_found 2 = .ok (.putfield 73, 3) := by decide +kernel
theorem dX8_found_5 : decode cX8_found 5 = .ok (.ldc_w 261, 3) := by decide +kernel
theorem dX8_found_8 : decode cX8_found 8 = .ok (.iload_n 1, 1) := by decide +kernel
theorem dX8_found_9 : decode cX8_found 9 = .ok (.isub, 1) := by decide +kernel
theorem dX8_found_10 : decode cX8_found 10 = .ok (.ireturn, 1) := by decide +kernel
theorem dX8_answered_0 : decode cX8_answered 0 = .ok (.aload_n 0, 1) := by decide +kernel
theorem dX8_answered_1 : decode cX8_answered 1 = .ok (.iconst 0, 1) := by decide +kernel
theorem dX8_answered_2 : decode cX8_answered 2 = .ok (.putfield 73, 3) := by decide +kernel
theorem dX8_answered_5 : decode cX8_answered 5 = .ok (.iload_n 1, 1) := by decide +kernel
theorem dX8_answered_6 : decode cX8_answered 6 = .ok (.ireturn, 1) := by decide +kernel
theorem dX8_refusalOfRows_0 : decode cX8_refusalOfRows 0 = .ok (.iload_n 1, 1) := by decide +kernel
theorem dX8_refusalOfRows_1 : decode cX8_refusalOfRows 1 = .ok (.invokestatic 77, 3) := by decide +kernel
theorem dX8_refusalOfRows_4 : decode cX8_refusalOfRows 4 = .ok (.ifCond .eq 25, 3) := by decide +kernel
theorem dX8_refusalOfRows_7 : decode cX8_refusalOfRows 7 = .ok (.iload_n 3, 1) := by decide +kernel
theorem dX8_refusalOfRows_8 : decode cX8_refusalOfRows 8 = .ok (.invokestatic 77, 3) := by decide +kernel
theorem dX8_refusalOfRows_11 : decode cX8_refusalOfRows 11 = .ok (.ifCond .eq 18, 3) := by decide +kernel
theorem dX8_refusalOfRows_14 : decode cX8_refusalOfRows 14 = .ok (.iload_n 2, 1) := by decide +kernel
theorem dX8_refusalOfRows_15 : decode cX8_refusalOfRows 15 = .ok (.invokestatic 262, 3) := by decide +kernel
theorem dX8_refusalOfRows_18 : decode cX8_refusalOfRows 18 = .ok (.ifCond .eq 11, 3) := by decide +kernel
theorem dX8_refusalOfRows_21 : decode cX8_refusalOfRows 21 = .ok (.iload 4, 2) := by decide +kernel
theorem dX8_refusalOfRows_23 : decode cX8_refusalOfRows 23 = .ok (.invokestatic 262, 3) := by decide +kernel
theorem dX8_refusalOfRows_26 : decode cX8_refusalOfRows 26 = .ok (.ifCond .ne 6, 3) := by decide +kernel
theorem dX8_refusalOfRows_29 : decode cX8_refusalOfRows 29 = .ok (.ldc 84, 2) := by decide +kernel
theorem dX8_refusalOfRows_31 : decode cX8_refusalOfRows 31 = .ok (.ireturn, 1) := by decide +kernel
theorem dX8_refusalOfRows_32 : decode cX8_refusalOfRows 32 = .ok (.aload_n 0, 1) := by decide +kernel
theorem dX8_refusalOfRows_33 : decode cX8_refusalOfRows 33 = .ok (.getfield 10, 3) := by decide +kernel
theorem dX8_refusalOfRows_36 : decode cX8_refusalOfRows 36 = .ok (.iload_n 1, 1) := by decide +kernel
theorem dX8_refusalOfRows_37 : decode cX8_refusalOfRows 37 = .ok (.invokevirtual 96, 3) := by decide +kernel
theorem dX8_refusalOfRows_40 : decode cX8_refusalOfRows 40 = .ok (.ifCond .ne 14, 3) := by decide +kernel
theorem dX8_refusalOfRows_43 : decode cX8_refusalOfRows 43 = .ok (.aload_n 0, 1) := by decide +kernel
theorem dX8_refusalOfRows_44 : decode cX8_refusalOfRows 44 = .ok (.getfield 10, 3) := by decide +kernel
theorem dX8_refusalOfRows_47 : decode cX8_refusalOfRows 47 = .ok (.iload_n 3, 1) := by decide +kernel
theorem dX8_refusalOfRows_48 : decode cX8_refusalOfRows 48 = .ok (.invokevirtual 96, 3) := by decide +kernel
theorem dX8_refusalOfRows_51 : decode cX8_refusalOfRows 51 = .ok (.ifCond .eq 9, 3) := by decide +kernel
theorem dX8_refusalOfRows_54 : decode cX8_refusalOfRows 54 = .ok (.aload_n 0, 1) := by decide +kernel
theorem dX8_refusalOfRows_55 : decode cX8_refusalOfRows 55 = .ok (.iconst 1, 1) := by decide +kernel
theorem dX8_refusalOfRows_56 : decode cX8_refusalOfRows 56 = .ok (.invokevirtual 85, 3) := by decide +kernel
theorem dX8_refusalOfRows_59 : decode cX8_refusalOfRows 59 = .ok (.ireturn, 1) := by decide +kernel
theorem dX8_refusalOfRows_60 : decode cX8_refusalOfRows 60 = .ok (.aload_n 0, 1) := by decide +kernel
theorem dX8_refusalOfRows_61 : decode cX8_refusalOfRows 61 = .ok (.getfield 10, 3) := by decide +kernel
theorem dX8_refusalOfRows_64 : decode cX8_refusalOfRows 64 = .ok (.iload_n 1, 1) := by decide +kernel
theorem dX8_refusalOfRows_65 : decode cX8_refusalOfRows 65 = .ok (.iconst 0, 1) := by decide +kernel
theorem dX8_refusalOfRows_66 : decode cX8_refusalOfRows 66 = .ok (.iconst 2, 1) := by decide +kernel
theorem dX8_refusalOfRows_67 : decode cX8_refusalOfRows 67 = .ok (.iload_n 2, 1) := by decide +kernel
theorem dX8_refusalOfRows_68 : decode cX8_refusalOfRows 68 = .ok (.imul, 1) := by decide +kernel
theorem dX8_refusalOfRows_69 : decode cX8_refusalOfRows 69 = .ok (.invokevirtual 99, 3) := by decide +kernel
theorem dX8_refusalOfRows_72 : decode cX8_refusalOfRows 72 = .ok (.ifCond .eq 19, 3) := by decide +kernel
theorem dX8_refusalOfRows_75 : decode cX8_refusalOfRows 75 = .ok (.aload_n 0, 1) := by decide +kernel
theorem dX8_refusalOfRows_76 : decode cX8_refusalOfRows 76 = .ok (.getfield 10, 3) := by decide +kernel
theorem dX8_refusalOfRows_79 : decode cX8_refusalOfRows 79 = .ok (.iload_n 3, 1) := by decide +kernel
theorem dX8_refusalOfRows_80 : decode cX8_refusalOfRows 80 = .ok (.iconst 0, 1) := by decide +kernel
theorem dX8_refusalOfRows_81 : decode cX8_refusalOfRows 81 = .ok (.iconst 2, 1) := by decide +kernel
theorem dX8_refusalOfRows_82 : decode cX8_refusalOfRows 82 = .ok (.iload 4, 2) := by decide +kernel
theorem dX8_refusalOfRows_84 : decode cX8_refusalOfRows 84 = .ok (.imul, 1) := by decide +kernel
theorem dX8_refusalOfRows_85 : decode cX8_refusalOfRows 85 = .ok (.invokevirtual 99, 3) := by decide +kernel
theorem dX8_refusalOfRows_88 : decode cX8_refusalOfRows 88 = .ok (.ifCond .ne 9, 3) := by decide +kernel
theorem dX8_refusalOfRows_91 : decode cX8_refusalOfRows 91 = .ok (.aload_n 0, 1) := by decide +kernel
theorem dX8_refusalOfRows_92 : decode cX8_refusalOfRows 92 = .ok (.iconst 2, 1) := by decide +kernel
theorem dX8_refusalOfRows_93 : decode cX8_refusalOfRows 93 = .ok (.invokevirtual 85, 3) := by decide +kernel
theorem dX8_refusalOfRows_96 : decode cX8_refusalOfRows 96 = .ok (.ireturn, 1) := by decide +kernel
theorem dX8_refusalOfRows_97 : decode cX8_refusalOfRows 97 = .ok (.aload_n 0, 1) := by decide +kernel
theorem dX8_refusalOfRows_98 : decode cX8_refusalOfRows 98 = .ok (.getfield 10, 3) := by decide +kernel
theorem dX8_refusalOfRows_101 : decode cX8_refusalOfRows 101 = .ok (.iload_n 1, 1) := by decide +kernel
theorem dX8_refusalOfRows_102 : decode cX8_refusalOfRows 102 = .ok (.iconst 0, 1) := by decide +kernel
theorem dX8_refusalOfRows_103 : decode cX8_refusalOfRows 103 = .ok (.iconst 2, 1) := by decide +kernel
theorem dX8_refusalOfRows_104 : decode cX8_refusalOfRows 104 = .ok (.iload_n 2, 1) := by decide +kernel
theorem dX8_refusalOfRows_105 : decode cX8_refusalOfRows 105 = .ok (.imul, 1) := by decide +kernel
theorem dX8_refusalOfRows_106 : decode cX8_refusalOfRows 106 = .ok (.sipush 1000, 3) := by decide +kernel
theorem dX8_refusalOfRows_109 : decode cX8_refusalOfRows 109 = .ok (.invokevirtual 208, 3) := by decide +kernel
theorem dX8_refusalOfRows_112 : decode cX8_refusalOfRows 112 = .ok (.ifCond .eq 22, 3) := by decide +kernel
theorem dX8_refusalOfRows_115 : decode cX8_refusalOfRows 115 = .ok (.aload_n 0, 1) := by decide +kernel
theorem dX8_refusalOfRows_116 : decode cX8_refusalOfRows 116 = .ok (.getfield 10, 3) := by decide +kernel
theorem dX8_refusalOfRows_119 : decode cX8_refusalOfRows 119 = .ok (.iload_n 3, 1) := by decide +kernel
theorem dX8_refusalOfRows_120 : decode cX8_refusalOfRows 120 = .ok (.iconst 0, 1) := by decide +kernel
theorem dX8_refusalOfRows_121 : decode cX8_refusalOfRows 121 = .ok (.iconst 2, 1) := by decide +kernel
theorem dX8_refusalOfRows_122 : decode cX8_refusalOfRows 122 = .ok (.iload 4, 2) := by decide +kernel
theorem dX8_refusalOfRows_124 : decode cX8_refusalOfRows 124 = .ok (.imul, 1) := by decide +kernel
theorem dX8_refusalOfRows_125 : decode cX8_refusalOfRows 125 = .ok (.sipush 1000, 3) := by decide +kernel
theorem dX8_refusalOfRows_128 : decode cX8_refusalOfRows 128 = .ok (.invokevirtual 208, 3) := by decide +kernel
theorem dX8_refusalOfRows_131 : decode cX8_refusalOfRows 131 = .ok (.ifCond .ne 6, 3) := by decide +kernel
theorem dX8_refusalOfRows_134 : decode cX8_refusalOfRows 134 = .ok (.ldc 84, 2) := by decide +kernel
theorem dX8_refusalOfRows_136 : decode cX8_refusalOfRows 136 = .ok (.ireturn, 1) := by decide +kernel
theorem dX8_refusalOfRows_137 : decode cX8_refusalOfRows 137 = .ok (.iconst 0, 1) := by decide +kernel
theorem dX8_refusalOfRows_138 : decode cX8_refusalOfRows 138 = .ok (.ireturn, 1) := by decide +kernel
theorem dX8_numberFrom_0 : decode cX8_numberFrom 0 = .ok (.aload_n 0, 1) := by decide +kernel
theorem dX8_numberFrom_1 : decode cX8_numberFrom 1 = .ok (.getfield 51, 3) := by decide +kernel
theorem dX8_numberFrom_4 : decode cX8_numberFrom 4 = .ok (.iload_n 1, 1) := by decide +kernel
theorem dX8_numberFrom_5 : decode cX8_numberFrom 5 = .ok (.aload_n 0, 1) := by decide +kernel
theorem dX8_numberFrom_6 : decode cX8_numberFrom 6 = .ok (.getfield 44, 3) := by decide +kernel
theorem dX8_numberFrom_9 : decode cX8_numberFrom 9 = .ok (.iload_n 1, 1) := by decide +kernel
theorem dX8_numberFrom_10 : decode cX8_numberFrom 10 = .ok (.invokevirtual 199, 3) := by decide +kernel
theorem dX8_numberFrom_13 : decode cX8_numberFrom 13 = .ok (.aload_n 0, 1) := by decide +kernel
theorem dX8_numberFrom_14 : decode cX8_numberFrom 14 = .ok (.getfield 44, 3) := by decide +kernel
theorem dX8_numberFrom_17 : decode cX8_numberFrom 17 = .ok (.iload_n 1, 1) := by decide +kernel
theorem dX8_numberFrom_18 : decode cX8_numberFrom 18 = .ok (.invokevirtual 202, 3) := by decide +kernel
theorem dX8_numberFrom_21 : decode cX8_numberFrom 21 = .ok (.invokevirtual 265, 3) := by decide +kernel
theorem dX8_numberFrom_24 : decode cX8_numberFrom 24 = .ok (.ireturn, 1) := by decide +kernel
theorem dX8_isWithin_0 : decode cX8_isWithin 0 = .ok (.iload_n 0, 1) := by decide +kernel
theorem dX8_isWithin_1 : decode cX8_isWithin 1 = .ok (.iload_n 1, 1) := by decide +kernel
theorem dX8_isWithin_2 : decode cX8_isWithin 2 = .ok (.if_icmp .lt 12, 3) := by decide +kernel
theorem dX8_isWithin_5 : decode cX8_isWithin 5 = .ok (.iload_n 0, 1) := by decide +kernel
theorem dX8_isWithin_6 : decode cX8_isWithin 6 = .ok (.iload_n 2, 1) := by decide +kernel
theorem dX8_isWithin_7 : decode cX8_isWithin 7 = .ok (.if_icmp .gt 7, 3) := by decide +kernel
theorem dX8_isWithin_10 : decode cX8_isWithin 10 = .ok (.iconst 1, 1) := by decide +kernel
theorem dX8_isWithin_11 : decode cX8_isWithin 11 = .ok (.goto 4, 3) := by decide +kernel
theorem dX8_isWithin_14 : decode cX8_isWithin 14 = .ok (.iconst 0, 1) := by decide +kernel
theorem dX8_isWithin_15 : decode cX8_isWithin 15 = .ok (.ireturn, 1) := by decide +kernel
theorem dX8_isPlace_0 : decode cX8_isPlace 0 = .ok (.iload_n 0, 1) := by decide +kernel
theorem dX8_isPlace_1 : decode cX8_isPlace 1 = .ok (.iconst 0, 1) := by decide +kernel
theorem dX8_isPlace_2 : decode cX8_isPlace 2 = .ok (.sipush 1000, 3) := by decide +kernel
theorem dX8_isPlace_5 : decode cX8_isPlace 5 = .ok (.invokestatic 145, 3) := by decide +kernel
theorem dX8_isPlace_8 : decode cX8_isPlace 8 = .ok (.ifCond .eq 18, 3) := by decide +kernel
theorem dX8_isPlace_11 : decode cX8_isPlace 11 = .ok (.iload_n 1, 1) := by decide +kernel
theorem dX8_isPlace_12 : decode cX8_isPlace 12 = .ok (.iconst 0, 1) := by decide +kernel
theorem dX8_isPlace_13 : decode cX8_isPlace 13 = .ok (.sipush 1000, 3) := by decide +kernel
theorem dX8_isPlace_16 : decode cX8_isPlace 16 = .ok (.invokestatic 145, 3) := by decide +kernel
theorem dX8_isPlace_19 : decode cX8_isPlace 19 = .ok (.ifCond .eq 7, 3) := by decide +kernel
theorem dX8_isPlace_22 : decode cX8_isPlace 22 = .ok (.iconst 1, 1) := by decide +kernel
theorem dX8_isPlace_23 : decode cX8_isPlace 23 = .ok (.goto 4, 3) := by decide +kernel
theorem dX8_isPlace_26 : decode cX8_isPlace 26 = .ok (.iconst 0, 1) := by decide +kernel
theorem dX8_isPlace_27 : decode cX8_isPlace 27 = .ok (.ireturn, 1) := by decide +kernel
theorem dX8_isPicture_0 : decode cX8_isPicture 0 = .ok (.iload_n 0, 1) := by decide +kernel
theorem dX8_isPicture_1 : decode cX8_isPicture 1 = .ok (.iconst 0, 1) := by decide +kernel
theorem dX8_isPicture_2 : decode cX8_isPicture 2 = .ok (.iconst 1, 1) := by decide +kernel
theorem dX8_isPicture_3 : decode cX8_isPicture 3 = .ok (.invokestatic 145, 3) := by decide +kernel
theorem dX8_isPicture_6 : decode cX8_isPicture 6 = .ok (.ireturn, 1) := by decide +kernel
theorem dX8_isTicks_0 : decode cX8_isTicks 0 = .ok (.iload_n 0, 1) := by decide +kernel
theorem dX8_isTicks_1 : decode cX8_isTicks 1 = .ok (.iconst 1, 1) := by decide +kernel
theorem dX8_isTicks_2 : decode cX8_isTicks 2 = .ok (.bipush 100, 2) := by decide +kernel
theorem dX8_isTicks_4 : decode cX8_isTicks 4 = .ok (.invokestatic 145, 3) := by decide +kernel
theorem dX8_isTicks_7 : decode cX8_isTicks 7 = .ok (.ireturn, 1) := by decide +kernel
theorem dX8_isTick_0 : decode cX8_isTick 0 = .ok (.iload_n 1, 1) := by decide +kernel
theorem dX8_isTick_1 : decode cX8_isTick 1 = .ok (.invokestatic 171, 3) := by decide +kernel
theorem dX8_isTick_4 : decode cX8_isTick 4 = .ok (.ifCond .eq 16, 3) := by decide +kernel
theorem dX8_isTick_7 : decode cX8_isTick 7 = .ok (.iload_n 0, 1) := by decide +kernel
theorem dX8_isTick_8 : decode cX8_isTick 8 = .ok (.iconst 0, 1) := by decide +kernel
theorem dX8_isTick_9 : decode cX8_isTick 9 = .ok (.iload_n 1, 1) := by decide +kernel
theorem dX8_isTick_10 : decode cX8_isTick 10 = .ok (.invokestatic 145, 3) := by decide +kernel
theorem dX8_isTick_13 : decode cX8_isTick 13 = .ok (.ifCond .eq 7, 3) := by decide +kernel
theorem dX8_isTick_16 : decode cX8_isTick 16 = .ok (.iconst 1, 1) := by decide +kernel
theorem dX8_isTick_17 : decode cX8_isTick 17 = .ok (.goto 4, 3) := by decide +kernel
theorem dX8_isTick_20 : decode cX8_isTick 20 = .ok (.iconst 0, 1) := by decide +kernel
theorem dX8_isTick_21 : decode cX8_isTick 21 = .ok (.ireturn, 1) := by decide +kernel
end
section
theorem dX9_init_0 : decode cX9_init 0 = .ok (.aload_n 0, 1) := by decide +kernel
theorem dX9_init_1 : decode cX9_init 1 = .ok (.invokespecial 1, 3) := by decide +kernel
theorem dX9_init_4 : decode cX9_init 4 = .ok (.aload_n 0, 1) := by decide +kernel
theorem dX9_init_5 : decode cX9_init 5 = .ok (.bipush 8, 2) := by decide +kernel
theorem dX9_init_7 : decode cX9_init 7 = .ok (.newarray .int, 2) := by decide +kernel
theorem dX9_init_9 : decode cX9_init 9 = .ok (.dup, 1) := by decide +kernel
theorem dX9_init_10 : decode cX9_init 10 = .ok (.iconst 0, 1) := by decide +kernel
theorem dX9_init_11 : decode cX9_init 11 = .ok (.iconst (-1), 1) := by decide +kernel
theorem dX9_init_12 : decode cX9_init 12 = .ok (.iastore, 1) := by decide +kernel
theorem dX9_init_13 : decode cX9_init 13 = .ok (.dup, 1) := by decide +kernel
theorem dX9_init_14 : decode cX9_init 14 = .ok (.iconst 1, 1) := by decide +kernel
theorem dX9_init_15 : decode cX9_init 15 = .ok (.iconst (-1), 1) := by decide +kernel
theorem dX9_init_16 : decode cX9_init 16 = .ok (.iastore, 1) := by decide +kernel
theorem dX9_init_17 : decode cX9_init 17 = .ok (.dup, 1) := by decide +kernel
theorem dX9_init_18 : decode cX9_init 18 = .ok (.iconst 2, 1) := by decide +kernel
theorem dX9_init_19 : decode cX9_init 19 = .ok (.iconst (-1), 1) := by decide +kernel
theorem dX9_init_20 : decode cX9_init 20 = .ok (.iastore, 1) := by decide +kernel
theorem dX9_init_21 : decode cX9_init 21 = .ok (.dup, 1) := by decide +kernel
theorem dX9_init_22 : decode cX9_init 22 = .ok (.iconst 3, 1) := by decide +kernel
theorem dX9_init_23 : decode cX9_init 23 = .ok (.iconst (-1), 1) := by decide +kernel
theorem dX9_init_24 : decode cX9_init 24 = .ok (.iastore, 1) := by decide +kernel
theorem dX9_init_25 : decode cX9_init 25 = .ok (.dup, 1) := by decide +kernel
theorem dX9_init_26 : decode cX9_init 26 = .ok (.iconst 4, 1) := by decide +kernel
theorem dX9_init_27 : decode cX9_init 27 = .ok (.iconst (-1), 1) := by decide +kernel
theorem dX9_init_28 : decode cX9_init 28 = .ok (.iastore, 1) := by decide +kernel
theorem dX9_init_29 : decode cX9_init 29 = .ok (.dup, 1) := by decide +kernel
theorem dX9_init_30 : decode cX9_init 30 = .ok (.iconst 5, 1) := by decide +kernel
theorem dX9_init_31 : decode cX9_init 31 = .ok (.iconst (-1), 1) := by decide +kernel
theorem dX9_init_32 : decode cX9_init 32 = .ok (.iastore, 1) := by decide +kernel
theorem dX9_init_33 : decode cX9_init 33 = .ok (.dup, 1) := by decide +kernel
theorem dX9_init_34 : decode cX9_init 34 = .ok (.bipush 6, 2) := by decide +kernel
theorem dX9_init_36 : decode cX9_init 36 = .ok (.iconst (-1), 1) := by decide +kernel
theorem dX9_init_37 : decode cX9_init 37 = .ok (.iastore, 1) := by decide +kernel
theorem dX9_init_38 : decode cX9_init 38 = .ok (.dup, 1) := by decide +kernel
theorem dX9_init_39 : decode cX9_init 39 = .ok (.bipush 7, 2) := by decide +kernel
theorem dX9_init_41 : decode cX9_init 41 = .ok (.iconst (-1), 1) := by decide +kernel
theorem dX9_init_42 : decode cX9_init 42 = .ok (.iastore, 1) := by decide +kernel
theorem dX9_init_43 : decode cX9_init 43 = .ok (.putfield 7, 3) := by decide +kernel
theorem dX9_init_46 : decode cX9_init 46 = .ok (.aload_n 0, 1) := by decide +kernel
theorem dX9_init_47 : decode cX9_init 47 = .ok (.bipush 8, 2) := by decide +kernel
theorem dX9_init_49 : decode cX9_init 49 = .ok (.newarray .int, 2) := by decide +kernel
theorem dX9_init_51 : decode cX9_init 51 = .ok (.putfield 13, 3) := by decide +kernel
theorem dX9_init_54 : decode cX9_init 54 = .ok (.aload_n 0, 1) := by decide +kernel
theorem dX9_init_55 : decode cX9_init 55 = .ok (.sipush 1152, 3) := by decide +kernel
theorem dX9_init_58 : decode cX9_init 58 = .ok (.newarray .int, 2) := by decide +kernel
theorem dX9_init_60 : decode cX9_init 60 = .ok (.putfield 16, 3) := by decide +kernel
theorem dX9_init_63 : decode cX9_init 63 = .ok (.aload_n 0, 1) := by decide +kernel
theorem dX9_init_64 : decode cX9_init 64 = .ok (.bipush 64, 2) := by decide +kernel
theorem dX9_init_66 : decode cX9_init 66 = .ok (.newarray .int, 2) := by decide +kernel
theorem dX9_init_68 : decode cX9_init 68 = .ok (.putfield 19, 3) := by decide +kernel
theorem dX9_init_71 : decode cX9_init 71 = .ok (.aload_n 0, 1) := by decide +kernel
theorem dX9_init_72 : decode cX9_init 72 = .ok (.bipush 72, 2) := by decide +kernel
theorem dX9_init_74 : decode cX9_init 74 = .ok (.newarray .int, 2) := by decide +kernel
theorem dX9_init_76 : decode cX9_init 76 = .ok (.putfield 22, 3) := by decide +kernel
theorem dX9_init_79 : decode cX9_init 79 = .ok (.aload_n 0, 1) := by decide +kernel
theorem dX9_init_80 : decode cX9_init 80 = .ok (.bipush 6, 2) := by decide +kernel
theorem dX9_init_82 : decode cX9_init 82 = .ok (.newarray .int, 2) := by decide +kernel
theorem dX9_init_84 : decode cX9_init 84 = .ok (.putfield 25, 3) := by decide +kernel
theorem dX9_init_87 : decode cX9_init 87 = .ok (.aload_n 0, 1) := by decide +kernel
theorem dX9_init_88 : decode cX9_init 88 = .ok (.bipush 6, 2) := by decide +kernel
theorem dX9_init_90 : decode cX9_init 90 = .ok (.newarray .int, 2) := by decide +kernel
theorem dX9_init_92 : decode cX9_init 92 = .ok (.putfield 28, 3) := by decide +kernel
theorem dX9_init_95 : decode cX9_init 95 = .ok (.aload_n 0, 1) := by decide +kernel
theorem dX9_init_96 : decode cX9_init 96 = .ok (.iconst 2, 1) := by decide +kernel
theorem dX9_init_97 : decode cX9_init 97 = .ok (.newarray .int, 2) := by decide +kernel
theorem dX9_init_99 : decode cX9_init 99 = .ok (.putfield 31, 3) := by decide +kernel
theorem dX9_init_102 : decode cX9_init 102 = .ok (.aload_n 0, 1) := by decide +kernel
theorem dX9_init_103 : decode cX9_init 103 = .ok (.iconst 2, 1) := by decide +kernel
theorem dX9_init_104 : decode cX9_init 104 = .ok (.newarray .int, 2) := by decide +kernel
theorem dX9_init_106 : decode cX9_init 106 = .ok (.putfield 34, 3) := by decide +kernel
theorem dX9_init_109 : decode cX9_init 109 = .ok (.aload_n 0, 1) := by decide +kernel
theorem dX9_init_110 : decode cX9_init 110 = .ok (.sipush 288, 3) := by decide +kernel
theorem dX9_init_113 : decode cX9_init 113 = .ok (.newarray .int, 2) := by decide +kernel
theorem dX9_init_115 : decode cX9_init 115 = .ok (.putfield 37, 3) := by decide +kernel
theorem dX9_init_118 : decode cX9_init 118 = .ok (.aload_n 0, 1) := by decide +kernel
theorem dX9_init_119 : decode cX9_init 119 = .ok (.sipush 900, 3) := by decide +kernel
theorem dX9_init_122 : decode cX9_init 122 = .ok (.newarray .int, 2) := by decide +kernel
theorem dX9_init_124 : decode cX9_init 124 = .ok (.putfield 40, 3) := by decide +kernel
theorem dX9_init_127 : decode cX9_init 127 = .ok (.aload_n 0, 1) := by decide +kernel
theorem dX9_init_128 : decode cX9_init 128 = .ok (.bipush 60, 2) := by decide +kernel
theorem dX9_init_130 : decode cX9_init 130 = .ok (.newarray .int, 2) := by decide +kernel
theorem dX9_init_132 : decode cX9_init 132 = .ok (.putfield 43, 3) := by decide +kernel
theorem dX9_init_135 : decode cX9_init 135 = .ok (.aload_n 0, 1) := by decide +kernel
theorem dX9_init_136 : decode cX9_init 136 = .ok (.bipush 60, 2) := by decide +kernel
theorem dX9_init_138 : decode cX9_init 138 = .ok (.newarray .int, 2) := by decide +kernel
theorem dX9_init_140 : decode cX9_init 140 = .ok (.putfield 46, 3) := by decide +kernel
theorem dX9_init_143 : decode cX9_init 143 = .ok (.aload_n 0, 1) := by decide +kernel
theorem dX9_init_144 : decode cX9_init 144 = .ok (.bipush 16, 2) := by decide +kernel
theorem dX9_init_146 : decode cX9_init 146 = .ok (.newarray .int, 2) := by decide +kernel
theorem dX9_init_148 : decode cX9_init 148 = .ok (.putfield 49, 3) := by decide +kernel
theorem dX9_init_151 : decode cX9_init 151 = .ok (.return_, 1) := by decide +kernel
theorem dX9_isIn_0 : decode cX9_isIn 0 = .ok (.lload_n 0, 1) := by decide +kernel
theorem dX9_isIn_1 : decode cX9_isIn 1 = .ok (.lload_n 2, 1) := by decide +kernel
theorem dX9_isIn_2 : decode cX9_isIn 2 = .ok (.lcmp, 1) := by decide +kernel
theorem dX9_isIn_3 : decode cX9_isIn 3 = .ok (.ifCond .lt 14, 3) := by decide +kernel
theorem dX9_isIn_6 : decode cX9_isIn 6 = .ok (.lload_n 0, 1) := by decide +kernel
theorem dX9_isIn_7 : decode cX9_isIn 7 = .ok (.lload 4, 2) := by decide +kernel
theorem dX9_isIn_9 : decode cX9_isIn 9 = .ok (.lcmp, 1) := by decide +kernel
theorem dX9_isIn_10 : decode cX9_isIn 10 = .ok (.ifCond .gt 7, 3) := by decide +kernel
theorem dX9_isIn_13 : decode cX9_isIn 13 = .ok (.iconst 1, 1) := by decide +kernel
theorem dX9_isIn_14 : decode cX9_isIn 14 = .ok (.goto 4, 3) := by decide +kernel
theorem dX9_isIn_17 : decode cX9_isIn 17 = .ok (.iconst 0, 1) := by decide +kernel
theorem dX9_isIn_18 : decode cX9_isIn 18 = .ok (.ireturn, 1) := by decide +kernel
theorem dX9_found_0 : decode cX9_found 0 = .ok (.aload_n 0, 1) := by decide +kernel
theorem dX9_found_1 : decode cX9_found 1 = .ok (.iload_n 1, 1) := by decide +kernel
theorem dX9_found_2 : decode cX9_found 2 = .ok (.putfield 56, 3) := by decide +kernel
theorem dX9_found_5 : decode cX9_found 5 = .ok (.ldc 59, 2) := by decide +kernel
theorem dX9_found_7 : decode cX9_found 7 = .ok (.iload_n 1, 1) := by decide +kernel
theorem dX9_found_8 : decode cX9_found 8 = .ok (.isub, 1) := by decide +kernel
theorem dX9_found_9 : decode cX9_found 9 = .ok (.ireturn, 1) := by decide +kernel
theorem dX9_isSheet_0 : decode cX9_isSheet 0 = .ok (.iload_n 0, 1) := by decide +kernel
theorem dX9_isSheet_1 : decode cX9_isSheet 1 = .ok (.i2l, 1) := by decide +kernel
theorem dX9_isSheet_2 : decode cX9_isSheet 2 = .ok (.lconst 0, 1) := by decide +kernel
theorem dX9_isSheet_3 : decode cX9_isSheet 3 = .ok (.ldc2_w 60, 3) := by decide +kernel
theorem dX9_isSheet_6 : decode cX9_isSheet 6 = .ok (.invokestatic 62, 3) := by decide +kernel
theorem dX9_isSheet_9 : decode cX9_isSheet 9 = .ok (.ireturn, 1) := by decide +kernel
theorem dX9_sheet_0 : decode cX9_sheet 0 = .ok (.aload_n 0, 1) := by decide +kernel
theorem dX9_sheet_1 : decode cX9_sheet 1 = .ok (.iconst 0, 1) := by decide +kernel
theorem dX9_sheet_2 : decode cX9_sheet 2 = .ok (.putfield 52, 3) := by decide +kernel
theorem dX9_sheet_5 : decode cX9_sheet 5 = .ok (.iload_n 1, 1) := by decide +kernel
theorem dX9_sheet_6 : decode cX9_sheet 6 = .ok (.invokestatic 66, 3) := by decide +kernel
theorem dX9_sheet_9 : decode cX9_sheet 9 = .ok (.ifCond .eq 22, 3) := by decide +kernel
theorem dX9_sheet_12 : decode cX9_sheet 12 = .ok (.iload_n 2, 1) := by decide +kernel
theorem dX9_sheet_13 : decode cX9_sheet 13 = .ok (.i2l, 1) := by decide +kernel
theorem dX9_sheet_14 : decode cX9_sheet 14 = .ok (.lconst 0, 1) := by decide +kernel
theorem dX9_sheet_15 : decode cX9_sheet 15 = .ok (.ldc2_w 70, 3) := by decide +kernel
theorem dX9_sheet_18 : decode cX9_sheet 18 = .ok (.invokestatic 62, 3) := by decide +kernel
theorem dX9_sheet_21 : decode cX9_sheet 21 = .ok (.ifCond .eq 10, 3) := by decide +kernel
theorem dX9_sheet_24 : decode cX9_sheet 24 = .ok (.iload_n 3, 1) := by decide +kernel
theorem dX9_sheet_25 : decode cX9_sheet 25 = .ok (.sipush 144, 3) := by decide +kernel
theorem dX9_sheet_28 : decode cX9_sheet 28 = .ok (.if_icmp .le 6, 3) := by decide +kernel
theorem dX9_sheet_31 : decode cX9_sheet 31 = .ok (.ldc 72, 2) := by decide +kernel
theorem dX9_sheet_33 : decode cX9_sheet 33 = .ok (.ireturn, 1) := by decide +kernel
theorem dX9_sheet_34 : decode cX9_sheet 34 = .ok (.aload_n 0, 1) := by decide +kernel
theorem dX9_sheet_35 : decode cX9_sheet 35 = .ok (.iconst 0, 1) := by decide +kernel
theorem dX9_sheet_36 : decode cX9_sheet 36 = .ok (.putfield 56, 3) := by decide +kernel
theorem dX9_sheet_39 : decode cX9_sheet 39 = .ok (.iload_n 3, 1) := by decide +kernel
theorem dX9_sheet_40 : decode cX9_sheet 40 = .ok (.ifCond .ge 9, 3) := by decide +kernel
theorem dX9_sheet_43 : decode cX9_sheet 43 = .ok (.aload_n 0, 1) := by decide +kernel
theorem dX9_sheet_44 : decode cX9_sheet 44 = .ok (.iconst 4, 1) := by decide +kernel
theorem dX9_sheet_45 : decode cX9_sheet 45 = .ok (.invokevirtual 73, 3) := by decide +kernel
theorem dX9_sheet_48 : decode cX9_sheet 48 = .ok (.ireturn, 1) := by decide +kernel
theorem dX9_sheet_49 : decode cX9_sheet 49 = .ok (.aload_n 0, 1) := by decide +kernel
theorem dX9_sheet_50 : decode cX9_sheet 50 = .ok (.getfield 7, 3) := by decide +kernel
theorem dX9_sheet_53 : decode cX9_sheet 53 = .ok (.iload_n 1, 1) := by decide +kernel
theorem dX9_sheet_54 : decode cX9_sheet 54 = .ok (.iload_n 2, 1) := by decide +kernel
theorem dX9_sheet_55 : decode cX9_sheet 55 = .ok (.iastore, 1) := by decide +kernel
theorem dX9_sheet_56 : decode cX9_sheet 56 = .ok (.aload_n 0, 1) := by decide +kernel
theorem dX9_sheet_57 : decode cX9_sheet 57 = .ok (.getfield 13, 3) := by decide +kernel
theorem dX9_sheet_60 : decode cX9_sheet 60 = .ok (.iload_n 1, 1) := by decide +kernel
theorem dX9_sheet_61 : decode cX9_sheet 61 = .ok (.iload_n 3, 1) := by decide +kernel
theorem dX9_sheet_62 : decode cX9_sheet 62 = .ok (.iastore, 1) := by decide +kernel
theorem dX9_sheet_63 : decode cX9_sheet 63 = .ok (.iconst 0, 1) := by decide +kernel
theorem dX9_sheet_64 : decode cX9_sheet 64 = .ok (.istore 4, 2) := by decide +kernel
theorem dX9_sheet_66 : decode cX9_sheet 66 = .ok (.iload 4, 2) := by decide +kernel
theorem dX9_sheet_68 : decode cX9_sheet 68 = .ok (.sipush 144, 3) := by decide +kernel
theorem dX9_sheet_71 : decode cX9_sheet 71 = .ok (.if_icmp .ge 23, 3) := by decide +kernel
theorem dX9_sheet_74 : decode cX9_sheet 74 = .ok (.aload_n 0, 1) := by decide +kernel
theorem dX9_sheet_75 : decode cX9_sheet 75 = .ok (.getfield 16, 3) := by decide +kernel
theorem dX9_sheet_78 : decode cX9_sheet 78 = .ok (.sipush 144, 3) := by decide +kernel
theorem dX9_sheet_81 : decode cX9_sheet 81 = .ok (.iload_n 1, 1) := by decide +kernel
theorem dX9_sheet_82 : decode cX9_sheet 82 = .ok (.imul, 1) := by decide +kernel
theorem dX9_sheet_83 : decode cX9_sheet 83 = .ok (.iload 4, 2) := by decide +kernel
theorem dX9_sheet_85 : decode cX9_sheet 85 = .ok (.iadd, 1) := by decide +kernel
theorem dX9_sheet_86 : decode cX9_sheet 86 = .ok (.iconst 0, 1) := by decide +kernel
theorem dX9_sheet_87 : decode cX9_sheet 87 = .ok (.iastore, 1) := by decide +kernel
theorem dX9_sheet_88 : decode cX9_sheet 88 = .ok (.iinc 4 1, 3) := by decide +kernel
theorem dX9_sheet_91 : decode cX9_sheet 91 = .ok (.goto (-25), 3) := by decide +kernel
theorem dX9_sheet_94 : decode cX9_sheet 94 = .ok (.iload_n 3, 1) := by decide +kernel
theorem dX9_sheet_95 : decode cX9_sheet 95 = .ok (.ireturn, 1) := by decide +kernel
theorem dX9_set_0 : decode cX9_set 0 = .ok (.aload_n 0, 1) := by decide +kernel
theorem dX9_set_1 : decode cX9_set 1 = .ok (.iconst 0, 1) := by decide +kernel
theorem dX9_set_2 : decode cX9_set 2 = .ok (.putfield 52, 3) := by decide +kernel
theorem dX9_set_5 : decode cX9_set 5 = .ok (.iload_n 1, 1) := by decide +kernel
theorem dX9_set_6 : decode cX9_set 6 = .ok (.invokestatic 66, 3) := by decide +kernel
theorem dX9_set_9 : decode cX9_set 9 = .ok (.ifCond .ne 6, 3) := by decide +kernel
theorem dX9_set_12 : decode cX9_set 12 = .ok (.ldc 72, 2) := by decide +kernel
theorem dX9_set_14 : decode cX9_set 14 = .ok (.ireturn, 1) := by decide +kernel
theorem dX9_set_15 : decode cX9_set 15 = .ok (.aload_n 0, 1) := by decide +kernel
theorem dX9_set_16 : decode cX9_set 16 = .ok (.iconst 0, 1) := by decide +kernel
theorem dX9_set_17 : decode cX9_set 17 = .ok (.putfield 56, 3) := by decide +kernel
theorem dX9_set_20 : decode cX9_set 20 = .ok (.aload_n 0, 1) := by decide +kernel
theorem dX9_set_21 : decode cX9_set 21 = .ok (.getfield 7, 3) := by decide +kernel
theorem dX9_set_24 : decode cX9_set 24 = .ok (.iload_n 1, 1) := by decide +kernel
theorem dX9_set_25 : decode cX9_set 25 = .ok (.iaload, 1) := by decide +kernel
theorem dX9_set_26 : decode cX9_set 26 = .ok (.ifCond .ge 9, 3) := by decide +kernel
theorem dX9_set_29 : decode cX9_set 29 = .ok (.aload_n 0, 1) := by decide +kernel
theorem dX9_set_30 : decode cX9_set 30 = .ok (.iconst 1, 1) := by decide +kernel
theorem dX9_set_31 : decode cX9_set 31 = .ok (.invokevirtual 73, 3) := by decide +kernel
theorem dX9_set_34 : decode cX9_set 34 = .ok (.ireturn, 1) := by decide +kernel
theorem dX9_set_35 : decode cX9_set 35 = .ok (.iload_n 2, 1) := by decide +kernel
theorem dX9_set_36 : decode cX9_set 36 = .ok (.i2l, 1) := by decide +kernel
theorem dX9_set_37 : decode cX9_set 37 = .ok (.lconst 0, 1) := by decide +kernel
theorem dX9_set_38 : decode cX9_set 38 = .ok (.aload_n 0, 1) := by decide +kernel
theorem dX9_set_39 : decode cX9_set 39 = .ok (.getfield 13, 3) := by decide +kernel
theorem dX9_set_42 : decode cX9_set 42 = .ok (.iload_n 1, 1) := by decide +kernel
theorem dX9_set_43 : decode cX9_set 43 = .ok (.iaload, 1) := by decide +kernel
theorem dX9_set_44 : decode cX9_set 44 = .ok (.iconst 1, 1) := by decide +kernel
theorem dX9_set_45 : decode cX9_set 45 = .ok (.isub, 1) := by decide +kernel
theorem dX9_set_46 : decode cX9_set 46 = .ok (.i2l, 1) := by decide +kernel
theorem dX9_set_47 : decode cX9_set 47 = .ok (.invokestatic 62, 3) := by decide +kernel
theorem dX9_set_50 : decode cX9_set 50 = .ok (.ifCond .ne 9, 3) := by decide +kernel
theorem dX9_set_53 : decode cX9_set 53 = .ok (.aload_n 0, 1) := by decide +kernel
theorem dX9_set_54 : decode cX9_set 54 = .ok (.iconst 2, 1) := by decide +kernel
theorem dX9_set_55 : decode cX9_set 55 = .ok (.invokevirtual 73, 3) := by decide +kernel
theorem dX9_set_58 : decode cX9_set 58 = .ok (.ireturn, 1) := by decide +kernel
theorem dX9_set_59 : decode cX9_set 59 = .ok (.aload_n 0, 1) := by decide +kernel
theorem dX9_set_60 : decode cX9_set 60 = .ok (.getfield 16, 3) := by decide +kernel
theorem dX9_set_63 : decode cX9_set 63 = .ok (.sipush 144, 3) := by decide +kernel
theorem dX9_set_66 : decode cX9_set 66 = .ok (.iload_n 1, 1) := by decide +kernel
theorem dX9_set_67 : decode cX9_set 67 = .ok (.imul, 1) := by decide +kernel
theorem dX9_set_68 : decode cX9_set 68 = .ok (.iload_n 2, 1) := by decide +kernel
theorem dX9_set_69 : decode cX9_set 69 = .ok (.iadd, 1) := by decide +kernel
theorem dX9_set_70 : decode cX9_set 70 = .ok (.aload_n 0, 1) := by decide +kernel
theorem dX9_set_71 : decode cX9_set 71 = .ok (.getfield 7, 3) := by decide +kernel
theorem dX9_set_74 : decode cX9_set 74 = .ok (.iload_n 1, 1) := by decide +kernel
theorem dX9_set_75 : decode cX9_set 75 = .ok (.iaload, 1) := by decide +kernel
theorem dX9_set_76 : decode cX9_set 76 = .ok (.ifCond .ne 8, 3) := by decide +kernel
theorem dX9_set_79 : decode cX9_set 79 = .ok (.iload_n 3, 1) := by decide +kernel
theorem dX9_set_80 : decode cX9_set 80 = .ok (.i2b, 1) := by decide +kernel
theorem dX9_set_81 : decode cX9_set 81 = .ok (.goto 19, 3) := by decide +kernel
theorem dX9_set_84 : decode cX9_set 84 = .ok (.aload_n 0, 1) := by decide +kernel
theorem dX9_set_85 : decode cX9_set 85 = .ok (.getfield 7, 3) := by decide +kernel
theorem dX9_set_88 : decode cX9_set 88 = .ok (.iload_n 1, 1) := by decide +kernel
theorem dX9_set_89 : decode cX9_set 89 = .ok (.iaload, 1) := by decide +kernel
theorem dX9_set_90 : decode cX9_set 90 = .ok (.iconst 1, 1) := by decide +kernel
theorem dX9_set_91 : decode cX9_set 91 = .ok (.if_icmp .ne 8, 3) := by decide +kernel
theorem dX9_set_94 : decode cX9_set 94 = .ok (.iload_n 3, 1) := by decide +kernel
theorem dX9_set_95 : decode cX9_set 95 = .ok (.i2s, 1) := by decide +kernel
theorem dX9_set_96 : decode cX9_set 96 = .ok (.goto 4, 3) := by decide +kernel
theorem dX9_set_99 : decode cX9_set 99 = .ok (.iload_n 3, 1) := by decide +kernel
theorem dX9_set_100 : decode cX9_set 100 = .ok (.iastore, 1) := by decide +kernel
theorem dX9_set_101 : decode cX9_set 101 = .ok (.aload_n 0, 1) := by decide +kernel
theorem dX9_set_102 : decode cX9_set 102 = .ok (.getfield 16, 3) := by decide +kernel
theorem dX9_set_105 : decode cX9_set 105 = .ok (.sipush 144, 3) := by decide +kernel
theorem dX9_set_108 : decode cX9_set 108 = .ok (.iload_n 1, 1) := by decide +kernel
theorem dX9_set_109 : decode cX9_set 109 = .ok (.imul, 1) := by decide +kernel
theorem dX9_set_110 : decode cX9_set 110 = .ok (.iload_n 2, 1) := by decide +kernel
theorem dX9_set_111 : decode cX9_set 111 = .ok (.iadd, 1) := by decide +kernel
theorem dX9_set_112 : decode cX9_set 112 = .ok (.iaload, 1) := by decide +kernel
theorem dX9_set_113 : decode cX9_set 113 = .ok (.ireturn, 1) := by decide +kernel
theorem dX9_copy_0 : decode cX9_copy 0 = .ok (.aload_n 0, 1) := by decide +kernel
theorem dX9_copy_1 : decode cX9_copy 1 = .ok (.iconst 0, 1) := by decide +kernel
theorem dX9_copy_2 : decode cX9_copy 2 = .ok (.putfield 52, 3) := by decide +kernel
theorem dX9_copy_5 : decode cX9_copy 5 = .ok (.iload_n 1, 1) := by decide +kernel
theorem dX9_copy_6 : decode cX9_copy 6 = .ok (.invokestatic 66, 3) := by decide +kernel
theorem dX9_copy_9 : decode cX9_copy 9 = .ok (.ifCond .eq 10, 3) := by decide +kernel
theorem dX9_copy_12 : decode cX9_copy 12 = .ok (.iload_n 3, 1) := by decide +kernel
theorem dX9_copy_13 : decode cX9_copy 13 = .ok (.invokestatic 66, 3) := by decide +kernel
theorem dX9_copy_16 : decode cX9_copy 16 = .ok (.ifCond .ne 6, 3) := by decide +kernel
theorem dX9_copy_19 : decode cX9_copy 19 = .ok (.ldc 72, 2) := by decide +kernel
theorem dX9_copy_21 : decode cX9_copy 21 = .ok (.ireturn, 1) := by decide +kernel
theorem dX9_copy_22 : decode cX9_copy 22 = .ok (.aload_n 0, 1) := by decide +kernel
theorem dX9_copy_23 : decode cX9_copy 23 = .ok (.iconst 0, 1) := by decide +kernel
theorem dX9_copy_24 : decode cX9_copy 24 = .ok (.putfield 56, 3) := by decide +kernel
theorem dX9_copy_27 : decode cX9_copy 27 = .ok (.aload_n 0, 1) := by decide +kernel
theorem dX9_copy_28 : decode cX9_copy 28 = .ok (.getfield 7, 3) := by decide +kernel
theorem dX9_copy_31 : decode cX9_copy 31 = .ok (.iload_n 1, 1) := by decide +kernel
theorem dX9_copy_32 : decode cX9_copy 32 = .ok (.iaload, 1) := by decide +kernel
theorem dX9_copy_33 : decode cX9_copy 33 = .ok (.ifCond .lt 12, 3) := by decide +kernel
theorem dX9_copy_36 : decode cX9_copy 36 = .ok (.aload_n 0, 1) := by decide +kernel
theorem dX9_copy_37 : decode cX9_copy 37 = .ok (.getfield 7, 3) := by decide +kernel
theorem dX9_copy_40 : decode cX9_copy 40 = .ok (.iload_n 3, 1) := by decide +kernel
theorem dX9_copy_41 : decode cX9_copy 41 = .ok (.iaload, 1) := by decide +kernel
theorem dX9_copy_42 : decode cX9_copy 42 = .ok (.ifCond .ge 9, 3) := by decide +kernel
theorem dX9_copy_45 : decode cX9_copy 45 = .ok (.aload_n 0, 1) := by decide +kernel
theorem dX9_copy_46 : decode cX9_copy 46 = .ok (.iconst 1, 1) := by decide +kernel
theorem dX9_copy_47 : decode cX9_copy 47 = .ok (.invokevirtual 73, 3) := by decide +kernel
theorem dX9_copy_50 : decode cX9_copy 50 = .ok (.ireturn, 1) := by decide +kernel
theorem dX9_copy_51 : decode cX9_copy 51 = .ok (.aload_n 0, 1) := by decide +kernel
theorem dX9_copy_52 : decode cX9_copy 52 = .ok (.getfield 7, 3) := by decide +kernel
theorem dX9_copy_55 : decode cX9_copy 55 = .ok (.iload_n 1, 1) := by decide +kernel
theorem dX9_copy_56 : decode cX9_copy 56 = .ok (.iaload, 1) := by decide +kernel
theorem dX9_copy_57 : decode cX9_copy 57 = .ok (.aload_n 0, 1) := by decide +kernel
theorem dX9_copy_58 : decode cX9_copy 58 = .ok (.getfield 7, 3) := by decide +kernel
theorem dX9_copy_61 : decode cX9_copy 61 = .ok (.iload_n 3, 1) := by decide +kernel
theorem dX9_copy_62 : decode cX9_copy 62 = .ok (.iaload, 1) := by decide +kernel
theorem dX9_copy_63 : decode cX9_copy 63 = .ok (.if_icmp .eq 9, 3) := by decide +kernel
theorem dX9_copy_66 : decode cX9_copy 66 = .ok (.aload_n 0, 1) := by decide +kernel
theorem dX9_copy_67 : decode cX9_copy 67 = .ok (.iconst 5, 1) := by decide +kernel
theorem dX9_copy_68 : decode cX9_copy 68 = .ok (.invokevirtual 73, 3) := by decide +kernel
theorem dX9_copy_71 : decode cX9_copy 71 = .ok (.ireturn, 1) := by decide +kernel
theorem dX9_copy_72 : decode cX9_copy 72 = .ok (.iload_n 2, 1) := by decide +kernel
theorem dX9_copy_73 : decode cX9_copy 73 = .ok (.ifCond .lt 48, 3) := by decide +kernel
theorem dX9_copy_76 : decode cX9_copy 76 = .ok (.iload 4, 2) := by decide +kernel
theorem dX9_copy_78 : decode cX9_copy 78 = .ok (.ifCond .lt 43, 3) := by decide +kernel
theorem dX9_copy_81 : decode cX9_copy 81 = .ok (.iload 5, 2) := by decide +kernel
theorem dX9_copy_83 : decode cX9_copy 83 = .ok (.ifCond .lt 38, 3) := by decide +kernel
theorem dX9_copy_86 : decode cX9_copy 86 = .ok (.iload_n 2, 1) := by decide +kernel
theorem dX9_copy_87 : decode cX9_copy 87 = .ok (.i2l, 1) := by decide +kernel
theorem dX9_copy_88 : decode cX9_copy 88 = .ok (.iload 5, 2) := by decide +kernel
theorem dX9_copy_90 : decode cX9_copy 90 = .ok (.i2l, 1) := by decide +kernel
theorem dX9_copy_91 : decode cX9_copy 91 = .ok (.ladd, 1) := by decide +kernel
theorem dX9_copy_92 : decode cX9_copy 92 = .ok (.aload_n 0, 1) := by decide +kernel
theorem dX9_copy_93 : decode cX9_copy 93 = .ok (.getfield 13, 3) := by decide +kernel
theorem dX9_copy_96 : decode cX9_copy 96 = .ok (.iload_n 1, 1) := by decide +kernel
theorem dX9_copy_97 : decode cX9_copy 97 = .ok (.iaload, 1) := by decide +kernel
theorem dX9_copy_98 : decode cX9_copy 98 = .ok (.i2l, 1) := by decide +kernel
theorem dX9_copy_99 : decode cX9_copy 99 = .ok (.lcmp, 1) := by decide +kernel
theorem dX9_copy_100 : decode cX9_copy 100 = .ok (.ifCond .gt 21, 3) := by decide +kernel
theorem dX9_copy_103 : decode cX9_copy 103 = .ok (.iload 4, 2) := by decide +kernel
theorem dX9_copy_105 : decode cX9_copy 105 = .ok (.i2l, 1) := by decide +kernel
theorem dX9_copy_106 : decode cX9_copy 106 = .ok (.iload 5, 2) := by decide +kernel
theorem dX9_copy_108 : decode cX9_copy 108 = .ok (.i2l, 1) := by decide +kernel
theorem dX9_copy_109 : decode cX9_copy 109 = .ok (.ladd, 1) := by decide +kernel
theorem dX9_copy_110 : decode cX9_copy 110 = .ok (.aload_n 0, 1) := by decide +kernel
theorem dX9_copy_111 : decode cX9_copy 111 = .ok (.getfield 13, 3) := by decide +kernel
theorem dX9_copy_114 : decode cX9_copy 114 = .ok (.iload_n 3, 1) := by decide +kernel
theorem dX9_copy_115 : decode cX9_copy 115 = .ok (.iaload, 1) := by decide +kernel
theorem dX9_copy_116 : decode cX9_copy 116 = .ok (.i2l, 1) := by decide +kernel
theorem dX9_copy_117 : decode cX9_copy 117 = .ok (.lcmp, 1) := by decide +kernel
theorem dX9_copy_118 : decode cX9_copy 118 = .ok (.ifCond .le 9, 3) := by decide +kernel
theorem dX9_copy_121 : decode cX9_copy 121 = .ok (.aload_n 0, 1) := by decide +kernel
theorem dX9_copy_122 : decode cX9_copy 122 = .ok (.iconst 2, 1) := by decide +kernel
theorem dX9_copy_123 : decode cX9_copy 123 = .ok (.invokevirtual 73, 3) := by decide +kernel
theorem dX9_copy_126 : decode cX9_copy 126 = .ok (.ireturn, 1) := by decide +kernel
theorem dX9_copy_127 : decode cX9_copy 127 = .ok (.iload_n 2, 1) := by decide +kernel
theorem dX9_copy_128 : decode cX9_copy 128 = .ok (.iload 4, 2) := by decide +kernel
theorem dX9_copy_130 : decode cX9_copy 130 = .ok (.if_icmp .lt 7, 3) := by decide +kernel
theorem dX9_copy_133 : decode cX9_copy 133 = .ok (.iconst 1, 1) := by decide +kernel
theorem dX9_copy_134 : decode cX9_copy 134 = .ok (.goto 4, 3) := by decide +kernel
theorem dX9_copy_137 : decode cX9_copy 137 = .ok (.iconst 0, 1) := by decide +kernel
theorem dX9_copy_138 : decode cX9_copy 138 = .ok (.istore 6, 2) := by decide +kernel
theorem dX9_copy_140 : decode cX9_copy 140 = .ok (.iconst 0, 1) := by decide +kernel
theorem dX9_copy_141 : decode cX9_copy 141 = .ok (.istore 7, 2) := by decide +kernel
theorem dX9_copy_143 : decode cX9_copy 143 = .ok (.iload 7, 2) := by decide +kernel
theorem dX9_copy_145 : decode cX9_copy 145 = .ok (.iload 5, 2) := by decide +kernel
theorem dX9_copy_147 : decode cX9_copy 147 = .ok (.if_icmp .ge 59, 3) := by decide +kernel
theorem dX9_copy_150 : decode cX9_copy 150 = .ok (.iload 6, 2) := by decide +kernel
theorem dX9_copy_152 : decode cX9_copy 152 = .ok (.ifCond .eq 8, 3) := by decide +kernel
theorem dX9_copy_155 : decode cX9_copy 155 = .ok (.iload 7, 2) := by decide +kernel
theorem dX9_copy_157 : decode cX9_copy 157 = .ok (.goto 10, 3) := by decide +kernel
theorem dX9_copy_160 : decode cX9_copy 160 = .ok (.iload 5, 2) := by decide +kernel
theorem dX9_copy_162 : decode cX9_copy 162 = .ok (.iconst 1, 1) := by decide +kernel
theorem dX9_copy_163 : decode cX9_copy 163 = .ok (.isub, 1) := by decide +kernel
theorem dX9_copy_164 : decode cX9_copy 164 = .ok (.iload 7, 2) := by decide +kernel
theorem dX9_copy_166 : decode cX9_copy 166 = .ok (.isub, 1) := by decide +kernel
theorem dX9_copy_167 : decode cX9_copy 167 = .ok (.istore 8, 2) := by decide +kernel
theorem dX9_copy_169 : decode cX9_copy 169 = .ok (.aload_n 0, 1) := by decide +kernel
theorem dX9_copy_170 : decode cX9_copy 170 = .ok (.getfield 16, 3) := by decide +kernel
theorem dX9_copy_173 : decode cX9_copy 173 = .ok (.sipush 144, 3) := by decide +kernel
theorem dX9_copy_176 : decode cX9_copy 176 = .ok (.iload_n 3, 1) := by decide +kernel
theorem dX9_copy_177 : decode cX9_copy 177 = .ok (.imul, 1) := by decide +kernel
theorem dX9_copy_178 : decode cX9_copy 178 = .ok (.iload 4, 2) := by decide +kernel
theorem dX9_copy_180 : decode cX9_copy 180 = .ok (.iadd, 1) := by decide +kernel
theorem dX9_copy_181 : decode cX9_copy 181 = .ok (.iload 8, 2) := by decide +kernel
theorem dX9_copy_183 : decode cX9_copy 183 = .ok (.iadd, 1) := by decide +kernel
theorem dX9_copy_184 : decode cX9_copy 184 = .ok (.aload_n 0, 1) := by decide +kernel
theorem dX9_copy_185 : decode cX9_copy 185 = .ok (.getfield 16, 3) := by decide +kernel
theorem dX9_copy_188 : decode cX9_copy 188 = .ok (.sipush 144, 3) := by decide +kernel
theorem dX9_copy_191 : decode cX9_copy 191 = .ok (.iload_n 1, 1) := by decide +kernel
theorem dX9_copy_192 : decode cX9_copy 192 = .ok (.imul, 1) := by decide +kernel
theorem dX9_copy_193 : decode cX9_copy 193 = .ok (.iload_n 2, 1) := by decide +kernel
theorem dX9_copy_194 : decode cX9_copy 194 = .ok (.iadd, 1) := by decide +kernel
theorem dX9_copy_195 : decode cX9_copy 195 = .ok (.iload 8, 2) := by decide +kernel
theorem dX9_copy_197 : decode cX9_copy 197 = .ok (.iadd, 1) := by decide +kernel
theorem dX9_copy_198 : decode cX9_copy 198 = .ok (.iaload, 1) := by decide +kernel
theorem dX9_copy_199 : decode cX9_copy 199 = .ok (.iastore, 1) := by decide +kernel
theorem dX9_copy_200 : decode cX9_copy 200 = .ok (.iinc 7 1, 3) := by decide +kernel
theorem dX9_copy_203 : decode cX9_copy 203 = .ok (.goto (-60), 3) := by decide +kernel
theorem dX9_copy_206 : decode cX9_copy 206 = .ok (.iload 5, 2) := by decide +kernel
theorem dX9_copy_208 : decode cX9_copy 208 = .ok (.ireturn, 1) := by decide +kernel
theorem dX9_drop_0 : decode cX9_drop 0 = .ok (.aload_n 0, 1) := by decide +kernel
theorem dX9_drop_1 : decode cX9_drop 1 = .ok (.iconst 0, 1) := by decide +kernel
theorem dX9_drop_2 : decode cX9_drop 2 = .ok (.putfield 52, 3) := by decide +kernel
theorem dX9_drop_5 : decode cX9_drop 5 = .ok (.iload_n 1, 1) := by decide +kernel
theorem dX9_drop_6 : decode cX9_drop 6 = .ok (.invokestatic 66, 3) := by decide +kernel
theorem dX9_drop_9 : decode cX9_drop 9 = .ok (.ifCond .ne 6, 3) := by decide +kernel
theorem dX9_drop_12 : decode cX9_drop 12 = .ok (.ldc 72, 2) := by decide +kernel
theorem dX9_drop_14 : decode cX9_drop 14 = .ok (.ireturn, 1) := by decide +kernel
theorem dX9_drop_15 : decode cX9_drop 15 = .ok (.aload_n 0, 1) := by decide +kernel
theorem dX9_drop_16 : decode cX9_drop 16 = .ok (.iconst 0, 1) := by decide +kernel
theorem dX9_drop_17 : decode cX9_drop 17 = .ok (.putfield 56, 3) := by decide +kernel
theorem dX9_drop_20 : decode cX9_drop 20 = .ok (.aload_n 0, 1) := by decide +kernel
theorem dX9_drop_21 : decode cX9_drop 21 = .ok (.getfield 7, 3) := by decide +kernel
theorem dX9_drop_24 : decode cX9_drop 24 = .ok (.iload_n 1, 1) := by decide +kernel
theorem dX9_drop_25 : decode cX9_drop 25 = .ok (.iaload, 1) := by decide +kernel
theorem dX9_drop_26 : decode cX9_drop 26 = .ok (.ifCond .ge 9, 3) := by decide +kernel
theorem dX9_drop_29 : decode cX9_drop 29 = .ok (.aload_n 0, 1) := by decide +kernel
theorem dX9_drop_30 : decode cX9_drop 30 = .ok (.iconst 1, 1) := by decide +kernel
theorem dX9_drop_31 : decode cX9_drop 31 = .ok (.invokevirtual 73, 3) := by decide +kernel
theorem dX9_drop_34 : decode cX9_drop 34 = .ok (.ireturn, 1) := by decide +kernel
theorem dX9_drop_35 : decode cX9_drop 35 = .ok (.aload_n 0, 1) := by decide +kernel
theorem dX9_drop_36 : decode cX9_drop 36 = .ok (.getfield 7, 3) := by decide +kernel
theorem dX9_drop_39 : decode cX9_drop 39 = .ok (.iload_n 1, 1) := by decide +kernel
theorem dX9_drop_40 : decode cX9_drop 40 = .ok (.iconst (-1), 1) := by decide +kernel
theorem dX9_drop_41 : decode cX9_drop 41 = .ok (.iastore, 1) := by decide +kernel
theorem dX9_drop_42 : decode cX9_drop 42 = .ok (.aload_n 0, 1) := by decide +kernel
theorem dX9_drop_43 : decode cX9_drop 43 = .ok (.getfield 13, 3) := by decide +kernel
theorem dX9_drop_46 : decode cX9_drop 46 = .ok (.iload_n 1, 1) := by decide +kernel
theorem dX9_drop_47 : decode cX9_drop 47 = .ok (.iaload, 1) := by decide +kernel
theorem dX9_drop_48 : decode cX9_drop 48 = .ok (.ireturn, 1) := by decide +kernel
theorem dX9_isMark_0 : decode cX9_isMark 0 = .ok (.iload_n 1, 1) := by decide +kernel
theorem dX9_isMark_1 : decode cX9_isMark 1 = .ok (.i2l, 1) := by decide +kernel
theorem dX9_isMark_2 : decode cX9_isMark 2 = .ok (.lconst 0, 1) := by decide +kernel
theorem dX9_isMark_3 : decode cX9_isMark 3 = .ok (.aload_n 0, 1) := by decide +kernel
theorem dX9_isMark_4 : decode cX9_isMark 4 = .ok (.getfield 77, 3) := by decide +kernel
theorem dX9_isMark_7 : decode cX9_isMark 7 = .ok (.iconst 1, 1) := by decide +kernel
theorem dX9_isMark_8 : decode cX9_isMark 8 = .ok (.isub, 1) := by decide +kernel
theorem dX9_isMark_9 : decode cX9_isMark 9 = .ok (.i2l, 1) := by decide +kernel
theorem dX9_isMark_10 : decode cX9_isMark 10 = .ok (.invokestatic 62, 3) := by decide +kernel
theorem dX9_isMark_13 : decode cX9_isMark 13 = .ok (.ireturn, 1) := by decide +kernel
theorem dX9_isPlace_0 : decode cX9_isPlace 0 = .ok (.iload_n 0, 1) := by decide +kernel
theorem dX9_isPlace_1 : decode cX9_isPlace 1 = .ok (.i2l, 1) := by decide +kernel
theorem dX9_isPlace_2 : decode cX9_isPlace 2 = .ok (.lconst 0, 1) := by decide +kernel
theorem dX9_isPlace_3 : decode cX9_isPlace 3 = .ok (.ldc2_w 80, 3) := by decide +kernel
theorem dX9_isPlace_6 : decode cX9_isPlace 6 = .ok (.invokestatic 62, 3) := by decide +kernel
theorem dX9_isPlace_9 : decode cX9_isPlace 9 = .ok (.ifCond .eq 19, 3) := by decide +kernel
theorem dX9_isPlace_12 : decode cX9_isPlace 12 = .ok (.iload_n 1, 1) := by decide +kernel
theorem dX9_isPlace_13 : decode cX9_isPlace 13 = .ok (.i2l, 1) := by decide +kernel
theorem dX9_isPlace_14 : decode cX9_isPlace 14 = .ok (.lconst 0, 1) := by decide +kernel
theorem dX9_isPlace_15 : decode cX9_isPlace 15 = .ok (.ldc2_w 80, 3) := by decide +kernel
theorem dX9_isPlace_18 : decode cX9_isPlace 18 = .ok (.invokestatic 62, 3) := by decide +kernel
theorem dX9_isPlace_21 : decode cX9_isPlace 21 = .ok (.ifCond .eq 7, 3) := by decide +kernel
theorem dX9_isPlace_24 : decode cX9_isPlace 24 = .ok (.iconst 1, 1) := by decide +kernel
theorem dX9_isPlace_25 : decode cX9_isPlace 25 = .ok (.goto 4, 3) := by decide +kernel
theorem dX9_isPlace_28 : decode cX9_isPlace 28 = .ok (.iconst 0, 1) := by decide +kernel
theorem dX9_isPlace_29 : decode cX9_isPlace 29 = .ok (.ireturn, 1) := by decide +kernel
theorem dX9_isTick_0 : decode cX9_isTick 0 = .ok (.iload_n 1, 1) := by decide +kernel
theorem dX9_isTick_1 : decode cX9_isTick 1 = .ok (.i2l, 1) := by decide +kernel
theorem dX9_isTick_2 : decode cX9_isTick 2 = .ok (.lconst 1, 1) := by decide +kernel
theorem dX9_isTick_3 : decode cX9_isTick 3 = .ok (.ldc2_w 82, 3) := by decide +kernel
theorem dX9_isTick_6 : decode cX9_isTick 6 = .ok (.invokestatic 62, 3) := by decide +kernel
theorem dX9_isTick_9 : decode cX9_isTick 9 = .ok (.ifCond .eq 18, 3) := by decide +kernel
theorem dX9_isTick_12 : decode cX9_isTick 12 = .ok (.iload_n 0, 1) := by decide +kernel
theorem dX9_isTick_13 : decode cX9_isTick 13 = .ok (.i2l, 1) := by decide +kernel
theorem dX9_isTick_14 : decode cX9_isTick 14 = .ok (.lconst 0, 1) := by decide +kernel
theorem dX9_isTick_15 : decode cX9_isTick 15 = .ok (.iload_n 1, 1) := by decide +kernel
theorem dX9_isTick_16 : decode cX9_isTick 16 = .ok (.i2l, 1) := by decide +kernel
theorem dX9_isTick_17 : decode cX9_isTick 17 = .ok (.invokestatic 62, 3) := by decide +kernel
theorem dX9_isTick_20 : decode cX9_isTick 20 = .ok (.ifCond .eq 7, 3) := by decide +kernel
theorem dX9_isTick_23 : decode cX9_isTick 23 = .ok (.iconst 1, 1) := by decide +kernel
theorem dX9_isTick_24 : decode cX9_isTick 24 = .ok (.goto 4, 3) := by decide +kernel
theorem dX9_isTick_27 : decode cX9_isTick 27 = .ok (.iconst 0, 1) := by decide +kernel
theorem dX9_isTick_28 : decode cX9_isTick 28 = .ok (.ireturn, 1) := by decide +kernel
theorem dX9_mark_0 : decode cX9_mark 0 = .ok (.aload_n 0, 1) := by decide +kernel
theorem dX9_mark_1 : decode cX9_mark 1 = .ok (.iconst 0, 1) := by decide +kernel
theorem dX9_mark_2 : decode cX9_mark 2 = .ok (.putfield 52, 3) := by decide +kernel
theorem dX9_mark_5 : decode cX9_mark 5 = .ok (.iload_n 1, 1) := by decide +kernel
theorem dX9_mark_6 : decode cX9_mark 6 = .ok (.iload_n 2, 1) := by decide +kernel
theorem dX9_mark_7 : decode cX9_mark 7 = .ok (.invokestatic 84, 3) := by decide +kernel
theorem dX9_mark_10 : decode cX9_mark 10 = .ok (.ifCond .eq 12, 3) := by decide +kernel
theorem dX9_mark_13 : decode cX9_mark 13 = .ok (.iload_n 3, 1) := by decide +kernel
theorem dX9_mark_14 : decode cX9_mark 14 = .ok (.iload 4, 2) := by decide +kernel
theorem dX9_mark_16 : decode cX9_mark 16 = .ok (.invokestatic 84, 3) := by decide +kernel
theorem dX9_mark_19 : decode cX9_mark 19 = .ok (.ifCond .ne 6, 3) := by decide +kernel
theorem dX9_mark_22 : decode cX9_mark 22 = .ok (.ldc 72, 2) := by decide +kernel
theorem dX9_mark_24 : decode cX9_mark 24 = .ok (.ireturn, 1) := by decide +kernel
theorem dX9_mark_25 : decode cX9_mark 25 = .ok (.aload_n 0, 1) := by decide +kernel
theorem dX9_mark_26 : decode cX9_mark 26 = .ok (.getfield 77, 3) := by decide +kernel
theorem dX9_mark_29 : decode cX9_mark 29 = .ok (.bipush 16, 2) := by decide +kernel
theorem dX9_mark_31 : decode cX9_mark 31 = .ok (.if_icmp .ne 6, 3) := by decide +kernel
theorem dX9_mark_34 : decode cX9_mark 34 = .ok (.ldc 88, 2) := by decide +kernel
theorem dX9_mark_36 : decode cX9_mark 36 = .ok (.ireturn, 1) := by decide +kernel
theorem dX9_mark_37 : decode cX9_mark 37 = .ok (.aload_n 0, 1) := by decide +kernel
theorem dX9_mark_38 : decode cX9_mark 38 = .ok (.getfield 19, 3) := by decide +kernel
theorem dX9_mark_41 : decode cX9_mark 41 = .ok (.iconst 4, 1) := by decide +kernel
theorem dX9_mark_42 : decode cX9_mark 42 = .ok (.aload_n 0, 1) := by decide +kernel
theorem dX9_mark_43 : decode cX9_mark 43 = .ok (.getfield 77, 3) := by decide +kernel
theorem dX9_mark_46 : decode cX9_mark 46 = .ok (.imul, 1) := by decide +kernel
theorem dX9_mark_47 : decode cX9_mark 47 = .ok (.iload_n 1, 1) := by decide +kernel
theorem dX9_mark_48 : decode cX9_mark 48 = .ok (.iastore, 1) := by decide +kernel
theorem dX9_mark_49 : decode cX9_mark 49 = .ok (.aload_n 0, 1) := by decide +kernel
theorem dX9_mark_50 : decode cX9_mark 50 = .ok (.getfield 19, 3) := by decide +kernel
theorem dX9_mark_53 : decode cX9_mark 53 = .ok (.iconst 4, 1) := by decide +kernel
theorem dX9_mark_54 : decode cX9_mark 54 = .ok (.aload_n 0, 1) := by decide +kernel
theorem dX9_mark_55 : decode cX9_mark 55 = .ok (.getfield 77, 3) := by decide +kernel
theorem dX9_mark_58 : decode cX9_mark 58 = .ok (.imul, 1) := by decide +kernel
theorem dX9_mark_59 : decode cX9_mark 59 = .ok (.iconst 1, 1) := by decide +kernel
theorem dX9_mark_60 : decode cX9_mark 60 = .ok (.iadd, 1) := by decide +kernel
theorem dX9_mark_61 : decode cX9_mark 61 = .ok (.iload_n 2, 1) := by decide +kernel
theorem dX9_mark_62 : decode cX9_mark 62 = .ok (.iastore, 1) := by decide +kernel
theorem dX9_mark_63 : decode cX9_mark 63 = .ok (.aload_n 0, 1) := by decide +kernel
theorem dX9_mark_64 : decode cX9_mark 64 = .ok (.getfield 19, 3) := by decide +kernel
theorem dX9_mark_67 : decode cX9_mark 67 = .ok (.iconst 4, 1) := by decide +kernel
theorem dX9_mark_68 : decode cX9_mark 68 = .ok (.aload_n 0, 1) := by decide +kernel
theorem dX9_mark_69 : decode cX9_mark 69 = .ok (.getfield 77, 3) := by decide +kernel
theorem dX9_mark_72 : decode cX9_mark 72 = .ok (.imul, 1) := by decide +kernel
theorem dX9_mark_73 : decode cX9_mark 73 = .ok (.iconst 2, 1) := by decide +kernel
theorem dX9_mark_74 : decode cX9_mark 74 = .ok (.iadd, 1) := by decide +kernel
theorem dX9_mark_75 : decode cX9_mark 75 = .ok (.iload_n 3, 1) := by decide +kernel
theorem dX9_mark_76 : decode cX9_mark 76 = .ok (.iastore, 1) := by decide +kernel
theorem dX9_mark_77 : decode cX9_mark 77 = .ok (.aload_n 0, 1) := by decide +kernel
theorem dX9_mark_78 : decode cX9_mark 78 = .ok (.getfield 19, 3) := by decide +kernel
theorem dX9_mark_81 : decode cX9_mark 81 = .ok (.iconst 4, 1) := by decide +kernel
theorem dX9_mark_82 : decode cX9_mark 82 = .ok (.aload_n 0, 1) := by decide +kernel
theorem dX9_mark_83 : decode cX9_mark 83 = .ok (.getfield 77, 3) := by decide +kernel
theorem dX9_mark_86 : decode cX9_mark 86 = .ok (.imul, 1) := by decide +kernel
theorem dX9_mark_87 : decode cX9_mark 87 = .ok (.iconst 3, 1) := by decide +kernel
theorem dX9_mark_88 : decode cX9_mark 88 = .ok (.iadd, 1) := by decide +kernel
theorem dX9_mark_89 : decode cX9_mark 89 = .ok (.iload 4, 2) := by decide +kernel
theorem dX9_mark_91 : decode cX9_mark 91 = .ok (.iastore, 1) := by decide +kernel
theorem dX9_mark_92 : decode cX9_mark 92 = .ok (.aload_n 0, 1) := by decide +kernel
theorem dX9_mark_93 : decode cX9_mark 93 = .ok (.dup, 1) := by decide +kernel
theorem dX9_mark_94 : decode cX9_mark 94 = .ok (.getfield 77, 3) := by decide +kernel
theorem dX9_mark_97 : decode cX9_mark 97 = .ok (.iconst 1, 1) := by decide +kernel
theorem dX9_mark_98 : decode cX9_mark 98 = .ok (.iadd, 1) := by decide +kernel
theorem dX9_mark_99 : decode cX9_mark 99 = .ok (.putfield 77, 3) := by decide +kernel
theorem dX9_mark_102 : decode cX9_mark 102 = .ok (.aload_n 0, 1) := by decide +kernel
theorem dX9_mark_103 : decode cX9_mark 103 = .ok (.getfield 77, 3) := by decide +kernel
theorem dX9_mark_106 : decode cX9_mark 106 = .ok (.iconst 1, 1) := by decide +kernel
theorem dX9_mark_107 : decode cX9_mark 107 = .ok (.isub, 1) := by decide +kernel
theorem dX9_mark_108 : decode cX9_mark 108 = .ok (.ireturn, 1) := by decide +kernel
theorem dX9_move_0 : decode cX9_move 0 = .ok (.aload_n 0, 1) := by decide +kernel
theorem dX9_move_1 : decode cX9_move 1 = .ok (.iconst 0, 1) := by decide +kernel
theorem dX9_move_2 : decode cX9_move 2 = .ok (.putfield 52, 3) := by decide +kernel
theorem dX9_move_5 : decode cX9_move 5 = .ok (.aload_n 0, 1) := by decide +kernel
theorem dX9_move_6 : decode cX9_move 6 = .ok (.iload_n 1, 1) := by decide +kernel
theorem dX9_move_7 : decode cX9_move 7 = .ok (.invokevirtual 89, 3) := by decide +kernel
theorem dX9_move_10 : decode cX9_move 10 = .ok (.ifCond .eq 22, 3) := by decide +kernel
theorem dX9_move_13 : decode cX9_move 13 = .ok (.iload_n 2, 1) := by decide +kernel
theorem dX9_move_14 : decode cX9_move 14 = .ok (.i2l, 1) := by decide +kernel
theorem dX9_move_15 : decode cX9_move 15 = .ok (.lconst 0, 1) := by decide +kernel
theorem dX9_move_16 : decode cX9_move 16 = .ok (.lconst 1, 1) := by decide +kernel
theorem dX9_move_17 : decode cX9_move 17 = .ok (.invokestatic 62, 3) := by decide +kernel
theorem dX9_move_20 : decode cX9_move 20 = .ok (.ifCond .eq 12, 3) := by decide +kernel
theorem dX9_move_23 : decode cX9_move 23 = .ok (.iload_n 3, 1) := by decide +kernel
theorem dX9_move_24 : decode cX9_move 24 = .ok (.iload 4, 2) := by decide +kernel
theorem dX9_move_26 : decode cX9_move 26 = .ok (.invokestatic 84, 3) := by decide +kernel
theorem dX9_move_29 : decode cX9_move 29 = .ok (.ifCond .ne 6, 3) := by decide +kernel
theorem dX9_move_32 : decode cX9_move 32 = .ok (.ldc 72, 2) := by decide +kernel
theorem dX9_move_34 : decode cX9_move 34 = .ok (.ireturn, 1) := by decide +kernel
theorem dX9_move_35 : decode cX9_move 35 = .ok (.aload_n 0, 1) := by decide +kernel
theorem dX9_move_36 : decode cX9_move 36 = .ok (.getfield 19, 3) := by decide +kernel
theorem dX9_move_39 : decode cX9_move 39 = .ok (.iconst 4, 1) := by decide +kernel
theorem dX9_move_40 : decode cX9_move 40 = .ok (.iload_n 1, 1) := by decide +kernel
theorem dX9_move_41 : decode cX9_move 41 = .ok (.imul, 1) := by decide +kernel
theorem dX9_move_42 : decode cX9_move 42 = .ok (.iconst 2, 1) := by decide +kernel
theorem dX9_move_43 : decode cX9_move 43 = .ok (.iload_n 2, 1) := by decide +kernel
theorem dX9_move_44 : decode cX9_move 44 = .ok (.imul, 1) := by decide +kernel
theorem dX9_move_45 : decode cX9_move 45 = .ok (.iadd, 1) := by decide +kernel
theorem dX9_move_46 : decode cX9_move 46 = .ok (.iload_n 3, 1) := by decide +kernel
theorem dX9_move_47 : decode cX9_move 47 = .ok (.iastore, 1) := by decide +kernel
theorem dX9_move_48 : decode cX9_move 48 = .ok (.aload_n 0, 1) := by decide +kernel
theorem dX9_move_49 : decode cX9_move 49 = .ok (.getfield 19, 3) := by decide +kernel
theorem dX9_move_52 : decode cX9_move 52 = .ok (.iconst 4, 1) := by decide +kernel
theorem dX9_move_53 : decode cX9_move 53 = .ok (.iload_n 1, 1) := by decide +kernel
theorem dX9_move_54 : decode cX9_move 54 = .ok (.imul, 1) := by decide +kernel
theorem dX9_move_55 : decode cX9_move 55 = .ok (.iconst 2, 1) := by decide +kernel
theorem dX9_move_56 : decode cX9_move 56 = .ok (.iload_n 2, 1) := by decide +kernel
theorem dX9_move_57 : decode cX9_move 57 = .ok (.imul, 1) := by decide +kernel
theorem dX9_move_58 : decode cX9_move 58 = .ok (.iadd, 1) := by decide +kernel
theorem dX9_move_59 : decode cX9_move 59 = .ok (.iconst 1, 1) := by decide +kernel
theorem dX9_move_60 : decode cX9_move 60 = .ok (.iadd, 1) := by decide +kernel
theorem dX9_move_61 : decode cX9_move 61 = .ok (.iload 4, 2) := by decide +kernel
theorem dX9_move_63 : decode cX9_move 63 = .ok (.iastore, 1) := by decide +kernel
theorem dX9_move_64 : decode cX9_move 64 = .ok (.iconst 1, 1) := by decide +kernel
theorem dX9_move_65 : decode cX9_move 65 = .ok (.ireturn, 1) := by decide +kernel
theorem dX9_placeAt_0 : decode cX9_placeAt 0 = .ok (.iload_n 3, 1) := by decide +kernel
theorem dX9_placeAt_1 : decode cX9_placeAt 1 = .ok (.iload_n 2, 1) := by decide +kernel
theorem dX9_placeAt_2 : decode cX9_placeAt 2 = .ok (.isub, 1) := by decide +kernel
theorem dX9_placeAt_3 : decode cX9_placeAt 3 = .ok (.aload_n 0, 1) := by decide +kernel
theorem dX9_placeAt_4 : decode cX9_placeAt 4 = .ok (.getfield 19, 3) := by decide +kernel
theorem dX9_placeAt_7 : decode cX9_placeAt 7 = .ok (.iconst 4, 1) := by decide +kernel
theorem dX9_placeAt_8 : decode cX9_placeAt 8 = .ok (.iload_n 1, 1) := by decide +kernel
theorem dX9_placeAt_9 : decode cX9_placeAt 9 = .ok (.imul, 1) := by decide +kernel
theorem dX9_placeAt_10 : decode cX9_placeAt 10 = .ok (.iload 4, 2) := by decide +kernel
theorem dX9_placeAt_12 : decode cX9_placeAt 12 = .ok (.iadd, 1) := by decide +kernel
theorem dX9_placeAt_13 : decode cX9_placeAt 13 = .ok (.iaload, 1) := by decide +kernel
theorem dX9_placeAt_14 : decode cX9_placeAt 14 = .ok (.imul, 1) := by decide +kernel
theorem dX9_placeAt_15 : decode cX9_placeAt 15 = .ok (.iload_n 2, 1) := by decide +kernel
theorem dX9_placeAt_16 : decode cX9_placeAt 16 = .ok (.aload_n 0, 1) := by decide +kernel
theorem dX9_placeAt_17 : decode cX9_placeAt 17 = .ok (.getfield 19, 3) := by decide +kernel
theorem dX9_placeAt_20 : decode cX9_placeAt 20 = .ok (.iconst 4, 1) := by decide +kernel
theorem dX9_placeAt_21 : decode cX9_placeAt 21 = .ok (.iload_n 1, 1) := by decide +kernel
theorem dX9_placeAt_22 : decode cX9_placeAt 22 = .ok (.imul, 1) := by decide +kernel
theorem dX9_placeAt_23 : decode cX9_placeAt 23 = .ok (.iconst 2, 1) := by decide +kernel
theorem dX9_placeAt_24 : decode cX9_placeAt 24 = .ok (.iadd, 1) := by decide +kernel
theorem dX9_placeAt_25 : decode cX9_placeAt 25 = .ok (.iload 4, 2) := by decide +kernel
theorem dX9_placeAt_27 : decode cX9_placeAt 27 = .ok (.iadd, 1) := by decide +kernel
theorem dX9_placeAt_28 : decode cX9_placeAt 28 = .ok (.iaload, 1) := by decide +kernel
theorem dX9_placeAt_29 : decode cX9_placeAt 29 = .ok (.imul, 1) := by decide +kernel
theorem dX9_placeAt_30 : decode cX9_placeAt 30 = .ok (.iadd, 1) := by decide +kernel
theorem dX9_placeAt_31 : decode cX9_placeAt 31 = .ok (.ireturn, 1) := by decide +kernel
theorem dX9_at_0 : decode cX9_at 0 = .ok (.aload_n 0, 1) := by decide +kernel
theorem dX9_at_1 : decode cX9_at 1 = .ok (.iconst 0, 1) := by decide +kernel
theorem dX9_at_2 : decode cX9_at 2 = .ok (.putfield 52, 3) := by decide +kernel
theorem dX9_at_5 : decode cX9_at 5 = .ok (.aload_n 0, 1) := by decide +kernel
theorem dX9_at_6 : decode cX9_at 6 = .ok (.iload_n 1, 1) := by decide +kernel
theorem dX9_at_7 : decode cX9_at 7 = .ok (.invokevirtual 89, 3) := by decide +kernel
theorem dX9_at_10 : decode cX9_at 10 = .ok (.ifCond .eq 22, 3) := by decide +kernel
theorem dX9_at_13 : decode cX9_at 13 = .ok (.iload_n 2, 1) := by decide +kernel
theorem dX9_at_14 : decode cX9_at 14 = .ok (.iload_n 3, 1) := by decide +kernel
theorem dX9_at_15 : decode cX9_at 15 = .ok (.invokestatic 92, 3) := by decide +kernel
theorem dX9_at_18 : decode cX9_at 18 = .ok (.ifCond .eq 14, 3) := by decide +kernel
theorem dX9_at_21 : decode cX9_at 21 = .ok (.iload 4, 2) := by decide +kernel
theorem dX9_at_23 : decode cX9_at 23 = .ok (.i2l, 1) := by decide +kernel
theorem dX9_at_24 : decode cX9_at 24 = .ok (.lconst 0, 1) := by decide +kernel
theorem dX9_at_25 : decode cX9_at 25 = .ok (.lconst 1, 1) := by decide +kernel
theorem dX9_at_26 : decode cX9_at 26 = .ok (.invokestatic 62, 3) := by decide +kernel
theorem dX9_at_29 : decode cX9_at 29 = .ok (.ifCond .ne 8, 3) := by decide +kernel
theorem dX9_at_32 : decode cX9_at 32 = .ok (.ldc 72, 2) := by decide +kernel
theorem dX9_at_34 : decode cX9_at 34 = .ok (.goto 12, 3) := by decide +kernel
theorem dX9_at_37 : decode cX9_at 37 = .ok (.aload_n 0, 1) := by decide +kernel
theorem dX9_at_38 : decode cX9_at 38 = .ok (.iload_n 1, 1) := by decide +kernel
theorem dX9_at_39 : decode cX9_at 39 = .ok (.iload_n 2, 1) := by decide +kernel
theorem dX9_at_40 : decode cX9_at 40 = .ok (.iload_n 3, 1) := by decide +kernel
theorem dX9_at_41 : decode cX9_at 41 = .ok (.iload 4, 2) := by decide +kernel
theorem dX9_at_43 : decode cX9_at 43 = .ok (.invokevirtual 95, 3) := by decide +kernel
theorem dX9_at_46 : decode cX9_at 46 = .ok (.ireturn, 1) := by decide +kernel
theorem dX9_third_0 : decode cX9_third 0 = .ok (.aload_n 0, 1) := by decide +kernel
theorem dX9_third_1 : decode cX9_third 1 = .ok (.iconst 0, 1) := by decide +kernel
theorem dX9_third_2 : decode cX9_third 2 = .ok (.putfield 52, 3) := by decide +kernel
theorem dX9_third_5 : decode cX9_third 5 = .ok (.aload_n 0, 1) := by decide +kernel
theorem dX9_third_6 : decode cX9_third 6 = .ok (.iload_n 1, 1) := by decide +kernel
theorem dX9_third_7 : decode cX9_third 7 = .ok (.invokevirtual 89, 3) := by decide +kernel
theorem dX9_third_10 : decode cX9_third 10 = .ok (.ifCond .eq 34, 3) := by decide +kernel
theorem dX9_third_13 : decode cX9_third 13 = .ok (.aload_n 0, 1) := by decide +kernel
theorem dX9_third_14 : decode cX9_third 14 = .ok (.iload_n 2, 1) := by decide +kernel
theorem dX9_third_15 : decode cX9_third 15 = .ok (.invokevirtual 89, 3) := by decide +kernel
theorem dX9_third_18 : decode cX9_third 18 = .ok (.ifCond .eq 26, 3) := by decide +kernel
theorem dX9_third_21 : decode cX9_third 21 = .ok (.aload_n 0, 1) := by decide +kernel
theorem dX9_third_22 : decode cX9_third 22 = .ok (.iload_n 3, 1) := by decide +kernel
theorem dX9_third_23 : decode cX9_third 23 = .ok (.invokevirtual 89, 3) := by decide +kernel
theorem dX9_third_26 : decode cX9_third 26 = .ok (.ifCond .eq 18, 3) := by decide +kernel
theorem dX9_third_29 : decode cX9_third 29 = .ok (.iload_n 1, 1) := by decide +kernel
theorem dX9_third_30 : decode cX9_third 30 = .ok (.iload_n 2, 1) := by decide +kernel
theorem dX9_third_31 : decode cX9_third 31 = .ok (.if_icmp .eq 13, 3) := by decide +kernel
theorem dX9_third_34 : decode cX9_third 34 = .ok (.iload_n 1, 1) := by decide +kernel
theorem dX9_third_35 : decode cX9_third 35 = .ok (.iload_n 3, 1) := by decide +kernel
theorem dX9_third_36 : decode cX9_third 36 = .ok (.if_icmp .eq 8, 3) := by decide +kernel
theorem dX9_third_39 : decode cX9_third 39 = .ok (.iload_n 2, 1) := by decide +kernel
theorem dX9_third_40 : decode cX9_third 40 = .ok (.iload_n 3, 1) := by decide +kernel
theorem dX9_third_41 : decode cX9_third 41 = .ok (.if_icmp .ne 6, 3) := by decide +kernel
theorem dX9_third_44 : decode cX9_third 44 = .ok (.ldc 72, 2) := by decide +kernel
theorem dX9_third_46 : decode cX9_third 46 = .ok (.ireturn, 1) := by decide +kernel
theorem dX9_third_47 : decode cX9_third 47 = .ok (.iconst 1, 1) := by decide +kernel
theorem dX9_third_48 : decode cX9_third 48 = .ok (.iload_n 1, 1) := by decide +kernel
theorem dX9_third_49 : decode cX9_third 49 = .ok (.ishl, 1) := by decide +kernel
theorem dX9_third_50 : decode cX9_third 50 = .ok (.iconst 1, 1) := by decide +kernel
theorem dX9_third_51 : decode cX9_third 51 = .ok (.iload_n 2, 1) := by decide +kernel
theorem dX9_third_52 : decode cX9_third 52 = .ok (.ishl, 1) := by decide +kernel
theorem dX9_third_53 : decode cX9_third 53 = .ok (.ior, 1) := by decide +kernel
theorem dX9_third_54 : decode cX9_third 54 = .ok (.iconst 1, 1) := by decide +kernel
theorem dX9_third_55 : decode cX9_third 55 = .ok (.iload_n 3, 1) := by decide +kernel
theorem dX9_third_56 : decode cX9_third 56 = .ok (.ishl, 1) := by decide +kernel
theorem dX9_third_57 : decode cX9_third 57 = .ok (.ior, 1) := by decide +kernel
theorem dX9_third_58 : decode cX9_third 58 = .ok (.istore 4, 2) := by decide +kernel
theorem dX9_third_60 : decode cX9_third 60 = .ok (.iconst 0, 1) := by decide +kernel
theorem dX9_third_61 : decode cX9_third 61 = .ok (.istore 5, 2) := by decide +kernel
theorem dX9_third_63 : decode cX9_third 63 = .ok (.iload 5, 2) := by decide +kernel
theorem dX9_third_65 : decode cX9_third 65 = .ok (.aload_n 0, 1) := by decide +kernel
theorem dX9_third_66 : decode cX9_third 66 = .ok (.getfield 99, 3) := by decide +kernel
theorem dX9_third_69 : decode cX9_third 69 = .ok (.if_icmp .ge 56, 3) := by decide +kernel
theorem dX9_third_72 : decode cX9_third 72 = .ok (.iconst 1, 1) := by decide +kernel
theorem dX9_third_73 : decode cX9_third 73 = .ok (.aload_n 0, 1) := by decide +kernel
theorem dX9_third_74 : decode cX9_third 74 = .ok (.getfield 22, 3) := by decide +kernel
theorem dX9_third_77 : decode cX9_third 77 = .ok (.iconst 3, 1) := by decide +kernel
theorem dX9_third_78 : decode cX9_third 78 = .ok (.iload 5, 2) := by decide +kernel
theorem dX9_third_80 : decode cX9_third 80 = .ok (.imul, 1) := by decide +kernel
theorem dX9_third_81 : decode cX9_third 81 = .ok (.iaload, 1) := by decide +kernel
theorem dX9_third_82 : decode cX9_third 82 = .ok (.ishl, 1) := by decide +kernel
theorem dX9_third_83 : decode cX9_third 83 = .ok (.iconst 1, 1) := by decide +kernel
theorem dX9_third_84 : decode cX9_third 84 = .ok (.aload_n 0, 1) := by decide +kernel
theorem dX9_third_85 : decode cX9_third 85 = .ok (.getfield 22, 3) := by decide +kernel
theorem dX9_third_88 : decode cX9_third 88 = .ok (.iconst 3, 1) := by decide +kernel
theorem dX9_third_89 : decode cX9_third 89 = .ok (.iload 5, 2) := by decide +kernel
theorem dX9_third_91 : decode cX9_third 91 = .ok (.imul, 1) := by decide +kernel
theorem dX9_third_92 : decode cX9_third 92 = .ok (.iconst 1, 1) := by decide +kernel
theorem dX9_third_93 : decode cX9_third 93 = .ok (.iadd, 1) := by decide +kernel
theorem dX9_third_94 : decode cX9_third 94 = .ok (.iaload, 1) := by decide +kernel
theorem dX9_third_95 : decode cX9_third 95 = .ok (.ishl, 1) := by decide +kernel
theorem dX9_third_96 : decode cX9_third 96 = .ok (.ior, 1) := by decide +kernel
theorem dX9_third_97 : decode cX9_third 97 = .ok (.iconst 1, 1) := by decide +kernel
theorem dX9_third_98 : decode cX9_third 98 = .ok (.aload_n 0, 1) := by decide +kernel
theorem dX9_third_99 : decode cX9_third 99 = .ok (.getfield 22, 3) := by decide +kernel
theorem dX9_third_102 : decode cX9_third 102 = .ok (.iconst 3, 1) := by decide +kernel
theorem dX9_third_103 : decode cX9_third 103 = .ok (.iload 5, 2) := by decide +kernel
theorem dX9_third_105 : decode cX9_third 105 = .ok (.imul, 1) := by decide +kernel
theorem dX9_third_106 : decode cX9_third 106 = .ok (.iconst 2, 1) := by decide +kernel
theorem dX9_third_107 : decode cX9_third 107 = .ok (.iadd, 1) := by decide +kernel
theorem dX9_third_108 : decode cX9_third 108 = .ok (.iaload, 1) := by decide +kernel
theorem dX9_third_109 : decode cX9_third 109 = .ok (.ishl, 1) := by decide +kernel
theorem dX9_third_110 : decode cX9_third 110 = .ok (.ior, 1) := by decide +kernel
theorem dX9_third_111 : decode cX9_third 111 = .ok (.iload 4, 2) := by decide +kernel
theorem dX9_third_113 : decode cX9_third 113 = .ok (.if_icmp .ne 6, 3) := by decide +kernel
theorem dX9_third_116 : decode cX9_third 116 = .ok (.ldc 102, 2) := by decide +kernel
theorem dX9_third_118 : decode cX9_third 118 = .ok (.ireturn, 1) := by decide +kernel
theorem dX9_third_119 : decode cX9_third 119 = .ok (.iinc 5 1, 3) := by decide +kernel
theorem dX9_third_122 : decode cX9_third 122 = .ok (.goto (-59), 3) := by decide +kernel
theorem dX9_third_125 : decode cX9_third 125 = .ok (.aload_n 0, 1) := by decide +kernel
theorem dX9_third_126 : decode cX9_third 126 = .ok (.getfield 99, 3) := by decide +kernel
theorem dX9_third_129 : decode cX9_third 129 = .ok (.bipush 24, 2) := by decide +kernel
theorem dX9_third_131 : decode cX9_third 131 = .ok (.if_icmp .ne 6, 3) := by decide +kernel
theorem dX9_third_134 : decode cX9_third 134 = .ok (.ldc 88, 2) := by decide +kernel
theorem dX9_third_136 : decode cX9_third 136 = .ok (.ireturn, 1) := by decide +kernel
theorem dX9_third_137 : decode cX9_third 137 = .ok (.aload_n 0, 1) := by decide +kernel
theorem dX9_third_138 : decode cX9_third 138 = .ok (.getfield 22, 3) := by decide +kernel
theorem dX9_third_141 : decode cX9_third 141 = .ok (.iconst 3, 1) := by decide +kernel
theorem dX9_third_142 : decode cX9_third 142 = .ok (.aload_n 0, 1) := by decide +kernel
theorem dX9_third_143 : decode cX9_third 143 = .ok (.getfield 99, 3) := by decide +kernel
theorem dX9_third_146 : decode cX9_third 146 = .ok (.imul, 1) := by decide +kernel
theorem dX9_third_147 : decode cX9_third 147 = .ok (.iload_n 1, 1) := by decide +kernel
theorem dX9_third_148 : decode cX9_third 148 = .ok (.iastore, 1) := by decide +kernel
theorem dX9_third_149 : decode cX9_third 149 = .ok (.aload_n 0, 1) := by decide +kernel
theorem dX9_third_150 : decode cX9_third 150 = .ok (.getfield 22, 3) := by decide +kernel
theorem dX9_third_153 : decode cX9_third 153 = .ok (.iconst 3, 1) := by decide +kernel
theorem dX9_third_154 : decode cX9_third 154 = .ok (.aload_n 0, 1) := by decide +kernel
theorem dX9_third_155 : decode cX9_third 155 = .ok (.getfield 99, 3) := by decide +kernel
theorem dX9_third_158 : decode cX9_third 158 = .ok (.imul, 1) := by decide +kernel
theorem dX9_third_159 : decode cX9_third 159 = .ok (.iconst 1, 1) := by decide +kernel
theorem dX9_third_160 : decode cX9_third 160 = .ok (.iadd, 1) := by decide +kernel
theorem dX9_third_161 : decode cX9_third 161 = .ok (.iload_n 2, 1) := by decide +kernel
theorem dX9_third_162 : decode cX9_third 162 = .ok (.iastore, 1) := by decide +kernel
theorem dX9_third_163 : decode cX9_third 163 = .ok (.aload_n 0, 1) := by decide +kernel
theorem dX9_third_164 : decode cX9_third 164 = .ok (.getfield 22, 3) := by decide +kernel
theorem dX9_third_167 : decode cX9_third 167 = .ok (.iconst 3, 1) := by decide +kernel
theorem dX9_third_168 : decode cX9_third 168 = .ok (.aload_n 0, 1) := by decide +kernel
theorem dX9_third_169 : decode cX9_third 169 = .ok (.getfield 99, 3) := by decide +kernel
theorem dX9_third_172 : decode cX9_third 172 = .ok (.imul, 1) := by decide +kernel
theorem dX9_third_173 : decode cX9_third 173 = .ok (.iconst 2, 1) := by decide +kernel
theorem dX9_third_174 : decode cX9_third 174 = .ok (.iadd, 1) := by decide +kernel
theorem dX9_third_175 : decode cX9_third 175 = .ok (.iload_n 3, 1) := by decide +kernel
theorem dX9_third_176 : decode cX9_third 176 = .ok (.iastore, 1) := by decide +kernel
theorem dX9_third_177 : decode cX9_third 177 = .ok (.aload_n 0, 1) := by decide +kernel
theorem dX9_third_178 : decode cX9_third 178 = .ok (.dup, 1) := by decide +kernel
theorem dX9_third_179 : decode cX9_third 179 = .ok (.getfield 99, 3) := by decide +kernel
theorem dX9_third_182 : decode cX9_third 182 = .ok (.iconst 1, 1) := by decide +kernel
theorem dX9_third_183 : decode cX9_third 183 = .ok (.iadd, 1) := by decide +kernel
theorem dX9_third_184 : decode cX9_third 184 = .ok (.putfield 99, 3) := by decide +kernel
theorem dX9_third_187 : decode cX9_third 187 = .ok (.aload_n 0, 1) := by decide +kernel
theorem dX9_third_188 : decode cX9_third 188 = .ok (.getfield 99, 3) := by decide +kernel
theorem dX9_third_191 : decode cX9_third 191 = .ok (.iconst 1, 1) := by decide +kernel
theorem dX9_third_192 : decode cX9_third 192 = .ok (.isub, 1) := by decide +kernel
theorem dX9_third_193 : decode cX9_third 193 = .ok (.ireturn, 1) := by decide +kernel
theorem dX9_isThird_0 : decode cX9_isThird 0 = .ok (.iload_n 1, 1) := by decide +kernel
theorem dX9_isThird_1 : decode cX9_isThird 1 = .ok (.i2l, 1) := by decide +kernel
theorem dX9_isThird_2 : decode cX9_isThird 2 = .ok (.lconst 0, 1) := by decide +kernel
theorem dX9_isThird_3 : decode cX9_isThird 3 = .ok (.aload_n 0, 1) := by decide +kernel
theorem dX9_isThird_4 : decode cX9_isThird 4 = .ok (.getfield 99, 3) := by decide +kernel
theorem dX9_isThird_7 : decode cX9_isThird 7 = .ok (.iconst 1, 1) := by decide +kernel
theorem dX9_isThird_8 : decode cX9_isThird 8 = .ok (.isub, 1) := by decide +kernel
theorem dX9_isThird_9 : decode cX9_isThird 9 = .ok (.i2l, 1) := by decide +kernel
theorem dX9_isThird_10 : decode cX9_isThird 10 = .ok (.invokestatic 62, 3) := by decide +kernel
theorem dX9_isThird_13 : decode cX9_isThird 13 = .ok (.ireturn, 1) := by decide +kernel
theorem dX9_area_0 : decode cX9_area 0 = .ok (.lload 4, 2) := by decide +kernel
theorem dX9_area_2 : decode cX9_area 2 = .ok (.lload_n 0, 1) := by decide +kernel
theorem dX9_area_3 : decode cX9_area 3 = .ok (.lsub, 1) := by decide +kernel
theorem dX9_area_4 : decode cX9_area 4 = .ok (.lload 10, 2) := by decide +kernel
theorem dX9_area_6 : decode cX9_area 6 = .ok (.lload_n 2, 1) := by decide +kernel
theorem dX9_area_7 : decode cX9_area 7 = .ok (.lsub, 1) := by decide +kernel
theorem dX9_area_8 : decode cX9_area 8 = .ok (.lmul, 1) := by decide +kernel
theorem dX9_area_9 : decode cX9_area 9 = .ok (.lload 6, 2) := by decide +kernel
theorem dX9_area_11 : decode cX9_area 11 = .ok (.lload_n 2, 1) := by decide +kernel
theorem dX9_area_12 : decode cX9_area 12 = .ok (.lsub, 1) := by decide +kernel
theorem dX9_area_13 : decode cX9_area 13 = .ok (.lload 8, 2) := by decide +kernel
theorem dX9_area_15 : decode cX9_area 15 = .ok (.lload_n 0, 1) := by decide +kernel
theorem dX9_area_16 : decode cX9_area 16 = .ok (.lsub, 1) := by decide +kernel
theorem dX9_area_17 : decode cX9_area 17 = .ok (.lmul, 1) := by decide +kernel
theorem dX9_area_18 : decode cX9_area 18 = .ok (.lsub, 1) := by decide +kernel
theorem dX9_area_19 : decode cX9_area 19 = .ok (.lreturn, 1) := by decide +kernel
theorem dX9_areaAt_0 : decode cX9_areaAt 0 = .ok (.aload_n 0, 1) := by decide +kernel
theorem dX9_areaAt_1 : decode cX9_areaAt 1 = .ok (.getfield 22, 3) := by decide +kernel
theorem dX9_areaAt_4 : decode cX9_areaAt 4 = .ok (.iconst 3, 1) := by decide +kernel
theorem dX9_areaAt_5 : decode cX9_areaAt 5 = .ok (.iload_n 1, 1) := by decide +kernel
theorem dX9_areaAt_6 : decode cX9_areaAt 6 = .ok (.imul, 1) := by decide +kernel
theorem dX9_areaAt_7 : decode cX9_areaAt 7 = .ok (.iaload, 1) := by decide +kernel
theorem dX9_areaAt_8 : decode cX9_areaAt 8 = .ok (.istore 4, 2) := by decide +kernel
theorem dX9_areaAt_10 : decode cX9_areaAt 10 = .ok (.aload_n 0, 1) := by decide +kernel
theorem dX9_areaAt_11 : decode cX9_areaAt 11 = .ok (.getfield 22, 3) := by decide +kernel
theorem dX9_areaAt_14 : decode cX9_areaAt 14 = .ok (.iconst 3, 1) := by decide +kernel
theorem dX9_areaAt_15 : decode cX9_areaAt 15 = .ok (.iload_n 1, 1) := by decide +kernel
theorem dX9_areaAt_16 : decode cX9_areaAt 16 = .ok (.imul, 1) := by decide +kernel
theorem dX9_areaAt_17 : decode cX9_areaAt 17 = .ok (.iconst 1, 1) := by decide +kernel
theorem dX9_areaAt_18 : decode cX9_areaAt 18 = .ok (.iadd, 1) := by decide +kernel
theorem dX9_areaAt_19 : decode cX9_areaAt 19 = .ok (.iaload, 1) := by decide +kernel
theorem dX9_areaAt_20 : decode cX9_areaAt 20 = .ok (.istore 5, 2) := by decide +kernel
theorem dX9_areaAt_22 : decode cX9_areaAt 22 = .ok (.aload_n 0, 1) := by decide +kernel
theorem dX9_areaAt_23 : decode cX9_areaAt 23 = .ok (.getfield 22, 3) := by decide +kernel
theorem dX9_areaAt_26 : decode cX9_areaAt 26 = .ok (.iconst 3, 1) := by decide +kernel
theorem dX9_areaAt_27 : decode cX9_areaAt 27 = .ok (.iload_n 1, 1) := by decide +kernel
theorem dX9_areaAt_28 : decode cX9_areaAt 28 = .ok (.imul, 1) := by decide +kernel
theorem dX9_areaAt_29 : decode cX9_areaAt 29 = .ok (.iconst 2, 1) := by decide +kernel
theorem dX9_areaAt_30 : decode cX9_areaAt 30 = .ok (.iadd, 1) := by decide +kernel
theorem dX9_areaAt_31 : decode cX9_areaAt 31 = .ok (.iaload, 1) := by decide +kernel
theorem dX9_areaAt_32 : decode cX9_areaAt 32 = .ok (.istore 6, 2) := by decide +kernel
theorem dX9_areaAt_34 : decode cX9_areaAt 34 = .ok (.aload_n 0, 1) := by decide +kernel
theorem dX9_areaAt_35 : decode cX9_areaAt 35 = .ok (.iload 4, 2) := by decide +kernel
theorem dX9_areaAt_37 : decode cX9_areaAt 37 = .ok (.iload_n 2, 1) := by decide +kernel
theorem dX9_areaAt_38 : decode cX9_areaAt 38 = .ok (.iload_n 3, 1) := by decide +kernel
theorem dX9_areaAt_39 : decode cX9_areaAt 39 = .ok (.iconst 0, 1) := by decide +kernel
theorem dX9_areaAt_40 : decode cX9_areaAt 40 = .ok (.invokevirtual 95, 3) := by decide +kernel
theorem dX9_areaAt_43 : decode cX9_areaAt 43 = .ok (.i2l, 1) := by decide +kernel
theorem dX9_areaAt_44 : decode cX9_areaAt 44 = .ok (.aload_n 0, 1) := by decide +kernel
theorem dX9_areaAt_45 : decode cX9_areaAt 45 = .ok (.iload 4, 2) := by decide +kernel
theorem dX9_areaAt_47 : decode cX9_areaAt 47 = .ok (.iload_n 2, 1) := by decide +kernel
theorem dX9_areaAt_48 : decode cX9_areaAt 48 = .ok (.iload_n 3, 1) := by decide +kernel
theorem dX9_areaAt_49 : decode cX9_areaAt 49 = .ok (.iconst 1, 1) := by decide +kernel
theorem dX9_areaAt_50 : decode cX9_areaAt 50 = .ok (.invokevirtual 95, 3) := by decide +kernel
theorem dX9_areaAt_53 : decode cX9_areaAt 53 = .ok (.i2l, 1) := by decide +kernel
theorem dX9_areaAt_54 : decode cX9_areaAt 54 = .ok (.aload_n 0, 1) := by decide +kernel
theorem dX9_areaAt_55 : decode cX9_areaAt 55 = .ok (.iload 5, 2) := by decide +kernel
theorem dX9_areaAt_57 : decode cX9_areaAt 57 = .ok (.iload_n 2, 1) := by decide +kernel
theorem dX9_areaAt_58 : decode cX9_areaAt 58 = .ok (.iload_n 3, 1) := by decide +kernel
theorem dX9_areaAt_59 : decode cX9_areaAt 59 = .ok (.iconst 0, 1) := by decide +kernel
theorem dX9_areaAt_60 : decode cX9_areaAt 60 = .ok (.invokevirtual 95, 3) := by decide +kernel
theorem dX9_areaAt_63 : decode cX9_areaAt 63 = .ok (.i2l, 1) := by decide +kernel
theorem dX9_areaAt_64 : decode cX9_areaAt 64 = .ok (.aload_n 0, 1) := by decide +kernel
theorem dX9_areaAt_65 : decode cX9_areaAt 65 = .ok (.iload 5, 2) := by decide +kernel
theorem dX9_areaAt_67 : decode cX9_areaAt 67 = .ok (.iload_n 2, 1) := by decide +kernel
theorem dX9_areaAt_68 : decode cX9_areaAt 68 = .ok (.iload_n 3, 1) := by decide +kernel
theorem dX9_areaAt_69 : decode cX9_areaAt 69 = .ok (.iconst 1, 1) := by decide +kernel
theorem dX9_areaAt_70 : decode cX9_areaAt 70 = .ok (.invokevirtual 95, 3) := by decide +kernel
theorem dX9_areaAt_73 : decode cX9_areaAt 73 = .ok (.i2l, 1) := by decide +kernel
theorem dX9_areaAt_74 : decode cX9_areaAt 74 = .ok (.aload_n 0, 1) := by decide +kernel
theorem dX9_areaAt_75 : decode cX9_areaAt 75 = .ok (.iload 6, 2) := by decide +kernel
theorem dX9_areaAt_77 : decode cX9_areaAt 77 = .ok (.iload_n 2, 1) := by decide +kernel
theorem dX9_areaAt_78 : decode cX9_areaAt 78 = .ok (.iload_n 3, 1) := by decide +kernel
theorem dX9_areaAt_79 : decode cX9_areaAt 79 = .ok (.iconst 0, 1) := by decide +kernel
theorem dX9_areaAt_80 : decode cX9_areaAt 80 = .ok (.invokevirtual 95, 3) := by decide +kernel
theorem dX9_areaAt_83 : decode cX9_areaAt 83 = .ok (.i2l, 1) := by decide +kernel
theorem dX9_areaAt_84 : decode cX9_areaAt 84 = .ok (.aload_n 0, 1) := by decide +kernel
theorem dX9_areaAt_85 : decode cX9_areaAt 85 = .ok (.iload 6, 2) := by decide +kernel
theorem dX9_areaAt_87 : decode cX9_areaAt 87 = .ok (.iload_n 2, 1) := by decide +kernel
theorem dX9_areaAt_88 : decode cX9_areaAt 88 = .ok (.iload_n 3, 1) := by decide +kernel
theorem dX9_areaAt_89 : decode cX9_areaAt 89 = .ok (.iconst 1, 1) := by decide +kernel
theorem dX9_areaAt_90 : decode cX9_areaAt 90 = .ok (.invokevirtual 95, 3) := by decide +kernel
theorem dX9_areaAt_93 : decode cX9_areaAt 93 = .ok (.i2l, 1) := by decide +kernel
theorem dX9_areaAt_94 : decode cX9_areaAt 94 = .ok (.invokestatic 103, 3) := by decide +kernel
theorem dX9_areaAt_97 : decode cX9_areaAt 97 = .ok (.lreturn, 1) := by decide +kernel
theorem dX9_told_0 : decode cX9_told 0 = .ok (.aload_n 0, 1) := by decide +kernel
theorem dX9_told_1 : decode cX9_told 1 = .ok (.iconst 0, 1) := by decide +kernel
theorem dX9_told_2 : decode cX9_told 2 = .ok (.putfield 52, 3) := by decide +kernel
theorem dX9_told_5 : decode cX9_told 5 = .ok (.aload_n 0, 1) := by decide +kernel
theorem dX9_told_6 : decode cX9_told 6 = .ok (.iload_n 1, 1) := by decide +kernel
theorem dX9_told_7 : decode cX9_told 7 = .ok (.invokevirtual 107, 3) := by decide +kernel
theorem dX9_told_10 : decode cX9_told 10 = .ok (.ifCond .eq 15, 3) := by decide +kernel
theorem dX9_told_13 : decode cX9_told 13 = .ok (.iload_n 2, 1) := by decide +kernel
theorem dX9_told_14 : decode cX9_told 14 = .ok (.i2l, 1) := by decide +kernel
theorem dX9_told_15 : decode cX9_told 15 = .ok (.lconst 0, 1) := by decide +kernel
theorem dX9_told_16 : decode cX9_told 16 = .ok (.ldc2_w 110, 3) := by decide +kernel
theorem dX9_told_19 : decode cX9_told 19 = .ok (.invokestatic 62, 3) := by decide +kernel
theorem dX9_told_22 : decode cX9_told 22 = .ok (.ifCond .ne 6, 3) := by decide +kernel
theorem dX9_told_25 : decode cX9_told 25 = .ok (.ldc 72, 2) := by decide +kernel
theorem dX9_told_27 : decode cX9_told 27 = .ok (.ireturn, 1) := by decide +kernel
theorem dX9_told_28 : decode cX9_told 28 = .ok (.iload_n 2, 1) := by decide +kernel
theorem dX9_told_29 : decode cX9_told 29 = .ok (.iconst 3, 1) := by decide +kernel
theorem dX9_told_30 : decode cX9_told 30 = .ok (.if_icmp .ge 16, 3) := by decide +kernel
theorem dX9_told_33 : decode cX9_told 33 = .ok (.aload_n 0, 1) := by decide +kernel
theorem dX9_told_34 : decode cX9_told 34 = .ok (.getfield 22, 3) := by decide +kernel
theorem dX9_told_37 : decode cX9_told 37 = .ok (.iconst 3, 1) := by decide +kernel
theorem dX9_told_38 : decode cX9_told 38 = .ok (.iload_n 1, 1) := by decide +kernel
theorem dX9_told_39 : decode cX9_told 39 = .ok (.imul, 1) := by decide +kernel
theorem dX9_told_40 : decode cX9_told 40 = .ok (.iload_n 2, 1) := by decide +kernel
theorem dX9_told_41 : decode cX9_told 41 = .ok (.iadd, 1) := by decide +kernel
theorem dX9_told_42 : decode cX9_told 42 = .ok (.iaload, 1) := by decide +kernel
theorem dX9_told_43 : decode cX9_told 43 = .ok (.goto 13, 3) := by decide +kernel
theorem dX9_told_46 : decode cX9_told 46 = .ok (.aload_n 0, 1) := by decide +kernel
theorem dX9_told_47 : decode cX9_told 47 = .ok (.iload_n 1, 1) := by decide +kernel
theorem dX9_told_48 : decode cX9_told 48 = .ok (.iload_n 2, 1) := by decide +kernel
theorem dX9_told_49 : decode cX9_told 49 = .ok (.iconst 3, 1) := by decide +kernel
theorem dX9_told_50 : decode cX9_told 50 = .ok (.isub, 1) := by decide +kernel
theorem dX9_told_51 : decode cX9_told 51 = .ok (.iconst 1, 1) := by decide +kernel
theorem dX9_told_52 : decode cX9_told 52 = .ok (.invokevirtual 112, 3) := by decide +kernel
theorem dX9_told_55 : decode cX9_told 55 = .ok (.l2i, 1) := by decide +kernel
theorem dX9_told_56 : decode cX9_told 56 = .ok (.ireturn, 1) := by decide +kernel
theorem dX9_foldsAt_0 : decode cX9_foldsAt 0 = .ok (.iconst 0, 1) := by decide +kernel
theorem dX9_foldsAt_1 : decode cX9_foldsAt 1 = .ok (.istore_n 3, 1) := by decide +kernel
theorem dX9_foldsAt_2 : decode cX9_foldsAt 2 = .ok (.iload_n 3, 1) := by decide +kernel
theorem dX9_foldsAt_3 : decode cX9_foldsAt 3 = .ok (.iload_n 2, 1) := by decide +kernel
theorem dX9_foldsAt_4 : decode cX9_foldsAt 4 = .ok (.if_icmp .gt 23, 3) := by decide +kernel
theorem dX9_foldsAt_7 : decode cX9_foldsAt 7 = .ok (.aload_n 0, 1) := by decide +kernel
theorem dX9_foldsAt_8 : decode cX9_foldsAt 8 = .ok (.iload_n 1, 1) := by decide +kernel
theorem dX9_foldsAt_9 : decode cX9_foldsAt 9 = .ok (.iload_n 3, 1) := by decide +kernel
theorem dX9_foldsAt_10 : decode cX9_foldsAt 10 = .ok (.iload_n 2, 1) := by decide +kernel
theorem dX9_foldsAt_11 : decode cX9_foldsAt 11 = .ok (.invokevirtual 112, 3) := by decide +kernel
theorem dX9_foldsAt_14 : decode cX9_foldsAt 14 = .ok (.lconst 0, 1) := by decide +kernel
theorem dX9_foldsAt_15 : decode cX9_foldsAt 15 = .ok (.lcmp, 1) := by decide +kernel
theorem dX9_foldsAt_16 : decode cX9_foldsAt 16 = .ok (.ifCond .gt 5, 3) := by decide +kernel
theorem dX9_foldsAt_19 : decode cX9_foldsAt 19 = .ok (.iload_n 3, 1) := by decide +kernel
theorem dX9_foldsAt_20 : decode cX9_foldsAt 20 = .ok (.ireturn, 1) := by decide +kernel
theorem dX9_foldsAt_21 : decode cX9_foldsAt 21 = .ok (.iinc 3 1, 3) := by decide +kernel
theorem dX9_foldsAt_24 : decode cX9_foldsAt 24 = .ok (.goto (-22), 3) := by decide +kernel
theorem dX9_foldsAt_27 : decode cX9_foldsAt 27 = .ok (.ldc 116, 2) := by decide +kernel
theorem dX9_foldsAt_29 : decode cX9_foldsAt 29 = .ok (.ireturn, 1) := by decide +kernel
theorem dX9_folds_0 : decode cX9_folds 0 = .ok (.aload_n 0, 1) := by decide +kernel
theorem dX9_folds_1 : decode cX9_folds 1 = .ok (.iconst 0, 1) := by decide +kernel
theorem dX9_folds_2 : decode cX9_folds 2 = .ok (.putfield 52, 3) := by decide +kernel
theorem dX9_folds_5 : decode cX9_folds 5 = .ok (.aload_n 0, 1) := by decide +kernel
theorem dX9_folds_6 : decode cX9_folds 6 = .ok (.iload_n 1, 1) := by decide +kernel
theorem dX9_folds_7 : decode cX9_folds 7 = .ok (.invokevirtual 107, 3) := by decide +kernel
theorem dX9_folds_10 : decode cX9_folds 10 = .ok (.ifCond .eq 15, 3) := by decide +kernel
theorem dX9_folds_13 : decode cX9_folds 13 = .ok (.iload_n 2, 1) := by decide +kernel
theorem dX9_folds_14 : decode cX9_folds 14 = .ok (.i2l, 1) := by decide +kernel
theorem dX9_folds_15 : decode cX9_folds 15 = .ok (.lconst 1, 1) := by decide +kernel
theorem dX9_folds_16 : decode cX9_folds 16 = .ok (.ldc2_w 82, 3) := by decide +kernel
theorem dX9_folds_19 : decode cX9_folds 19 = .ok (.invokestatic 62, 3) := by decide +kernel
theorem dX9_folds_22 : decode cX9_folds 22 = .ok (.ifCond .ne 8, 3) := by decide +kernel
theorem dX9_folds_25 : decode cX9_folds 25 = .ok (.ldc 72, 2) := by decide +kernel
theorem dX9_folds_27 : decode cX9_folds 27 = .ok (.goto 9, 3) := by decide +kernel
theorem dX9_folds_30 : decode cX9_folds 30 = .ok (.aload_n 0, 1) := by decide +kernel
theorem dX9_folds_31 : decode cX9_folds 31 = .ok (.iload_n 1, 1) := by decide +kernel
theorem dX9_folds_32 : decode cX9_folds 32 = .ok (.iload_n 2, 1) := by decide +kernel
theorem dX9_folds_33 : decode cX9_folds 33 = .ok (.invokevirtual 117, 3) := by decide +kernel
theorem dX9_folds_36 : decode cX9_folds 36 = .ok (.ireturn, 1) := by decide +kernel
theorem dX9_first_0 : decode cX9_first 0 = .ok (.aload_n 0, 1) := by decide +kernel
theorem dX9_first_1 : decode cX9_first 1 = .ok (.iconst 0, 1) := by decide +kernel
theorem dX9_first_2 : decode cX9_first 2 = .ok (.putfield 52, 3) := by decide +kernel
theorem dX9_first_5 : decode cX9_first 5 = .ok (.iload_n 1, 1) := by decide +kernel
theorem dX9_first_6 : decode cX9_first 6 = .ok (.i2l, 1) := by decide +kernel
theorem dX9_first_7 : decode cX9_first 7 = .ok (.lconst 1, 1) := by decide +kernel
theorem dX9_first_8 : decode cX9_first 8 = .ok (.ldc2_w 82, 3) := by decide +kernel
theorem dX9_first_11 : decode cX9_first 11 = .ok (.invokestatic 62, 3) := by decide +kernel
theorem dX9_first_14 : decode cX9_first 14 = .ok (.ifCond .eq 13, 3) := by decide +kernel
theorem dX9_first_17 : decode cX9_first 17 = .ok (.iload_n 2, 1) := by decide +kernel
theorem dX9_first_18 : decode cX9_first 18 = .ok (.i2l, 1) := by decide +kernel
theorem dX9_first_19 : decode cX9_first 19 = .ok (.lconst 0, 1) := by decide +kernel
theorem dX9_first_20 : decode cX9_first 20 = .ok (.lconst 1, 1) := by decide +kernel
theorem dX9_first_21 : decode cX9_first 21 = .ok (.invokestatic 62, 3) := by decide +kernel
theorem dX9_first_24 : decode cX9_first 24 = .ok (.ifCond .ne 6, 3) := by decide +kernel
theorem dX9_first_27 : decode cX9_first 27 = .ok (.ldc 72, 2) := by decide +kernel
theorem dX9_first_29 : decode cX9_first 29 = .ok (.ireturn, 1) := by decide +kernel
theorem dX9_first_30 : decode cX9_first 30 = .ok (.ldc 116, 2) := by decide +kernel
theorem dX9_first_32 : decode cX9_first 32 = .ok (.istore_n 3, 1) := by decide +kernel
theorem dX9_first_33 : decode cX9_first 33 = .ok (.ldc 116, 2) := by decide +kernel
theorem dX9_first_35 : decode cX9_first 35 = .ok (.istore 4, 2) := by decide +kernel
theorem dX9_first_37 : decode cX9_first 37 = .ok (.iconst 0, 1) := by decide +kernel
theorem dX9_first_38 : decode cX9_first 38 = .ok (.istore 5, 2) := by decide +kernel
theorem dX9_first_40 : decode cX9_first 40 = .ok (.iload 5, 2) := by decide +kernel
theorem dX9_first_42 : decode cX9_first 42 = .ok (.aload_n 0, 1) := by decide +kernel
theorem dX9_first_43 : decode cX9_first 43 = .ok (.getfield 99, 3) := by decide +kernel
theorem dX9_first_46 : decode cX9_first 46 = .ok (.if_icmp .ge 46, 3) := by decide +kernel
theorem dX9_first_49 : decode cX9_first 49 = .ok (.aload_n 0, 1) := by decide +kernel
theorem dX9_first_50 : decode cX9_first 50 = .ok (.iload 5, 2) := by decide +kernel
theorem dX9_first_52 : decode cX9_first 52 = .ok (.iload_n 1, 1) := by decide +kernel
theorem dX9_first_53 : decode cX9_first 53 = .ok (.invokevirtual 117, 3) := by decide +kernel
theorem dX9_first_56 : decode cX9_first 56 = .ok (.istore 6, 2) := by decide +kernel
theorem dX9_first_58 : decode cX9_first 58 = .ok (.iload 6, 2) := by decide +kernel
theorem dX9_first_60 : decode cX9_first 60 = .ok (.ldc 116, 2) := by decide +kernel
theorem dX9_first_62 : decode cX9_first 62 = .ok (.if_icmp .eq 24, 3) := by decide +kernel
theorem dX9_first_65 : decode cX9_first 65 = .ok (.iload 4, 2) := by decide +kernel
theorem dX9_first_67 : decode cX9_first 67 = .ok (.ldc 116, 2) := by decide +kernel
theorem dX9_first_69 : decode cX9_first 69 = .ok (.if_icmp .eq 10, 3) := by decide +kernel
theorem dX9_first_72 : decode cX9_first 72 = .ok (.iload 6, 2) := by decide +kernel
theorem dX9_first_74 : decode cX9_first 74 = .ok (.iload 4, 2) := by decide +kernel
theorem dX9_first_76 : decode cX9_first 76 = .ok (.if_icmp .ge 10, 3) := by decide +kernel
theorem dX9_first_79 : decode cX9_first 79 = .ok (.iload 6, 2) := by decide +kernel
theorem dX9_first_81 : decode cX9_first 81 = .ok (.istore 4, 2) := by decide +kernel
theorem dX9_first_83 : decode cX9_first 83 = .ok (.iload 5, 2) := by decide +kernel
theorem dX9_first_85 : decode cX9_first 85 = .ok (.istore_n 3, 1) := by decide +kernel
theorem dX9_first_86 : decode cX9_first 86 = .ok (.iinc 5 1, 3) := by decide +kernel
theorem dX9_first_89 : decode cX9_first 89 = .ok (.goto (-49), 3) := by decide +kernel
theorem dX9_first_92 : decode cX9_first 92 = .ok (.iload_n 2, 1) := by decide +kernel
theorem dX9_first_93 : decode cX9_first 93 = .ok (.ifCond .ne 8, 3) := by decide +kernel
theorem dX9_first_96 : decode cX9_first 96 = .ok (.iload 4, 2) := by decide +kernel
theorem dX9_first_98 : decode cX9_first 98 = .ok (.goto 4, 3) := by decide +kernel
theorem dX9_first_101 : decode cX9_first 101 = .ok (.iload_n 3, 1) := by decide +kernel
theorem dX9_first_102 : decode cX9_first 102 = .ok (.ireturn, 1) := by decide +kernel
theorem dX9_sides_0 : decode cX9_sides 0 = .ok (.aload_n 0, 1) := by decide +kernel
theorem dX9_sides_1 : decode cX9_sides 1 = .ok (.iconst 0, 1) := by decide +kernel
theorem dX9_sides_2 : decode cX9_sides 2 = .ok (.putfield 52, 3) := by decide +kernel
theorem dX9_sides_5 : decode cX9_sides 5 = .ok (.iload_n 1, 1) := by decide +kernel
theorem dX9_sides_6 : decode cX9_sides 6 = .ok (.i2l, 1) := by decide +kernel
theorem dX9_sides_7 : decode cX9_sides 7 = .ok (.lconst 1, 1) := by decide +kernel
theorem dX9_sides_8 : decode cX9_sides 8 = .ok (.ldc2_w 121, 3) := by decide +kernel
theorem dX9_sides_11 : decode cX9_sides 11 = .ok (.invokestatic 62, 3) := by decide +kernel
theorem dX9_sides_14 : decode cX9_sides 14 = .ok (.ifCond .ne 6, 3) := by decide +kernel
theorem dX9_sides_17 : decode cX9_sides 17 = .ok (.ldc 72, 2) := by decide +kernel
theorem dX9_sides_19 : decode cX9_sides 19 = .ok (.ireturn, 1) := by decide +kernel
theorem dX9_sides_20 : decode cX9_sides 20 = .ok (.iconst 0, 1) := by decide +kernel
theorem dX9_sides_21 : decode cX9_sides 21 = .ok (.istore_n 2, 1) := by decide +kernel
theorem dX9_sides_22 : decode cX9_sides 22 = .ok (.iconst 0, 1) := by decide +kernel
theorem dX9_sides_23 : decode cX9_sides 23 = .ok (.istore_n 3, 1) := by decide +kernel
theorem dX9_sides_24 : decode cX9_sides 24 = .ok (.iload_n 3, 1) := by decide +kernel
theorem dX9_sides_25 : decode cX9_sides 25 = .ok (.aload_n 0, 1) := by decide +kernel
theorem dX9_sides_26 : decode cX9_sides 26 = .ok (.getfield 77, 3) := by decide +kernel
theorem dX9_sides_29 : decode cX9_sides 29 = .ok (.if_icmp .ge 136, 3) := by decide +kernel
theorem dX9_sides_32 : decode cX9_sides 32 = .ok (.iload_n 3, 1) := by decide +kernel
theorem dX9_sides_33 : decode cX9_sides 33 = .ok (.iconst 1, 1) := by decide +kernel
theorem dX9_sides_34 : decode cX9_sides 34 = .ok (.iadd, 1) := by decide +kernel
theorem dX9_sides_35 : decode cX9_sides 35 = .ok (.istore 4, 2) := by decide +kernel
theorem dX9_sides_37 : decode cX9_sides 37 = .ok (.iload 4, 2) := by decide +kernel
theorem dX9_sides_39 : decode cX9_sides 39 = .ok (.aload_n 0, 1) := by decide +kernel
theorem dX9_sides_40 : decode cX9_sides 40 = .ok (.getfield 77, 3) := by decide +kernel
theorem dX9_sides_43 : decode cX9_sides 43 = .ok (.if_icmp .ge 116, 3) := by decide +kernel
theorem dX9_sides_46 : decode cX9_sides 46 = .ok (.iconst 0, 1) := by decide +kernel
theorem dX9_sides_47 : decode cX9_sides 47 = .ok (.istore 5, 2) := by decide +kernel
theorem dX9_sides_49 : decode cX9_sides 49 = .ok (.iconst 0, 1) := by decide +kernel
theorem dX9_sides_50 : decode cX9_sides 50 = .ok (.istore 6, 2) := by decide +kernel
theorem dX9_sides_52 : decode cX9_sides 52 = .ok (.iload 6, 2) := by decide +kernel
theorem dX9_sides_54 : decode cX9_sides 54 = .ok (.aload_n 0, 1) := by decide +kernel
theorem dX9_sides_55 : decode cX9_sides 55 = .ok (.getfield 99, 3) := by decide +kernel
theorem dX9_sides_58 : decode cX9_sides 58 = .ok (.if_icmp .ge 81, 3) := by decide +kernel
theorem dX9_sides_61 : decode cX9_sides 61 = .ok (.iconst 1, 1) := by decide +kernel
theorem dX9_sides_62 : decode cX9_sides 62 = .ok (.aload_n 0, 1) := by decide +kernel
theorem dX9_sides_63 : decode cX9_sides 63 = .ok (.getfield 22, 3) := by decide +kernel
theorem dX9_sides_66 : decode cX9_sides 66 = .ok (.iconst 3, 1) := by decide +kernel
theorem dX9_sides_67 : decode cX9_sides 67 = .ok (.iload 6, 2) := by decide +kernel
theorem dX9_sides_69 : decode cX9_sides 69 = .ok (.imul, 1) := by decide +kernel
theorem dX9_sides_70 : decode cX9_sides 70 = .ok (.iaload, 1) := by decide +kernel
theorem dX9_sides_71 : decode cX9_sides 71 = .ok (.ishl, 1) := by decide +kernel
theorem dX9_sides_72 : decode cX9_sides 72 = .ok (.iconst 1, 1) := by decide +kernel
theorem dX9_sides_73 : decode cX9_sides 73 = .ok (.aload_n 0, 1) := by decide +kernel
theorem dX9_sides_74 : decode cX9_sides 74 = .ok (.getfield 22, 3) := by decide +kernel
theorem dX9_sides_77 : decode cX9_sides 77 = .ok (.iconst 3, 1) := by decide +kernel
theorem dX9_sides_78 : decode cX9_sides 78 = .ok (.iload 6, 2) := by decide +kernel
theorem dX9_sides_80 : decode cX9_sides 80 = .ok (.imul, 1) := by decide +kernel
theorem dX9_sides_81 : decode cX9_sides 81 = .ok (.iconst 1, 1) := by decide +kernel
theorem dX9_sides_82 : decode cX9_sides 82 = .ok (.iadd, 1) := by decide +kernel
theorem dX9_sides_83 : decode cX9_sides 83 = .ok (.iaload, 1) := by decide +kernel
theorem dX9_sides_84 : decode cX9_sides 84 = .ok (.ishl, 1) := by decide +kernel
theorem dX9_sides_85 : decode cX9_sides 85 = .ok (.ior, 1) := by decide +kernel
theorem dX9_sides_86 : decode cX9_sides 86 = .ok (.iconst 1, 1) := by decide +kernel
theorem dX9_sides_87 : decode cX9_sides 87 = .ok (.aload_n 0, 1) := by decide +kernel
theorem dX9_sides_88 : decode cX9_sides 88 = .ok (.getfield 22, 3) := by decide +kernel
theorem dX9_sides_91 : decode cX9_sides 91 = .ok (.iconst 3, 1) := by decide +kernel
theorem dX9_sides_92 : decode cX9_sides 92 = .ok (.iload 6, 2) := by decide +kernel
theorem dX9_sides_94 : decode cX9_sides 94 = .ok (.imul, 1) := by decide +kernel
theorem dX9_sides_95 : decode cX9_sides 95 = .ok (.iconst 2, 1) := by decide +kernel
theorem dX9_sides_96 : decode cX9_sides 96 = .ok (.iadd, 1) := by decide +kernel
theorem dX9_sides_97 : decode cX9_sides 97 = .ok (.iaload, 1) := by decide +kernel
theorem dX9_sides_98 : decode cX9_sides 98 = .ok (.ishl, 1) := by decide +kernel
theorem dX9_sides_99 : decode cX9_sides 99 = .ok (.ior, 1) := by decide +kernel
theorem dX9_sides_100 : decode cX9_sides 100 = .ok (.istore 7, 2) := by decide +kernel
theorem dX9_sides_102 : decode cX9_sides 102 = .ok (.iload 5, 2) := by decide +kernel
theorem dX9_sides_104 : decode cX9_sides 104 = .ok (.iload 7, 2) := by decide +kernel
theorem dX9_sides_106 : decode cX9_sides 106 = .ok (.iload_n 3, 1) := by decide +kernel
theorem dX9_sides_107 : decode cX9_sides 107 = .ok (.ishr, 1) := by decide +kernel
theorem dX9_sides_108 : decode cX9_sides 108 = .ok (.iconst 1, 1) := by decide +kernel
theorem dX9_sides_109 : decode cX9_sides 109 = .ok (.iand, 1) := by decide +kernel
theorem dX9_sides_110 : decode cX9_sides 110 = .ok (.iconst 1, 1) := by decide +kernel
theorem dX9_sides_111 : decode cX9_sides 111 = .ok (.if_icmp .ne 18, 3) := by decide +kernel
theorem dX9_sides_114 : decode cX9_sides 114 = .ok (.iload 7, 2) := by decide +kernel
theorem dX9_sides_116 : decode cX9_sides 116 = .ok (.iload 4, 2) := by decide +kernel
theorem dX9_sides_118 : decode cX9_sides 118 = .ok (.ishr, 1) := by decide +kernel
theorem dX9_sides_119 : decode cX9_sides 119 = .ok (.iconst 1, 1) := by decide +kernel
theorem dX9_sides_120 : decode cX9_sides 120 = .ok (.iand, 1) := by decide +kernel
theorem dX9_sides_121 : decode cX9_sides 121 = .ok (.iconst 1, 1) := by decide +kernel
theorem dX9_sides_122 : decode cX9_sides 122 = .ok (.if_icmp .ne 7, 3) := by decide +kernel
theorem dX9_sides_125 : decode cX9_sides 125 = .ok (.iconst 1, 1) := by decide +kernel
theorem dX9_sides_126 : decode cX9_sides 126 = .ok (.goto 4, 3) := by decide +kernel
theorem dX9_sides_129 : decode cX9_sides 129 = .ok (.iconst 0, 1) := by decide +kernel
theorem dX9_sides_130 : decode cX9_sides 130 = .ok (.iadd, 1) := by decide +kernel
theorem dX9_sides_131 : decode cX9_sides 131 = .ok (.istore 5, 2) := by decide +kernel
theorem dX9_sides_133 : decode cX9_sides 133 = .ok (.iinc 6 1, 3) := by decide +kernel
theorem dX9_sides_136 : decode cX9_sides 136 = .ok (.goto (-84), 3) := by decide +kernel
theorem dX9_sides_139 : decode cX9_sides 139 = .ok (.iload_n 2, 1) := by decide +kernel
theorem dX9_sides_140 : decode cX9_sides 140 = .ok (.iload 5, 2) := by decide +kernel
theorem dX9_sides_142 : decode cX9_sides 142 = .ok (.iload_n 1, 1) := by decide +kernel
theorem dX9_sides_143 : decode cX9_sides 143 = .ok (.if_icmp .ne 7, 3) := by decide +kernel
theorem dX9_sides_146 : decode cX9_sides 146 = .ok (.iconst 1, 1) := by decide +kernel
theorem dX9_sides_147 : decode cX9_sides 147 = .ok (.goto 4, 3) := by decide +kernel
theorem dX9_sides_150 : decode cX9_sides 150 = .ok (.iconst 0, 1) := by decide +kernel
theorem dX9_sides_151 : decode cX9_sides 151 = .ok (.iadd, 1) := by decide +kernel
theorem dX9_sides_152 : decode cX9_sides 152 = .ok (.istore_n 2, 1) := by decide +kernel
theorem dX9_sides_153 : decode cX9_sides 153 = .ok (.iinc 4 1, 3) := by decide +kernel
theorem dX9_sides_156 : decode cX9_sides 156 = .ok (.goto (-119), 3) := by decide +kernel
theorem dX9_sides_159 : decode cX9_sides 159 = .ok (.iinc 3 1, 3) := by decide +kernel
theorem dX9_sides_162 : decode cX9_sides 162 = .ok (.goto (-138), 3) := by decide +kernel
theorem dX9_sides_165 : decode cX9_sides 165 = .ok (.iload_n 2, 1) := by decide +kernel
theorem dX9_sides_166 : decode cX9_sides 166 = .ok (.ireturn, 1) := by decide +kernel
theorem dX9_key_0 : decode cX9_key 0 = .ok (.aload_n 0, 1) := by decide +kernel
theorem dX9_key_1 : decode cX9_key 1 = .ok (.iconst 0, 1) := by decide +kernel
theorem dX9_key_2 : decode cX9_key 2 = .ok (.putfield 52, 3) := by decide +kernel
theorem dX9_key_5 : decode cX9_key 5 = .ok (.iload_n 1, 1) := by decide +kernel
theorem dX9_key_6 : decode cX9_key 6 = .ok (.i2l, 1) := by decide +kernel
theorem dX9_key_7 : decode cX9_key 7 = .ok (.lconst 0, 1) := by decide +kernel
theorem dX9_key_8 : decode cX9_key 8 = .ok (.ldc2_w 80, 3) := by decide +kernel
theorem dX9_key_11 : decode cX9_key 11 = .ok (.invokestatic 62, 3) := by decide +kernel
theorem dX9_key_14 : decode cX9_key 14 = .ok (.ifCond .eq 15, 3) := by decide +kernel
theorem dX9_key_17 : decode cX9_key 17 = .ok (.iload_n 2, 1) := by decide +kernel
theorem dX9_key_18 : decode cX9_key 18 = .ok (.i2l, 1) := by decide +kernel
theorem dX9_key_19 : decode cX9_key 19 = .ok (.lconst 0, 1) := by decide +kernel
theorem dX9_key_20 : decode cX9_key 20 = .ok (.ldc2_w 80, 3) := by decide +kernel
theorem dX9_key_23 : decode cX9_key 23 = .ok (.invokestatic 62, 3) := by decide +kernel
theorem dX9_key_26 : decode cX9_key 26 = .ok (.ifCond .ne 6, 3) := by decide +kernel
theorem dX9_key_29 : decode cX9_key 29 = .ok (.ldc 72, 2) := by decide +kernel
theorem dX9_key_31 : decode cX9_key 31 = .ok (.ireturn, 1) := by decide +kernel
theorem dX9_key_32 : decode cX9_key 32 = .ok (.aload_n 0, 1) := by decide +kernel
theorem dX9_key_33 : decode cX9_key 33 = .ok (.getfield 123, 3) := by decide +kernel
theorem dX9_key_36 : decode cX9_key 36 = .ok (.ifCond .le 36, 3) := by decide +kernel
theorem dX9_key_39 : decode cX9_key 39 = .ok (.iload_n 1, 1) := by decide +kernel
theorem dX9_key_40 : decode cX9_key 40 = .ok (.aload_n 0, 1) := by decide +kernel
theorem dX9_key_41 : decode cX9_key 41 = .ok (.getfield 25, 3) := by decide +kernel
theorem dX9_key_44 : decode cX9_key 44 = .ok (.aload_n 0, 1) := by decide +kernel
theorem dX9_key_45 : decode cX9_key 45 = .ok (.getfield 123, 3) := by decide +kernel
theorem dX9_key_48 : decode cX9_key 48 = .ok (.iconst 1, 1) := by decide +kernel
theorem dX9_key_49 : decode cX9_key 49 = .ok (.isub, 1) := by decide +kernel
theorem dX9_key_50 : decode cX9_key 50 = .ok (.iaload, 1) := by decide +kernel
theorem dX9_key_51 : decode cX9_key 51 = .ok (.if_icmp .le 18, 3) := by decide +kernel
theorem dX9_key_54 : decode cX9_key 54 = .ok (.iload_n 2, 1) := by decide +kernel
theorem dX9_key_55 : decode cX9_key 55 = .ok (.aload_n 0, 1) := by decide +kernel
theorem dX9_key_56 : decode cX9_key 56 = .ok (.getfield 28, 3) := by decide +kernel
theorem dX9_key_59 : decode cX9_key 59 = .ok (.aload_n 0, 1) := by decide +kernel
theorem dX9_key_60 : decode cX9_key 60 = .ok (.getfield 123, 3) := by decide +kernel
theorem dX9_key_63 : decode cX9_key 63 = .ok (.iconst 1, 1) := by decide +kernel
theorem dX9_key_64 : decode cX9_key 64 = .ok (.isub, 1) := by decide +kernel
theorem dX9_key_65 : decode cX9_key 65 = .ok (.iaload, 1) := by decide +kernel
theorem dX9_key_66 : decode cX9_key 66 = .ok (.if_icmp .ge 6, 3) := by decide +kernel
theorem dX9_key_69 : decode cX9_key 69 = .ok (.ldc 102, 2) := by decide +kernel
theorem dX9_key_71 : decode cX9_key 71 = .ok (.ireturn, 1) := by decide +kernel
theorem dX9_key_72 : decode cX9_key 72 = .ok (.aload_n 0, 1) := by decide +kernel
theorem dX9_key_73 : decode cX9_key 73 = .ok (.getfield 123, 3) := by decide +kernel
theorem dX9_key_76 : decode cX9_key 76 = .ok (.bipush 6, 2) := by decide +kernel
theorem dX9_key_78 : decode cX9_key 78 = .ok (.if_icmp .ne 6, 3) := by decide +kernel
theorem dX9_key_81 : decode cX9_key 81 = .ok (.ldc 88, 2) := by decide +kernel
theorem dX9_key_83 : decode cX9_key 83 = .ok (.ireturn, 1) := by decide +kernel
theorem dX9_key_84 : decode cX9_key 84 = .ok (.aload_n 0, 1) := by decide +kernel
theorem dX9_key_85 : decode cX9_key 85 = .ok (.getfield 25, 3) := by decide +kernel
theorem dX9_key_88 : decode cX9_key 88 = .ok (.aload_n 0, 1) := by decide +kernel
theorem dX9_key_89 : decode cX9_key 89 = .ok (.getfield 123, 3) := by decide +kernel
theorem dX9_key_92 : decode cX9_key 92 = .ok (.iload_n 1, 1) := by decide +kernel
theorem dX9_key_93 : decode cX9_key 93 = .ok (.iastore, 1) := by decide +kernel
theorem dX9_key_94 : decode cX9_key 94 = .ok (.aload_n 0, 1) := by decide +kernel
theorem dX9_key_95 : decode cX9_key 95 = .ok (.getfield 28, 3) := by decide +kernel
theorem dX9_key_98 : decode cX9_key 98 = .ok (.aload_n 0, 1) := by decide +kernel
theorem dX9_key_99 : decode cX9_key 99 = .ok (.getfield 123, 3) := by decide +kernel
theorem dX9_key_102 : decode cX9_key 102 = .ok (.iload_n 2, 1) := by decide +kernel
theorem dX9_key_103 : decode cX9_key 103 = .ok (.iastore, 1) := by decide +kernel
theorem dX9_key_104 : decode cX9_key 104 = .ok (.aload_n 0, 1) := by decide +kernel
theorem dX9_key_105 : decode cX9_key 105 = .ok (.dup, 1) := by decide +kernel
theorem dX9_key_106 : decode cX9_key 106 = .ok (.getfield 123, 3) := by decide +kernel
theorem dX9_key_109 : decode cX9_key 109 = .ok (.iconst 1, 1) := by decide +kernel
theorem dX9_key_110 : decode cX9_key 110 = .ok (.iadd, 1) := by decide +kernel
theorem dX9_key_111 : decode cX9_key 111 = .ok (.putfield 123, 3) := by decide +kernel
theorem dX9_key_114 : decode cX9_key 114 = .ok (.aload_n 0, 1) := by decide +kernel
theorem dX9_key_115 : decode cX9_key 115 = .ok (.getfield 123, 3) := by decide +kernel
theorem dX9_key_118 : decode cX9_key 118 = .ok (.ireturn, 1) := by decide +kernel
theorem dX9_eased_0 : decode cX9_eased 0 = .ok (.aload_n 0, 1) := by decide +kernel
theorem dX9_eased_1 : decode cX9_eased 1 = .ok (.iconst 0, 1) := by decide +kernel
theorem dX9_eased_2 : decode cX9_eased 2 = .ok (.putfield 52, 3) := by decide +kernel
theorem dX9_eased_5 : decode cX9_eased 5 = .ok (.iload_n 1, 1) := by decide +kernel
theorem dX9_eased_6 : decode cX9_eased 6 = .ok (.i2l, 1) := by decide +kernel
theorem dX9_eased_7 : decode cX9_eased 7 = .ok (.lconst 0, 1) := by decide +kernel
theorem dX9_eased_8 : decode cX9_eased 8 = .ok (.ldc2_w 80, 3) := by decide +kernel
theorem dX9_eased_11 : decode cX9_eased 11 = .ok (.invokestatic 62, 3) := by decide +kernel
theorem dX9_eased_14 : decode cX9_eased 14 = .ok (.ifCond .ne 6, 3) := by decide +kernel
theorem dX9_eased_17 : decode cX9_eased 17 = .ok (.ldc 72, 2) := by decide +kernel
theorem dX9_eased_19 : decode cX9_eased 19 = .ok (.ireturn, 1) := by decide +kernel
theorem dX9_eased_20 : decode cX9_eased 20 = .ok (.aload_n 0, 1) := by decide +kernel
theorem dX9_eased_21 : decode cX9_eased 21 = .ok (.getfield 123, 3) := by decide +kernel
theorem dX9_eased_24 : decode cX9_eased 24 = .ok (.ifCond .ne 5, 3) := by decide +kernel
theorem dX9_eased_27 : decode cX9_eased 27 = .ok (.iload_n 1, 1) := by decide +kernel
theorem dX9_eased_28 : decode cX9_eased 28 = .ok (.ireturn, 1) := by decide +kernel
theorem dX9_eased_29 : decode cX9_eased 29 = .ok (.iload_n 1, 1) := by decide +kernel
theorem dX9_eased_30 : decode cX9_eased 30 = .ok (.aload_n 0, 1) := by decide +kernel
theorem dX9_eased_31 : decode cX9_eased 31 = .ok (.getfield 25, 3) := by decide +kernel
theorem dX9_eased_34 : decode cX9_eased 34 = .ok (.iconst 0, 1) := by decide +kernel
theorem dX9_eased_35 : decode cX9_eased 35 = .ok (.iaload, 1) := by decide +kernel
theorem dX9_eased_36 : decode cX9_eased 36 = .ok (.if_icmp .gt 10, 3) := by decide +kernel
theorem dX9_eased_39 : decode cX9_eased 39 = .ok (.aload_n 0, 1) := by decide +kernel
theorem dX9_eased_40 : decode cX9_eased 40 = .ok (.getfield 28, 3) := by decide +kernel
theorem dX9_eased_43 : decode cX9_eased 43 = .ok (.iconst 0, 1) := by decide +kernel
theorem dX9_eased_44 : decode cX9_eased 44 = .ok (.iaload, 1) := by decide +kernel
theorem dX9_eased_45 : decode cX9_eased 45 = .ok (.ireturn, 1) := by decide +kernel
theorem dX9_eased_46 : decode cX9_eased 46 = .ok (.iconst 1, 1) := by decide +kernel
theorem dX9_eased_47 : decode cX9_eased 47 = .ok (.istore_n 2, 1) := by decide +kernel
theorem dX9_eased_48 : decode cX9_eased 48 = .ok (.iload_n 2, 1) := by decide +kernel
theorem dX9_eased_49 : decode cX9_eased 49 = .ok (.aload_n 0, 1) := by decide +kernel
theorem dX9_eased_50 : decode cX9_eased 50 = .ok (.getfield 123, 3) := by decide +kernel
theorem dX9_eased_53 : decode cX9_eased 53 = .ok (.if_icmp .ge 71, 3) := by decide +kernel
theorem dX9_eased_56 : decode cX9_eased 56 = .ok (.iload_n 1, 1) := by decide +kernel
theorem dX9_eased_57 : decode cX9_eased 57 = .ok (.aload_n 0, 1) := by decide +kernel
theorem dX9_eased_58 : decode cX9_eased 58 = .ok (.getfield 25, 3) := by decide +kernel
theorem dX9_eased_61 : decode cX9_eased 61 = .ok (.iload_n 2, 1) := by decide +kernel
theorem dX9_eased_62 : decode cX9_eased 62 = .ok (.iaload, 1) := by decide +kernel
theorem dX9_eased_63 : decode cX9_eased 63 = .ok (.if_icmp .gt 55, 3) := by decide +kernel
theorem dX9_eased_66 : decode cX9_eased 66 = .ok (.aload_n 0, 1) := by decide +kernel
theorem dX9_eased_67 : decode cX9_eased 67 = .ok (.getfield 28, 3) := by decide +kernel
theorem dX9_eased_70 : decode cX9_eased 70 = .ok (.iload_n 2, 1) := by decide +kernel
theorem dX9_eased_71 : decode cX9_eased 71 = .ok (.iconst 1, 1) := by decide +kernel
theorem dX9_eased_72 : decode cX9_eased 72 = .ok (.isub, 1) := by decide +kernel
theorem dX9_eased_73 : decode cX9_eased 73 = .ok (.iaload, 1) := by decide +kernel
theorem dX9_eased_74 : decode cX9_eased 74 = .ok (.aload_n 0, 1) := by decide +kernel
theorem dX9_eased_75 : decode cX9_eased 75 = .ok (.getfield 28, 3) := by decide +kernel
theorem dX9_eased_78 : decode cX9_eased 78 = .ok (.iload_n 2, 1) := by decide +kernel
theorem dX9_eased_79 : decode cX9_eased 79 = .ok (.iaload, 1) := by decide +kernel
theorem dX9_eased_80 : decode cX9_eased 80 = .ok (.aload_n 0, 1) := by decide +kernel
theorem dX9_eased_81 : decode cX9_eased 81 = .ok (.getfield 28, 3) := by decide +kernel
theorem dX9_eased_84 : decode cX9_eased 84 = .ok (.iload_n 2, 1) := by decide +kernel
theorem dX9_eased_85 : decode cX9_eased 85 = .ok (.iconst 1, 1) := by decide +kernel
theorem dX9_eased_86 : decode cX9_eased 86 = .ok (.isub, 1) := by decide +kernel
theorem dX9_eased_87 : decode cX9_eased 87 = .ok (.iaload, 1) := by decide +kernel
theorem dX9_eased_88 : decode cX9_eased 88 = .ok (.isub, 1) := by decide +kernel
theorem dX9_eased_89 : decode cX9_eased 89 = .ok (.iload_n 1, 1) := by decide +kernel
theorem dX9_eased_90 : decode cX9_eased 90 = .ok (.aload_n 0, 1) := by decide +kernel
theorem dX9_eased_91 : decode cX9_eased 91 = .ok (.getfield 25, 3) := by decide +kernel
theorem dX9_eased_94 : decode cX9_eased 94 = .ok (.iload_n 2, 1) := by decide +kernel
theorem dX9_eased_95 : decode cX9_eased 95 = .ok (.iconst 1, 1) := by decide +kernel
theorem dX9_eased_96 : decode cX9_eased 96 = .ok (.isub, 1) := by decide +kernel
theorem dX9_eased_97 : decode cX9_eased 97 = .ok (.iaload, 1) := by decide +kernel
theorem dX9_eased_98 : decode cX9_eased 98 = .ok (.isub, 1) := by decide +kernel
theorem dX9_eased_99 : decode cX9_eased 99 = .ok (.imul, 1) := by decide +kernel
theorem dX9_eased_100 : decode cX9_eased 100 = .ok (.aload_n 0, 1) := by decide +kernel
theorem dX9_eased_101 : decode cX9_eased 101 = .ok (.getfield 25, 3) := by decide +kernel
theorem dX9_eased_104 : decode cX9_eased 104 = .ok (.iload_n 2, 1) := by decide +kernel
theorem dX9_eased_105 : decode cX9_eased 105 = .ok (.iaload, 1) := by decide +kernel
theorem dX9_eased_106 : decode cX9_eased 106 = .ok (.aload_n 0, 1) := by decide +kernel
theorem dX9_eased_107 : decode cX9_eased 107 = .ok (.getfield 25, 3) := by decide +kernel
theorem dX9_eased_110 : decode cX9_eased 110 = .ok (.iload_n 2, 1) := by decide +kernel
theorem dX9_eased_111 : decode cX9_eased 111 = .ok (.iconst 1, 1) := by decide +kernel
theorem dX9_eased_112 : decode cX9_eased 112 = .ok (.isub, 1) := by decide +kernel
theorem dX9_eased_113 : decode cX9_eased 113 = .ok (.iaload, 1) := by decide +kernel
theorem dX9_eased_114 : decode cX9_eased 114 = .ok (.isub, 1) := by decide +kernel
theorem dX9_eased_115 : decode cX9_eased 115 = .ok (.idiv, 1) := by decide +kernel
theorem dX9_eased_116 : decode cX9_eased 116 = .ok (.iadd, 1) := by decide +kernel
theorem dX9_eased_117 : decode cX9_eased 117 = .ok (.ireturn, 1) := by decide +kernel
theorem dX9_eased_118 : decode cX9_eased 118 = .ok (.iinc 2 1, 3) := by decide +kernel
theorem dX9_eased_121 : decode cX9_eased 121 = .ok (.goto (-73), 3) := by decide +kernel
theorem dX9_eased_124 : decode cX9_eased 124 = .ok (.aload_n 0, 1) := by decide +kernel
theorem dX9_eased_125 : decode cX9_eased 125 = .ok (.getfield 28, 3) := by decide +kernel
theorem dX9_eased_128 : decode cX9_eased 128 = .ok (.aload_n 0, 1) := by decide +kernel
theorem dX9_eased_129 : decode cX9_eased 129 = .ok (.getfield 123, 3) := by decide +kernel
theorem dX9_eased_132 : decode cX9_eased 132 = .ok (.iconst 1, 1) := by decide +kernel
theorem dX9_eased_133 : decode cX9_eased 133 = .ok (.isub, 1) := by decide +kernel
theorem dX9_eased_134 : decode cX9_eased 134 = .ok (.iaload, 1) := by decide +kernel
theorem dX9_eased_135 : decode cX9_eased 135 = .ok (.ireturn, 1) := by decide +kernel
theorem dX9_unkey_0 : decode cX9_unkey 0 = .ok (.aload_n 0, 1) := by decide +kernel
theorem dX9_unkey_1 : decode cX9_unkey 1 = .ok (.iconst 0, 1) := by decide +kernel
theorem dX9_unkey_2 : decode cX9_unkey 2 = .ok (.putfield 52, 3) := by decide +kernel
theorem dX9_unkey_5 : decode cX9_unkey 5 = .ok (.aload_n 0, 1) := by decide +kernel
theorem dX9_unkey_6 : decode cX9_unkey 6 = .ok (.getfield 123, 3) := by decide +kernel
theorem dX9_unkey_9 : decode cX9_unkey 9 = .ok (.istore_n 1, 1) := by decide +kernel
theorem dX9_unkey_10 : decode cX9_unkey 10 = .ok (.aload_n 0, 1) := by decide +kernel
theorem dX9_unkey_11 : decode cX9_unkey 11 = .ok (.iconst 0, 1) := by decide +kernel
theorem dX9_unkey_12 : decode cX9_unkey 12 = .ok (.putfield 123, 3) := by decide +kernel
theorem dX9_unkey_15 : decode cX9_unkey 15 = .ok (.iload_n 1, 1) := by decide +kernel
theorem dX9_unkey_16 : decode cX9_unkey 16 = .ok (.ireturn, 1) := by decide +kernel
theorem dX9_thirdAt_0 : decode cX9_thirdAt 0 = .ok (.iload_n 1, 1) := by decide +kernel
theorem dX9_thirdAt_1 : decode cX9_thirdAt 1 = .ok (.i2l, 1) := by decide +kernel
theorem dX9_thirdAt_2 : decode cX9_thirdAt 2 = .ok (.iload 4, 2) := by decide +kernel
theorem dX9_thirdAt_4 : decode cX9_thirdAt 4 = .ok (.i2l, 1) := by decide +kernel
theorem dX9_thirdAt_5 : decode cX9_thirdAt 5 = .ok (.lmul, 1) := by decide +kernel
theorem dX9_thirdAt_6 : decode cX9_thirdAt 6 = .ok (.lstore 5, 2) := by decide +kernel
theorem dX9_thirdAt_8 : decode cX9_thirdAt 8 = .ok (.iload_n 2, 1) := by decide +kernel
theorem dX9_thirdAt_9 : decode cX9_thirdAt 9 = .ok (.i2l, 1) := by decide +kernel
theorem dX9_thirdAt_10 : decode cX9_thirdAt 10 = .ok (.iload 4, 2) := by decide +kernel
theorem dX9_thirdAt_12 : decode cX9_thirdAt 12 = .ok (.i2l, 1) := by decide +kernel
theorem dX9_thirdAt_13 : decode cX9_thirdAt 13 = .ok (.lmul, 1) := by decide +kernel
theorem dX9_thirdAt_14 : decode cX9_thirdAt 14 = .ok (.lstore 7, 2) := by decide +kernel
theorem dX9_thirdAt_16 : decode cX9_thirdAt 16 = .ok (.iconst 0, 1) := by decide +kernel
theorem dX9_thirdAt_17 : decode cX9_thirdAt 17 = .ok (.istore 9, 2) := by decide +kernel
theorem dX9_thirdAt_19 : decode cX9_thirdAt 19 = .ok (.iload 9, 2) := by decide +kernel
theorem dX9_thirdAt_21 : decode cX9_thirdAt 21 = .ok (.aload_n 0, 1) := by decide +kernel
theorem dX9_thirdAt_22 : decode cX9_thirdAt 22 = .ok (.getfield 99, 3) := by decide +kernel
theorem dX9_thirdAt_25 : decode cX9_thirdAt 25 = .ok (.if_icmp .ge 225, 3) := by decide +kernel
theorem dX9_thirdAt_28 : decode cX9_thirdAt 28 = .ok (.aload_n 0, 1) := by decide +kernel
theorem dX9_thirdAt_29 : decode cX9_thirdAt 29 = .ok (.getfield 22, 3) := by decide +kernel
theorem dX9_thirdAt_32 : decode cX9_thirdAt 32 = .ok (.iconst 3, 1) := by decide +kernel
theorem dX9_thirdAt_33 : decode cX9_thirdAt 33 = .ok (.iload 9, 2) := by decide +kernel
theorem dX9_thirdAt_35 : decode cX9_thirdAt 35 = .ok (.imul, 1) := by decide +kernel
theorem dX9_thirdAt_36 : decode cX9_thirdAt 36 = .ok (.iaload, 1) := by decide +kernel
theorem dX9_thirdAt_37 : decode cX9_thirdAt 37 = .ok (.istore 10, 2) := by decide +kernel
theorem dX9_thirdAt_39 : decode cX9_thirdAt 39 = .ok (.aload_n 0, 1) := by decide +kernel
theorem dX9_thirdAt_40 : decode cX9_thirdAt 40 = .ok (.getfield 22, 3) := by decide +kernel
theorem dX9_thirdAt_43 : decode cX9_thirdAt 43 = .ok (.iconst 3, 1) := by decide +kernel
theorem dX9_thirdAt_44 : decode cX9_thirdAt 44 = .ok (.iload 9, 2) := by decide +kernel
theorem dX9_thirdAt_46 : decode cX9_thirdAt 46 = .ok (.imul, 1) := by decide +kernel
theorem dX9_thirdAt_47 : decode cX9_thirdAt 47 = .ok (.iconst 1, 1) := by decide +kernel
theorem dX9_thirdAt_48 : decode cX9_thirdAt 48 = .ok (.iadd, 1) := by decide +kernel
theorem dX9_thirdAt_49 : decode cX9_thirdAt 49 = .ok (.iaload, 1) := by decide +kernel
theorem dX9_thirdAt_50 : decode cX9_thirdAt 50 = .ok (.istore 11, 2) := by decide +kernel
theorem dX9_thirdAt_52 : decode cX9_thirdAt 52 = .ok (.aload_n 0, 1) := by decide +kernel
theorem dX9_thirdAt_53 : decode cX9_thirdAt 53 = .ok (.getfield 22, 3) := by decide +kernel
theorem dX9_thirdAt_56 : decode cX9_thirdAt 56 = .ok (.iconst 3, 1) := by decide +kernel
theorem dX9_thirdAt_57 : decode cX9_thirdAt 57 = .ok (.iload 9, 2) := by decide +kernel
theorem dX9_thirdAt_59 : decode cX9_thirdAt 59 = .ok (.imul, 1) := by decide +kernel
theorem dX9_thirdAt_60 : decode cX9_thirdAt 60 = .ok (.iconst 2, 1) := by decide +kernel
theorem dX9_thirdAt_61 : decode cX9_thirdAt 61 = .ok (.iadd, 1) := by decide +kernel
theorem dX9_thirdAt_62 : decode cX9_thirdAt 62 = .ok (.iaload, 1) := by decide +kernel
theorem dX9_thirdAt_63 : decode cX9_thirdAt 63 = .ok (.istore 12, 2) := by decide +kernel
theorem dX9_thirdAt_65 : decode cX9_thirdAt 65 = .ok (.aload_n 0, 1) := by decide +kernel
theorem dX9_thirdAt_66 : decode cX9_thirdAt 66 = .ok (.iload 10, 2) := by decide +kernel
theorem dX9_thirdAt_68 : decode cX9_thirdAt 68 = .ok (.iload_n 3, 1) := by decide +kernel
theorem dX9_thirdAt_69 : decode cX9_thirdAt 69 = .ok (.iload 4, 2) := by decide +kernel
theorem dX9_thirdAt_71 : decode cX9_thirdAt 71 = .ok (.iconst 0, 1) := by decide +kernel
theorem dX9_thirdAt_72 : decode cX9_thirdAt 72 = .ok (.invokevirtual 95, 3) := by decide +kernel
theorem dX9_thirdAt_75 : decode cX9_thirdAt 75 = .ok (.i2l, 1) := by decide +kernel
theorem dX9_thirdAt_76 : decode cX9_thirdAt 76 = .ok (.lstore 13, 2) := by decide +kernel
theorem dX9_thirdAt_78 : decode cX9_thirdAt 78 = .ok (.aload_n 0, 1) := by decide +kernel
theorem dX9_thirdAt_79 : decode cX9_thirdAt 79 = .ok (.iload 10, 2) := by decide +kernel
theorem dX9_thirdAt_81 : decode cX9_thirdAt 81 = .ok (.iload_n 3, 1) := by decide +kernel
theorem dX9_thirdAt_82 : decode cX9_thirdAt 82 = .ok (.iload 4, 2) := by decide +kernel
theorem dX9_thirdAt_84 : decode cX9_thirdAt 84 = .ok (.iconst 1, 1) := by decide +kernel
theorem dX9_thirdAt_85 : decode cX9_thirdAt 85 = .ok (.invokevirtual 95, 3) := by decide +kernel
theorem dX9_thirdAt_88 : decode cX9_thirdAt 88 = .ok (.i2l, 1) := by decide +kernel
theorem dX9_thirdAt_89 : decode cX9_thirdAt 89 = .ok (.lstore 15, 2) := by decide +kernel
theorem dX9_thirdAt_91 : decode cX9_thirdAt 91 = .ok (.aload_n 0, 1) := by decide +kernel
theorem dX9_thirdAt_92 : decode cX9_thirdAt 92 = .ok (.iload 11, 2) := by decide +kernel
theorem dX9_thirdAt_94 : decode cX9_thirdAt 94 = .ok (.iload_n 3, 1) := by decide +kernel
theorem dX9_thirdAt_95 : decode cX9_thirdAt 95 = .ok (.iload 4, 2) := by decide +kernel
theorem dX9_thirdAt_97 : decode cX9_thirdAt 97 = .ok (.iconst 0, 1) := by decide +kernel
theorem dX9_thirdAt_98 : decode cX9_thirdAt 98 = .ok (.invokevirtual 95, 3) := by decide +kernel
theorem dX9_thirdAt_101 : decode cX9_thirdAt 101 = .ok (.i2l, 1) := by decide +kernel
theorem dX9_thirdAt_102 : decode cX9_thirdAt 102 = .ok (.lstore 17, 2) := by decide +kernel
theorem dX9_thirdAt_104 : decode cX9_thirdAt 104 = .ok (.aload_n 0, 1) := by decide +kernel
theorem dX9_thirdAt_105 : decode cX9_thirdAt 105 = .ok (.iload 11, 2) := by decide +kernel
theorem dX9_thirdAt_107 : decode cX9_thirdAt 107 = .ok (.iload_n 3, 1) := by decide +kernel
theorem dX9_thirdAt_108 : decode cX9_thirdAt 108 = .ok (.iload 4, 2) := by decide +kernel
theorem dX9_thirdAt_110 : decode cX9_thirdAt 110 = .ok (.iconst 1, 1) := by decide +kernel
theorem dX9_thirdAt_111 : decode cX9_thirdAt 111 = .ok (.invokevirtual 95, 3) := by decide +kernel
theorem dX9_thirdAt_114 : decode cX9_thirdAt 114 = .ok (.i2l, 1) := by decide +kernel
theorem dX9_thirdAt_115 : decode cX9_thirdAt 115 = .ok (.lstore 19, 2) := by decide +kernel
theorem dX9_thirdAt_117 : decode cX9_thirdAt 117 = .ok (.aload_n 0, 1) := by decide +kernel
theorem dX9_thirdAt_118 : decode cX9_thirdAt 118 = .ok (.iload 12, 2) := by decide +kernel
theorem dX9_thirdAt_120 : decode cX9_thirdAt 120 = .ok (.iload_n 3, 1) := by decide +kernel
theorem dX9_thirdAt_121 : decode cX9_thirdAt 121 = .ok (.iload 4, 2) := by decide +kernel
theorem dX9_thirdAt_123 : decode cX9_thirdAt 123 = .ok (.iconst 0, 1) := by decide +kernel
theorem dX9_thirdAt_124 : decode cX9_thirdAt 124 = .ok (.invokevirtual 95, 3) := by decide +kernel
theorem dX9_thirdAt_127 : decode cX9_thirdAt 127 = .ok (.i2l, 1) := by decide +kernel
theorem dX9_thirdAt_128 : decode cX9_thirdAt 128 = .ok (.lstore 21, 2) := by decide +kernel
theorem dX9_thirdAt_130 : decode cX9_thirdAt 130 = .ok (.aload_n 0, 1) := by decide +kernel
theorem dX9_thirdAt_131 : decode cX9_thirdAt 131 = .ok (.iload 12, 2) := by decide +kernel
theorem dX9_thirdAt_133 : decode cX9_thirdAt 133 = .ok (.iload_n 3, 1) := by decide +kernel
theorem dX9_thirdAt_134 : decode cX9_thirdAt 134 = .ok (.iload 4, 2) := by decide +kernel
theorem dX9_thirdAt_136 : decode cX9_thirdAt 136 = .ok (.iconst 1, 1) := by decide +kernel
theorem dX9_thirdAt_137 : decode cX9_thirdAt 137 = .ok (.invokevirtual 95, 3) := by decide +kernel
theorem dX9_thirdAt_140 : decode cX9_thirdAt 140 = .ok (.i2l, 1) := by decide +kernel
theorem dX9_thirdAt_141 : decode cX9_thirdAt 141 = .ok (.lstore 23, 2) := by decide +kernel
theorem dX9_thirdAt_143 : decode cX9_thirdAt 143 = .ok (.aload_n 0, 1) := by decide +kernel
theorem dX9_thirdAt_144 : decode cX9_thirdAt 144 = .ok (.lload 5, 2) := by decide +kernel
theorem dX9_thirdAt_146 : decode cX9_thirdAt 146 = .ok (.lload 7, 2) := by decide +kernel
theorem dX9_thirdAt_148 : decode cX9_thirdAt 148 = .ok (.lload 17, 2) := by decide +kernel
theorem dX9_thirdAt_150 : decode cX9_thirdAt 150 = .ok (.lload 19, 2) := by decide +kernel
theorem dX9_thirdAt_152 : decode cX9_thirdAt 152 = .ok (.lload 21, 2) := by decide +kernel
theorem dX9_thirdAt_154 : decode cX9_thirdAt 154 = .ok (.lload 23, 2) := by decide +kernel
theorem dX9_thirdAt_156 : decode cX9_thirdAt 156 = .ok (.invokestatic 103, 3) := by decide +kernel
theorem dX9_thirdAt_159 : decode cX9_thirdAt 159 = .ok (.putfield 126, 3) := by decide +kernel
theorem dX9_thirdAt_162 : decode cX9_thirdAt 162 = .ok (.aload_n 0, 1) := by decide +kernel
theorem dX9_thirdAt_163 : decode cX9_thirdAt 163 = .ok (.lload 13, 2) := by decide +kernel
theorem dX9_thirdAt_165 : decode cX9_thirdAt 165 = .ok (.lload 15, 2) := by decide +kernel
theorem dX9_thirdAt_167 : decode cX9_thirdAt 167 = .ok (.lload 5, 2) := by decide +kernel
theorem dX9_thirdAt_169 : decode cX9_thirdAt 169 = .ok (.lload 7, 2) := by decide +kernel
theorem dX9_thirdAt_171 : decode cX9_thirdAt 171 = .ok (.lload 21, 2) := by decide +kernel
theorem dX9_thirdAt_173 : decode cX9_thirdAt 173 = .ok (.lload 23, 2) := by decide +kernel
theorem dX9_thirdAt_175 : decode cX9_thirdAt 175 = .ok (.invokestatic 103, 3) := by decide +kernel
theorem dX9_thirdAt_178 : decode cX9_thirdAt 178 = .ok (.putfield 130, 3) := by decide +kernel
theorem dX9_thirdAt_181 : decode cX9_thirdAt 181 = .ok (.aload_n 0, 1) := by decide +kernel
theorem dX9_thirdAt_182 : decode cX9_thirdAt 182 = .ok (.lload 13, 2) := by decide +kernel
theorem dX9_thirdAt_184 : decode cX9_thirdAt 184 = .ok (.lload 15, 2) := by decide +kernel
theorem dX9_thirdAt_186 : decode cX9_thirdAt 186 = .ok (.lload 17, 2) := by decide +kernel
theorem dX9_thirdAt_188 : decode cX9_thirdAt 188 = .ok (.lload 19, 2) := by decide +kernel
theorem dX9_thirdAt_190 : decode cX9_thirdAt 190 = .ok (.lload 5, 2) := by decide +kernel
theorem dX9_thirdAt_192 : decode cX9_thirdAt 192 = .ok (.lload 7, 2) := by decide +kernel
theorem dX9_thirdAt_194 : decode cX9_thirdAt 194 = .ok (.invokestatic 103, 3) := by decide +kernel
theorem dX9_thirdAt_197 : decode cX9_thirdAt 197 = .ok (.putfield 133, 3) := by decide +kernel
theorem dX9_thirdAt_200 : decode cX9_thirdAt 200 = .ok (.aload_n 0, 1) := by decide +kernel
theorem dX9_thirdAt_201 : decode cX9_thirdAt 201 = .ok (.iload 9, 2) := by decide +kernel
theorem dX9_thirdAt_203 : decode cX9_thirdAt 203 = .ok (.iload_n 3, 1) := by decide +kernel
theorem dX9_thirdAt_204 : decode cX9_thirdAt 204 = .ok (.iload 4, 2) := by decide +kernel
theorem dX9_thirdAt_206 : decode cX9_thirdAt 206 = .ok (.invokevirtual 112, 3) := by decide +kernel
theorem dX9_thirdAt_209 : decode cX9_thirdAt 209 = .ok (.lconst 0, 1) := by decide +kernel
theorem dX9_thirdAt_210 : decode cX9_thirdAt 210 = .ok (.lcmp, 1) := by decide +kernel
theorem dX9_thirdAt_211 : decode cX9_thirdAt 211 = .ok (.ifCond .le 33, 3) := by decide +kernel
theorem dX9_thirdAt_214 : decode cX9_thirdAt 214 = .ok (.aload_n 0, 1) := by decide +kernel
theorem dX9_thirdAt_215 : decode cX9_thirdAt 215 = .ok (.getfield 126, 3) := by decide +kernel
theorem dX9_thirdAt_218 : decode cX9_thirdAt 218 = .ok (.lconst 0, 1) := by decide +kernel
theorem dX9_thirdAt_219 : decode cX9_thirdAt 219 = .ok (.lcmp, 1) := by decide +kernel
theorem dX9_thirdAt_220 : decode cX9_thirdAt 220 = .ok (.ifCond .lt 24, 3) := by decide +kernel
theorem dX9_thirdAt_223 : decode cX9_thirdAt 223 = .ok (.aload_n 0, 1) := by decide +kernel
theorem dX9_thirdAt_224 : decode cX9_thirdAt 224 = .ok (.getfield 130, 3) := by decide +kernel
theorem dX9_thirdAt_227 : decode cX9_thirdAt 227 = .ok (.lconst 0, 1) := by decide +kernel
theorem dX9_thirdAt_228 : decode cX9_thirdAt 228 = .ok (.lcmp, 1) := by decide +kernel
theorem dX9_thirdAt_229 : decode cX9_thirdAt 229 = .ok (.ifCond .lt 15, 3) := by decide +kernel
theorem dX9_thirdAt_232 : decode cX9_thirdAt 232 = .ok (.aload_n 0, 1) := by decide +kernel
theorem dX9_thirdAt_233 : decode cX9_thirdAt 233 = .ok (.getfield 133, 3) := by decide +kernel
theorem dX9_thirdAt_236 : decode cX9_thirdAt 236 = .ok (.lconst 0, 1) := by decide +kernel
theorem dX9_thirdAt_237 : decode cX9_thirdAt 237 = .ok (.lcmp, 1) := by decide +kernel
theorem dX9_thirdAt_238 : decode cX9_thirdAt 238 = .ok (.ifCond .lt 6, 3) := by decide +kernel
theorem dX9_thirdAt_241 : decode cX9_thirdAt 241 = .ok (.iload 9, 2) := by decide +kernel
theorem dX9_thirdAt_243 : decode cX9_thirdAt 243 = .ok (.ireturn, 1) := by decide +kernel
theorem dX9_thirdAt_244 : decode cX9_thirdAt 244 = .ok (.iinc 9 1, 3) := by decide +kernel
theorem dX9_thirdAt_247 : decode cX9_thirdAt 247 = .ok (.goto (-228), 3) := by decide +kernel
theorem dX9_thirdAt_250 : decode cX9_thirdAt 250 = .ok (.ldc 116, 2) := by decide +kernel
theorem dX9_thirdAt_252 : decode cX9_thirdAt 252 = .ok (.ireturn, 1) := by decide +kernel
theorem dX9_in_0 : decode cX9_in 0 = .ok (.aload_n 0, 1) := by decide +kernel
theorem dX9_in_1 : decode cX9_in 1 = .ok (.iconst 0, 1) := by decide +kernel
theorem dX9_in_2 : decode cX9_in 2 = .ok (.putfield 52, 3) := by decide +kernel
theorem dX9_in_5 : decode cX9_in 5 = .ok (.iload_n 1, 1) := by decide +kernel
theorem dX9_in_6 : decode cX9_in 6 = .ok (.iload_n 2, 1) := by decide +kernel
theorem dX9_in_7 : decode cX9_in 7 = .ok (.invokestatic 84, 3) := by decide +kernel
theorem dX9_in_10 : decode cX9_in 10 = .ok (.ifCond .eq 12, 3) := by decide +kernel
theorem dX9_in_13 : decode cX9_in 13 = .ok (.iload_n 3, 1) := by decide +kernel
theorem dX9_in_14 : decode cX9_in 14 = .ok (.iload 4, 2) := by decide +kernel
theorem dX9_in_16 : decode cX9_in 16 = .ok (.invokestatic 92, 3) := by decide +kernel
theorem dX9_in_19 : decode cX9_in 19 = .ok (.ifCond .ne 8, 3) := by decide +kernel
theorem dX9_in_22 : decode cX9_in 22 = .ok (.ldc 72, 2) := by decide +kernel
theorem dX9_in_24 : decode cX9_in 24 = .ok (.goto 12, 3) := by decide +kernel
theorem dX9_in_27 : decode cX9_in 27 = .ok (.aload_n 0, 1) := by decide +kernel
theorem dX9_in_28 : decode cX9_in 28 = .ok (.iload_n 1, 1) := by decide +kernel
theorem dX9_in_29 : decode cX9_in 29 = .ok (.iload_n 2, 1) := by decide +kernel
theorem dX9_in_30 : decode cX9_in 30 = .ok (.iload_n 3, 1) := by decide +kernel
theorem dX9_in_31 : decode cX9_in 31 = .ok (.iload 4, 2) := by decide +kernel
theorem dX9_in_33 : decode cX9_in 33 = .ok (.invokevirtual 136, 3) := by decide +kernel
theorem dX9_in_36 : decode cX9_in 36 = .ok (.ireturn, 1) := by decide +kernel
theorem dX9_fromBy_0 : decode cX9_fromBy 0 = .ok (.aload_n 0, 1) := by decide +kernel
theorem dX9_fromBy_1 : decode cX9_fromBy 1 = .ok (.getfield 126, 3) := by decide +kernel
theorem dX9_fromBy_4 : decode cX9_fromBy 4 = .ok (.aload_n 0, 1) := by decide +kernel
theorem dX9_fromBy_5 : decode cX9_fromBy 5 = .ok (.getfield 19, 3) := by decide +kernel
theorem dX9_fromBy_8 : decode cX9_fromBy 8 = .ok (.iconst 4, 1) := by decide +kernel
theorem dX9_fromBy_9 : decode cX9_fromBy 9 = .ok (.aload_n 0, 1) := by decide +kernel
theorem dX9_fromBy_10 : decode cX9_fromBy 10 = .ok (.getfield 22, 3) := by decide +kernel
theorem dX9_fromBy_13 : decode cX9_fromBy 13 = .ok (.iconst 3, 1) := by decide +kernel
theorem dX9_fromBy_14 : decode cX9_fromBy 14 = .ok (.iload_n 1, 1) := by decide +kernel
theorem dX9_fromBy_15 : decode cX9_fromBy 15 = .ok (.imul, 1) := by decide +kernel
theorem dX9_fromBy_16 : decode cX9_fromBy 16 = .ok (.iaload, 1) := by decide +kernel
theorem dX9_fromBy_17 : decode cX9_fromBy 17 = .ok (.imul, 1) := by decide +kernel
theorem dX9_fromBy_18 : decode cX9_fromBy 18 = .ok (.iload_n 2, 1) := by decide +kernel
theorem dX9_fromBy_19 : decode cX9_fromBy 19 = .ok (.iadd, 1) := by decide +kernel
theorem dX9_fromBy_20 : decode cX9_fromBy 20 = .ok (.iaload, 1) := by decide +kernel
theorem dX9_fromBy_21 : decode cX9_fromBy 21 = .ok (.i2l, 1) := by decide +kernel
theorem dX9_fromBy_22 : decode cX9_fromBy 22 = .ok (.lmul, 1) := by decide +kernel
theorem dX9_fromBy_23 : decode cX9_fromBy 23 = .ok (.aload_n 0, 1) := by decide +kernel
theorem dX9_fromBy_24 : decode cX9_fromBy 24 = .ok (.getfield 130, 3) := by decide +kernel
theorem dX9_fromBy_27 : decode cX9_fromBy 27 = .ok (.aload_n 0, 1) := by decide +kernel
theorem dX9_fromBy_28 : decode cX9_fromBy 28 = .ok (.getfield 19, 3) := by decide +kernel
theorem dX9_fromBy_31 : decode cX9_fromBy 31 = .ok (.iconst 4, 1) := by decide +kernel
theorem dX9_fromBy_32 : decode cX9_fromBy 32 = .ok (.aload_n 0, 1) := by decide +kernel
theorem dX9_fromBy_33 : decode cX9_fromBy 33 = .ok (.getfield 22, 3) := by decide +kernel
theorem dX9_fromBy_36 : decode cX9_fromBy 36 = .ok (.iconst 3, 1) := by decide +kernel
theorem dX9_fromBy_37 : decode cX9_fromBy 37 = .ok (.iload_n 1, 1) := by decide +kernel
theorem dX9_fromBy_38 : decode cX9_fromBy 38 = .ok (.imul, 1) := by decide +kernel
theorem dX9_fromBy_39 : decode cX9_fromBy 39 = .ok (.iconst 1, 1) := by decide +kernel
theorem dX9_fromBy_40 : decode cX9_fromBy 40 = .ok (.iadd, 1) := by decide +kernel
theorem dX9_fromBy_41 : decode cX9_fromBy 41 = .ok (.iaload, 1) := by decide +kernel
theorem dX9_fromBy_42 : decode cX9_fromBy 42 = .ok (.imul, 1) := by decide +kernel
theorem dX9_fromBy_43 : decode cX9_fromBy 43 = .ok (.iload_n 2, 1) := by decide +kernel
theorem dX9_fromBy_44 : decode cX9_fromBy 44 = .ok (.iadd, 1) := by decide +kernel
theorem dX9_fromBy_45 : decode cX9_fromBy 45 = .ok (.iaload, 1) := by decide +kernel
theorem dX9_fromBy_46 : decode cX9_fromBy 46 = .ok (.i2l, 1) := by decide +kernel
theorem dX9_fromBy_47 : decode cX9_fromBy 47 = .ok (.lmul, 1) := by decide +kernel
theorem dX9_fromBy_48 : decode cX9_fromBy 48 = .ok (.ladd, 1) := by decide +kernel
theorem dX9_fromBy_49 : decode cX9_fromBy 49 = .ok (.aload_n 0, 1) := by decide +kernel
theorem dX9_fromBy_50 : decode cX9_fromBy 50 = .ok (.getfield 133, 3) := by decide +kernel
theorem dX9_fromBy_53 : decode cX9_fromBy 53 = .ok (.aload_n 0, 1) := by decide +kernel
theorem dX9_fromBy_54 : decode cX9_fromBy 54 = .ok (.getfield 19, 3) := by decide +kernel
theorem dX9_fromBy_57 : decode cX9_fromBy 57 = .ok (.iconst 4, 1) := by decide +kernel
theorem dX9_fromBy_58 : decode cX9_fromBy 58 = .ok (.aload_n 0, 1) := by decide +kernel
theorem dX9_fromBy_59 : decode cX9_fromBy 59 = .ok (.getfield 22, 3) := by decide +kernel
theorem dX9_fromBy_62 : decode cX9_fromBy 62 = .ok (.iconst 3, 1) := by decide +kernel
theorem dX9_fromBy_63 : decode cX9_fromBy 63 = .ok (.iload_n 1, 1) := by decide +kernel
theorem dX9_fromBy_64 : decode cX9_fromBy 64 = .ok (.imul, 1) := by decide +kernel
theorem dX9_fromBy_65 : decode cX9_fromBy 65 = .ok (.iconst 2, 1) := by decide +kernel
theorem dX9_fromBy_66 : decode cX9_fromBy 66 = .ok (.iadd, 1) := by decide +kernel
theorem dX9_fromBy_67 : decode cX9_fromBy 67 = .ok (.iaload, 1) := by decide +kernel
theorem dX9_fromBy_68 : decode cX9_fromBy 68 = .ok (.imul, 1) := by decide +kernel
theorem dX9_fromBy_69 : decode cX9_fromBy 69 = .ok (.iload_n 2, 1) := by decide +kernel
theorem dX9_fromBy_70 : decode cX9_fromBy 70 = .ok (.iadd, 1) := by decide +kernel
theorem dX9_fromBy_71 : decode cX9_fromBy 71 = .ok (.iaload, 1) := by decide +kernel
theorem dX9_fromBy_72 : decode cX9_fromBy 72 = .ok (.i2l, 1) := by decide +kernel
theorem dX9_fromBy_73 : decode cX9_fromBy 73 = .ok (.lmul, 1) := by decide +kernel
theorem dX9_fromBy_74 : decode cX9_fromBy 74 = .ok (.ladd, 1) := by decide +kernel
theorem dX9_fromBy_75 : decode cX9_fromBy 75 = .ok (.lstore_n 3, 1) := by decide +kernel
theorem dX9_fromBy_76 : decode cX9_fromBy 76 = .ok (.lload_n 3, 1) := by decide +kernel
theorem dX9_fromBy_77 : decode cX9_fromBy 77 = .ok (.aload_n 0, 1) := by decide +kernel
theorem dX9_fromBy_78 : decode cX9_fromBy 78 = .ok (.getfield 126, 3) := by decide +kernel
theorem dX9_fromBy_81 : decode cX9_fromBy 81 = .ok (.aload_n 0, 1) := by decide +kernel
theorem dX9_fromBy_82 : decode cX9_fromBy 82 = .ok (.getfield 130, 3) := by decide +kernel
theorem dX9_fromBy_85 : decode cX9_fromBy 85 = .ok (.ladd, 1) := by decide +kernel
theorem dX9_fromBy_86 : decode cX9_fromBy 86 = .ok (.aload_n 0, 1) := by decide +kernel
theorem dX9_fromBy_87 : decode cX9_fromBy 87 = .ok (.getfield 133, 3) := by decide +kernel
theorem dX9_fromBy_90 : decode cX9_fromBy 90 = .ok (.ladd, 1) := by decide +kernel
theorem dX9_fromBy_91 : decode cX9_fromBy 91 = .ok (.ldiv, 1) := by decide +kernel
theorem dX9_fromBy_92 : decode cX9_fromBy 92 = .ok (.l2i, 1) := by decide +kernel
theorem dX9_fromBy_93 : decode cX9_fromBy 93 = .ok (.ireturn, 1) := by decide +kernel
theorem dX9_from_0 : decode cX9_from 0 = .ok (.aload_n 0, 1) := by decide +kernel
theorem dX9_from_1 : decode cX9_from 1 = .ok (.iconst 0, 1) := by decide +kernel
theorem dX9_from_2 : decode cX9_from 2 = .ok (.putfield 52, 3) := by decide +kernel
theorem dX9_from_5 : decode cX9_from 5 = .ok (.iload_n 1, 1) := by decide +kernel
theorem dX9_from_6 : decode cX9_from 6 = .ok (.iload_n 2, 1) := by decide +kernel
theorem dX9_from_7 : decode cX9_from 7 = .ok (.invokestatic 84, 3) := by decide +kernel
theorem dX9_from_10 : decode cX9_from 10 = .ok (.ifCond .eq 25, 3) := by decide +kernel
theorem dX9_from_13 : decode cX9_from 13 = .ok (.iload_n 3, 1) := by decide +kernel
theorem dX9_from_14 : decode cX9_from 14 = .ok (.iload 4, 2) := by decide +kernel
theorem dX9_from_16 : decode cX9_from 16 = .ok (.invokestatic 92, 3) := by decide +kernel
theorem dX9_from_19 : decode cX9_from 19 = .ok (.ifCond .eq 16, 3) := by decide +kernel
theorem dX9_from_22 : decode cX9_from 22 = .ok (.iload 5, 2) := by decide +kernel
theorem dX9_from_24 : decode cX9_from 24 = .ok (.i2l, 1) := by decide +kernel
theorem dX9_from_25 : decode cX9_from 25 = .ok (.lconst 0, 1) := by decide +kernel
theorem dX9_from_26 : decode cX9_from 26 = .ok (.ldc2_w 139, 3) := by decide +kernel
theorem dX9_from_29 : decode cX9_from 29 = .ok (.invokestatic 62, 3) := by decide +kernel
theorem dX9_from_32 : decode cX9_from 32 = .ok (.ifCond .ne 6, 3) := by decide +kernel
theorem dX9_from_35 : decode cX9_from 35 = .ok (.ldc 72, 2) := by decide +kernel
theorem dX9_from_37 : decode cX9_from 37 = .ok (.ireturn, 1) := by decide +kernel
theorem dX9_from_38 : decode cX9_from 38 = .ok (.aload_n 0, 1) := by decide +kernel
theorem dX9_from_39 : decode cX9_from 39 = .ok (.iload_n 1, 1) := by decide +kernel
theorem dX9_from_40 : decode cX9_from 40 = .ok (.iload_n 2, 1) := by decide +kernel
theorem dX9_from_41 : decode cX9_from 41 = .ok (.iload_n 3, 1) := by decide +kernel
theorem dX9_from_42 : decode cX9_from 42 = .ok (.iload 4, 2) := by decide +kernel
theorem dX9_from_44 : decode cX9_from 44 = .ok (.invokevirtual 136, 3) := by decide +kernel
theorem dX9_from_47 : decode cX9_from 47 = .ok (.istore 6, 2) := by decide +kernel
theorem dX9_from_49 : decode cX9_from 49 = .ok (.iload 6, 2) := by decide +kernel
theorem dX9_from_51 : decode cX9_from 51 = .ok (.ldc 116, 2) := by decide +kernel
theorem dX9_from_53 : decode cX9_from 53 = .ok (.if_icmp .ne 8, 3) := by decide +kernel
theorem dX9_from_56 : decode cX9_from 56 = .ok (.ldc 116, 2) := by decide +kernel
theorem dX9_from_58 : decode cX9_from 58 = .ok (.goto 11, 3) := by decide +kernel
theorem dX9_from_61 : decode cX9_from 61 = .ok (.aload_n 0, 1) := by decide +kernel
theorem dX9_from_62 : decode cX9_from 62 = .ok (.iload 6, 2) := by decide +kernel
theorem dX9_from_64 : decode cX9_from 64 = .ok (.iload 5, 2) := by decide +kernel
theorem dX9_from_66 : decode cX9_from 66 = .ok (.invokevirtual 141, 3) := by decide +kernel
theorem dX9_from_69 : decode cX9_from 69 = .ok (.ireturn, 1) := by decide +kernel
theorem dX9_picture_0 : decode cX9_picture 0 = .ok (.aload_n 0, 1) := by decide +kernel
theorem dX9_picture_1 : decode cX9_picture 1 = .ok (.iconst 0, 1) := by decide +kernel
theorem dX9_picture_2 : decode cX9_picture 2 = .ok (.putfield 52, 3) := by decide +kernel
theorem dX9_picture_5 : decode cX9_picture 5 = .ok (.iload_n 1, 1) := by decide +kernel
theorem dX9_picture_6 : decode cX9_picture 6 = .ok (.i2l, 1) := by decide +kernel
theorem dX9_picture_7 : decode cX9_picture 7 = .ok (.lconst 0, 1) := by decide +kernel
theorem dX9_picture_8 : decode cX9_picture 8 = .ok (.lconst 1, 1) := by decide +kernel
theorem dX9_picture_9 : decode cX9_picture 9 = .ok (.invokestatic 62, 3) := by decide +kernel
theorem dX9_picture_12 : decode cX9_picture 12 = .ok (.ifCond .eq 36, 3) := by decide +kernel
theorem dX9_picture_15 : decode cX9_picture 15 = .ok (.iload_n 2, 1) := by decide +kernel
theorem dX9_picture_16 : decode cX9_picture 16 = .ok (.invokestatic 66, 3) := by decide +kernel
theorem dX9_picture_19 : decode cX9_picture 19 = .ok (.ifCond .eq 29, 3) := by decide +kernel
theorem dX9_picture_22 : decode cX9_picture 22 = .ok (.iload 4, 2) := by decide +kernel
theorem dX9_picture_24 : decode cX9_picture 24 = .ok (.i2l, 1) := by decide +kernel
theorem dX9_picture_25 : decode cX9_picture 25 = .ok (.lconst 1, 1) := by decide +kernel
theorem dX9_picture_26 : decode cX9_picture 26 = .ok (.ldc2_w 144, 3) := by decide +kernel
theorem dX9_picture_29 : decode cX9_picture 29 = .ok (.invokestatic 62, 3) := by decide +kernel
theorem dX9_picture_32 : decode cX9_picture 32 = .ok (.ifCond .eq 16, 3) := by decide +kernel
theorem dX9_picture_35 : decode cX9_picture 35 = .ok (.iload 5, 2) := by decide +kernel
theorem dX9_picture_37 : decode cX9_picture 37 = .ok (.i2l, 1) := by decide +kernel
theorem dX9_picture_38 : decode cX9_picture 38 = .ok (.lconst 1, 1) := by decide +kernel
theorem dX9_picture_39 : decode cX9_picture 39 = .ok (.ldc2_w 144, 3) := by decide +kernel
theorem dX9_picture_42 : decode cX9_picture 42 = .ok (.invokestatic 62, 3) := by decide +kernel
theorem dX9_picture_45 : decode cX9_picture 45 = .ok (.ifCond .ne 6, 3) := by decide +kernel
theorem dX9_picture_48 : decode cX9_picture 48 = .ok (.ldc 72, 2) := by decide +kernel
theorem dX9_picture_50 : decode cX9_picture 50 = .ok (.ireturn, 1) := by decide +kernel
theorem dX9_picture_51 : decode cX9_picture 51 = .ok (.aload_n 0, 1) := by decide +kernel
theorem dX9_picture_52 : decode cX9_picture 52 = .ok (.getfield 7, 3) := by decide +kernel
theorem dX9_picture_55 : decode cX9_picture 55 = .ok (.iload_n 2, 1) := by decide +kernel
theorem dX9_picture_56 : decode cX9_picture 56 = .ok (.iaload, 1) := by decide +kernel
theorem dX9_picture_57 : decode cX9_picture 57 = .ok (.ifCond .ge 9, 3) := by decide +kernel
theorem dX9_picture_60 : decode cX9_picture 60 = .ok (.aload_n 0, 1) := by decide +kernel
theorem dX9_picture_61 : decode cX9_picture 61 = .ok (.iconst 1, 1) := by decide +kernel
theorem dX9_picture_62 : decode cX9_picture 62 = .ok (.invokevirtual 73, 3) := by decide +kernel
theorem dX9_picture_65 : decode cX9_picture 65 = .ok (.ireturn, 1) := by decide +kernel
theorem dX9_picture_66 : decode cX9_picture 66 = .ok (.iload_n 3, 1) := by decide +kernel
theorem dX9_picture_67 : decode cX9_picture 67 = .ok (.ifCond .lt 23, 3) := by decide +kernel
theorem dX9_picture_70 : decode cX9_picture 70 = .ok (.iload_n 3, 1) := by decide +kernel
theorem dX9_picture_71 : decode cX9_picture 71 = .ok (.i2l, 1) := by decide +kernel
theorem dX9_picture_72 : decode cX9_picture 72 = .ok (.iload 4, 2) := by decide +kernel
theorem dX9_picture_74 : decode cX9_picture 74 = .ok (.iload 5, 2) := by decide +kernel
theorem dX9_picture_76 : decode cX9_picture 76 = .ok (.imul, 1) := by decide +kernel
theorem dX9_picture_77 : decode cX9_picture 77 = .ok (.i2l, 1) := by decide +kernel
theorem dX9_picture_78 : decode cX9_picture 78 = .ok (.ladd, 1) := by decide +kernel
theorem dX9_picture_79 : decode cX9_picture 79 = .ok (.aload_n 0, 1) := by decide +kernel
theorem dX9_picture_80 : decode cX9_picture 80 = .ok (.getfield 13, 3) := by decide +kernel
theorem dX9_picture_83 : decode cX9_picture 83 = .ok (.iload_n 2, 1) := by decide +kernel
theorem dX9_picture_84 : decode cX9_picture 84 = .ok (.iaload, 1) := by decide +kernel
theorem dX9_picture_85 : decode cX9_picture 85 = .ok (.i2l, 1) := by decide +kernel
theorem dX9_picture_86 : decode cX9_picture 86 = .ok (.lcmp, 1) := by decide +kernel
theorem dX9_picture_87 : decode cX9_picture 87 = .ok (.ifCond .le 9, 3) := by decide +kernel
theorem dX9_picture_90 : decode cX9_picture 90 = .ok (.aload_n 0, 1) := by decide +kernel
theorem dX9_picture_91 : decode cX9_picture 91 = .ok (.iconst 2, 1) := by decide +kernel
theorem dX9_picture_92 : decode cX9_picture 92 = .ok (.invokevirtual 73, 3) := by decide +kernel
theorem dX9_picture_95 : decode cX9_picture 95 = .ok (.ireturn, 1) := by decide +kernel
theorem dX9_picture_96 : decode cX9_picture 96 = .ok (.iconst 0, 1) := by decide +kernel
theorem dX9_picture_97 : decode cX9_picture 97 = .ok (.istore 6, 2) := by decide +kernel
theorem dX9_picture_99 : decode cX9_picture 99 = .ok (.iload 6, 2) := by decide +kernel
theorem dX9_picture_101 : decode cX9_picture 101 = .ok (.iload 4, 2) := by decide +kernel
theorem dX9_picture_103 : decode cX9_picture 103 = .ok (.iload 5, 2) := by decide +kernel
theorem dX9_picture_105 : decode cX9_picture 105 = .ok (.imul, 1) := by decide +kernel
theorem dX9_picture_106 : decode cX9_picture 106 = .ok (.if_icmp .ge 38, 3) := by decide +kernel
theorem dX9_picture_109 : decode cX9_picture 109 = .ok (.aload_n 0, 1) := by decide +kernel
theorem dX9_picture_110 : decode cX9_picture 110 = .ok (.getfield 16, 3) := by decide +kernel
theorem dX9_picture_113 : decode cX9_picture 113 = .ok (.sipush 144, 3) := by decide +kernel
theorem dX9_picture_116 : decode cX9_picture 116 = .ok (.iload_n 2, 1) := by decide +kernel
theorem dX9_picture_117 : decode cX9_picture 117 = .ok (.imul, 1) := by decide +kernel
theorem dX9_picture_118 : decode cX9_picture 118 = .ok (.iload_n 3, 1) := by decide +kernel
theorem dX9_picture_119 : decode cX9_picture 119 = .ok (.iadd, 1) := by decide +kernel
theorem dX9_picture_120 : decode cX9_picture 120 = .ok (.iload 6, 2) := by decide +kernel
theorem dX9_picture_122 : decode cX9_picture 122 = .ok (.iadd, 1) := by decide +kernel
theorem dX9_picture_123 : decode cX9_picture 123 = .ok (.iaload, 1) := by decide +kernel
theorem dX9_picture_124 : decode cX9_picture 124 = .ok (.i2l, 1) := by decide +kernel
theorem dX9_picture_125 : decode cX9_picture 125 = .ok (.lconst 0, 1) := by decide +kernel
theorem dX9_picture_126 : decode cX9_picture 126 = .ok (.ldc2_w 146, 3) := by decide +kernel
theorem dX9_picture_129 : decode cX9_picture 129 = .ok (.invokestatic 62, 3) := by decide +kernel
theorem dX9_picture_132 : decode cX9_picture 132 = .ok (.ifCond .ne 6, 3) := by decide +kernel
theorem dX9_picture_135 : decode cX9_picture 135 = .ok (.ldc 72, 2) := by decide +kernel
theorem dX9_picture_137 : decode cX9_picture 137 = .ok (.ireturn, 1) := by decide +kernel
theorem dX9_picture_138 : decode cX9_picture 138 = .ok (.iinc 6 1, 3) := by decide +kernel
theorem dX9_picture_141 : decode cX9_picture 141 = .ok (.goto (-42), 3) := by decide +kernel
theorem dX9_picture_144 : decode cX9_picture 144 = .ok (.aload_n 0, 1) := by decide +kernel
theorem dX9_picture_145 : decode cX9_picture 145 = .ok (.iconst 0, 1) := by decide +kernel
theorem dX9_picture_146 : decode cX9_picture 146 = .ok (.putfield 56, 3) := by decide +kernel
theorem dX9_picture_149 : decode cX9_picture 149 = .ok (.aload_n 0, 1) := by decide +kernel
theorem dX9_picture_150 : decode cX9_picture 150 = .ok (.getfield 31, 3) := by decide +kernel
theorem dX9_picture_153 : decode cX9_picture 153 = .ok (.iload_n 1, 1) := by decide +kernel
theorem dX9_picture_154 : decode cX9_picture 154 = .ok (.iload 4, 2) := by decide +kernel
theorem dX9_picture_156 : decode cX9_picture 156 = .ok (.iastore, 1) := by decide +kernel
theorem dX9_picture_157 : decode cX9_picture 157 = .ok (.aload_n 0, 1) := by decide +kernel
theorem dX9_picture_158 : decode cX9_picture 158 = .ok (.getfield 34, 3) := by decide +kernel
theorem dX9_picture_161 : decode cX9_picture 161 = .ok (.iload_n 1, 1) := by decide +kernel
theorem dX9_picture_162 : decode cX9_picture 162 = .ok (.iload 5, 2) := by decide +kernel
theorem dX9_picture_164 : decode cX9_picture 164 = .ok (.iastore, 1) := by decide +kernel
theorem dX9_picture_165 : decode cX9_picture 165 = .ok (.iconst 0, 1) := by decide +kernel
theorem dX9_picture_166 : decode cX9_picture 166 = .ok (.istore 6, 2) := by decide +kernel
theorem dX9_picture_168 : decode cX9_picture 168 = .ok (.iload 6, 2) := by decide +kernel
theorem dX9_picture_170 : decode cX9_picture 170 = .ok (.iload 4, 2) := by decide +kernel
theorem dX9_picture_172 : decode cX9_picture 172 = .ok (.iload 5, 2) := by decide +kernel
theorem dX9_picture_174 : decode cX9_picture 174 = .ok (.imul, 1) := by decide +kernel
theorem dX9_picture_175 : decode cX9_picture 175 = .ok (.if_icmp .ge 37, 3) := by decide +kernel
theorem dX9_picture_178 : decode cX9_picture 178 = .ok (.aload_n 0, 1) := by decide +kernel
theorem dX9_picture_179 : decode cX9_picture 179 = .ok (.getfield 37, 3) := by decide +kernel
theorem dX9_picture_182 : decode cX9_picture 182 = .ok (.sipush 144, 3) := by decide +kernel
theorem dX9_picture_185 : decode cX9_picture 185 = .ok (.iload_n 1, 1) := by decide +kernel
theorem dX9_picture_186 : decode cX9_picture 186 = .ok (.imul, 1) := by decide +kernel
theorem dX9_picture_187 : decode cX9_picture 187 = .ok (.iload 6, 2) := by decide +kernel
theorem dX9_picture_189 : decode cX9_picture 189 = .ok (.iadd, 1) := by decide +kernel
theorem dX9_picture_190 : decode cX9_picture 190 = .ok (.aload_n 0, 1) := by decide +kernel
theorem dX9_picture_191 : decode cX9_picture 191 = .ok (.getfield 16, 3) := by decide +kernel
theorem dX9_picture_194 : decode cX9_picture 194 = .ok (.sipush 144, 3) := by decide +kernel
theorem dX9_picture_197 : decode cX9_picture 197 = .ok (.iload_n 2, 1) := by decide +kernel
theorem dX9_picture_198 : decode cX9_picture 198 = .ok (.imul, 1) := by decide +kernel
theorem dX9_picture_199 : decode cX9_picture 199 = .ok (.iload_n 3, 1) := by decide +kernel
theorem dX9_picture_200 : decode cX9_picture 200 = .ok (.iadd, 1) := by decide +kernel
theorem dX9_picture_201 : decode cX9_picture 201 = .ok (.iload 6, 2) := by decide +kernel
theorem dX9_picture_203 : decode cX9_picture 203 = .ok (.iadd, 1) := by decide +kernel
theorem dX9_picture_204 : decode cX9_picture 204 = .ok (.iaload, 1) := by decide +kernel
theorem dX9_picture_205 : decode cX9_picture 205 = .ok (.iastore, 1) := by decide +kernel
theorem dX9_picture_206 : decode cX9_picture 206 = .ok (.iinc 6 1, 3) := by decide +kernel
theorem dX9_picture_209 : decode cX9_picture 209 = .ok (.goto (-41), 3) := by decide +kernel
theorem dX9_picture_212 : decode cX9_picture 212 = .ok (.iconst 1, 1) := by decide +kernel
theorem dX9_picture_213 : decode cX9_picture 213 = .ok (.ireturn, 1) := by decide +kernel
theorem dX9_numberAt_0 : decode cX9_numberAt 0 = .ok (.aload_n 0, 1) := by decide +kernel
theorem dX9_numberAt_1 : decode cX9_numberAt 1 = .ok (.getfield 37, 3) := by decide +kernel
theorem dX9_numberAt_4 : decode cX9_numberAt 4 = .ok (.sipush 144, 3) := by decide +kernel
theorem dX9_numberAt_7 : decode cX9_numberAt 7 = .ok (.iload_n 1, 1) := by decide +kernel
theorem dX9_numberAt_8 : decode cX9_numberAt 8 = .ok (.imul, 1) := by decide +kernel
theorem dX9_numberAt_9 : decode cX9_numberAt 9 = .ok (.iload_n 3, 1) := by decide +kernel
theorem dX9_numberAt_10 : decode cX9_numberAt 10 = .ok (.aload_n 0, 1) := by decide +kernel
theorem dX9_numberAt_11 : decode cX9_numberAt 11 = .ok (.getfield 34, 3) := by decide +kernel
theorem dX9_numberAt_14 : decode cX9_numberAt 14 = .ok (.iload_n 1, 1) := by decide +kernel
theorem dX9_numberAt_15 : decode cX9_numberAt 15 = .ok (.iaload, 1) := by decide +kernel
theorem dX9_numberAt_16 : decode cX9_numberAt 16 = .ok (.imul, 1) := by decide +kernel
theorem dX9_numberAt_17 : decode cX9_numberAt 17 = .ok (.sipush 1001, 3) := by decide +kernel
theorem dX9_numberAt_20 : decode cX9_numberAt 20 = .ok (.idiv, 1) := by decide +kernel
theorem dX9_numberAt_21 : decode cX9_numberAt 21 = .ok (.aload_n 0, 1) := by decide +kernel
theorem dX9_numberAt_22 : decode cX9_numberAt 22 = .ok (.getfield 31, 3) := by decide +kernel
theorem dX9_numberAt_25 : decode cX9_numberAt 25 = .ok (.iload_n 1, 1) := by decide +kernel
theorem dX9_numberAt_26 : decode cX9_numberAt 26 = .ok (.iaload, 1) := by decide +kernel
theorem dX9_numberAt_27 : decode cX9_numberAt 27 = .ok (.imul, 1) := by decide +kernel
theorem dX9_numberAt_28 : decode cX9_numberAt 28 = .ok (.iadd, 1) := by decide +kernel
theorem dX9_numberAt_29 : decode cX9_numberAt 29 = .ok (.iload_n 2, 1) := by decide +kernel
theorem dX9_numberAt_30 : decode cX9_numberAt 30 = .ok (.aload_n 0, 1) := by decide +kernel
theorem dX9_numberAt_31 : decode cX9_numberAt 31 = .ok (.getfield 31, 3) := by decide +kernel
theorem dX9_numberAt_34 : decode cX9_numberAt 34 = .ok (.iload_n 1, 1) := by decide +kernel
theorem dX9_numberAt_35 : decode cX9_numberAt 35 = .ok (.iaload, 1) := by decide +kernel
theorem dX9_numberAt_36 : decode cX9_numberAt 36 = .ok (.imul, 1) := by decide +kernel
theorem dX9_numberAt_37 : decode cX9_numberAt 37 = .ok (.sipush 1001, 3) := by decide +kernel
theorem dX9_numberAt_40 : decode cX9_numberAt 40 = .ok (.idiv, 1) := by decide +kernel
theorem dX9_numberAt_41 : decode cX9_numberAt 41 = .ok (.iadd, 1) := by decide +kernel
theorem dX9_numberAt_42 : decode cX9_numberAt 42 = .ok (.iaload, 1) := by decide +kernel
theorem dX9_numberAt_43 : decode cX9_numberAt 43 = .ok (.ireturn, 1) := by decide +kernel
theorem dX9_seen_0 : decode cX9_seen 0 = .ok (.aload_n 0, 1) := by decide +kernel
theorem dX9_seen_1 : decode cX9_seen 1 = .ok (.iconst 0, 1) := by decide +kernel
theorem dX9_seen_2 : decode cX9_seen 2 = .ok (.putfield 52, 3) := by decide +kernel
theorem dX9_seen_5 : decode cX9_seen 5 = .ok (.iload_n 1, 1) := by decide +kernel
theorem dX9_seen_6 : decode cX9_seen 6 = .ok (.iload_n 2, 1) := by decide +kernel
theorem dX9_seen_7 : decode cX9_seen 7 = .ok (.invokestatic 84, 3) := by decide +kernel
theorem dX9_seen_10 : decode cX9_seen 10 = .ok (.ifCond .eq 12, 3) := by decide +kernel
theorem dX9_seen_13 : decode cX9_seen 13 = .ok (.iload_n 3, 1) := by decide +kernel
theorem dX9_seen_14 : decode cX9_seen 14 = .ok (.iload 4, 2) := by decide +kernel
theorem dX9_seen_16 : decode cX9_seen 16 = .ok (.invokestatic 92, 3) := by decide +kernel
theorem dX9_seen_19 : decode cX9_seen 19 = .ok (.ifCond .ne 6, 3) := by decide +kernel
theorem dX9_seen_22 : decode cX9_seen 22 = .ok (.ldc 72, 2) := by decide +kernel
theorem dX9_seen_24 : decode cX9_seen 24 = .ok (.ireturn, 1) := by decide +kernel
theorem dX9_seen_25 : decode cX9_seen 25 = .ok (.aload_n 0, 1) := by decide +kernel
theorem dX9_seen_26 : decode cX9_seen 26 = .ok (.getfield 31, 3) := by decide +kernel
theorem dX9_seen_29 : decode cX9_seen 29 = .ok (.iconst 0, 1) := by decide +kernel
theorem dX9_seen_30 : decode cX9_seen 30 = .ok (.iaload, 1) := by decide +kernel
theorem dX9_seen_31 : decode cX9_seen 31 = .ok (.ifCond .eq 12, 3) := by decide +kernel
theorem dX9_seen_34 : decode cX9_seen 34 = .ok (.aload_n 0, 1) := by decide +kernel
theorem dX9_seen_35 : decode cX9_seen 35 = .ok (.getfield 31, 3) := by decide +kernel
theorem dX9_seen_38 : decode cX9_seen 38 = .ok (.iconst 1, 1) := by decide +kernel
theorem dX9_seen_39 : decode cX9_seen 39 = .ok (.iaload, 1) := by decide +kernel
theorem dX9_seen_40 : decode cX9_seen 40 = .ok (.ifCond .ne 6, 3) := by decide +kernel
theorem dX9_seen_43 : decode cX9_seen 43 = .ok (.ldc 102, 2) := by decide +kernel
theorem dX9_seen_45 : decode cX9_seen 45 = .ok (.ireturn, 1) := by decide +kernel
theorem dX9_seen_46 : decode cX9_seen 46 = .ok (.aload_n 0, 1) := by decide +kernel
theorem dX9_seen_47 : decode cX9_seen 47 = .ok (.iload_n 1, 1) := by decide +kernel
theorem dX9_seen_48 : decode cX9_seen 48 = .ok (.iload_n 2, 1) := by decide +kernel
theorem dX9_seen_49 : decode cX9_seen 49 = .ok (.iload_n 3, 1) := by decide +kernel
theorem dX9_seen_50 : decode cX9_seen 50 = .ok (.iload 4, 2) := by decide +kernel
theorem dX9_seen_52 : decode cX9_seen 52 = .ok (.invokevirtual 136, 3) := by decide +kernel
theorem dX9_seen_55 : decode cX9_seen 55 = .ok (.istore 5, 2) := by decide +kernel
theorem dX9_seen_57 : decode cX9_seen 57 = .ok (.iload 5, 2) := by decide +kernel
theorem dX9_seen_59 : decode cX9_seen 59 = .ok (.ldc 116, 2) := by decide +kernel
theorem dX9_seen_61 : decode cX9_seen 61 = .ok (.if_icmp .ne 6, 3) := by decide +kernel
theorem dX9_seen_64 : decode cX9_seen 64 = .ok (.ldc 116, 2) := by decide +kernel
theorem dX9_seen_66 : decode cX9_seen 66 = .ok (.ireturn, 1) := by decide +kernel
theorem dX9_seen_67 : decode cX9_seen 67 = .ok (.aload_n 0, 1) := by decide +kernel
theorem dX9_seen_68 : decode cX9_seen 68 = .ok (.iconst 0, 1) := by decide +kernel
theorem dX9_seen_69 : decode cX9_seen 69 = .ok (.aload_n 0, 1) := by decide +kernel
theorem dX9_seen_70 : decode cX9_seen 70 = .ok (.iload 5, 2) := by decide +kernel
theorem dX9_seen_72 : decode cX9_seen 72 = .ok (.iconst 0, 1) := by decide +kernel
theorem dX9_seen_73 : decode cX9_seen 73 = .ok (.invokevirtual 141, 3) := by decide +kernel
theorem dX9_seen_76 : decode cX9_seen 76 = .ok (.aload_n 0, 1) := by decide +kernel
theorem dX9_seen_77 : decode cX9_seen 77 = .ok (.iload 5, 2) := by decide +kernel
theorem dX9_seen_79 : decode cX9_seen 79 = .ok (.iconst 1, 1) := by decide +kernel
theorem dX9_seen_80 : decode cX9_seen 80 = .ok (.invokevirtual 141, 3) := by decide +kernel
theorem dX9_seen_83 : decode cX9_seen 83 = .ok (.invokevirtual 148, 3) := by decide +kernel
theorem dX9_seen_86 : decode cX9_seen 86 = .ok (.istore 6, 2) := by decide +kernel
theorem dX9_seen_88 : decode cX9_seen 88 = .ok (.aload_n 0, 1) := by decide +kernel
theorem dX9_seen_89 : decode cX9_seen 89 = .ok (.iconst 1, 1) := by decide +kernel
theorem dX9_seen_90 : decode cX9_seen 90 = .ok (.aload_n 0, 1) := by decide +kernel
theorem dX9_seen_91 : decode cX9_seen 91 = .ok (.iload 5, 2) := by decide +kernel
theorem dX9_seen_93 : decode cX9_seen 93 = .ok (.iconst 2, 1) := by decide +kernel
theorem dX9_seen_94 : decode cX9_seen 94 = .ok (.invokevirtual 141, 3) := by decide +kernel
theorem dX9_seen_97 : decode cX9_seen 97 = .ok (.aload_n 0, 1) := by decide +kernel
theorem dX9_seen_98 : decode cX9_seen 98 = .ok (.iload 5, 2) := by decide +kernel
theorem dX9_seen_100 : decode cX9_seen 100 = .ok (.iconst 3, 1) := by decide +kernel
theorem dX9_seen_101 : decode cX9_seen 101 = .ok (.invokevirtual 141, 3) := by decide +kernel
theorem dX9_seen_104 : decode cX9_seen 104 = .ok (.invokevirtual 148, 3) := by decide +kernel
theorem dX9_seen_107 : decode cX9_seen 107 = .ok (.istore 7, 2) := by decide +kernel
theorem dX9_seen_109 : decode cX9_seen 109 = .ok (.iload 4, 2) := by decide +kernel
theorem dX9_seen_111 : decode cX9_seen 111 = .ok (.iload_n 3, 1) := by decide +kernel
theorem dX9_seen_112 : decode cX9_seen 112 = .ok (.isub, 1) := by decide +kernel
theorem dX9_seen_113 : decode cX9_seen 113 = .ok (.iload 6, 2) := by decide +kernel
theorem dX9_seen_115 : decode cX9_seen 115 = .ok (.imul, 1) := by decide +kernel
theorem dX9_seen_116 : decode cX9_seen 116 = .ok (.iload_n 3, 1) := by decide +kernel
theorem dX9_seen_117 : decode cX9_seen 117 = .ok (.iload 7, 2) := by decide +kernel
theorem dX9_seen_119 : decode cX9_seen 119 = .ok (.imul, 1) := by decide +kernel
theorem dX9_seen_120 : decode cX9_seen 120 = .ok (.iadd, 1) := by decide +kernel
theorem dX9_seen_121 : decode cX9_seen 121 = .ok (.iload 4, 2) := by decide +kernel
theorem dX9_seen_123 : decode cX9_seen 123 = .ok (.idiv, 1) := by decide +kernel
theorem dX9_seen_124 : decode cX9_seen 124 = .ok (.ireturn, 1) := by decide +kernel
theorem dX9_size_0 : decode cX9_size 0 = .ok (.iload_n 0, 1) := by decide +kernel
theorem dX9_size_1 : decode cX9_size 1 = .ok (.ifCond .ge 8, 3) := by decide +kernel
theorem dX9_size_4 : decode cX9_size 4 = .ok (.iload_n 0, 1) := by decide +kernel
theorem dX9_size_5 : decode cX9_size 5 = .ok (.ineg, 1) := by decide +kernel
theorem dX9_size_6 : decode cX9_size 6 = .ok (.goto 4, 3) := by decide +kernel
theorem dX9_size_9 : decode cX9_size 9 = .ok (.iload_n 0, 1) := by decide +kernel
theorem dX9_size_10 : decode cX9_size 10 = .ok (.ireturn, 1) := by decide +kernel
theorem dX9_apart_0 : decode cX9_apart 0 = .ok (.aload_n 0, 1) := by decide +kernel
theorem dX9_apart_1 : decode cX9_apart 1 = .ok (.getfield 16, 3) := by decide +kernel
theorem dX9_apart_4 : decode cX9_apart 4 = .ok (.sipush 144, 3) := by decide +kernel
theorem dX9_apart_7 : decode cX9_apart 7 = .ok (.iload_n 1, 1) := by decide +kernel
theorem dX9_apart_8 : decode cX9_apart 8 = .ok (.imul, 1) := by decide +kernel
theorem dX9_apart_9 : decode cX9_apart 9 = .ok (.iconst 2, 1) := by decide +kernel
theorem dX9_apart_10 : decode cX9_apart 10 = .ok (.iload_n 2, 1) := by decide +kernel
theorem dX9_apart_11 : decode cX9_apart 11 = .ok (.imul, 1) := by decide +kernel
theorem dX9_apart_12 : decode cX9_apart 12 = .ok (.iadd, 1) := by decide +kernel
theorem dX9_apart_13 : decode cX9_apart 13 = .ok (.iaload, 1) := by decide +kernel
theorem dX9_apart_14 : decode cX9_apart 14 = .ok (.aload_n 0, 1) := by decide +kernel
theorem dX9_apart_15 : decode cX9_apart 15 = .ok (.getfield 16, 3) := by decide +kernel
theorem dX9_apart_18 : decode cX9_apart 18 = .ok (.sipush 144, 3) := by decide +kernel
theorem dX9_apart_21 : decode cX9_apart 21 = .ok (.iload_n 3, 1) := by decide +kernel
theorem dX9_apart_22 : decode cX9_apart 22 = .ok (.imul, 1) := by decide +kernel
theorem dX9_apart_23 : decode cX9_apart 23 = .ok (.iconst 2, 1) := by decide +kernel
theorem dX9_apart_24 : decode cX9_apart 24 = .ok (.iload 4, 2) := by decide +kernel
theorem dX9_apart_26 : decode cX9_apart 26 = .ok (.imul, 1) := by decide +kernel
theorem dX9_apart_27 : decode cX9_apart 27 = .ok (.iadd, 1) := by decide +kernel
theorem dX9_apart_28 : decode cX9_apart 28 = .ok (.iaload, 1) := by decide +kernel
theorem dX9_apart_29 : decode cX9_apart 29 = .ok (.isub, 1) := by decide +kernel
theorem dX9_apart_30 : decode cX9_apart 30 = .ok (.invokestatic 152, 3) := by decide +kernel
theorem dX9_apart_33 : decode cX9_apart 33 = .ok (.aload_n 0, 1) := by decide +kernel
theorem dX9_apart_34 : decode cX9_apart 34 = .ok (.getfield 16, 3) := by decide +kernel
theorem dX9_apart_37 : decode cX9_apart 37 = .ok (.sipush 144, 3) := by decide +kernel
theorem dX9_apart_40 : decode cX9_apart 40 = .ok (.iload_n 1, 1) := by decide +kernel
theorem dX9_apart_41 : decode cX9_apart 41 = .ok (.imul, 1) := by decide +kernel
theorem dX9_apart_42 : decode cX9_apart 42 = .ok (.iconst 2, 1) := by decide +kernel
theorem dX9_apart_43 : decode cX9_apart 43 = .ok (.iload_n 2, 1) := by decide +kernel
theorem dX9_apart_44 : decode cX9_apart 44 = .ok (.imul, 1) := by decide +kernel
theorem dX9_apart_45 : decode cX9_apart 45 = .ok (.iadd, 1) := by decide +kernel
theorem dX9_apart_46 : decode cX9_apart 46 = .ok (.iconst 1, 1) := by decide +kernel
theorem dX9_apart_47 : decode cX9_apart 47 = .ok (.iadd, 1) := by decide +kernel
theorem dX9_apart_48 : decode cX9_apart 48 = .ok (.iaload, 1) := by decide +kernel
theorem dX9_apart_49 : decode cX9_apart 49 = .ok (.aload_n 0, 1) := by decide +kernel
theorem dX9_apart_50 : decode cX9_apart 50 = .ok (.getfield 16, 3) := by decide +kernel
theorem dX9_apart_53 : decode cX9_apart 53 = .ok (.sipush 144, 3) := by decide +kernel
theorem dX9_apart_56 : decode cX9_apart 56 = .ok (.iload_n 3, 1) := by decide +kernel
theorem dX9_apart_57 : decode cX9_apart 57 = .ok (.imul, 1) := by decide +kernel
theorem dX9_apart_58 : decode cX9_apart 58 = .ok (.iconst 2, 1) := by decide +kernel
theorem dX9_apart_59 : decode cX9_apart 59 = .ok (.iload 4, 2) := by decide +kernel
theorem dX9_apart_61 : decode cX9_apart 61 = .ok (.imul, 1) := by decide +kernel
theorem dX9_apart_62 : decode cX9_apart 62 = .ok (.iadd, 1) := by decide +kernel
theorem dX9_apart_63 : decode cX9_apart 63 = .ok (.iconst 1, 1) := by decide +kernel
theorem dX9_apart_64 : decode cX9_apart 64 = .ok (.iadd, 1) := by decide +kernel
theorem dX9_apart_65 : decode cX9_apart 65 = .ok (.iaload, 1) := by decide +kernel
theorem dX9_apart_66 : decode cX9_apart 66 = .ok (.isub, 1) := by decide +kernel
theorem dX9_apart_67 : decode cX9_apart 67 = .ok (.invokestatic 152, 3) := by decide +kernel
theorem dX9_apart_70 : decode cX9_apart 70 = .ok (.iadd, 1) := by decide +kernel
theorem dX9_apart_71 : decode cX9_apart 71 = .ok (.ireturn, 1) := by decide +kernel
theorem dX9_look_0 : decode cX9_look 0 = .ok (.iload_n 1, 1) := by decide +kernel
theorem dX9_look_1 : decode cX9_look 1 = .ok (.invokestatic 66, 3) := by decide +kernel
theorem dX9_look_4 : decode cX9_look 4 = .ok (.ifCond .eq 35, 3) := by decide +kernel
theorem dX9_look_7 : decode cX9_look 7 = .ok (.iload_n 3, 1) := by decide +kernel
theorem dX9_look_8 : decode cX9_look 8 = .ok (.invokestatic 66, 3) := by decide +kernel
theorem dX9_look_11 : decode cX9_look 11 = .ok (.ifCond .eq 28, 3) := by decide +kernel
theorem dX9_look_14 : decode cX9_look 14 = .ok (.iload_n 2, 1) := by decide +kernel
theorem dX9_look_15 : decode cX9_look 15 = .ok (.i2l, 1) := by decide +kernel
theorem dX9_look_16 : decode cX9_look 16 = .ok (.lconst 1, 1) := by decide +kernel
theorem dX9_look_17 : decode cX9_look 17 = .ok (.ldc2_w 155, 3) := by decide +kernel
theorem dX9_look_20 : decode cX9_look 20 = .ok (.invokestatic 62, 3) := by decide +kernel
theorem dX9_look_23 : decode cX9_look 23 = .ok (.ifCond .eq 16, 3) := by decide +kernel
theorem dX9_look_26 : decode cX9_look 26 = .ok (.iload 4, 2) := by decide +kernel
theorem dX9_look_28 : decode cX9_look 28 = .ok (.i2l, 1) := by decide +kernel
theorem dX9_look_29 : decode cX9_look 29 = .ok (.lconst 1, 1) := by decide +kernel
theorem dX9_look_30 : decode cX9_look 30 = .ok (.ldc2_w 155, 3) := by decide +kernel
theorem dX9_look_33 : decode cX9_look 33 = .ok (.invokestatic 62, 3) := by decide +kernel
theorem dX9_look_36 : decode cX9_look 36 = .ok (.ifCond .ne 6, 3) := by decide +kernel
theorem dX9_look_39 : decode cX9_look 39 = .ok (.ldc 72, 2) := by decide +kernel
theorem dX9_look_41 : decode cX9_look 41 = .ok (.ireturn, 1) := by decide +kernel
theorem dX9_look_42 : decode cX9_look 42 = .ok (.aload_n 0, 1) := by decide +kernel
theorem dX9_look_43 : decode cX9_look 43 = .ok (.getfield 7, 3) := by decide +kernel
theorem dX9_look_46 : decode cX9_look 46 = .ok (.iload_n 1, 1) := by decide +kernel
theorem dX9_look_47 : decode cX9_look 47 = .ok (.iaload, 1) := by decide +kernel
theorem dX9_look_48 : decode cX9_look 48 = .ok (.ifCond .lt 12, 3) := by decide +kernel
theorem dX9_look_51 : decode cX9_look 51 = .ok (.aload_n 0, 1) := by decide +kernel
theorem dX9_look_52 : decode cX9_look 52 = .ok (.getfield 7, 3) := by decide +kernel
theorem dX9_look_55 : decode cX9_look 55 = .ok (.iload_n 3, 1) := by decide +kernel
theorem dX9_look_56 : decode cX9_look 56 = .ok (.iaload, 1) := by decide +kernel
theorem dX9_look_57 : decode cX9_look 57 = .ok (.ifCond .ge 9, 3) := by decide +kernel
theorem dX9_look_60 : decode cX9_look 60 = .ok (.aload_n 0, 1) := by decide +kernel
theorem dX9_look_61 : decode cX9_look 61 = .ok (.iconst 1, 1) := by decide +kernel
theorem dX9_look_62 : decode cX9_look 62 = .ok (.invokevirtual 73, 3) := by decide +kernel
theorem dX9_look_65 : decode cX9_look 65 = .ok (.ireturn, 1) := by decide +kernel
theorem dX9_look_66 : decode cX9_look 66 = .ok (.iconst 2, 1) := by decide +kernel
theorem dX9_look_67 : decode cX9_look 67 = .ok (.iload_n 2, 1) := by decide +kernel
theorem dX9_look_68 : decode cX9_look 68 = .ok (.imul, 1) := by decide +kernel
theorem dX9_look_69 : decode cX9_look 69 = .ok (.aload_n 0, 1) := by decide +kernel
theorem dX9_look_70 : decode cX9_look 70 = .ok (.getfield 13, 3) := by decide +kernel
theorem dX9_look_73 : decode cX9_look 73 = .ok (.iload_n 1, 1) := by decide +kernel
theorem dX9_look_74 : decode cX9_look 74 = .ok (.iaload, 1) := by decide +kernel
theorem dX9_look_75 : decode cX9_look 75 = .ok (.if_icmp .gt 16, 3) := by decide +kernel
theorem dX9_look_78 : decode cX9_look 78 = .ok (.iconst 2, 1) := by decide +kernel
theorem dX9_look_79 : decode cX9_look 79 = .ok (.iload 4, 2) := by decide +kernel
theorem dX9_look_81 : decode cX9_look 81 = .ok (.imul, 1) := by decide +kernel
theorem dX9_look_82 : decode cX9_look 82 = .ok (.aload_n 0, 1) := by decide +kernel
theorem dX9_look_83 : decode cX9_look 83 = .ok (.getfield 13, 3) := by decide +kernel
theorem dX9_look_86 : decode cX9_look 86 = .ok (.iload_n 3, 1) := by decide +kernel
theorem dX9_look_87 : decode cX9_look 87 = .ok (.iaload, 1) := by decide +kernel
theorem dX9_look_88 : decode cX9_look 88 = .ok (.if_icmp .le 9, 3) := by decide +kernel
theorem dX9_look_91 : decode cX9_look 91 = .ok (.aload_n 0, 1) := by decide +kernel
theorem dX9_look_92 : decode cX9_look 92 = .ok (.iconst 2, 1) := by decide +kernel
theorem dX9_look_93 : decode cX9_look 93 = .ok (.invokevirtual 73, 3) := by decide +kernel
theorem dX9_look_96 : decode cX9_look 96 = .ok (.ireturn, 1) := by decide +kernel
theorem dX9_look_97 : decode cX9_look 97 = .ok (.iconst 0, 1) := by decide +kernel
theorem dX9_look_98 : decode cX9_look 98 = .ok (.istore 5, 2) := by decide +kernel
theorem dX9_look_100 : decode cX9_look 100 = .ok (.iload 5, 2) := by decide +kernel
theorem dX9_look_102 : decode cX9_look 102 = .ok (.iconst 2, 1) := by decide +kernel
theorem dX9_look_103 : decode cX9_look 103 = .ok (.iload_n 2, 1) := by decide +kernel
theorem dX9_look_104 : decode cX9_look 104 = .ok (.imul, 1) := by decide +kernel
theorem dX9_look_105 : decode cX9_look 105 = .ok (.if_icmp .ge 36, 3) := by decide +kernel
theorem dX9_look_108 : decode cX9_look 108 = .ok (.aload_n 0, 1) := by decide +kernel
theorem dX9_look_109 : decode cX9_look 109 = .ok (.getfield 16, 3) := by decide +kernel
theorem dX9_look_112 : decode cX9_look 112 = .ok (.sipush 144, 3) := by decide +kernel
theorem dX9_look_115 : decode cX9_look 115 = .ok (.iload_n 1, 1) := by decide +kernel
theorem dX9_look_116 : decode cX9_look 116 = .ok (.imul, 1) := by decide +kernel
theorem dX9_look_117 : decode cX9_look 117 = .ok (.iload 5, 2) := by decide +kernel
theorem dX9_look_119 : decode cX9_look 119 = .ok (.iadd, 1) := by decide +kernel
theorem dX9_look_120 : decode cX9_look 120 = .ok (.iaload, 1) := by decide +kernel
theorem dX9_look_121 : decode cX9_look 121 = .ok (.i2l, 1) := by decide +kernel
theorem dX9_look_122 : decode cX9_look 122 = .ok (.lconst 0, 1) := by decide +kernel
theorem dX9_look_123 : decode cX9_look 123 = .ok (.ldc2_w 80, 3) := by decide +kernel
theorem dX9_look_126 : decode cX9_look 126 = .ok (.invokestatic 62, 3) := by decide +kernel
theorem dX9_look_129 : decode cX9_look 129 = .ok (.ifCond .ne 6, 3) := by decide +kernel
theorem dX9_look_132 : decode cX9_look 132 = .ok (.ldc 72, 2) := by decide +kernel
theorem dX9_look_134 : decode cX9_look 134 = .ok (.ireturn, 1) := by decide +kernel
theorem dX9_look_135 : decode cX9_look 135 = .ok (.iinc 5 1, 3) := by decide +kernel
theorem dX9_look_138 : decode cX9_look 138 = .ok (.goto (-38), 3) := by decide +kernel
theorem dX9_look_141 : decode cX9_look 141 = .ok (.iconst 0, 1) := by decide +kernel
theorem dX9_look_142 : decode cX9_look 142 = .ok (.istore 5, 2) := by decide +kernel
theorem dX9_look_144 : decode cX9_look 144 = .ok (.iload 5, 2) := by decide +kernel
theorem dX9_look_146 : decode cX9_look 146 = .ok (.iconst 2, 1) := by decide +kernel
theorem dX9_look_147 : decode cX9_look 147 = .ok (.iload 4, 2) := by decide +kernel
theorem dX9_look_149 : decode cX9_look 149 = .ok (.imul, 1) := by decide +kernel
theorem dX9_look_150 : decode cX9_look 150 = .ok (.if_icmp .ge 36, 3) := by decide +kernel
theorem dX9_look_153 : decode cX9_look 153 = .ok (.aload_n 0, 1) := by decide +kernel
theorem dX9_look_154 : decode cX9_look 154 = .ok (.getfield 16, 3) := by decide +kernel
theorem dX9_look_157 : decode cX9_look 157 = .ok (.sipush 144, 3) := by decide +kernel
theorem dX9_look_160 : decode cX9_look 160 = .ok (.iload_n 3, 1) := by decide +kernel
theorem dX9_look_161 : decode cX9_look 161 = .ok (.imul, 1) := by decide +kernel
theorem dX9_look_162 : decode cX9_look 162 = .ok (.iload 5, 2) := by decide +kernel
theorem dX9_look_164 : decode cX9_look 164 = .ok (.iadd, 1) := by decide +kernel
theorem dX9_look_165 : decode cX9_look 165 = .ok (.iaload, 1) := by decide +kernel
theorem dX9_look_166 : decode cX9_look 166 = .ok (.i2l, 1) := by decide +kernel
theorem dX9_look_167 : decode cX9_look 167 = .ok (.lconst 0, 1) := by decide +kernel
theorem dX9_look_168 : decode cX9_look 168 = .ok (.ldc2_w 80, 3) := by decide +kernel
theorem dX9_look_171 : decode cX9_look 171 = .ok (.invokestatic 62, 3) := by decide +kernel
theorem dX9_look_174 : decode cX9_look 174 = .ok (.ifCond .ne 6, 3) := by decide +kernel
theorem dX9_look_177 : decode cX9_look 177 = .ok (.ldc 72, 2) := by decide +kernel
theorem dX9_look_179 : decode cX9_look 179 = .ok (.ireturn, 1) := by decide +kernel
theorem dX9_look_180 : decode cX9_look 180 = .ok (.iinc 5 1, 3) := by decide +kernel
theorem dX9_look_183 : decode cX9_look 183 = .ok (.goto (-39), 3) := by decide +kernel
theorem dX9_look_186 : decode cX9_look 186 = .ok (.aload_n 0, 1) := by decide +kernel
theorem dX9_look_187 : decode cX9_look 187 = .ok (.iconst 0, 1) := by decide +kernel
theorem dX9_look_188 : decode cX9_look 188 = .ok (.putfield 56, 3) := by decide +kernel
theorem dX9_look_191 : decode cX9_look 191 = .ok (.iconst 0, 1) := by decide +kernel
theorem dX9_look_192 : decode cX9_look 192 = .ok (.ireturn, 1) := by decide +kernel
theorem dX9_findPairs_0 : decode cX9_findPairs 0 = .ok (.iconst 0, 1) := by decide +kernel
theorem dX9_findPairs_1 : decode cX9_findPairs 1 = .ok (.istore 5, 2) := by decide +kernel
theorem dX9_findPairs_3 : decode cX9_findPairs 3 = .ok (.iload 5, 2) := by decide +kernel
theorem dX9_findPairs_5 : decode cX9_findPairs 5 = .ok (.iload_n 2, 1) := by decide +kernel
theorem dX9_findPairs_6 : decode cX9_findPairs 6 = .ok (.if_icmp .ge 182, 3) := by decide +kernel
theorem dX9_findPairs_9 : decode cX9_findPairs 9 = .ok (.iconst 0, 1) := by decide +kernel
theorem dX9_findPairs_10 : decode cX9_findPairs 10 = .ok (.istore 6, 2) := by decide +kernel
theorem dX9_findPairs_12 : decode cX9_findPairs 12 = .ok (.iload 6, 2) := by decide +kernel
theorem dX9_findPairs_14 : decode cX9_findPairs 14 = .ok (.iload 4, 2) := by decide +kernel
theorem dX9_findPairs_16 : decode cX9_findPairs 16 = .ok (.if_icmp .ge 166, 3) := by decide +kernel
theorem dX9_findPairs_19 : decode cX9_findPairs 19 = .ok (.iload 5, 2) := by decide +kernel
theorem dX9_findPairs_21 : decode cX9_findPairs 21 = .ok (.ifCond .ne 12, 3) := by decide +kernel
theorem dX9_findPairs_24 : decode cX9_findPairs 24 = .ok (.iload 6, 2) := by decide +kernel
theorem dX9_findPairs_26 : decode cX9_findPairs 26 = .ok (.ifCond .ne 7, 3) := by decide +kernel
theorem dX9_findPairs_29 : decode cX9_findPairs 29 = .ok (.iconst 0, 1) := by decide +kernel
theorem dX9_findPairs_30 : decode cX9_findPairs 30 = .ok (.goto 5, 3) := by decide +kernel
theorem dX9_findPairs_33 : decode cX9_findPairs 33 = .ok (.ldc 157, 2) := by decide +kernel
theorem dX9_findPairs_35 : decode cX9_findPairs 35 = .ok (.istore 7, 2) := by decide +kernel
theorem dX9_findPairs_37 : decode cX9_findPairs 37 = .ok (.iload 5, 2) := by decide +kernel
theorem dX9_findPairs_39 : decode cX9_findPairs 39 = .ok (.ifCond .le 27, 3) := by decide +kernel
theorem dX9_findPairs_42 : decode cX9_findPairs 42 = .ok (.iload 6, 2) := by decide +kernel
theorem dX9_findPairs_44 : decode cX9_findPairs 44 = .ok (.ifCond .le 22, 3) := by decide +kernel
theorem dX9_findPairs_47 : decode cX9_findPairs 47 = .ok (.aload_n 0, 1) := by decide +kernel
theorem dX9_findPairs_48 : decode cX9_findPairs 48 = .ok (.getfield 40, 3) := by decide +kernel
theorem dX9_findPairs_51 : decode cX9_findPairs 51 = .ok (.bipush 30, 2) := by decide +kernel
theorem dX9_findPairs_53 : decode cX9_findPairs 53 = .ok (.iload 5, 2) := by decide +kernel
theorem dX9_findPairs_55 : decode cX9_findPairs 55 = .ok (.iconst 1, 1) := by decide +kernel
theorem dX9_findPairs_56 : decode cX9_findPairs 56 = .ok (.isub, 1) := by decide +kernel
theorem dX9_findPairs_57 : decode cX9_findPairs 57 = .ok (.imul, 1) := by decide +kernel
theorem dX9_findPairs_58 : decode cX9_findPairs 58 = .ok (.iload 6, 2) := by decide +kernel
theorem dX9_findPairs_60 : decode cX9_findPairs 60 = .ok (.iadd, 1) := by decide +kernel
theorem dX9_findPairs_61 : decode cX9_findPairs 61 = .ok (.iconst 1, 1) := by decide +kernel
theorem dX9_findPairs_62 : decode cX9_findPairs 62 = .ok (.isub, 1) := by decide +kernel
theorem dX9_findPairs_63 : decode cX9_findPairs 63 = .ok (.iaload, 1) := by decide +kernel
theorem dX9_findPairs_64 : decode cX9_findPairs 64 = .ok (.istore 7, 2) := by decide +kernel
theorem dX9_findPairs_66 : decode cX9_findPairs 66 = .ok (.iload 5, 2) := by decide +kernel
theorem dX9_findPairs_68 : decode cX9_findPairs 68 = .ok (.ifCond .le 40, 3) := by decide +kernel
theorem dX9_findPairs_71 : decode cX9_findPairs 71 = .ok (.aload_n 0, 1) := by decide +kernel
theorem dX9_findPairs_72 : decode cX9_findPairs 72 = .ok (.getfield 40, 3) := by decide +kernel
theorem dX9_findPairs_75 : decode cX9_findPairs 75 = .ok (.bipush 30, 2) := by decide +kernel
theorem dX9_findPairs_77 : decode cX9_findPairs 77 = .ok (.iload 5, 2) := by decide +kernel
theorem dX9_findPairs_79 : decode cX9_findPairs 79 = .ok (.iconst 1, 1) := by decide +kernel
theorem dX9_findPairs_80 : decode cX9_findPairs 80 = .ok (.isub, 1) := by decide +kernel
theorem dX9_findPairs_81 : decode cX9_findPairs 81 = .ok (.imul, 1) := by decide +kernel
theorem dX9_findPairs_82 : decode cX9_findPairs 82 = .ok (.iload 6, 2) := by decide +kernel
theorem dX9_findPairs_84 : decode cX9_findPairs 84 = .ok (.iadd, 1) := by decide +kernel
theorem dX9_findPairs_85 : decode cX9_findPairs 85 = .ok (.iaload, 1) := by decide +kernel
theorem dX9_findPairs_86 : decode cX9_findPairs 86 = .ok (.iload 7, 2) := by decide +kernel
theorem dX9_findPairs_88 : decode cX9_findPairs 88 = .ok (.if_icmp .ge 20, 3) := by decide +kernel
theorem dX9_findPairs_91 : decode cX9_findPairs 91 = .ok (.aload_n 0, 1) := by decide +kernel
theorem dX9_findPairs_92 : decode cX9_findPairs 92 = .ok (.getfield 40, 3) := by decide +kernel
theorem dX9_findPairs_95 : decode cX9_findPairs 95 = .ok (.bipush 30, 2) := by decide +kernel
theorem dX9_findPairs_97 : decode cX9_findPairs 97 = .ok (.iload 5, 2) := by decide +kernel
theorem dX9_findPairs_99 : decode cX9_findPairs 99 = .ok (.iconst 1, 1) := by decide +kernel
theorem dX9_findPairs_100 : decode cX9_findPairs 100 = .ok (.isub, 1) := by decide +kernel
theorem dX9_findPairs_101 : decode cX9_findPairs 101 = .ok (.imul, 1) := by decide +kernel
theorem dX9_findPairs_102 : decode cX9_findPairs 102 = .ok (.iload 6, 2) := by decide +kernel
theorem dX9_findPairs_104 : decode cX9_findPairs 104 = .ok (.iadd, 1) := by decide +kernel
theorem dX9_findPairs_105 : decode cX9_findPairs 105 = .ok (.iaload, 1) := by decide +kernel
theorem dX9_findPairs_106 : decode cX9_findPairs 106 = .ok (.istore 7, 2) := by decide +kernel
theorem dX9_findPairs_108 : decode cX9_findPairs 108 = .ok (.iload 6, 2) := by decide +kernel
theorem dX9_findPairs_110 : decode cX9_findPairs 110 = .ok (.ifCond .le 40, 3) := by decide +kernel
theorem dX9_findPairs_113 : decode cX9_findPairs 113 = .ok (.aload_n 0, 1) := by decide +kernel
theorem dX9_findPairs_114 : decode cX9_findPairs 114 = .ok (.getfield 40, 3) := by decide +kernel
theorem dX9_findPairs_117 : decode cX9_findPairs 117 = .ok (.bipush 30, 2) := by decide +kernel
theorem dX9_findPairs_119 : decode cX9_findPairs 119 = .ok (.iload 5, 2) := by decide +kernel
theorem dX9_findPairs_121 : decode cX9_findPairs 121 = .ok (.imul, 1) := by decide +kernel
theorem dX9_findPairs_122 : decode cX9_findPairs 122 = .ok (.iload 6, 2) := by decide +kernel
theorem dX9_findPairs_124 : decode cX9_findPairs 124 = .ok (.iadd, 1) := by decide +kernel
theorem dX9_findPairs_125 : decode cX9_findPairs 125 = .ok (.iconst 1, 1) := by decide +kernel
theorem dX9_findPairs_126 : decode cX9_findPairs 126 = .ok (.isub, 1) := by decide +kernel
theorem dX9_findPairs_127 : decode cX9_findPairs 127 = .ok (.iaload, 1) := by decide +kernel
theorem dX9_findPairs_128 : decode cX9_findPairs 128 = .ok (.iload 7, 2) := by decide +kernel
theorem dX9_findPairs_130 : decode cX9_findPairs 130 = .ok (.if_icmp .ge 20, 3) := by decide +kernel
theorem dX9_findPairs_133 : decode cX9_findPairs 133 = .ok (.aload_n 0, 1) := by decide +kernel
theorem dX9_findPairs_134 : decode cX9_findPairs 134 = .ok (.getfield 40, 3) := by decide +kernel
theorem dX9_findPairs_137 : decode cX9_findPairs 137 = .ok (.bipush 30, 2) := by decide +kernel
theorem dX9_findPairs_139 : decode cX9_findPairs 139 = .ok (.iload 5, 2) := by decide +kernel
theorem dX9_findPairs_141 : decode cX9_findPairs 141 = .ok (.imul, 1) := by decide +kernel
theorem dX9_findPairs_142 : decode cX9_findPairs 142 = .ok (.iload 6, 2) := by decide +kernel
theorem dX9_findPairs_144 : decode cX9_findPairs 144 = .ok (.iadd, 1) := by decide +kernel
theorem dX9_findPairs_145 : decode cX9_findPairs 145 = .ok (.iconst 1, 1) := by decide +kernel
theorem dX9_findPairs_146 : decode cX9_findPairs 146 = .ok (.isub, 1) := by decide +kernel
theorem dX9_findPairs_147 : decode cX9_findPairs 147 = .ok (.iaload, 1) := by decide +kernel
theorem dX9_findPairs_148 : decode cX9_findPairs 148 = .ok (.istore 7, 2) := by decide +kernel
theorem dX9_findPairs_150 : decode cX9_findPairs 150 = .ok (.aload_n 0, 1) := by decide +kernel
theorem dX9_findPairs_151 : decode cX9_findPairs 151 = .ok (.getfield 40, 3) := by decide +kernel
theorem dX9_findPairs_154 : decode cX9_findPairs 154 = .ok (.bipush 30, 2) := by decide +kernel
theorem dX9_findPairs_156 : decode cX9_findPairs 156 = .ok (.iload 5, 2) := by decide +kernel
theorem dX9_findPairs_158 : decode cX9_findPairs 158 = .ok (.imul, 1) := by decide +kernel
theorem dX9_findPairs_159 : decode cX9_findPairs 159 = .ok (.iload 6, 2) := by decide +kernel
theorem dX9_findPairs_161 : decode cX9_findPairs 161 = .ok (.iadd, 1) := by decide +kernel
theorem dX9_findPairs_162 : decode cX9_findPairs 162 = .ok (.iload 7, 2) := by decide +kernel
theorem dX9_findPairs_164 : decode cX9_findPairs 164 = .ok (.aload_n 0, 1) := by decide +kernel
theorem dX9_findPairs_165 : decode cX9_findPairs 165 = .ok (.iload_n 1, 1) := by decide +kernel
theorem dX9_findPairs_166 : decode cX9_findPairs 166 = .ok (.iload 5, 2) := by decide +kernel
theorem dX9_findPairs_168 : decode cX9_findPairs 168 = .ok (.iload_n 3, 1) := by decide +kernel
theorem dX9_findPairs_169 : decode cX9_findPairs 169 = .ok (.iload 6, 2) := by decide +kernel
theorem dX9_findPairs_171 : decode cX9_findPairs 171 = .ok (.invokevirtual 158, 3) := by decide +kernel
theorem dX9_findPairs_174 : decode cX9_findPairs 174 = .ok (.iadd, 1) := by decide +kernel
theorem dX9_findPairs_175 : decode cX9_findPairs 175 = .ok (.iastore, 1) := by decide +kernel
theorem dX9_findPairs_176 : decode cX9_findPairs 176 = .ok (.iinc 6 1, 3) := by decide +kernel
theorem dX9_findPairs_179 : decode cX9_findPairs 179 = .ok (.goto (-167), 3) := by decide +kernel
theorem dX9_findPairs_182 : decode cX9_findPairs 182 = .ok (.iinc 5 1, 3) := by decide +kernel
theorem dX9_findPairs_185 : decode cX9_findPairs 185 = .ok (.goto (-182), 3) := by decide +kernel
theorem dX9_findPairs_188 : decode cX9_findPairs 188 = .ok (.aload_n 0, 1) := by decide +kernel
theorem dX9_findPairs_189 : decode cX9_findPairs 189 = .ok (.iconst 0, 1) := by decide +kernel
theorem dX9_findPairs_190 : decode cX9_findPairs 190 = .ok (.putfield 161, 3) := by decide +kernel
theorem dX9_findPairs_193 : decode cX9_findPairs 193 = .ok (.iload_n 2, 1) := by decide +kernel
theorem dX9_findPairs_194 : decode cX9_findPairs 194 = .ok (.iconst 1, 1) := by decide +kernel
theorem dX9_findPairs_195 : decode cX9_findPairs 195 = .ok (.isub, 1) := by decide +kernel
theorem dX9_findPairs_196 : decode cX9_findPairs 196 = .ok (.istore 5, 2) := by decide +kernel
theorem dX9_findPairs_198 : decode cX9_findPairs 198 = .ok (.iload 4, 2) := by decide +kernel
theorem dX9_findPairs_200 : decode cX9_findPairs 200 = .ok (.iconst 1, 1) := by decide +kernel
theorem dX9_findPairs_201 : decode cX9_findPairs 201 = .ok (.isub, 1) := by decide +kernel
theorem dX9_findPairs_202 : decode cX9_findPairs 202 = .ok (.istore 6, 2) := by decide +kernel
theorem dX9_findPairs_204 : decode cX9_findPairs 204 = .ok (.iconst 1, 1) := by decide +kernel
theorem dX9_findPairs_205 : decode cX9_findPairs 205 = .ok (.istore 7, 2) := by decide +kernel
theorem dX9_findPairs_207 : decode cX9_findPairs 207 = .ok (.iload 7, 2) := by decide +kernel
theorem dX9_findPairs_209 : decode cX9_findPairs 209 = .ok (.ifCond .eq 156, 3) := by decide +kernel
theorem dX9_findPairs_212 : decode cX9_findPairs 212 = .ok (.aload_n 0, 1) := by decide +kernel
theorem dX9_findPairs_213 : decode cX9_findPairs 213 = .ok (.getfield 43, 3) := by decide +kernel
theorem dX9_findPairs_216 : decode cX9_findPairs 216 = .ok (.aload_n 0, 1) := by decide +kernel
theorem dX9_findPairs_217 : decode cX9_findPairs 217 = .ok (.getfield 161, 3) := by decide +kernel
theorem dX9_findPairs_220 : decode cX9_findPairs 220 = .ok (.iload 5, 2) := by decide +kernel
theorem dX9_findPairs_222 : decode cX9_findPairs 222 = .ok (.iastore, 1) := by decide +kernel
theorem dX9_findPairs_223 : decode cX9_findPairs 223 = .ok (.aload_n 0, 1) := by decide +kernel
theorem dX9_findPairs_224 : decode cX9_findPairs 224 = .ok (.getfield 46, 3) := by decide +kernel
theorem dX9_findPairs_227 : decode cX9_findPairs 227 = .ok (.aload_n 0, 1) := by decide +kernel
theorem dX9_findPairs_228 : decode cX9_findPairs 228 = .ok (.getfield 161, 3) := by decide +kernel
theorem dX9_findPairs_231 : decode cX9_findPairs 231 = .ok (.iload 6, 2) := by decide +kernel
theorem dX9_findPairs_233 : decode cX9_findPairs 233 = .ok (.iastore, 1) := by decide +kernel
theorem dX9_findPairs_234 : decode cX9_findPairs 234 = .ok (.aload_n 0, 1) := by decide +kernel
theorem dX9_findPairs_235 : decode cX9_findPairs 235 = .ok (.dup, 1) := by decide +kernel
theorem dX9_findPairs_236 : decode cX9_findPairs 236 = .ok (.getfield 161, 3) := by decide +kernel
theorem dX9_findPairs_239 : decode cX9_findPairs 239 = .ok (.iconst 1, 1) := by decide +kernel
theorem dX9_findPairs_240 : decode cX9_findPairs 240 = .ok (.iadd, 1) := by decide +kernel
theorem dX9_findPairs_241 : decode cX9_findPairs 241 = .ok (.putfield 161, 3) := by decide +kernel
theorem dX9_findPairs_244 : decode cX9_findPairs 244 = .ok (.aload_n 0, 1) := by decide +kernel
theorem dX9_findPairs_245 : decode cX9_findPairs 245 = .ok (.getfield 40, 3) := by decide +kernel
theorem dX9_findPairs_248 : decode cX9_findPairs 248 = .ok (.bipush 30, 2) := by decide +kernel
theorem dX9_findPairs_250 : decode cX9_findPairs 250 = .ok (.iload 5, 2) := by decide +kernel
theorem dX9_findPairs_252 : decode cX9_findPairs 252 = .ok (.imul, 1) := by decide +kernel
theorem dX9_findPairs_253 : decode cX9_findPairs 253 = .ok (.iload 6, 2) := by decide +kernel
theorem dX9_findPairs_255 : decode cX9_findPairs 255 = .ok (.iadd, 1) := by decide +kernel
theorem dX9_findPairs_256 : decode cX9_findPairs 256 = .ok (.iaload, 1) := by decide +kernel
theorem dX9_findPairs_257 : decode cX9_findPairs 257 = .ok (.aload_n 0, 1) := by decide +kernel
theorem dX9_findPairs_258 : decode cX9_findPairs 258 = .ok (.iload_n 1, 1) := by decide +kernel
theorem dX9_findPairs_259 : decode cX9_findPairs 259 = .ok (.iload 5, 2) := by decide +kernel
theorem dX9_findPairs_261 : decode cX9_findPairs 261 = .ok (.iload_n 3, 1) := by decide +kernel
theorem dX9_findPairs_262 : decode cX9_findPairs 262 = .ok (.iload 6, 2) := by decide +kernel
theorem dX9_findPairs_264 : decode cX9_findPairs 264 = .ok (.invokevirtual 158, 3) := by decide +kernel
theorem dX9_findPairs_267 : decode cX9_findPairs 267 = .ok (.isub, 1) := by decide +kernel
theorem dX9_findPairs_268 : decode cX9_findPairs 268 = .ok (.istore 8, 2) := by decide +kernel
theorem dX9_findPairs_270 : decode cX9_findPairs 270 = .ok (.iload 5, 2) := by decide +kernel
theorem dX9_findPairs_272 : decode cX9_findPairs 272 = .ok (.ifCond .gt 8, 3) := by decide +kernel
theorem dX9_findPairs_275 : decode cX9_findPairs 275 = .ok (.iload 6, 2) := by decide +kernel
theorem dX9_findPairs_277 : decode cX9_findPairs 277 = .ok (.ifCond .le 7, 3) := by decide +kernel
theorem dX9_findPairs_280 : decode cX9_findPairs 280 = .ok (.iconst 1, 1) := by decide +kernel
theorem dX9_findPairs_281 : decode cX9_findPairs 281 = .ok (.goto 4, 3) := by decide +kernel
theorem dX9_findPairs_284 : decode cX9_findPairs 284 = .ok (.iconst 0, 1) := by decide +kernel
theorem dX9_findPairs_285 : decode cX9_findPairs 285 = .ok (.istore 7, 2) := by decide +kernel
theorem dX9_findPairs_287 : decode cX9_findPairs 287 = .ok (.iload 5, 2) := by decide +kernel
theorem dX9_findPairs_289 : decode cX9_findPairs 289 = .ok (.ifCond .le 39, 3) := by decide +kernel
theorem dX9_findPairs_292 : decode cX9_findPairs 292 = .ok (.iload 6, 2) := by decide +kernel
theorem dX9_findPairs_294 : decode cX9_findPairs 294 = .ok (.ifCond .le 34, 3) := by decide +kernel
theorem dX9_findPairs_297 : decode cX9_findPairs 297 = .ok (.aload_n 0, 1) := by decide +kernel
theorem dX9_findPairs_298 : decode cX9_findPairs 298 = .ok (.getfield 40, 3) := by decide +kernel
theorem dX9_findPairs_301 : decode cX9_findPairs 301 = .ok (.bipush 30, 2) := by decide +kernel
theorem dX9_findPairs_303 : decode cX9_findPairs 303 = .ok (.iload 5, 2) := by decide +kernel
theorem dX9_findPairs_305 : decode cX9_findPairs 305 = .ok (.iconst 1, 1) := by decide +kernel
theorem dX9_findPairs_306 : decode cX9_findPairs 306 = .ok (.isub, 1) := by decide +kernel
theorem dX9_findPairs_307 : decode cX9_findPairs 307 = .ok (.imul, 1) := by decide +kernel
theorem dX9_findPairs_308 : decode cX9_findPairs 308 = .ok (.iload 6, 2) := by decide +kernel
theorem dX9_findPairs_310 : decode cX9_findPairs 310 = .ok (.iadd, 1) := by decide +kernel
theorem dX9_findPairs_311 : decode cX9_findPairs 311 = .ok (.iconst 1, 1) := by decide +kernel
theorem dX9_findPairs_312 : decode cX9_findPairs 312 = .ok (.isub, 1) := by decide +kernel
theorem dX9_findPairs_313 : decode cX9_findPairs 313 = .ok (.iaload, 1) := by decide +kernel
theorem dX9_findPairs_314 : decode cX9_findPairs 314 = .ok (.iload 8, 2) := by decide +kernel
theorem dX9_findPairs_316 : decode cX9_findPairs 316 = .ok (.if_icmp .ne 12, 3) := by decide +kernel
theorem dX9_findPairs_319 : decode cX9_findPairs 319 = .ok (.iinc 5 (-1), 3) := by decide +kernel
theorem dX9_findPairs_322 : decode cX9_findPairs 322 = .ok (.iinc 6 (-1), 3) := by decide +kernel
theorem dX9_findPairs_325 : decode cX9_findPairs 325 = .ok (.goto 37, 3) := by decide +kernel
theorem dX9_findPairs_328 : decode cX9_findPairs 328 = .ok (.iload 5, 2) := by decide +kernel
theorem dX9_findPairs_330 : decode cX9_findPairs 330 = .ok (.ifCond .le 29, 3) := by decide +kernel
theorem dX9_findPairs_333 : decode cX9_findPairs 333 = .ok (.aload_n 0, 1) := by decide +kernel
theorem dX9_findPairs_334 : decode cX9_findPairs 334 = .ok (.getfield 40, 3) := by decide +kernel
theorem dX9_findPairs_337 : decode cX9_findPairs 337 = .ok (.bipush 30, 2) := by decide +kernel
theorem dX9_findPairs_339 : decode cX9_findPairs 339 = .ok (.iload 5, 2) := by decide +kernel
theorem dX9_findPairs_341 : decode cX9_findPairs 341 = .ok (.iconst 1, 1) := by decide +kernel
theorem dX9_findPairs_342 : decode cX9_findPairs 342 = .ok (.isub, 1) := by decide +kernel
theorem dX9_findPairs_343 : decode cX9_findPairs 343 = .ok (.imul, 1) := by decide +kernel
theorem dX9_findPairs_344 : decode cX9_findPairs 344 = .ok (.iload 6, 2) := by decide +kernel
theorem dX9_findPairs_346 : decode cX9_findPairs 346 = .ok (.iadd, 1) := by decide +kernel
theorem dX9_findPairs_347 : decode cX9_findPairs 347 = .ok (.iaload, 1) := by decide +kernel
theorem dX9_findPairs_348 : decode cX9_findPairs 348 = .ok (.iload 8, 2) := by decide +kernel
theorem dX9_findPairs_350 : decode cX9_findPairs 350 = .ok (.if_icmp .ne 9, 3) := by decide +kernel
theorem dX9_findPairs_353 : decode cX9_findPairs 353 = .ok (.iinc 5 (-1), 3) := by decide +kernel
theorem dX9_findPairs_356 : decode cX9_findPairs 356 = .ok (.goto 6, 3) := by decide +kernel
theorem dX9_findPairs_359 : decode cX9_findPairs 359 = .ok (.iinc 6 (-1), 3) := by decide +kernel
theorem dX9_findPairs_362 : decode cX9_findPairs 362 = .ok (.goto (-155), 3) := by decide +kernel
theorem dX9_findPairs_365 : decode cX9_findPairs 365 = .ok (.return_, 1) := by decide +kernel
theorem dX9_pairs_0 : decode cX9_pairs 0 = .ok (.aload_n 0, 1) := by decide +kernel
theorem dX9_pairs_1 : decode cX9_pairs 1 = .ok (.iconst 0, 1) := by decide +kernel
theorem dX9_pairs_2 : decode cX9_pairs 2 = .ok (.putfield 52, 3) := by decide +kernel
theorem dX9_pairs_5 : decode cX9_pairs 5 = .ok (.iload 5, 2) := by decide +kernel
theorem dX9_pairs_7 : decode cX9_pairs 7 = .ok (.i2l, 1) := by decide +kernel
theorem dX9_pairs_8 : decode cX9_pairs 8 = .ok (.lconst 0, 1) := by decide +kernel
theorem dX9_pairs_9 : decode cX9_pairs 9 = .ok (.ldc2_w 139, 3) := by decide +kernel
theorem dX9_pairs_12 : decode cX9_pairs 12 = .ok (.invokestatic 62, 3) := by decide +kernel
theorem dX9_pairs_15 : decode cX9_pairs 15 = .ok (.ifCond .ne 6, 3) := by decide +kernel
theorem dX9_pairs_18 : decode cX9_pairs 18 = .ok (.ldc 72, 2) := by decide +kernel
theorem dX9_pairs_20 : decode cX9_pairs 20 = .ok (.ireturn, 1) := by decide +kernel
theorem dX9_pairs_21 : decode cX9_pairs 21 = .ok (.aload_n 0, 1) := by decide +kernel
theorem dX9_pairs_22 : decode cX9_pairs 22 = .ok (.iload_n 1, 1) := by decide +kernel
theorem dX9_pairs_23 : decode cX9_pairs 23 = .ok (.iload_n 2, 1) := by decide +kernel
theorem dX9_pairs_24 : decode cX9_pairs 24 = .ok (.iload_n 3, 1) := by decide +kernel
theorem dX9_pairs_25 : decode cX9_pairs 25 = .ok (.iload 4, 2) := by decide +kernel
theorem dX9_pairs_27 : decode cX9_pairs 27 = .ok (.invokevirtual 164, 3) := by decide +kernel
theorem dX9_pairs_30 : decode cX9_pairs 30 = .ok (.istore 6, 2) := by decide +kernel
theorem dX9_pairs_32 : decode cX9_pairs 32 = .ok (.iload 6, 2) := by decide +kernel
theorem dX9_pairs_34 : decode cX9_pairs 34 = .ok (.ifCond .ge 6, 3) := by decide +kernel
theorem dX9_pairs_37 : decode cX9_pairs 37 = .ok (.iload 6, 2) := by decide +kernel
theorem dX9_pairs_39 : decode cX9_pairs 39 = .ok (.ireturn, 1) := by decide +kernel
theorem dX9_pairs_40 : decode cX9_pairs 40 = .ok (.aload_n 0, 1) := by decide +kernel
theorem dX9_pairs_41 : decode cX9_pairs 41 = .ok (.iload_n 1, 1) := by decide +kernel
theorem dX9_pairs_42 : decode cX9_pairs 42 = .ok (.iload_n 2, 1) := by decide +kernel
theorem dX9_pairs_43 : decode cX9_pairs 43 = .ok (.iload_n 3, 1) := by decide +kernel
theorem dX9_pairs_44 : decode cX9_pairs 44 = .ok (.iload 4, 2) := by decide +kernel
theorem dX9_pairs_46 : decode cX9_pairs 46 = .ok (.invokevirtual 167, 3) := by decide +kernel
theorem dX9_pairs_49 : decode cX9_pairs 49 = .ok (.iconst 0, 1) := by decide +kernel
theorem dX9_pairs_50 : decode cX9_pairs 50 = .ok (.istore 7, 2) := by decide +kernel
theorem dX9_pairs_52 : decode cX9_pairs 52 = .ok (.iconst 0, 1) := by decide +kernel
theorem dX9_pairs_53 : decode cX9_pairs 53 = .ok (.istore 8, 2) := by decide +kernel
theorem dX9_pairs_55 : decode cX9_pairs 55 = .ok (.iconst 0, 1) := by decide +kernel
theorem dX9_pairs_56 : decode cX9_pairs 56 = .ok (.istore 9, 2) := by decide +kernel
theorem dX9_pairs_58 : decode cX9_pairs 58 = .ok (.iload 9, 2) := by decide +kernel
theorem dX9_pairs_60 : decode cX9_pairs 60 = .ok (.bipush 30, 2) := by decide +kernel
theorem dX9_pairs_62 : decode cX9_pairs 62 = .ok (.if_icmp .ge 109, 3) := by decide +kernel
theorem dX9_pairs_65 : decode cX9_pairs 65 = .ok (.iconst 0, 1) := by decide +kernel
theorem dX9_pairs_66 : decode cX9_pairs 66 = .ok (.istore 10, 2) := by decide +kernel
theorem dX9_pairs_68 : decode cX9_pairs 68 = .ok (.iconst 0, 1) := by decide +kernel
theorem dX9_pairs_69 : decode cX9_pairs 69 = .ok (.istore 11, 2) := by decide +kernel
theorem dX9_pairs_71 : decode cX9_pairs 71 = .ok (.iconst 0, 1) := by decide +kernel
theorem dX9_pairs_72 : decode cX9_pairs 72 = .ok (.istore 12, 2) := by decide +kernel
theorem dX9_pairs_74 : decode cX9_pairs 74 = .ok (.iload 12, 2) := by decide +kernel
theorem dX9_pairs_76 : decode cX9_pairs 76 = .ok (.aload_n 0, 1) := by decide +kernel
theorem dX9_pairs_77 : decode cX9_pairs 77 = .ok (.getfield 161, 3) := by decide +kernel
theorem dX9_pairs_80 : decode cX9_pairs 80 = .ok (.if_icmp .ge 53, 3) := by decide +kernel
theorem dX9_pairs_83 : decode cX9_pairs 83 = .ok (.iload 10, 2) := by decide +kernel
theorem dX9_pairs_85 : decode cX9_pairs 85 = .ok (.aload_n 0, 1) := by decide +kernel
theorem dX9_pairs_86 : decode cX9_pairs 86 = .ok (.getfield 46, 3) := by decide +kernel
theorem dX9_pairs_89 : decode cX9_pairs 89 = .ok (.iload 12, 2) := by decide +kernel
theorem dX9_pairs_91 : decode cX9_pairs 91 = .ok (.iaload, 1) := by decide +kernel
theorem dX9_pairs_92 : decode cX9_pairs 92 = .ok (.iload 9, 2) := by decide +kernel
theorem dX9_pairs_94 : decode cX9_pairs 94 = .ok (.if_icmp .ne 7, 3) := by decide +kernel
theorem dX9_pairs_97 : decode cX9_pairs 97 = .ok (.iconst 1, 1) := by decide +kernel
theorem dX9_pairs_98 : decode cX9_pairs 98 = .ok (.goto 4, 3) := by decide +kernel
theorem dX9_pairs_101 : decode cX9_pairs 101 = .ok (.iconst 0, 1) := by decide +kernel
theorem dX9_pairs_102 : decode cX9_pairs 102 = .ok (.iadd, 1) := by decide +kernel
theorem dX9_pairs_103 : decode cX9_pairs 103 = .ok (.istore 10, 2) := by decide +kernel
theorem dX9_pairs_105 : decode cX9_pairs 105 = .ok (.iload 11, 2) := by decide +kernel
theorem dX9_pairs_107 : decode cX9_pairs 107 = .ok (.aload_n 0, 1) := by decide +kernel
theorem dX9_pairs_108 : decode cX9_pairs 108 = .ok (.getfield 43, 3) := by decide +kernel
theorem dX9_pairs_111 : decode cX9_pairs 111 = .ok (.iload 12, 2) := by decide +kernel
theorem dX9_pairs_113 : decode cX9_pairs 113 = .ok (.iaload, 1) := by decide +kernel
theorem dX9_pairs_114 : decode cX9_pairs 114 = .ok (.iload 9, 2) := by decide +kernel
theorem dX9_pairs_116 : decode cX9_pairs 116 = .ok (.if_icmp .ne 7, 3) := by decide +kernel
theorem dX9_pairs_119 : decode cX9_pairs 119 = .ok (.iconst 1, 1) := by decide +kernel
theorem dX9_pairs_120 : decode cX9_pairs 120 = .ok (.goto 4, 3) := by decide +kernel
theorem dX9_pairs_123 : decode cX9_pairs 123 = .ok (.iconst 0, 1) := by decide +kernel
theorem dX9_pairs_124 : decode cX9_pairs 124 = .ok (.iadd, 1) := by decide +kernel
theorem dX9_pairs_125 : decode cX9_pairs 125 = .ok (.istore 11, 2) := by decide +kernel
theorem dX9_pairs_127 : decode cX9_pairs 127 = .ok (.iinc 12 1, 3) := by decide +kernel
theorem dX9_pairs_130 : decode cX9_pairs 130 = .ok (.goto (-56), 3) := by decide +kernel
theorem dX9_pairs_133 : decode cX9_pairs 133 = .ok (.iload 7, 2) := by decide +kernel
theorem dX9_pairs_135 : decode cX9_pairs 135 = .ok (.iload 10, 2) := by decide +kernel
theorem dX9_pairs_137 : decode cX9_pairs 137 = .ok (.iconst 1, 1) := by decide +kernel
theorem dX9_pairs_138 : decode cX9_pairs 138 = .ok (.if_icmp .le 7, 3) := by decide +kernel
theorem dX9_pairs_141 : decode cX9_pairs 141 = .ok (.iconst 1, 1) := by decide +kernel
theorem dX9_pairs_142 : decode cX9_pairs 142 = .ok (.goto 4, 3) := by decide +kernel
theorem dX9_pairs_145 : decode cX9_pairs 145 = .ok (.iconst 0, 1) := by decide +kernel
theorem dX9_pairs_146 : decode cX9_pairs 146 = .ok (.iadd, 1) := by decide +kernel
theorem dX9_pairs_147 : decode cX9_pairs 147 = .ok (.istore 7, 2) := by decide +kernel
theorem dX9_pairs_149 : decode cX9_pairs 149 = .ok (.iload 8, 2) := by decide +kernel
theorem dX9_pairs_151 : decode cX9_pairs 151 = .ok (.iload 11, 2) := by decide +kernel
theorem dX9_pairs_153 : decode cX9_pairs 153 = .ok (.iconst 1, 1) := by decide +kernel
theorem dX9_pairs_154 : decode cX9_pairs 154 = .ok (.if_icmp .le 7, 3) := by decide +kernel
theorem dX9_pairs_157 : decode cX9_pairs 157 = .ok (.iconst 1, 1) := by decide +kernel
theorem dX9_pairs_158 : decode cX9_pairs 158 = .ok (.goto 4, 3) := by decide +kernel
theorem dX9_pairs_161 : decode cX9_pairs 161 = .ok (.iconst 0, 1) := by decide +kernel
theorem dX9_pairs_162 : decode cX9_pairs 162 = .ok (.iadd, 1) := by decide +kernel
theorem dX9_pairs_163 : decode cX9_pairs 163 = .ok (.istore 8, 2) := by decide +kernel
theorem dX9_pairs_165 : decode cX9_pairs 165 = .ok (.iinc 9 1, 3) := by decide +kernel
theorem dX9_pairs_168 : decode cX9_pairs 168 = .ok (.goto (-110), 3) := by decide +kernel
theorem dX9_pairs_171 : decode cX9_pairs 171 = .ok (.iload 5, 2) := by decide +kernel
theorem dX9_pairs_173 : decode cX9_pairs 173 = .ok (.ifCond .ne 22, 3) := by decide +kernel
theorem dX9_pairs_176 : decode cX9_pairs 176 = .ok (.aload_n 0, 1) := by decide +kernel
theorem dX9_pairs_177 : decode cX9_pairs 177 = .ok (.getfield 40, 3) := by decide +kernel
theorem dX9_pairs_180 : decode cX9_pairs 180 = .ok (.bipush 30, 2) := by decide +kernel
theorem dX9_pairs_182 : decode cX9_pairs 182 = .ok (.iload_n 2, 1) := by decide +kernel
theorem dX9_pairs_183 : decode cX9_pairs 183 = .ok (.iconst 1, 1) := by decide +kernel
theorem dX9_pairs_184 : decode cX9_pairs 184 = .ok (.isub, 1) := by decide +kernel
theorem dX9_pairs_185 : decode cX9_pairs 185 = .ok (.imul, 1) := by decide +kernel
theorem dX9_pairs_186 : decode cX9_pairs 186 = .ok (.iload 4, 2) := by decide +kernel
theorem dX9_pairs_188 : decode cX9_pairs 188 = .ok (.iadd, 1) := by decide +kernel
theorem dX9_pairs_189 : decode cX9_pairs 189 = .ok (.iconst 1, 1) := by decide +kernel
theorem dX9_pairs_190 : decode cX9_pairs 190 = .ok (.isub, 1) := by decide +kernel
theorem dX9_pairs_191 : decode cX9_pairs 191 = .ok (.iaload, 1) := by decide +kernel
theorem dX9_pairs_192 : decode cX9_pairs 192 = .ok (.goto 29, 3) := by decide +kernel
theorem dX9_pairs_195 : decode cX9_pairs 195 = .ok (.iload 5, 2) := by decide +kernel
theorem dX9_pairs_197 : decode cX9_pairs 197 = .ok (.iconst 1, 1) := by decide +kernel
theorem dX9_pairs_198 : decode cX9_pairs 198 = .ok (.if_icmp .ne 10, 3) := by decide +kernel
theorem dX9_pairs_201 : decode cX9_pairs 201 = .ok (.aload_n 0, 1) := by decide +kernel
theorem dX9_pairs_202 : decode cX9_pairs 202 = .ok (.getfield 161, 3) := by decide +kernel
theorem dX9_pairs_205 : decode cX9_pairs 205 = .ok (.goto 16, 3) := by decide +kernel
theorem dX9_pairs_208 : decode cX9_pairs 208 = .ok (.iload 5, 2) := by decide +kernel
theorem dX9_pairs_210 : decode cX9_pairs 210 = .ok (.iconst 2, 1) := by decide +kernel
theorem dX9_pairs_211 : decode cX9_pairs 211 = .ok (.if_icmp .ne 8, 3) := by decide +kernel
theorem dX9_pairs_214 : decode cX9_pairs 214 = .ok (.iload 7, 2) := by decide +kernel
theorem dX9_pairs_216 : decode cX9_pairs 216 = .ok (.goto 5, 3) := by decide +kernel
theorem dX9_pairs_219 : decode cX9_pairs 219 = .ok (.iload 8, 2) := by decide +kernel
theorem dX9_pairs_221 : decode cX9_pairs 221 = .ok (.ireturn, 1) := by decide +kernel
theorem dX9_pair_0 : decode cX9_pair 0 = .ok (.aload_n 0, 1) := by decide +kernel
theorem dX9_pair_1 : decode cX9_pair 1 = .ok (.iconst 0, 1) := by decide +kernel
theorem dX9_pair_2 : decode cX9_pair 2 = .ok (.putfield 52, 3) := by decide +kernel
theorem dX9_pair_5 : decode cX9_pair 5 = .ok (.aload_n 0, 1) := by decide +kernel
theorem dX9_pair_6 : decode cX9_pair 6 = .ok (.iload_n 1, 1) := by decide +kernel
theorem dX9_pair_7 : decode cX9_pair 7 = .ok (.iload_n 2, 1) := by decide +kernel
theorem dX9_pair_8 : decode cX9_pair 8 = .ok (.iload_n 3, 1) := by decide +kernel
theorem dX9_pair_9 : decode cX9_pair 9 = .ok (.iload 4, 2) := by decide +kernel
theorem dX9_pair_11 : decode cX9_pair 11 = .ok (.invokevirtual 164, 3) := by decide +kernel
theorem dX9_pair_14 : decode cX9_pair 14 = .ok (.istore 6, 2) := by decide +kernel
theorem dX9_pair_16 : decode cX9_pair 16 = .ok (.iload 6, 2) := by decide +kernel
theorem dX9_pair_18 : decode cX9_pair 18 = .ok (.ifCond .ge 6, 3) := by decide +kernel
theorem dX9_pair_21 : decode cX9_pair 21 = .ok (.iload 6, 2) := by decide +kernel
theorem dX9_pair_23 : decode cX9_pair 23 = .ok (.ireturn, 1) := by decide +kernel
theorem dX9_pair_24 : decode cX9_pair 24 = .ok (.aload_n 0, 1) := by decide +kernel
theorem dX9_pair_25 : decode cX9_pair 25 = .ok (.iload_n 1, 1) := by decide +kernel
theorem dX9_pair_26 : decode cX9_pair 26 = .ok (.iload_n 2, 1) := by decide +kernel
theorem dX9_pair_27 : decode cX9_pair 27 = .ok (.iload_n 3, 1) := by decide +kernel
theorem dX9_pair_28 : decode cX9_pair 28 = .ok (.iload 4, 2) := by decide +kernel
theorem dX9_pair_30 : decode cX9_pair 30 = .ok (.invokevirtual 167, 3) := by decide +kernel
theorem dX9_pair_33 : decode cX9_pair 33 = .ok (.iload 5, 2) := by decide +kernel
theorem dX9_pair_35 : decode cX9_pair 35 = .ok (.i2l, 1) := by decide +kernel
theorem dX9_pair_36 : decode cX9_pair 36 = .ok (.lconst 0, 1) := by decide +kernel
theorem dX9_pair_37 : decode cX9_pair 37 = .ok (.aload_n 0, 1) := by decide +kernel
theorem dX9_pair_38 : decode cX9_pair 38 = .ok (.getfield 161, 3) := by decide +kernel
theorem dX9_pair_41 : decode cX9_pair 41 = .ok (.iconst 1, 1) := by decide +kernel
theorem dX9_pair_42 : decode cX9_pair 42 = .ok (.isub, 1) := by decide +kernel
theorem dX9_pair_43 : decode cX9_pair 43 = .ok (.i2l, 1) := by decide +kernel
theorem dX9_pair_44 : decode cX9_pair 44 = .ok (.invokestatic 62, 3) := by decide +kernel
theorem dX9_pair_47 : decode cX9_pair 47 = .ok (.ifCond .eq 38, 3) := by decide +kernel
theorem dX9_pair_50 : decode cX9_pair 50 = .ok (.bipush 100, 2) := by decide +kernel
theorem dX9_pair_52 : decode cX9_pair 52 = .ok (.aload_n 0, 1) := by decide +kernel
theorem dX9_pair_53 : decode cX9_pair 53 = .ok (.getfield 43, 3) := by decide +kernel
theorem dX9_pair_56 : decode cX9_pair 56 = .ok (.aload_n 0, 1) := by decide +kernel
theorem dX9_pair_57 : decode cX9_pair 57 = .ok (.getfield 161, 3) := by decide +kernel
theorem dX9_pair_60 : decode cX9_pair 60 = .ok (.iconst 1, 1) := by decide +kernel
theorem dX9_pair_61 : decode cX9_pair 61 = .ok (.isub, 1) := by decide +kernel
theorem dX9_pair_62 : decode cX9_pair 62 = .ok (.iload 5, 2) := by decide +kernel
theorem dX9_pair_64 : decode cX9_pair 64 = .ok (.isub, 1) := by decide +kernel
theorem dX9_pair_65 : decode cX9_pair 65 = .ok (.iaload, 1) := by decide +kernel
theorem dX9_pair_66 : decode cX9_pair 66 = .ok (.imul, 1) := by decide +kernel
theorem dX9_pair_67 : decode cX9_pair 67 = .ok (.aload_n 0, 1) := by decide +kernel
theorem dX9_pair_68 : decode cX9_pair 68 = .ok (.getfield 46, 3) := by decide +kernel
theorem dX9_pair_71 : decode cX9_pair 71 = .ok (.aload_n 0, 1) := by decide +kernel
theorem dX9_pair_72 : decode cX9_pair 72 = .ok (.getfield 161, 3) := by decide +kernel
theorem dX9_pair_75 : decode cX9_pair 75 = .ok (.iconst 1, 1) := by decide +kernel
theorem dX9_pair_76 : decode cX9_pair 76 = .ok (.isub, 1) := by decide +kernel
theorem dX9_pair_77 : decode cX9_pair 77 = .ok (.iload 5, 2) := by decide +kernel
theorem dX9_pair_79 : decode cX9_pair 79 = .ok (.isub, 1) := by decide +kernel
theorem dX9_pair_80 : decode cX9_pair 80 = .ok (.iaload, 1) := by decide +kernel
theorem dX9_pair_81 : decode cX9_pair 81 = .ok (.iadd, 1) := by decide +kernel
theorem dX9_pair_82 : decode cX9_pair 82 = .ok (.goto 5, 3) := by decide +kernel
theorem dX9_pair_85 : decode cX9_pair 85 = .ok (.ldc 116, 2) := by decide +kernel
theorem dX9_pair_87 : decode cX9_pair 87 = .ok (.ireturn, 1) := by decide +kernel
theorem dX9_kindOf_0 : decode cX9_kindOf 0 = .ok (.aload_n 0, 1) := by decide +kernel
theorem dX9_kindOf_1 : decode cX9_kindOf 1 = .ok (.iload_n 1, 1) := by decide +kernel
theorem dX9_kindOf_2 : decode cX9_kindOf 2 = .ok (.iconst 0, 1) := by decide +kernel
theorem dX9_kindOf_3 : decode cX9_kindOf 3 = .ok (.iconst 1, 1) := by decide +kernel
theorem dX9_kindOf_4 : decode cX9_kindOf 4 = .ok (.invokevirtual 112, 3) := by decide +kernel
theorem dX9_kindOf_7 : decode cX9_kindOf 7 = .ok (.lstore_n 2, 1) := by decide +kernel
theorem dX9_kindOf_8 : decode cX9_kindOf 8 = .ok (.aload_n 0, 1) := by decide +kernel
theorem dX9_kindOf_9 : decode cX9_kindOf 9 = .ok (.iload_n 1, 1) := by decide +kernel
theorem dX9_kindOf_10 : decode cX9_kindOf 10 = .ok (.iconst 1, 1) := by decide +kernel
theorem dX9_kindOf_11 : decode cX9_kindOf 11 = .ok (.iconst 1, 1) := by decide +kernel
theorem dX9_kindOf_12 : decode cX9_kindOf 12 = .ok (.invokevirtual 112, 3) := by decide +kernel
theorem dX9_kindOf_15 : decode cX9_kindOf 15 = .ok (.lstore 4, 2) := by decide +kernel
theorem dX9_kindOf_17 : decode cX9_kindOf 17 = .ok (.lload_n 2, 1) := by decide +kernel
theorem dX9_kindOf_18 : decode cX9_kindOf 18 = .ok (.lconst 0, 1) := by decide +kernel
theorem dX9_kindOf_19 : decode cX9_kindOf 19 = .ok (.lcmp, 1) := by decide +kernel
theorem dX9_kindOf_20 : decode cX9_kindOf 20 = .ok (.ifCond .le 112, 3) := by decide +kernel
theorem dX9_kindOf_23 : decode cX9_kindOf 23 = .ok (.lload 4, 2) := by decide +kernel
theorem dX9_kindOf_25 : decode cX9_kindOf 25 = .ok (.lconst 0, 1) := by decide +kernel
theorem dX9_kindOf_26 : decode cX9_kindOf 26 = .ok (.lcmp, 1) := by decide +kernel
theorem dX9_kindOf_27 : decode cX9_kindOf 27 = .ok (.ifCond .le 105, 3) := by decide +kernel
theorem dX9_kindOf_30 : decode cX9_kindOf 30 = .ok (.iconst 1, 1) := by decide +kernel
theorem dX9_kindOf_31 : decode cX9_kindOf 31 = .ok (.istore 6, 2) := by decide +kernel
theorem dX9_kindOf_33 : decode cX9_kindOf 33 = .ok (.iconst 0, 1) := by decide +kernel
theorem dX9_kindOf_34 : decode cX9_kindOf 34 = .ok (.istore 7, 2) := by decide +kernel
theorem dX9_kindOf_36 : decode cX9_kindOf 36 = .ok (.iload 7, 2) := by decide +kernel
theorem dX9_kindOf_38 : decode cX9_kindOf 38 = .ok (.iconst 3, 1) := by decide +kernel
theorem dX9_kindOf_39 : decode cX9_kindOf 39 = .ok (.if_icmp .ge 82, 3) := by decide +kernel
theorem dX9_kindOf_42 : decode cX9_kindOf 42 = .ok (.aload_n 0, 1) := by decide +kernel
theorem dX9_kindOf_43 : decode cX9_kindOf 43 = .ok (.getfield 22, 3) := by decide +kernel
theorem dX9_kindOf_46 : decode cX9_kindOf 46 = .ok (.iconst 3, 1) := by decide +kernel
theorem dX9_kindOf_47 : decode cX9_kindOf 47 = .ok (.iload_n 1, 1) := by decide +kernel
theorem dX9_kindOf_48 : decode cX9_kindOf 48 = .ok (.imul, 1) := by decide +kernel
theorem dX9_kindOf_49 : decode cX9_kindOf 49 = .ok (.iload 7, 2) := by decide +kernel
theorem dX9_kindOf_51 : decode cX9_kindOf 51 = .ok (.iadd, 1) := by decide +kernel
theorem dX9_kindOf_52 : decode cX9_kindOf 52 = .ok (.iaload, 1) := by decide +kernel
theorem dX9_kindOf_53 : decode cX9_kindOf 53 = .ok (.istore 8, 2) := by decide +kernel
theorem dX9_kindOf_55 : decode cX9_kindOf 55 = .ok (.iload 6, 2) := by decide +kernel
theorem dX9_kindOf_57 : decode cX9_kindOf 57 = .ok (.ifCond .eq 55, 3) := by decide +kernel
theorem dX9_kindOf_60 : decode cX9_kindOf 60 = .ok (.aload_n 0, 1) := by decide +kernel
theorem dX9_kindOf_61 : decode cX9_kindOf 61 = .ok (.getfield 19, 3) := by decide +kernel
theorem dX9_kindOf_64 : decode cX9_kindOf 64 = .ok (.iconst 4, 1) := by decide +kernel
theorem dX9_kindOf_65 : decode cX9_kindOf 65 = .ok (.iload 8, 2) := by decide +kernel
theorem dX9_kindOf_67 : decode cX9_kindOf 67 = .ok (.imul, 1) := by decide +kernel
theorem dX9_kindOf_68 : decode cX9_kindOf 68 = .ok (.iaload, 1) := by decide +kernel
theorem dX9_kindOf_69 : decode cX9_kindOf 69 = .ok (.aload_n 0, 1) := by decide +kernel
theorem dX9_kindOf_70 : decode cX9_kindOf 70 = .ok (.getfield 19, 3) := by decide +kernel
theorem dX9_kindOf_73 : decode cX9_kindOf 73 = .ok (.iconst 4, 1) := by decide +kernel
theorem dX9_kindOf_74 : decode cX9_kindOf 74 = .ok (.iload 8, 2) := by decide +kernel
theorem dX9_kindOf_76 : decode cX9_kindOf 76 = .ok (.imul, 1) := by decide +kernel
theorem dX9_kindOf_77 : decode cX9_kindOf 77 = .ok (.iconst 2, 1) := by decide +kernel
theorem dX9_kindOf_78 : decode cX9_kindOf 78 = .ok (.iadd, 1) := by decide +kernel
theorem dX9_kindOf_79 : decode cX9_kindOf 79 = .ok (.iaload, 1) := by decide +kernel
theorem dX9_kindOf_80 : decode cX9_kindOf 80 = .ok (.if_icmp .ne 32, 3) := by decide +kernel
theorem dX9_kindOf_83 : decode cX9_kindOf 83 = .ok (.aload_n 0, 1) := by decide +kernel
theorem dX9_kindOf_84 : decode cX9_kindOf 84 = .ok (.getfield 19, 3) := by decide +kernel
theorem dX9_kindOf_87 : decode cX9_kindOf 87 = .ok (.iconst 4, 1) := by decide +kernel
theorem dX9_kindOf_88 : decode cX9_kindOf 88 = .ok (.iload 8, 2) := by decide +kernel
theorem dX9_kindOf_90 : decode cX9_kindOf 90 = .ok (.imul, 1) := by decide +kernel
theorem dX9_kindOf_91 : decode cX9_kindOf 91 = .ok (.iconst 1, 1) := by decide +kernel
theorem dX9_kindOf_92 : decode cX9_kindOf 92 = .ok (.iadd, 1) := by decide +kernel
theorem dX9_kindOf_93 : decode cX9_kindOf 93 = .ok (.iaload, 1) := by decide +kernel
theorem dX9_kindOf_94 : decode cX9_kindOf 94 = .ok (.aload_n 0, 1) := by decide +kernel
theorem dX9_kindOf_95 : decode cX9_kindOf 95 = .ok (.getfield 19, 3) := by decide +kernel
theorem dX9_kindOf_98 : decode cX9_kindOf 98 = .ok (.iconst 4, 1) := by decide +kernel
theorem dX9_kindOf_99 : decode cX9_kindOf 99 = .ok (.iload 8, 2) := by decide +kernel
theorem dX9_kindOf_101 : decode cX9_kindOf 101 = .ok (.imul, 1) := by decide +kernel
theorem dX9_kindOf_102 : decode cX9_kindOf 102 = .ok (.iconst 3, 1) := by decide +kernel
theorem dX9_kindOf_103 : decode cX9_kindOf 103 = .ok (.iadd, 1) := by decide +kernel
theorem dX9_kindOf_104 : decode cX9_kindOf 104 = .ok (.iaload, 1) := by decide +kernel
theorem dX9_kindOf_105 : decode cX9_kindOf 105 = .ok (.if_icmp .ne 7, 3) := by decide +kernel
theorem dX9_kindOf_108 : decode cX9_kindOf 108 = .ok (.iconst 1, 1) := by decide +kernel
theorem dX9_kindOf_109 : decode cX9_kindOf 109 = .ok (.goto 4, 3) := by decide +kernel
theorem dX9_kindOf_112 : decode cX9_kindOf 112 = .ok (.iconst 0, 1) := by decide +kernel
theorem dX9_kindOf_113 : decode cX9_kindOf 113 = .ok (.istore 6, 2) := by decide +kernel
theorem dX9_kindOf_115 : decode cX9_kindOf 115 = .ok (.iinc 7 1, 3) := by decide +kernel
theorem dX9_kindOf_118 : decode cX9_kindOf 118 = .ok (.goto (-82), 3) := by decide +kernel
theorem dX9_kindOf_121 : decode cX9_kindOf 121 = .ok (.iload 6, 2) := by decide +kernel
theorem dX9_kindOf_123 : decode cX9_kindOf 123 = .ok (.ifCond .eq 7, 3) := by decide +kernel
theorem dX9_kindOf_126 : decode cX9_kindOf 126 = .ok (.iconst 2, 1) := by decide +kernel
theorem dX9_kindOf_127 : decode cX9_kindOf 127 = .ok (.goto 4, 3) := by decide +kernel
theorem dX9_kindOf_130 : decode cX9_kindOf 130 = .ok (.iconst 1, 1) := by decide +kernel
theorem dX9_kindOf_131 : decode cX9_kindOf 131 = .ok (.ireturn, 1) := by decide +kernel
theorem dX9_kindOf_132 : decode cX9_kindOf 132 = .ok (.lload_n 2, 1) := by decide +kernel
theorem dX9_kindOf_133 : decode cX9_kindOf 133 = .ok (.lconst 0, 1) := by decide +kernel
theorem dX9_kindOf_134 : decode cX9_kindOf 134 = .ok (.lcmp, 1) := by decide +kernel
theorem dX9_kindOf_135 : decode cX9_kindOf 135 = .ok (.ifCond .eq 10, 3) := by decide +kernel
theorem dX9_kindOf_138 : decode cX9_kindOf 138 = .ok (.lload 4, 2) := by decide +kernel
theorem dX9_kindOf_140 : decode cX9_kindOf 140 = .ok (.lconst 0, 1) := by decide +kernel
theorem dX9_kindOf_141 : decode cX9_kindOf 141 = .ok (.lcmp, 1) := by decide +kernel
theorem dX9_kindOf_142 : decode cX9_kindOf 142 = .ok (.ifCond .ne 7, 3) := by decide +kernel
theorem dX9_kindOf_145 : decode cX9_kindOf 145 = .ok (.iconst 3, 1) := by decide +kernel
theorem dX9_kindOf_146 : decode cX9_kindOf 146 = .ok (.goto 4, 3) := by decide +kernel
theorem dX9_kindOf_149 : decode cX9_kindOf 149 = .ok (.iconst 4, 1) := by decide +kernel
theorem dX9_kindOf_150 : decode cX9_kindOf 150 = .ok (.ireturn, 1) := by decide +kernel
theorem dX9_kind_0 : decode cX9_kind 0 = .ok (.aload_n 0, 1) := by decide +kernel
theorem dX9_kind_1 : decode cX9_kind 1 = .ok (.iconst 0, 1) := by decide +kernel
theorem dX9_kind_2 : decode cX9_kind 2 = .ok (.putfield 52, 3) := by decide +kernel
theorem dX9_kind_5 : decode cX9_kind 5 = .ok (.aload_n 0, 1) := by decide +kernel
theorem dX9_kind_6 : decode cX9_kind 6 = .ok (.iload_n 1, 1) := by decide +kernel
theorem dX9_kind_7 : decode cX9_kind 7 = .ok (.invokevirtual 107, 3) := by decide +kernel
theorem dX9_kind_10 : decode cX9_kind 10 = .ok (.ifCond .eq 11, 3) := by decide +kernel
theorem dX9_kind_13 : decode cX9_kind 13 = .ok (.aload_n 0, 1) := by decide +kernel
theorem dX9_kind_14 : decode cX9_kind 14 = .ok (.iload_n 1, 1) := by decide +kernel
theorem dX9_kind_15 : decode cX9_kind 15 = .ok (.invokevirtual 171, 3) := by decide +kernel
theorem dX9_kind_18 : decode cX9_kind 18 = .ok (.goto 5, 3) := by decide +kernel
theorem dX9_kind_21 : decode cX9_kind 21 = .ok (.ldc 72, 2) := by decide +kernel
theorem dX9_kind_23 : decode cX9_kind 23 = .ok (.ireturn, 1) := by decide +kernel
theorem dX9_isOf_0 : decode cX9_isOf 0 = .ok (.iload_n 1, 1) := by decide +kernel
theorem dX9_isOf_1 : decode cX9_isOf 1 = .ok (.ifCond .eq 18, 3) := by decide +kernel
theorem dX9_isOf_4 : decode cX9_isOf 4 = .ok (.iload_n 0, 1) := by decide +kernel
theorem dX9_isOf_5 : decode cX9_isOf 5 = .ok (.iload_n 1, 1) := by decide +kernel
theorem dX9_isOf_6 : decode cX9_isOf 6 = .ok (.if_icmp .eq 13, 3) := by decide +kernel
theorem dX9_isOf_9 : decode cX9_isOf 9 = .ok (.iload_n 1, 1) := by decide +kernel
theorem dX9_isOf_10 : decode cX9_isOf 10 = .ok (.iconst 1, 1) := by decide +kernel
theorem dX9_isOf_11 : decode cX9_isOf 11 = .ok (.if_icmp .ne 12, 3) := by decide +kernel
theorem dX9_isOf_14 : decode cX9_isOf 14 = .ok (.iload_n 0, 1) := by decide +kernel
theorem dX9_isOf_15 : decode cX9_isOf 15 = .ok (.iconst 2, 1) := by decide +kernel
theorem dX9_isOf_16 : decode cX9_isOf 16 = .ok (.if_icmp .ne 7, 3) := by decide +kernel
theorem dX9_isOf_19 : decode cX9_isOf 19 = .ok (.iconst 1, 1) := by decide +kernel
theorem dX9_isOf_20 : decode cX9_isOf 20 = .ok (.goto 4, 3) := by decide +kernel
theorem dX9_isOf_23 : decode cX9_isOf 23 = .ok (.iconst 0, 1) := by decide +kernel
theorem dX9_isOf_24 : decode cX9_isOf 24 = .ok (.ireturn, 1) := by decide +kernel
theorem dX9_as_0 : decode cX9_as 0 = .ok (.aload_n 0, 1) := by decide +kernel
theorem dX9_as_1 : decode cX9_as 1 = .ok (.iconst 0, 1) := by decide +kernel
theorem dX9_as_2 : decode cX9_as 2 = .ok (.putfield 52, 3) := by decide +kernel
theorem dX9_as_5 : decode cX9_as 5 = .ok (.aload_n 0, 1) := by decide +kernel
theorem dX9_as_6 : decode cX9_as 6 = .ok (.iload_n 1, 1) := by decide +kernel
theorem dX9_as_7 : decode cX9_as 7 = .ok (.invokevirtual 107, 3) := by decide +kernel
theorem dX9_as_10 : decode cX9_as 10 = .ok (.ifCond .eq 15, 3) := by decide +kernel
theorem dX9_as_13 : decode cX9_as 13 = .ok (.iload_n 2, 1) := by decide +kernel
theorem dX9_as_14 : decode cX9_as 14 = .ok (.i2l, 1) := by decide +kernel
theorem dX9_as_15 : decode cX9_as 15 = .ok (.lconst 0, 1) := by decide +kernel
theorem dX9_as_16 : decode cX9_as 16 = .ok (.ldc2_w 110, 3) := by decide +kernel
theorem dX9_as_19 : decode cX9_as 19 = .ok (.invokestatic 62, 3) := by decide +kernel
theorem dX9_as_22 : decode cX9_as 22 = .ok (.ifCond .ne 6, 3) := by decide +kernel
theorem dX9_as_25 : decode cX9_as 25 = .ok (.ldc 72, 2) := by decide +kernel
theorem dX9_as_27 : decode cX9_as 27 = .ok (.ireturn, 1) := by decide +kernel
theorem dX9_as_28 : decode cX9_as 28 = .ok (.aload_n 0, 1) := by decide +kernel
theorem dX9_as_29 : decode cX9_as 29 = .ok (.iconst 0, 1) := by decide +kernel
theorem dX9_as_30 : decode cX9_as 30 = .ok (.putfield 56, 3) := by decide +kernel
theorem dX9_as_33 : decode cX9_as 33 = .ok (.aload_n 0, 1) := by decide +kernel
theorem dX9_as_34 : decode cX9_as 34 = .ok (.iload_n 1, 1) := by decide +kernel
theorem dX9_as_35 : decode cX9_as 35 = .ok (.invokevirtual 171, 3) := by decide +kernel
theorem dX9_as_38 : decode cX9_as 38 = .ok (.iload_n 2, 1) := by decide +kernel
theorem dX9_as_39 : decode cX9_as 39 = .ok (.invokestatic 174, 3) := by decide +kernel
theorem dX9_as_42 : decode cX9_as 42 = .ok (.ifCond .eq 14, 3) := by decide +kernel
theorem dX9_as_45 : decode cX9_as 45 = .ok (.aload_n 0, 1) := by decide +kernel
theorem dX9_as_46 : decode cX9_as 46 = .ok (.iload_n 1, 1) := by decide +kernel
theorem dX9_as_47 : decode cX9_as 47 = .ok (.iconst 1, 1) := by decide +kernel
theorem dX9_as_48 : decode cX9_as 48 = .ok (.iconst 1, 1) := by decide +kernel
theorem dX9_as_49 : decode cX9_as 49 = .ok (.invokevirtual 112, 3) := by decide +kernel
theorem dX9_as_52 : decode cX9_as 52 = .ok (.l2i, 1) := by decide +kernel
theorem dX9_as_53 : decode cX9_as 53 = .ok (.goto 8, 3) := by decide +kernel
theorem dX9_as_56 : decode cX9_as 56 = .ok (.aload_n 0, 1) := by decide +kernel
theorem dX9_as_57 : decode cX9_as 57 = .ok (.iconst 3, 1) := by decide +kernel
theorem dX9_as_58 : decode cX9_as 58 = .ok (.invokevirtual 73, 3) := by decide +kernel
theorem dX9_as_61 : decode cX9_as 61 = .ok (.ireturn, 1) := by decide +kernel
theorem dX9_began_0 : decode cX9_began 0 = .ok (.aload_n 0, 1) := by decide +kernel
theorem dX9_began_1 : decode cX9_began 1 = .ok (.getfield 177, 3) := by decide +kernel
theorem dX9_began_4 : decode cX9_began 4 = .ok (.bipush 16, 2) := by decide +kernel
theorem dX9_began_6 : decode cX9_began 6 = .ok (.if_icmp .ge 23, 3) := by decide +kernel
theorem dX9_began_9 : decode cX9_began 9 = .ok (.aload_n 0, 1) := by decide +kernel
theorem dX9_began_10 : decode cX9_began 10 = .ok (.getfield 49, 3) := by decide +kernel
theorem dX9_began_13 : decode cX9_began 13 = .ok (.aload_n 0, 1) := by decide +kernel
theorem dX9_began_14 : decode cX9_began 14 = .ok (.getfield 177, 3) := by decide +kernel
theorem dX9_began_17 : decode cX9_began 17 = .ok (.iload_n 1, 1) := by decide +kernel
theorem dX9_began_18 : decode cX9_began 18 = .ok (.iastore, 1) := by decide +kernel
theorem dX9_began_19 : decode cX9_began 19 = .ok (.aload_n 0, 1) := by decide +kernel
theorem dX9_began_20 : decode cX9_began 20 = .ok (.dup, 1) := by decide +kernel
theorem dX9_began_21 : decode cX9_began 21 = .ok (.getfield 177, 3) := by decide +kernel
theorem dX9_began_24 : decode cX9_began 24 = .ok (.iconst 1, 1) := by decide +kernel
theorem dX9_began_25 : decode cX9_began 25 = .ok (.iadd, 1) := by decide +kernel
theorem dX9_began_26 : decode cX9_began 26 = .ok (.putfield 177, 3) := by decide +kernel
theorem dX9_began_29 : decode cX9_began 29 = .ok (.return_, 1) := by decide +kernel
theorem dX9_plainSize_0 : decode cX9_plainSize 0 = .ok (.aload_n 0, 1) := by decide +kernel
theorem dX9_plainSize_1 : decode cX9_plainSize 1 = .ok (.bipush 10, 2) := by decide +kernel
theorem dX9_plainSize_3 : decode cX9_plainSize 3 = .ok (.invokevirtual 180, 3) := by decide +kernel
theorem dX9_plainSize_6 : decode cX9_plainSize 6 = .ok (.aload_n 0, 1) := by decide +kernel
theorem dX9_plainSize_7 : decode cX9_plainSize 7 = .ok (.iload_n 1, 1) := by decide +kernel
theorem dX9_plainSize_8 : decode cX9_plainSize 8 = .ok (.iconst 0, 1) := by decide +kernel
theorem dX9_plainSize_9 : decode cX9_plainSize 9 = .ok (.iconst 1, 1) := by decide +kernel
theorem dX9_plainSize_10 : decode cX9_plainSize 10 = .ok (.invokevirtual 112, 3) := by decide +kernel
theorem dX9_plainSize_13 : decode cX9_plainSize 13 = .ok (.l2i, 1) := by decide +kernel
theorem dX9_plainSize_14 : decode cX9_plainSize 14 = .ok (.iconst 2, 1) := by decide +kernel
theorem dX9_plainSize_15 : decode cX9_plainSize 15 = .ok (.idiv, 1) := by decide +kernel
theorem dX9_plainSize_16 : decode cX9_plainSize 16 = .ok (.ireturn, 1) := by decide +kernel
theorem dX9_marked_0 : decode cX9_marked 0 = .ok (.aload_n 0, 1) := by decide +kernel
theorem dX9_marked_1 : decode cX9_marked 1 = .ok (.iload_n 1, 1) := by decide +kernel
theorem dX9_marked_2 : decode cX9_marked 2 = .ok (.invokevirtual 171, 3) := by decide +kernel
theorem dX9_marked_5 : decode cX9_marked 5 = .ok (.istore_n 2, 1) := by decide +kernel
theorem dX9_marked_6 : decode cX9_marked 6 = .ok (.iload_n 2, 1) := by decide +kernel
theorem dX9_marked_7 : decode cX9_marked 7 = .ok (.iconst 4, 1) := by decide +kernel
theorem dX9_marked_8 : decode cX9_marked 8 = .ok (.if_icmp .ne 9, 3) := by decide +kernel
theorem dX9_marked_11 : decode cX9_marked 11 = .ok (.aload_n 0, 1) := by decide +kernel
theorem dX9_marked_12 : decode cX9_marked 12 = .ok (.bipush 22, 2) := by decide +kernel
theorem dX9_marked_14 : decode cX9_marked 14 = .ok (.invokevirtual 180, 3) := by decide +kernel
theorem dX9_marked_17 : decode cX9_marked 17 = .ok (.iload_n 2, 1) := by decide +kernel
theorem dX9_marked_18 : decode cX9_marked 18 = .ok (.iconst 1, 1) := by decide +kernel
theorem dX9_marked_19 : decode cX9_marked 19 = .ok (.invokestatic 174, 3) := by decide +kernel
theorem dX9_marked_22 : decode cX9_marked 22 = .ok (.ifCond .eq 9, 3) := by decide +kernel
theorem dX9_marked_25 : decode cX9_marked 25 = .ok (.aload_n 0, 1) := by decide +kernel
theorem dX9_marked_26 : decode cX9_marked 26 = .ok (.bipush 21, 2) := by decide +kernel
theorem dX9_marked_28 : decode cX9_marked 28 = .ok (.invokevirtual 180, 3) := by decide +kernel
theorem dX9_marked_31 : decode cX9_marked 31 = .ok (.aload_n 0, 1) := by decide +kernel
theorem dX9_marked_32 : decode cX9_marked 32 = .ok (.bipush 20, 2) := by decide +kernel
theorem dX9_marked_34 : decode cX9_marked 34 = .ok (.invokevirtual 180, 3) := by decide +kernel
theorem dX9_marked_37 : decode cX9_marked 37 = .ok (.aload_n 0, 1) := by decide +kernel
theorem dX9_marked_38 : decode cX9_marked 38 = .ok (.getfield 22, 3) := by decide +kernel
theorem dX9_marked_41 : decode cX9_marked 41 = .ok (.iconst 3, 1) := by decide +kernel
theorem dX9_marked_42 : decode cX9_marked 42 = .ok (.iload_n 1, 1) := by decide +kernel
theorem dX9_marked_43 : decode cX9_marked 43 = .ok (.imul, 1) := by decide +kernel
theorem dX9_marked_44 : decode cX9_marked 44 = .ok (.iaload, 1) := by decide +kernel
theorem dX9_marked_45 : decode cX9_marked 45 = .ok (.aload_n 0, 1) := by decide +kernel
theorem dX9_marked_46 : decode cX9_marked 46 = .ok (.getfield 22, 3) := by decide +kernel
theorem dX9_marked_49 : decode cX9_marked 49 = .ok (.iconst 3, 1) := by decide +kernel
theorem dX9_marked_50 : decode cX9_marked 50 = .ok (.iload_n 1, 1) := by decide +kernel
theorem dX9_marked_51 : decode cX9_marked 51 = .ok (.imul, 1) := by decide +kernel
theorem dX9_marked_52 : decode cX9_marked 52 = .ok (.iconst 1, 1) := by decide +kernel
theorem dX9_marked_53 : decode cX9_marked 53 = .ok (.iadd, 1) := by decide +kernel
theorem dX9_marked_54 : decode cX9_marked 54 = .ok (.iaload, 1) := by decide +kernel
theorem dX9_marked_55 : decode cX9_marked 55 = .ok (.iadd, 1) := by decide +kernel
theorem dX9_marked_56 : decode cX9_marked 56 = .ok (.aload_n 0, 1) := by decide +kernel
theorem dX9_marked_57 : decode cX9_marked 57 = .ok (.getfield 22, 3) := by decide +kernel
theorem dX9_marked_60 : decode cX9_marked 60 = .ok (.iconst 3, 1) := by decide +kernel
theorem dX9_marked_61 : decode cX9_marked 61 = .ok (.iload_n 1, 1) := by decide +kernel
theorem dX9_marked_62 : decode cX9_marked 62 = .ok (.imul, 1) := by decide +kernel
theorem dX9_marked_63 : decode cX9_marked 63 = .ok (.iconst 2, 1) := by decide +kernel
theorem dX9_marked_64 : decode cX9_marked 64 = .ok (.iadd, 1) := by decide +kernel
theorem dX9_marked_65 : decode cX9_marked 65 = .ok (.iaload, 1) := by decide +kernel
theorem dX9_marked_66 : decode cX9_marked 66 = .ok (.iadd, 1) := by decide +kernel
theorem dX9_marked_67 : decode cX9_marked 67 = .ok (.iload_n 2, 1) := by decide +kernel
theorem dX9_marked_68 : decode cX9_marked 68 = .ok (.iconst 1, 1) := by decide +kernel
theorem dX9_marked_69 : decode cX9_marked 69 = .ok (.invokestatic 174, 3) := by decide +kernel
theorem dX9_marked_72 : decode cX9_marked 72 = .ok (.ifCond .eq 8, 3) := by decide +kernel
theorem dX9_marked_75 : decode cX9_marked 75 = .ok (.bipush 100, 2) := by decide +kernel
theorem dX9_marked_77 : decode cX9_marked 77 = .ok (.goto 4, 3) := by decide +kernel
theorem dX9_marked_80 : decode cX9_marked 80 = .ok (.iconst 0, 1) := by decide +kernel
theorem dX9_marked_81 : decode cX9_marked 81 = .ok (.iadd, 1) := by decide +kernel
theorem dX9_marked_82 : decode cX9_marked 82 = .ok (.istore_n 3, 1) := by decide +kernel
theorem dX9_marked_83 : decode cX9_marked 83 = .ok (.iload_n 2, 1) := by decide +kernel
theorem dX9_marked_84 : decode cX9_marked 84 = .ok (.iconst 4, 1) := by decide +kernel
theorem dX9_marked_85 : decode cX9_marked 85 = .ok (.if_icmp .ne 13, 3) := by decide +kernel
theorem dX9_marked_88 : decode cX9_marked 88 = .ok (.iload_n 3, 1) := by decide +kernel
theorem dX9_marked_89 : decode cX9_marked 89 = .ok (.aload_n 0, 1) := by decide +kernel
theorem dX9_marked_90 : decode cX9_marked 90 = .ok (.iload_n 1, 1) := by decide +kernel
theorem dX9_marked_91 : decode cX9_marked 91 = .ok (.invokevirtual 184, 3) := by decide +kernel
theorem dX9_marked_94 : decode cX9_marked 94 = .ok (.iadd, 1) := by decide +kernel
theorem dX9_marked_95 : decode cX9_marked 95 = .ok (.goto 4, 3) := by decide +kernel
theorem dX9_marked_98 : decode cX9_marked 98 = .ok (.iload_n 3, 1) := by decide +kernel
theorem dX9_marked_99 : decode cX9_marked 99 = .ok (.ireturn, 1) := by decide +kernel
theorem dX9_sized_0 : decode cX9_sized 0 = .ok (.aload_n 0, 1) := by decide +kernel
theorem dX9_sized_1 : decode cX9_sized 1 = .ok (.iload_n 1, 1) := by decide +kernel
theorem dX9_sized_2 : decode cX9_sized 2 = .ok (.invokevirtual 171, 3) := by decide +kernel
theorem dX9_sized_5 : decode cX9_sized 5 = .ok (.istore_n 2, 1) := by decide +kernel
theorem dX9_sized_6 : decode cX9_sized 6 = .ok (.iload_n 2, 1) := by decide +kernel
theorem dX9_sized_7 : decode cX9_sized 7 = .ok (.iconst 3, 1) := by decide +kernel
theorem dX9_sized_8 : decode cX9_sized 8 = .ok (.if_icmp .ne 11, 3) := by decide +kernel
theorem dX9_sized_11 : decode cX9_sized 11 = .ok (.aload_n 0, 1) := by decide +kernel
theorem dX9_sized_12 : decode cX9_sized 12 = .ok (.bipush 13, 2) := by decide +kernel
theorem dX9_sized_14 : decode cX9_sized 14 = .ok (.invokevirtual 180, 3) := by decide +kernel
theorem dX9_sized_17 : decode cX9_sized 17 = .ok (.iconst 0, 1) := by decide +kernel
theorem dX9_sized_18 : decode cX9_sized 18 = .ok (.ireturn, 1) := by decide +kernel
theorem dX9_sized_19 : decode cX9_sized 19 = .ok (.iload_n 2, 1) := by decide +kernel
theorem dX9_sized_20 : decode cX9_sized 20 = .ok (.iconst 2, 1) := by decide +kernel
theorem dX9_sized_21 : decode cX9_sized 21 = .ok (.if_icmp .ne 9, 3) := by decide +kernel
theorem dX9_sized_24 : decode cX9_sized 24 = .ok (.aload_n 0, 1) := by decide +kernel
theorem dX9_sized_25 : decode cX9_sized 25 = .ok (.bipush 12, 2) := by decide +kernel
theorem dX9_sized_27 : decode cX9_sized 27 = .ok (.invokevirtual 180, 3) := by decide +kernel
theorem dX9_sized_30 : decode cX9_sized 30 = .ok (.iload_n 2, 1) := by decide +kernel
theorem dX9_sized_31 : decode cX9_sized 31 = .ok (.iconst 1, 1) := by decide +kernel
theorem dX9_sized_32 : decode cX9_sized 32 = .ok (.invokestatic 174, 3) := by decide +kernel
theorem dX9_sized_35 : decode cX9_sized 35 = .ok (.ifCond .eq 9, 3) := by decide +kernel
theorem dX9_sized_38 : decode cX9_sized 38 = .ok (.aload_n 0, 1) := by decide +kernel
theorem dX9_sized_39 : decode cX9_sized 39 = .ok (.bipush 11, 2) := by decide +kernel
theorem dX9_sized_41 : decode cX9_sized 41 = .ok (.invokevirtual 180, 3) := by decide +kernel
theorem dX9_sized_44 : decode cX9_sized 44 = .ok (.aload_n 0, 1) := by decide +kernel
theorem dX9_sized_45 : decode cX9_sized 45 = .ok (.iload_n 1, 1) := by decide +kernel
theorem dX9_sized_46 : decode cX9_sized 46 = .ok (.invokevirtual 184, 3) := by decide +kernel
theorem dX9_sized_49 : decode cX9_sized 49 = .ok (.istore_n 3, 1) := by decide +kernel
theorem dX9_sized_50 : decode cX9_sized 50 = .ok (.iload_n 2, 1) := by decide +kernel
theorem dX9_sized_51 : decode cX9_sized 51 = .ok (.iconst 1, 1) := by decide +kernel
theorem dX9_sized_52 : decode cX9_sized 52 = .ok (.invokestatic 174, 3) := by decide +kernel
theorem dX9_sized_55 : decode cX9_sized 55 = .ok (.ifCond .eq 16, 3) := by decide +kernel
theorem dX9_sized_58 : decode cX9_sized 58 = .ok (.iload_n 3, 1) := by decide +kernel
theorem dX9_sized_59 : decode cX9_sized 59 = .ok (.aload_n 0, 1) := by decide +kernel
theorem dX9_sized_60 : decode cX9_sized 60 = .ok (.iload_n 1, 1) := by decide +kernel
theorem dX9_sized_61 : decode cX9_sized 61 = .ok (.iconst 1, 1) := by decide +kernel
theorem dX9_sized_62 : decode cX9_sized 62 = .ok (.iconst 1, 1) := by decide +kernel
theorem dX9_sized_63 : decode cX9_sized 63 = .ok (.invokevirtual 112, 3) := by decide +kernel
theorem dX9_sized_66 : decode cX9_sized 66 = .ok (.l2i, 1) := by decide +kernel
theorem dX9_sized_67 : decode cX9_sized 67 = .ok (.iconst 2, 1) := by decide +kernel
theorem dX9_sized_68 : decode cX9_sized 68 = .ok (.idiv, 1) := by decide +kernel
theorem dX9_sized_69 : decode cX9_sized 69 = .ok (.iadd, 1) := by decide +kernel
theorem dX9_sized_70 : decode cX9_sized 70 = .ok (.istore_n 3, 1) := by decide +kernel
theorem dX9_sized_71 : decode cX9_sized 71 = .ok (.iload_n 2, 1) := by decide +kernel
theorem dX9_sized_72 : decode cX9_sized 72 = .ok (.iconst 2, 1) := by decide +kernel
theorem dX9_sized_73 : decode cX9_sized 73 = .ok (.if_icmp .ne 13, 3) := by decide +kernel
theorem dX9_sized_76 : decode cX9_sized 76 = .ok (.iload_n 3, 1) := by decide +kernel
theorem dX9_sized_77 : decode cX9_sized 77 = .ok (.aload_n 0, 1) := by decide +kernel
theorem dX9_sized_78 : decode cX9_sized 78 = .ok (.iload_n 1, 1) := by decide +kernel
theorem dX9_sized_79 : decode cX9_sized 79 = .ok (.invokevirtual 187, 3) := by decide +kernel
theorem dX9_sized_82 : decode cX9_sized 82 = .ok (.iadd, 1) := by decide +kernel
theorem dX9_sized_83 : decode cX9_sized 83 = .ok (.goto 4, 3) := by decide +kernel
theorem dX9_sized_86 : decode cX9_sized 86 = .ok (.iload_n 3, 1) := by decide +kernel
theorem dX9_sized_87 : decode cX9_sized 87 = .ok (.ireturn, 1) := by decide +kernel
theorem dX9_ask_0 : decode cX9_ask 0 = .ok (.aload_n 0, 1) := by decide +kernel
theorem dX9_ask_1 : decode cX9_ask 1 = .ok (.iconst 0, 1) := by decide +kernel
theorem dX9_ask_2 : decode cX9_ask 2 = .ok (.putfield 52, 3) := by decide +kernel
theorem dX9_ask_5 : decode cX9_ask 5 = .ok (.aload_n 0, 1) := by decide +kernel
theorem dX9_ask_6 : decode cX9_ask 6 = .ok (.iload_n 1, 1) := by decide +kernel
theorem dX9_ask_7 : decode cX9_ask 7 = .ok (.invokevirtual 107, 3) := by decide +kernel
theorem dX9_ask_10 : decode cX9_ask 10 = .ok (.ifCond .eq 13, 3) := by decide +kernel
theorem dX9_ask_13 : decode cX9_ask 13 = .ok (.iload_n 2, 1) := by decide +kernel
theorem dX9_ask_14 : decode cX9_ask 14 = .ok (.i2l, 1) := by decide +kernel
theorem dX9_ask_15 : decode cX9_ask 15 = .ok (.lconst 0, 1) := by decide +kernel
theorem dX9_ask_16 : decode cX9_ask 16 = .ok (.lconst 1, 1) := by decide +kernel
theorem dX9_ask_17 : decode cX9_ask 17 = .ok (.invokestatic 62, 3) := by decide +kernel
theorem dX9_ask_20 : decode cX9_ask 20 = .ok (.ifCond .ne 6, 3) := by decide +kernel
theorem dX9_ask_23 : decode cX9_ask 23 = .ok (.ldc 72, 2) := by decide +kernel
theorem dX9_ask_25 : decode cX9_ask 25 = .ok (.ireturn, 1) := by decide +kernel
theorem dX9_ask_26 : decode cX9_ask 26 = .ok (.aload_n 0, 1) := by decide +kernel
theorem dX9_ask_27 : decode cX9_ask 27 = .ok (.iconst 0, 1) := by decide +kernel
theorem dX9_ask_28 : decode cX9_ask 28 = .ok (.putfield 177, 3) := by decide +kernel
theorem dX9_ask_31 : decode cX9_ask 31 = .ok (.iload_n 2, 1) := by decide +kernel
theorem dX9_ask_32 : decode cX9_ask 32 = .ok (.ifCond .ne 11, 3) := by decide +kernel
theorem dX9_ask_35 : decode cX9_ask 35 = .ok (.aload_n 0, 1) := by decide +kernel
theorem dX9_ask_36 : decode cX9_ask 36 = .ok (.iload_n 1, 1) := by decide +kernel
theorem dX9_ask_37 : decode cX9_ask 37 = .ok (.invokevirtual 190, 3) := by decide +kernel
theorem dX9_ask_40 : decode cX9_ask 40 = .ok (.goto 8, 3) := by decide +kernel
theorem dX9_ask_43 : decode cX9_ask 43 = .ok (.aload_n 0, 1) := by decide +kernel
theorem dX9_ask_44 : decode cX9_ask 44 = .ok (.iload_n 1, 1) := by decide +kernel
theorem dX9_ask_45 : decode cX9_ask 45 = .ok (.invokevirtual 187, 3) := by decide +kernel
theorem dX9_ask_48 : decode cX9_ask 48 = .ok (.ireturn, 1) := by decide +kernel
theorem dX9_trace_0 : decode cX9_trace 0 = .ok (.aload_n 0, 1) := by decide +kernel
theorem dX9_trace_1 : decode cX9_trace 1 = .ok (.iconst 0, 1) := by decide +kernel
theorem dX9_trace_2 : decode cX9_trace 2 = .ok (.putfield 52, 3) := by decide +kernel
theorem dX9_trace_5 : decode cX9_trace 5 = .ok (.iload_n 1, 1) := by decide +kernel
theorem dX9_trace_6 : decode cX9_trace 6 = .ok (.i2l, 1) := by decide +kernel
theorem dX9_trace_7 : decode cX9_trace 7 = .ok (.lconst 0, 1) := by decide +kernel
theorem dX9_trace_8 : decode cX9_trace 8 = .ok (.aload_n 0, 1) := by decide +kernel
theorem dX9_trace_9 : decode cX9_trace 9 = .ok (.getfield 177, 3) := by decide +kernel
theorem dX9_trace_12 : decode cX9_trace 12 = .ok (.iconst 1, 1) := by decide +kernel
theorem dX9_trace_13 : decode cX9_trace 13 = .ok (.isub, 1) := by decide +kernel
theorem dX9_trace_14 : decode cX9_trace 14 = .ok (.i2l, 1) := by decide +kernel
theorem dX9_trace_15 : decode cX9_trace 15 = .ok (.invokestatic 62, 3) := by decide +kernel
theorem dX9_trace_18 : decode cX9_trace 18 = .ok (.ifCond .eq 12, 3) := by decide +kernel
theorem dX9_trace_21 : decode cX9_trace 21 = .ok (.aload_n 0, 1) := by decide +kernel
theorem dX9_trace_22 : decode cX9_trace 22 = .ok (.getfield 49, 3) := by decide +kernel
theorem dX9_trace_25 : decode cX9_trace 25 = .ok (.iload_n 1, 1) := by decide +kernel
theorem dX9_trace_26 : decode cX9_trace 26 = .ok (.iaload, 1) := by decide +kernel
theorem dX9_trace_27 : decode cX9_trace 27 = .ok (.goto 5, 3) := by decide +kernel
theorem dX9_trace_30 : decode cX9_trace 30 = .ok (.ldc 116, 2) := by decide +kernel
theorem dX9_trace_32 : decode cX9_trace 32 = .ok (.ireturn, 1) := by decide +kernel
theorem dX9_count_0 : decode cX9_count 0 = .ok (.aload_n 0, 1) := by decide +kernel
theorem dX9_count_1 : decode cX9_count 1 = .ok (.iconst 0, 1) := by decide +kernel
theorem dX9_count_2 : decode cX9_count 2 = .ok (.putfield 52, 3) := by decide +kernel
theorem dX9_count_5 : decode cX9_count 5 = .ok (.iconst 0, 1) := by decide +kernel
theorem dX9_count_6 : decode cX9_count 6 = .ok (.istore_n 2, 1) := by decide +kernel
theorem dX9_count_7 : decode cX9_count 7 = .ok (.iload_n 1, 1) := by decide +kernel
theorem dX9_count_8 : decode cX9_count 8 = .ok (.tableswitch 136 0 7 #[48, 81, 86, 91, 91, 91, 91, 131], 48) := by decide +kernel
theorem dX9_count_56 : decode cX9_count 56 = .ok (.iconst 0, 1) := by decide +kernel
theorem dX9_count_57 : decode cX9_count 57 = .ok (.istore_n 3, 1) := by decide +kernel
theorem dX9_count_58 : decode cX9_count 58 = .ok (.iload_n 3, 1) := by decide +kernel
theorem dX9_count_59 : decode cX9_count 59 = .ok (.bipush 8, 2) := by decide +kernel
theorem dX9_count_61 : decode cX9_count 61 = .ok (.if_icmp .ge 26, 3) := by decide +kernel
theorem dX9_count_64 : decode cX9_count 64 = .ok (.iload_n 2, 1) := by decide +kernel
theorem dX9_count_65 : decode cX9_count 65 = .ok (.aload_n 0, 1) := by decide +kernel
theorem dX9_count_66 : decode cX9_count 66 = .ok (.getfield 7, 3) := by decide +kernel
theorem dX9_count_69 : decode cX9_count 69 = .ok (.iload_n 3, 1) := by decide +kernel
theorem dX9_count_70 : decode cX9_count 70 = .ok (.iaload, 1) := by decide +kernel
theorem dX9_count_71 : decode cX9_count 71 = .ok (.ifCond .lt 7, 3) := by decide +kernel
theorem dX9_count_74 : decode cX9_count 74 = .ok (.iconst 1, 1) := by decide +kernel
theorem dX9_count_75 : decode cX9_count 75 = .ok (.goto 4, 3) := by decide +kernel
theorem dX9_count_78 : decode cX9_count 78 = .ok (.iconst 0, 1) := by decide +kernel
theorem dX9_count_79 : decode cX9_count 79 = .ok (.iadd, 1) := by decide +kernel
theorem dX9_count_80 : decode cX9_count 80 = .ok (.istore_n 2, 1) := by decide +kernel
theorem dX9_count_81 : decode cX9_count 81 = .ok (.iinc 3 1, 3) := by decide +kernel
theorem dX9_count_84 : decode cX9_count 84 = .ok (.goto (-26), 3) := by decide +kernel
theorem dX9_count_87 : decode cX9_count 87 = .ok (.iload_n 2, 1) := by decide +kernel
theorem dX9_count_88 : decode cX9_count 88 = .ok (.ireturn, 1) := by decide +kernel
theorem dX9_count_89 : decode cX9_count 89 = .ok (.aload_n 0, 1) := by decide +kernel
theorem dX9_count_90 : decode cX9_count 90 = .ok (.getfield 77, 3) := by decide +kernel
theorem dX9_count_93 : decode cX9_count 93 = .ok (.ireturn, 1) := by decide +kernel
theorem dX9_count_94 : decode cX9_count 94 = .ok (.aload_n 0, 1) := by decide +kernel
theorem dX9_count_95 : decode cX9_count 95 = .ok (.getfield 99, 3) := by decide +kernel
theorem dX9_count_98 : decode cX9_count 98 = .ok (.ireturn, 1) := by decide +kernel
theorem dX9_count_99 : decode cX9_count 99 = .ok (.iconst 0, 1) := by decide +kernel
theorem dX9_count_100 : decode cX9_count 100 = .ok (.istore_n 3, 1) := by decide +kernel
theorem dX9_count_101 : decode cX9_count 101 = .ok (.iload_n 3, 1) := by decide +kernel
theorem dX9_count_102 : decode cX9_count 102 = .ok (.aload_n 0, 1) := by decide +kernel
theorem dX9_count_103 : decode cX9_count 103 = .ok (.getfield 99, 3) := by decide +kernel
theorem dX9_count_106 : decode cX9_count 106 = .ok (.if_icmp .ge 31, 3) := by decide +kernel
theorem dX9_count_109 : decode cX9_count 109 = .ok (.iload_n 2, 1) := by decide +kernel
theorem dX9_count_110 : decode cX9_count 110 = .ok (.aload_n 0, 1) := by decide +kernel
theorem dX9_count_111 : decode cX9_count 111 = .ok (.iload_n 3, 1) := by decide +kernel
theorem dX9_count_112 : decode cX9_count 112 = .ok (.invokevirtual 171, 3) := by decide +kernel
theorem dX9_count_115 : decode cX9_count 115 = .ok (.iload_n 1, 1) := by decide +kernel
theorem dX9_count_116 : decode cX9_count 116 = .ok (.iconst 2, 1) := by decide +kernel
theorem dX9_count_117 : decode cX9_count 117 = .ok (.isub, 1) := by decide +kernel
theorem dX9_count_118 : decode cX9_count 118 = .ok (.invokestatic 174, 3) := by decide +kernel
theorem dX9_count_121 : decode cX9_count 121 = .ok (.ifCond .eq 7, 3) := by decide +kernel
theorem dX9_count_124 : decode cX9_count 124 = .ok (.iconst 1, 1) := by decide +kernel
theorem dX9_count_125 : decode cX9_count 125 = .ok (.goto 4, 3) := by decide +kernel
theorem dX9_count_128 : decode cX9_count 128 = .ok (.iconst 0, 1) := by decide +kernel
theorem dX9_count_129 : decode cX9_count 129 = .ok (.iadd, 1) := by decide +kernel
theorem dX9_count_130 : decode cX9_count 130 = .ok (.istore_n 2, 1) := by decide +kernel
theorem dX9_count_131 : decode cX9_count 131 = .ok (.iinc 3 1, 3) := by decide +kernel
theorem dX9_count_134 : decode cX9_count 134 = .ok (.goto (-33), 3) := by decide +kernel
theorem dX9_count_137 : decode cX9_count 137 = .ok (.iload_n 2, 1) := by decide +kernel
theorem dX9_count_138 : decode cX9_count 138 = .ok (.ireturn, 1) := by decide +kernel
theorem dX9_count_139 : decode cX9_count 139 = .ok (.aload_n 0, 1) := by decide +kernel
theorem dX9_count_140 : decode cX9_count 140 = .ok (.getfield 123, 3) := by decide +kernel
theorem dX9_count_143 : decode cX9_count 143 = .ok (.ireturn, 1) := by decide +kernel
theorem dX9_count_144 : decode cX9_count 144 = .ok (.ldc 72, 2) := by decide +kernel
theorem dX9_count_146 : decode cX9_count 146 = .ok (.ireturn, 1) := by decide +kernel
theorem dX9_status_0 : decode cX9_status 0 = .ok (.aload_n 0, 1) := by decide +kernel
theorem dX9_status_1 : decode cX9_status 1 = .ok (.iconst 0, 1) := by decide +kernel
theorem dX9_status_2 : decode cX9_status 2 = .ok (.putfield 52, 3) := by decide +kernel
theorem dX9_status_5 : decode cX9_status 5 = .ok (.aload_n 0, 1) := by decide +kernel
theorem dX9_status_6 : decode cX9_status 6 = .ok (.getfield 56, 3) := by decide +kernel
theorem dX9_status_9 : decode cX9_status 9 = .ok (.ireturn, 1) := by decide +kernel
end
section
theorem dL_law_0 : decode cL_law 0 = .ok (.new 7, 3) := by decide +kernel
theorem dL_law_3 : decode cL_law 3 = .ok (.dup, 1) := by decide +kernel
theorem dL_law_4 : decode cL_law 4 = .ok (.invokespecial 9, 3) := by decide +kernel
theorem dL_law_7 : decode cL_law 7 = .ok (.astore_n 1, 1) := by decide +kernel
theorem dL_law_8 : decode cL_law 8 = .ok (.new 10, 3) := by decide +kernel
theorem dL_law_11 : decode cL_law 11 = .ok (.dup, 1) := by decide +kernel
theorem dL_law_12 : decode cL_law 12 = .ok (.invokespecial 12, 3) := by decide +kernel
theorem dL_law_15 : decode cL_law 15 = .ok (.astore_n 2, 1) := by decide +kernel
theorem dL_law_16 : decode cL_law 16 = .ok (.iconst 0, 1) := by decide +kernel
theorem dL_law_17 : decode cL_law 17 = .ok (.istore_n 3, 1) := by decide +kernel
theorem dL_law_18 : decode cL_law 18 = .ok (.iload_n 3, 1) := by decide +kernel
theorem dL_law_19 : decode cL_law 19 = .ok (.aload_n 0, 1) := by decide +kernel
theorem dL_law_20 : decode cL_law 20 = .ok (.arraylength, 1) := by decide +kernel
theorem dL_law_21 : decode cL_law 21 = .ok (.bipush 6, 2) := by decide +kernel
theorem dL_law_23 : decode cL_law 23 = .ok (.isub, 1) := by decide +kernel
theorem dL_law_24 : decode cL_law 24 = .ok (.if_icmp .gt 1209, 3) := by decide +kernel
theorem dL_law_27 : decode cL_law 27 = .ok (.aload_n 0, 1) := by decide +kernel
theorem dL_law_28 : decode cL_law 28 = .ok (.iload_n 3, 1) := by decide +kernel
theorem dL_law_29 : decode cL_law 29 = .ok (.iaload, 1) := by decide +kernel
theorem dL_law_30 : decode cL_law 30 = .ok (.bipush 31, 2) := by decide +kernel
theorem dL_law_32 : decode cL_law 32 = .ok (.iand, 1) := by decide +kernel
theorem dL_law_33 : decode cL_law 33 = .ok (.tableswitch 1194 0 26 #[123, 166, 209, 272, 295, 348, 401, 454, 497, 530, 563, 596, 619, 652, 675, 688, 741, 804, 867, 920, 983, 1046, 1069, 1102, 1135, 1158, 1181], 123) := by decide +kernel
theorem dL_law_156 : decode cL_law 156 = .ok (.aload_n 1, 1) := by decide +kernel
theorem dL_law_157 : decode cL_law 157 = .ok (.aload_n 0, 1) := by decide +kernel
theorem dL_law_158 : decode cL_law 158 = .ok (.iload_n 3, 1) := by decide +kernel
theorem dL_law_159 : decode cL_law 159 = .ok (.iconst 1, 1) := by decide +kernel
theorem dL_law_160 : decode cL_law 160 = .ok (.iadd, 1) := by decide +kernel
theorem dL_law_161 : decode cL_law 161 = .ok (.iaload, 1) := by decide +kernel
theorem dL_law_162 : decode cL_law 162 = .ok (.aload_n 0, 1) := by decide +kernel
theorem dL_law_163 : decode cL_law 163 = .ok (.iload_n 3, 1) := by decide +kernel
theorem dL_law_164 : decode cL_law 164 = .ok (.iconst 2, 1) := by decide +kernel
theorem dL_law_165 : decode cL_law 165 = .ok (.iadd, 1) := by decide +kernel
theorem dL_law_166 : decode cL_law 166 = .ok (.iaload, 1) := by decide +kernel
theorem dL_law_167 : decode cL_law 167 = .ok (.aload_n 0, 1) := by decide +kernel
theorem dL_law_168 : decode cL_law 168 = .ok (.iload_n 3, 1) := by decide +kernel
theorem dL_law_169 : decode cL_law 169 = .ok (.iconst 3, 1) := by decide +kernel
theorem dL_law_170 : decode cL_law 170 = .ok (.iadd, 1) := by decide +kernel
theorem dL_law_171 : decode cL_law 171 = .ok (.iaload, 1) := by decide +kernel
theorem dL_law_172 : decode cL_law 172 = .ok (.invokevirtual 13, 3) := by decide +kernel
theorem dL_law_175 : decode cL_law 175 = .ok (.aload_n 2, 1) := by decide +kernel
theorem dL_law_176 : decode cL_law 176 = .ok (.aload_n 0, 1) := by decide +kernel
theorem dL_law_177 : decode cL_law 177 = .ok (.iload_n 3, 1) := by decide +kernel
theorem dL_law_178 : decode cL_law 178 = .ok (.iconst 1, 1) := by decide +kernel
theorem dL_law_179 : decode cL_law 179 = .ok (.iadd, 1) := by decide +kernel
theorem dL_law_180 : decode cL_law 180 = .ok (.iaload, 1) := by decide +kernel
theorem dL_law_181 : decode cL_law 181 = .ok (.aload_n 0, 1) := by decide +kernel
theorem dL_law_182 : decode cL_law 182 = .ok (.iload_n 3, 1) := by decide +kernel
theorem dL_law_183 : decode cL_law 183 = .ok (.iconst 2, 1) := by decide +kernel
theorem dL_law_184 : decode cL_law 184 = .ok (.iadd, 1) := by decide +kernel
theorem dL_law_185 : decode cL_law 185 = .ok (.iaload, 1) := by decide +kernel
theorem dL_law_186 : decode cL_law 186 = .ok (.aload_n 0, 1) := by decide +kernel
theorem dL_law_187 : decode cL_law 187 = .ok (.iload_n 3, 1) := by decide +kernel
theorem dL_law_188 : decode cL_law 188 = .ok (.iconst 3, 1) := by decide +kernel
theorem dL_law_189 : decode cL_law 189 = .ok (.iadd, 1) := by decide +kernel
theorem dL_law_190 : decode cL_law 190 = .ok (.iaload, 1) := by decide +kernel
theorem dL_law_191 : decode cL_law 191 = .ok (.invokevirtual 17, 3) := by decide +kernel
theorem dL_law_194 : decode cL_law 194 = .ok (.if_icmp .eq 1033, 3) := by decide +kernel
theorem dL_law_197 : decode cL_law 197 = .ok (.iconst 0, 1) := by decide +kernel
theorem dL_law_198 : decode cL_law 198 = .ok (.ireturn, 1) := by decide +kernel
theorem dL_law_199 : decode cL_law 199 = .ok (.aload_n 1, 1) := by decide +kernel
theorem dL_law_200 : decode cL_law 200 = .ok (.aload_n 0, 1) := by decide +kernel
theorem dL_law_201 : decode cL_law 201 = .ok (.iload_n 3, 1) := by decide +kernel
theorem dL_law_202 : decode cL_law 202 = .ok (.iconst 1, 1) := by decide +kernel
theorem dL_law_203 : decode cL_law 203 = .ok (.iadd, 1) := by decide +kernel
theorem dL_law_204 : decode cL_law 204 = .ok (.iaload, 1) := by decide +kernel
theorem dL_law_205 : decode cL_law 205 = .ok (.aload_n 0, 1) := by decide +kernel
theorem dL_law_206 : decode cL_law 206 = .ok (.iload_n 3, 1) := by decide +kernel
theorem dL_law_207 : decode cL_law 207 = .ok (.iconst 2, 1) := by decide +kernel
theorem dL_law_208 : decode cL_law 208 = .ok (.iadd, 1) := by decide +kernel
theorem dL_law_209 : decode cL_law 209 = .ok (.iaload, 1) := by decide +kernel
theorem dL_law_210 : decode cL_law 210 = .ok (.aload_n 0, 1) := by decide +kernel
theorem dL_law_211 : decode cL_law 211 = .ok (.iload_n 3, 1) := by decide +kernel
theorem dL_law_212 : decode cL_law 212 = .ok (.iconst 3, 1) := by decide +kernel
theorem dL_law_213 : decode cL_law 213 = .ok (.iadd, 1) := by decide +kernel
theorem dL_law_214 : decode cL_law 214 = .ok (.iaload, 1) := by decide +kernel
theorem dL_law_215 : decode cL_law 215 = .ok (.invokevirtual 18, 3) := by decide +kernel
theorem dL_law_218 : decode cL_law 218 = .ok (.aload_n 2, 1) := by decide +kernel
theorem dL_law_219 : decode cL_law 219 = .ok (.aload_n 0, 1) := by decide +kernel
theorem dL_law_220 : decode cL_law 220 = .ok (.iload_n 3, 1) := by decide +kernel
theorem dL_law_221 : decode cL_law 221 = .ok (.iconst 1, 1) := by decide +kernel
theorem dL_law_222 : decode cL_law 222 = .ok (.iadd, 1) := by decide +kernel
theorem dL_law_223 : decode cL_law 223 = .ok (.iaload, 1) := by decide +kernel
theorem dL_law_224 : decode cL_law 224 = .ok (.aload_n 0, 1) := by decide +kernel
theorem dL_law_225 : decode cL_law 225 = .ok (.iload_n 3, 1) := by decide +kernel
theorem dL_law_226 : decode cL_law 226 = .ok (.iconst 2, 1) := by decide +kernel
theorem dL_law_227 : decode cL_law 227 = .ok (.iadd, 1) := by decide +kernel
theorem dL_law_228 : decode cL_law 228 = .ok (.iaload, 1) := by decide +kernel
theorem dL_law_229 : decode cL_law 229 = .ok (.aload_n 0, 1) := by decide +kernel
theorem dL_law_230 : decode cL_law 230 = .ok (.iload_n 3, 1) := by decide +kernel
theorem dL_law_231 : decode cL_law 231 = .ok (.iconst 3, 1) := by decide +kernel
theorem dL_law_232 : decode cL_law 232 = .ok (.iadd, 1) := by decide +kernel
theorem dL_law_233 : decode cL_law 233 = .ok (.iaload, 1) := by decide +kernel
theorem dL_law_234 : decode cL_law 234 = .ok (.invokevirtual 21, 3) := by decide +kernel
theorem dL_law_237 : decode cL_law 237 = .ok (.if_icmp .eq 990, 3) := by decide +kernel
theorem dL_law_240 : decode cL_law 240 = .ok (.iconst 0, 1) := by decide +kernel
theorem dL_law_241 : decode cL_law 241 = .ok (.ireturn, 1) := by decide +kernel
theorem dL_law_242 : decode cL_law 242 = .ok (.aload_n 1, 1) := by decide +kernel
theorem dL_law_243 : decode cL_law 243 = .ok (.aload_n 0, 1) := by decide +kernel
theorem dL_law_244 : decode cL_law 244 = .ok (.iload_n 3, 1) := by decide +kernel
theorem dL_law_245 : decode cL_law 245 = .ok (.iconst 1, 1) := by decide +kernel
theorem dL_law_246 : decode cL_law 246 = .ok (.iadd, 1) := by decide +kernel
theorem dL_law_247 : decode cL_law 247 = .ok (.iaload, 1) := by decide +kernel
theorem dL_law_248 : decode cL_law 248 = .ok (.aload_n 0, 1) := by decide +kernel
theorem dL_law_249 : decode cL_law 249 = .ok (.iload_n 3, 1) := by decide +kernel
theorem dL_law_250 : decode cL_law 250 = .ok (.iconst 2, 1) := by decide +kernel
theorem dL_law_251 : decode cL_law 251 = .ok (.iadd, 1) := by decide +kernel
theorem dL_law_252 : decode cL_law 252 = .ok (.iaload, 1) := by decide +kernel
theorem dL_law_253 : decode cL_law 253 = .ok (.aload_n 0, 1) := by decide +kernel
theorem dL_law_254 : decode cL_law 254 = .ok (.iload_n 3, 1) := by decide +kernel
theorem dL_law_255 : decode cL_law 255 = .ok (.iconst 3, 1) := by decide +kernel
theorem dL_law_256 : decode cL_law 256 = .ok (.iadd, 1) := by decide +kernel
theorem dL_law_257 : decode cL_law 257 = .ok (.iaload, 1) := by decide +kernel
theorem dL_law_258 : decode cL_law 258 = .ok (.aload_n 0, 1) := by decide +kernel
theorem dL_law_259 : decode cL_law 259 = .ok (.iload_n 3, 1) := by decide +kernel
theorem dL_law_260 : decode cL_law 260 = .ok (.iconst 4, 1) := by decide +kernel
theorem dL_law_261 : decode cL_law 261 = .ok (.iadd, 1) := by decide +kernel
theorem dL_law_262 : decode cL_law 262 = .ok (.iaload, 1) := by decide +kernel
theorem dL_law_263 : decode cL_law 263 = .ok (.aload_n 0, 1) := by decide +kernel
theorem dL_law_264 : decode cL_law 264 = .ok (.iload_n 3, 1) := by decide +kernel
theorem dL_law_265 : decode cL_law 265 = .ok (.iconst 5, 1) := by decide +kernel
theorem dL_law_266 : decode cL_law 266 = .ok (.iadd, 1) := by decide +kernel
theorem dL_law_267 : decode cL_law 267 = .ok (.iaload, 1) := by decide +kernel
theorem dL_law_268 : decode cL_law 268 = .ok (.invokevirtual 22, 3) := by decide +kernel
theorem dL_law_271 : decode cL_law 271 = .ok (.aload_n 2, 1) := by decide +kernel
theorem dL_law_272 : decode cL_law 272 = .ok (.aload_n 0, 1) := by decide +kernel
theorem dL_law_273 : decode cL_law 273 = .ok (.iload_n 3, 1) := by decide +kernel
theorem dL_law_274 : decode cL_law 274 = .ok (.iconst 1, 1) := by decide +kernel
theorem dL_law_275 : decode cL_law 275 = .ok (.iadd, 1) := by decide +kernel
theorem dL_law_276 : decode cL_law 276 = .ok (.iaload, 1) := by decide +kernel
theorem dL_law_277 : decode cL_law 277 = .ok (.aload_n 0, 1) := by decide +kernel
theorem dL_law_278 : decode cL_law 278 = .ok (.iload_n 3, 1) := by decide +kernel
theorem dL_law_279 : decode cL_law 279 = .ok (.iconst 2, 1) := by decide +kernel
theorem dL_law_280 : decode cL_law 280 = .ok (.iadd, 1) := by decide +kernel
theorem dL_law_281 : decode cL_law 281 = .ok (.iaload, 1) := by decide +kernel
theorem dL_law_282 : decode cL_law 282 = .ok (.aload_n 0, 1) := by decide +kernel
theorem dL_law_283 : decode cL_law 283 = .ok (.iload_n 3, 1) := by decide +kernel
theorem dL_law_284 : decode cL_law 284 = .ok (.iconst 3, 1) := by decide +kernel
theorem dL_law_285 : decode cL_law 285 = .ok (.iadd, 1) := by decide +kernel
theorem dL_law_286 : decode cL_law 286 = .ok (.iaload, 1) := by decide +kernel
theorem dL_law_287 : decode cL_law 287 = .ok (.aload_n 0, 1) := by decide +kernel
theorem dL_law_288 : decode cL_law 288 = .ok (.iload_n 3, 1) := by decide +kernel
theorem dL_law_289 : decode cL_law 289 = .ok (.iconst 4, 1) := by decide +kernel
theorem dL_law_290 : decode cL_law 290 = .ok (.iadd, 1) := by decide +kernel
theorem dL_law_291 : decode cL_law 291 = .ok (.iaload, 1) := by decide +kernel
theorem dL_law_292 : decode cL_law 292 = .ok (.aload_n 0, 1) := by decide +kernel
theorem dL_law_293 : decode cL_law 293 = .ok (.iload_n 3, 1) := by decide +kernel
theorem dL_law_294 : decode cL_law 294 = .ok (.iconst 5, 1) := by decide +kernel
theorem dL_law_295 : decode cL_law 295 = .ok (.iadd, 1) := by decide +kernel
theorem dL_law_296 : decode cL_law 296 = .ok (.iaload, 1) := by decide +kernel
theorem dL_law_297 : decode cL_law 297 = .ok (.invokevirtual 26, 3) := by decide +kernel
theorem dL_law_300 : decode cL_law 300 = .ok (.if_icmp .eq 927, 3) := by decide +kernel
theorem dL_law_303 : decode cL_law 303 = .ok (.iconst 0, 1) := by decide +kernel
theorem dL_law_304 : decode cL_law 304 = .ok (.ireturn, 1) := by decide +kernel
theorem dL_law_305 : decode cL_law 305 = .ok (.aload_n 1, 1) := by decide +kernel
theorem dL_law_306 : decode cL_law 306 = .ok (.aload_n 0, 1) := by decide +kernel
theorem dL_law_307 : decode cL_law 307 = .ok (.iload_n 3, 1) := by decide +kernel
theorem dL_law_308 : decode cL_law 308 = .ok (.iconst 1, 1) := by decide +kernel
theorem dL_law_309 : decode cL_law 309 = .ok (.iadd, 1) := by decide +kernel
theorem dL_law_310 : decode cL_law 310 = .ok (.iaload, 1) := by decide +kernel
theorem dL_law_311 : decode cL_law 311 = .ok (.invokevirtual 27, 3) := by decide +kernel
theorem dL_law_314 : decode cL_law 314 = .ok (.aload_n 2, 1) := by decide +kernel
theorem dL_law_315 : decode cL_law 315 = .ok (.aload_n 0, 1) := by decide +kernel
theorem dL_law_316 : decode cL_law 316 = .ok (.iload_n 3, 1) := by decide +kernel
theorem dL_law_317 : decode cL_law 317 = .ok (.iconst 1, 1) := by decide +kernel
theorem dL_law_318 : decode cL_law 318 = .ok (.iadd, 1) := by decide +kernel
theorem dL_law_319 : decode cL_law 319 = .ok (.iaload, 1) := by decide +kernel
theorem dL_law_320 : decode cL_law 320 = .ok (.invokevirtual 31, 3) := by decide +kernel
theorem dL_law_323 : decode cL_law 323 = .ok (.if_icmp .eq 904, 3) := by decide +kernel
theorem dL_law_326 : decode cL_law 326 = .ok (.iconst 0, 1) := by decide +kernel
theorem dL_law_327 : decode cL_law 327 = .ok (.ireturn, 1) := by decide +kernel
theorem dL_law_328 : decode cL_law 328 = .ok (.aload_n 1, 1) := by decide +kernel
theorem dL_law_329 : decode cL_law 329 = .ok (.aload_n 0, 1) := by decide +kernel
theorem dL_law_330 : decode cL_law 330 = .ok (.iload_n 3, 1) := by decide +kernel
theorem dL_law_331 : decode cL_law 331 = .ok (.iconst 1, 1) := by decide +kernel
theorem dL_law_332 : decode cL_law 332 = .ok (.iadd, 1) := by decide +kernel
theorem dL_law_333 : decode cL_law 333 = .ok (.iaload, 1) := by decide +kernel
theorem dL_law_334 : decode cL_law 334 = .ok (.aload_n 0, 1) := by decide +kernel
theorem dL_law_335 : decode cL_law 335 = .ok (.iload_n 3, 1) := by decide +kernel
theorem dL_law_336 : decode cL_law 336 = .ok (.iconst 2, 1) := by decide +kernel
theorem dL_law_337 : decode cL_law 337 = .ok (.iadd, 1) := by decide +kernel
theorem dL_law_338 : decode cL_law 338 = .ok (.iaload, 1) := by decide +kernel
theorem dL_law_339 : decode cL_law 339 = .ok (.aload_n 0, 1) := by decide +kernel
theorem dL_law_340 : decode cL_law 340 = .ok (.iload_n 3, 1) := by decide +kernel
theorem dL_law_341 : decode cL_law 341 = .ok (.iconst 3, 1) := by decide +kernel
theorem dL_law_342 : decode cL_law 342 = .ok (.iadd, 1) := by decide +kernel
theorem dL_law_343 : decode cL_law 343 = .ok (.iaload, 1) := by decide +kernel
theorem dL_law_344 : decode cL_law 344 = .ok (.aload_n 0, 1) := by decide +kernel
theorem dL_law_345 : decode cL_law 345 = .ok (.iload_n 3, 1) := by decide +kernel
theorem dL_law_346 : decode cL_law 346 = .ok (.iconst 4, 1) := by decide +kernel
theorem dL_law_347 : decode cL_law 347 = .ok (.iadd, 1) := by decide +kernel
theorem dL_law_348 : decode cL_law 348 = .ok (.iaload, 1) := by decide +kernel
theorem dL_law_349 : decode cL_law 349 = .ok (.invokevirtual 32, 3) := by decide +kernel
theorem dL_law_352 : decode cL_law 352 = .ok (.aload_n 2, 1) := by decide +kernel
theorem dL_law_353 : decode cL_law 353 = .ok (.aload_n 0, 1) := by decide +kernel
theorem dL_law_354 : decode cL_law 354 = .ok (.iload_n 3, 1) := by decide +kernel
theorem dL_law_355 : decode cL_law 355 = .ok (.iconst 1, 1) := by decide +kernel
theorem dL_law_356 : decode cL_law 356 = .ok (.iadd, 1) := by decide +kernel
theorem dL_law_357 : decode cL_law 357 = .ok (.iaload, 1) := by decide +kernel
theorem dL_law_358 : decode cL_law 358 = .ok (.aload_n 0, 1) := by decide +kernel
theorem dL_law_359 : decode cL_law 359 = .ok (.iload_n 3, 1) := by decide +kernel
theorem dL_law_360 : decode cL_law 360 = .ok (.iconst 2, 1) := by decide +kernel
theorem dL_law_361 : decode cL_law 361 = .ok (.iadd, 1) := by decide +kernel
theorem dL_law_362 : decode cL_law 362 = .ok (.iaload, 1) := by decide +kernel
theorem dL_law_363 : decode cL_law 363 = .ok (.aload_n 0, 1) := by decide +kernel
theorem dL_law_364 : decode cL_law 364 = .ok (.iload_n 3, 1) := by decide +kernel
theorem dL_law_365 : decode cL_law 365 = .ok (.iconst 3, 1) := by decide +kernel
theorem dL_law_366 : decode cL_law 366 = .ok (.iadd, 1) := by decide +kernel
theorem dL_law_367 : decode cL_law 367 = .ok (.iaload, 1) := by decide +kernel
theorem dL_law_368 : decode cL_law 368 = .ok (.aload_n 0, 1) := by decide +kernel
theorem dL_law_369 : decode cL_law 369 = .ok (.iload_n 3, 1) := by decide +kernel
theorem dL_law_370 : decode cL_law 370 = .ok (.iconst 4, 1) := by decide +kernel
theorem dL_law_371 : decode cL_law 371 = .ok (.iadd, 1) := by decide +kernel
theorem dL_law_372 : decode cL_law 372 = .ok (.iaload, 1) := by decide +kernel
theorem dL_law_373 : decode cL_law 373 = .ok (.invokevirtual 36, 3) := by decide +kernel
theorem dL_law_376 : decode cL_law 376 = .ok (.if_icmp .eq 851, 3) := by decide +kernel
theorem dL_law_379 : decode cL_law 379 = .ok (.iconst 0, 1) := by decide +kernel
theorem dL_law_380 : decode cL_law 380 = .ok (.ireturn, 1) := by decide +kernel
theorem dL_law_381 : decode cL_law 381 = .ok (.aload_n 1, 1) := by decide +kernel
theorem dL_law_382 : decode cL_law 382 = .ok (.aload_n 0, 1) := by decide +kernel
theorem dL_law_383 : decode cL_law 383 = .ok (.iload_n 3, 1) := by decide +kernel
theorem dL_law_384 : decode cL_law 384 = .ok (.iconst 1, 1) := by decide +kernel
theorem dL_law_385 : decode cL_law 385 = .ok (.iadd, 1) := by decide +kernel
theorem dL_law_386 : decode cL_law 386 = .ok (.iaload, 1) := by decide +kernel
theorem dL_law_387 : decode cL_law 387 = .ok (.aload_n 0, 1) := by decide +kernel
theorem dL_law_388 : decode cL_law 388 = .ok (.iload_n 3, 1) := by decide +kernel
theorem dL_law_389 : decode cL_law 389 = .ok (.iconst 2, 1) := by decide +kernel
theorem dL_law_390 : decode cL_law 390 = .ok (.iadd, 1) := by decide +kernel
theorem dL_law_391 : decode cL_law 391 = .ok (.iaload, 1) := by decide +kernel
theorem dL_law_392 : decode cL_law 392 = .ok (.aload_n 0, 1) := by decide +kernel
theorem dL_law_393 : decode cL_law 393 = .ok (.iload_n 3, 1) := by decide +kernel
theorem dL_law_394 : decode cL_law 394 = .ok (.iconst 3, 1) := by decide +kernel
theorem dL_law_395 : decode cL_law 395 = .ok (.iadd, 1) := by decide +kernel
theorem dL_law_396 : decode cL_law 396 = .ok (.iaload, 1) := by decide +kernel
theorem dL_law_397 : decode cL_law 397 = .ok (.aload_n 0, 1) := by decide +kernel
theorem dL_law_398 : decode cL_law 398 = .ok (.iload_n 3, 1) := by decide +kernel
theorem dL_law_399 : decode cL_law 399 = .ok (.iconst 4, 1) := by decide +kernel
theorem dL_law_400 : decode cL_law 400 = .ok (.iadd, 1) := by decide +kernel
theorem dL_law_401 : decode cL_law 401 = .ok (.iaload, 1) := by decide +kernel
theorem dL_law_402 : decode cL_law 402 = .ok (.invokevirtual 37, 3) := by decide +kernel
theorem dL_law_405 : decode cL_law 405 = .ok (.aload_n 2, 1) := by decide +kernel
theorem dL_law_406 : decode cL_law 406 = .ok (.aload_n 0, 1) := by decide +kernel
theorem dL_law_407 : decode cL_law 407 = .ok (.iload_n 3, 1) := by decide +kernel
theorem dL_law_408 : decode cL_law 408 = .ok (.iconst 1, 1) := by decide +kernel
theorem dL_law_409 : decode cL_law 409 = .ok (.iadd, 1) := by decide +kernel
theorem dL_law_410 : decode cL_law 410 = .ok (.iaload, 1) := by decide +kernel
theorem dL_law_411 : decode cL_law 411 = .ok (.aload_n 0, 1) := by decide +kernel
theorem dL_law_412 : decode cL_law 412 = .ok (.iload_n 3, 1) := by decide +kernel
theorem dL_law_413 : decode cL_law 413 = .ok (.iconst 2, 1) := by decide +kernel
theorem dL_law_414 : decode cL_law 414 = .ok (.iadd, 1) := by decide +kernel
theorem dL_law_415 : decode cL_law 415 = .ok (.iaload, 1) := by decide +kernel
theorem dL_law_416 : decode cL_law 416 = .ok (.aload_n 0, 1) := by decide +kernel
theorem dL_law_417 : decode cL_law 417 = .ok (.iload_n 3, 1) := by decide +kernel
theorem dL_law_418 : decode cL_law 418 = .ok (.iconst 3, 1) := by decide +kernel
theorem dL_law_419 : decode cL_law 419 = .ok (.iadd, 1) := by decide +kernel
theorem dL_law_420 : decode cL_law 420 = .ok (.iaload, 1) := by decide +kernel
theorem dL_law_421 : decode cL_law 421 = .ok (.aload_n 0, 1) := by decide +kernel
theorem dL_law_422 : decode cL_law 422 = .ok (.iload_n 3, 1) := by decide +kernel
theorem dL_law_423 : decode cL_law 423 = .ok (.iconst 4, 1) := by decide +kernel
theorem dL_law_424 : decode cL_law 424 = .ok (.iadd, 1) := by decide +kernel
theorem dL_law_425 : decode cL_law 425 = .ok (.iaload, 1) := by decide +kernel
theorem dL_law_426 : decode cL_law 426 = .ok (.invokevirtual 40, 3) := by decide +kernel
theorem dL_law_429 : decode cL_law 429 = .ok (.if_icmp .eq 798, 3) := by decide +kernel
theorem dL_law_432 : decode cL_law 432 = .ok (.iconst 0, 1) := by decide +kernel
theorem dL_law_433 : decode cL_law 433 = .ok (.ireturn, 1) := by decide +kernel
theorem dL_law_434 : decode cL_law 434 = .ok (.aload_n 1, 1) := by decide +kernel
theorem dL_law_435 : decode cL_law 435 = .ok (.aload_n 0, 1) := by decide +kernel
theorem dL_law_436 : decode cL_law 436 = .ok (.iload_n 3, 1) := by decide +kernel
theorem dL_law_437 : decode cL_law 437 = .ok (.iconst 1, 1) := by decide +kernel
theorem dL_law_438 : decode cL_law 438 = .ok (.iadd, 1) := by decide +kernel
theorem dL_law_439 : decode cL_law 439 = .ok (.iaload, 1) := by decide +kernel
theorem dL_law_440 : decode cL_law 440 = .ok (.aload_n 0, 1) := by decide +kernel
theorem dL_law_441 : decode cL_law 441 = .ok (.iload_n 3, 1) := by decide +kernel
theorem dL_law_442 : decode cL_law 442 = .ok (.iconst 2, 1) := by decide +kernel
theorem dL_law_443 : decode cL_law 443 = .ok (.iadd, 1) := by decide +kernel
theorem dL_law_444 : decode cL_law 444 = .ok (.iaload, 1) := by decide +kernel
theorem dL_law_445 : decode cL_law 445 = .ok (.aload_n 0, 1) := by decide +kernel
theorem dL_law_446 : decode cL_law 446 = .ok (.iload_n 3, 1) := by decide +kernel
theorem dL_law_447 : decode cL_law 447 = .ok (.iconst 3, 1) := by decide +kernel
theorem dL_law_448 : decode cL_law 448 = .ok (.iadd, 1) := by decide +kernel
theorem dL_law_449 : decode cL_law 449 = .ok (.iaload, 1) := by decide +kernel
theorem dL_law_450 : decode cL_law 450 = .ok (.aload_n 0, 1) := by decide +kernel
theorem dL_law_451 : decode cL_law 451 = .ok (.iload_n 3, 1) := by decide +kernel
theorem dL_law_452 : decode cL_law 452 = .ok (.iconst 4, 1) := by decide +kernel
theorem dL_law_453 : decode cL_law 453 = .ok (.iadd, 1) := by decide +kernel
theorem dL_law_454 : decode cL_law 454 = .ok (.iaload, 1) := by decide +kernel
theorem dL_law_455 : decode cL_law 455 = .ok (.invokevirtual 41, 3) := by decide +kernel
theorem dL_law_458 : decode cL_law 458 = .ok (.aload_n 2, 1) := by decide +kernel
theorem dL_law_459 : decode cL_law 459 = .ok (.aload_n 0, 1) := by decide +kernel
theorem dL_law_460 : decode cL_law 460 = .ok (.iload_n 3, 1) := by decide +kernel
theorem dL_law_461 : decode cL_law 461 = .ok (.iconst 1, 1) := by decide +kernel
theorem dL_law_462 : decode cL_law 462 = .ok (.iadd, 1) := by decide +kernel
theorem dL_law_463 : decode cL_law 463 = .ok (.iaload, 1) := by decide +kernel
theorem dL_law_464 : decode cL_law 464 = .ok (.aload_n 0, 1) := by decide +kernel
theorem dL_law_465 : decode cL_law 465 = .ok (.iload_n 3, 1) := by decide +kernel
theorem dL_law_466 : decode cL_law 466 = .ok (.iconst 2, 1) := by decide +kernel
theorem dL_law_467 : decode cL_law 467 = .ok (.iadd, 1) := by decide +kernel
theorem dL_law_468 : decode cL_law 468 = .ok (.iaload, 1) := by decide +kernel
theorem dL_law_469 : decode cL_law 469 = .ok (.aload_n 0, 1) := by decide +kernel
theorem dL_law_470 : decode cL_law 470 = .ok (.iload_n 3, 1) := by decide +kernel
theorem dL_law_471 : decode cL_law 471 = .ok (.iconst 3, 1) := by decide +kernel
theorem dL_law_472 : decode cL_law 472 = .ok (.iadd, 1) := by decide +kernel
theorem dL_law_473 : decode cL_law 473 = .ok (.iaload, 1) := by decide +kernel
theorem dL_law_474 : decode cL_law 474 = .ok (.aload_n 0, 1) := by decide +kernel
theorem dL_law_475 : decode cL_law 475 = .ok (.iload_n 3, 1) := by decide +kernel
theorem dL_law_476 : decode cL_law 476 = .ok (.iconst 4, 1) := by decide +kernel
theorem dL_law_477 : decode cL_law 477 = .ok (.iadd, 1) := by decide +kernel
theorem dL_law_478 : decode cL_law 478 = .ok (.iaload, 1) := by decide +kernel
theorem dL_law_479 : decode cL_law 479 = .ok (.invokevirtual 44, 3) := by decide +kernel
theorem dL_law_482 : decode cL_law 482 = .ok (.if_icmp .eq 745, 3) := by decide +kernel
theorem dL_law_485 : decode cL_law 485 = .ok (.iconst 0, 1) := by decide +kernel
theorem dL_law_486 : decode cL_law 486 = .ok (.ireturn, 1) := by decide +kernel
theorem dL_law_487 : decode cL_law 487 = .ok (.aload_n 1, 1) := by decide +kernel
theorem dL_law_488 : decode cL_law 488 = .ok (.aload_n 0, 1) := by decide +kernel
theorem dL_law_489 : decode cL_law 489 = .ok (.iload_n 3, 1) := by decide +kernel
theorem dL_law_490 : decode cL_law 490 = .ok (.iconst 1, 1) := by decide +kernel
theorem dL_law_491 : decode cL_law 491 = .ok (.iadd, 1) := by decide +kernel
theorem dL_law_492 : decode cL_law 492 = .ok (.iaload, 1) := by decide +kernel
theorem dL_law_493 : decode cL_law 493 = .ok (.aload_n 0, 1) := by decide +kernel
theorem dL_law_494 : decode cL_law 494 = .ok (.iload_n 3, 1) := by decide +kernel
theorem dL_law_495 : decode cL_law 495 = .ok (.iconst 2, 1) := by decide +kernel
theorem dL_law_496 : decode cL_law 496 = .ok (.iadd, 1) := by decide +kernel
theorem dL_law_497 : decode cL_law 497 = .ok (.iaload, 1) := by decide +kernel
theorem dL_law_498 : decode cL_law 498 = .ok (.aload_n 0, 1) := by decide +kernel
theorem dL_law_499 : decode cL_law 499 = .ok (.iload_n 3, 1) := by decide +kernel
theorem dL_law_500 : decode cL_law 500 = .ok (.iconst 3, 1) := by decide +kernel
theorem dL_law_501 : decode cL_law 501 = .ok (.iadd, 1) := by decide +kernel
theorem dL_law_502 : decode cL_law 502 = .ok (.iaload, 1) := by decide +kernel
theorem dL_law_503 : decode cL_law 503 = .ok (.invokevirtual 45, 3) := by decide +kernel
theorem dL_law_506 : decode cL_law 506 = .ok (.aload_n 2, 1) := by decide +kernel
theorem dL_law_507 : decode cL_law 507 = .ok (.aload_n 0, 1) := by decide +kernel
theorem dL_law_508 : decode cL_law 508 = .ok (.iload_n 3, 1) := by decide +kernel
theorem dL_law_509 : decode cL_law 509 = .ok (.iconst 1, 1) := by decide +kernel
theorem dL_law_510 : decode cL_law 510 = .ok (.iadd, 1) := by decide +kernel
theorem dL_law_511 : decode cL_law 511 = .ok (.iaload, 1) := by decide +kernel
theorem dL_law_512 : decode cL_law 512 = .ok (.aload_n 0, 1) := by decide +kernel
theorem dL_law_513 : decode cL_law 513 = .ok (.iload_n 3, 1) := by decide +kernel
theorem dL_law_514 : decode cL_law 514 = .ok (.iconst 2, 1) := by decide +kernel
theorem dL_law_515 : decode cL_law 515 = .ok (.iadd, 1) := by decide +kernel
theorem dL_law_516 : decode cL_law 516 = .ok (.iaload, 1) := by decide +kernel
theorem dL_law_517 : decode cL_law 517 = .ok (.aload_n 0, 1) := by decide +kernel
theorem dL_law_518 : decode cL_law 518 = .ok (.iload_n 3, 1) := by decide +kernel
theorem dL_law_519 : decode cL_law 519 = .ok (.iconst 3, 1) := by decide +kernel
theorem dL_law_520 : decode cL_law 520 = .ok (.iadd, 1) := by decide +kernel
theorem dL_law_521 : decode cL_law 521 = .ok (.iaload, 1) := by decide +kernel
theorem dL_law_522 : decode cL_law 522 = .ok (.invokevirtual 48, 3) := by decide +kernel
theorem dL_law_525 : decode cL_law 525 = .ok (.if_icmp .eq 702, 3) := by decide +kernel
theorem dL_law_528 : decode cL_law 528 = .ok (.iconst 0, 1) := by decide +kernel
theorem dL_law_529 : decode cL_law 529 = .ok (.ireturn, 1) := by decide +kernel
theorem dL_law_530 : decode cL_law 530 = .ok (.aload_n 1, 1) := by decide +kernel
theorem dL_law_531 : decode cL_law 531 = .ok (.aload_n 0, 1) := by decide +kernel
theorem dL_law_532 : decode cL_law 532 = .ok (.iload_n 3, 1) := by decide +kernel
theorem dL_law_533 : decode cL_law 533 = .ok (.iconst 1, 1) := by decide +kernel
theorem dL_law_534 : decode cL_law 534 = .ok (.iadd, 1) := by decide +kernel
theorem dL_law_535 : decode cL_law 535 = .ok (.iaload, 1) := by decide +kernel
theorem dL_law_536 : decode cL_law 536 = .ok (.aload_n 0, 1) := by decide +kernel
theorem dL_law_537 : decode cL_law 537 = .ok (.iload_n 3, 1) := by decide +kernel
theorem dL_law_538 : decode cL_law 538 = .ok (.iconst 2, 1) := by decide +kernel
theorem dL_law_539 : decode cL_law 539 = .ok (.iadd, 1) := by decide +kernel
theorem dL_law_540 : decode cL_law 540 = .ok (.iaload, 1) := by decide +kernel
theorem dL_law_541 : decode cL_law 541 = .ok (.invokevirtual 49, 3) := by decide +kernel
theorem dL_law_544 : decode cL_law 544 = .ok (.aload_n 2, 1) := by decide +kernel
theorem dL_law_545 : decode cL_law 545 = .ok (.aload_n 0, 1) := by decide +kernel
theorem dL_law_546 : decode cL_law 546 = .ok (.iload_n 3, 1) := by decide +kernel
theorem dL_law_547 : decode cL_law 547 = .ok (.iconst 1, 1) := by decide +kernel
theorem dL_law_548 : decode cL_law 548 = .ok (.iadd, 1) := by decide +kernel
theorem dL_law_549 : decode cL_law 549 = .ok (.iaload, 1) := by decide +kernel
theorem dL_law_550 : decode cL_law 550 = .ok (.aload_n 0, 1) := by decide +kernel
theorem dL_law_551 : decode cL_law 551 = .ok (.iload_n 3, 1) := by decide +kernel
theorem dL_law_552 : decode cL_law 552 = .ok (.iconst 2, 1) := by decide +kernel
theorem dL_law_553 : decode cL_law 553 = .ok (.iadd, 1) := by decide +kernel
theorem dL_law_554 : decode cL_law 554 = .ok (.iaload, 1) := by decide +kernel
theorem dL_law_555 : decode cL_law 555 = .ok (.invokevirtual 53, 3) := by decide +kernel
theorem dL_law_558 : decode cL_law 558 = .ok (.if_icmp .eq 669, 3) := by decide +kernel
theorem dL_law_561 : decode cL_law 561 = .ok (.iconst 0, 1) := by decide +kernel
theorem dL_law_562 : decode cL_law 562 = .ok (.ireturn, 1) := by decide +kernel
theorem dL_law_563 : decode cL_law 563 = .ok (.aload_n 1, 1) := by decide +kernel
theorem dL_law_564 : decode cL_law 564 = .ok (.aload_n 0, 1) := by decide +kernel
theorem dL_law_565 : decode cL_law 565 = .ok (.iload_n 3, 1) := by decide +kernel
theorem dL_law_566 : decode cL_law 566 = .ok (.iconst 1, 1) := by decide +kernel
theorem dL_law_567 : decode cL_law 567 = .ok (.iadd, 1) := by decide +kernel
theorem dL_law_568 : decode cL_law 568 = .ok (.iaload, 1) := by decide +kernel
theorem dL_law_569 : decode cL_law 569 = .ok (.aload_n 0, 1) := by decide +kernel
theorem dL_law_570 : decode cL_law 570 = .ok (.iload_n 3, 1) := by decide +kernel
theorem dL_law_571 : decode cL_law 571 = .ok (.iconst 2, 1) := by decide +kernel
theorem dL_law_572 : decode cL_law 572 = .ok (.iadd, 1) := by decide +kernel
theorem dL_law_573 : decode cL_law 573 = .ok (.iaload, 1) := by decide +kernel
theorem dL_law_574 : decode cL_law 574 = .ok (.invokevirtual 54, 3) := by decide +kernel
theorem dL_law_577 : decode cL_law 577 = .ok (.aload_n 2, 1) := by decide +kernel
theorem dL_law_578 : decode cL_law 578 = .ok (.aload_n 0, 1) := by decide +kernel
theorem dL_law_579 : decode cL_law 579 = .ok (.iload_n 3, 1) := by decide +kernel
theorem dL_law_580 : decode cL_law 580 = .ok (.iconst 1, 1) := by decide +kernel
theorem dL_law_581 : decode cL_law 581 = .ok (.iadd, 1) := by decide +kernel
theorem dL_law_582 : decode cL_law 582 = .ok (.iaload, 1) := by decide +kernel
theorem dL_law_583 : decode cL_law 583 = .ok (.aload_n 0, 1) := by decide +kernel
theorem dL_law_584 : decode cL_law 584 = .ok (.iload_n 3, 1) := by decide +kernel
theorem dL_law_585 : decode cL_law 585 = .ok (.iconst 2, 1) := by decide +kernel
theorem dL_law_586 : decode cL_law 586 = .ok (.iadd, 1) := by decide +kernel
theorem dL_law_587 : decode cL_law 587 = .ok (.iaload, 1) := by decide +kernel
theorem dL_law_588 : decode cL_law 588 = .ok (.invokevirtual 57, 3) := by decide +kernel
theorem dL_law_591 : decode cL_law 591 = .ok (.if_icmp .eq 636, 3) := by decide +kernel
theorem dL_law_594 : decode cL_law 594 = .ok (.iconst 0, 1) := by decide +kernel
theorem dL_law_595 : decode cL_law 595 = .ok (.ireturn, 1) := by decide +kernel
theorem dL_law_596 : decode cL_law 596 = .ok (.aload_n 1, 1) := by decide +kernel
theorem dL_law_597 : decode cL_law 597 = .ok (.aload_n 0, 1) := by decide +kernel
theorem dL_law_598 : decode cL_law 598 = .ok (.iload_n 3, 1) := by decide +kernel
theorem dL_law_599 : decode cL_law 599 = .ok (.iconst 1, 1) := by decide +kernel
theorem dL_law_600 : decode cL_law 600 = .ok (.iadd, 1) := by decide +kernel
theorem dL_law_601 : decode cL_law 601 = .ok (.iaload, 1) := by decide +kernel
theorem dL_law_602 : decode cL_law 602 = .ok (.aload_n 0, 1) := by decide +kernel
theorem dL_law_603 : decode cL_law 603 = .ok (.iload_n 3, 1) := by decide +kernel
theorem dL_law_604 : decode cL_law 604 = .ok (.iconst 2, 1) := by decide +kernel
theorem dL_law_605 : decode cL_law 605 = .ok (.iadd, 1) := by decide +kernel
theorem dL_law_606 : decode cL_law 606 = .ok (.iaload, 1) := by decide +kernel
theorem dL_law_607 : decode cL_law 607 = .ok (.invokevirtual 58, 3) := by decide +kernel
theorem dL_law_610 : decode cL_law 610 = .ok (.aload_n 2, 1) := by decide +kernel
theorem dL_law_611 : decode cL_law 611 = .ok (.aload_n 0, 1) := by decide +kernel
theorem dL_law_612 : decode cL_law 612 = .ok (.iload_n 3, 1) := by decide +kernel
theorem dL_law_613 : decode cL_law 613 = .ok (.iconst 1, 1) := by decide +kernel
theorem dL_law_614 : decode cL_law 614 = .ok (.iadd, 1) := by decide +kernel
theorem dL_law_615 : decode cL_law 615 = .ok (.iaload, 1) := by decide +kernel
theorem dL_law_616 : decode cL_law 616 = .ok (.aload_n 0, 1) := by decide +kernel
theorem dL_law_617 : decode cL_law 617 = .ok (.iload_n 3, 1) := by decide +kernel
theorem dL_law_618 : decode cL_law 618 = .ok (.iconst 2, 1) := by decide +kernel
theorem dL_law_619 : decode cL_law 619 = .ok (.iadd, 1) := by decide +kernel
theorem dL_law_620 : decode cL_law 620 = .ok (.iaload, 1) := by decide +kernel
theorem dL_law_621 : decode cL_law 621 = .ok (.invokevirtual 61, 3) := by decide +kernel
theorem dL_law_624 : decode cL_law 624 = .ok (.if_icmp .eq 603, 3) := by decide +kernel
theorem dL_law_627 : decode cL_law 627 = .ok (.iconst 0, 1) := by decide +kernel
theorem dL_law_628 : decode cL_law 628 = .ok (.ireturn, 1) := by decide +kernel
theorem dL_law_629 : decode cL_law 629 = .ok (.aload_n 1, 1) := by decide +kernel
theorem dL_law_630 : decode cL_law 630 = .ok (.aload_n 0, 1) := by decide +kernel
theorem dL_law_631 : decode cL_law 631 = .ok (.iload_n 3, 1) := by decide +kernel
theorem dL_law_632 : decode cL_law 632 = .ok (.iconst 1, 1) := by decide +kernel
theorem dL_law_633 : decode cL_law 633 = .ok (.iadd, 1) := by decide +kernel
theorem dL_law_634 : decode cL_law 634 = .ok (.iaload, 1) := by decide +kernel
theorem dL_law_635 : decode cL_law 635 = .ok (.invokevirtual 62, 3) := by decide +kernel
theorem dL_law_638 : decode cL_law 638 = .ok (.aload_n 2, 1) := by decide +kernel
theorem dL_law_639 : decode cL_law 639 = .ok (.aload_n 0, 1) := by decide +kernel
theorem dL_law_640 : decode cL_law 640 = .ok (.iload_n 3, 1) := by decide +kernel
theorem dL_law_641 : decode cL_law 641 = .ok (.iconst 1, 1) := by decide +kernel
theorem dL_law_642 : decode cL_law 642 = .ok (.iadd, 1) := by decide +kernel
theorem dL_law_643 : decode cL_law 643 = .ok (.iaload, 1) := by decide +kernel
theorem dL_law_644 : decode cL_law 644 = .ok (.invokevirtual 65, 3) := by decide +kernel
theorem dL_law_647 : decode cL_law 647 = .ok (.if_icmp .eq 580, 3) := by decide +kernel
theorem dL_law_650 : decode cL_law 650 = .ok (.iconst 0, 1) := by decide +kernel
theorem dL_law_651 : decode cL_law 651 = .ok (.ireturn, 1) := by decide +kernel
theorem dL_law_652 : decode cL_law 652 = .ok (.aload_n 1, 1) := by decide +kernel
theorem dL_law_653 : decode cL_law 653 = .ok (.aload_n 0, 1) := by decide +kernel
theorem dL_law_654 : decode cL_law 654 = .ok (.iload_n 3, 1) := by decide +kernel
theorem dL_law_655 : decode cL_law 655 = .ok (.iconst 1, 1) := by decide +kernel
theorem dL_law_656 : decode cL_law 656 = .ok (.iadd, 1) := by decide +kernel
theorem dL_law_657 : decode cL_law 657 = .ok (.iaload, 1) := by decide +kernel
theorem dL_law_658 : decode cL_law 658 = .ok (.aload_n 0, 1) := by decide +kernel
theorem dL_law_659 : decode cL_law 659 = .ok (.iload_n 3, 1) := by decide +kernel
theorem dL_law_660 : decode cL_law 660 = .ok (.iconst 2, 1) := by decide +kernel
theorem dL_law_661 : decode cL_law 661 = .ok (.iadd, 1) := by decide +kernel
theorem dL_law_662 : decode cL_law 662 = .ok (.iaload, 1) := by decide +kernel
theorem dL_law_663 : decode cL_law 663 = .ok (.invokevirtual 66, 3) := by decide +kernel
theorem dL_law_666 : decode cL_law 666 = .ok (.aload_n 2, 1) := by decide +kernel
theorem dL_law_667 : decode cL_law 667 = .ok (.aload_n 0, 1) := by decide +kernel
theorem dL_law_668 : decode cL_law 668 = .ok (.iload_n 3, 1) := by decide +kernel
theorem dL_law_669 : decode cL_law 669 = .ok (.iconst 1, 1) := by decide +kernel
theorem dL_law_670 : decode cL_law 670 = .ok (.iadd, 1) := by decide +kernel
theorem dL_law_671 : decode cL_law 671 = .ok (.iaload, 1) := by decide +kernel
theorem dL_law_672 : decode cL_law 672 = .ok (.aload_n 0, 1) := by decide +kernel
theorem dL_law_673 : decode cL_law 673 = .ok (.iload_n 3, 1) := by decide +kernel
theorem dL_law_674 : decode cL_law 674 = .ok (.iconst 2, 1) := by decide +kernel
theorem dL_law_675 : decode cL_law 675 = .ok (.iadd, 1) := by decide +kernel
theorem dL_law_676 : decode cL_law 676 = .ok (.iaload, 1) := by decide +kernel
theorem dL_law_677 : decode cL_law 677 = .ok (.invokevirtual 69, 3) := by decide +kernel
theorem dL_law_680 : decode cL_law 680 = .ok (.if_icmp .eq 547, 3) := by decide +kernel
theorem dL_law_683 : decode cL_law 683 = .ok (.iconst 0, 1) := by decide +kernel
theorem dL_law_684 : decode cL_law 684 = .ok (.ireturn, 1) := by decide +kernel
theorem dL_law_685 : decode cL_law 685 = .ok (.aload_n 1, 1) := by decide +kernel
theorem dL_law_686 : decode cL_law 686 = .ok (.aload_n 0, 1) := by decide +kernel
theorem dL_law_687 : decode cL_law 687 = .ok (.iload_n 3, 1) := by decide +kernel
theorem dL_law_688 : decode cL_law 688 = .ok (.iconst 1, 1) := by decide +kernel
theorem dL_law_689 : decode cL_law 689 = .ok (.iadd, 1) := by decide +kernel
theorem dL_law_690 : decode cL_law 690 = .ok (.iaload, 1) := by decide +kernel
theorem dL_law_691 : decode cL_law 691 = .ok (.invokevirtual 70, 3) := by decide +kernel
theorem dL_law_694 : decode cL_law 694 = .ok (.aload_n 2, 1) := by decide +kernel
theorem dL_law_695 : decode cL_law 695 = .ok (.aload_n 0, 1) := by decide +kernel
theorem dL_law_696 : decode cL_law 696 = .ok (.iload_n 3, 1) := by decide +kernel
theorem dL_law_697 : decode cL_law 697 = .ok (.iconst 1, 1) := by decide +kernel
theorem dL_law_698 : decode cL_law 698 = .ok (.iadd, 1) := by decide +kernel
theorem dL_law_699 : decode cL_law 699 = .ok (.iaload, 1) := by decide +kernel
theorem dL_law_700 : decode cL_law 700 = .ok (.invokevirtual 73, 3) := by decide +kernel
theorem dL_law_703 : decode cL_law 703 = .ok (.if_icmp .eq 524, 3) := by decide +kernel
theorem dL_law_706 : decode cL_law 706 = .ok (.iconst 0, 1) := by decide +kernel
theorem dL_law_707 : decode cL_law 707 = .ok (.ireturn, 1) := by decide +kernel
theorem dL_law_708 : decode cL_law 708 = .ok (.aload_n 1, 1) := by decide +kernel
theorem dL_law_709 : decode cL_law 709 = .ok (.invokevirtual 74, 3) := by decide +kernel
theorem dL_law_712 : decode cL_law 712 = .ok (.aload_n 2, 1) := by decide +kernel
theorem dL_law_713 : decode cL_law 713 = .ok (.invokevirtual 78, 3) := by decide +kernel
theorem dL_law_716 : decode cL_law 716 = .ok (.if_icmp .eq 511, 3) := by decide +kernel
theorem dL_law_719 : decode cL_law 719 = .ok (.iconst 0, 1) := by decide +kernel
theorem dL_law_720 : decode cL_law 720 = .ok (.ireturn, 1) := by decide +kernel
theorem dL_law_721 : decode cL_law 721 = .ok (.aload_n 1, 1) := by decide +kernel
theorem dL_law_722 : decode cL_law 722 = .ok (.aload_n 0, 1) := by decide +kernel
theorem dL_law_723 : decode cL_law 723 = .ok (.iload_n 3, 1) := by decide +kernel
theorem dL_law_724 : decode cL_law 724 = .ok (.iconst 1, 1) := by decide +kernel
theorem dL_law_725 : decode cL_law 725 = .ok (.iadd, 1) := by decide +kernel
theorem dL_law_726 : decode cL_law 726 = .ok (.iaload, 1) := by decide +kernel
theorem dL_law_727 : decode cL_law 727 = .ok (.aload_n 0, 1) := by decide +kernel
theorem dL_law_728 : decode cL_law 728 = .ok (.iload_n 3, 1) := by decide +kernel
theorem dL_law_729 : decode cL_law 729 = .ok (.iconst 2, 1) := by decide +kernel
theorem dL_law_730 : decode cL_law 730 = .ok (.iadd, 1) := by decide +kernel
theorem dL_law_731 : decode cL_law 731 = .ok (.iaload, 1) := by decide +kernel
theorem dL_law_732 : decode cL_law 732 = .ok (.aload_n 0, 1) := by decide +kernel
theorem dL_law_733 : decode cL_law 733 = .ok (.iload_n 3, 1) := by decide +kernel
theorem dL_law_734 : decode cL_law 734 = .ok (.iconst 3, 1) := by decide +kernel
theorem dL_law_735 : decode cL_law 735 = .ok (.iadd, 1) := by decide +kernel
theorem dL_law_736 : decode cL_law 736 = .ok (.iaload, 1) := by decide +kernel
theorem dL_law_737 : decode cL_law 737 = .ok (.aload_n 0, 1) := by decide +kernel
theorem dL_law_738 : decode cL_law 738 = .ok (.iload_n 3, 1) := by decide +kernel
theorem dL_law_739 : decode cL_law 739 = .ok (.iconst 4, 1) := by decide +kernel
theorem dL_law_740 : decode cL_law 740 = .ok (.iadd, 1) := by decide +kernel
theorem dL_law_741 : decode cL_law 741 = .ok (.iaload, 1) := by decide +kernel
theorem dL_law_742 : decode cL_law 742 = .ok (.invokevirtual 79, 3) := by decide +kernel
theorem dL_law_745 : decode cL_law 745 = .ok (.aload_n 2, 1) := by decide +kernel
theorem dL_law_746 : decode cL_law 746 = .ok (.aload_n 0, 1) := by decide +kernel
theorem dL_law_747 : decode cL_law 747 = .ok (.iload_n 3, 1) := by decide +kernel
theorem dL_law_748 : decode cL_law 748 = .ok (.iconst 1, 1) := by decide +kernel
theorem dL_law_749 : decode cL_law 749 = .ok (.iadd, 1) := by decide +kernel
theorem dL_law_750 : decode cL_law 750 = .ok (.iaload, 1) := by decide +kernel
theorem dL_law_751 : decode cL_law 751 = .ok (.aload_n 0, 1) := by decide +kernel
theorem dL_law_752 : decode cL_law 752 = .ok (.iload_n 3, 1) := by decide +kernel
theorem dL_law_753 : decode cL_law 753 = .ok (.iconst 2, 1) := by decide +kernel
theorem dL_law_754 : decode cL_law 754 = .ok (.iadd, 1) := by decide +kernel
theorem dL_law_755 : decode cL_law 755 = .ok (.iaload, 1) := by decide +kernel
theorem dL_law_756 : decode cL_law 756 = .ok (.aload_n 0, 1) := by decide +kernel
theorem dL_law_757 : decode cL_law 757 = .ok (.iload_n 3, 1) := by decide +kernel
theorem dL_law_758 : decode cL_law 758 = .ok (.iconst 3, 1) := by decide +kernel
theorem dL_law_759 : decode cL_law 759 = .ok (.iadd, 1) := by decide +kernel
theorem dL_law_760 : decode cL_law 760 = .ok (.iaload, 1) := by decide +kernel
theorem dL_law_761 : decode cL_law 761 = .ok (.aload_n 0, 1) := by decide +kernel
theorem dL_law_762 : decode cL_law 762 = .ok (.iload_n 3, 1) := by decide +kernel
theorem dL_law_763 : decode cL_law 763 = .ok (.iconst 4, 1) := by decide +kernel
theorem dL_law_764 : decode cL_law 764 = .ok (.iadd, 1) := by decide +kernel
theorem dL_law_765 : decode cL_law 765 = .ok (.iaload, 1) := by decide +kernel
theorem dL_law_766 : decode cL_law 766 = .ok (.invokevirtual 82, 3) := by decide +kernel
theorem dL_law_769 : decode cL_law 769 = .ok (.if_icmp .eq 458, 3) := by decide +kernel
theorem dL_law_772 : decode cL_law 772 = .ok (.iconst 0, 1) := by decide +kernel
theorem dL_law_773 : decode cL_law 773 = .ok (.ireturn, 1) := by decide +kernel
theorem dL_law_774 : decode cL_law 774 = .ok (.aload_n 1, 1) := by decide +kernel
theorem dL_law_775 : decode cL_law 775 = .ok (.aload_n 0, 1) := by decide +kernel
theorem dL_law_776 : decode cL_law 776 = .ok (.iload_n 3, 1) := by decide +kernel
theorem dL_law_777 : decode cL_law 777 = .ok (.iconst 1, 1) := by decide +kernel
theorem dL_law_778 : decode cL_law 778 = .ok (.iadd, 1) := by decide +kernel
theorem dL_law_779 : decode cL_law 779 = .ok (.iaload, 1) := by decide +kernel
theorem dL_law_780 : decode cL_law 780 = .ok (.aload_n 0, 1) := by decide +kernel
theorem dL_law_781 : decode cL_law 781 = .ok (.iload_n 3, 1) := by decide +kernel
theorem dL_law_782 : decode cL_law 782 = .ok (.iconst 2, 1) := by decide +kernel
theorem dL_law_783 : decode cL_law 783 = .ok (.iadd, 1) := by decide +kernel
theorem dL_law_784 : decode cL_law 784 = .ok (.iaload, 1) := by decide +kernel
theorem dL_law_785 : decode cL_law 785 = .ok (.aload_n 0, 1) := by decide +kernel
theorem dL_law_786 : decode cL_law 786 = .ok (.iload_n 3, 1) := by decide +kernel
theorem dL_law_787 : decode cL_law 787 = .ok (.iconst 3, 1) := by decide +kernel
theorem dL_law_788 : decode cL_law 788 = .ok (.iadd, 1) := by decide +kernel
theorem dL_law_789 : decode cL_law 789 = .ok (.iaload, 1) := by decide +kernel
theorem dL_law_790 : decode cL_law 790 = .ok (.aload_n 0, 1) := by decide +kernel
theorem dL_law_791 : decode cL_law 791 = .ok (.iload_n 3, 1) := by decide +kernel
theorem dL_law_792 : decode cL_law 792 = .ok (.iconst 4, 1) := by decide +kernel
theorem dL_law_793 : decode cL_law 793 = .ok (.iadd, 1) := by decide +kernel
theorem dL_law_794 : decode cL_law 794 = .ok (.iaload, 1) := by decide +kernel
theorem dL_law_795 : decode cL_law 795 = .ok (.aload_n 0, 1) := by decide +kernel
theorem dL_law_796 : decode cL_law 796 = .ok (.iload_n 3, 1) := by decide +kernel
theorem dL_law_797 : decode cL_law 797 = .ok (.iconst 5, 1) := by decide +kernel
theorem dL_law_798 : decode cL_law 798 = .ok (.iadd, 1) := by decide +kernel
theorem dL_law_799 : decode cL_law 799 = .ok (.iaload, 1) := by decide +kernel
theorem dL_law_800 : decode cL_law 800 = .ok (.invokevirtual 83, 3) := by decide +kernel
theorem dL_law_803 : decode cL_law 803 = .ok (.aload_n 2, 1) := by decide +kernel
theorem dL_law_804 : decode cL_law 804 = .ok (.aload_n 0, 1) := by decide +kernel
theorem dL_law_805 : decode cL_law 805 = .ok (.iload_n 3, 1) := by decide +kernel
theorem dL_law_806 : decode cL_law 806 = .ok (.iconst 1, 1) := by decide +kernel
theorem dL_law_807 : decode cL_law 807 = .ok (.iadd, 1) := by decide +kernel
theorem dL_law_808 : decode cL_law 808 = .ok (.iaload, 1) := by decide +kernel
theorem dL_law_809 : decode cL_law 809 = .ok (.aload_n 0, 1) := by decide +kernel
theorem dL_law_810 : decode cL_law 810 = .ok (.iload_n 3, 1) := by decide +kernel
theorem dL_law_811 : decode cL_law 811 = .ok (.iconst 2, 1) := by decide +kernel
theorem dL_law_812 : decode cL_law 812 = .ok (.iadd, 1) := by decide +kernel
theorem dL_law_813 : decode cL_law 813 = .ok (.iaload, 1) := by decide +kernel
theorem dL_law_814 : decode cL_law 814 = .ok (.aload_n 0, 1) := by decide +kernel
theorem dL_law_815 : decode cL_law 815 = .ok (.iload_n 3, 1) := by decide +kernel
theorem dL_law_816 : decode cL_law 816 = .ok (.iconst 3, 1) := by decide +kernel
theorem dL_law_817 : decode cL_law 817 = .ok (.iadd, 1) := by decide +kernel
theorem dL_law_818 : decode cL_law 818 = .ok (.iaload, 1) := by decide +kernel
theorem dL_law_819 : decode cL_law 819 = .ok (.aload_n 0, 1) := by decide +kernel
theorem dL_law_820 : decode cL_law 820 = .ok (.iload_n 3, 1) := by decide +kernel
theorem dL_law_821 : decode cL_law 821 = .ok (.iconst 4, 1) := by decide +kernel
theorem dL_law_822 : decode cL_law 822 = .ok (.iadd, 1) := by decide +kernel
theorem dL_law_823 : decode cL_law 823 = .ok (.iaload, 1) := by decide +kernel
theorem dL_law_824 : decode cL_law 824 = .ok (.aload_n 0, 1) := by decide +kernel
theorem dL_law_825 : decode cL_law 825 = .ok (.iload_n 3, 1) := by decide +kernel
theorem dL_law_826 : decode cL_law 826 = .ok (.iconst 5, 1) := by decide +kernel
theorem dL_law_827 : decode cL_law 827 = .ok (.iadd, 1) := by decide +kernel
theorem dL_law_828 : decode cL_law 828 = .ok (.iaload, 1) := by decide +kernel
theorem dL_law_829 : decode cL_law 829 = .ok (.invokevirtual 86, 3) := by decide +kernel
theorem dL_law_832 : decode cL_law 832 = .ok (.if_icmp .eq 395, 3) := by decide +kernel
theorem dL_law_835 : decode cL_law 835 = .ok (.iconst 0, 1) := by decide +kernel
theorem dL_law_836 : decode cL_law 836 = .ok (.ireturn, 1) := by decide +kernel
theorem dL_law_837 : decode cL_law 837 = .ok (.aload_n 1, 1) := by decide +kernel
theorem dL_law_838 : decode cL_law 838 = .ok (.aload_n 0, 1) := by decide +kernel
theorem dL_law_839 : decode cL_law 839 = .ok (.iload_n 3, 1) := by decide +kernel
theorem dL_law_840 : decode cL_law 840 = .ok (.iconst 1, 1) := by decide +kernel
theorem dL_law_841 : decode cL_law 841 = .ok (.iadd, 1) := by decide +kernel
theorem dL_law_842 : decode cL_law 842 = .ok (.iaload, 1) := by decide +kernel
theorem dL_law_843 : decode cL_law 843 = .ok (.aload_n 0, 1) := by decide +kernel
theorem dL_law_844 : decode cL_law 844 = .ok (.iload_n 3, 1) := by decide +kernel
theorem dL_law_845 : decode cL_law 845 = .ok (.iconst 2, 1) := by decide +kernel
theorem dL_law_846 : decode cL_law 846 = .ok (.iadd, 1) := by decide +kernel
theorem dL_law_847 : decode cL_law 847 = .ok (.iaload, 1) := by decide +kernel
theorem dL_law_848 : decode cL_law 848 = .ok (.aload_n 0, 1) := by decide +kernel
theorem dL_law_849 : decode cL_law 849 = .ok (.iload_n 3, 1) := by decide +kernel
theorem dL_law_850 : decode cL_law 850 = .ok (.iconst 3, 1) := by decide +kernel
theorem dL_law_851 : decode cL_law 851 = .ok (.iadd, 1) := by decide +kernel
theorem dL_law_852 : decode cL_law 852 = .ok (.iaload, 1) := by decide +kernel
theorem dL_law_853 : decode cL_law 853 = .ok (.aload_n 0, 1) := by decide +kernel
theorem dL_law_854 : decode cL_law 854 = .ok (.iload_n 3, 1) := by decide +kernel
theorem dL_law_855 : decode cL_law 855 = .ok (.iconst 4, 1) := by decide +kernel
theorem dL_law_856 : decode cL_law 856 = .ok (.iadd, 1) := by decide +kernel
theorem dL_law_857 : decode cL_law 857 = .ok (.iaload, 1) := by decide +kernel
theorem dL_law_858 : decode cL_law 858 = .ok (.aload_n 0, 1) := by decide +kernel
theorem dL_law_859 : decode cL_law 859 = .ok (.iload_n 3, 1) := by decide +kernel
theorem dL_law_860 : decode cL_law 860 = .ok (.iconst 5, 1) := by decide +kernel
theorem dL_law_861 : decode cL_law 861 = .ok (.iadd, 1) := by decide +kernel
theorem dL_law_862 : decode cL_law 862 = .ok (.iaload, 1) := by decide +kernel
theorem dL_law_863 : decode cL_law 863 = .ok (.invokevirtual 87, 3) := by decide +kernel
theorem dL_law_866 : decode cL_law 866 = .ok (.aload_n 2, 1) := by decide +kernel
theorem dL_law_867 : decode cL_law 867 = .ok (.aload_n 0, 1) := by decide +kernel
theorem dL_law_868 : decode cL_law 868 = .ok (.iload_n 3, 1) := by decide +kernel
theorem dL_law_869 : decode cL_law 869 = .ok (.iconst 1, 1) := by decide +kernel
theorem dL_law_870 : decode cL_law 870 = .ok (.iadd, 1) := by decide +kernel
theorem dL_law_871 : decode cL_law 871 = .ok (.iaload, 1) := by decide +kernel
theorem dL_law_872 : decode cL_law 872 = .ok (.aload_n 0, 1) := by decide +kernel
theorem dL_law_873 : decode cL_law 873 = .ok (.iload_n 3, 1) := by decide +kernel
theorem dL_law_874 : decode cL_law 874 = .ok (.iconst 2, 1) := by decide +kernel
theorem dL_law_875 : decode cL_law 875 = .ok (.iadd, 1) := by decide +kernel
theorem dL_law_876 : decode cL_law 876 = .ok (.iaload, 1) := by decide +kernel
theorem dL_law_877 : decode cL_law 877 = .ok (.aload_n 0, 1) := by decide +kernel
theorem dL_law_878 : decode cL_law 878 = .ok (.iload_n 3, 1) := by decide +kernel
theorem dL_law_879 : decode cL_law 879 = .ok (.iconst 3, 1) := by decide +kernel
theorem dL_law_880 : decode cL_law 880 = .ok (.iadd, 1) := by decide +kernel
theorem dL_law_881 : decode cL_law 881 = .ok (.iaload, 1) := by decide +kernel
theorem dL_law_882 : decode cL_law 882 = .ok (.aload_n 0, 1) := by decide +kernel
theorem dL_law_883 : decode cL_law 883 = .ok (.iload_n 3, 1) := by decide +kernel
theorem dL_law_884 : decode cL_law 884 = .ok (.iconst 4, 1) := by decide +kernel
theorem dL_law_885 : decode cL_law 885 = .ok (.iadd, 1) := by decide +kernel
theorem dL_law_886 : decode cL_law 886 = .ok (.iaload, 1) := by decide +kernel
theorem dL_law_887 : decode cL_law 887 = .ok (.aload_n 0, 1) := by decide +kernel
theorem dL_law_888 : decode cL_law 888 = .ok (.iload_n 3, 1) := by decide +kernel
theorem dL_law_889 : decode cL_law 889 = .ok (.iconst 5, 1) := by decide +kernel
theorem dL_law_890 : decode cL_law 890 = .ok (.iadd, 1) := by decide +kernel
theorem dL_law_891 : decode cL_law 891 = .ok (.iaload, 1) := by decide +kernel
theorem dL_law_892 : decode cL_law 892 = .ok (.invokevirtual 90, 3) := by decide +kernel
theorem dL_law_895 : decode cL_law 895 = .ok (.if_icmp .eq 332, 3) := by decide +kernel
theorem dL_law_898 : decode cL_law 898 = .ok (.iconst 0, 1) := by decide +kernel
theorem dL_law_899 : decode cL_law 899 = .ok (.ireturn, 1) := by decide +kernel
theorem dL_law_900 : decode cL_law 900 = .ok (.aload_n 1, 1) := by decide +kernel
theorem dL_law_901 : decode cL_law 901 = .ok (.aload_n 0, 1) := by decide +kernel
theorem dL_law_902 : decode cL_law 902 = .ok (.iload_n 3, 1) := by decide +kernel
theorem dL_law_903 : decode cL_law 903 = .ok (.iconst 1, 1) := by decide +kernel
theorem dL_law_904 : decode cL_law 904 = .ok (.iadd, 1) := by decide +kernel
theorem dL_law_905 : decode cL_law 905 = .ok (.iaload, 1) := by decide +kernel
theorem dL_law_906 : decode cL_law 906 = .ok (.aload_n 0, 1) := by decide +kernel
theorem dL_law_907 : decode cL_law 907 = .ok (.iload_n 3, 1) := by decide +kernel
theorem dL_law_908 : decode cL_law 908 = .ok (.iconst 2, 1) := by decide +kernel
theorem dL_law_909 : decode cL_law 909 = .ok (.iadd, 1) := by decide +kernel
theorem dL_law_910 : decode cL_law 910 = .ok (.iaload, 1) := by decide +kernel
theorem dL_law_911 : decode cL_law 911 = .ok (.aload_n 0, 1) := by decide +kernel
theorem dL_law_912 : decode cL_law 912 = .ok (.iload_n 3, 1) := by decide +kernel
theorem dL_law_913 : decode cL_law 913 = .ok (.iconst 3, 1) := by decide +kernel
theorem dL_law_914 : decode cL_law 914 = .ok (.iadd, 1) := by decide +kernel
theorem dL_law_915 : decode cL_law 915 = .ok (.iaload, 1) := by decide +kernel
theorem dL_law_916 : decode cL_law 916 = .ok (.aload_n 0, 1) := by decide +kernel
theorem dL_law_917 : decode cL_law 917 = .ok (.iload_n 3, 1) := by decide +kernel
theorem dL_law_918 : decode cL_law 918 = .ok (.iconst 4, 1) := by decide +kernel
theorem dL_law_919 : decode cL_law 919 = .ok (.iadd, 1) := by decide +kernel
theorem dL_law_920 : decode cL_law 920 = .ok (.iaload, 1) := by decide +kernel
theorem dL_law_921 : decode cL_law 921 = .ok (.invokevirtual 91, 3) := by decide +kernel
theorem dL_law_924 : decode cL_law 924 = .ok (.aload_n 2, 1) := by decide +kernel
theorem dL_law_925 : decode cL_law 925 = .ok (.aload_n 0, 1) := by decide +kernel
theorem dL_law_926 : decode cL_law 926 = .ok (.iload_n 3, 1) := by decide +kernel
theorem dL_law_927 : decode cL_law 927 = .ok (.iconst 1, 1) := by decide +kernel
theorem dL_law_928 : decode cL_law 928 = .ok (.iadd, 1) := by decide +kernel
theorem dL_law_929 : decode cL_law 929 = .ok (.iaload, 1) := by decide +kernel
theorem dL_law_930 : decode cL_law 930 = .ok (.aload_n 0, 1) := by decide +kernel
theorem dL_law_931 : decode cL_law 931 = .ok (.iload_n 3, 1) := by decide +kernel
theorem dL_law_932 : decode cL_law 932 = .ok (.iconst 2, 1) := by decide +kernel
theorem dL_law_933 : decode cL_law 933 = .ok (.iadd, 1) := by decide +kernel
theorem dL_law_934 : decode cL_law 934 = .ok (.iaload, 1) := by decide +kernel
theorem dL_law_935 : decode cL_law 935 = .ok (.aload_n 0, 1) := by decide +kernel
theorem dL_law_936 : decode cL_law 936 = .ok (.iload_n 3, 1) := by decide +kernel
theorem dL_law_937 : decode cL_law 937 = .ok (.iconst 3, 1) := by decide +kernel
theorem dL_law_938 : decode cL_law 938 = .ok (.iadd, 1) := by decide +kernel
theorem dL_law_939 : decode cL_law 939 = .ok (.iaload, 1) := by decide +kernel
theorem dL_law_940 : decode cL_law 940 = .ok (.aload_n 0, 1) := by decide +kernel
theorem dL_law_941 : decode cL_law 941 = .ok (.iload_n 3, 1) := by decide +kernel
theorem dL_law_942 : decode cL_law 942 = .ok (.iconst 4, 1) := by decide +kernel
theorem dL_law_943 : decode cL_law 943 = .ok (.iadd, 1) := by decide +kernel
theorem dL_law_944 : decode cL_law 944 = .ok (.iaload, 1) := by decide +kernel
theorem dL_law_945 : decode cL_law 945 = .ok (.invokevirtual 94, 3) := by decide +kernel
theorem dL_law_948 : decode cL_law 948 = .ok (.if_icmp .eq 279, 3) := by decide +kernel
theorem dL_law_951 : decode cL_law 951 = .ok (.iconst 0, 1) := by decide +kernel
theorem dL_law_952 : decode cL_law 952 = .ok (.ireturn, 1) := by decide +kernel
theorem dL_law_953 : decode cL_law 953 = .ok (.aload_n 1, 1) := by decide +kernel
theorem dL_law_954 : decode cL_law 954 = .ok (.aload_n 0, 1) := by decide +kernel
theorem dL_law_955 : decode cL_law 955 = .ok (.iload_n 3, 1) := by decide +kernel
theorem dL_law_956 : decode cL_law 956 = .ok (.iconst 1, 1) := by decide +kernel
theorem dL_law_957 : decode cL_law 957 = .ok (.iadd, 1) := by decide +kernel
theorem dL_law_958 : decode cL_law 958 = .ok (.iaload, 1) := by decide +kernel
theorem dL_law_959 : decode cL_law 959 = .ok (.aload_n 0, 1) := by decide +kernel
theorem dL_law_960 : decode cL_law 960 = .ok (.iload_n 3, 1) := by decide +kernel
theorem dL_law_961 : decode cL_law 961 = .ok (.iconst 2, 1) := by decide +kernel
theorem dL_law_962 : decode cL_law 962 = .ok (.iadd, 1) := by decide +kernel
theorem dL_law_963 : decode cL_law 963 = .ok (.iaload, 1) := by decide +kernel
theorem dL_law_964 : decode cL_law 964 = .ok (.aload_n 0, 1) := by decide +kernel
theorem dL_law_965 : decode cL_law 965 = .ok (.iload_n 3, 1) := by decide +kernel
theorem dL_law_966 : decode cL_law 966 = .ok (.iconst 3, 1) := by decide +kernel
theorem dL_law_967 : decode cL_law 967 = .ok (.iadd, 1) := by decide +kernel
theorem dL_law_968 : decode cL_law 968 = .ok (.iaload, 1) := by decide +kernel
theorem dL_law_969 : decode cL_law 969 = .ok (.aload_n 0, 1) := by decide +kernel
theorem dL_law_970 : decode cL_law 970 = .ok (.iload_n 3, 1) := by decide +kernel
theorem dL_law_971 : decode cL_law 971 = .ok (.iconst 4, 1) := by decide +kernel
theorem dL_law_972 : decode cL_law 972 = .ok (.iadd, 1) := by decide +kernel
theorem dL_law_973 : decode cL_law 973 = .ok (.iaload, 1) := by decide +kernel
theorem dL_law_974 : decode cL_law 974 = .ok (.aload_n 0, 1) := by decide +kernel
theorem dL_law_975 : decode cL_law 975 = .ok (.iload_n 3, 1) := by decide +kernel
theorem dL_law_976 : decode cL_law 976 = .ok (.iconst 5, 1) := by decide +kernel
theorem dL_law_977 : decode cL_law 977 = .ok (.iadd, 1) := by decide +kernel
theorem dL_law_978 : decode cL_law 978 = .ok (.iaload, 1) := by decide +kernel
theorem dL_law_979 : decode cL_law 979 = .ok (.invokevirtual 95, 3) := by decide +kernel
theorem dL_law_982 : decode cL_law 982 = .ok (.aload_n 2, 1) := by decide +kernel
theorem dL_law_983 : decode cL_law 983 = .ok (.aload_n 0, 1) := by decide +kernel
theorem dL_law_984 : decode cL_law 984 = .ok (.iload_n 3, 1) := by decide +kernel
theorem dL_law_985 : decode cL_law 985 = .ok (.iconst 1, 1) := by decide +kernel
theorem dL_law_986 : decode cL_law 986 = .ok (.iadd, 1) := by decide +kernel
theorem dL_law_987 : decode cL_law 987 = .ok (.iaload, 1) := by decide +kernel
theorem dL_law_988 : decode cL_law 988 = .ok (.aload_n 0, 1) := by decide +kernel
theorem dL_law_989 : decode cL_law 989 = .ok (.iload_n 3, 1) := by decide +kernel
theorem dL_law_990 : decode cL_law 990 = .ok (.iconst 2, 1) := by decide +kernel
theorem dL_law_991 : decode cL_law 991 = .ok (.iadd, 1) := by decide +kernel
theorem dL_law_992 : decode cL_law 992 = .ok (.iaload, 1) := by decide +kernel
theorem dL_law_993 : decode cL_law 993 = .ok (.aload_n 0, 1) := by decide +kernel
theorem dL_law_994 : decode cL_law 994 = .ok (.iload_n 3, 1) := by decide +kernel
theorem dL_law_995 : decode cL_law 995 = .ok (.iconst 3, 1) := by decide +kernel
theorem dL_law_996 : decode cL_law 996 = .ok (.iadd, 1) := by decide +kernel
theorem dL_law_997 : decode cL_law 997 = .ok (.iaload, 1) := by decide +kernel
theorem dL_law_998 : decode cL_law 998 = .ok (.aload_n 0, 1) := by decide +kernel
theorem dL_law_999 : decode cL_law 999 = .ok (.iload_n 3, 1) := by decide +kernel
theorem dL_law_1000 : decode cL_law 1000 = .ok (.iconst 4, 1) := by decide +kernel
theorem dL_law_1001 : decode cL_law 1001 = .ok (.iadd, 1) := by decide +kernel
theorem dL_law_1002 : decode cL_law 1002 = .ok (.iaload, 1) := by decide +kernel
theorem dL_law_1003 : decode cL_law 1003 = .ok (.aload_n 0, 1) := by decide +kernel
theorem dL_law_1004 : decode cL_law 1004 = .ok (.iload_n 3, 1) := by decide +kernel
theorem dL_law_1005 : decode cL_law 1005 = .ok (.iconst 5, 1) := by decide +kernel
theorem dL_law_1006 : decode cL_law 1006 = .ok (.iadd, 1) := by decide +kernel
theorem dL_law_1007 : decode cL_law 1007 = .ok (.iaload, 1) := by decide +kernel
theorem dL_law_1008 : decode cL_law 1008 = .ok (.invokevirtual 98, 3) := by decide +kernel
theorem dL_law_1011 : decode cL_law 1011 = .ok (.if_icmp .eq 216, 3) := by decide +kernel
theorem dL_law_1014 : decode cL_law 1014 = .ok (.iconst 0, 1) := by decide +kernel
theorem dL_law_1015 : decode cL_law 1015 = .ok (.ireturn, 1) := by decide +kernel
theorem dL_law_1016 : decode cL_law 1016 = .ok (.aload_n 1, 1) := by decide +kernel
theorem dL_law_1017 : decode cL_law 1017 = .ok (.aload_n 0, 1) := by decide +kernel
theorem dL_law_1018 : decode cL_law 1018 = .ok (.iload_n 3, 1) := by decide +kernel
theorem dL_law_1019 : decode cL_law 1019 = .ok (.iconst 1, 1) := by decide +kernel
theorem dL_law_1020 : decode cL_law 1020 = .ok (.iadd, 1) := by decide +kernel
theorem dL_law_1021 : decode cL_law 1021 = .ok (.iaload, 1) := by decide +kernel
theorem dL_law_1022 : decode cL_law 1022 = .ok (.aload_n 0, 1) := by decide +kernel
theorem dL_law_1023 : decode cL_law 1023 = .ok (.iload_n 3, 1) := by decide +kernel
theorem dL_law_1024 : decode cL_law 1024 = .ok (.iconst 2, 1) := by decide +kernel
theorem dL_law_1025 : decode cL_law 1025 = .ok (.iadd, 1) := by decide +kernel
theorem dL_law_1026 : decode cL_law 1026 = .ok (.iaload, 1) := by decide +kernel
theorem dL_law_1027 : decode cL_law 1027 = .ok (.aload_n 0, 1) := by decide +kernel
theorem dL_law_1028 : decode cL_law 1028 = .ok (.iload_n 3, 1) := by decide +kernel
theorem dL_law_1029 : decode cL_law 1029 = .ok (.iconst 3, 1) := by decide +kernel
theorem dL_law_1030 : decode cL_law 1030 = .ok (.iadd, 1) := by decide +kernel
theorem dL_law_1031 : decode cL_law 1031 = .ok (.iaload, 1) := by decide +kernel
theorem dL_law_1032 : decode cL_law 1032 = .ok (.aload_n 0, 1) := by decide +kernel
theorem dL_law_1033 : decode cL_law 1033 = .ok (.iload_n 3, 1) := by decide +kernel
theorem dL_law_1034 : decode cL_law 1034 = .ok (.iconst 4, 1) := by decide +kernel
theorem dL_law_1035 : decode cL_law 1035 = .ok (.iadd, 1) := by decide +kernel
theorem dL_law_1036 : decode cL_law 1036 = .ok (.iaload, 1) := by decide +kernel
theorem dL_law_1037 : decode cL_law 1037 = .ok (.aload_n 0, 1) := by decide +kernel
theorem dL_law_1038 : decode cL_law 1038 = .ok (.iload_n 3, 1) := by decide +kernel
theorem dL_law_1039 : decode cL_law 1039 = .ok (.iconst 5, 1) := by decide +kernel
theorem dL_law_1040 : decode cL_law 1040 = .ok (.iadd, 1) := by decide +kernel
theorem dL_law_1041 : decode cL_law 1041 = .ok (.iaload, 1) := by decide +kernel
theorem dL_law_1042 : decode cL_law 1042 = .ok (.invokevirtual 99, 3) := by decide +kernel
theorem dL_law_1045 : decode cL_law 1045 = .ok (.aload_n 2, 1) := by decide +kernel
theorem dL_law_1046 : decode cL_law 1046 = .ok (.aload_n 0, 1) := by decide +kernel
theorem dL_law_1047 : decode cL_law 1047 = .ok (.iload_n 3, 1) := by decide +kernel
theorem dL_law_1048 : decode cL_law 1048 = .ok (.iconst 1, 1) := by decide +kernel
theorem dL_law_1049 : decode cL_law 1049 = .ok (.iadd, 1) := by decide +kernel
theorem dL_law_1050 : decode cL_law 1050 = .ok (.iaload, 1) := by decide +kernel
theorem dL_law_1051 : decode cL_law 1051 = .ok (.aload_n 0, 1) := by decide +kernel
theorem dL_law_1052 : decode cL_law 1052 = .ok (.iload_n 3, 1) := by decide +kernel
theorem dL_law_1053 : decode cL_law 1053 = .ok (.iconst 2, 1) := by decide +kernel
theorem dL_law_1054 : decode cL_law 1054 = .ok (.iadd, 1) := by decide +kernel
theorem dL_law_1055 : decode cL_law 1055 = .ok (.iaload, 1) := by decide +kernel
theorem dL_law_1056 : decode cL_law 1056 = .ok (.aload_n 0, 1) := by decide +kernel
theorem dL_law_1057 : decode cL_law 1057 = .ok (.iload_n 3, 1) := by decide +kernel
theorem dL_law_1058 : decode cL_law 1058 = .ok (.iconst 3, 1) := by decide +kernel
theorem dL_law_1059 : decode cL_law 1059 = .ok (.iadd, 1) := by decide +kernel
theorem dL_law_1060 : decode cL_law 1060 = .ok (.iaload, 1) := by decide +kernel
theorem dL_law_1061 : decode cL_law 1061 = .ok (.aload_n 0, 1) := by decide +kernel
theorem dL_law_1062 : decode cL_law 1062 = .ok (.iload_n 3, 1) := by decide +kernel
theorem dL_law_1063 : decode cL_law 1063 = .ok (.iconst 4, 1) := by decide +kernel
theorem dL_law_1064 : decode cL_law 1064 = .ok (.iadd, 1) := by decide +kernel
theorem dL_law_1065 : decode cL_law 1065 = .ok (.iaload, 1) := by decide +kernel
theorem dL_law_1066 : decode cL_law 1066 = .ok (.aload_n 0, 1) := by decide +kernel
theorem dL_law_1067 : decode cL_law 1067 = .ok (.iload_n 3, 1) := by decide +kernel
theorem dL_law_1068 : decode cL_law 1068 = .ok (.iconst 5, 1) := by decide +kernel
theorem dL_law_1069 : decode cL_law 1069 = .ok (.iadd, 1) := by decide +kernel
theorem dL_law_1070 : decode cL_law 1070 = .ok (.iaload, 1) := by decide +kernel
theorem dL_law_1071 : decode cL_law 1071 = .ok (.invokevirtual 102, 3) := by decide +kernel
theorem dL_law_1074 : decode cL_law 1074 = .ok (.if_icmp .eq 153, 3) := by decide +kernel
theorem dL_law_1077 : decode cL_law 1077 = .ok (.iconst 0, 1) := by decide +kernel
theorem dL_law_1078 : decode cL_law 1078 = .ok (.ireturn, 1) := by decide +kernel
theorem dL_law_1079 : decode cL_law 1079 = .ok (.aload_n 1, 1) := by decide +kernel
theorem dL_law_1080 : decode cL_law 1080 = .ok (.aload_n 0, 1) := by decide +kernel
theorem dL_law_1081 : decode cL_law 1081 = .ok (.iload_n 3, 1) := by decide +kernel
theorem dL_law_1082 : decode cL_law 1082 = .ok (.iconst 1, 1) := by decide +kernel
theorem dL_law_1083 : decode cL_law 1083 = .ok (.iadd, 1) := by decide +kernel
theorem dL_law_1084 : decode cL_law 1084 = .ok (.iaload, 1) := by decide +kernel
theorem dL_law_1085 : decode cL_law 1085 = .ok (.invokevirtual 103, 3) := by decide +kernel
theorem dL_law_1088 : decode cL_law 1088 = .ok (.aload_n 2, 1) := by decide +kernel
theorem dL_law_1089 : decode cL_law 1089 = .ok (.aload_n 0, 1) := by decide +kernel
theorem dL_law_1090 : decode cL_law 1090 = .ok (.iload_n 3, 1) := by decide +kernel
theorem dL_law_1091 : decode cL_law 1091 = .ok (.iconst 1, 1) := by decide +kernel
theorem dL_law_1092 : decode cL_law 1092 = .ok (.iadd, 1) := by decide +kernel
theorem dL_law_1093 : decode cL_law 1093 = .ok (.iaload, 1) := by decide +kernel
theorem dL_law_1094 : decode cL_law 1094 = .ok (.invokevirtual 106, 3) := by decide +kernel
theorem dL_law_1097 : decode cL_law 1097 = .ok (.if_icmp .eq 130, 3) := by decide +kernel
theorem dL_law_1100 : decode cL_law 1100 = .ok (.iconst 0, 1) := by decide +kernel
theorem dL_law_1101 : decode cL_law 1101 = .ok (.ireturn, 1) := by decide +kernel
theorem dL_law_1102 : decode cL_law 1102 = .ok (.aload_n 1, 1) := by decide +kernel
theorem dL_law_1103 : decode cL_law 1103 = .ok (.aload_n 0, 1) := by decide +kernel
theorem dL_law_1104 : decode cL_law 1104 = .ok (.iload_n 3, 1) := by decide +kernel
theorem dL_law_1105 : decode cL_law 1105 = .ok (.iconst 1, 1) := by decide +kernel
theorem dL_law_1106 : decode cL_law 1106 = .ok (.iadd, 1) := by decide +kernel
theorem dL_law_1107 : decode cL_law 1107 = .ok (.iaload, 1) := by decide +kernel
theorem dL_law_1108 : decode cL_law 1108 = .ok (.aload_n 0, 1) := by decide +kernel
theorem dL_law_1109 : decode cL_law 1109 = .ok (.iload_n 3, 1) := by decide +kernel
theorem dL_law_1110 : decode cL_law 1110 = .ok (.iconst 2, 1) := by decide +kernel
theorem dL_law_1111 : decode cL_law 1111 = .ok (.iadd, 1) := by decide +kernel
theorem dL_law_1112 : decode cL_law 1112 = .ok (.iaload, 1) := by decide +kernel
theorem dL_law_1113 : decode cL_law 1113 = .ok (.invokevirtual 107, 3) := by decide +kernel
theorem dL_law_1116 : decode cL_law 1116 = .ok (.aload_n 2, 1) := by decide +kernel
theorem dL_law_1117 : decode cL_law 1117 = .ok (.aload_n 0, 1) := by decide +kernel
theorem dL_law_1118 : decode cL_law 1118 = .ok (.iload_n 3, 1) := by decide +kernel
theorem dL_law_1119 : decode cL_law 1119 = .ok (.iconst 1, 1) := by decide +kernel
theorem dL_law_1120 : decode cL_law 1120 = .ok (.iadd, 1) := by decide +kernel
theorem dL_law_1121 : decode cL_law 1121 = .ok (.iaload, 1) := by decide +kernel
theorem dL_law_1122 : decode cL_law 1122 = .ok (.aload_n 0, 1) := by decide +kernel
theorem dL_law_1123 : decode cL_law 1123 = .ok (.iload_n 3, 1) := by decide +kernel
theorem dL_law_1124 : decode cL_law 1124 = .ok (.iconst 2, 1) := by decide +kernel
theorem dL_law_1125 : decode cL_law 1125 = .ok (.iadd, 1) := by decide +kernel
theorem dL_law_1126 : decode cL_law 1126 = .ok (.iaload, 1) := by decide +kernel
theorem dL_law_1127 : decode cL_law 1127 = .ok (.invokevirtual 110, 3) := by decide +kernel
theorem dL_law_1130 : decode cL_law 1130 = .ok (.if_icmp .eq 97, 3) := by decide +kernel
theorem dL_law_1133 : decode cL_law 1133 = .ok (.iconst 0, 1) := by decide +kernel
theorem dL_law_1134 : decode cL_law 1134 = .ok (.ireturn, 1) := by decide +kernel
theorem dL_law_1135 : decode cL_law 1135 = .ok (.aload_n 1, 1) := by decide +kernel
theorem dL_law_1136 : decode cL_law 1136 = .ok (.aload_n 0, 1) := by decide +kernel
theorem dL_law_1137 : decode cL_law 1137 = .ok (.iload_n 3, 1) := by decide +kernel
theorem dL_law_1138 : decode cL_law 1138 = .ok (.iconst 1, 1) := by decide +kernel
theorem dL_law_1139 : decode cL_law 1139 = .ok (.iadd, 1) := by decide +kernel
theorem dL_law_1140 : decode cL_law 1140 = .ok (.iaload, 1) := by decide +kernel
theorem dL_law_1141 : decode cL_law 1141 = .ok (.aload_n 0, 1) := by decide +kernel
theorem dL_law_1142 : decode cL_law 1142 = .ok (.iload_n 3, 1) := by decide +kernel
theorem dL_law_1143 : decode cL_law 1143 = .ok (.iconst 2, 1) := by decide +kernel
theorem dL_law_1144 : decode cL_law 1144 = .ok (.iadd, 1) := by decide +kernel
theorem dL_law_1145 : decode cL_law 1145 = .ok (.iaload, 1) := by decide +kernel
theorem dL_law_1146 : decode cL_law 1146 = .ok (.invokevirtual 111, 3) := by decide +kernel
theorem dL_law_1149 : decode cL_law 1149 = .ok (.aload_n 2, 1) := by decide +kernel
theorem dL_law_1150 : decode cL_law 1150 = .ok (.aload_n 0, 1) := by decide +kernel
theorem dL_law_1151 : decode cL_law 1151 = .ok (.iload_n 3, 1) := by decide +kernel
theorem dL_law_1152 : decode cL_law 1152 = .ok (.iconst 1, 1) := by decide +kernel
theorem dL_law_1153 : decode cL_law 1153 = .ok (.iadd, 1) := by decide +kernel
theorem dL_law_1154 : decode cL_law 1154 = .ok (.iaload, 1) := by decide +kernel
theorem dL_law_1155 : decode cL_law 1155 = .ok (.aload_n 0, 1) := by decide +kernel
theorem dL_law_1156 : decode cL_law 1156 = .ok (.iload_n 3, 1) := by decide +kernel
theorem dL_law_1157 : decode cL_law 1157 = .ok (.iconst 2, 1) := by decide +kernel
theorem dL_law_1158 : decode cL_law 1158 = .ok (.iadd, 1) := by decide +kernel
theorem dL_law_1159 : decode cL_law 1159 = .ok (.iaload, 1) := by decide +kernel
theorem dL_law_1160 : decode cL_law 1160 = .ok (.invokevirtual 114, 3) := by decide +kernel
theorem dL_law_1163 : decode cL_law 1163 = .ok (.if_icmp .eq 64, 3) := by decide +kernel
theorem dL_law_1166 : decode cL_law 1166 = .ok (.iconst 0, 1) := by decide +kernel
theorem dL_law_1167 : decode cL_law 1167 = .ok (.ireturn, 1) := by decide +kernel
theorem dL_law_1168 : decode cL_law 1168 = .ok (.aload_n 1, 1) := by decide +kernel
theorem dL_law_1169 : decode cL_law 1169 = .ok (.aload_n 0, 1) := by decide +kernel
theorem dL_law_1170 : decode cL_law 1170 = .ok (.iload_n 3, 1) := by decide +kernel
theorem dL_law_1171 : decode cL_law 1171 = .ok (.iconst 1, 1) := by decide +kernel
theorem dL_law_1172 : decode cL_law 1172 = .ok (.iadd, 1) := by decide +kernel
theorem dL_law_1173 : decode cL_law 1173 = .ok (.iaload, 1) := by decide +kernel
theorem dL_law_1174 : decode cL_law 1174 = .ok (.invokevirtual 115, 3) := by decide +kernel
theorem dL_law_1177 : decode cL_law 1177 = .ok (.aload_n 2, 1) := by decide +kernel
theorem dL_law_1178 : decode cL_law 1178 = .ok (.aload_n 0, 1) := by decide +kernel
theorem dL_law_1179 : decode cL_law 1179 = .ok (.iload_n 3, 1) := by decide +kernel
theorem dL_law_1180 : decode cL_law 1180 = .ok (.iconst 1, 1) := by decide +kernel
theorem dL_law_1181 : decode cL_law 1181 = .ok (.iadd, 1) := by decide +kernel
theorem dL_law_1182 : decode cL_law 1182 = .ok (.iaload, 1) := by decide +kernel
theorem dL_law_1183 : decode cL_law 1183 = .ok (.invokevirtual 118, 3) := by decide +kernel
theorem dL_law_1186 : decode cL_law 1186 = .ok (.if_icmp .eq 41, 3) := by decide +kernel
theorem dL_law_1189 : decode cL_law 1189 = .ok (.iconst 0, 1) := by decide +kernel
theorem dL_law_1190 : decode cL_law 1190 = .ok (.ireturn, 1) := by decide +kernel
theorem dL_law_1191 : decode cL_law 1191 = .ok (.aload_n 1, 1) := by decide +kernel
theorem dL_law_1192 : decode cL_law 1192 = .ok (.aload_n 0, 1) := by decide +kernel
theorem dL_law_1193 : decode cL_law 1193 = .ok (.iload_n 3, 1) := by decide +kernel
theorem dL_law_1194 : decode cL_law 1194 = .ok (.iconst 1, 1) := by decide +kernel
theorem dL_law_1195 : decode cL_law 1195 = .ok (.iadd, 1) := by decide +kernel
theorem dL_law_1196 : decode cL_law 1196 = .ok (.iaload, 1) := by decide +kernel
theorem dL_law_1197 : decode cL_law 1197 = .ok (.invokevirtual 119, 3) := by decide +kernel
theorem dL_law_1200 : decode cL_law 1200 = .ok (.aload_n 2, 1) := by decide +kernel
theorem dL_law_1201 : decode cL_law 1201 = .ok (.aload_n 0, 1) := by decide +kernel
theorem dL_law_1202 : decode cL_law 1202 = .ok (.iload_n 3, 1) := by decide +kernel
theorem dL_law_1203 : decode cL_law 1203 = .ok (.iconst 1, 1) := by decide +kernel
theorem dL_law_1204 : decode cL_law 1204 = .ok (.iadd, 1) := by decide +kernel
theorem dL_law_1205 : decode cL_law 1205 = .ok (.iaload, 1) := by decide +kernel
theorem dL_law_1206 : decode cL_law 1206 = .ok (.invokevirtual 122, 3) := by decide +kernel
theorem dL_law_1209 : decode cL_law 1209 = .ok (.if_icmp .eq 18, 3) := by decide +kernel
theorem dL_law_1212 : decode cL_law 1212 = .ok (.iconst 0, 1) := by decide +kernel
theorem dL_law_1213 : decode cL_law 1213 = .ok (.ireturn, 1) := by decide +kernel
theorem dL_law_1214 : decode cL_law 1214 = .ok (.aload_n 1, 1) := by decide +kernel
theorem dL_law_1215 : decode cL_law 1215 = .ok (.invokevirtual 123, 3) := by decide +kernel
theorem dL_law_1218 : decode cL_law 1218 = .ok (.aload_n 2, 1) := by decide +kernel
theorem dL_law_1219 : decode cL_law 1219 = .ok (.invokevirtual 126, 3) := by decide +kernel
theorem dL_law_1222 : decode cL_law 1222 = .ok (.if_icmp .eq 5, 3) := by decide +kernel
theorem dL_law_1225 : decode cL_law 1225 = .ok (.iconst 0, 1) := by decide +kernel
theorem dL_law_1226 : decode cL_law 1226 = .ok (.ireturn, 1) := by decide +kernel
theorem dL_law_1227 : decode cL_law 1227 = .ok (.iinc 3 6, 3) := by decide +kernel
theorem dL_law_1230 : decode cL_law 1230 = .ok (.goto (-1212), 3) := by decide +kernel
theorem dL_law_1233 : decode cL_law 1233 = .ok (.iconst 1, 1) := by decide +kernel
theorem dL_law_1234 : decode cL_law 1234 = .ok (.ireturn, 1) := by decide +kernel
end
section
/-! ===== the base layer: contracts of one shape, calls, array rows by Nat indices ===== -/
def bz (b : Bool) : Int32 := if b then 1 else 0
def NB (U : State) : Prop := va_Nw (.methodLinkNest RX8 18 yX3_init RX8) U ∧ va_Nw (.methodLinkNest RX8 34 yX2_init RX8) U ∧ va_Nw (.methodLinkNest RX8 50 yX5_init RX8) U ∧ va_Nw (.methodLinkNest RX6 19 yX8_isWithin RX8) U ∧ va_Nw (.methodLinkNest RX5 21 yX8_isWithin RX8) U ∧ va_Nw (.methodLinkNest RX4 41 yX8_isWithin RX8) U
theorem NB.warm {s U : State} (h : NB s) (hW : s.WarmedH U.vm) : NB U := ⟨va_Nw.warmM hW h.1, va_Nw.warmM hW h.2.1, va_Nw.warmM hW h.2.2.1, va_Nw.warmM hW h.2.2.2.1, va_Nw.warmM hW h.2.2.2.2.1, va_Nw.warmM hW h.2.2.2.2.2⟩
theorem NB.same {u U : State} (h : NB u) (hv : u.vm = U.vm) : NB U := ⟨va_Nw.same rfl hv h.1, va_Nw.same rfl hv h.2.1, va_Nw.same rfl hv h.2.2.1, va_Nw.same rfl hv h.2.2.2.1, va_Nw.same rfl hv h.2.2.2.2.1, va_Nw.same rfl hv h.2.2.2.2.2⟩
def KB (D : va_G) (cI : ClassId) (U : State) : Prop := va_K D vwCl [(cI, .int)] U ∧ NB U
theorem KB.warm {D : va_G} {cI : ClassId} {s U : State} (h : KB D cI s) (hW : s.WarmedH U.vm) : KB D cI U := ⟨va_K.moved hW.alike h.1, h.2.warm hW⟩
theorem KB.same {D : va_G} {cI : ClassId} {u U : State} (h : KB D cI u) (hv : u.vm = U.vm) : KB D cI U := ⟨va_K.moved (by rw [hv]; exact Vm.Alike.refl _) h.1, h.2.same hv⟩
/-- where a world's cells lie -/
def adrs (w : va_W) : Nat → Prop := fun q => q ∈ w.map (fun c => c.1)
theorem adrs_in {w : va_W} {k : Nat} {q : Nat × va_E} (h : w[k]? = some q) : adrs w q.1 := List.mem_map.mpr ⟨q, List.mem_of_getElem? h, rfl⟩
theorem va_D.same {A : Nat → Prop} {w w2 : va_W} (h : va_D A w) (e : w2.map (fun c => c.1) = w.map (fun c => c.1)) : va_D A w2 := by
  have key : ∀ (k : Nat) (q : Nat × va_E), w2[k]? = some q → ∃ q2, w[k]? = some q2 ∧ q2.1 = q.1 := by
    intro k q hk
    have h1 : (w.map (fun c => c.1))[k]? = some q.1 := by rw [← e, List.getElem?_map, hk]; rfl
    rw [List.getElem?_map] at h1
    cases hw : w[k]? with
    | none => rw [hw] at h1; cases h1
    | some q2 => rw [hw] at h1; exact ⟨q2, rfl, Option.some.inj h1⟩
  refine ⟨fun i j x y hi hj hxy => ?_, fun k q hk => ?_⟩
  · obtain ⟨x2, h1, e1⟩ := key i x hi
    obtain ⟨y2, h2, e2⟩ := key j y hj
    exact h.1 i j x2 y2 h1 h2 (by rw [e1, e2]; exact hxy)
  · obtain ⟨q2, h1, e1⟩ := key k q hk
    rw [← e1]; exact h.2 k q2 h1
theorem va_D.own {A : Nat → Prop} {w : va_W} (h : va_D A w) : va_D (adrs w) w := ⟨h.1, fun _ _ hk => adrs_in hk⟩
theorem va_D.any {A : Nat → Prop} {w : va_W} (h : va_D A w) : va_D (fun _ => True) w := ⟨h.1, fun _ _ _ => trivial⟩
/-- a method's start -/
def PR (D : va_G) (cI : ClassId) (av : List Value) (w : va_W) : Array Value → State → Prop := va_Pc av (fun U => va_P D vwCl w U.heap ∧ va_D (fun _ => True) w ∧ KB D cI U)
theorem PR.blind {D : va_G} {cI : ClassId} {av : List Value} {w : va_W} : FrameBlind (PR D cI av w) := fun _ _ _ _ q => ⟨q.1, q.2.1, q.2.2.1, q.2.2.2.same rfl⟩
/-- a reading method's end: the answer, and the heap as it was -/
def QR (v : Option Value) : Array Value → State → Outcome → State → Prop := fun _ st oc t => oc = .returned v ∧ t.heap = st.heap
/-- a writing method's end: answer and new world by 'Post', the same addresses, nothing else changed -/
def QW (D : va_G) (w : va_W) (Post : Option Value → va_W → Prop) : Array Value → State → Outcome → State → Prop := fun _ st oc t =>
  ∃ (v : Option Value) (w' : va_W), oc = .returned v ∧ Post v w' ∧ w'.map (fun c => c.1) = w.map (fun c => c.1) ∧ va_P D vwCl w' t.heap ∧ va_F (adrs w) st t
def rmZ (fr lo : Nat) : Room := { frames := fr, cells := 0, slots := 0, locals := lo }
def CR (l : Launch) (y : MethodName) (ws : List Cond) (fr lo : Nat) (D : va_G) (cI : ClassId) (av : List Value) (w : va_W) (v : Option Value) : Prop := Met l y ws (rmZ fr lo) (PR D cI av w) (QR v) 0 0 (fun _ => False)
def CW (l : Launch) (y : MethodName) (ws : List Cond) (fr lo : Nat) (D : va_G) (cI : ClassId) (av : List Value) (w : va_W) (Post : Option Value → va_W → Prop) : Prop := Met l y ws (rmZ fr lo) (PR D cI av w) (QW D w Post) 0 0 (adrs w)
theorem CR.of {l : Launch} {y : MethodName} {cc : ByteArray} {maxL fr lo : Nat} {ret : Option FieldType} {D : va_G} {cI : ClassId} {av : List Value} {w : va_W} {v : Option Value} (hy : plainName y.cls = true) (hn : (lg_sl av).length ≤ maxL)
    (body : ∀ (p : Program) (e : Env) (s : State) (m : MethodId) (below : List Frame) (meth : Method) (c : Code), p.tables.exec = Jvm.exec → c.code = cc → meth.sig.returnType = ret → c.maxLocals = maxL → s.vm.findClass y.cls = some m.cls → meth.locks = false → (∀ q ∈ WA, q.before av.toArray s = true) → va_P D vwCl w s.heap → va_D (fun _ => True) w → KB D cI s → ∀ ls : Array Slot, lv_has ls maxL (lv_args 0 av) →
      W p l e (rmZ fr lo) s m av.toArray below meth c s.heap [] 0 0 (MQ below (QR v) av.toArray s 0 0 (fun _ => False)) (F0 m 0 ls [])) : CR l y (wm y cc maxL ret) fr lo D cI av w v := by
  refine Met.ofW (cc := cc) (maxL := maxL) (ret := ret) hy rfl ?_
  intro p e s m args below meth c s₁ B hml hv
  obtain ⟨rfl, hP, hD, hK⟩ := hv
  have hts := atoms_spec (ws := wm y cc maxL ret) B.pre
  rw [lg_entry_eq]
  exact body p e s m below meth c B.exec B.bytes B.returns hml (findClass_of_methodNamed B.named) B.notSynchronized (fun q h => hts q (List.mem_cons_of_mem _ h)) hP hD hK _ (lv_entry av hn)
theorem CW.of {l : Launch} {y : MethodName} {cc : ByteArray} {maxL fr lo : Nat} {ret : Option FieldType} {D : va_G} {cI : ClassId} {av : List Value} {w : va_W} {Post : Option Value → va_W → Prop} (hy : plainName y.cls = true) (hn : (lg_sl av).length ≤ maxL)
    (body : ∀ (p : Program) (e : Env) (s : State) (m : MethodId) (below : List Frame) (meth : Method) (c : Code), p.tables.exec = Jvm.exec → c.code = cc → meth.sig.returnType = ret → c.maxLocals = maxL → s.vm.findClass y.cls = some m.cls → meth.locks = false → (∀ q ∈ WA, q.before av.toArray s = true) → va_P D vwCl w s.heap → va_D (adrs w) w → KB D cI s → va_S (adrs w) s.heap s.heap [] → ∀ ls : Array Slot, lv_has ls maxL (lv_args 0 av) →
      W p l e (rmZ fr lo) s m av.toArray below meth c s.heap [] 0 0 (MQ below (QW D w Post) av.toArray s 0 0 (adrs w)) (F0 m 0 ls [])) : CW l y (wm y cc maxL ret) fr lo D cI av w Post := by
  refine Met.ofW (cc := cc) (maxL := maxL) (ret := ret) hy rfl ?_
  intro p e s m args below meth c s₁ B hml hv
  obtain ⟨rfl, hP, hD, hK⟩ := hv
  have hts := atoms_spec (ws := wm y cc maxL ret) B.pre
  rw [lg_entry_eq]
  exact body p e s m below meth c B.exec B.bytes B.returns hml (findClass_of_methodNamed B.named) B.notSynchronized (fun q h => hts q (List.mem_cons_of_mem _ h)) hP hD.own hK va_S.rf _ (lv_entry av hn)
/-- a world with some cells put anew, each at its place -/
def rp : va_W → List Nat → va_W → va_W
  | ws, i :: is, q :: w => rp (ws.set i q) is w
  | ws, _, _ => ws
theorem rp_at : ∀ (is : List Nat) (w ws : va_W) (k : Nat) (q : Nat × va_E), (rp ws is w)[k]? = some q → ws[k]? = some q ∧ (k ∉ is ∨ w.length < is.length) ∨ q ∈ w
  | [], w, ws, k, q, h => by cases w <;> exact Or.inl ⟨h, Or.inl List.not_mem_nil⟩
  | i :: is, [], ws, k, q, h => Or.inl ⟨h, Or.inr (Nat.succ_pos _)⟩
  | i :: is, x :: w, ws, k, q, h => by
    rcases rp_at is w (ws.set i x) k q h with ⟨h1, h2⟩ | h1
    · by_cases hk : i = k
      · subst hk
        rw [List.getElem?_set] at h1
        by_cases hl : i < ws.length
        · rw [if_pos rfl, if_pos hl] at h1
          cases h1
          exact Or.inr List.mem_cons_self
        · rw [if_pos rfl, if_neg hl] at h1
          cases h1
      · rw [List.getElem?_set, if_neg hk] at h1
        refine Or.inl ⟨h1, ?_⟩
        rcases h2 with h2 | h2
        · exact Or.inl (fun hm => (List.mem_cons.mp hm).elim (fun e => hk e.symm) h2)
        · exact Or.inr (Nat.succ_lt_succ h2)
    · exact Or.inr (List.mem_cons_of_mem _ h1)
theorem fm_of_map {α : Type} {is : List Nat} {f : Nat → Option α} {w : List α} (h : is.map f = w.map some) : is.filterMap f = w := by
  have : is.filterMap f = (is.map f).filterMap id := by rw [List.filterMap_map]; rfl
  rw [this, h, List.filterMap_map]
  simp
section BASE
variable {p : Program} {l : Launch} {e : Env} {R : Room} {s : State} {m : MethodId} {args : Array Value} {below : List Frame} {meth : Method} {c : Code} {H : Heap} {locs : List Loc} {cells slots : Nat} {Q : State → Prop} {pc : Nat} {ls : Array Slot} {rest : List Value} {cc : ByteArray}
theorem rRi {r r' : Int32} (hx : p.tables.exec = Jvm.exec) (hb : c.code = cc) (hr : meth.sig.returnType = some .int) (hlocks : meth.locks = false) (hdg : decode cc pc = .ok (.ireturn, 1)) (hv : r = r') :
    W p l e R s m args below meth c s.heap [] 0 0 (MQ below (QR (some (.int r'))) args s 0 0 (fun _ => False)) (F0 m pc ls [.int r]) := by
  subst hv
  exact W.iret hx hb hr (fun t ht _ => ⟨rfl, ht⟩) (fun q h => absurd h List.not_mem_nil) hdg hlocks
theorem narrow_bz (b : Bool) : narrow .boolean (.int (bz b)) = .int (bz b) := by cases b <;> rfl
theorem rRz {r : Int32} {b : Bool} (hx : p.tables.exec = Jvm.exec) (hb : c.code = cc) (hr : meth.sig.returnType = some .boolean) (hlocks : meth.locks = false) (hdg : decode cc pc = .ok (.ireturn, 1)) (hv : r = bz b) :
    W p l e R s m args below meth c s.heap [] 0 0 (MQ below (QR (some (.int (bz b)))) args s 0 0 (fun _ => False)) (F0 m pc ls [.int r]) := by
  subst hv
  exact W.zret hx hb hr (narrow_bz b) (fun t ht _ => ⟨rfl, ht⟩) (fun q h => absurd h List.not_mem_nil) hdg hlocks
theorem rRl {r r' : Int64} (hx : p.tables.exec = Jvm.exec) (hb : c.code = cc) (hr : meth.sig.returnType = some .long) (hlocks : meth.locks = false) (hdg : decode cc pc = .ok (.lreturn, 1)) (hv : r = r') :
    W p l e R s m args below meth c s.heap [] 0 0 (MQ below (QR (some (.long r'))) args s 0 0 (fun _ => False)) (F0 m pc ls [.long r]) := by
  subst hv
  exact W.lret hx hb hr (fun t ht _ => ⟨rfl, ht⟩) (fun q h => absurd h List.not_mem_nil) hdg hlocks
variable {D : va_G} {cI : ClassId} {w w' ws : va_W} {Post : Option Value → va_W → Prop} {A : Nat → Prop} {H0 : Heap}
theorem rWi {r : Int32} (hx : p.tables.exec = Jvm.exec) (hb : c.code = cc) (hr : meth.sig.returnType = some .int) (hlocks : meth.locks = false) (hdg : decode cc pc = .ok (.ireturn, 1)) (hP : va_P D vwCl w' H) (hS : va_S (adrs w) s.heap H locs) (hm : w'.map (fun c => c.1) = w.map (fun c => c.1)) (hq : Post (some (.int r)) w') :
    W p l e R s m args below meth c H locs 0 0 (MQ below (QW D w Post) args s 0 0 (adrs w)) (F0 m pc ls [.int r]) :=
  W.iret hx hb hr (fun t ht _ => ⟨_, w', rfl, hq, hm, by rw [ht]; exact hP, hS.F ht⟩) hS.2.2 hdg hlocks
theorem rWv (hx : p.tables.exec = Jvm.exec) (hb : c.code = cc) (hr : meth.sig.returnType = none) (hlocks : meth.locks = false) (hdg : decode cc pc = .ok (.return_, 1)) (hP : va_P D vwCl w' H) (hS : va_S (adrs w) s.heap H locs) (hm : w'.map (fun c => c.1) = w.map (fun c => c.1)) (hq : Post none w') :
    W p l e R s m args below meth c H locs 0 0 (MQ below (QW D w Post) args s 0 0 (adrs w)) (F0 m pc ls []) :=
  W.vret hx hb hr (fun t ht _ => ⟨_, w', rfl, hq, hm, by rw [ht]; exact hP, hS.F ht⟩) hS.2.2 hdg hlocks
/-- behind a reading call -/
theorem goR {v : Option Value} {a : Array Value} {st0 : List Value} (hr : va_Run p l e R s m args below meth c H locs cells slots 0 0 (F0 m pc ls st0) rest (QR v a) (fun _ => False)) (kk : W p l e R s m args below meth c H locs cells slots Q (F0 m (pc + 3) ls (v.toList ++ rest))) : W p l e R s m args below meth c H locs cells slots Q (F0 m pc ls st0) := by
  intro T hT X
  obtain ⟨v', st₀, t, T', L, h0, X', hL, e1, e2, ⟨hv, hh⟩, st⟩ := hr T hT X
  cases hv
  obtain ⟨t2, a1, b1⟩ := kk T' (by rw [e1, hh, h0]) (Stand.forget X' (fun q h => (hL q h).elim))
  exact ⟨t2, st t2 a1, b1⟩
theorem sub_adrs {is : List Nat} (hs : is.map (fun i => ws[i]?) = w.map some) {q : Nat} (h : adrs w q) : ∃ i x, i ∈ is ∧ ws[i]? = some x ∧ x.1 = q := by
  obtain ⟨x, hx, rfl⟩ := List.mem_map.mp h
  obtain ⟨k, hk⟩ := List.getElem?_of_mem hx
  have h1 : (is.map (fun i => ws[i]?))[k]? = some (some x) := by rw [hs, List.getElem?_map, hk]; rfl
  rw [List.getElem?_map] at h1
  cases hi : is[k]? with
  | none => rw [hi] at h1; cases h1
  | some i => rw [hi] at h1; exact ⟨i, x, List.mem_of_getElem? hi, Option.some.inj h1, rfl⟩
/-- behind a writing call: the world with the callee's cells put anew -/
theorem goW {a : Array Value} {st0 : List Value} (hr : va_Run p l e R s m args below meth c H locs cells slots 0 0 (F0 m pc ls st0) rest (QW D w Post a) (adrs w)) (hP : va_P D vwCl ws H) (hD : va_D A ws) (hS : va_S A H0 H locs) (is : List Nat) (hs : is.map (fun i => ws[i]?) = w.map some)
    (kk : ∀ (v : Option Value) (w' : va_W) (H1 : Heap) (locs1 : List Loc), Post v w' → va_P D vwCl (rp ws is w') H1 → va_S A H0 H1 locs1 → W p l e R s m args below meth c H1 locs1 cells slots Q (F0 m (pc + 3) ls (v.toList ++ rest))) : W p l e R s m args below meth c H locs cells slots Q (F0 m pc ls st0) := by
  intro T hT X
  obtain ⟨v', st₀, t, T', L, h0, X', hL, e1, e2, ⟨v, w', hv, hq, hm, hPw, hz, hk⟩, st⟩ := hr T hT X
  cases hv
  rw [h0] at hz hk
  have hlen : w'.length = is.length := by
    have h1 := congrArg List.length hm
    have h2 := congrArg List.length hs
    simp only [List.length_map] at h1 h2
    omega
  have hA : ∀ q, adrs w q → A q := fun q hq => by
    obtain ⟨i, x, -, hx, rfl⟩ := sub_adrs hs hq
    exact hD.2 i x hx
  have hP1 : va_P D vwCl (rp ws is w') t.heap := by
    intro k q hkq
    rcases rp_at is w' ws k q hkq with ⟨h1, h2⟩ | h1
    · have hni : k ∉ is := h2.elim id (fun h => absurd h (by omega))
      refine (hP k q h1).kept (hk q.1 (hP k q h1).lt ?_)
      intro hin
      obtain ⟨i, x, hi, hx, he⟩ := sub_adrs hs hin
      have := hD.1 k i q x h1 hx he.symm
      subst this
      exact hni hi
    · obtain ⟨j, hj⟩ := List.getElem?_of_mem h1
      exact hPw j q hj
  obtain ⟨t2, a1, b1⟩ := kk v' w' T'.heap (locs ++ L) hq (by rw [e1]; exact hP1)
    ⟨Nat.le_trans hS.1 (by rw [e1]; exact hz), fun q h1 h2 => by rw [e1, hk q (Nat.lt_of_lt_of_le h1 hS.1) (fun z => h2 (hA q z))]; exact hS.2.1 q h1 h2, fun q hq => by
      rcases List.mem_append.mp hq with h | h
      · exact hS.2.2 q h
      · exact hA _ (hL q h)⟩ T' rfl X'
  exact ⟨t2, st t2 a1, b1⟩
variable {y : MethodName} {bytes : ByteArray} {maxL nL n index fr lo : Nat} {ret : Option FieldType} {own C : String} {b : Addr} {As : List Value}
theorem preV {cl : vw_C} {ci : Nat} {fs : List Value} (hK : KB D cI s) (hP : va_P D vwCl ws H) (hD : va_D A ws) (is : List Nat) (hs : is.map (fun i => ws[i]?) = w.map some) (hnd : va_nd is = true) (hw : w[0]? = some (b, .inr (ci, fs))) (hc : vwCl[ci]? = some cl) (hC : cl.1 = C) : PreV s H C b (PR D cI (.ref b :: As) w) As := by
  have hPw : va_P D vwCl w H := hP.sub is (fm_of_map hs)
  subst hC
  exact ⟨PR.blind, va_recv hK.1 hPw hc hw, fun U hU hW => ⟨rfl, by rw [hU]; exact hPw, (hD.sub is hnd hs).any, hK.warm hW⟩⟩
theorem preS0 (hK : KB D cI s) : PreS s H (PR D cI As []) As := ⟨PR.blind, fun U _ hW => ⟨rfl, fun _ _ h => absurd h (by simp), ⟨fun _ _ _ _ h => absurd h (by simp), fun _ _ h => absurd h (by simp)⟩, hK.warm hW⟩⟩
variable {Wd : Nat} {Pc : Array Value → State → Prop} {Qc : Array Value → State → Outcome → State → Prop} {free : Addr → Prop}
/-- a callee's way back, with room for a stack of Wd words under the call -/
theorem backW (hta : ∀ q ∈ WA, q.before args s = true) (hM : Met l y (wm y bytes maxL ret) (rmZ fr lo) Pc Qc 0 0 free) (hbl : FrameBlind Pc) (hc : Cond.code y bytes maxL ret ∈ WA) (hini : Cond.initialized y.cls ∈ WA) (hR : fr + 1 ≤ R.frames ∧ Wd + (maxL + 11) + lo ≤ R.locals) : Back l R p e below s args y 3 Wd (PreOf R 0 0 Pc) (PostOf Qc 0 0 free) :=
  back_of (bytes := bytes) (maxL := maxL) (ret := ret) hM hbl rfl rfl hR.1 hR.2 (pay_in hta (wm_good hc)) List.mem_cons_self (fun a' U hW => word_at hW (Or.inl (by first | rfl | simp [Cond.onTables, Cond.keeps, Cond.steady])) (hta _ hini))
theorem roomW0 {st st2 : List Value} (h : (st.map fun v => v.category).sum ≤ Wd) : 2 * (F0 m pc ls st2).monitorRoom + (st.map fun v => v.category).sum ≤ Wd := by
  show 2 * 0 + _ ≤ Wd
  omega
theorem runVW (S : CallFix p m c cc nL s args WA own) (hM : Met l y (wm y bytes maxL ret) (rmZ fr lo) Pc Qc 0 0 free) (hl : Cond.methodLink own index y ∈ WA) (hc : Cond.code y bytes maxL ret ∈ WA) (hi : Cond.instanceMethod y ∈ WA) (hse : Cond.selects C y y ∈ WA) (hini : Cond.initialized C ∈ WA)
    (hd : y.cls = C ∧ y.cls ≠ "java/lang/invoke/MethodHandle" ∧ y.cls ≠ "java/lang/invoke/VarHandle" ∧ (parseMethodDescriptor y.desc).map (fun d => d.parameters.length) = some n) (hR : fr + 1 ≤ R.frames ∧ Wd + (maxL + 11) + lo ≤ R.locals) (hp : PreV s H C b Pc As)
    (hn : As.length = n) (hsz : ls.size = nL) (hW : (rest.map fun v => v.category).sum ≤ Wd) (hdg : decode cc pc = .ok (.invokevirtual index, 3)) (hf : cells ≤ R.cells ∧ slots ≤ R.slots) :
    va_Run p l e R s m args below meth c H locs cells slots 0 0 (F0 m pc ls (As.reverse ++ .ref b :: rest)) rest (Qc (Value.ref b :: As).toArray) free := by
  obtain ⟨hx, hb, hml, ho, hta⟩ := S
  obtain ⟨hC, hd1, hd2, hd3⟩ := hd
  have hB : Back l R p e below s args y 3 Wd (PreOf R 0 0 Pc) (PostOf Qc 0 0 free) := backW hta hM hp.1 hc (by rw [hC]; exact hini) hR
  obtain ⟨-, ⟨cellB, hcB, hoB, hclB⟩, hPc⟩ := hp
  intro T hT X
  obtain ⟨v, vm₁, ⟨U', l2, c2, s2⟩, hW₁, X', ⟨g', mk, t, L, e1, e2, hq, h1, hL, h2, h3⟩, st⟩ := callV X hx (C := C) (bytes := bytes) (maxL := maxL) (ret := ret) ho (hta _ hl) (hta _ hi) (hta _ hse) (hta _ hc) ⟨hd1, hd2⟩ hB (by rw [hT]; exact hcB) hoB hclB (g := F0 m pc ls (As.reverse ++ .ref b :: rest)) rfl (hsz.trans hml.symm) (argsL := As) (rest := rest) (fun sig h => by rw [h] at hd3; exact hn.trans (Option.some.inj hd3).symm) rfl (roomW0 hW) (by rw [hb]; exact hdg) (fun vm₁ hW₁ => ⟨hf.1, hf.2, hPc (T.setVm vm₁) hT hW₁⟩)
  dsimp only [Pt.U, Pt.locs, Pt.cells, Pt.slots] at X' e1 e2 h1 h2 h3 st
  subst h1; subst h2; subst h3
  exact ⟨v, (T.setVm vm₁).calling g' mk (Value.ref b :: As).toArray, t, U', L, hT, X', hL, e1, e2, hq, st⟩
theorem runSW (S : CallFix p m c cc nL s args WA own) (hM : Met l y (wm y bytes maxL ret) (rmZ fr lo) Pc Qc 0 0 free) (hl : Cond.methodLink own index y ∈ WA) (hc : Cond.code y bytes maxL ret ∈ WA) (hi : Cond.static y ∈ WA) (hini : Cond.initialized y.cls ∈ WA)
    (hd : y.cls ≠ "java/lang/invoke/MethodHandle" ∧ y.cls ≠ "java/lang/invoke/VarHandle" ∧ (parseMethodDescriptor y.desc).map (fun d => d.parameters.length) = some n) (hR : fr + 1 ≤ R.frames ∧ Wd + (maxL + 11) + lo ≤ R.locals) (hp : PreS s H Pc As)
    (hn : As.length = n) (hsz : ls.size = nL) (hW : (rest.map fun v => v.category).sum ≤ Wd) (hdg : decode cc pc = .ok (.invokestatic index, 3)) (hf : cells ≤ R.cells ∧ slots ≤ R.slots) :
    va_Run p l e R s m args below meth c H locs cells slots 0 0 (F0 m pc ls (As.reverse ++ rest)) rest (Qc As.toArray) free := by
  obtain ⟨hx, hb, hml, ho, hta⟩ := S
  obtain ⟨hd1, hd2, hd3⟩ := hd
  have hB : Back l R p e below s args y 3 Wd (PreOf R 0 0 Pc) (PostOf Qc 0 0 free) := backW hta hM hp.1 hc hini hR
  intro T hT X
  obtain ⟨v, vm₁, ⟨U', l2, c2, s2⟩, hW₁, X', ⟨g', mk, t, L, e1, e2, hq, h1, hL, h2, h3⟩, st⟩ := callS X hx (bytes := bytes) (maxL := maxL) (ret := ret) ho (hta _ hl) (hta _ hi) (hta _ hini) (hta _ hc) ⟨hd1, hd2⟩ hB (g := F0 m pc ls (As.reverse ++ rest)) rfl (hsz.trans hml.symm) (argsL := As) (rest := rest) (fun sig h => by rw [h] at hd3; exact hn.trans (Option.some.inj hd3).symm) rfl (roomW0 hW) (by rw [hb]; exact hdg) (fun vm₁ hW₁ => ⟨hf.1, hf.2, hp.2 (T.setVm vm₁) hT hW₁⟩)
  dsimp only [Pt.U, Pt.locs, Pt.cells, Pt.slots] at X' e1 e2 h1 h2 h3 st
  subst h1; subst h2; subst h3
  exact ⟨v, (T.setVm vm₁).calling g' mk As.toArray, t, U', L, hT, X', hL, e1, e2, hq, st⟩
/-- a reading instance method is called -/
theorem kRV {v : Option Value} {cl : vw_C} {ci : Nat} {fs : List Value} (S : CallFix p m c cc nL s args WA own) (hM : CR l y (wm y bytes maxL ret) fr lo D cI (.ref b :: As) w v)
    (hl : Cond.methodLink own index y ∈ WA) (hc : Cond.code y bytes maxL ret ∈ WA) (hi : Cond.instanceMethod y ∈ WA) (hse : Cond.selects C y y ∈ WA) (hini : Cond.initialized C ∈ WA)
    (hd : y.cls = C ∧ y.cls ≠ "java/lang/invoke/MethodHandle" ∧ y.cls ≠ "java/lang/invoke/VarHandle" ∧ (parseMethodDescriptor y.desc).map (fun d => d.parameters.length) = some n) (hR : fr + 1 ≤ R.frames ∧ Wd + (maxL + 11) + lo ≤ R.locals)
    (hw : w[0]? = some (b, .inr (ci, fs))) (hcl : vwCl[ci]? = some cl) (hC : cl.1 = C) (hn : As.length = n)
    (hK : KB D cI s) (hP : va_P D vwCl ws H) (hD : va_D A ws) (is : List Nat) (hs : is.map (fun i => ws[i]?) = w.map some) (hnd : va_nd is = true)
    (hsz : ls.size = nL) (hW : (rest.map fun v => v.category).sum ≤ Wd) (hdg : decode cc pc = .ok (.invokevirtual index, 3)) (hcs : cells ≤ R.cells ∧ slots ≤ R.slots)
    (kk : W p l e R s m args below meth c H locs cells slots Q (F0 m (pc + 3) ls (v.toList ++ rest))) : W p l e R s m args below meth c H locs cells slots Q (F0 m pc ls (As.reverse ++ .ref b :: rest)) :=
  goR (runVW S hM hl hc hi hse hini hd hR (preV hK hP hD is hs hnd hw hcl hC) hn hsz hW hdg hcs) kk
/-- a reading static method without cells is called -/
theorem kRS {v : Option Value} (S : CallFix p m c cc nL s args WA own) (hM : CR l y (wm y bytes maxL ret) fr lo D cI As [] v)
    (hl : Cond.methodLink own index y ∈ WA) (hc : Cond.code y bytes maxL ret ∈ WA) (hi : Cond.static y ∈ WA) (hini : Cond.initialized y.cls ∈ WA)
    (hd : y.cls ≠ "java/lang/invoke/MethodHandle" ∧ y.cls ≠ "java/lang/invoke/VarHandle" ∧ (parseMethodDescriptor y.desc).map (fun d => d.parameters.length) = some n) (hR : fr + 1 ≤ R.frames ∧ Wd + (maxL + 11) + lo ≤ R.locals) (hn : As.length = n)
    (hK : KB D cI s) (hsz : ls.size = nL) (hW : (rest.map fun v => v.category).sum ≤ Wd) (hdg : decode cc pc = .ok (.invokestatic index, 3)) (hcs : cells ≤ R.cells ∧ slots ≤ R.slots)
    (kk : W p l e R s m args below meth c H locs cells slots Q (F0 m (pc + 3) ls (v.toList ++ rest))) : W p l e R s m args below meth c H locs cells slots Q (F0 m pc ls (As.reverse ++ rest)) :=
  goR (runSW S hM hl hc hi hini hd hR (preS0 hK) hn hsz hW hdg hcs) kk
/-- the same, private, of a nest mate -/
theorem kRSN {v : Option Value} {host : String} (S : CallFix p m c cc nL s args WA own) (hM : CR l y (wm y bytes maxL ret) fr lo D cI As [] v)
    (hl : va_Nw (.methodLinkNest own index y host) s) (hc : Cond.code y bytes maxL ret ∈ WA) (hi : Cond.static y ∈ WA) (hini : Cond.initialized y.cls ∈ WA)
    (hd : y.cls ≠ "java/lang/invoke/MethodHandle" ∧ y.cls ≠ "java/lang/invoke/VarHandle" ∧ (parseMethodDescriptor y.desc).map (fun d => d.parameters.length) = some n) (hR : fr + 1 ≤ R.frames ∧ 8 + (maxL + 11) + lo ≤ R.locals) (hn : As.length = n)
    (hK : KB D cI s) (hsz : ls.size = nL) (hW : (rest.map fun v => v.category).sum ≤ 8) (hdg : decode cc pc = .ok (.invokestatic index, 3)) (hcs : cells ≤ R.cells ∧ slots ≤ R.slots)
    (kk : W p l e R s m args below meth c H locs cells slots Q (F0 m (pc + 3) ls (v.toList ++ rest))) : W p l e R s m args below meth c H locs cells slots Q (F0 m pc ls (As.reverse ++ rest)) :=
  goR (va_runSN S hM ⟨va_cnB n S.2.2.2.2 (wm_good hc) rfl rfl rfl hl (S.2.2.2.2 _ hini) hd hR, S.2.2.2.2 _ hi, trivial⟩ (preS0 hK) rfl hn hsz rfl (lv_room hW) hdg ⟨hcs.1, hcs.2⟩) kk
/-- a writing instance method is called -/
theorem kWV {cl : vw_C} {ci : Nat} {fs : List Value} (S : CallFix p m c cc nL s args WA own) (hM : CW l y (wm y bytes maxL ret) fr lo D cI (.ref b :: As) w Post)
    (hl : Cond.methodLink own index y ∈ WA) (hc : Cond.code y bytes maxL ret ∈ WA) (hi : Cond.instanceMethod y ∈ WA) (hse : Cond.selects C y y ∈ WA) (hini : Cond.initialized C ∈ WA)
    (hd : y.cls = C ∧ y.cls ≠ "java/lang/invoke/MethodHandle" ∧ y.cls ≠ "java/lang/invoke/VarHandle" ∧ (parseMethodDescriptor y.desc).map (fun d => d.parameters.length) = some n) (hR : fr + 1 ≤ R.frames ∧ Wd + (maxL + 11) + lo ≤ R.locals)
    (hw : w[0]? = some (b, .inr (ci, fs))) (hcl : vwCl[ci]? = some cl) (hC : cl.1 = C) (hn : As.length = n)
    (hK : KB D cI s) (hP : va_P D vwCl ws H) (hD : va_D A ws) (hS : va_S A H0 H locs) (is : List Nat) (hs : is.map (fun i => ws[i]?) = w.map some) (hnd : va_nd is = true)
    (hsz : ls.size = nL) (hW : (rest.map fun v => v.category).sum ≤ Wd) (hdg : decode cc pc = .ok (.invokevirtual index, 3)) (hcs : cells ≤ R.cells ∧ slots ≤ R.slots)
    (kk : ∀ (v : Option Value) (w' : va_W) (H1 : Heap) (locs1 : List Loc), Post v w' → va_P D vwCl (rp ws is w') H1 → va_S A H0 H1 locs1 → W p l e R s m args below meth c H1 locs1 cells slots Q (F0 m (pc + 3) ls (v.toList ++ rest))) : W p l e R s m args below meth c H locs cells slots Q (F0 m pc ls (As.reverse ++ .ref b :: rest)) :=
  goW (runVW S hM hl hc hi hse hini hd hR (preV hK hP hD is hs hnd hw hcl hC) hn hsz hW hdg hcs) hP hD hS is hs kk
/-! numbers that are counts -/
theorem iaddN {a b : Nat} (hx : p.tables.exec = Jvm.exec) (hb : c.code = cc) (hdg : decode cc pc = .ok (.iadd, 1)) (k : W p l e R s m args below meth c H locs cells slots Q (F0 m (pc + 1) ls (.int (nI (a + b)) :: rest))) : W p l e R s m args below meth c H locs cells slots Q (F0 m pc ls (.int (nI b) :: .int (nI a) :: rest)) := lv_iadd hx hb hdg (by rw [nI_add]; exact k)
theorem isubN {a b : Nat} (hx : p.tables.exec = Jvm.exec) (hb : c.code = cc) (hdg : decode cc pc = .ok (.isub, 1)) (h : b ≤ a) (k : W p l e R s m args below meth c H locs cells slots Q (F0 m (pc + 1) ls (.int (nI (a - b)) :: rest))) : W p l e R s m args below meth c H locs cells slots Q (F0 m pc ls (.int (nI b) :: .int (nI a) :: rest)) := lv_isub hx hb hdg (by rw [pk_sub h]; exact k)
theorem imulN {a b : Nat} (hx : p.tables.exec = Jvm.exec) (hb : c.code = cc) (hdg : decode cc pc = .ok (.imul, 1)) (k : W p l e R s m args below meth c H locs cells slots Q (F0 m (pc + 1) ls (.int (nI (a * b)) :: rest))) : W p l e R s m args below meth c H locs cells slots Q (F0 m pc ls (.int (nI b) :: .int (nI a) :: rest)) := lv_imul hx hb hdg (by rw [pk_mul]; exact k)
variable {off : Int} {tgt : Nat}
theorem icmpN_lt {a b : Nat} (hx : p.tables.exec = Jvm.exec) (hb : c.code = cc) (hdg : decode cc pc = .ok (.if_icmp .lt off, 3)) (ht : (pc : Int) + off = (tgt : Int)) (ha : a < 2 ^ 31) (hb2 : b < 2 ^ 31)
    (kt : a < b → W p l e R s m args below meth c H locs cells slots Q (F0 m tgt ls rest)) (kf : ¬ a < b → W p l e R s m args below meth c H locs cells slots Q (F0 m (pc + 3) ls rest)) : W p l e R s m args below meth c H locs cells slots Q (F0 m pc ls (.int (nI b) :: .int (nI a) :: rest)) := lv_icmp_lt hx hb hdg ht (fun h => kt ((nI_ltI ha hb2).mp h)) (fun h => kf (fun q => h ((nI_ltI ha hb2).mpr q)))
theorem icmpN_ge {a b : Nat} (hx : p.tables.exec = Jvm.exec) (hb : c.code = cc) (hdg : decode cc pc = .ok (.if_icmp .ge off, 3)) (ht : (pc : Int) + off = (tgt : Int)) (ha : a < 2 ^ 31) (hb2 : b < 2 ^ 31)
    (kt : ¬ a < b → W p l e R s m args below meth c H locs cells slots Q (F0 m tgt ls rest)) (kf : a < b → W p l e R s m args below meth c H locs cells slots Q (F0 m (pc + 3) ls rest)) : W p l e R s m args below meth c H locs cells slots Q (F0 m pc ls (.int (nI b) :: .int (nI a) :: rest)) := lv_icmp_ge hx hb hdg ht (fun h => kt (Nat.not_lt.mpr ((nI_leI hb2 ha).mp h))) (fun h => kf (Nat.not_le.mp (fun q => h ((nI_leI hb2 ha).mpr q))))
theorem icmpN_gt {a b : Nat} (hx : p.tables.exec = Jvm.exec) (hb : c.code = cc) (hdg : decode cc pc = .ok (.if_icmp .gt off, 3)) (ht : (pc : Int) + off = (tgt : Int)) (ha : a < 2 ^ 31) (hb2 : b < 2 ^ 31)
    (kt : b < a → W p l e R s m args below meth c H locs cells slots Q (F0 m tgt ls rest)) (kf : ¬ b < a → W p l e R s m args below meth c H locs cells slots Q (F0 m (pc + 3) ls rest)) : W p l e R s m args below meth c H locs cells slots Q (F0 m pc ls (.int (nI b) :: .int (nI a) :: rest)) := lv_icmp_gt hx hb hdg ht (fun h => kt ((nI_ltI hb2 ha).mp h)) (fun h => kf (fun q => h ((nI_ltI hb2 ha).mpr q)))
theorem icmpN_le {a b : Nat} (hx : p.tables.exec = Jvm.exec) (hb : c.code = cc) (hdg : decode cc pc = .ok (.if_icmp .le off, 3)) (ht : (pc : Int) + off = (tgt : Int)) (ha : a < 2 ^ 31) (hb2 : b < 2 ^ 31)
    (kt : ¬ b < a → W p l e R s m args below meth c H locs cells slots Q (F0 m tgt ls rest)) (kf : b < a → W p l e R s m args below meth c H locs cells slots Q (F0 m (pc + 3) ls rest)) : W p l e R s m args below meth c H locs cells slots Q (F0 m pc ls (.int (nI b) :: .int (nI a) :: rest)) := lv_icmp_le hx hb hdg ht (fun h => kt (Nat.not_lt.mpr ((nI_leI ha hb2).mp h))) (fun h => kf (Nat.not_le.mp (fun q => h ((nI_leI ha hb2).mpr q))))
theorem icmpN_eq {a b : Nat} (hx : p.tables.exec = Jvm.exec) (hb : c.code = cc) (hdg : decode cc pc = .ok (.if_icmp .eq off, 3)) (ht : (pc : Int) + off = (tgt : Int)) (ha : a < 2 ^ 31) (hb2 : b < 2 ^ 31)
    (kt : a = b → W p l e R s m args below meth c H locs cells slots Q (F0 m tgt ls rest)) (kf : ¬ a = b → W p l e R s m args below meth c H locs cells slots Q (F0 m (pc + 3) ls rest)) : W p l e R s m args below meth c H locs cells slots Q (F0 m pc ls (.int (nI b) :: .int (nI a) :: rest)) := lv_icmp_eq hx hb hdg ht (fun h => kt ((nI_eq ha hb2).mp h)) (fun h => kf (fun q => h ((nI_eq ha hb2).mpr q)))
theorem icmpN_ne {a b : Nat} (hx : p.tables.exec = Jvm.exec) (hb : c.code = cc) (hdg : decode cc pc = .ok (.if_icmp .ne off, 3)) (ht : (pc : Int) + off = (tgt : Int)) (ha : a < 2 ^ 31) (hb2 : b < 2 ^ 31)
    (kt : ¬ a = b → W p l e R s m args below meth c H locs cells slots Q (F0 m tgt ls rest)) (kf : a = b → W p l e R s m args below meth c H locs cells slots Q (F0 m (pc + 3) ls rest)) : W p l e R s m args below meth c H locs cells slots Q (F0 m pc ls (.int (nI b) :: .int (nI a) :: rest)) := lv_icmp_ne hx hb hdg ht (fun h => kt (fun q => h ((nI_eq ha hb2).mpr q))) (fun h => kf ((nI_eq ha hb2).mp (by first | exact h | exact Decidable.not_not.mp h)))
theorem bz0 {b : Bool} : bz b = 0 ↔ b = false := by cases b <;> simp [bz]
theorem ifB_eq {b : Bool} (hx : p.tables.exec = Jvm.exec) (hb : c.code = cc) (hdg : decode cc pc = .ok (.ifCond .eq off, 3)) (ht : (pc : Int) + off = (tgt : Int))
    (kt : b = false → W p l e R s m args below meth c H locs cells slots Q (F0 m tgt ls rest)) (kf : b = true → W p l e R s m args below meth c H locs cells slots Q (F0 m (pc + 3) ls rest)) : W p l e R s m args below meth c H locs cells slots Q (F0 m pc ls (.int (bz b) :: rest)) := lv_if_eq hx hb hdg ht (fun h => kt (bz0.mp h)) (fun h => kf (by cases b with | true => rfl | false => exact absurd (bz0.mpr rfl) h))
theorem ifB_ne {b : Bool} (hx : p.tables.exec = Jvm.exec) (hb : c.code = cc) (hdg : decode cc pc = .ok (.ifCond .ne off, 3)) (ht : (pc : Int) + off = (tgt : Int))
    (kt : b = true → W p l e R s m args below meth c H locs cells slots Q (F0 m tgt ls rest)) (kf : b = false → W p l e R s m args below meth c H locs cells slots Q (F0 m (pc + 3) ls rest)) : W p l e R s m args below meth c H locs cells slots Q (F0 m pc ls (.int (bz b) :: rest)) := lv_if_ne hx hb hdg ht (fun h => kt (by cases b with | true => rfl | false => exact absurd (bz0.mpr rfl) h)) (fun h => kf (bz0.mp (by first | exact h | exact Decidable.not_not.mp h)))
theorem nI0 {a : Nat} (h : a < 2 ^ 31) : nI a = 0 ↔ a = 0 := by rw [← nI_0, nI_eq h (by omega)]
theorem ifN_eq {a : Nat} (hx : p.tables.exec = Jvm.exec) (hb : c.code = cc) (hdg : decode cc pc = .ok (.ifCond .eq off, 3)) (ht : (pc : Int) + off = (tgt : Int)) (ha : a < 2 ^ 31)
    (kt : a = 0 → W p l e R s m args below meth c H locs cells slots Q (F0 m tgt ls rest)) (kf : ¬ a = 0 → W p l e R s m args below meth c H locs cells slots Q (F0 m (pc + 3) ls rest)) : W p l e R s m args below meth c H locs cells slots Q (F0 m pc ls (.int (nI a) :: rest)) := lv_if_eq hx hb hdg ht (fun h => kt ((nI0 ha).mp h)) (fun h => kf (fun q => h ((nI0 ha).mpr q)))
theorem ifN_ne {a : Nat} (hx : p.tables.exec = Jvm.exec) (hb : c.code = cc) (hdg : decode cc pc = .ok (.ifCond .ne off, 3)) (ht : (pc : Int) + off = (tgt : Int)) (ha : a < 2 ^ 31)
    (kt : ¬ a = 0 → W p l e R s m args below meth c H locs cells slots Q (F0 m tgt ls rest)) (kf : a = 0 → W p l e R s m args below meth c H locs cells slots Q (F0 m (pc + 3) ls rest)) : W p l e R s m args below meth c H locs cells slots Q (F0 m pc ls (.int (nI a) :: rest)) := lv_if_ne hx hb hdg ht (fun h => kt (fun q => h ((nI0 ha).mpr q))) (fun h => kf ((nI0 ha).mp (by first | exact h | exact Decidable.not_not.mp h)))
theorem ifN_le {a : Nat} (hx : p.tables.exec = Jvm.exec) (hb : c.code = cc) (hdg : decode cc pc = .ok (.ifCond .le off, 3)) (ht : (pc : Int) + off = (tgt : Int)) (ha : a < 2 ^ 31)
    (kt : a = 0 → W p l e R s m args below meth c H locs cells slots Q (F0 m tgt ls rest)) (kf : ¬ a = 0 → W p l e R s m args below meth c H locs cells slots Q (F0 m (pc + 3) ls rest)) : W p l e R s m args below meth c H locs cells slots Q (F0 m pc ls (.int (nI a) :: rest)) := lv_if_le hx hb hdg ht (fun h => kt (Nat.le_zero.mp ((nI_leI (b := 0) ha (by omega)).mp h))) (fun h => kf (fun q => h ((nI_leI (b := 0) ha (by omega)).mpr (Nat.le_zero.mpr q))))
theorem ifN_gt {a : Nat} (hx : p.tables.exec = Jvm.exec) (hb : c.code = cc) (hdg : decode cc pc = .ok (.ifCond .gt off, 3)) (ht : (pc : Int) + off = (tgt : Int)) (ha : a < 2 ^ 31)
    (kt : ¬ a = 0 → W p l e R s m args below meth c H locs cells slots Q (F0 m tgt ls rest)) (kf : a = 0 → W p l e R s m args below meth c H locs cells slots Q (F0 m (pc + 3) ls rest)) : W p l e R s m args below meth c H locs cells slots Q (F0 m pc ls (.int (nI a) :: rest)) := lv_if_gt hx hb hdg ht (fun h => kt (fun q => by subst q; exact absurd h (by decide))) (fun h => kf (by rcases Nat.eq_zero_or_pos a with q | q; exact q; exact absurd ((nI_ltI (a := 0) (by omega) ha).mpr q) h))
theorem ifN_lt {a : Nat} (hx : p.tables.exec = Jvm.exec) (hb : c.code = cc) (hdg : decode cc pc = .ok (.ifCond .lt off, 3)) (ht : (pc : Int) + off = (tgt : Int)) (ha : a < 2 ^ 31)
    (kf : W p l e R s m args below meth c H locs cells slots Q (F0 m (pc + 3) ls rest)) : W p l e R s m args below meth c H locs cells slots Q (F0 m pc ls (.int (nI a) :: rest)) := lv_if_lt hx hb hdg ht (fun h => absurd h (nI_pos ha)) (fun _ => kf)
theorem ifN_ge {a : Nat} (hx : p.tables.exec = Jvm.exec) (hb : c.code = cc) (hdg : decode cc pc = .ok (.ifCond .ge off, 3)) (ht : (pc : Int) + off = (tgt : Int)) (ha : a < 2 ^ 31)
    (kt : W p l e R s m args below meth c H locs cells slots Q (F0 m tgt ls rest)) : W p l e R s m args below meth c H locs cells slots Q (F0 m pc ls (.int (nI a) :: rest)) := lv_if_ge hx hb hdg ht (fun _ => kt) (fun h => absurd (nI_pos' ha) h)
theorem ialdN {a j N : Nat} {f : Nat → Int32} (hx : p.tables.exec = Jvm.exec) (hb : c.code = cc) (hK : KB D cI s) (hP : va_P D vwCl ws H) (q0 : Nat) (ha : ws[q0]? = some (a, .inl (cI, N, .inl f))) (hj : j < N) (hN : N < 2 ^ 31) (hdg : decode cc pc = .ok (.iaload, 1))
    (kk : W p l e R s m args below meth c H locs cells slots Q (F0 m (pc + 1) ls (.int (f j) :: rest))) : W p l e R s m args below meth c H locs cells slots Q (F0 m pc ls (.int (nI j) :: .ref a :: rest)) := by
  refine va_iald hx hb hK.1 hP q0 0 ha rfl (vp_in_nI hj hN) hdg ?_
  rw [nI_clamp (by omega)]
  exact kk
theorem iastN {a j N : Nat} {f : Nat → Int32} {x : Int32} (hx : p.tables.exec = Jvm.exec) (hb : c.code = cc) (hK : KB D cI s) (hP : va_P D vwCl ws H) (hD : va_D A ws) (hS : va_S A H0 H locs) (q0 : Nat) (ha : ws[q0]? = some (a, .inl (cI, N, .inl f))) (hj : j < N) (hN : N < 2 ^ 31) (hdg : decode cc pc = .ok (.iastore, 1))
    (kk : ∀ (H1 : Heap) (locs1 : List Loc), va_P D vwCl (ws.set q0 (a, .inl (cI, N, .inl (upd f j x)))) H1 → va_S A H0 H1 locs1 → W p l e R s m args below meth c H1 locs1 cells slots Q (F0 m (pc + 1) ls rest)) : W p l e R s m args below meth c H locs cells slots Q (F0 m pc ls (.int x :: .int (nI j) :: .ref a :: rest)) := by
  refine va_iast hx hb hK.1 hP hD hS q0 0 ha rfl (vp_in_nI hj hN) hdg ?_
  rw [nI_clamp (by omega)]
  exact fun H1 locs1 h1 _ h3 => kk H1 locs1 h1 h3
theorem getX {own ref C : String} {T : u_T} {N ci index : Nat} {a : Nat} (hx : p.tables.exec = Jvm.exec) (hb : c.code = cc) (hta : ∀ q ∈ WA, q.before args s = true) (hin : ∀ q ∈ u_ws C T N, q ∈ WA) (hown : s.vm.findClass own = some m.cls) (hK : KB D cI s) (hP : va_P D vwCl ws H) (q0 : Nat) {fs : List Value} (he : ws[q0]? = some (a, .inr (ci, fs))) (hc : vwCl[ci]? = some (C, T, N)) (k : Nat) (hk : k < N) (hlink : Cond.fieldLink own index ref (T k).2.1 (T k).2.2.1 ∈ WA) (hsame : (T k).1 = ref) {v : Value} (hv : fs[k]? = some v) (hdg : decode cc pc = .ok (.getfield index, 3))
    (kk : W p l e R s m args below meth c H locs cells slots Q (F0 m (pc + 3) ls (v :: rest))) : W p l e R s m args below meth c H locs cells slots Q (F0 m pc ls (.ref a :: rest)) :=
  va_get hx hb hta hin hown hK.1 hP q0 he hc k hk (hta _ hlink) (fun x h9 => by rw [hsame] at h9; exact h9) hv hdg kk
theorem putX {own ref C : String} {T : u_T} {N ci index : Nat} {a : Nat} (hx : p.tables.exec = Jvm.exec) (hb : c.code = cc) (hta : ∀ q ∈ WA, q.before args s = true) (hin : ∀ q ∈ u_ws C T N, q ∈ WA) (ty0 : Nat → FieldType) (hty : ∀ k, k < N → parseFieldDescriptor (T k).2.2.1 = some (ty0 k)) (hnm : ∀ a, a < N → ∀ b, b < N → a ≠ b → (T a).2.1 ≠ (T b).2.1) (hown : s.vm.findClass own = some m.cls) (hK : KB D cI s) (hP : va_P D vwCl ws H) (hD : va_D A ws) (hS : va_S A H0 H locs) (q0 : Nat) {fs : List Value} (he : ws[q0]? = some (a, .inr (ci, fs))) (hc : vwCl[ci]? = some (C, T, N)) (k : Nat) (hk : k < N) (hlink : Cond.fieldLink own index ref (T k).2.1 (T k).2.2.1 ∈ WA) (hsame : (T k).1 = ref) (hfin : (T k).2.2.2 = false) {ty : FieldType} {v : Value} (hd : ty0 k = ty) (hn : narrow ty v = v) (hfit : fits ty v = true) (hl : k < fs.length) (hdg : decode cc pc = .ok (.putfield index, 3))
    (kk : ∀ (H1 : Heap) (locs1 : List Loc), va_P D vwCl (ws.set q0 (a, .inr (ci, fs.set k v))) H1 → va_S A H0 H1 locs1 → W p l e R s m args below meth c H1 locs1 cells slots Q (F0 m (pc + 3) ls rest)) : W p l e R s m args below meth c H locs cells slots Q (F0 m pc ls (v :: .ref a :: rest)) :=
  va_put hx hb hta hin ty0 hty hnm hown hK.1 hP hD hS q0 he hc k hk (hta _ hlink) (fun x h9 => by rw [hsame] at h9; exact h9) hfin (by rw [← hd]; exact hty k hk) hn hfit hl hdg (fun H1 locs1 h1 _ h3 => kk H1 locs1 h1 h3)
theorem nI_inc1 (k : Nat) : nI k + Int32.ofInt 1 = nI (k + 1) := by rw [show Int32.ofInt 1 = (1 : Int32) by decide]; exact nI_1 k
theorem nI_inc6 (k : Nat) : nI k + Int32.ofInt 6 = nI (k + 6) := by rw [show Int32.ofInt 6 = nI 6 by decide]; exact nI_add k 6
theorem nI_dec {k : Nat} (h : 0 < k) : nI k + Int32.ofInt (-1) = nI (k - 1) := by rw [show Int32.ofInt (-1) = (-1 : Int32) by decide]; exact sb_m1 h
theorem topN {x : Int32} (j : Nat) (h : x = nI j) (k : W p l e R s m args below meth c H locs cells slots Q (F0 m pc ls (.int (nI j) :: rest))) : W p l e R s m args below meth c H locs cells slots Q (F0 m pc ls (.int x :: rest)) := by rw [h]; exact k
theorem topI {x : Int32} (j : Int32) (h : x = j) (k : W p l e R s m args below meth c H locs cells slots Q (F0 m pc ls (.int j :: rest))) : W p l e R s m args below meth c H locs cells slots Q (F0 m pc ls (.int x :: rest)) := by rw [h]; exact k
theorem topB {x : Int32} (j : Bool) (h : x = bz j) (k : W p l e R s m args below meth c H locs cells slots Q (F0 m pc ls (.int (bz j) :: rest))) : W p l e R s m args below meth c H locs cells slots Q (F0 m pc ls (.int x :: rest)) := by rw [h]; exact k
theorem icmpI_lt {x y : Int32} (hx : p.tables.exec = Jvm.exec) (hb : c.code = cc) (hdg : decode cc pc = .ok (.if_icmp .lt off, 3)) (ht : (pc : Int) + off = (tgt : Int)) (kt : x < y → W p l e R s m args below meth c H locs cells slots Q (F0 m tgt ls rest)) (kf : ¬ x < y → W p l e R s m args below meth c H locs cells slots Q (F0 m (pc + 3) ls rest)) : W p l e R s m args below meth c H locs cells slots Q (F0 m pc ls (.int y :: .int x :: rest)) := lv_icmp_lt hx hb hdg ht kt kf
theorem icmpI_gt {x y : Int32} (hx : p.tables.exec = Jvm.exec) (hb : c.code = cc) (hdg : decode cc pc = .ok (.if_icmp .gt off, 3)) (ht : (pc : Int) + off = (tgt : Int)) (kt : y < x → W p l e R s m args below meth c H locs cells slots Q (F0 m tgt ls rest)) (kf : ¬ y < x → W p l e R s m args below meth c H locs cells slots Q (F0 m (pc + 3) ls rest)) : W p l e R s m args below meth c H locs cells slots Q (F0 m pc ls (.int y :: .int x :: rest)) := lv_icmp_gt hx hb hdg ht kt kf
theorem icmpI_ge {x y : Int32} (hx : p.tables.exec = Jvm.exec) (hb : c.code = cc) (hdg : decode cc pc = .ok (.if_icmp .ge off, 3)) (ht : (pc : Int) + off = (tgt : Int)) (kt : ¬ x < y → W p l e R s m args below meth c H locs cells slots Q (F0 m tgt ls rest)) (kf : x < y → W p l e R s m args below meth c H locs cells slots Q (F0 m (pc + 3) ls rest)) : W p l e R s m args below meth c H locs cells slots Q (F0 m pc ls (.int y :: .int x :: rest)) := lv_icmp_ge hx hb hdg ht (fun h => kt (Int32.not_lt.mpr h)) (fun h => kf (Int32.not_le.mp h))
theorem icmpI_le {x y : Int32} (hx : p.tables.exec = Jvm.exec) (hb : c.code = cc) (hdg : decode cc pc = .ok (.if_icmp .le off, 3)) (ht : (pc : Int) + off = (tgt : Int)) (kt : ¬ y < x → W p l e R s m args below meth c H locs cells slots Q (F0 m tgt ls rest)) (kf : y < x → W p l e R s m args below meth c H locs cells slots Q (F0 m (pc + 3) ls rest)) : W p l e R s m args below meth c H locs cells slots Q (F0 m pc ls (.int y :: .int x :: rest)) := lv_icmp_le hx hb hdg ht (fun h => kt (Int32.not_lt.mpr h)) (fun h => kf (Int32.not_le.mp h))
theorem icmpI_eq {x y : Int32} (hx : p.tables.exec = Jvm.exec) (hb : c.code = cc) (hdg : decode cc pc = .ok (.if_icmp .eq off, 3)) (ht : (pc : Int) + off = (tgt : Int)) (kt : x = y → W p l e R s m args below meth c H locs cells slots Q (F0 m tgt ls rest)) (kf : ¬ x = y → W p l e R s m args below meth c H locs cells slots Q (F0 m (pc + 3) ls rest)) : W p l e R s m args below meth c H locs cells slots Q (F0 m pc ls (.int y :: .int x :: rest)) := lv_icmp_eq hx hb hdg ht kt kf
theorem icmpI_ne {x y : Int32} (hx : p.tables.exec = Jvm.exec) (hb : c.code = cc) (hdg : decode cc pc = .ok (.if_icmp .ne off, 3)) (ht : (pc : Int) + off = (tgt : Int)) (kt : ¬ x = y → W p l e R s m args below meth c H locs cells slots Q (F0 m tgt ls rest)) (kf : x = y → W p l e R s m args below meth c H locs cells slots Q (F0 m (pc + 3) ls rest)) : W p l e R s m args below meth c H locs cells slots Q (F0 m pc ls (.int y :: .int x :: rest)) := lv_icmp_ne hx hb hdg ht kt (fun h => kf (by first | exact h | exact Decidable.not_not.mp h))
theorem ifI_eq {x : Int32} (hx : p.tables.exec = Jvm.exec) (hb : c.code = cc) (hdg : decode cc pc = .ok (.ifCond .eq off, 3)) (ht : (pc : Int) + off = (tgt : Int)) (kt : x = 0 → W p l e R s m args below meth c H locs cells slots Q (F0 m tgt ls rest)) (kf : ¬ x = 0 → W p l e R s m args below meth c H locs cells slots Q (F0 m (pc + 3) ls rest)) : W p l e R s m args below meth c H locs cells slots Q (F0 m pc ls (.int x :: rest)) := lv_if_eq hx hb hdg ht kt kf
theorem ifI_ne {x : Int32} (hx : p.tables.exec = Jvm.exec) (hb : c.code = cc) (hdg : decode cc pc = .ok (.ifCond .ne off, 3)) (ht : (pc : Int) + off = (tgt : Int)) (kt : ¬ x = 0 → W p l e R s m args below meth c H locs cells slots Q (F0 m tgt ls rest)) (kf : x = 0 → W p l e R s m args below meth c H locs cells slots Q (F0 m (pc + 3) ls rest)) : W p l e R s m args below meth c H locs cells slots Q (F0 m pc ls (.int x :: rest)) := lv_if_ne hx hb hdg ht kt (fun h => kf (by first | exact h | exact Decidable.not_not.mp h))
theorem ifI_lt {x : Int32} (hx : p.tables.exec = Jvm.exec) (hb : c.code = cc) (hdg : decode cc pc = .ok (.ifCond .lt off, 3)) (ht : (pc : Int) + off = (tgt : Int)) (kt : x < 0 → W p l e R s m args below meth c H locs cells slots Q (F0 m tgt ls rest)) (kf : ¬ x < 0 → W p l e R s m args below meth c H locs cells slots Q (F0 m (pc + 3) ls rest)) : W p l e R s m args below meth c H locs cells slots Q (F0 m pc ls (.int x :: rest)) := lv_if_lt hx hb hdg ht kt kf
theorem ifI_gt {x : Int32} (hx : p.tables.exec = Jvm.exec) (hb : c.code = cc) (hdg : decode cc pc = .ok (.ifCond .gt off, 3)) (ht : (pc : Int) + off = (tgt : Int)) (kt : 0 < x → W p l e R s m args below meth c H locs cells slots Q (F0 m tgt ls rest)) (kf : ¬ 0 < x → W p l e R s m args below meth c H locs cells slots Q (F0 m (pc + 3) ls rest)) : W p l e R s m args below meth c H locs cells slots Q (F0 m pc ls (.int x :: rest)) := lv_if_gt hx hb hdg ht kt kf
theorem ifI_ge {x : Int32} (hx : p.tables.exec = Jvm.exec) (hb : c.code = cc) (hdg : decode cc pc = .ok (.ifCond .ge off, 3)) (ht : (pc : Int) + off = (tgt : Int)) (kt : ¬ x < 0 → W p l e R s m args below meth c H locs cells slots Q (F0 m tgt ls rest)) (kf : x < 0 → W p l e R s m args below meth c H locs cells slots Q (F0 m (pc + 3) ls rest)) : W p l e R s m args below meth c H locs cells slots Q (F0 m pc ls (.int x :: rest)) := lv_if_ge hx hb hdg ht (fun h => kt (Int32.not_lt.mpr h)) (fun h => kf (Int32.not_le.mp h))
theorem ifI_le {x : Int32} (hx : p.tables.exec = Jvm.exec) (hb : c.code = cc) (hdg : decode cc pc = .ok (.ifCond .le off, 3)) (ht : (pc : Int) + off = (tgt : Int)) (kt : ¬ 0 < x → W p l e R s m args below meth c H locs cells slots Q (F0 m tgt ls rest)) (kf : 0 < x → W p l e R s m args below meth c H locs cells slots Q (F0 m (pc + 3) ls rest)) : W p l e R s m args below meth c H locs cells slots Q (F0 m pc ls (.int x :: rest)) := lv_if_le hx hb hdg ht (fun h => kt (Int32.not_lt.mpr h)) (fun h => kf (Int32.not_le.mp h))
theorem lgc (x y : Int64) : (lg_cmp x y < 0 ↔ x < y) ∧ (0 < lg_cmp x y ↔ y < x) ∧ (lg_cmp x y = 0 ↔ x = y) := by
  have a1 : y < x → ¬ x < y := fun h g => absurd (Int64.lt_trans h g) Int64.lt_irrefl
  have a2 : ¬ y < x → ¬ x < y → x = y := fun h g => Int64.le_antisymm (Int64.not_lt.mp h) (Int64.not_lt.mp g)
  by_cases h1 : y < x
  · have e1 : lg_cmp x y = 1 := by simp [lg_cmp, h1]
    rw [e1]
    exact ⟨⟨fun h => absurd h (by decide), fun h => absurd h (a1 h1)⟩, ⟨fun _ => h1, fun _ => by decide⟩, ⟨fun h => absurd h (by decide), fun h => absurd h1 (by rw [h]; exact Int64.lt_irrefl)⟩⟩
  · by_cases h2 : x < y
    · have e1 : lg_cmp x y = -1 := by simp only [lg_cmp, h1, h2, if_false, if_true]; first | done | (simp [Int64.lt_irrefl]; done) | (rw [if_neg (by intro h; rw [h] at h2; exact Int64.lt_irrefl h2)])
      rw [e1]
      exact ⟨⟨fun _ => h2, fun _ => by decide⟩, ⟨fun h => absurd h (by decide), fun h => absurd h h1⟩, ⟨fun h => absurd h (by decide), fun h => absurd h2 (by rw [h]; exact Int64.lt_irrefl)⟩⟩
    · have e := a2 h1 h2
      have e1 : lg_cmp x y = 0 := by subst e; simp [lg_cmp, h1]
      rw [e1]
      exact ⟨⟨fun h => absurd h (by decide), fun h => absurd h h2⟩, ⟨fun h => absurd h (by decide), fun h => absurd h h1⟩, ⟨fun _ => e, fun _ => rfl⟩⟩
theorem ifL_lt {x y : Int64} (hx : p.tables.exec = Jvm.exec) (hb : c.code = cc) (hdg : decode cc pc = .ok (.ifCond .lt off, 3)) (ht : (pc : Int) + off = (tgt : Int)) (kt : x < y → W p l e R s m args below meth c H locs cells slots Q (F0 m tgt ls rest)) (kf : ¬ x < y → W p l e R s m args below meth c H locs cells slots Q (F0 m (pc + 3) ls rest)) : W p l e R s m args below meth c H locs cells slots Q (F0 m pc ls (.int (lg_cmp x y) :: rest)) := ifI_lt hx hb hdg ht (fun h => kt ((lgc x y).1.mp h)) (fun h => kf (fun g => h ((lgc x y).1.mpr g)))
theorem ifL_ge {x y : Int64} (hx : p.tables.exec = Jvm.exec) (hb : c.code = cc) (hdg : decode cc pc = .ok (.ifCond .ge off, 3)) (ht : (pc : Int) + off = (tgt : Int)) (kt : ¬ x < y → W p l e R s m args below meth c H locs cells slots Q (F0 m tgt ls rest)) (kf : x < y → W p l e R s m args below meth c H locs cells slots Q (F0 m (pc + 3) ls rest)) : W p l e R s m args below meth c H locs cells slots Q (F0 m pc ls (.int (lg_cmp x y) :: rest)) := ifI_ge hx hb hdg ht (fun h => kt (fun g => h ((lgc x y).1.mpr g))) (fun h => kf ((lgc x y).1.mp h))
theorem ifL_gt {x y : Int64} (hx : p.tables.exec = Jvm.exec) (hb : c.code = cc) (hdg : decode cc pc = .ok (.ifCond .gt off, 3)) (ht : (pc : Int) + off = (tgt : Int)) (kt : y < x → W p l e R s m args below meth c H locs cells slots Q (F0 m tgt ls rest)) (kf : ¬ y < x → W p l e R s m args below meth c H locs cells slots Q (F0 m (pc + 3) ls rest)) : W p l e R s m args below meth c H locs cells slots Q (F0 m pc ls (.int (lg_cmp x y) :: rest)) := ifI_gt hx hb hdg ht (fun h => kt ((lgc x y).2.1.mp h)) (fun h => kf (fun g => h ((lgc x y).2.1.mpr g)))
theorem ifL_le {x y : Int64} (hx : p.tables.exec = Jvm.exec) (hb : c.code = cc) (hdg : decode cc pc = .ok (.ifCond .le off, 3)) (ht : (pc : Int) + off = (tgt : Int)) (kt : ¬ y < x → W p l e R s m args below meth c H locs cells slots Q (F0 m tgt ls rest)) (kf : y < x → W p l e R s m args below meth c H locs cells slots Q (F0 m (pc + 3) ls rest)) : W p l e R s m args below meth c H locs cells slots Q (F0 m pc ls (.int (lg_cmp x y) :: rest)) := ifI_le hx hb hdg ht (fun h => kt (fun g => h ((lgc x y).2.1.mpr g))) (fun h => kf ((lgc x y).2.1.mp h))
theorem ifL_eq {x y : Int64} (hx : p.tables.exec = Jvm.exec) (hb : c.code = cc) (hdg : decode cc pc = .ok (.ifCond .eq off, 3)) (ht : (pc : Int) + off = (tgt : Int)) (kt : x = y → W p l e R s m args below meth c H locs cells slots Q (F0 m tgt ls rest)) (kf : ¬ x = y → W p l e R s m args below meth c H locs cells slots Q (F0 m (pc + 3) ls rest)) : W p l e R s m args below meth c H locs cells slots Q (F0 m pc ls (.int (lg_cmp x y) :: rest)) := ifI_eq hx hb hdg ht (fun h => kt ((lgc x y).2.2.mp h)) (fun h => kf (fun g => h ((lgc x y).2.2.mpr g)))
theorem ifL_ne {x y : Int64} (hx : p.tables.exec = Jvm.exec) (hb : c.code = cc) (hdg : decode cc pc = .ok (.ifCond .ne off, 3)) (ht : (pc : Int) + off = (tgt : Int)) (kt : ¬ x = y → W p l e R s m args below meth c H locs cells slots Q (F0 m tgt ls rest)) (kf : x = y → W p l e R s m args below meth c H locs cells slots Q (F0 m (pc + 3) ls rest)) : W p l e R s m args below meth c H locs cells slots Q (F0 m pc ls (.int (lg_cmp x y) :: rest)) := ifI_ne hx hb hdg ht (fun h => kt (fun g => h ((lgc x y).2.2.mpr g))) (fun h => kf ((lgc x y).2.2.mp h))
end BASE
end
section
/-! ===== the class's own words, in Int32 and Nat ===== -/
def inR (v lo hi : Int32) : Bool := !decide (v < lo) && !decide (hi < v)
def inM (v : Int32) (n : Nat) : Bool := !decide (v < 0) && decide (v < nI n)
/-- a mark's x (or y) at a tick, times n -/
def tk (f : Nat → Int32) (a : Nat) (k n : Int32) : Int32 := (n - k) * f (0 * 16 + a) + k * f (1 * 16 + a)
def arL (ax ay bx b_y cx cy : Int64) : Int64 := (bx - ax) * (cy - ay) - (b_y - ay) * (cx - ax)
/-- corner i of the row of corners, as a mark's number -/
def cn (cs : Nat → Int32) (i : Nat) : Nat := (cs i).toNatClampNeg
def CSok (cs : Nat → Int32) (tn mn : Nat) : Prop := ∀ i, i < 3 * tn → cs i = nI (cn cs i) ∧ cn cs i < mn
def tch (cs : Nat → Int32) (t a : Nat) : Bool := decide (cn cs (3 * t + 0) = a) || decide (cn cs (3 * t + 1) = a) || decide (cn cs (3 * t + 2) = a)
def tAr (cs xs ys : Nat → Int32) (t : Nat) (k n : Int32) : Int64 := arL (tk xs (cn cs (3 * t + 0)) k n).toInt64 (tk ys (cn cs (3 * t + 0)) k n).toInt64 (tk xs (cn cs (3 * t + 1)) k n).toInt64 (tk ys (cn cs (3 * t + 1)) k n).toInt64 (tk xs (cn cs (3 * t + 2)) k n).toInt64 (tk ys (cn cs (3 * t + 2)) k n).toInt64
def aIn (cs xs ys : Nat → Int32) (t q : Nat) : Int32 := (arL (xs (q * 16 + cn cs (3 * t + 0))).toInt64 (ys (q * 16 + cn cs (3 * t + 0))).toInt64 (xs (q * 16 + cn cs (3 * t + 1))).toInt64 (ys (q * 16 + cn cs (3 * t + 1))).toInt64 (xs (q * 16 + cn cs (3 * t + 2))).toInt64 (ys (q * 16 + cn cs (3 * t + 2))).toInt64).toInt32
def stM (xs ys : Nat → Int32) (a : Nat) : Bool := decide (xs (0 * 16 + a) = xs (1 * 16 + a)) && decide (ys (0 * 16 + a) = ys (1 * 16 + a))
def stT (cs xs ys : Nat → Int32) (t : Nat) : Bool := stM xs ys (cn cs (3 * t + 0)) && stM xs ys (cn cs (3 * t + 1)) && stM xs ys (cn cs (3 * t + 2))
def kd (cs xs ys : Nat → Int32) (t : Nat) : Nat := if 0 < aIn cs xs ys t 0 ∧ 0 < aIn cs xs ys t 1 then (if stT cs xs ys t then 2 else 1) else if aIn cs xs ys t 0 = 0 ∨ aIn cs xs ys t 1 = 0 then 3 else 4
def ofK (own k : Nat) : Bool := decide (k = 0) || decide (k = own) || (decide (k = 1) && decide (own = 2))
/-- a loop that looks for the first yes -/
def anyF (f : Nat → Bool) : Nat → Nat → Bool
  | _, 0 => false
  | k, r + 1 => if f k then true else anyF f (k + 1) r
/-- a loop that counts -/
def cntF (f : Nat → Bool) : Nat → Nat → Nat → Nat
  | a, _, 0 => a
  | a, k, r + 1 => cntF f (if f k then a + 1 else a) (k + 1) r
/-- the first tick at which it isn't upright -/
def fTk (u : Nat → Bool) : Nat → Nat → Int32
  | _, 0 => -1000000
  | k, r + 1 => if u k then fTk u (k + 1) r else nI k
def ffI (u : Nat → Bool) : Nat → Nat → Option Nat
  | _, 0 => none
  | t, r + 1 => if u t then ffI u (t + 1) r else some t
def ffO (u : Nat → Nat → Bool) (tn : Nat) : Nat → Nat → Int32
  | _, 0 => -1000000
  | k, r + 1 => match ffI (u k) 0 tn with
    | some t => nI t
    | none => ffO u tn (k + 1) r
theorem cntF_le (f : Nat → Bool) : ∀ (r a k : Nat), cntF f a k r ≤ a + r
  | 0, a, _ => Nat.le_refl a
  | r + 1, a, k => by
    have h := cntF_le f r (if f k then a + 1 else a) (k + 1)
    simp only [cntF]
    split at h <;> simp_all <;> omega
end
section
set_option maxHeartbeats 4000000 in
set_option maxRecDepth 100000 in
theorem c_X8_isWithin (l : Launch) (D : va_G) (cI : ClassId) (v0 : Int32) (lo : Int32) (hi : Int32) : CR l yX8_isWithin (wm yX8_isWithin cX8_isWithin 3 (some .boolean)) 0 0 D cI [.int v0, .int lo, .int hi] [] (some (.int (bz (inR v0 lo hi)))) := by
  refine CR.of (by decide) (Nat.le_of_ble_eq_true rfl) ?_
  intro p e s m below meth c hx hb hr hml hown hlocks hta hP hD hK ls hl
  have hl : lv_has ls 3 [(0, .int v0), (1, .int lo), (2, .int hi)] := hl
  have hP : va_P D vwCl [] s.heap := hP
  refine lv_iload_n hx hb dX8_isWithin_0 rfl (lv_at hl 0 rfl) ?_
  refine lv_iload_n hx hb dX8_isWithin_1 rfl (lv_at hl 1 rfl) ?_
  refine icmpI_lt (tgt := 14) hx hb dX8_isWithin_2 (by decide) (fun c_2 => ?_) (fun c_2 => ?_)
  · refine lv_iconst (v := nI 0) hx hb dX8_isWithin_14 (by decide) ?_
    exact rRz hx hb hr hlocks dX8_isWithin_15 (by first | (simp only [inR, eq_true c_2, decide_true, decide_false, Bool.true_or, Bool.or_true, Bool.false_or, Bool.or_false, Bool.true_and, Bool.and_true, Bool.false_and, Bool.and_false, Bool.not_true, Bool.not_false, if_true, if_false, Bool.false_eq_true, and_true, true_and, and_false, false_and, or_true, true_or, or_false, false_or, not_true_eq_false, not_false_eq_true, bz]; done) | (simp only [inR, eq_true c_2, decide_true, decide_false, Bool.true_or, Bool.or_true, Bool.false_or, Bool.or_false, Bool.true_and, Bool.and_true, Bool.false_and, Bool.and_false, Bool.not_true, Bool.not_false, if_true, if_false, Bool.false_eq_true, and_true, true_and, and_false, false_and, or_true, true_or, or_false, false_or, not_true_eq_false, not_false_eq_true, bz]; rfl))
  · refine lv_iload_n hx hb dX8_isWithin_5 rfl (lv_at hl 0 rfl) ?_
    refine lv_iload_n hx hb dX8_isWithin_6 rfl (lv_at hl 2 rfl) ?_
    refine icmpI_gt (tgt := 14) hx hb dX8_isWithin_7 (by decide) (fun c_7 => ?_) (fun c_7 => ?_)
    · refine lv_iconst (v := nI 0) hx hb dX8_isWithin_14 (by decide) ?_
      exact rRz hx hb hr hlocks dX8_isWithin_15 (by first | (simp only [inR, eq_false c_2, eq_true c_7, decide_true, decide_false, Bool.true_or, Bool.or_true, Bool.false_or, Bool.or_false, Bool.true_and, Bool.and_true, Bool.false_and, Bool.and_false, Bool.not_true, Bool.not_false, if_true, if_false, Bool.false_eq_true, and_true, true_and, and_false, false_and, or_true, true_or, or_false, false_or, not_true_eq_false, not_false_eq_true, bz]; done) | (simp only [inR, eq_false c_2, eq_true c_7, decide_true, decide_false, Bool.true_or, Bool.or_true, Bool.false_or, Bool.or_false, Bool.true_and, Bool.and_true, Bool.false_and, Bool.and_false, Bool.not_true, Bool.not_false, if_true, if_false, Bool.false_eq_true, and_true, true_and, and_false, false_and, or_true, true_or, or_false, false_or, not_true_eq_false, not_false_eq_true, bz]; rfl))
    · refine lv_iconst (v := nI 1) hx hb dX8_isWithin_10 (by decide) ?_
      refine lv_goto (tgt := 15) hx hb dX8_isWithin_11 (by decide) ?_
      exact rRz hx hb hr hlocks dX8_isWithin_15 (by first | (simp only [inR, eq_false c_2, eq_false c_7, decide_true, decide_false, Bool.true_or, Bool.or_true, Bool.false_or, Bool.or_false, Bool.true_and, Bool.and_true, Bool.false_and, Bool.and_false, Bool.not_true, Bool.not_false, if_true, if_false, Bool.false_eq_true, and_true, true_and, and_false, false_and, or_true, true_or, or_false, false_or, not_true_eq_false, not_false_eq_true, bz]; done) | (simp only [inR, eq_false c_2, eq_false c_7, decide_true, decide_false, Bool.true_or, Bool.or_true, Bool.false_or, Bool.or_false, Bool.true_and, Bool.and_true, Bool.false_and, Bool.and_false, Bool.not_true, Bool.not_false, if_true, if_false, Bool.false_eq_true, and_true, true_and, and_false, false_and, or_true, true_or, or_false, false_or, not_true_eq_false, not_false_eq_true, bz]; rfl))
theorem kn_X8_isWithin {p : Program} {l : Launch} {e : Env} {R : Room} {s : State} {m : MethodId} {args : Array Value} {below : List Frame} {meth : Method} {c : Code} {H : Heap} {locs : List Loc} {cells slots : Nat} {Q : State → Prop} {pc : Nat} {ls : Array Slot} {rest : List Value} {cc : ByteArray} {nL index : Nat} {own : String} {D : va_G} {cI : ClassId} (v0 : Int32) (lo : Int32) (hi : Int32) (S : CallFix p m c cc nL s args WA own) (hl : va_Nw (.methodLinkNest own index yX8_isWithin RX8) s) (hR : 0 + 1 ≤ R.frames ∧ 8 + (3 + 11) + 0 ≤ R.locals) (hK : KB D cI s) (hsz : ls.size = nL) (hW : (rest.map fun v => v.category).sum ≤ 8) (hdg : decode cc pc = .ok (.invokestatic index, 3)) (hcel : cells ≤ R.cells ∧ slots ≤ R.slots) (kk : W p l e R s m args below meth c H locs cells slots Q (F0 m (pc + 3) ls (.int (bz (inR v0 lo hi)) :: rest))) : W p l e R s m args below meth c H locs cells slots Q (F0 m pc ls (.int hi :: .int lo :: .int v0 :: rest)) :=
  kRSN (n := 3) (As := [.int v0, .int lo, .int hi]) S (c_X8_isWithin l D cI v0 lo hi ) hl mw257 mw256 mw40 (by decide +kernel) hR rfl hK hsz hW hdg hcel kk
theorem k_X8_isWithin {p : Program} {l : Launch} {e : Env} {R : Room} {s : State} {m : MethodId} {args : Array Value} {below : List Frame} {meth : Method} {c : Code} {H : Heap} {locs : List Loc} {cells slots : Nat} {Q : State → Prop} {pc : Nat} {ls : Array Slot} {rest : List Value} {cc : ByteArray} {nL index Wd : Nat} {own : String} {D : va_G} {cI : ClassId} (v0 : Int32) (lo : Int32) (hi : Int32) (S : CallFix p m c cc nL s args WA own) (hl : Cond.methodLink own index yX8_isWithin ∈ WA) (hR : 0 + 1 ≤ R.frames ∧ Wd + (3 + 11) + 0 ≤ R.locals) (hK : KB D cI s) (hsz : ls.size = nL) (hW : (rest.map fun v => v.category).sum ≤ Wd) (hdg : decode cc pc = .ok (.invokestatic index, 3)) (hcel : cells ≤ R.cells ∧ slots ≤ R.slots) (kk : W p l e R s m args below meth c H locs cells slots Q (F0 m (pc + 3) ls (.int (bz (inR v0 lo hi)) :: rest))) : W p l e R s m args below meth c H locs cells slots Q (F0 m pc ls (.int hi :: .int lo :: .int v0 :: rest)) :=
  kRS (n := 3) (As := [.int v0, .int lo, .int hi]) S (c_X8_isWithin l D cI v0 lo hi ) hl mw257 mw256 mw40 (by decide +kernel) hR rfl hK hsz hW hdg hcel kk

set_option maxHeartbeats 4000000 in
set_option maxRecDepth 100000 in
theorem c_X8_isPlace (l : Launch) (D : va_G) (cI : ClassId) (x0 : Int32) (y0 : Int32) : CR l yX8_isPlace (wm yX8_isPlace cX8_isPlace 2 (some .boolean)) 1 14 D cI [.int x0, .int y0] [] (some (.int (bz (inR x0 (nI 0) (nI 1000) && inR y0 (nI 0) (nI 1000))))) := by
  refine CR.of (by decide) (Nat.le_of_ble_eq_true rfl) ?_
  intro p e s m below meth c hx hb hr hml hown hlocks hta hP hD hK ls hl
  have hl : lv_has ls 2 [(0, .int x0), (1, .int y0)] := hl
  have hP : va_P D vwCl [] s.heap := hP
  refine lv_iload_n hx hb dX8_isPlace_0 rfl (lv_at hl 0 rfl) ?_
  refine lv_iconst (v := nI 0) hx hb dX8_isPlace_1 (by decide) ?_
  refine lv_sipush (v := nI 1000) hx hb dX8_isPlace_2 (by decide) ?_
  refine k_X8_isWithin (Wd := 0) x0 (nI 0) (nI 1000)  ⟨hx, hb, hml, hown, hta⟩ mw328 ⟨Nat.le_of_ble_eq_true rfl, Nat.le_of_ble_eq_true rfl⟩ hK hl.1 (Nat.le_of_ble_eq_true rfl) dX8_isPlace_5 ⟨Nat.le_of_ble_eq_true rfl, Nat.le_of_ble_eq_true rfl⟩ ?_
  refine ifB_eq (tgt := 26) hx hb dX8_isPlace_8 (by decide) (fun c_8 => ?_) (fun c_8 => ?_)
  · refine lv_iconst (v := nI 0) hx hb dX8_isPlace_26 (by decide) ?_
    exact rRz hx hb hr hlocks dX8_isPlace_27 (by first | (simp only [bz, c_8, decide_true, decide_false, Bool.true_or, Bool.or_true, Bool.false_or, Bool.or_false, Bool.true_and, Bool.and_true, Bool.false_and, Bool.and_false, Bool.not_true, Bool.not_false, if_true, if_false, Bool.false_eq_true, and_true, true_and, and_false, false_and, or_true, true_or, or_false, false_or, not_true_eq_false, not_false_eq_true, bz]; done) | (simp only [bz, c_8, decide_true, decide_false, Bool.true_or, Bool.or_true, Bool.false_or, Bool.or_false, Bool.true_and, Bool.and_true, Bool.false_and, Bool.and_false, Bool.not_true, Bool.not_false, if_true, if_false, Bool.false_eq_true, and_true, true_and, and_false, false_and, or_true, true_or, or_false, false_or, not_true_eq_false, not_false_eq_true, bz]; rfl))
  · refine lv_iload_n hx hb dX8_isPlace_11 rfl (lv_at hl 1 rfl) ?_
    refine lv_iconst (v := nI 0) hx hb dX8_isPlace_12 (by decide) ?_
    refine lv_sipush (v := nI 1000) hx hb dX8_isPlace_13 (by decide) ?_
    refine k_X8_isWithin (Wd := 0) y0 (nI 0) (nI 1000)  ⟨hx, hb, hml, hown, hta⟩ mw328 ⟨Nat.le_of_ble_eq_true rfl, Nat.le_of_ble_eq_true rfl⟩ hK hl.1 (Nat.le_of_ble_eq_true rfl) dX8_isPlace_16 ⟨Nat.le_of_ble_eq_true rfl, Nat.le_of_ble_eq_true rfl⟩ ?_
    refine ifB_eq (tgt := 26) hx hb dX8_isPlace_19 (by decide) (fun c_19 => ?_) (fun c_19 => ?_)
    · refine lv_iconst (v := nI 0) hx hb dX8_isPlace_26 (by decide) ?_
      exact rRz hx hb hr hlocks dX8_isPlace_27 (by first | (simp only [bz, c_8, c_19, decide_true, decide_false, Bool.true_or, Bool.or_true, Bool.false_or, Bool.or_false, Bool.true_and, Bool.and_true, Bool.false_and, Bool.and_false, Bool.not_true, Bool.not_false, if_true, if_false, Bool.false_eq_true, and_true, true_and, and_false, false_and, or_true, true_or, or_false, false_or, not_true_eq_false, not_false_eq_true, bz]; done) | (simp only [bz, c_8, c_19, decide_true, decide_false, Bool.true_or, Bool.or_true, Bool.false_or, Bool.or_false, Bool.true_and, Bool.and_true, Bool.false_and, Bool.and_false, Bool.not_true, Bool.not_false, if_true, if_false, Bool.false_eq_true, and_true, true_and, and_false, false_and, or_true, true_or, or_false, false_or, not_true_eq_false, not_false_eq_true, bz]; rfl))
    · refine lv_iconst (v := nI 1) hx hb dX8_isPlace_22 (by decide) ?_
      refine lv_goto (tgt := 27) hx hb dX8_isPlace_23 (by decide) ?_
      exact rRz hx hb hr hlocks dX8_isPlace_27 (by first | (simp only [bz, c_8, c_19, decide_true, decide_false, Bool.true_or, Bool.or_true, Bool.false_or, Bool.or_false, Bool.true_and, Bool.and_true, Bool.false_and, Bool.and_false, Bool.not_true, Bool.not_false, if_true, if_false, Bool.false_eq_true, and_true, true_and, and_false, false_and, or_true, true_or, or_false, false_or, not_true_eq_false, not_false_eq_true, bz]; done) | (simp only [bz, c_8, c_19, decide_true, decide_false, Bool.true_or, Bool.or_true, Bool.false_or, Bool.or_false, Bool.true_and, Bool.and_true, Bool.false_and, Bool.and_false, Bool.not_true, Bool.not_false, if_true, if_false, Bool.false_eq_true, and_true, true_and, and_false, false_and, or_true, true_or, or_false, false_or, not_true_eq_false, not_false_eq_true, bz]; rfl))
theorem k_X8_isPlace {p : Program} {l : Launch} {e : Env} {R : Room} {s : State} {m : MethodId} {args : Array Value} {below : List Frame} {meth : Method} {c : Code} {H : Heap} {locs : List Loc} {cells slots : Nat} {Q : State → Prop} {pc : Nat} {ls : Array Slot} {rest : List Value} {cc : ByteArray} {nL index Wd : Nat} {own : String} {D : va_G} {cI : ClassId} (x0 : Int32) (y0 : Int32) (S : CallFix p m c cc nL s args WA own) (hl : Cond.methodLink own index yX8_isPlace ∈ WA) (hR : 1 + 1 ≤ R.frames ∧ Wd + (2 + 11) + 14 ≤ R.locals) (hK : KB D cI s) (hsz : ls.size = nL) (hW : (rest.map fun v => v.category).sum ≤ Wd) (hdg : decode cc pc = .ok (.invokestatic index, 3)) (hcel : cells ≤ R.cells ∧ slots ≤ R.slots) (kk : W p l e R s m args below meth c H locs cells slots Q (F0 m (pc + 3) ls (.int (bz (inR x0 (nI 0) (nI 1000) && inR y0 (nI 0) (nI 1000))) :: rest))) : W p l e R s m args below meth c H locs cells slots Q (F0 m pc ls (.int y0 :: .int x0 :: rest)) :=
  kRS (n := 2) (As := [.int x0, .int y0]) S (c_X8_isPlace l D cI x0 y0 ) hl mw327 mw326 mw40 (by decide +kernel) hR rfl hK hsz hW hdg hcel kk

set_option maxHeartbeats 4000000 in
set_option maxRecDepth 100000 in
theorem c_X8_isPicture (l : Launch) (D : va_G) (cI : ClassId) (q0 : Int32) : CR l yX8_isPicture (wm yX8_isPicture cX8_isPicture 1 (some .boolean)) 1 14 D cI [.int q0] [] (some (.int (bz (inR q0 (nI 0) (nI 1))))) := by
  refine CR.of (by decide) (Nat.le_of_ble_eq_true rfl) ?_
  intro p e s m below meth c hx hb hr hml hown hlocks hta hP hD hK ls hl
  have hl : lv_has ls 1 [(0, .int q0)] := hl
  have hP : va_P D vwCl [] s.heap := hP
  refine lv_iload_n hx hb dX8_isPicture_0 rfl (lv_at hl 0 rfl) ?_
  refine lv_iconst (v := nI 0) hx hb dX8_isPicture_1 (by decide) ?_
  refine lv_iconst (v := nI 1) hx hb dX8_isPicture_2 (by decide) ?_
  refine k_X8_isWithin (Wd := 0) q0 (nI 0) (nI 1)  ⟨hx, hb, hml, hown, hta⟩ mw328 ⟨Nat.le_of_ble_eq_true rfl, Nat.le_of_ble_eq_true rfl⟩ hK hl.1 (Nat.le_of_ble_eq_true rfl) dX8_isPicture_3 ⟨Nat.le_of_ble_eq_true rfl, Nat.le_of_ble_eq_true rfl⟩ ?_
  exact rRz hx hb hr hlocks dX8_isPicture_6 rfl
theorem k_X8_isPicture {p : Program} {l : Launch} {e : Env} {R : Room} {s : State} {m : MethodId} {args : Array Value} {below : List Frame} {meth : Method} {c : Code} {H : Heap} {locs : List Loc} {cells slots : Nat} {Q : State → Prop} {pc : Nat} {ls : Array Slot} {rest : List Value} {cc : ByteArray} {nL index Wd : Nat} {own : String} {D : va_G} {cI : ClassId} (q0 : Int32) (S : CallFix p m c cc nL s args WA own) (hl : Cond.methodLink own index yX8_isPicture ∈ WA) (hR : 1 + 1 ≤ R.frames ∧ Wd + (1 + 11) + 14 ≤ R.locals) (hK : KB D cI s) (hsz : ls.size = nL) (hW : (rest.map fun v => v.category).sum ≤ Wd) (hdg : decode cc pc = .ok (.invokestatic index, 3)) (hcel : cells ≤ R.cells ∧ slots ≤ R.slots) (kk : W p l e R s m args below meth c H locs cells slots Q (F0 m (pc + 3) ls (.int (bz (inR q0 (nI 0) (nI 1))) :: rest))) : W p l e R s m args below meth c H locs cells slots Q (F0 m pc ls (.int q0 :: rest)) :=
  kRS (n := 1) (As := [.int q0]) S (c_X8_isPicture l D cI q0 ) hl mw352 mw351 mw40 (by decide +kernel) hR rfl hK hsz hW hdg hcel kk

set_option maxHeartbeats 4000000 in
set_option maxRecDepth 100000 in
theorem c_X8_isTicks (l : Launch) (D : va_G) (cI : ClassId) (n0 : Int32) : CR l yX8_isTicks (wm yX8_isTicks cX8_isTicks 1 (some .boolean)) 1 14 D cI [.int n0] [] (some (.int (bz (inR n0 (nI 1) (nI 100))))) := by
  refine CR.of (by decide) (Nat.le_of_ble_eq_true rfl) ?_
  intro p e s m below meth c hx hb hr hml hown hlocks hta hP hD hK ls hl
  have hl : lv_has ls 1 [(0, .int n0)] := hl
  have hP : va_P D vwCl [] s.heap := hP
  refine lv_iload_n hx hb dX8_isTicks_0 rfl (lv_at hl 0 rfl) ?_
  refine lv_iconst (v := nI 1) hx hb dX8_isTicks_1 (by decide) ?_
  refine lv_bipush (v := nI 100) hx hb dX8_isTicks_2 (by decide) ?_
  refine k_X8_isWithin (Wd := 0) n0 (nI 1) (nI 100)  ⟨hx, hb, hml, hown, hta⟩ mw328 ⟨Nat.le_of_ble_eq_true rfl, Nat.le_of_ble_eq_true rfl⟩ hK hl.1 (Nat.le_of_ble_eq_true rfl) dX8_isTicks_4 ⟨Nat.le_of_ble_eq_true rfl, Nat.le_of_ble_eq_true rfl⟩ ?_
  exact rRz hx hb hr hlocks dX8_isTicks_7 rfl
theorem k_X8_isTicks {p : Program} {l : Launch} {e : Env} {R : Room} {s : State} {m : MethodId} {args : Array Value} {below : List Frame} {meth : Method} {c : Code} {H : Heap} {locs : List Loc} {cells slots : Nat} {Q : State → Prop} {pc : Nat} {ls : Array Slot} {rest : List Value} {cc : ByteArray} {nL index Wd : Nat} {own : String} {D : va_G} {cI : ClassId} (n0 : Int32) (S : CallFix p m c cc nL s args WA own) (hl : Cond.methodLink own index yX8_isTicks ∈ WA) (hR : 1 + 1 ≤ R.frames ∧ Wd + (1 + 11) + 14 ≤ R.locals) (hK : KB D cI s) (hsz : ls.size = nL) (hW : (rest.map fun v => v.category).sum ≤ Wd) (hdg : decode cc pc = .ok (.invokestatic index, 3)) (hcel : cells ≤ R.cells ∧ slots ≤ R.slots) (kk : W p l e R s m args below meth c H locs cells slots Q (F0 m (pc + 3) ls (.int (bz (inR n0 (nI 1) (nI 100))) :: rest))) : W p l e R s m args below meth c H locs cells slots Q (F0 m pc ls (.int n0 :: rest)) :=
  kRS (n := 1) (As := [.int n0]) S (c_X8_isTicks l D cI n0 ) hl mw363 mw362 mw40 (by decide +kernel) hR rfl hK hsz hW hdg hcel kk

set_option maxHeartbeats 4000000 in
set_option maxRecDepth 100000 in
theorem c_X8_isTick (l : Launch) (D : va_G) (cI : ClassId) (k0 : Int32) (n0 : Int32) : CR l yX8_isTick (wm yX8_isTick cX8_isTick 2 (some .boolean)) 2 26 D cI [.int k0, .int n0] [] (some (.int (bz (inR n0 (nI 1) (nI 100) && inR k0 (nI 0) n0)))) := by
  refine CR.of (by decide) (Nat.le_of_ble_eq_true rfl) ?_
  intro p e s m below meth c hx hb hr hml hown hlocks hta hP hD hK ls hl
  have hl : lv_has ls 2 [(0, .int k0), (1, .int n0)] := hl
  have hP : va_P D vwCl [] s.heap := hP
  refine lv_iload_n hx hb dX8_isTick_0 rfl (lv_at hl 1 rfl) ?_
  refine k_X8_isTicks (Wd := 0) n0  ⟨hx, hb, hml, hown, hta⟩ mw361 ⟨Nat.le_of_ble_eq_true rfl, Nat.le_of_ble_eq_true rfl⟩ hK hl.1 (Nat.le_of_ble_eq_true rfl) dX8_isTick_1 ⟨Nat.le_of_ble_eq_true rfl, Nat.le_of_ble_eq_true rfl⟩ ?_
  refine ifB_eq (tgt := 20) hx hb dX8_isTick_4 (by decide) (fun c_4 => ?_) (fun c_4 => ?_)
  · refine lv_iconst (v := nI 0) hx hb dX8_isTick_20 (by decide) ?_
    exact rRz hx hb hr hlocks dX8_isTick_21 (by first | (simp only [bz, c_4, decide_true, decide_false, Bool.true_or, Bool.or_true, Bool.false_or, Bool.or_false, Bool.true_and, Bool.and_true, Bool.false_and, Bool.and_false, Bool.not_true, Bool.not_false, if_true, if_false, Bool.false_eq_true, and_true, true_and, and_false, false_and, or_true, true_or, or_false, false_or, not_true_eq_false, not_false_eq_true, bz]; done) | (simp only [bz, c_4, decide_true, decide_false, Bool.true_or, Bool.or_true, Bool.false_or, Bool.or_false, Bool.true_and, Bool.and_true, Bool.false_and, Bool.and_false, Bool.not_true, Bool.not_false, if_true, if_false, Bool.false_eq_true, and_true, true_and, and_false, false_and, or_true, true_or, or_false, false_or, not_true_eq_false, not_false_eq_true, bz]; rfl))
  · refine lv_iload_n hx hb dX8_isTick_7 rfl (lv_at hl 0 rfl) ?_
    refine lv_iconst (v := nI 0) hx hb dX8_isTick_8 (by decide) ?_
    refine lv_iload_n hx hb dX8_isTick_9 rfl (lv_at hl 1 rfl) ?_
    refine k_X8_isWithin (Wd := 0) k0 (nI 0) n0  ⟨hx, hb, hml, hown, hta⟩ mw328 ⟨Nat.le_of_ble_eq_true rfl, Nat.le_of_ble_eq_true rfl⟩ hK hl.1 (Nat.le_of_ble_eq_true rfl) dX8_isTick_10 ⟨Nat.le_of_ble_eq_true rfl, Nat.le_of_ble_eq_true rfl⟩ ?_
    refine ifB_eq (tgt := 20) hx hb dX8_isTick_13 (by decide) (fun c_13 => ?_) (fun c_13 => ?_)
    · refine lv_iconst (v := nI 0) hx hb dX8_isTick_20 (by decide) ?_
      exact rRz hx hb hr hlocks dX8_isTick_21 (by first | (simp only [bz, c_4, c_13, decide_true, decide_false, Bool.true_or, Bool.or_true, Bool.false_or, Bool.or_false, Bool.true_and, Bool.and_true, Bool.false_and, Bool.and_false, Bool.not_true, Bool.not_false, if_true, if_false, Bool.false_eq_true, and_true, true_and, and_false, false_and, or_true, true_or, or_false, false_or, not_true_eq_false, not_false_eq_true, bz]; done) | (simp only [bz, c_4, c_13, decide_true, decide_false, Bool.true_or, Bool.or_true, Bool.false_or, Bool.or_false, Bool.true_and, Bool.and_true, Bool.false_and, Bool.and_false, Bool.not_true, Bool.not_false, if_true, if_false, Bool.false_eq_true, and_true, true_and, and_false, false_and, or_true, true_or, or_false, false_or, not_true_eq_false, not_false_eq_true, bz]; rfl))
    · refine lv_iconst (v := nI 1) hx hb dX8_isTick_16 (by decide) ?_
      refine lv_goto (tgt := 21) hx hb dX8_isTick_17 (by decide) ?_
      exact rRz hx hb hr hlocks dX8_isTick_21 (by first | (simp only [bz, c_4, c_13, decide_true, decide_false, Bool.true_or, Bool.or_true, Bool.false_or, Bool.or_false, Bool.true_and, Bool.and_true, Bool.false_and, Bool.and_false, Bool.not_true, Bool.not_false, if_true, if_false, Bool.false_eq_true, and_true, true_and, and_false, false_and, or_true, true_or, or_false, false_or, not_true_eq_false, not_false_eq_true, bz]; done) | (simp only [bz, c_4, c_13, decide_true, decide_false, Bool.true_or, Bool.or_true, Bool.false_or, Bool.or_false, Bool.true_and, Bool.and_true, Bool.false_and, Bool.and_false, Bool.not_true, Bool.not_false, if_true, if_false, Bool.false_eq_true, and_true, true_and, and_false, false_and, or_true, true_or, or_false, false_or, not_true_eq_false, not_false_eq_true, bz]; rfl))
theorem k_X8_isTick {p : Program} {l : Launch} {e : Env} {R : Room} {s : State} {m : MethodId} {args : Array Value} {below : List Frame} {meth : Method} {c : Code} {H : Heap} {locs : List Loc} {cells slots : Nat} {Q : State → Prop} {pc : Nat} {ls : Array Slot} {rest : List Value} {cc : ByteArray} {nL index Wd : Nat} {own : String} {D : va_G} {cI : ClassId} (k0 : Int32) (n0 : Int32) (S : CallFix p m c cc nL s args WA own) (hl : Cond.methodLink own index yX8_isTick ∈ WA) (hR : 2 + 1 ≤ R.frames ∧ Wd + (2 + 11) + 26 ≤ R.locals) (hK : KB D cI s) (hsz : ls.size = nL) (hW : (rest.map fun v => v.category).sum ≤ Wd) (hdg : decode cc pc = .ok (.invokestatic index, 3)) (hcel : cells ≤ R.cells ∧ slots ≤ R.slots) (kk : W p l e R s m args below meth c H locs cells slots Q (F0 m (pc + 3) ls (.int (bz (inR n0 (nI 1) (nI 100) && inR k0 (nI 0) n0)) :: rest))) : W p l e R s m args below meth c H locs cells slots Q (F0 m pc ls (.int n0 :: .int k0 :: rest)) :=
  kRS (n := 2) (As := [.int k0, .int n0]) S (c_X8_isTick l D cI k0 n0 ) hl mw360 mw359 mw40 (by decide +kernel) hR rfl hK hsz hW hdg hcel kk

set_option maxHeartbeats 4000000 in
set_option maxRecDepth 100000 in
theorem c_X3_many (l : Launch) (D : va_G) (cI : ClassId) (mk : Nat) (mx : Nat) (my : Nat) (mn : Nat) (xs : Nat → Int32) (ys : Nat → Int32) : CR l yX3_many (wm yX3_many cX3_many 1 (some .int)) 0 0 D cI [.ref mk] [(mk, .inr (3, [.int (nI mn), .ref mx, .ref my])), (mx, .inl (cI, 32, .inl xs)), (my, .inl (cI, 32, .inl ys))] (some (.int (nI mn))) := by
  refine CR.of (by decide) (Nat.le_of_ble_eq_true rfl) ?_
  intro p e s m below meth c hx hb hr hml hown hlocks hta hP hD hK ls hl
  have hl : lv_has ls 1 [(0, .ref mk)] := hl
  have hP : va_P D vwCl [(mk, .inr (3, [.int (nI mn), .ref mx, .ref my])), (mx, .inl (cI, 32, .inl xs)), (my, .inl (cI, 32, .inl ys))] s.heap := hP
  refine lv_aload_n hx hb dX3_many_0 rfl (lv_at hl 0 rfl) ?_
  refine getX hx hb hta inA3 hown hK hP 0 rfl rfl 0 (by decide) mw83 rfl rfl dX3_many_1 ?_
  exact rRi hx hb hr hlocks dX3_many_4 rfl
theorem k_X3_many {p : Program} {l : Launch} {e : Env} {R : Room} {s : State} {m : MethodId} {args : Array Value} {below : List Frame} {meth : Method} {c : Code} {H : Heap} {locs : List Loc} {cells slots : Nat} {Q : State → Prop} {pc : Nat} {ls : Array Slot} {rest : List Value} {cc : ByteArray} {nL index Wd : Nat} {own : String} {D : va_G} {cI : ClassId} {A : Nat → Prop} {ws : va_W} (mk : Nat) (mx : Nat) (my : Nat) (mn : Nat) (xs : Nat → Int32) (ys : Nat → Int32) (S : CallFix p m c cc nL s args WA own) (hl : Cond.methodLink own index yX3_many ∈ WA) (hR : 0 + 1 ≤ R.frames ∧ Wd + (1 + 11) + 0 ≤ R.locals) (hK : KB D cI s) (hP : va_P D vwCl ws H) (hD : va_D A ws) (is : List Nat) (hs : is.map (fun i => ws[i]?) = ([(mk, .inr (3, [.int (nI mn), .ref mx, .ref my])), (mx, .inl (cI, 32, .inl xs)), (my, .inl (cI, 32, .inl ys))] : va_W).map some) (hnd : va_nd is = true) (hsz : ls.size = nL) (hW : (rest.map fun v => v.category).sum ≤ Wd) (hdg : decode cc pc = .ok (.invokevirtual index, 3)) (hcel : cells ≤ R.cells ∧ slots ≤ R.slots) (kk : W p l e R s m args below meth c H locs cells slots Q (F0 m (pc + 3) ls (.int (nI mn) :: rest))) : W p l e R s m args below meth c H locs cells slots Q (F0 m pc ls (.ref mk :: rest)) :=
  kRV (n := 0) (As := []) (ci := 3) S (c_X3_many l D cI mk mx my mn xs ys ) hl mw462 mw460 mw461 mw42 (by decide +kernel) hR rfl rfl rfl rfl hK hP hD is hs hnd hsz hW hdg hcel kk

set_option maxHeartbeats 4000000 in
set_option maxRecDepth 100000 in
theorem c_X3_isFull (l : Launch) (D : va_G) (cI : ClassId) (mk : Nat) (mx : Nat) (my : Nat) (mn : Nat) (xs : Nat → Int32) (ys : Nat → Int32) (hmn : mn ≤ 16) : CR l yX3_isFull (wm yX3_isFull cX3_isFull 1 (some .boolean)) 0 0 D cI [.ref mk] [(mk, .inr (3, [.int (nI mn), .ref mx, .ref my])), (mx, .inl (cI, 32, .inl xs)), (my, .inl (cI, 32, .inl ys))] (some (.int (bz (!decide (mn < 16))))) := by
  refine CR.of (by decide) (Nat.le_of_ble_eq_true rfl) ?_
  intro p e s m below meth c hx hb hr hml hown hlocks hta hP hD hK ls hl
  have hl : lv_has ls 1 [(0, .ref mk)] := hl
  have hP : va_P D vwCl [(mk, .inr (3, [.int (nI mn), .ref mx, .ref my])), (mx, .inl (cI, 32, .inl xs)), (my, .inl (cI, 32, .inl ys))] s.heap := hP
  refine lv_aload_n hx hb dX3_isFull_0 rfl (lv_at hl 0 rfl) ?_
  refine getX hx hb hta inA3 hown hK hP 0 rfl rfl 0 (by decide) mw83 rfl rfl dX3_isFull_1 ?_
  refine lv_bipush (v := nI 16) hx hb dX3_isFull_4 (by decide) ?_
  refine icmpN_lt (tgt := 13) hx hb dX3_isFull_6 (by decide) (by omega) (by omega) (fun c_6 => ?_) (fun c_6 => ?_)
  · refine lv_iconst (v := nI 0) hx hb dX3_isFull_13 (by decide) ?_
    exact rRz hx hb hr hlocks dX3_isFull_14 (by first | (simp only [bz, eq_true c_6, decide_true, decide_false, Bool.true_or, Bool.or_true, Bool.false_or, Bool.or_false, Bool.true_and, Bool.and_true, Bool.false_and, Bool.and_false, Bool.not_true, Bool.not_false, if_true, if_false, Bool.false_eq_true, and_true, true_and, and_false, false_and, or_true, true_or, or_false, false_or, not_true_eq_false, not_false_eq_true, bz]; done) | (simp only [bz, eq_true c_6, decide_true, decide_false, Bool.true_or, Bool.or_true, Bool.false_or, Bool.or_false, Bool.true_and, Bool.and_true, Bool.false_and, Bool.and_false, Bool.not_true, Bool.not_false, if_true, if_false, Bool.false_eq_true, and_true, true_and, and_false, false_and, or_true, true_or, or_false, false_or, not_true_eq_false, not_false_eq_true, bz]; rfl))
  · refine lv_iconst (v := nI 1) hx hb dX3_isFull_9 (by decide) ?_
    refine lv_goto (tgt := 14) hx hb dX3_isFull_10 (by decide) ?_
    exact rRz hx hb hr hlocks dX3_isFull_14 (by first | (simp only [bz, eq_false c_6, decide_true, decide_false, Bool.true_or, Bool.or_true, Bool.false_or, Bool.or_false, Bool.true_and, Bool.and_true, Bool.false_and, Bool.and_false, Bool.not_true, Bool.not_false, if_true, if_false, Bool.false_eq_true, and_true, true_and, and_false, false_and, or_true, true_or, or_false, false_or, not_true_eq_false, not_false_eq_true, bz]; done) | (simp only [bz, eq_false c_6, decide_true, decide_false, Bool.true_or, Bool.or_true, Bool.false_or, Bool.or_false, Bool.true_and, Bool.and_true, Bool.false_and, Bool.and_false, Bool.not_true, Bool.not_false, if_true, if_false, Bool.false_eq_true, and_true, true_and, and_false, false_and, or_true, true_or, or_false, false_or, not_true_eq_false, not_false_eq_true, bz]; rfl))
theorem k_X3_isFull {p : Program} {l : Launch} {e : Env} {R : Room} {s : State} {m : MethodId} {args : Array Value} {below : List Frame} {meth : Method} {c : Code} {H : Heap} {locs : List Loc} {cells slots : Nat} {Q : State → Prop} {pc : Nat} {ls : Array Slot} {rest : List Value} {cc : ByteArray} {nL index Wd : Nat} {own : String} {D : va_G} {cI : ClassId} {A : Nat → Prop} {ws : va_W} (mk : Nat) (mx : Nat) (my : Nat) (mn : Nat) (xs : Nat → Int32) (ys : Nat → Int32) (hmn : mn ≤ 16) (S : CallFix p m c cc nL s args WA own) (hl : Cond.methodLink own index yX3_isFull ∈ WA) (hR : 0 + 1 ≤ R.frames ∧ Wd + (1 + 11) + 0 ≤ R.locals) (hK : KB D cI s) (hP : va_P D vwCl ws H) (hD : va_D A ws) (is : List Nat) (hs : is.map (fun i => ws[i]?) = ([(mk, .inr (3, [.int (nI mn), .ref mx, .ref my])), (mx, .inl (cI, 32, .inl xs)), (my, .inl (cI, 32, .inl ys))] : va_W).map some) (hnd : va_nd is = true) (hsz : ls.size = nL) (hW : (rest.map fun v => v.category).sum ≤ Wd) (hdg : decode cc pc = .ok (.invokevirtual index, 3)) (hcel : cells ≤ R.cells ∧ slots ≤ R.slots) (kk : W p l e R s m args below meth c H locs cells slots Q (F0 m (pc + 3) ls (.int (bz (!decide (mn < 16))) :: rest))) : W p l e R s m args below meth c H locs cells slots Q (F0 m pc ls (.ref mk :: rest)) :=
  kRV (n := 0) (As := []) (ci := 3) S (c_X3_isFull l D cI mk mx my mn xs ys hmn) hl mw332 mw330 mw331 mw42 (by decide +kernel) hR rfl rfl rfl rfl hK hP hD is hs hnd hsz hW hdg hcel kk

set_option maxHeartbeats 4000000 in
set_option maxRecDepth 100000 in
theorem c_X3_isMark (l : Launch) (D : va_G) (cI : ClassId) (mk : Nat) (mx : Nat) (my : Nat) (a0 : Int32) (mn : Nat) (xs : Nat → Int32) (ys : Nat → Int32) : CR l yX3_isMark (wm yX3_isMark cX3_isMark 2 (some .boolean)) 0 0 D cI [.ref mk, .int a0] [(mk, .inr (3, [.int (nI mn), .ref mx, .ref my])), (mx, .inl (cI, 32, .inl xs)), (my, .inl (cI, 32, .inl ys))] (some (.int (bz (inM a0 mn)))) := by
  refine CR.of (by decide) (Nat.le_of_ble_eq_true rfl) ?_
  intro p e s m below meth c hx hb hr hml hown hlocks hta hP hD hK ls hl
  have hl : lv_has ls 2 [(0, .ref mk), (1, .int a0)] := hl
  have hP : va_P D vwCl [(mk, .inr (3, [.int (nI mn), .ref mx, .ref my])), (mx, .inl (cI, 32, .inl xs)), (my, .inl (cI, 32, .inl ys))] s.heap := hP
  refine lv_iload_n hx hb dX3_isMark_0 rfl (lv_at hl 1 rfl) ?_
  refine ifI_lt (tgt := 16) hx hb dX3_isMark_1 (by decide) (fun c_1 => ?_) (fun c_1 => ?_)
  · refine lv_iconst (v := nI 0) hx hb dX3_isMark_16 (by decide) ?_
    exact rRz hx hb hr hlocks dX3_isMark_17 (by first | (simp only [inM, eq_true c_1, decide_true, decide_false, Bool.true_or, Bool.or_true, Bool.false_or, Bool.or_false, Bool.true_and, Bool.and_true, Bool.false_and, Bool.and_false, Bool.not_true, Bool.not_false, if_true, if_false, Bool.false_eq_true, and_true, true_and, and_false, false_and, or_true, true_or, or_false, false_or, not_true_eq_false, not_false_eq_true, bz]; done) | (simp only [inM, eq_true c_1, decide_true, decide_false, Bool.true_or, Bool.or_true, Bool.false_or, Bool.or_false, Bool.true_and, Bool.and_true, Bool.false_and, Bool.and_false, Bool.not_true, Bool.not_false, if_true, if_false, Bool.false_eq_true, and_true, true_and, and_false, false_and, or_true, true_or, or_false, false_or, not_true_eq_false, not_false_eq_true, bz]; rfl))
  · refine lv_iload_n hx hb dX3_isMark_4 rfl (lv_at hl 1 rfl) ?_
    refine lv_aload_n hx hb dX3_isMark_5 rfl (lv_at hl 0 rfl) ?_
    refine getX hx hb hta inA3 hown hK hP 0 rfl rfl 0 (by decide) mw83 rfl rfl dX3_isMark_6 ?_
    refine icmpI_ge (tgt := 16) hx hb dX3_isMark_9 (by decide) (fun c_9 => ?_) (fun c_9 => ?_)
    · refine lv_iconst (v := nI 0) hx hb dX3_isMark_16 (by decide) ?_
      exact rRz hx hb hr hlocks dX3_isMark_17 (by first | (simp only [inM, eq_false c_1, eq_false c_9, decide_true, decide_false, Bool.true_or, Bool.or_true, Bool.false_or, Bool.or_false, Bool.true_and, Bool.and_true, Bool.false_and, Bool.and_false, Bool.not_true, Bool.not_false, if_true, if_false, Bool.false_eq_true, and_true, true_and, and_false, false_and, or_true, true_or, or_false, false_or, not_true_eq_false, not_false_eq_true, bz]; done) | (simp only [inM, eq_false c_1, eq_false c_9, decide_true, decide_false, Bool.true_or, Bool.or_true, Bool.false_or, Bool.or_false, Bool.true_and, Bool.and_true, Bool.false_and, Bool.and_false, Bool.not_true, Bool.not_false, if_true, if_false, Bool.false_eq_true, and_true, true_and, and_false, false_and, or_true, true_or, or_false, false_or, not_true_eq_false, not_false_eq_true, bz]; rfl))
    · refine lv_iconst (v := nI 1) hx hb dX3_isMark_12 (by decide) ?_
      refine lv_goto (tgt := 17) hx hb dX3_isMark_13 (by decide) ?_
      exact rRz hx hb hr hlocks dX3_isMark_17 (by first | (simp only [inM, eq_false c_1, eq_true c_9, decide_true, decide_false, Bool.true_or, Bool.or_true, Bool.false_or, Bool.or_false, Bool.true_and, Bool.and_true, Bool.false_and, Bool.and_false, Bool.not_true, Bool.not_false, if_true, if_false, Bool.false_eq_true, and_true, true_and, and_false, false_and, or_true, true_or, or_false, false_or, not_true_eq_false, not_false_eq_true, bz]; done) | (simp only [inM, eq_false c_1, eq_true c_9, decide_true, decide_false, Bool.true_or, Bool.or_true, Bool.false_or, Bool.or_false, Bool.true_and, Bool.and_true, Bool.false_and, Bool.and_false, Bool.not_true, Bool.not_false, if_true, if_false, Bool.false_eq_true, and_true, true_and, and_false, false_and, or_true, true_or, or_false, false_or, not_true_eq_false, not_false_eq_true, bz]; rfl))
theorem k_X3_isMark {p : Program} {l : Launch} {e : Env} {R : Room} {s : State} {m : MethodId} {args : Array Value} {below : List Frame} {meth : Method} {c : Code} {H : Heap} {locs : List Loc} {cells slots : Nat} {Q : State → Prop} {pc : Nat} {ls : Array Slot} {rest : List Value} {cc : ByteArray} {nL index Wd : Nat} {own : String} {D : va_G} {cI : ClassId} {A : Nat → Prop} {ws : va_W} (mk : Nat) (mx : Nat) (my : Nat) (a0 : Int32) (mn : Nat) (xs : Nat → Int32) (ys : Nat → Int32) (S : CallFix p m c cc nL s args WA own) (hl : Cond.methodLink own index yX3_isMark ∈ WA) (hR : 0 + 1 ≤ R.frames ∧ Wd + (2 + 11) + 0 ≤ R.locals) (hK : KB D cI s) (hP : va_P D vwCl ws H) (hD : va_D A ws) (is : List Nat) (hs : is.map (fun i => ws[i]?) = ([(mk, .inr (3, [.int (nI mn), .ref mx, .ref my])), (mx, .inl (cI, 32, .inl xs)), (my, .inl (cI, 32, .inl ys))] : va_W).map some) (hnd : va_nd is = true) (hsz : ls.size = nL) (hW : (rest.map fun v => v.category).sum ≤ Wd) (hdg : decode cc pc = .ok (.invokevirtual index, 3)) (hcel : cells ≤ R.cells ∧ slots ≤ R.slots) (kk : W p l e R s m args below meth c H locs cells slots Q (F0 m (pc + 3) ls (.int (bz (inM a0 mn)) :: rest))) : W p l e R s m args below meth c H locs cells slots Q (F0 m pc ls (.int a0 :: .ref mk :: rest)) :=
  kRV (n := 1) (As := [.int a0]) (ci := 3) S (c_X3_isMark l D cI mk mx my a0 mn xs ys ) hl mw349 mw347 mw348 mw42 (by decide +kernel) hR rfl rfl rfl rfl hK hP hD is hs hnd hsz hW hdg hcel kk

set_option maxHeartbeats 4000000 in
set_option maxRecDepth 100000 in
theorem c_X3_put (l : Launch) (D : va_G) (cI : ClassId) (mk : Nat) (mx : Nat) (my : Nat) (a0 : Nat) (q0 : Nat) (x0 : Int32) (y0 : Int32) (mn : Nat) (xs : Nat → Int32) (ys : Nat → Int32) (ha0 : a0 < 16) (hq0 : q0 < 2) : CW l yX3_put (wm yX3_put cX3_put 5 none) 0 0 D cI [.ref mk, .int (nI a0), .int (nI q0), .int x0, .int y0] [(mk, .inr (3, [.int (nI mn), .ref mx, .ref my])), (mx, .inl (cI, 32, .inl xs)), (my, .inl (cI, 32, .inl ys))] (fun v w' => v = none ∧ w' = [(mk, .inr (3, [.int (nI mn), .ref mx, .ref my])), (mx, .inl (cI, 32, .inl (upd xs (q0 * 16 + a0) x0))), (my, .inl (cI, 32, .inl (upd ys (q0 * 16 + a0) y0)))]) := by
  refine CW.of (by decide) (Nat.le_of_ble_eq_true rfl) ?_
  intro p e s m below meth c hx hb hr hml hown hlocks hta hP hD hK hS ls hl
  have hl : lv_has ls 5 [(0, .ref mk), (1, .int (nI a0)), (2, .int (nI q0)), (3, .int x0), (4, .int y0)] := hl
  have hP : va_P D vwCl [(mk, .inr (3, [.int (nI mn), .ref mx, .ref my])), (mx, .inl (cI, 32, .inl xs)), (my, .inl (cI, 32, .inl ys))] s.heap := hP
  refine lv_aload_n hx hb dX3_put_0 rfl (lv_at hl 0 rfl) ?_
  refine getX hx hb hta inA3 hown hK hP 0 rfl rfl 1 (by decide) mw84 rfl rfl dX3_put_1 ?_
  refine lv_iload_n hx hb dX3_put_4 rfl (lv_at hl 2 rfl) ?_
  refine lv_bipush (v := nI 16) hx hb dX3_put_5 (by decide) ?_
  refine imulN (a := q0) (b := 16) hx hb dX3_put_7 ?_
  refine lv_iload_n hx hb dX3_put_8 rfl (lv_at hl 1 rfl) ?_
  refine iaddN (a := q0 * 16) (b := a0) hx hb dX3_put_9 ?_
  refine lv_iload_n hx hb dX3_put_10 rfl (lv_at hl 3 rfl) ?_
  refine iastN hx hb hK hP hD hS 1 rfl (by omega) (by decide) dX3_put_11 (fun H locs hP hS => ?_)
  have hP : va_P D vwCl [(mk, .inr (3, [.int (nI mn), .ref mx, .ref my])), (mx, .inl (cI, 32, .inl (upd xs (q0 * 16 + a0) x0))), (my, .inl (cI, 32, .inl ys))] H := hP
  have hD : va_D (adrs [(mk, .inr (3, [.int (nI mn), .ref mx, .ref my])), (mx, .inl (cI, 32, .inl xs)), (my, .inl (cI, 32, .inl ys))]) [(mk, .inr (3, [.int (nI mn), .ref mx, .ref my])), (mx, .inl (cI, 32, .inl (upd xs (q0 * 16 + a0) x0))), (my, .inl (cI, 32, .inl ys))] := hD.same rfl
  refine lv_aload_n hx hb dX3_put_12 rfl (lv_at hl 0 rfl) ?_
  refine getX hx hb hta inA3 hown hK hP 0 rfl rfl 2 (by decide) mw85 rfl rfl dX3_put_13 ?_
  refine lv_iload_n hx hb dX3_put_16 rfl (lv_at hl 2 rfl) ?_
  refine lv_bipush (v := nI 16) hx hb dX3_put_17 (by decide) ?_
  refine imulN (a := q0) (b := 16) hx hb dX3_put_19 ?_
  refine lv_iload_n hx hb dX3_put_20 rfl (lv_at hl 1 rfl) ?_
  refine iaddN (a := q0 * 16) (b := a0) hx hb dX3_put_21 ?_
  refine lv_iload hx hb dX3_put_22 (lv_at hl 4 rfl) ?_
  refine iastN hx hb hK hP hD hS 2 rfl (by omega) (by decide) dX3_put_24 (fun H locs hP hS => ?_)
  have hP : va_P D vwCl [(mk, .inr (3, [.int (nI mn), .ref mx, .ref my])), (mx, .inl (cI, 32, .inl (upd xs (q0 * 16 + a0) x0))), (my, .inl (cI, 32, .inl (upd ys (q0 * 16 + a0) y0)))] H := hP
  have hD : va_D (adrs [(mk, .inr (3, [.int (nI mn), .ref mx, .ref my])), (mx, .inl (cI, 32, .inl xs)), (my, .inl (cI, 32, .inl ys))]) [(mk, .inr (3, [.int (nI mn), .ref mx, .ref my])), (mx, .inl (cI, 32, .inl (upd xs (q0 * 16 + a0) x0))), (my, .inl (cI, 32, .inl (upd ys (q0 * 16 + a0) y0)))] := hD.same rfl
  exact rWv hx hb hr hlocks dX3_put_25 hP hS rfl ⟨rfl, rfl⟩
theorem k_X3_put {p : Program} {l : Launch} {e : Env} {R : Room} {s : State} {m : MethodId} {args : Array Value} {below : List Frame} {meth : Method} {c : Code} {H : Heap} {locs : List Loc} {cells slots : Nat} {Q : State → Prop} {pc : Nat} {ls : Array Slot} {rest : List Value} {cc : ByteArray} {nL index Wd : Nat} {own : String} {D : va_G} {cI : ClassId} {A : Nat → Prop} {ws : va_W} {H0 : Heap} (mk : Nat) (mx : Nat) (my : Nat) (a0 : Nat) (q0 : Nat) (x0 : Int32) (y0 : Int32) (mn : Nat) (xs : Nat → Int32) (ys : Nat → Int32) (ha0 : a0 < 16) (hq0 : q0 < 2) (S : CallFix p m c cc nL s args WA own) (hl : Cond.methodLink own index yX3_put ∈ WA) (hR : 0 + 1 ≤ R.frames ∧ Wd + (5 + 11) + 0 ≤ R.locals) (hK : KB D cI s) (hP : va_P D vwCl ws H) (hD : va_D A ws) (hS : va_S A H0 H locs) (is : List Nat) (hs : is.map (fun i => ws[i]?) = ([(mk, .inr (3, [.int (nI mn), .ref mx, .ref my])), (mx, .inl (cI, 32, .inl xs)), (my, .inl (cI, 32, .inl ys))] : va_W).map some) (hnd : va_nd is = true) (hsz : ls.size = nL) (hW : (rest.map fun v => v.category).sum ≤ Wd) (hdg : decode cc pc = .ok (.invokevirtual index, 3)) (hcel : cells ≤ R.cells ∧ slots ≤ R.slots) (kk : ∀ (H1 : Heap) (locs1 : List Loc), va_P D vwCl (rp ws is [(mk, .inr (3, [.int (nI mn), .ref mx, .ref my])), (mx, .inl (cI, 32, .inl (upd xs (q0 * 16 + a0) x0))), (my, .inl (cI, 32, .inl (upd ys (q0 * 16 + a0) y0)))]) H1 → va_S A H0 H1 locs1 → W p l e R s m args below meth c H1 locs1 cells slots Q (F0 m (pc + 3) ls (rest))) : W p l e R s m args below meth c H locs cells slots Q (F0 m pc ls (.int y0 :: .int x0 :: .int (nI q0) :: .int (nI a0) :: .ref mk :: rest)) :=
  kWV (n := 4) (As := [.int (nI a0), .int (nI q0), .int x0, .int y0]) (ci := 3) S (c_X3_put l D cI mk mx my a0 q0 x0 y0 mn xs ys ha0 hq0) hl mw341 mw339 mw340 mw42 (by decide +kernel) hR rfl rfl rfl rfl hK hP hD hS is hs hnd hsz hW hdg hcel (fun v w' H1 locs1 hq h1 h2 => by obtain ⟨rfl, rfl⟩ := hq; exact kk  H1 locs1 h1 h2)

set_option maxHeartbeats 4000000 in
set_option maxRecDepth 100000 in
theorem c_X3_add (l : Launch) (D : va_G) (cI : ClassId) (mk : Nat) (mx : Nat) (my : Nat) (x0 : Int32) (y0 : Int32) (x1 : Int32) (y1 : Int32) (mn : Nat) (xs : Nat → Int32) (ys : Nat → Int32) (hmn : mn < 16) : CW l yX3_add (wm yX3_add cX3_add 6 (some .int)) 1 16 D cI [.ref mk, .int x0, .int y0, .int x1, .int y1] [(mk, .inr (3, [.int (nI mn), .ref mx, .ref my])), (mx, .inl (cI, 32, .inl xs)), (my, .inl (cI, 32, .inl ys))] (fun v w' => v = some (.int (nI mn)) ∧ w' = [(mk, .inr (3, [.int (nI (mn + 1)), .ref mx, .ref my])), (mx, .inl (cI, 32, .inl (upd (upd xs (0 * 16 + mn) x0) (1 * 16 + mn) x1))), (my, .inl (cI, 32, .inl (upd (upd ys (0 * 16 + mn) y0) (1 * 16 + mn) y1)))]) := by
  refine CW.of (by decide) (Nat.le_of_ble_eq_true rfl) ?_
  intro p e s m below meth c hx hb hr hml hown hlocks hta hP hD hK hS ls hl
  have hl : lv_has ls 6 [(0, .ref mk), (1, .int x0), (2, .int y0), (3, .int x1), (4, .int y1)] := hl
  have hP : va_P D vwCl [(mk, .inr (3, [.int (nI mn), .ref mx, .ref my])), (mx, .inl (cI, 32, .inl xs)), (my, .inl (cI, 32, .inl ys))] s.heap := hP
  refine lv_aload_n hx hb dX3_add_0 rfl (lv_at hl 0 rfl) ?_
  refine getX hx hb hta inA3 hown hK hP 0 rfl rfl 0 (by decide) mw83 rfl rfl dX3_add_1 ?_
  refine lv_istore (lv' := [(5, .int (nI mn)), (0, .ref mk), (1, .int x0), (2, .int y0), (3, .int x1), (4, .int y1)]) hx hb dX3_add_4 hl (by decide) rfl (fun ls hl => ?_)
  refine lv_aload_n hx hb dX3_add_6 rfl (lv_at hl 1 rfl) ?_
  refine lv_dup hx hb dX3_add_7 rfl ?_
  refine getX hx hb hta inA3 hown hK hP 0 rfl rfl 0 (by decide) mw83 rfl rfl dX3_add_8 ?_
  refine lv_iconst (v := nI 1) hx hb dX3_add_11 (by decide) ?_
  refine iaddN (a := mn) (b := 1) hx hb dX3_add_12 ?_
  refine putX hx hb hta inA3 tyX3 tyX3_ok nmX3 hown hK hP hD hS 0 rfl rfl 0 (by decide) mw83 rfl rfl (ty := .int) rfl rfl rfl (Nat.le_of_ble_eq_true rfl) dX3_add_13 (fun H locs hP hS => ?_)
  have hP : va_P D vwCl [(mk, .inr (3, [.int (nI (mn + 1)), .ref mx, .ref my])), (mx, .inl (cI, 32, .inl xs)), (my, .inl (cI, 32, .inl ys))] H := hP
  have hD : va_D (adrs [(mk, .inr (3, [.int (nI mn), .ref mx, .ref my])), (mx, .inl (cI, 32, .inl xs)), (my, .inl (cI, 32, .inl ys))]) [(mk, .inr (3, [.int (nI (mn + 1)), .ref mx, .ref my])), (mx, .inl (cI, 32, .inl xs)), (my, .inl (cI, 32, .inl ys))] := hD.same rfl
  refine lv_aload_n hx hb dX3_add_16 rfl (lv_at hl 1 rfl) ?_
  refine lv_iload hx hb dX3_add_17 (lv_at hl 0 rfl) ?_
  refine lv_iconst (v := nI 0) hx hb dX3_add_19 (by decide) ?_
  refine lv_iload_n hx hb dX3_add_20 rfl (lv_at hl 2 rfl) ?_
  refine lv_iload_n hx hb dX3_add_21 rfl (lv_at hl 3 rfl) ?_
  refine k_X3_put (Wd := 0) mk mx my mn 0 x0 y0 (mn + 1) xs ys (by omega) (by omega) ⟨hx, hb, hml, hown, hta⟩ mw338 ⟨Nat.le_of_ble_eq_true rfl, Nat.le_of_ble_eq_true rfl⟩ hK hP hD hS [0, 1, 2] rfl rfl hl.1 (Nat.le_of_ble_eq_true rfl) dX3_add_22 ⟨Nat.le_of_ble_eq_true rfl, Nat.le_of_ble_eq_true rfl⟩ (fun H locs hP hS => ?_)
  have hP : va_P D vwCl [(mk, .inr (3, [.int (nI (mn + 1)), .ref mx, .ref my])), (mx, .inl (cI, 32, .inl (upd xs (0 * 16 + mn) x0))), (my, .inl (cI, 32, .inl (upd ys (0 * 16 + mn) y0)))] H := hP
  have hD : va_D (adrs [(mk, .inr (3, [.int (nI mn), .ref mx, .ref my])), (mx, .inl (cI, 32, .inl xs)), (my, .inl (cI, 32, .inl ys))]) [(mk, .inr (3, [.int (nI (mn + 1)), .ref mx, .ref my])), (mx, .inl (cI, 32, .inl (upd xs (0 * 16 + mn) x0))), (my, .inl (cI, 32, .inl (upd ys (0 * 16 + mn) y0)))] := hD.same rfl
  refine lv_aload_n hx hb dX3_add_25 rfl (lv_at hl 1 rfl) ?_
  refine lv_iload hx hb dX3_add_26 (lv_at hl 0 rfl) ?_
  refine lv_iconst (v := nI 1) hx hb dX3_add_28 (by decide) ?_
  refine lv_iload_n hx hb dX3_add_29 rfl (lv_at hl 4 rfl) ?_
  refine lv_iload hx hb dX3_add_30 (lv_at hl 5 rfl) ?_
  refine k_X3_put (Wd := 0) mk mx my mn 1 x1 y1 (mn + 1) (upd xs (0 * 16 + mn) x0) (upd ys (0 * 16 + mn) y0) (by omega) (by omega) ⟨hx, hb, hml, hown, hta⟩ mw338 ⟨Nat.le_of_ble_eq_true rfl, Nat.le_of_ble_eq_true rfl⟩ hK hP hD hS [0, 1, 2] rfl rfl hl.1 (Nat.le_of_ble_eq_true rfl) dX3_add_32 ⟨Nat.le_of_ble_eq_true rfl, Nat.le_of_ble_eq_true rfl⟩ (fun H locs hP hS => ?_)
  have hP : va_P D vwCl [(mk, .inr (3, [.int (nI (mn + 1)), .ref mx, .ref my])), (mx, .inl (cI, 32, .inl (upd (upd xs (0 * 16 + mn) x0) (1 * 16 + mn) x1))), (my, .inl (cI, 32, .inl (upd (upd ys (0 * 16 + mn) y0) (1 * 16 + mn) y1)))] H := hP
  have hD : va_D (adrs [(mk, .inr (3, [.int (nI mn), .ref mx, .ref my])), (mx, .inl (cI, 32, .inl xs)), (my, .inl (cI, 32, .inl ys))]) [(mk, .inr (3, [.int (nI (mn + 1)), .ref mx, .ref my])), (mx, .inl (cI, 32, .inl (upd (upd xs (0 * 16 + mn) x0) (1 * 16 + mn) x1))), (my, .inl (cI, 32, .inl (upd (upd ys (0 * 16 + mn) y0) (1 * 16 + mn) y1)))] := hD.same rfl
  refine lv_iload hx hb dX3_add_35 (lv_at hl 0 rfl) ?_
  exact rWi hx hb hr hlocks dX3_add_37 hP hS rfl ⟨rfl, rfl⟩
theorem k_X3_add {p : Program} {l : Launch} {e : Env} {R : Room} {s : State} {m : MethodId} {args : Array Value} {below : List Frame} {meth : Method} {c : Code} {H : Heap} {locs : List Loc} {cells slots : Nat} {Q : State → Prop} {pc : Nat} {ls : Array Slot} {rest : List Value} {cc : ByteArray} {nL index Wd : Nat} {own : String} {D : va_G} {cI : ClassId} {A : Nat → Prop} {ws : va_W} {H0 : Heap} (mk : Nat) (mx : Nat) (my : Nat) (x0 : Int32) (y0 : Int32) (x1 : Int32) (y1 : Int32) (mn : Nat) (xs : Nat → Int32) (ys : Nat → Int32) (hmn : mn < 16) (S : CallFix p m c cc nL s args WA own) (hl : Cond.methodLink own index yX3_add ∈ WA) (hR : 1 + 1 ≤ R.frames ∧ Wd + (6 + 11) + 16 ≤ R.locals) (hK : KB D cI s) (hP : va_P D vwCl ws H) (hD : va_D A ws) (hS : va_S A H0 H locs) (is : List Nat) (hs : is.map (fun i => ws[i]?) = ([(mk, .inr (3, [.int (nI mn), .ref mx, .ref my])), (mx, .inl (cI, 32, .inl xs)), (my, .inl (cI, 32, .inl ys))] : va_W).map some) (hnd : va_nd is = true) (hsz : ls.size = nL) (hW : (rest.map fun v => v.category).sum ≤ Wd) (hdg : decode cc pc = .ok (.invokevirtual index, 3)) (hcel : cells ≤ R.cells ∧ slots ≤ R.slots) (kk : ∀ (H1 : Heap) (locs1 : List Loc), va_P D vwCl (rp ws is [(mk, .inr (3, [.int (nI (mn + 1)), .ref mx, .ref my])), (mx, .inl (cI, 32, .inl (upd (upd xs (0 * 16 + mn) x0) (1 * 16 + mn) x1))), (my, .inl (cI, 32, .inl (upd (upd ys (0 * 16 + mn) y0) (1 * 16 + mn) y1)))]) H1 → va_S A H0 H1 locs1 → W p l e R s m args below meth c H1 locs1 cells slots Q (F0 m (pc + 3) ls (.int (nI mn) :: rest))) : W p l e R s m args below meth c H locs cells slots Q (F0 m pc ls (.int y1 :: .int x1 :: .int y0 :: .int x0 :: .ref mk :: rest)) :=
  kWV (n := 4) (As := [.int x0, .int y0, .int x1, .int y1]) (ci := 3) S (c_X3_add l D cI mk mx my x0 y0 x1 y1 mn xs ys hmn) hl mw337 mw335 mw336 mw42 (by decide +kernel) hR rfl rfl rfl rfl hK hP hD hS is hs hnd hsz hW hdg hcel (fun v w' H1 locs1 hq h1 h2 => by obtain ⟨rfl, rfl⟩ := hq; exact kk  H1 locs1 h1 h2)

set_option maxHeartbeats 4000000 in
set_option maxRecDepth 100000 in
theorem c_X3_x (l : Launch) (D : va_G) (cI : ClassId) (mk : Nat) (mx : Nat) (my : Nat) (a0 : Nat) (q0 : Nat) (mn : Nat) (xs : Nat → Int32) (ys : Nat → Int32) (ha0 : a0 < 16) (hq0 : q0 < 2) : CR l yX3_x (wm yX3_x cX3_x 3 (some .int)) 0 0 D cI [.ref mk, .int (nI a0), .int (nI q0)] [(mk, .inr (3, [.int (nI mn), .ref mx, .ref my])), (mx, .inl (cI, 32, .inl xs)), (my, .inl (cI, 32, .inl ys))] (some (.int (xs (q0 * 16 + a0)))) := by
  refine CR.of (by decide) (Nat.le_of_ble_eq_true rfl) ?_
  intro p e s m below meth c hx hb hr hml hown hlocks hta hP hD hK ls hl
  have hl : lv_has ls 3 [(0, .ref mk), (1, .int (nI a0)), (2, .int (nI q0))] := hl
  have hP : va_P D vwCl [(mk, .inr (3, [.int (nI mn), .ref mx, .ref my])), (mx, .inl (cI, 32, .inl xs)), (my, .inl (cI, 32, .inl ys))] s.heap := hP
  refine lv_aload_n hx hb dX3_x_0 rfl (lv_at hl 0 rfl) ?_
  refine getX hx hb hta inA3 hown hK hP 0 rfl rfl 1 (by decide) mw84 rfl rfl dX3_x_1 ?_
  refine lv_iload_n hx hb dX3_x_4 rfl (lv_at hl 2 rfl) ?_
  refine lv_bipush (v := nI 16) hx hb dX3_x_5 (by decide) ?_
  refine imulN (a := q0) (b := 16) hx hb dX3_x_7 ?_
  refine lv_iload_n hx hb dX3_x_8 rfl (lv_at hl 1 rfl) ?_
  refine iaddN (a := q0 * 16) (b := a0) hx hb dX3_x_9 ?_
  refine ialdN hx hb hK hP 1 rfl (by omega) (by decide) dX3_x_10 ?_
  exact rRi hx hb hr hlocks dX3_x_11 rfl
theorem k_X3_x {p : Program} {l : Launch} {e : Env} {R : Room} {s : State} {m : MethodId} {args : Array Value} {below : List Frame} {meth : Method} {c : Code} {H : Heap} {locs : List Loc} {cells slots : Nat} {Q : State → Prop} {pc : Nat} {ls : Array Slot} {rest : List Value} {cc : ByteArray} {nL index Wd : Nat} {own : String} {D : va_G} {cI : ClassId} {A : Nat → Prop} {ws : va_W} (mk : Nat) (mx : Nat) (my : Nat) (a0 : Nat) (q0 : Nat) (mn : Nat) (xs : Nat → Int32) (ys : Nat → Int32) (ha0 : a0 < 16) (hq0 : q0 < 2) (S : CallFix p m c cc nL s args WA own) (hl : Cond.methodLink own index yX3_x ∈ WA) (hR : 0 + 1 ≤ R.frames ∧ Wd + (3 + 11) + 0 ≤ R.locals) (hK : KB D cI s) (hP : va_P D vwCl ws H) (hD : va_D A ws) (is : List Nat) (hs : is.map (fun i => ws[i]?) = ([(mk, .inr (3, [.int (nI mn), .ref mx, .ref my])), (mx, .inl (cI, 32, .inl xs)), (my, .inl (cI, 32, .inl ys))] : va_W).map some) (hnd : va_nd is = true) (hsz : ls.size = nL) (hW : (rest.map fun v => v.category).sum ≤ Wd) (hdg : decode cc pc = .ok (.invokevirtual index, 3)) (hcel : cells ≤ R.cells ∧ slots ≤ R.slots) (kk : W p l e R s m args below meth c H locs cells slots Q (F0 m (pc + 3) ls (.int (xs (q0 * 16 + a0)) :: rest))) : W p l e R s m args below meth c H locs cells slots Q (F0 m pc ls (.int (nI q0) :: .int (nI a0) :: .ref mk :: rest)) :=
  kRV (n := 2) (As := [.int (nI a0), .int (nI q0)]) (ci := 3) S (c_X3_x l D cI mk mx my a0 q0 mn xs ys ha0 hq0) hl mw371 mw369 mw370 mw42 (by decide +kernel) hR rfl rfl rfl rfl hK hP hD is hs hnd hsz hW hdg hcel kk

set_option maxHeartbeats 4000000 in
set_option maxRecDepth 100000 in
theorem c_X3_y (l : Launch) (D : va_G) (cI : ClassId) (mk : Nat) (mx : Nat) (my : Nat) (a0 : Nat) (q0 : Nat) (mn : Nat) (xs : Nat → Int32) (ys : Nat → Int32) (ha0 : a0 < 16) (hq0 : q0 < 2) : CR l yX3_y (wm yX3_y cX3_y 3 (some .int)) 0 0 D cI [.ref mk, .int (nI a0), .int (nI q0)] [(mk, .inr (3, [.int (nI mn), .ref mx, .ref my])), (mx, .inl (cI, 32, .inl xs)), (my, .inl (cI, 32, .inl ys))] (some (.int (ys (q0 * 16 + a0)))) := by
  refine CR.of (by decide) (Nat.le_of_ble_eq_true rfl) ?_
  intro p e s m below meth c hx hb hr hml hown hlocks hta hP hD hK ls hl
  have hl : lv_has ls 3 [(0, .ref mk), (1, .int (nI a0)), (2, .int (nI q0))] := hl
  have hP : va_P D vwCl [(mk, .inr (3, [.int (nI mn), .ref mx, .ref my])), (mx, .inl (cI, 32, .inl xs)), (my, .inl (cI, 32, .inl ys))] s.heap := hP
  refine lv_aload_n hx hb dX3_y_0 rfl (lv_at hl 0 rfl) ?_
  refine getX hx hb hta inA3 hown hK hP 0 rfl rfl 2 (by decide) mw85 rfl rfl dX3_y_1 ?_
  refine lv_iload_n hx hb dX3_y_4 rfl (lv_at hl 2 rfl) ?_
  refine lv_bipush (v := nI 16) hx hb dX3_y_5 (by decide) ?_
  refine imulN (a := q0) (b := 16) hx hb dX3_y_7 ?_
  refine lv_iload_n hx hb dX3_y_8 rfl (lv_at hl 1 rfl) ?_
  refine iaddN (a := q0 * 16) (b := a0) hx hb dX3_y_9 ?_
  refine ialdN hx hb hK hP 2 rfl (by omega) (by decide) dX3_y_10 ?_
  exact rRi hx hb hr hlocks dX3_y_11 rfl
theorem k_X3_y {p : Program} {l : Launch} {e : Env} {R : Room} {s : State} {m : MethodId} {args : Array Value} {below : List Frame} {meth : Method} {c : Code} {H : Heap} {locs : List Loc} {cells slots : Nat} {Q : State → Prop} {pc : Nat} {ls : Array Slot} {rest : List Value} {cc : ByteArray} {nL index Wd : Nat} {own : String} {D : va_G} {cI : ClassId} {A : Nat → Prop} {ws : va_W} (mk : Nat) (mx : Nat) (my : Nat) (a0 : Nat) (q0 : Nat) (mn : Nat) (xs : Nat → Int32) (ys : Nat → Int32) (ha0 : a0 < 16) (hq0 : q0 < 2) (S : CallFix p m c cc nL s args WA own) (hl : Cond.methodLink own index yX3_y ∈ WA) (hR : 0 + 1 ≤ R.frames ∧ Wd + (3 + 11) + 0 ≤ R.locals) (hK : KB D cI s) (hP : va_P D vwCl ws H) (hD : va_D A ws) (is : List Nat) (hs : is.map (fun i => ws[i]?) = ([(mk, .inr (3, [.int (nI mn), .ref mx, .ref my])), (mx, .inl (cI, 32, .inl xs)), (my, .inl (cI, 32, .inl ys))] : va_W).map some) (hnd : va_nd is = true) (hsz : ls.size = nL) (hW : (rest.map fun v => v.category).sum ≤ Wd) (hdg : decode cc pc = .ok (.invokevirtual index, 3)) (hcel : cells ≤ R.cells ∧ slots ≤ R.slots) (kk : W p l e R s m args below meth c H locs cells slots Q (F0 m (pc + 3) ls (.int (ys (q0 * 16 + a0)) :: rest))) : W p l e R s m args below meth c H locs cells slots Q (F0 m pc ls (.int (nI q0) :: .int (nI a0) :: .ref mk :: rest)) :=
  kRV (n := 2) (As := [.int (nI a0), .int (nI q0)]) (ci := 3) S (c_X3_y l D cI mk mx my a0 q0 mn xs ys ha0 hq0) hl mw379 mw377 mw378 mw42 (by decide +kernel) hR rfl rfl rfl rfl hK hP hD is hs hnd hsz hW hdg hcel kk

set_option maxHeartbeats 4000000 in
set_option maxRecDepth 100000 in
theorem c_X3_tickX (l : Launch) (D : va_G) (cI : ClassId) (mk : Nat) (mx : Nat) (my : Nat) (a0 : Nat) (k0 : Int32) (n0 : Int32) (mn : Nat) (xs : Nat → Int32) (ys : Nat → Int32) (ha0 : a0 < 16) : CR l yX3_tickX (wm yX3_tickX cX3_tickX 4 (some .int)) 1 16 D cI [.ref mk, .int (nI a0), .int k0, .int n0] [(mk, .inr (3, [.int (nI mn), .ref mx, .ref my])), (mx, .inl (cI, 32, .inl xs)), (my, .inl (cI, 32, .inl ys))] (some (.int (tk xs a0 k0 n0))) := by
  refine CR.of (by decide) (Nat.le_of_ble_eq_true rfl) ?_
  intro p e s m below meth c hx hb hr hml hown hlocks hta hP hD hK ls hl
  have hl : lv_has ls 4 [(0, .ref mk), (1, .int (nI a0)), (2, .int k0), (3, .int n0)] := hl
  have hP : va_P D vwCl [(mk, .inr (3, [.int (nI mn), .ref mx, .ref my])), (mx, .inl (cI, 32, .inl xs)), (my, .inl (cI, 32, .inl ys))] s.heap := hP
  refine lv_iload_n hx hb dX3_tickX_0 rfl (lv_at hl 3 rfl) ?_
  refine lv_iload_n hx hb dX3_tickX_1 rfl (lv_at hl 2 rfl) ?_
  refine lv_isub hx hb dX3_tickX_2 ?_
  refine lv_aload_n hx hb dX3_tickX_3 rfl (lv_at hl 0 rfl) ?_
  refine lv_iload_n hx hb dX3_tickX_4 rfl (lv_at hl 1 rfl) ?_
  refine lv_iconst (v := nI 0) hx hb dX3_tickX_5 (by decide) ?_
  refine k_X3_x (Wd := 1) mk mx my a0 0 mn xs ys ha0 (by omega) ⟨hx, hb, hml, hown, hta⟩ mw368 ⟨Nat.le_of_ble_eq_true rfl, Nat.le_of_ble_eq_true rfl⟩ hK hP hD [0, 1, 2] rfl rfl hl.1 (Nat.le_of_ble_eq_true rfl) dX3_tickX_6 ⟨Nat.le_of_ble_eq_true rfl, Nat.le_of_ble_eq_true rfl⟩ ?_
  refine lv_imul hx hb dX3_tickX_9 ?_
  refine lv_iload_n hx hb dX3_tickX_10 rfl (lv_at hl 2 rfl) ?_
  refine lv_aload_n hx hb dX3_tickX_11 rfl (lv_at hl 0 rfl) ?_
  refine lv_iload_n hx hb dX3_tickX_12 rfl (lv_at hl 1 rfl) ?_
  refine lv_iconst (v := nI 1) hx hb dX3_tickX_13 (by decide) ?_
  refine k_X3_x (Wd := 2) mk mx my a0 1 mn xs ys ha0 (by omega) ⟨hx, hb, hml, hown, hta⟩ mw368 ⟨Nat.le_of_ble_eq_true rfl, Nat.le_of_ble_eq_true rfl⟩ hK hP hD [0, 1, 2] rfl rfl hl.1 (Nat.le_of_ble_eq_true rfl) dX3_tickX_14 ⟨Nat.le_of_ble_eq_true rfl, Nat.le_of_ble_eq_true rfl⟩ ?_
  refine lv_imul hx hb dX3_tickX_17 ?_
  refine lv_iadd hx hb dX3_tickX_18 ?_
  exact rRi hx hb hr hlocks dX3_tickX_19 rfl
theorem k_X3_tickX {p : Program} {l : Launch} {e : Env} {R : Room} {s : State} {m : MethodId} {args : Array Value} {below : List Frame} {meth : Method} {c : Code} {H : Heap} {locs : List Loc} {cells slots : Nat} {Q : State → Prop} {pc : Nat} {ls : Array Slot} {rest : List Value} {cc : ByteArray} {nL index Wd : Nat} {own : String} {D : va_G} {cI : ClassId} {A : Nat → Prop} {ws : va_W} (mk : Nat) (mx : Nat) (my : Nat) (a0 : Nat) (k0 : Int32) (n0 : Int32) (mn : Nat) (xs : Nat → Int32) (ys : Nat → Int32) (ha0 : a0 < 16) (S : CallFix p m c cc nL s args WA own) (hl : Cond.methodLink own index yX3_tickX ∈ WA) (hR : 1 + 1 ≤ R.frames ∧ Wd + (4 + 11) + 16 ≤ R.locals) (hK : KB D cI s) (hP : va_P D vwCl ws H) (hD : va_D A ws) (is : List Nat) (hs : is.map (fun i => ws[i]?) = ([(mk, .inr (3, [.int (nI mn), .ref mx, .ref my])), (mx, .inl (cI, 32, .inl xs)), (my, .inl (cI, 32, .inl ys))] : va_W).map some) (hnd : va_nd is = true) (hsz : ls.size = nL) (hW : (rest.map fun v => v.category).sum ≤ Wd) (hdg : decode cc pc = .ok (.invokevirtual index, 3)) (hcel : cells ≤ R.cells ∧ slots ≤ R.slots) (kk : W p l e R s m args below meth c H locs cells slots Q (F0 m (pc + 3) ls (.int (tk xs a0 k0 n0) :: rest))) : W p l e R s m args below meth c H locs cells slots Q (F0 m pc ls (.int n0 :: .int k0 :: .int (nI a0) :: .ref mk :: rest)) :=
  kRV (n := 3) (As := [.int (nI a0), .int k0, .int n0]) (ci := 3) S (c_X3_tickX l D cI mk mx my a0 k0 n0 mn xs ys ha0) hl mw367 mw365 mw366 mw42 (by decide +kernel) hR rfl rfl rfl rfl hK hP hD is hs hnd hsz hW hdg hcel kk

set_option maxHeartbeats 4000000 in
set_option maxRecDepth 100000 in
theorem c_X3_tickY (l : Launch) (D : va_G) (cI : ClassId) (mk : Nat) (mx : Nat) (my : Nat) (a0 : Nat) (k0 : Int32) (n0 : Int32) (mn : Nat) (xs : Nat → Int32) (ys : Nat → Int32) (ha0 : a0 < 16) : CR l yX3_tickY (wm yX3_tickY cX3_tickY 4 (some .int)) 1 16 D cI [.ref mk, .int (nI a0), .int k0, .int n0] [(mk, .inr (3, [.int (nI mn), .ref mx, .ref my])), (mx, .inl (cI, 32, .inl xs)), (my, .inl (cI, 32, .inl ys))] (some (.int (tk ys a0 k0 n0))) := by
  refine CR.of (by decide) (Nat.le_of_ble_eq_true rfl) ?_
  intro p e s m below meth c hx hb hr hml hown hlocks hta hP hD hK ls hl
  have hl : lv_has ls 4 [(0, .ref mk), (1, .int (nI a0)), (2, .int k0), (3, .int n0)] := hl
  have hP : va_P D vwCl [(mk, .inr (3, [.int (nI mn), .ref mx, .ref my])), (mx, .inl (cI, 32, .inl xs)), (my, .inl (cI, 32, .inl ys))] s.heap := hP
  refine lv_iload_n hx hb dX3_tickY_0 rfl (lv_at hl 3 rfl) ?_
  refine lv_iload_n hx hb dX3_tickY_1 rfl (lv_at hl 2 rfl) ?_
  refine lv_isub hx hb dX3_tickY_2 ?_
  refine lv_aload_n hx hb dX3_tickY_3 rfl (lv_at hl 0 rfl) ?_
  refine lv_iload_n hx hb dX3_tickY_4 rfl (lv_at hl 1 rfl) ?_
  refine lv_iconst (v := nI 0) hx hb dX3_tickY_5 (by decide) ?_
  refine k_X3_y (Wd := 1) mk mx my a0 0 mn xs ys ha0 (by omega) ⟨hx, hb, hml, hown, hta⟩ mw376 ⟨Nat.le_of_ble_eq_true rfl, Nat.le_of_ble_eq_true rfl⟩ hK hP hD [0, 1, 2] rfl rfl hl.1 (Nat.le_of_ble_eq_true rfl) dX3_tickY_6 ⟨Nat.le_of_ble_eq_true rfl, Nat.le_of_ble_eq_true rfl⟩ ?_
  refine lv_imul hx hb dX3_tickY_9 ?_
  refine lv_iload_n hx hb dX3_tickY_10 rfl (lv_at hl 2 rfl) ?_
  refine lv_aload_n hx hb dX3_tickY_11 rfl (lv_at hl 0 rfl) ?_
  refine lv_iload_n hx hb dX3_tickY_12 rfl (lv_at hl 1 rfl) ?_
  refine lv_iconst (v := nI 1) hx hb dX3_tickY_13 (by decide) ?_
  refine k_X3_y (Wd := 2) mk mx my a0 1 mn xs ys ha0 (by omega) ⟨hx, hb, hml, hown, hta⟩ mw376 ⟨Nat.le_of_ble_eq_true rfl, Nat.le_of_ble_eq_true rfl⟩ hK hP hD [0, 1, 2] rfl rfl hl.1 (Nat.le_of_ble_eq_true rfl) dX3_tickY_14 ⟨Nat.le_of_ble_eq_true rfl, Nat.le_of_ble_eq_true rfl⟩ ?_
  refine lv_imul hx hb dX3_tickY_17 ?_
  refine lv_iadd hx hb dX3_tickY_18 ?_
  exact rRi hx hb hr hlocks dX3_tickY_19 rfl
theorem k_X3_tickY {p : Program} {l : Launch} {e : Env} {R : Room} {s : State} {m : MethodId} {args : Array Value} {below : List Frame} {meth : Method} {c : Code} {H : Heap} {locs : List Loc} {cells slots : Nat} {Q : State → Prop} {pc : Nat} {ls : Array Slot} {rest : List Value} {cc : ByteArray} {nL index Wd : Nat} {own : String} {D : va_G} {cI : ClassId} {A : Nat → Prop} {ws : va_W} (mk : Nat) (mx : Nat) (my : Nat) (a0 : Nat) (k0 : Int32) (n0 : Int32) (mn : Nat) (xs : Nat → Int32) (ys : Nat → Int32) (ha0 : a0 < 16) (S : CallFix p m c cc nL s args WA own) (hl : Cond.methodLink own index yX3_tickY ∈ WA) (hR : 1 + 1 ≤ R.frames ∧ Wd + (4 + 11) + 16 ≤ R.locals) (hK : KB D cI s) (hP : va_P D vwCl ws H) (hD : va_D A ws) (is : List Nat) (hs : is.map (fun i => ws[i]?) = ([(mk, .inr (3, [.int (nI mn), .ref mx, .ref my])), (mx, .inl (cI, 32, .inl xs)), (my, .inl (cI, 32, .inl ys))] : va_W).map some) (hnd : va_nd is = true) (hsz : ls.size = nL) (hW : (rest.map fun v => v.category).sum ≤ Wd) (hdg : decode cc pc = .ok (.invokevirtual index, 3)) (hcel : cells ≤ R.cells ∧ slots ≤ R.slots) (kk : W p l e R s m args below meth c H locs cells slots Q (F0 m (pc + 3) ls (.int (tk ys a0 k0 n0) :: rest))) : W p l e R s m args below meth c H locs cells slots Q (F0 m pc ls (.int n0 :: .int k0 :: .int (nI a0) :: .ref mk :: rest)) :=
  kRV (n := 3) (As := [.int (nI a0), .int k0, .int n0]) (ci := 3) S (c_X3_tickY l D cI mk mx my a0 k0 n0 mn xs ys ha0) hl mw375 mw373 mw374 mw42 (by decide +kernel) hR rfl rfl rfl rfl hK hP hD is hs hnd hsz hW hdg hcel kk

set_option maxHeartbeats 4000000 in
set_option maxRecDepth 100000 in
theorem c_X3_stays (l : Launch) (D : va_G) (cI : ClassId) (mk : Nat) (mx : Nat) (my : Nat) (a0 : Nat) (mn : Nat) (xs : Nat → Int32) (ys : Nat → Int32) (ha0 : a0 < 16) : CR l yX3_stays (wm yX3_stays cX3_stays 2 (some .boolean)) 1 15 D cI [.ref mk, .int (nI a0)] [(mk, .inr (3, [.int (nI mn), .ref mx, .ref my])), (mx, .inl (cI, 32, .inl xs)), (my, .inl (cI, 32, .inl ys))] (some (.int (bz (stM xs ys a0)))) := by
  refine CR.of (by decide) (Nat.le_of_ble_eq_true rfl) ?_
  intro p e s m below meth c hx hb hr hml hown hlocks hta hP hD hK ls hl
  have hl : lv_has ls 2 [(0, .ref mk), (1, .int (nI a0))] := hl
  have hP : va_P D vwCl [(mk, .inr (3, [.int (nI mn), .ref mx, .ref my])), (mx, .inl (cI, 32, .inl xs)), (my, .inl (cI, 32, .inl ys))] s.heap := hP
  refine lv_aload_n hx hb dX3_stays_0 rfl (lv_at hl 0 rfl) ?_
  refine lv_iload_n hx hb dX3_stays_1 rfl (lv_at hl 1 rfl) ?_
  refine lv_iconst (v := nI 0) hx hb dX3_stays_2 (by decide) ?_
  refine k_X3_x (Wd := 0) mk mx my a0 0 mn xs ys ha0 (by omega) ⟨hx, hb, hml, hown, hta⟩ mw368 ⟨Nat.le_of_ble_eq_true rfl, Nat.le_of_ble_eq_true rfl⟩ hK hP hD [0, 1, 2] rfl rfl hl.1 (Nat.le_of_ble_eq_true rfl) dX3_stays_3 ⟨Nat.le_of_ble_eq_true rfl, Nat.le_of_ble_eq_true rfl⟩ ?_
  refine lv_aload_n hx hb dX3_stays_6 rfl (lv_at hl 0 rfl) ?_
  refine lv_iload_n hx hb dX3_stays_7 rfl (lv_at hl 1 rfl) ?_
  refine lv_iconst (v := nI 1) hx hb dX3_stays_8 (by decide) ?_
  refine k_X3_x (Wd := 1) mk mx my a0 1 mn xs ys ha0 (by omega) ⟨hx, hb, hml, hown, hta⟩ mw368 ⟨Nat.le_of_ble_eq_true rfl, Nat.le_of_ble_eq_true rfl⟩ hK hP hD [0, 1, 2] rfl rfl hl.1 (Nat.le_of_ble_eq_true rfl) dX3_stays_9 ⟨Nat.le_of_ble_eq_true rfl, Nat.le_of_ble_eq_true rfl⟩ ?_
  refine icmpI_ne (tgt := 34) hx hb dX3_stays_12 (by decide) (fun c_12 => ?_) (fun c_12 => ?_)
  · refine lv_iconst (v := nI 0) hx hb dX3_stays_34 (by decide) ?_
    exact rRz hx hb hr hlocks dX3_stays_35 (by first | (simp only [stM, eq_false c_12, decide_true, decide_false, Bool.true_or, Bool.or_true, Bool.false_or, Bool.or_false, Bool.true_and, Bool.and_true, Bool.false_and, Bool.and_false, Bool.not_true, Bool.not_false, if_true, if_false, Bool.false_eq_true, and_true, true_and, and_false, false_and, or_true, true_or, or_false, false_or, not_true_eq_false, not_false_eq_true, bz]; done) | (simp only [stM, eq_false c_12, decide_true, decide_false, Bool.true_or, Bool.or_true, Bool.false_or, Bool.or_false, Bool.true_and, Bool.and_true, Bool.false_and, Bool.and_false, Bool.not_true, Bool.not_false, if_true, if_false, Bool.false_eq_true, and_true, true_and, and_false, false_and, or_true, true_or, or_false, false_or, not_true_eq_false, not_false_eq_true, bz]; rfl))
  · refine lv_aload_n hx hb dX3_stays_15 rfl (lv_at hl 0 rfl) ?_
    refine lv_iload_n hx hb dX3_stays_16 rfl (lv_at hl 1 rfl) ?_
    refine lv_iconst (v := nI 0) hx hb dX3_stays_17 (by decide) ?_
    refine k_X3_y (Wd := 0) mk mx my a0 0 mn xs ys ha0 (by omega) ⟨hx, hb, hml, hown, hta⟩ mw376 ⟨Nat.le_of_ble_eq_true rfl, Nat.le_of_ble_eq_true rfl⟩ hK hP hD [0, 1, 2] rfl rfl hl.1 (Nat.le_of_ble_eq_true rfl) dX3_stays_18 ⟨Nat.le_of_ble_eq_true rfl, Nat.le_of_ble_eq_true rfl⟩ ?_
    refine lv_aload_n hx hb dX3_stays_21 rfl (lv_at hl 0 rfl) ?_
    refine lv_iload_n hx hb dX3_stays_22 rfl (lv_at hl 1 rfl) ?_
    refine lv_iconst (v := nI 1) hx hb dX3_stays_23 (by decide) ?_
    refine k_X3_y (Wd := 1) mk mx my a0 1 mn xs ys ha0 (by omega) ⟨hx, hb, hml, hown, hta⟩ mw376 ⟨Nat.le_of_ble_eq_true rfl, Nat.le_of_ble_eq_true rfl⟩ hK hP hD [0, 1, 2] rfl rfl hl.1 (Nat.le_of_ble_eq_true rfl) dX3_stays_24 ⟨Nat.le_of_ble_eq_true rfl, Nat.le_of_ble_eq_true rfl⟩ ?_
    refine icmpI_ne (tgt := 34) hx hb dX3_stays_27 (by decide) (fun c_27 => ?_) (fun c_27 => ?_)
    · refine lv_iconst (v := nI 0) hx hb dX3_stays_34 (by decide) ?_
      exact rRz hx hb hr hlocks dX3_stays_35 (by first | (simp only [stM, eq_true c_12, eq_false c_27, decide_true, decide_false, Bool.true_or, Bool.or_true, Bool.false_or, Bool.or_false, Bool.true_and, Bool.and_true, Bool.false_and, Bool.and_false, Bool.not_true, Bool.not_false, if_true, if_false, Bool.false_eq_true, and_true, true_and, and_false, false_and, or_true, true_or, or_false, false_or, not_true_eq_false, not_false_eq_true, bz]; done) | (simp only [stM, eq_true c_12, eq_false c_27, decide_true, decide_false, Bool.true_or, Bool.or_true, Bool.false_or, Bool.or_false, Bool.true_and, Bool.and_true, Bool.false_and, Bool.and_false, Bool.not_true, Bool.not_false, if_true, if_false, Bool.false_eq_true, and_true, true_and, and_false, false_and, or_true, true_or, or_false, false_or, not_true_eq_false, not_false_eq_true, bz]; rfl))
    · refine lv_iconst (v := nI 1) hx hb dX3_stays_30 (by decide) ?_
      refine lv_goto (tgt := 35) hx hb dX3_stays_31 (by decide) ?_
      exact rRz hx hb hr hlocks dX3_stays_35 (by first | (simp only [stM, eq_true c_12, eq_true c_27, decide_true, decide_false, Bool.true_or, Bool.or_true, Bool.false_or, Bool.or_false, Bool.true_and, Bool.and_true, Bool.false_and, Bool.and_false, Bool.not_true, Bool.not_false, if_true, if_false, Bool.false_eq_true, and_true, true_and, and_false, false_and, or_true, true_or, or_false, false_or, not_true_eq_false, not_false_eq_true, bz]; done) | (simp only [stM, eq_true c_12, eq_true c_27, decide_true, decide_false, Bool.true_or, Bool.or_true, Bool.false_or, Bool.or_false, Bool.true_and, Bool.and_true, Bool.false_and, Bool.and_false, Bool.not_true, Bool.not_false, if_true, if_false, Bool.false_eq_true, and_true, true_and, and_false, false_and, or_true, true_or, or_false, false_or, not_true_eq_false, not_false_eq_true, bz]; rfl))
theorem k_X3_stays {p : Program} {l : Launch} {e : Env} {R : Room} {s : State} {m : MethodId} {args : Array Value} {below : List Frame} {meth : Method} {c : Code} {H : Heap} {locs : List Loc} {cells slots : Nat} {Q : State → Prop} {pc : Nat} {ls : Array Slot} {rest : List Value} {cc : ByteArray} {nL index Wd : Nat} {own : String} {D : va_G} {cI : ClassId} {A : Nat → Prop} {ws : va_W} (mk : Nat) (mx : Nat) (my : Nat) (a0 : Nat) (mn : Nat) (xs : Nat → Int32) (ys : Nat → Int32) (ha0 : a0 < 16) (S : CallFix p m c cc nL s args WA own) (hl : Cond.methodLink own index yX3_stays ∈ WA) (hR : 1 + 1 ≤ R.frames ∧ Wd + (2 + 11) + 15 ≤ R.locals) (hK : KB D cI s) (hP : va_P D vwCl ws H) (hD : va_D A ws) (is : List Nat) (hs : is.map (fun i => ws[i]?) = ([(mk, .inr (3, [.int (nI mn), .ref mx, .ref my])), (mx, .inl (cI, 32, .inl xs)), (my, .inl (cI, 32, .inl ys))] : va_W).map some) (hnd : va_nd is = true) (hsz : ls.size = nL) (hW : (rest.map fun v => v.category).sum ≤ Wd) (hdg : decode cc pc = .ok (.invokevirtual index, 3)) (hcel : cells ≤ R.cells ∧ slots ≤ R.slots) (kk : W p l e R s m args below meth c H locs cells slots Q (F0 m (pc + 3) ls (.int (bz (stM xs ys a0)) :: rest))) : W p l e R s m args below meth c H locs cells slots Q (F0 m pc ls (.int (nI a0) :: .ref mk :: rest)) :=
  kRV (n := 1) (As := [.int (nI a0)]) (ci := 3) S (c_X3_stays l D cI mk mx my a0 mn xs ys ha0) hl mw647 mw645 mw646 mw42 (by decide +kernel) hR rfl rfl rfl rfl hK hP hD is hs hnd hsz hW hdg hcel kk

set_option maxHeartbeats 4000000 in
set_option maxRecDepth 100000 in
theorem c_X3_area (l : Launch) (D : va_G) (cI : ClassId) (ax : Int64) (ay : Int64) (bx : Int64) (b_y : Int64) (cx : Int64) (cy : Int64) : CR l yX3_area (wm yX3_area cX3_area 12 (some .long)) 0 0 D cI [.long ax, .long ay, .long bx, .long b_y, .long cx, .long cy] [] (some (.long (arL ax ay bx b_y cx cy))) := by
  refine CR.of (by decide) (Nat.le_of_ble_eq_true rfl) ?_
  intro p e s m below meth c hx hb hr hml hown hlocks hta hP hD hK ls hl
  have hl : lv_has ls 12 [(0, .long ax), (2, .long ay), (4, .long bx), (6, .long b_y), (8, .long cx), (10, .long cy)] := hl
  have hP : va_P D vwCl [] s.heap := hP
  refine lv_lload hx hb dX3_area_0 (lv_at hl 2 rfl) ?_
  refine lv_lload_n hx hb dX3_area_2 rfl (lv_at hl 0 rfl) ?_
  refine lv_lsub hx hb dX3_area_3 ?_
  refine lv_lload hx hb dX3_area_4 (lv_at hl 5 rfl) ?_
  refine lv_lload_n hx hb dX3_area_6 rfl (lv_at hl 1 rfl) ?_
  refine lv_lsub hx hb dX3_area_7 ?_
  refine lv_lmul hx hb dX3_area_8 ?_
  refine lv_lload hx hb dX3_area_9 (lv_at hl 3 rfl) ?_
  refine lv_lload_n hx hb dX3_area_11 rfl (lv_at hl 1 rfl) ?_
  refine lv_lsub hx hb dX3_area_12 ?_
  refine lv_lload hx hb dX3_area_13 (lv_at hl 4 rfl) ?_
  refine lv_lload_n hx hb dX3_area_15 rfl (lv_at hl 0 rfl) ?_
  refine lv_lsub hx hb dX3_area_16 ?_
  refine lv_lmul hx hb dX3_area_17 ?_
  refine lv_lsub hx hb dX3_area_18 ?_
  exact rRl hx hb hr hlocks dX3_area_19 rfl
theorem k_X3_area {p : Program} {l : Launch} {e : Env} {R : Room} {s : State} {m : MethodId} {args : Array Value} {below : List Frame} {meth : Method} {c : Code} {H : Heap} {locs : List Loc} {cells slots : Nat} {Q : State → Prop} {pc : Nat} {ls : Array Slot} {rest : List Value} {cc : ByteArray} {nL index Wd : Nat} {own : String} {D : va_G} {cI : ClassId} (ax : Int64) (ay : Int64) (bx : Int64) (b_y : Int64) (cx : Int64) (cy : Int64) (S : CallFix p m c cc nL s args WA own) (hl : Cond.methodLink own index yX3_area ∈ WA) (hR : 0 + 1 ≤ R.frames ∧ Wd + (12 + 11) + 0 ≤ R.locals) (hK : KB D cI s) (hsz : ls.size = nL) (hW : (rest.map fun v => v.category).sum ≤ Wd) (hdg : decode cc pc = .ok (.invokestatic index, 3)) (hcel : cells ≤ R.cells ∧ slots ≤ R.slots) (kk : W p l e R s m args below meth c H locs cells slots Q (F0 m (pc + 3) ls (.long (arL ax ay bx b_y cx cy) :: rest))) : W p l e R s m args below meth c H locs cells slots Q (F0 m pc ls (.long cy :: .long cx :: .long b_y :: .long bx :: .long ay :: .long ax :: rest)) :=
  kRS (n := 6) (As := [.long ax, .long ay, .long bx, .long b_y, .long cx, .long cy]) S (c_X3_area l D cI ax ay bx b_y cx cy ) hl mw422 mw421 mw42 (by decide +kernel) hR rfl hK hsz hW hdg hcel kk

set_option maxHeartbeats 4000000 in
set_option maxRecDepth 100000 in
theorem c_X7_many (l : Launch) (D : va_G) (cI : ClassId) (th : Nat) (tc : Nat) (mk : Nat) (mx : Nat) (my : Nat) (tn : Nat) (cs : Nat → Int32) (mn : Nat) (xs : Nat → Int32) (ys : Nat → Int32) : CR l yX7_many (wm yX7_many cX7_many 1 (some .int)) 0 0 D cI [.ref th] [(th, .inr (7, [.ref mk, .int (nI tn), .ref tc])), (tc, .inl (cI, 72, .inl cs)), (mk, .inr (3, [.int (nI mn), .ref mx, .ref my])), (mx, .inl (cI, 32, .inl xs)), (my, .inl (cI, 32, .inl ys))] (some (.int (nI tn))) := by
  refine CR.of (by decide) (Nat.le_of_ble_eq_true rfl) ?_
  intro p e s m below meth c hx hb hr hml hown hlocks hta hP hD hK ls hl
  have hl : lv_has ls 1 [(0, .ref th)] := hl
  have hP : va_P D vwCl [(th, .inr (7, [.ref mk, .int (nI tn), .ref tc])), (tc, .inl (cI, 72, .inl cs)), (mk, .inr (3, [.int (nI mn), .ref mx, .ref my])), (mx, .inl (cI, 32, .inl xs)), (my, .inl (cI, 32, .inl ys))] s.heap := hP
  refine lv_aload_n hx hb dX7_many_0 rfl (lv_at hl 0 rfl) ?_
  refine getX hx hb hta inA7 hown hK hP 0 rfl rfl 1 (by decide) mw100 rfl rfl dX7_many_1 ?_
  exact rRi hx hb hr hlocks dX7_many_4 rfl
theorem k_X7_many {p : Program} {l : Launch} {e : Env} {R : Room} {s : State} {m : MethodId} {args : Array Value} {below : List Frame} {meth : Method} {c : Code} {H : Heap} {locs : List Loc} {cells slots : Nat} {Q : State → Prop} {pc : Nat} {ls : Array Slot} {rest : List Value} {cc : ByteArray} {nL index Wd : Nat} {own : String} {D : va_G} {cI : ClassId} {A : Nat → Prop} {ws : va_W} (th : Nat) (tc : Nat) (mk : Nat) (mx : Nat) (my : Nat) (tn : Nat) (cs : Nat → Int32) (mn : Nat) (xs : Nat → Int32) (ys : Nat → Int32) (S : CallFix p m c cc nL s args WA own) (hl : Cond.methodLink own index yX7_many ∈ WA) (hR : 0 + 1 ≤ R.frames ∧ Wd + (1 + 11) + 0 ≤ R.locals) (hK : KB D cI s) (hP : va_P D vwCl ws H) (hD : va_D A ws) (is : List Nat) (hs : is.map (fun i => ws[i]?) = ([(th, .inr (7, [.ref mk, .int (nI tn), .ref tc])), (tc, .inl (cI, 72, .inl cs)), (mk, .inr (3, [.int (nI mn), .ref mx, .ref my])), (mx, .inl (cI, 32, .inl xs)), (my, .inl (cI, 32, .inl ys))] : va_W).map some) (hnd : va_nd is = true) (hsz : ls.size = nL) (hW : (rest.map fun v => v.category).sum ≤ Wd) (hdg : decode cc pc = .ok (.invokevirtual index, 3)) (hcel : cells ≤ R.cells ∧ slots ≤ R.slots) (kk : W p l e R s m args below meth c H locs cells slots Q (F0 m (pc + 3) ls (.int (nI tn) :: rest))) : W p l e R s m args below meth c H locs cells slots Q (F0 m pc ls (.ref th :: rest)) :=
  kRV (n := 0) (As := []) (ci := 7) S (c_X7_many l D cI th tc mk mx my tn cs mn xs ys ) hl mw514 mw512 mw513 mw43 (by decide +kernel) hR rfl rfl rfl rfl hK hP hD is hs hnd hsz hW hdg hcel kk

set_option maxHeartbeats 4000000 in
set_option maxRecDepth 100000 in
theorem c_X7_isFull (l : Launch) (D : va_G) (cI : ClassId) (th : Nat) (tc : Nat) (mk : Nat) (mx : Nat) (my : Nat) (tn : Nat) (cs : Nat → Int32) (mn : Nat) (xs : Nat → Int32) (ys : Nat → Int32) (htn : tn ≤ 24) : CR l yX7_isFull (wm yX7_isFull cX7_isFull 1 (some .boolean)) 0 0 D cI [.ref th] [(th, .inr (7, [.ref mk, .int (nI tn), .ref tc])), (tc, .inl (cI, 72, .inl cs)), (mk, .inr (3, [.int (nI mn), .ref mx, .ref my])), (mx, .inl (cI, 32, .inl xs)), (my, .inl (cI, 32, .inl ys))] (some (.int (bz (!decide (tn < 24))))) := by
  refine CR.of (by decide) (Nat.le_of_ble_eq_true rfl) ?_
  intro p e s m below meth c hx hb hr hml hown hlocks hta hP hD hK ls hl
  have hl : lv_has ls 1 [(0, .ref th)] := hl
  have hP : va_P D vwCl [(th, .inr (7, [.ref mk, .int (nI tn), .ref tc])), (tc, .inl (cI, 72, .inl cs)), (mk, .inr (3, [.int (nI mn), .ref mx, .ref my])), (mx, .inl (cI, 32, .inl xs)), (my, .inl (cI, 32, .inl ys))] s.heap := hP
  refine lv_aload_n hx hb dX7_isFull_0 rfl (lv_at hl 0 rfl) ?_
  refine getX hx hb hta inA7 hown hK hP 0 rfl rfl 1 (by decide) mw100 rfl rfl dX7_isFull_1 ?_
  refine lv_bipush (v := nI 24) hx hb dX7_isFull_4 (by decide) ?_
  refine icmpN_lt (tgt := 13) hx hb dX7_isFull_6 (by decide) (by omega) (by omega) (fun c_6 => ?_) (fun c_6 => ?_)
  · refine lv_iconst (v := nI 0) hx hb dX7_isFull_13 (by decide) ?_
    exact rRz hx hb hr hlocks dX7_isFull_14 (by first | (simp only [bz, eq_true c_6, decide_true, decide_false, Bool.true_or, Bool.or_true, Bool.false_or, Bool.or_false, Bool.true_and, Bool.and_true, Bool.false_and, Bool.and_false, Bool.not_true, Bool.not_false, if_true, if_false, Bool.false_eq_true, and_true, true_and, and_false, false_and, or_true, true_or, or_false, false_or, not_true_eq_false, not_false_eq_true, bz]; done) | (simp only [bz, eq_true c_6, decide_true, decide_false, Bool.true_or, Bool.or_true, Bool.false_or, Bool.or_false, Bool.true_and, Bool.and_true, Bool.false_and, Bool.and_false, Bool.not_true, Bool.not_false, if_true, if_false, Bool.false_eq_true, and_true, true_and, and_false, false_and, or_true, true_or, or_false, false_or, not_true_eq_false, not_false_eq_true, bz]; rfl))
  · refine lv_iconst (v := nI 1) hx hb dX7_isFull_9 (by decide) ?_
    refine lv_goto (tgt := 14) hx hb dX7_isFull_10 (by decide) ?_
    exact rRz hx hb hr hlocks dX7_isFull_14 (by first | (simp only [bz, eq_false c_6, decide_true, decide_false, Bool.true_or, Bool.or_true, Bool.false_or, Bool.or_false, Bool.true_and, Bool.and_true, Bool.false_and, Bool.and_false, Bool.not_true, Bool.not_false, if_true, if_false, Bool.false_eq_true, and_true, true_and, and_false, false_and, or_true, true_or, or_false, false_or, not_true_eq_false, not_false_eq_true, bz]; done) | (simp only [bz, eq_false c_6, decide_true, decide_false, Bool.true_or, Bool.or_true, Bool.false_or, Bool.or_false, Bool.true_and, Bool.and_true, Bool.false_and, Bool.and_false, Bool.not_true, Bool.not_false, if_true, if_false, Bool.false_eq_true, and_true, true_and, and_false, false_and, or_true, true_or, or_false, false_or, not_true_eq_false, not_false_eq_true, bz]; rfl))
theorem k_X7_isFull {p : Program} {l : Launch} {e : Env} {R : Room} {s : State} {m : MethodId} {args : Array Value} {below : List Frame} {meth : Method} {c : Code} {H : Heap} {locs : List Loc} {cells slots : Nat} {Q : State → Prop} {pc : Nat} {ls : Array Slot} {rest : List Value} {cc : ByteArray} {nL index Wd : Nat} {own : String} {D : va_G} {cI : ClassId} {A : Nat → Prop} {ws : va_W} (th : Nat) (tc : Nat) (mk : Nat) (mx : Nat) (my : Nat) (tn : Nat) (cs : Nat → Int32) (mn : Nat) (xs : Nat → Int32) (ys : Nat → Int32) (htn : tn ≤ 24) (S : CallFix p m c cc nL s args WA own) (hl : Cond.methodLink own index yX7_isFull ∈ WA) (hR : 0 + 1 ≤ R.frames ∧ Wd + (1 + 11) + 0 ≤ R.locals) (hK : KB D cI s) (hP : va_P D vwCl ws H) (hD : va_D A ws) (is : List Nat) (hs : is.map (fun i => ws[i]?) = ([(th, .inr (7, [.ref mk, .int (nI tn), .ref tc])), (tc, .inl (cI, 72, .inl cs)), (mk, .inr (3, [.int (nI mn), .ref mx, .ref my])), (mx, .inl (cI, 32, .inl xs)), (my, .inl (cI, 32, .inl ys))] : va_W).map some) (hnd : va_nd is = true) (hsz : ls.size = nL) (hW : (rest.map fun v => v.category).sum ≤ Wd) (hdg : decode cc pc = .ok (.invokevirtual index, 3)) (hcel : cells ≤ R.cells ∧ slots ≤ R.slots) (kk : W p l e R s m args below meth c H locs cells slots Q (F0 m (pc + 3) ls (.int (bz (!decide (tn < 24))) :: rest))) : W p l e R s m args below meth c H locs cells slots Q (F0 m pc ls (.ref th :: rest)) :=
  kRV (n := 0) (As := []) (ci := 7) S (c_X7_isFull l D cI th tc mk mx my tn cs mn xs ys htn) hl mw400 mw398 mw399 mw43 (by decide +kernel) hR rfl rfl rfl rfl hK hP hD is hs hnd hsz hW hdg hcel kk

set_option maxHeartbeats 4000000 in
set_option maxRecDepth 100000 in
theorem c_X7_isThird (l : Launch) (D : va_G) (cI : ClassId) (th : Nat) (tc : Nat) (mk : Nat) (mx : Nat) (my : Nat) (t0 : Int32) (tn : Nat) (cs : Nat → Int32) (mn : Nat) (xs : Nat → Int32) (ys : Nat → Int32) : CR l yX7_isThird (wm yX7_isThird cX7_isThird 2 (some .boolean)) 0 0 D cI [.ref th, .int t0] [(th, .inr (7, [.ref mk, .int (nI tn), .ref tc])), (tc, .inl (cI, 72, .inl cs)), (mk, .inr (3, [.int (nI mn), .ref mx, .ref my])), (mx, .inl (cI, 32, .inl xs)), (my, .inl (cI, 32, .inl ys))] (some (.int (bz (inM t0 tn)))) := by
  refine CR.of (by decide) (Nat.le_of_ble_eq_true rfl) ?_
  intro p e s m below meth c hx hb hr hml hown hlocks hta hP hD hK ls hl
  have hl : lv_has ls 2 [(0, .ref th), (1, .int t0)] := hl
  have hP : va_P D vwCl [(th, .inr (7, [.ref mk, .int (nI tn), .ref tc])), (tc, .inl (cI, 72, .inl cs)), (mk, .inr (3, [.int (nI mn), .ref mx, .ref my])), (mx, .inl (cI, 32, .inl xs)), (my, .inl (cI, 32, .inl ys))] s.heap := hP
  refine lv_iload_n hx hb dX7_isThird_0 rfl (lv_at hl 1 rfl) ?_
  refine ifI_lt (tgt := 16) hx hb dX7_isThird_1 (by decide) (fun c_1 => ?_) (fun c_1 => ?_)
  · refine lv_iconst (v := nI 0) hx hb dX7_isThird_16 (by decide) ?_
    exact rRz hx hb hr hlocks dX7_isThird_17 (by first | (simp only [inM, eq_true c_1, decide_true, decide_false, Bool.true_or, Bool.or_true, Bool.false_or, Bool.or_false, Bool.true_and, Bool.and_true, Bool.false_and, Bool.and_false, Bool.not_true, Bool.not_false, if_true, if_false, Bool.false_eq_true, and_true, true_and, and_false, false_and, or_true, true_or, or_false, false_or, not_true_eq_false, not_false_eq_true, bz]; done) | (simp only [inM, eq_true c_1, decide_true, decide_false, Bool.true_or, Bool.or_true, Bool.false_or, Bool.or_false, Bool.true_and, Bool.and_true, Bool.false_and, Bool.and_false, Bool.not_true, Bool.not_false, if_true, if_false, Bool.false_eq_true, and_true, true_and, and_false, false_and, or_true, true_or, or_false, false_or, not_true_eq_false, not_false_eq_true, bz]; rfl))
  · refine lv_iload_n hx hb dX7_isThird_4 rfl (lv_at hl 1 rfl) ?_
    refine lv_aload_n hx hb dX7_isThird_5 rfl (lv_at hl 0 rfl) ?_
    refine getX hx hb hta inA7 hown hK hP 0 rfl rfl 1 (by decide) mw100 rfl rfl dX7_isThird_6 ?_
    refine icmpI_ge (tgt := 16) hx hb dX7_isThird_9 (by decide) (fun c_9 => ?_) (fun c_9 => ?_)
    · refine lv_iconst (v := nI 0) hx hb dX7_isThird_16 (by decide) ?_
      exact rRz hx hb hr hlocks dX7_isThird_17 (by first | (simp only [inM, eq_false c_1, eq_false c_9, decide_true, decide_false, Bool.true_or, Bool.or_true, Bool.false_or, Bool.or_false, Bool.true_and, Bool.and_true, Bool.false_and, Bool.and_false, Bool.not_true, Bool.not_false, if_true, if_false, Bool.false_eq_true, and_true, true_and, and_false, false_and, or_true, true_or, or_false, false_or, not_true_eq_false, not_false_eq_true, bz]; done) | (simp only [inM, eq_false c_1, eq_false c_9, decide_true, decide_false, Bool.true_or, Bool.or_true, Bool.false_or, Bool.or_false, Bool.true_and, Bool.and_true, Bool.false_and, Bool.and_false, Bool.not_true, Bool.not_false, if_true, if_false, Bool.false_eq_true, and_true, true_and, and_false, false_and, or_true, true_or, or_false, false_or, not_true_eq_false, not_false_eq_true, bz]; rfl))
    · refine lv_iconst (v := nI 1) hx hb dX7_isThird_12 (by decide) ?_
      refine lv_goto (tgt := 17) hx hb dX7_isThird_13 (by decide) ?_
      exact rRz hx hb hr hlocks dX7_isThird_17 (by first | (simp only [inM, eq_false c_1, eq_true c_9, decide_true, decide_false, Bool.true_or, Bool.or_true, Bool.false_or, Bool.or_false, Bool.true_and, Bool.and_true, Bool.false_and, Bool.and_false, Bool.not_true, Bool.not_false, if_true, if_false, Bool.false_eq_true, and_true, true_and, and_false, false_and, or_true, true_or, or_false, false_or, not_true_eq_false, not_false_eq_true, bz]; done) | (simp only [inM, eq_false c_1, eq_true c_9, decide_true, decide_false, Bool.true_or, Bool.or_true, Bool.false_or, Bool.or_false, Bool.true_and, Bool.and_true, Bool.false_and, Bool.and_false, Bool.not_true, Bool.not_false, if_true, if_false, Bool.false_eq_true, and_true, true_and, and_false, false_and, or_true, true_or, or_false, false_or, not_true_eq_false, not_false_eq_true, bz]; rfl))
theorem k_X7_isThird {p : Program} {l : Launch} {e : Env} {R : Room} {s : State} {m : MethodId} {args : Array Value} {below : List Frame} {meth : Method} {c : Code} {H : Heap} {locs : List Loc} {cells slots : Nat} {Q : State → Prop} {pc : Nat} {ls : Array Slot} {rest : List Value} {cc : ByteArray} {nL index Wd : Nat} {own : String} {D : va_G} {cI : ClassId} {A : Nat → Prop} {ws : va_W} (th : Nat) (tc : Nat) (mk : Nat) (mx : Nat) (my : Nat) (t0 : Int32) (tn : Nat) (cs : Nat → Int32) (mn : Nat) (xs : Nat → Int32) (ys : Nat → Int32) (S : CallFix p m c cc nL s args WA own) (hl : Cond.methodLink own index yX7_isThird ∈ WA) (hR : 0 + 1 ≤ R.frames ∧ Wd + (2 + 11) + 0 ≤ R.locals) (hK : KB D cI s) (hP : va_P D vwCl ws H) (hD : va_D A ws) (is : List Nat) (hs : is.map (fun i => ws[i]?) = ([(th, .inr (7, [.ref mk, .int (nI tn), .ref tc])), (tc, .inl (cI, 72, .inl cs)), (mk, .inr (3, [.int (nI mn), .ref mx, .ref my])), (mx, .inl (cI, 32, .inl xs)), (my, .inl (cI, 32, .inl ys))] : va_W).map some) (hnd : va_nd is = true) (hsz : ls.size = nL) (hW : (rest.map fun v => v.category).sum ≤ Wd) (hdg : decode cc pc = .ok (.invokevirtual index, 3)) (hcel : cells ≤ R.cells ∧ slots ≤ R.slots) (kk : W p l e R s m args below meth c H locs cells slots Q (F0 m (pc + 3) ls (.int (bz (inM t0 tn)) :: rest))) : W p l e R s m args below meth c H locs cells slots Q (F0 m pc ls (.int t0 :: .ref th :: rest)) :=
  kRV (n := 1) (As := [.int t0]) (ci := 7) S (c_X7_isThird l D cI th tc mk mx my t0 tn cs mn xs ys ) hl mw412 mw410 mw411 mw43 (by decide +kernel) hR rfl rfl rfl rfl hK hP hD is hs hnd hsz hW hdg hcel kk

set_option maxHeartbeats 4000000 in
set_option maxRecDepth 100000 in
theorem c_X7_add (l : Launch) (D : va_G) (cI : ClassId) (th : Nat) (tc : Nat) (mk : Nat) (mx : Nat) (my : Nat) (a0 : Int32) (b0 : Int32) (c0 : Int32) (tn : Nat) (cs : Nat → Int32) (mn : Nat) (xs : Nat → Int32) (ys : Nat → Int32) (htn : tn < 24) : CW l yX7_add (wm yX7_add cX7_add 5 (some .int)) 0 0 D cI [.ref th, .int a0, .int b0, .int c0] [(th, .inr (7, [.ref mk, .int (nI tn), .ref tc])), (tc, .inl (cI, 72, .inl cs)), (mk, .inr (3, [.int (nI mn), .ref mx, .ref my])), (mx, .inl (cI, 32, .inl xs)), (my, .inl (cI, 32, .inl ys))] (fun v w' => v = some (.int (nI tn)) ∧ w' = [(th, .inr (7, [.ref mk, .int (nI (tn + 1)), .ref tc])), (tc, .inl (cI, 72, .inl (upd (upd (upd cs (3 * tn) a0) (3 * tn + 1) b0) (3 * tn + 2) c0))), (mk, .inr (3, [.int (nI mn), .ref mx, .ref my])), (mx, .inl (cI, 32, .inl xs)), (my, .inl (cI, 32, .inl ys))]) := by
  refine CW.of (by decide) (Nat.le_of_ble_eq_true rfl) ?_
  intro p e s m below meth c hx hb hr hml hown hlocks hta hP hD hK hS ls hl
  have hl : lv_has ls 5 [(0, .ref th), (1, .int a0), (2, .int b0), (3, .int c0)] := hl
  have hP : va_P D vwCl [(th, .inr (7, [.ref mk, .int (nI tn), .ref tc])), (tc, .inl (cI, 72, .inl cs)), (mk, .inr (3, [.int (nI mn), .ref mx, .ref my])), (mx, .inl (cI, 32, .inl xs)), (my, .inl (cI, 32, .inl ys))] s.heap := hP
  refine lv_aload_n hx hb dX7_add_0 rfl (lv_at hl 0 rfl) ?_
  refine getX hx hb hta inA7 hown hK hP 0 rfl rfl 1 (by decide) mw100 rfl rfl dX7_add_1 ?_
  refine lv_istore (lv' := [(4, .int (nI tn)), (0, .ref th), (1, .int a0), (2, .int b0), (3, .int c0)]) hx hb dX7_add_4 hl (by decide) rfl (fun ls hl => ?_)
  refine lv_aload_n hx hb dX7_add_6 rfl (lv_at hl 1 rfl) ?_
  refine lv_dup hx hb dX7_add_7 rfl ?_
  refine getX hx hb hta inA7 hown hK hP 0 rfl rfl 1 (by decide) mw100 rfl rfl dX7_add_8 ?_
  refine lv_iconst (v := nI 1) hx hb dX7_add_11 (by decide) ?_
  refine iaddN (a := tn) (b := 1) hx hb dX7_add_12 ?_
  refine putX hx hb hta inA7 tyX7 tyX7_ok nmX7 hown hK hP hD hS 0 rfl rfl 1 (by decide) mw100 rfl rfl (ty := .int) rfl rfl rfl (Nat.le_of_ble_eq_true rfl) dX7_add_13 (fun H locs hP hS => ?_)
  have hP : va_P D vwCl [(th, .inr (7, [.ref mk, .int (nI (tn + 1)), .ref tc])), (tc, .inl (cI, 72, .inl cs)), (mk, .inr (3, [.int (nI mn), .ref mx, .ref my])), (mx, .inl (cI, 32, .inl xs)), (my, .inl (cI, 32, .inl ys))] H := hP
  have hD : va_D (adrs [(th, .inr (7, [.ref mk, .int (nI tn), .ref tc])), (tc, .inl (cI, 72, .inl cs)), (mk, .inr (3, [.int (nI mn), .ref mx, .ref my])), (mx, .inl (cI, 32, .inl xs)), (my, .inl (cI, 32, .inl ys))]) [(th, .inr (7, [.ref mk, .int (nI (tn + 1)), .ref tc])), (tc, .inl (cI, 72, .inl cs)), (mk, .inr (3, [.int (nI mn), .ref mx, .ref my])), (mx, .inl (cI, 32, .inl xs)), (my, .inl (cI, 32, .inl ys))] := hD.same rfl
  refine lv_aload_n hx hb dX7_add_16 rfl (lv_at hl 1 rfl) ?_
  refine getX hx hb hta inA7 hown hK hP 0 rfl rfl 2 (by decide) mw101 rfl rfl dX7_add_17 ?_
  refine lv_iconst (v := nI 3) hx hb dX7_add_20 (by decide) ?_
  refine lv_iload hx hb dX7_add_21 (lv_at hl 0 rfl) ?_
  refine imulN (a := 3) (b := tn) hx hb dX7_add_23 ?_
  refine lv_iload_n hx hb dX7_add_24 rfl (lv_at hl 2 rfl) ?_
  refine iastN hx hb hK hP hD hS 1 rfl (by omega) (by decide) dX7_add_25 (fun H locs hP hS => ?_)
  have hP : va_P D vwCl [(th, .inr (7, [.ref mk, .int (nI (tn + 1)), .ref tc])), (tc, .inl (cI, 72, .inl (upd cs (3 * tn) a0))), (mk, .inr (3, [.int (nI mn), .ref mx, .ref my])), (mx, .inl (cI, 32, .inl xs)), (my, .inl (cI, 32, .inl ys))] H := hP
  have hD : va_D (adrs [(th, .inr (7, [.ref mk, .int (nI tn), .ref tc])), (tc, .inl (cI, 72, .inl cs)), (mk, .inr (3, [.int (nI mn), .ref mx, .ref my])), (mx, .inl (cI, 32, .inl xs)), (my, .inl (cI, 32, .inl ys))]) [(th, .inr (7, [.ref mk, .int (nI (tn + 1)), .ref tc])), (tc, .inl (cI, 72, .inl (upd cs (3 * tn) a0))), (mk, .inr (3, [.int (nI mn), .ref mx, .ref my])), (mx, .inl (cI, 32, .inl xs)), (my, .inl (cI, 32, .inl ys))] := hD.same rfl
  refine lv_aload_n hx hb dX7_add_26 rfl (lv_at hl 1 rfl) ?_
  refine getX hx hb hta inA7 hown hK hP 0 rfl rfl 2 (by decide) mw101 rfl rfl dX7_add_27 ?_
  refine lv_iconst (v := nI 3) hx hb dX7_add_30 (by decide) ?_
  refine lv_iload hx hb dX7_add_31 (lv_at hl 0 rfl) ?_
  refine imulN (a := 3) (b := tn) hx hb dX7_add_33 ?_
  refine lv_iconst (v := nI 1) hx hb dX7_add_34 (by decide) ?_
  refine iaddN (a := 3 * tn) (b := 1) hx hb dX7_add_35 ?_
  refine lv_iload_n hx hb dX7_add_36 rfl (lv_at hl 3 rfl) ?_
  refine iastN hx hb hK hP hD hS 1 rfl (by omega) (by decide) dX7_add_37 (fun H locs hP hS => ?_)
  have hP : va_P D vwCl [(th, .inr (7, [.ref mk, .int (nI (tn + 1)), .ref tc])), (tc, .inl (cI, 72, .inl (upd (upd cs (3 * tn) a0) (3 * tn + 1) b0))), (mk, .inr (3, [.int (nI mn), .ref mx, .ref my])), (mx, .inl (cI, 32, .inl xs)), (my, .inl (cI, 32, .inl ys))] H := hP
  have hD : va_D (adrs [(th, .inr (7, [.ref mk, .int (nI tn), .ref tc])), (tc, .inl (cI, 72, .inl cs)), (mk, .inr (3, [.int (nI mn), .ref mx, .ref my])), (mx, .inl (cI, 32, .inl xs)), (my, .inl (cI, 32, .inl ys))]) [(th, .inr (7, [.ref mk, .int (nI (tn + 1)), .ref tc])), (tc, .inl (cI, 72, .inl (upd (upd cs (3 * tn) a0) (3 * tn + 1) b0))), (mk, .inr (3, [.int (nI mn), .ref mx, .ref my])), (mx, .inl (cI, 32, .inl xs)), (my, .inl (cI, 32, .inl ys))] := hD.same rfl
  refine lv_aload_n hx hb dX7_add_38 rfl (lv_at hl 1 rfl) ?_
  refine getX hx hb hta inA7 hown hK hP 0 rfl rfl 2 (by decide) mw101 rfl rfl dX7_add_39 ?_
  refine lv_iconst (v := nI 3) hx hb dX7_add_42 (by decide) ?_
  refine lv_iload hx hb dX7_add_43 (lv_at hl 0 rfl) ?_
  refine imulN (a := 3) (b := tn) hx hb dX7_add_45 ?_
  refine lv_iconst (v := nI 2) hx hb dX7_add_46 (by decide) ?_
  refine iaddN (a := 3 * tn) (b := 2) hx hb dX7_add_47 ?_
  refine lv_iload_n hx hb dX7_add_48 rfl (lv_at hl 4 rfl) ?_
  refine iastN hx hb hK hP hD hS 1 rfl (by omega) (by decide) dX7_add_49 (fun H locs hP hS => ?_)
  have hP : va_P D vwCl [(th, .inr (7, [.ref mk, .int (nI (tn + 1)), .ref tc])), (tc, .inl (cI, 72, .inl (upd (upd (upd cs (3 * tn) a0) (3 * tn + 1) b0) (3 * tn + 2) c0))), (mk, .inr (3, [.int (nI mn), .ref mx, .ref my])), (mx, .inl (cI, 32, .inl xs)), (my, .inl (cI, 32, .inl ys))] H := hP
  have hD : va_D (adrs [(th, .inr (7, [.ref mk, .int (nI tn), .ref tc])), (tc, .inl (cI, 72, .inl cs)), (mk, .inr (3, [.int (nI mn), .ref mx, .ref my])), (mx, .inl (cI, 32, .inl xs)), (my, .inl (cI, 32, .inl ys))]) [(th, .inr (7, [.ref mk, .int (nI (tn + 1)), .ref tc])), (tc, .inl (cI, 72, .inl (upd (upd (upd cs (3 * tn) a0) (3 * tn + 1) b0) (3 * tn + 2) c0))), (mk, .inr (3, [.int (nI mn), .ref mx, .ref my])), (mx, .inl (cI, 32, .inl xs)), (my, .inl (cI, 32, .inl ys))] := hD.same rfl
  refine lv_iload hx hb dX7_add_50 (lv_at hl 0 rfl) ?_
  exact rWi hx hb hr hlocks dX7_add_52 hP hS rfl ⟨rfl, rfl⟩
theorem k_X7_add {p : Program} {l : Launch} {e : Env} {R : Room} {s : State} {m : MethodId} {args : Array Value} {below : List Frame} {meth : Method} {c : Code} {H : Heap} {locs : List Loc} {cells slots : Nat} {Q : State → Prop} {pc : Nat} {ls : Array Slot} {rest : List Value} {cc : ByteArray} {nL index Wd : Nat} {own : String} {D : va_G} {cI : ClassId} {A : Nat → Prop} {ws : va_W} {H0 : Heap} (th : Nat) (tc : Nat) (mk : Nat) (mx : Nat) (my : Nat) (a0 : Int32) (b0 : Int32) (c0 : Int32) (tn : Nat) (cs : Nat → Int32) (mn : Nat) (xs : Nat → Int32) (ys : Nat → Int32) (htn : tn < 24) (S : CallFix p m c cc nL s args WA own) (hl : Cond.methodLink own index yX7_add ∈ WA) (hR : 0 + 1 ≤ R.frames ∧ Wd + (5 + 11) + 0 ≤ R.locals) (hK : KB D cI s) (hP : va_P D vwCl ws H) (hD : va_D A ws) (hS : va_S A H0 H locs) (is : List Nat) (hs : is.map (fun i => ws[i]?) = ([(th, .inr (7, [.ref mk, .int (nI tn), .ref tc])), (tc, .inl (cI, 72, .inl cs)), (mk, .inr (3, [.int (nI mn), .ref mx, .ref my])), (mx, .inl (cI, 32, .inl xs)), (my, .inl (cI, 32, .inl ys))] : va_W).map some) (hnd : va_nd is = true) (hsz : ls.size = nL) (hW : (rest.map fun v => v.category).sum ≤ Wd) (hdg : decode cc pc = .ok (.invokevirtual index, 3)) (hcel : cells ≤ R.cells ∧ slots ≤ R.slots) (kk : ∀ (H1 : Heap) (locs1 : List Loc), va_P D vwCl (rp ws is [(th, .inr (7, [.ref mk, .int (nI (tn + 1)), .ref tc])), (tc, .inl (cI, 72, .inl (upd (upd (upd cs (3 * tn) a0) (3 * tn + 1) b0) (3 * tn + 2) c0))), (mk, .inr (3, [.int (nI mn), .ref mx, .ref my])), (mx, .inl (cI, 32, .inl xs)), (my, .inl (cI, 32, .inl ys))]) H1 → va_S A H0 H1 locs1 → W p l e R s m args below meth c H1 locs1 cells slots Q (F0 m (pc + 3) ls (.int (nI tn) :: rest))) : W p l e R s m args below meth c H locs cells slots Q (F0 m pc ls (.int c0 :: .int b0 :: .int a0 :: .ref th :: rest)) :=
  kWV (n := 3) (As := [.int a0, .int b0, .int c0]) (ci := 7) S (c_X7_add l D cI th tc mk mx my a0 b0 c0 tn cs mn xs ys htn) hl mw404 mw402 mw403 mw43 (by decide +kernel) hR rfl rfl rfl rfl hK hP hD hS is hs hnd hsz hW hdg hcel (fun v w' H1 locs1 hq h1 h2 => by obtain ⟨rfl, rfl⟩ := hq; exact kk  H1 locs1 h1 h2)

set_option maxHeartbeats 4000000 in
set_option maxRecDepth 100000 in
theorem c_X7_corner (l : Launch) (D : va_G) (cI : ClassId) (th : Nat) (tc : Nat) (mk : Nat) (mx : Nat) (my : Nat) (t0 : Nat) (w0 : Nat) (tn : Nat) (cs : Nat → Int32) (mn : Nat) (xs : Nat → Int32) (ys : Nat → Int32) (hmn : mn ≤ 16) (htn : tn ≤ 24) (hcs : CSok cs tn mn) (ht0 : t0 < tn) (hw0 : w0 < 3) : CR l yX7_corner (wm yX7_corner cX7_corner 3 (some .int)) 0 0 D cI [.ref th, .int (nI t0), .int (nI w0)] [(th, .inr (7, [.ref mk, .int (nI tn), .ref tc])), (tc, .inl (cI, 72, .inl cs)), (mk, .inr (3, [.int (nI mn), .ref mx, .ref my])), (mx, .inl (cI, 32, .inl xs)), (my, .inl (cI, 32, .inl ys))] (some (.int (nI (cn cs (3 * t0 + w0))))) := by
  refine CR.of (by decide) (Nat.le_of_ble_eq_true rfl) ?_
  intro p e s m below meth c hx hb hr hml hown hlocks hta hP hD hK ls hl
  have hl : lv_has ls 3 [(0, .ref th), (1, .int (nI t0)), (2, .int (nI w0))] := hl
  have hP : va_P D vwCl [(th, .inr (7, [.ref mk, .int (nI tn), .ref tc])), (tc, .inl (cI, 72, .inl cs)), (mk, .inr (3, [.int (nI mn), .ref mx, .ref my])), (mx, .inl (cI, 32, .inl xs)), (my, .inl (cI, 32, .inl ys))] s.heap := hP
  refine lv_aload_n hx hb dX7_corner_0 rfl (lv_at hl 0 rfl) ?_
  refine getX hx hb hta inA7 hown hK hP 0 rfl rfl 2 (by decide) mw101 rfl rfl dX7_corner_1 ?_
  refine lv_iconst (v := nI 3) hx hb dX7_corner_4 (by decide) ?_
  refine lv_iload_n hx hb dX7_corner_5 rfl (lv_at hl 1 rfl) ?_
  refine imulN (a := 3) (b := t0) hx hb dX7_corner_6 ?_
  refine lv_iload_n hx hb dX7_corner_7 rfl (lv_at hl 2 rfl) ?_
  refine iaddN (a := 3 * t0) (b := w0) hx hb dX7_corner_8 ?_
  refine ialdN hx hb hK hP 1 rfl (by omega) (by decide) dX7_corner_9 ?_
  exact rRi hx hb hr hlocks dX7_corner_10 (hcs _ (by omega)).1
theorem k_X7_corner {p : Program} {l : Launch} {e : Env} {R : Room} {s : State} {m : MethodId} {args : Array Value} {below : List Frame} {meth : Method} {c : Code} {H : Heap} {locs : List Loc} {cells slots : Nat} {Q : State → Prop} {pc : Nat} {ls : Array Slot} {rest : List Value} {cc : ByteArray} {nL index Wd : Nat} {own : String} {D : va_G} {cI : ClassId} {A : Nat → Prop} {ws : va_W} (th : Nat) (tc : Nat) (mk : Nat) (mx : Nat) (my : Nat) (t0 : Nat) (w0 : Nat) (tn : Nat) (cs : Nat → Int32) (mn : Nat) (xs : Nat → Int32) (ys : Nat → Int32) (hmn : mn ≤ 16) (htn : tn ≤ 24) (hcs : CSok cs tn mn) (ht0 : t0 < tn) (hw0 : w0 < 3) (S : CallFix p m c cc nL s args WA own) (hl : Cond.methodLink own index yX7_corner ∈ WA) (hR : 0 + 1 ≤ R.frames ∧ Wd + (3 + 11) + 0 ≤ R.locals) (hK : KB D cI s) (hP : va_P D vwCl ws H) (hD : va_D A ws) (is : List Nat) (hs : is.map (fun i => ws[i]?) = ([(th, .inr (7, [.ref mk, .int (nI tn), .ref tc])), (tc, .inl (cI, 72, .inl cs)), (mk, .inr (3, [.int (nI mn), .ref mx, .ref my])), (mx, .inl (cI, 32, .inl xs)), (my, .inl (cI, 32, .inl ys))] : va_W).map some) (hnd : va_nd is = true) (hsz : ls.size = nL) (hW : (rest.map fun v => v.category).sum ≤ Wd) (hdg : decode cc pc = .ok (.invokevirtual index, 3)) (hcel : cells ≤ R.cells ∧ slots ≤ R.slots) (kk : W p l e R s m args below meth c H locs cells slots Q (F0 m (pc + 3) ls (.int (nI (cn cs (3 * t0 + w0))) :: rest))) : W p l e R s m args below meth c H locs cells slots Q (F0 m pc ls (.int (nI w0) :: .int (nI t0) :: .ref th :: rest)) :=
  kRV (n := 2) (As := [.int (nI t0), .int (nI w0)]) (ci := 7) S (c_X7_corner l D cI th tc mk mx my t0 w0 tn cs mn xs ys hmn htn hcs ht0 hw0) hl mw395 mw393 mw394 mw43 (by decide +kernel) hR rfl rfl rfl rfl hK hP hD is hs hnd hsz hW hdg hcel kk

set_option maxHeartbeats 4000000 in
set_option maxRecDepth 100000 in
theorem c_X7_touches (l : Launch) (D : va_G) (cI : ClassId) (th : Nat) (tc : Nat) (mk : Nat) (mx : Nat) (my : Nat) (t0 : Nat) (a0 : Nat) (tn : Nat) (cs : Nat → Int32) (mn : Nat) (xs : Nat → Int32) (ys : Nat → Int32) (hmn : mn ≤ 16) (htn : tn ≤ 24) (hcs : CSok cs tn mn) (ht0 : t0 < tn) (ha0 : a0 < 16) : CR l yX7_touches (wm yX7_touches cX7_touches 3 (some .boolean)) 1 14 D cI [.ref th, .int (nI t0), .int (nI a0)] [(th, .inr (7, [.ref mk, .int (nI tn), .ref tc])), (tc, .inl (cI, 72, .inl cs)), (mk, .inr (3, [.int (nI mn), .ref mx, .ref my])), (mx, .inl (cI, 32, .inl xs)), (my, .inl (cI, 32, .inl ys))] (some (.int (bz (tch cs t0 a0)))) := by
  refine CR.of (by decide) (Nat.le_of_ble_eq_true rfl) ?_
  intro p e s m below meth c hx hb hr hml hown hlocks hta hP hD hK ls hl
  have hl : lv_has ls 3 [(0, .ref th), (1, .int (nI t0)), (2, .int (nI a0))] := hl
  have hP : va_P D vwCl [(th, .inr (7, [.ref mk, .int (nI tn), .ref tc])), (tc, .inl (cI, 72, .inl cs)), (mk, .inr (3, [.int (nI mn), .ref mx, .ref my])), (mx, .inl (cI, 32, .inl xs)), (my, .inl (cI, 32, .inl ys))] s.heap := hP
  have hc0 := (hcs (3 * t0 + 0) (by omega)).2
  have hc1 := (hcs (3 * t0 + 1) (by omega)).2
  have hc2 := (hcs (3 * t0 + 2) (by omega)).2
  refine lv_aload_n hx hb dX7_touches_0 rfl (lv_at hl 0 rfl) ?_
  refine lv_iload_n hx hb dX7_touches_1 rfl (lv_at hl 1 rfl) ?_
  refine lv_iconst (v := nI 0) hx hb dX7_touches_2 (by decide) ?_
  refine k_X7_corner (Wd := 0) th tc mk mx my t0 0 tn cs mn xs ys hmn htn hcs ht0 (by omega) ⟨hx, hb, hml, hown, hta⟩ mw392 ⟨Nat.le_of_ble_eq_true rfl, Nat.le_of_ble_eq_true rfl⟩ hK hP hD [0, 1, 2, 3, 4] rfl rfl hl.1 (Nat.le_of_ble_eq_true rfl) dX7_touches_3 ⟨Nat.le_of_ble_eq_true rfl, Nat.le_of_ble_eq_true rfl⟩ ?_
  refine lv_iload_n hx hb dX7_touches_6 rfl (lv_at hl 2 rfl) ?_
  refine icmpN_eq (tgt := 30) hx hb dX7_touches_7 (by decide) (by omega) (by omega) (fun c_7 => ?_) (fun c_7 => ?_)
  · refine lv_iconst (v := nI 1) hx hb dX7_touches_30 (by decide) ?_
    refine lv_goto (tgt := 35) hx hb dX7_touches_31 (by decide) ?_
    exact rRz hx hb hr hlocks dX7_touches_35 (by first | (simp only [tch, eq_true c_7, decide_true, decide_false, Bool.true_or, Bool.or_true, Bool.false_or, Bool.or_false, Bool.true_and, Bool.and_true, Bool.false_and, Bool.and_false, Bool.not_true, Bool.not_false, if_true, if_false, Bool.false_eq_true, and_true, true_and, and_false, false_and, or_true, true_or, or_false, false_or, not_true_eq_false, not_false_eq_true, bz]; done) | (simp only [tch, eq_true c_7, decide_true, decide_false, Bool.true_or, Bool.or_true, Bool.false_or, Bool.or_false, Bool.true_and, Bool.and_true, Bool.false_and, Bool.and_false, Bool.not_true, Bool.not_false, if_true, if_false, Bool.false_eq_true, and_true, true_and, and_false, false_and, or_true, true_or, or_false, false_or, not_true_eq_false, not_false_eq_true, bz]; rfl))
  · refine lv_aload_n hx hb dX7_touches_10 rfl (lv_at hl 0 rfl) ?_
    refine lv_iload_n hx hb dX7_touches_11 rfl (lv_at hl 1 rfl) ?_
    refine lv_iconst (v := nI 1) hx hb dX7_touches_12 (by decide) ?_
    refine k_X7_corner (Wd := 0) th tc mk mx my t0 1 tn cs mn xs ys hmn htn hcs ht0 (by omega) ⟨hx, hb, hml, hown, hta⟩ mw392 ⟨Nat.le_of_ble_eq_true rfl, Nat.le_of_ble_eq_true rfl⟩ hK hP hD [0, 1, 2, 3, 4] rfl rfl hl.1 (Nat.le_of_ble_eq_true rfl) dX7_touches_13 ⟨Nat.le_of_ble_eq_true rfl, Nat.le_of_ble_eq_true rfl⟩ ?_
    refine lv_iload_n hx hb dX7_touches_16 rfl (lv_at hl 2 rfl) ?_
    refine icmpN_eq (tgt := 30) hx hb dX7_touches_17 (by decide) (by omega) (by omega) (fun c_17 => ?_) (fun c_17 => ?_)
    · refine lv_iconst (v := nI 1) hx hb dX7_touches_30 (by decide) ?_
      refine lv_goto (tgt := 35) hx hb dX7_touches_31 (by decide) ?_
      exact rRz hx hb hr hlocks dX7_touches_35 (by first | (simp only [tch, eq_false c_7, eq_true c_17, decide_true, decide_false, Bool.true_or, Bool.or_true, Bool.false_or, Bool.or_false, Bool.true_and, Bool.and_true, Bool.false_and, Bool.and_false, Bool.not_true, Bool.not_false, if_true, if_false, Bool.false_eq_true, and_true, true_and, and_false, false_and, or_true, true_or, or_false, false_or, not_true_eq_false, not_false_eq_true, bz]; done) | (simp only [tch, eq_false c_7, eq_true c_17, decide_true, decide_false, Bool.true_or, Bool.or_true, Bool.false_or, Bool.or_false, Bool.true_and, Bool.and_true, Bool.false_and, Bool.and_false, Bool.not_true, Bool.not_false, if_true, if_false, Bool.false_eq_true, and_true, true_and, and_false, false_and, or_true, true_or, or_false, false_or, not_true_eq_false, not_false_eq_true, bz]; rfl))
    · refine lv_aload_n hx hb dX7_touches_20 rfl (lv_at hl 0 rfl) ?_
      refine lv_iload_n hx hb dX7_touches_21 rfl (lv_at hl 1 rfl) ?_
      refine lv_iconst (v := nI 2) hx hb dX7_touches_22 (by decide) ?_
      refine k_X7_corner (Wd := 0) th tc mk mx my t0 2 tn cs mn xs ys hmn htn hcs ht0 (by omega) ⟨hx, hb, hml, hown, hta⟩ mw392 ⟨Nat.le_of_ble_eq_true rfl, Nat.le_of_ble_eq_true rfl⟩ hK hP hD [0, 1, 2, 3, 4] rfl rfl hl.1 (Nat.le_of_ble_eq_true rfl) dX7_touches_23 ⟨Nat.le_of_ble_eq_true rfl, Nat.le_of_ble_eq_true rfl⟩ ?_
      refine lv_iload_n hx hb dX7_touches_26 rfl (lv_at hl 2 rfl) ?_
      refine icmpN_ne (tgt := 34) hx hb dX7_touches_27 (by decide) (by omega) (by omega) (fun c_27 => ?_) (fun c_27 => ?_)
      · refine lv_iconst (v := nI 0) hx hb dX7_touches_34 (by decide) ?_
        exact rRz hx hb hr hlocks dX7_touches_35 (by first | (simp only [tch, eq_false c_7, eq_false c_17, eq_false c_27, decide_true, decide_false, Bool.true_or, Bool.or_true, Bool.false_or, Bool.or_false, Bool.true_and, Bool.and_true, Bool.false_and, Bool.and_false, Bool.not_true, Bool.not_false, if_true, if_false, Bool.false_eq_true, and_true, true_and, and_false, false_and, or_true, true_or, or_false, false_or, not_true_eq_false, not_false_eq_true, bz]; done) | (simp only [tch, eq_false c_7, eq_false c_17, eq_false c_27, decide_true, decide_false, Bool.true_or, Bool.or_true, Bool.false_or, Bool.or_false, Bool.true_and, Bool.and_true, Bool.false_and, Bool.and_false, Bool.not_true, Bool.not_false, if_true, if_false, Bool.false_eq_true, and_true, true_and, and_false, false_and, or_true, true_or, or_false, false_or, not_true_eq_false, not_false_eq_true, bz]; rfl))
      · refine lv_iconst (v := nI 1) hx hb dX7_touches_30 (by decide) ?_
        refine lv_goto (tgt := 35) hx hb dX7_touches_31 (by decide) ?_
        exact rRz hx hb hr hlocks dX7_touches_35 (by first | (simp only [tch, eq_false c_7, eq_false c_17, eq_true c_27, decide_true, decide_false, Bool.true_or, Bool.or_true, Bool.false_or, Bool.or_false, Bool.true_and, Bool.and_true, Bool.false_and, Bool.and_false, Bool.not_true, Bool.not_false, if_true, if_false, Bool.false_eq_true, and_true, true_and, and_false, false_and, or_true, true_or, or_false, false_or, not_true_eq_false, not_false_eq_true, bz]; done) | (simp only [tch, eq_false c_7, eq_false c_17, eq_true c_27, decide_true, decide_false, Bool.true_or, Bool.or_true, Bool.false_or, Bool.or_false, Bool.true_and, Bool.and_true, Bool.false_and, Bool.and_false, Bool.not_true, Bool.not_false, if_true, if_false, Bool.false_eq_true, and_true, true_and, and_false, false_and, or_true, true_or, or_false, false_or, not_true_eq_false, not_false_eq_true, bz]; rfl))
theorem k_X7_touches {p : Program} {l : Launch} {e : Env} {R : Room} {s : State} {m : MethodId} {args : Array Value} {below : List Frame} {meth : Method} {c : Code} {H : Heap} {locs : List Loc} {cells slots : Nat} {Q : State → Prop} {pc : Nat} {ls : Array Slot} {rest : List Value} {cc : ByteArray} {nL index Wd : Nat} {own : String} {D : va_G} {cI : ClassId} {A : Nat → Prop} {ws : va_W} (th : Nat) (tc : Nat) (mk : Nat) (mx : Nat) (my : Nat) (t0 : Nat) (a0 : Nat) (tn : Nat) (cs : Nat → Int32) (mn : Nat) (xs : Nat → Int32) (ys : Nat → Int32) (hmn : mn ≤ 16) (htn : tn ≤ 24) (hcs : CSok cs tn mn) (ht0 : t0 < tn) (ha0 : a0 < 16) (S : CallFix p m c cc nL s args WA own) (hl : Cond.methodLink own index yX7_touches ∈ WA) (hR : 1 + 1 ≤ R.frames ∧ Wd + (3 + 11) + 14 ≤ R.locals) (hK : KB D cI s) (hP : va_P D vwCl ws H) (hD : va_D A ws) (is : List Nat) (hs : is.map (fun i => ws[i]?) = ([(th, .inr (7, [.ref mk, .int (nI tn), .ref tc])), (tc, .inl (cI, 72, .inl cs)), (mk, .inr (3, [.int (nI mn), .ref mx, .ref my])), (mx, .inl (cI, 32, .inl xs)), (my, .inl (cI, 32, .inl ys))] : va_W).map some) (hnd : va_nd is = true) (hsz : ls.size = nL) (hW : (rest.map fun v => v.category).sum ≤ Wd) (hdg : decode cc pc = .ok (.invokevirtual index, 3)) (hcel : cells ≤ R.cells ∧ slots ≤ R.slots) (kk : W p l e R s m args below meth c H locs cells slots Q (F0 m (pc + 3) ls (.int (bz (tch cs t0 a0)) :: rest))) : W p l e R s m args below meth c H locs cells slots Q (F0 m pc ls (.int (nI a0) :: .int (nI t0) :: .ref th :: rest)) :=
  kRV (n := 2) (As := [.int (nI t0), .int (nI a0)]) (ci := 7) S (c_X7_touches l D cI th tc mk mx my t0 a0 tn cs mn xs ys hmn htn hcs ht0 ha0) hl mw391 mw389 mw390 mw43 (by decide +kernel) hR rfl rfl rfl rfl hK hP hD is hs hnd hsz hW hdg hcel kk

set_option maxHeartbeats 4000000 in
set_option maxRecDepth 100000 in
theorem c_X7_tickArea (l : Launch) (D : va_G) (cI : ClassId) (th : Nat) (tc : Nat) (mk : Nat) (mx : Nat) (my : Nat) (t0 : Nat) (k0 : Int32) (n0 : Int32) (tn : Nat) (cs : Nat → Int32) (mn : Nat) (xs : Nat → Int32) (ys : Nat → Int32) (hmn : mn ≤ 16) (htn : tn ≤ 24) (hcs : CSok cs tn mn) (ht0 : t0 < tn) : CR l yX7_tickArea (wm yX7_tickArea cX7_tickArea 7 (some .long)) 2 41 D cI [.ref th, .int (nI t0), .int k0, .int n0] [(th, .inr (7, [.ref mk, .int (nI tn), .ref tc])), (tc, .inl (cI, 72, .inl cs)), (mk, .inr (3, [.int (nI mn), .ref mx, .ref my])), (mx, .inl (cI, 32, .inl xs)), (my, .inl (cI, 32, .inl ys))] (some (.long (tAr cs xs ys t0 k0 n0))) := by
  refine CR.of (by decide) (Nat.le_of_ble_eq_true rfl) ?_
  intro p e s m below meth c hx hb hr hml hown hlocks hta hP hD hK ls hl
  have hl : lv_has ls 7 [(0, .ref th), (1, .int (nI t0)), (2, .int k0), (3, .int n0)] := hl
  have hP : va_P D vwCl [(th, .inr (7, [.ref mk, .int (nI tn), .ref tc])), (tc, .inl (cI, 72, .inl cs)), (mk, .inr (3, [.int (nI mn), .ref mx, .ref my])), (mx, .inl (cI, 32, .inl xs)), (my, .inl (cI, 32, .inl ys))] s.heap := hP
  have hc0 := (hcs (3 * t0 + 0) (by omega)).2
  have hc1 := (hcs (3 * t0 + 1) (by omega)).2
  have hc2 := (hcs (3 * t0 + 2) (by omega)).2
  refine lv_aload_n hx hb dX7_tickArea_0 rfl (lv_at hl 0 rfl) ?_
  refine lv_iload_n hx hb dX7_tickArea_1 rfl (lv_at hl 1 rfl) ?_
  refine lv_iconst (v := nI 0) hx hb dX7_tickArea_2 (by decide) ?_
  refine k_X7_corner (Wd := 0) th tc mk mx my t0 0 tn cs mn xs ys hmn htn hcs ht0 (by omega) ⟨hx, hb, hml, hown, hta⟩ mw392 ⟨Nat.le_of_ble_eq_true rfl, Nat.le_of_ble_eq_true rfl⟩ hK hP hD [0, 1, 2, 3, 4] rfl rfl hl.1 (Nat.le_of_ble_eq_true rfl) dX7_tickArea_3 ⟨Nat.le_of_ble_eq_true rfl, Nat.le_of_ble_eq_true rfl⟩ ?_
  refine lv_istore (lv' := [(4, .int (nI (cn cs (3 * t0 + 0)))), (0, .ref th), (1, .int (nI t0)), (2, .int k0), (3, .int n0)]) hx hb dX7_tickArea_6 hl (by decide) rfl (fun ls hl => ?_)
  refine lv_aload_n hx hb dX7_tickArea_8 rfl (lv_at hl 1 rfl) ?_
  refine lv_iload_n hx hb dX7_tickArea_9 rfl (lv_at hl 2 rfl) ?_
  refine lv_iconst (v := nI 1) hx hb dX7_tickArea_10 (by decide) ?_
  refine k_X7_corner (Wd := 0) th tc mk mx my t0 1 tn cs mn xs ys hmn htn hcs ht0 (by omega) ⟨hx, hb, hml, hown, hta⟩ mw392 ⟨Nat.le_of_ble_eq_true rfl, Nat.le_of_ble_eq_true rfl⟩ hK hP hD [0, 1, 2, 3, 4] rfl rfl hl.1 (Nat.le_of_ble_eq_true rfl) dX7_tickArea_11 ⟨Nat.le_of_ble_eq_true rfl, Nat.le_of_ble_eq_true rfl⟩ ?_
  refine lv_istore (lv' := [(5, .int (nI (cn cs (3 * t0 + 1)))), (4, .int (nI (cn cs (3 * t0 + 0)))), (0, .ref th), (1, .int (nI t0)), (2, .int k0), (3, .int n0)]) hx hb dX7_tickArea_14 hl (by decide) rfl (fun ls hl => ?_)
  refine lv_aload_n hx hb dX7_tickArea_16 rfl (lv_at hl 2 rfl) ?_
  refine lv_iload_n hx hb dX7_tickArea_17 rfl (lv_at hl 3 rfl) ?_
  refine lv_iconst (v := nI 2) hx hb dX7_tickArea_18 (by decide) ?_
  refine k_X7_corner (Wd := 0) th tc mk mx my t0 2 tn cs mn xs ys hmn htn hcs ht0 (by omega) ⟨hx, hb, hml, hown, hta⟩ mw392 ⟨Nat.le_of_ble_eq_true rfl, Nat.le_of_ble_eq_true rfl⟩ hK hP hD [0, 1, 2, 3, 4] rfl rfl hl.1 (Nat.le_of_ble_eq_true rfl) dX7_tickArea_19 ⟨Nat.le_of_ble_eq_true rfl, Nat.le_of_ble_eq_true rfl⟩ ?_
  refine lv_istore (lv' := [(6, .int (nI (cn cs (3 * t0 + 2)))), (5, .int (nI (cn cs (3 * t0 + 1)))), (4, .int (nI (cn cs (3 * t0 + 0)))), (0, .ref th), (1, .int (nI t0)), (2, .int k0), (3, .int n0)]) hx hb dX7_tickArea_22 hl (by decide) rfl (fun ls hl => ?_)
  refine lv_aload_n hx hb dX7_tickArea_24 rfl (lv_at hl 3 rfl) ?_
  refine getX hx hb hta inA7 hown hK hP 0 rfl rfl 0 (by decide) mw99 rfl rfl dX7_tickArea_25 ?_
  refine lv_iload hx hb dX7_tickArea_28 (lv_at hl 2 rfl) ?_
  refine lv_iload_n hx hb dX7_tickArea_30 rfl (lv_at hl 5 rfl) ?_
  refine lv_iload_n hx hb dX7_tickArea_31 rfl (lv_at hl 6 rfl) ?_
  refine k_X3_tickX (Wd := 0) mk mx my (cn cs (3 * t0 + 0)) k0 n0 mn xs ys (by omega) ⟨hx, hb, hml, hown, hta⟩ mw439 ⟨Nat.le_of_ble_eq_true rfl, Nat.le_of_ble_eq_true rfl⟩ hK hP hD [2, 3, 4] rfl rfl hl.1 (Nat.le_of_ble_eq_true rfl) dX7_tickArea_32 ⟨Nat.le_of_ble_eq_true rfl, Nat.le_of_ble_eq_true rfl⟩ ?_
  refine lv_i2l hx hb dX7_tickArea_35 rfl ?_
  refine lv_aload_n hx hb dX7_tickArea_36 rfl (lv_at hl 3 rfl) ?_
  refine getX hx hb hta inA7 hown hK hP 0 rfl rfl 0 (by decide) mw99 rfl rfl dX7_tickArea_37 ?_
  refine lv_iload hx hb dX7_tickArea_40 (lv_at hl 2 rfl) ?_
  refine lv_iload_n hx hb dX7_tickArea_42 rfl (lv_at hl 5 rfl) ?_
  refine lv_iload_n hx hb dX7_tickArea_43 rfl (lv_at hl 6 rfl) ?_
  refine k_X3_tickY (Wd := 2) mk mx my (cn cs (3 * t0 + 0)) k0 n0 mn xs ys (by omega) ⟨hx, hb, hml, hown, hta⟩ mw440 ⟨Nat.le_of_ble_eq_true rfl, Nat.le_of_ble_eq_true rfl⟩ hK hP hD [2, 3, 4] rfl rfl hl.1 (Nat.le_of_ble_eq_true rfl) dX7_tickArea_44 ⟨Nat.le_of_ble_eq_true rfl, Nat.le_of_ble_eq_true rfl⟩ ?_
  refine lv_i2l hx hb dX7_tickArea_47 rfl ?_
  refine lv_aload_n hx hb dX7_tickArea_48 rfl (lv_at hl 3 rfl) ?_
  refine getX hx hb hta inA7 hown hK hP 0 rfl rfl 0 (by decide) mw99 rfl rfl dX7_tickArea_49 ?_
  refine lv_iload hx hb dX7_tickArea_52 (lv_at hl 1 rfl) ?_
  refine lv_iload_n hx hb dX7_tickArea_54 rfl (lv_at hl 5 rfl) ?_
  refine lv_iload_n hx hb dX7_tickArea_55 rfl (lv_at hl 6 rfl) ?_
  refine k_X3_tickX (Wd := 4) mk mx my (cn cs (3 * t0 + 1)) k0 n0 mn xs ys (by omega) ⟨hx, hb, hml, hown, hta⟩ mw439 ⟨Nat.le_of_ble_eq_true rfl, Nat.le_of_ble_eq_true rfl⟩ hK hP hD [2, 3, 4] rfl rfl hl.1 (Nat.le_of_ble_eq_true rfl) dX7_tickArea_56 ⟨Nat.le_of_ble_eq_true rfl, Nat.le_of_ble_eq_true rfl⟩ ?_
  refine lv_i2l hx hb dX7_tickArea_59 rfl ?_
  refine lv_aload_n hx hb dX7_tickArea_60 rfl (lv_at hl 3 rfl) ?_
  refine getX hx hb hta inA7 hown hK hP 0 rfl rfl 0 (by decide) mw99 rfl rfl dX7_tickArea_61 ?_
  refine lv_iload hx hb dX7_tickArea_64 (lv_at hl 1 rfl) ?_
  refine lv_iload_n hx hb dX7_tickArea_66 rfl (lv_at hl 5 rfl) ?_
  refine lv_iload_n hx hb dX7_tickArea_67 rfl (lv_at hl 6 rfl) ?_
  refine k_X3_tickY (Wd := 6) mk mx my (cn cs (3 * t0 + 1)) k0 n0 mn xs ys (by omega) ⟨hx, hb, hml, hown, hta⟩ mw440 ⟨Nat.le_of_ble_eq_true rfl, Nat.le_of_ble_eq_true rfl⟩ hK hP hD [2, 3, 4] rfl rfl hl.1 (Nat.le_of_ble_eq_true rfl) dX7_tickArea_68 ⟨Nat.le_of_ble_eq_true rfl, Nat.le_of_ble_eq_true rfl⟩ ?_
  refine lv_i2l hx hb dX7_tickArea_71 rfl ?_
  refine lv_aload_n hx hb dX7_tickArea_72 rfl (lv_at hl 3 rfl) ?_
  refine getX hx hb hta inA7 hown hK hP 0 rfl rfl 0 (by decide) mw99 rfl rfl dX7_tickArea_73 ?_
  refine lv_iload hx hb dX7_tickArea_76 (lv_at hl 0 rfl) ?_
  refine lv_iload_n hx hb dX7_tickArea_78 rfl (lv_at hl 5 rfl) ?_
  refine lv_iload_n hx hb dX7_tickArea_79 rfl (lv_at hl 6 rfl) ?_
  refine k_X3_tickX (Wd := 8) mk mx my (cn cs (3 * t0 + 2)) k0 n0 mn xs ys (by omega) ⟨hx, hb, hml, hown, hta⟩ mw439 ⟨Nat.le_of_ble_eq_true rfl, Nat.le_of_ble_eq_true rfl⟩ hK hP hD [2, 3, 4] rfl rfl hl.1 (Nat.le_of_ble_eq_true rfl) dX7_tickArea_80 ⟨Nat.le_of_ble_eq_true rfl, Nat.le_of_ble_eq_true rfl⟩ ?_
  refine lv_i2l hx hb dX7_tickArea_83 rfl ?_
  refine lv_aload_n hx hb dX7_tickArea_84 rfl (lv_at hl 3 rfl) ?_
  refine getX hx hb hta inA7 hown hK hP 0 rfl rfl 0 (by decide) mw99 rfl rfl dX7_tickArea_85 ?_
  refine lv_iload hx hb dX7_tickArea_88 (lv_at hl 0 rfl) ?_
  refine lv_iload_n hx hb dX7_tickArea_90 rfl (lv_at hl 5 rfl) ?_
  refine lv_iload_n hx hb dX7_tickArea_91 rfl (lv_at hl 6 rfl) ?_
  refine k_X3_tickY (Wd := 10) mk mx my (cn cs (3 * t0 + 2)) k0 n0 mn xs ys (by omega) ⟨hx, hb, hml, hown, hta⟩ mw440 ⟨Nat.le_of_ble_eq_true rfl, Nat.le_of_ble_eq_true rfl⟩ hK hP hD [2, 3, 4] rfl rfl hl.1 (Nat.le_of_ble_eq_true rfl) dX7_tickArea_92 ⟨Nat.le_of_ble_eq_true rfl, Nat.le_of_ble_eq_true rfl⟩ ?_
  refine lv_i2l hx hb dX7_tickArea_95 rfl ?_
  refine k_X3_area (Wd := 0) ((tk xs (cn cs (3 * t0 + 0)) k0 n0).toInt64) ((tk ys (cn cs (3 * t0 + 0)) k0 n0).toInt64) ((tk xs (cn cs (3 * t0 + 1)) k0 n0).toInt64) ((tk ys (cn cs (3 * t0 + 1)) k0 n0).toInt64) ((tk xs (cn cs (3 * t0 + 2)) k0 n0).toInt64) ((tk ys (cn cs (3 * t0 + 2)) k0 n0).toInt64)  ⟨hx, hb, hml, hown, hta⟩ mw420 ⟨Nat.le_of_ble_eq_true rfl, Nat.le_of_ble_eq_true rfl⟩ hK hl.1 (Nat.le_of_ble_eq_true rfl) dX7_tickArea_96 ⟨Nat.le_of_ble_eq_true rfl, Nat.le_of_ble_eq_true rfl⟩ ?_
  exact rRl hx hb hr hlocks dX7_tickArea_99 rfl
theorem k_X7_tickArea {p : Program} {l : Launch} {e : Env} {R : Room} {s : State} {m : MethodId} {args : Array Value} {below : List Frame} {meth : Method} {c : Code} {H : Heap} {locs : List Loc} {cells slots : Nat} {Q : State → Prop} {pc : Nat} {ls : Array Slot} {rest : List Value} {cc : ByteArray} {nL index Wd : Nat} {own : String} {D : va_G} {cI : ClassId} {A : Nat → Prop} {ws : va_W} (th : Nat) (tc : Nat) (mk : Nat) (mx : Nat) (my : Nat) (t0 : Nat) (k0 : Int32) (n0 : Int32) (tn : Nat) (cs : Nat → Int32) (mn : Nat) (xs : Nat → Int32) (ys : Nat → Int32) (hmn : mn ≤ 16) (htn : tn ≤ 24) (hcs : CSok cs tn mn) (ht0 : t0 < tn) (S : CallFix p m c cc nL s args WA own) (hl : Cond.methodLink own index yX7_tickArea ∈ WA) (hR : 2 + 1 ≤ R.frames ∧ Wd + (7 + 11) + 41 ≤ R.locals) (hK : KB D cI s) (hP : va_P D vwCl ws H) (hD : va_D A ws) (is : List Nat) (hs : is.map (fun i => ws[i]?) = ([(th, .inr (7, [.ref mk, .int (nI tn), .ref tc])), (tc, .inl (cI, 72, .inl cs)), (mk, .inr (3, [.int (nI mn), .ref mx, .ref my])), (mx, .inl (cI, 32, .inl xs)), (my, .inl (cI, 32, .inl ys))] : va_W).map some) (hnd : va_nd is = true) (hsz : ls.size = nL) (hW : (rest.map fun v => v.category).sum ≤ Wd) (hdg : decode cc pc = .ok (.invokevirtual index, 3)) (hcel : cells ≤ R.cells ∧ slots ≤ R.slots) (kk : W p l e R s m args below meth c H locs cells slots Q (F0 m (pc + 3) ls (.long (tAr cs xs ys t0 k0 n0) :: rest))) : W p l e R s m args below meth c H locs cells slots Q (F0 m pc ls (.int n0 :: .int k0 :: .int (nI t0) :: .ref th :: rest)) :=
  kRV (n := 3) (As := [.int (nI t0), .int k0, .int n0]) (ci := 7) S (c_X7_tickArea l D cI th tc mk mx my t0 k0 n0 tn cs mn xs ys hmn htn hcs ht0) hl mw438 mw436 mw437 mw43 (by decide +kernel) hR rfl rfl rfl rfl hK hP hD is hs hnd hsz hW hdg hcel kk

set_option maxHeartbeats 4000000 in
set_option maxRecDepth 100000 in
theorem c_X7_areaIn (l : Launch) (D : va_G) (cI : ClassId) (th : Nat) (tc : Nat) (mk : Nat) (mx : Nat) (my : Nat) (t0 : Nat) (q0 : Nat) (tn : Nat) (cs : Nat → Int32) (mn : Nat) (xs : Nat → Int32) (ys : Nat → Int32) (hmn : mn ≤ 16) (htn : tn ≤ 24) (hcs : CSok cs tn mn) (ht0 : t0 < tn) (hq0 : q0 < 2) : CR l yX7_areaIn (wm yX7_areaIn cX7_areaIn 6 (some .int)) 1 24 D cI [.ref th, .int (nI t0), .int (nI q0)] [(th, .inr (7, [.ref mk, .int (nI tn), .ref tc])), (tc, .inl (cI, 72, .inl cs)), (mk, .inr (3, [.int (nI mn), .ref mx, .ref my])), (mx, .inl (cI, 32, .inl xs)), (my, .inl (cI, 32, .inl ys))] (some (.int (aIn cs xs ys t0 q0))) := by
  refine CR.of (by decide) (Nat.le_of_ble_eq_true rfl) ?_
  intro p e s m below meth c hx hb hr hml hown hlocks hta hP hD hK ls hl
  have hl : lv_has ls 6 [(0, .ref th), (1, .int (nI t0)), (2, .int (nI q0))] := hl
  have hP : va_P D vwCl [(th, .inr (7, [.ref mk, .int (nI tn), .ref tc])), (tc, .inl (cI, 72, .inl cs)), (mk, .inr (3, [.int (nI mn), .ref mx, .ref my])), (mx, .inl (cI, 32, .inl xs)), (my, .inl (cI, 32, .inl ys))] s.heap := hP
  have hc0 := (hcs (3 * t0 + 0) (by omega)).2
  have hc1 := (hcs (3 * t0 + 1) (by omega)).2
  have hc2 := (hcs (3 * t0 + 2) (by omega)).2
  refine lv_aload_n hx hb dX7_areaIn_0 rfl (lv_at hl 0 rfl) ?_
  refine lv_iload_n hx hb dX7_areaIn_1 rfl (lv_at hl 1 rfl) ?_
  refine lv_iconst (v := nI 0) hx hb dX7_areaIn_2 (by decide) ?_
  refine k_X7_corner (Wd := 0) th tc mk mx my t0 0 tn cs mn xs ys hmn htn hcs ht0 (by omega) ⟨hx, hb, hml, hown, hta⟩ mw392 ⟨Nat.le_of_ble_eq_true rfl, Nat.le_of_ble_eq_true rfl⟩ hK hP hD [0, 1, 2, 3, 4] rfl rfl hl.1 (Nat.le_of_ble_eq_true rfl) dX7_areaIn_3 ⟨Nat.le_of_ble_eq_true rfl, Nat.le_of_ble_eq_true rfl⟩ ?_
  refine lv_istore_n (lv' := [(3, .int (nI (cn cs (3 * t0 + 0)))), (0, .ref th), (1, .int (nI t0)), (2, .int (nI q0))]) hx hb dX7_areaIn_6 rfl hl (by decide) rfl (fun ls hl => ?_)
  refine lv_aload_n hx hb dX7_areaIn_7 rfl (lv_at hl 1 rfl) ?_
  refine lv_iload_n hx hb dX7_areaIn_8 rfl (lv_at hl 2 rfl) ?_
  refine lv_iconst (v := nI 1) hx hb dX7_areaIn_9 (by decide) ?_
  refine k_X7_corner (Wd := 0) th tc mk mx my t0 1 tn cs mn xs ys hmn htn hcs ht0 (by omega) ⟨hx, hb, hml, hown, hta⟩ mw392 ⟨Nat.le_of_ble_eq_true rfl, Nat.le_of_ble_eq_true rfl⟩ hK hP hD [0, 1, 2, 3, 4] rfl rfl hl.1 (Nat.le_of_ble_eq_true rfl) dX7_areaIn_10 ⟨Nat.le_of_ble_eq_true rfl, Nat.le_of_ble_eq_true rfl⟩ ?_
  refine lv_istore (lv' := [(4, .int (nI (cn cs (3 * t0 + 1)))), (3, .int (nI (cn cs (3 * t0 + 0)))), (0, .ref th), (1, .int (nI t0)), (2, .int (nI q0))]) hx hb dX7_areaIn_13 hl (by decide) rfl (fun ls hl => ?_)
  refine lv_aload_n hx hb dX7_areaIn_15 rfl (lv_at hl 2 rfl) ?_
  refine lv_iload_n hx hb dX7_areaIn_16 rfl (lv_at hl 3 rfl) ?_
  refine lv_iconst (v := nI 2) hx hb dX7_areaIn_17 (by decide) ?_
  refine k_X7_corner (Wd := 0) th tc mk mx my t0 2 tn cs mn xs ys hmn htn hcs ht0 (by omega) ⟨hx, hb, hml, hown, hta⟩ mw392 ⟨Nat.le_of_ble_eq_true rfl, Nat.le_of_ble_eq_true rfl⟩ hK hP hD [0, 1, 2, 3, 4] rfl rfl hl.1 (Nat.le_of_ble_eq_true rfl) dX7_areaIn_18 ⟨Nat.le_of_ble_eq_true rfl, Nat.le_of_ble_eq_true rfl⟩ ?_
  refine lv_istore (lv' := [(5, .int (nI (cn cs (3 * t0 + 2)))), (4, .int (nI (cn cs (3 * t0 + 1)))), (3, .int (nI (cn cs (3 * t0 + 0)))), (0, .ref th), (1, .int (nI t0)), (2, .int (nI q0))]) hx hb dX7_areaIn_21 hl (by decide) rfl (fun ls hl => ?_)
  refine lv_aload_n hx hb dX7_areaIn_23 rfl (lv_at hl 3 rfl) ?_
  refine getX hx hb hta inA7 hown hK hP 0 rfl rfl 0 (by decide) mw99 rfl rfl dX7_areaIn_24 ?_
  refine lv_iload_n hx hb dX7_areaIn_27 rfl (lv_at hl 2 rfl) ?_
  refine lv_iload_n hx hb dX7_areaIn_28 rfl (lv_at hl 5 rfl) ?_
  refine k_X3_x (Wd := 0) mk mx my (cn cs (3 * t0 + 0)) q0 mn xs ys (by omega) hq0 ⟨hx, hb, hml, hown, hta⟩ mw418 ⟨Nat.le_of_ble_eq_true rfl, Nat.le_of_ble_eq_true rfl⟩ hK hP hD [2, 3, 4] rfl rfl hl.1 (Nat.le_of_ble_eq_true rfl) dX7_areaIn_29 ⟨Nat.le_of_ble_eq_true rfl, Nat.le_of_ble_eq_true rfl⟩ ?_
  refine lv_i2l hx hb dX7_areaIn_32 rfl ?_
  refine lv_aload_n hx hb dX7_areaIn_33 rfl (lv_at hl 3 rfl) ?_
  refine getX hx hb hta inA7 hown hK hP 0 rfl rfl 0 (by decide) mw99 rfl rfl dX7_areaIn_34 ?_
  refine lv_iload_n hx hb dX7_areaIn_37 rfl (lv_at hl 2 rfl) ?_
  refine lv_iload_n hx hb dX7_areaIn_38 rfl (lv_at hl 5 rfl) ?_
  refine k_X3_y (Wd := 2) mk mx my (cn cs (3 * t0 + 0)) q0 mn xs ys (by omega) hq0 ⟨hx, hb, hml, hown, hta⟩ mw419 ⟨Nat.le_of_ble_eq_true rfl, Nat.le_of_ble_eq_true rfl⟩ hK hP hD [2, 3, 4] rfl rfl hl.1 (Nat.le_of_ble_eq_true rfl) dX7_areaIn_39 ⟨Nat.le_of_ble_eq_true rfl, Nat.le_of_ble_eq_true rfl⟩ ?_
  refine lv_i2l hx hb dX7_areaIn_42 rfl ?_
  refine lv_aload_n hx hb dX7_areaIn_43 rfl (lv_at hl 3 rfl) ?_
  refine getX hx hb hta inA7 hown hK hP 0 rfl rfl 0 (by decide) mw99 rfl rfl dX7_areaIn_44 ?_
  refine lv_iload hx hb dX7_areaIn_47 (lv_at hl 1 rfl) ?_
  refine lv_iload_n hx hb dX7_areaIn_49 rfl (lv_at hl 5 rfl) ?_
  refine k_X3_x (Wd := 4) mk mx my (cn cs (3 * t0 + 1)) q0 mn xs ys (by omega) hq0 ⟨hx, hb, hml, hown, hta⟩ mw418 ⟨Nat.le_of_ble_eq_true rfl, Nat.le_of_ble_eq_true rfl⟩ hK hP hD [2, 3, 4] rfl rfl hl.1 (Nat.le_of_ble_eq_true rfl) dX7_areaIn_50 ⟨Nat.le_of_ble_eq_true rfl, Nat.le_of_ble_eq_true rfl⟩ ?_
  refine lv_i2l hx hb dX7_areaIn_53 rfl ?_
  refine lv_aload_n hx hb dX7_areaIn_54 rfl (lv_at hl 3 rfl) ?_
  refine getX hx hb hta inA7 hown hK hP 0 rfl rfl 0 (by decide) mw99 rfl rfl dX7_areaIn_55 ?_
  refine lv_iload hx hb dX7_areaIn_58 (lv_at hl 1 rfl) ?_
  refine lv_iload_n hx hb dX7_areaIn_60 rfl (lv_at hl 5 rfl) ?_
  refine k_X3_y (Wd := 6) mk mx my (cn cs (3 * t0 + 1)) q0 mn xs ys (by omega) hq0 ⟨hx, hb, hml, hown, hta⟩ mw419 ⟨Nat.le_of_ble_eq_true rfl, Nat.le_of_ble_eq_true rfl⟩ hK hP hD [2, 3, 4] rfl rfl hl.1 (Nat.le_of_ble_eq_true rfl) dX7_areaIn_61 ⟨Nat.le_of_ble_eq_true rfl, Nat.le_of_ble_eq_true rfl⟩ ?_
  refine lv_i2l hx hb dX7_areaIn_64 rfl ?_
  refine lv_aload_n hx hb dX7_areaIn_65 rfl (lv_at hl 3 rfl) ?_
  refine getX hx hb hta inA7 hown hK hP 0 rfl rfl 0 (by decide) mw99 rfl rfl dX7_areaIn_66 ?_
  refine lv_iload hx hb dX7_areaIn_69 (lv_at hl 0 rfl) ?_
  refine lv_iload_n hx hb dX7_areaIn_71 rfl (lv_at hl 5 rfl) ?_
  refine k_X3_x (Wd := 8) mk mx my (cn cs (3 * t0 + 2)) q0 mn xs ys (by omega) hq0 ⟨hx, hb, hml, hown, hta⟩ mw418 ⟨Nat.le_of_ble_eq_true rfl, Nat.le_of_ble_eq_true rfl⟩ hK hP hD [2, 3, 4] rfl rfl hl.1 (Nat.le_of_ble_eq_true rfl) dX7_areaIn_72 ⟨Nat.le_of_ble_eq_true rfl, Nat.le_of_ble_eq_true rfl⟩ ?_
  refine lv_i2l hx hb dX7_areaIn_75 rfl ?_
  refine lv_aload_n hx hb dX7_areaIn_76 rfl (lv_at hl 3 rfl) ?_
  refine getX hx hb hta inA7 hown hK hP 0 rfl rfl 0 (by decide) mw99 rfl rfl dX7_areaIn_77 ?_
  refine lv_iload hx hb dX7_areaIn_80 (lv_at hl 0 rfl) ?_
  refine lv_iload_n hx hb dX7_areaIn_82 rfl (lv_at hl 5 rfl) ?_
  refine k_X3_y (Wd := 10) mk mx my (cn cs (3 * t0 + 2)) q0 mn xs ys (by omega) hq0 ⟨hx, hb, hml, hown, hta⟩ mw419 ⟨Nat.le_of_ble_eq_true rfl, Nat.le_of_ble_eq_true rfl⟩ hK hP hD [2, 3, 4] rfl rfl hl.1 (Nat.le_of_ble_eq_true rfl) dX7_areaIn_83 ⟨Nat.le_of_ble_eq_true rfl, Nat.le_of_ble_eq_true rfl⟩ ?_
  refine lv_i2l hx hb dX7_areaIn_86 rfl ?_
  refine k_X3_area (Wd := 0) ((xs (q0 * 16 + (cn cs (3 * t0 + 0)))).toInt64) ((ys (q0 * 16 + (cn cs (3 * t0 + 0)))).toInt64) ((xs (q0 * 16 + (cn cs (3 * t0 + 1)))).toInt64) ((ys (q0 * 16 + (cn cs (3 * t0 + 1)))).toInt64) ((xs (q0 * 16 + (cn cs (3 * t0 + 2)))).toInt64) ((ys (q0 * 16 + (cn cs (3 * t0 + 2)))).toInt64)  ⟨hx, hb, hml, hown, hta⟩ mw420 ⟨Nat.le_of_ble_eq_true rfl, Nat.le_of_ble_eq_true rfl⟩ hK hl.1 (Nat.le_of_ble_eq_true rfl) dX7_areaIn_87 ⟨Nat.le_of_ble_eq_true rfl, Nat.le_of_ble_eq_true rfl⟩ ?_
  refine lv_l2i hx hb dX7_areaIn_90 rfl ?_
  exact rRi hx hb hr hlocks dX7_areaIn_91 rfl
theorem k_X7_areaIn {p : Program} {l : Launch} {e : Env} {R : Room} {s : State} {m : MethodId} {args : Array Value} {below : List Frame} {meth : Method} {c : Code} {H : Heap} {locs : List Loc} {cells slots : Nat} {Q : State → Prop} {pc : Nat} {ls : Array Slot} {rest : List Value} {cc : ByteArray} {nL index Wd : Nat} {own : String} {D : va_G} {cI : ClassId} {A : Nat → Prop} {ws : va_W} (th : Nat) (tc : Nat) (mk : Nat) (mx : Nat) (my : Nat) (t0 : Nat) (q0 : Nat) (tn : Nat) (cs : Nat → Int32) (mn : Nat) (xs : Nat → Int32) (ys : Nat → Int32) (hmn : mn ≤ 16) (htn : tn ≤ 24) (hcs : CSok cs tn mn) (ht0 : t0 < tn) (hq0 : q0 < 2) (S : CallFix p m c cc nL s args WA own) (hl : Cond.methodLink own index yX7_areaIn ∈ WA) (hR : 1 + 1 ≤ R.frames ∧ Wd + (6 + 11) + 24 ≤ R.locals) (hK : KB D cI s) (hP : va_P D vwCl ws H) (hD : va_D A ws) (is : List Nat) (hs : is.map (fun i => ws[i]?) = ([(th, .inr (7, [.ref mk, .int (nI tn), .ref tc])), (tc, .inl (cI, 72, .inl cs)), (mk, .inr (3, [.int (nI mn), .ref mx, .ref my])), (mx, .inl (cI, 32, .inl xs)), (my, .inl (cI, 32, .inl ys))] : va_W).map some) (hnd : va_nd is = true) (hsz : ls.size = nL) (hW : (rest.map fun v => v.category).sum ≤ Wd) (hdg : decode cc pc = .ok (.invokevirtual index, 3)) (hcel : cells ≤ R.cells ∧ slots ≤ R.slots) (kk : W p l e R s m args below meth c H locs cells slots Q (F0 m (pc + 3) ls (.int (aIn cs xs ys t0 q0) :: rest))) : W p l e R s m args below meth c H locs cells slots Q (F0 m pc ls (.int (nI q0) :: .int (nI t0) :: .ref th :: rest)) :=
  kRV (n := 2) (As := [.int (nI t0), .int (nI q0)]) (ci := 7) S (c_X7_areaIn l D cI th tc mk mx my t0 q0 tn cs mn xs ys hmn htn hcs ht0 hq0) hl mw417 mw415 mw416 mw43 (by decide +kernel) hR rfl rfl rfl rfl hK hP hD is hs hnd hsz hW hdg hcel kk

set_option maxHeartbeats 4000000 in
set_option maxRecDepth 100000 in
theorem c_X7_isUpright (l : Launch) (D : va_G) (cI : ClassId) (th : Nat) (tc : Nat) (mk : Nat) (mx : Nat) (my : Nat) (t0 : Nat) (k0 : Int32) (n0 : Int32) (tn : Nat) (cs : Nat → Int32) (mn : Nat) (xs : Nat → Int32) (ys : Nat → Int32) (hmn : mn ≤ 16) (htn : tn ≤ 24) (hcs : CSok cs tn mn) (ht0 : t0 < tn) : CR l yX7_isUpright (wm yX7_isUpright cX7_isUpright 4 (some .boolean)) 3 59 D cI [.ref th, .int (nI t0), .int k0, .int n0] [(th, .inr (7, [.ref mk, .int (nI tn), .ref tc])), (tc, .inl (cI, 72, .inl cs)), (mk, .inr (3, [.int (nI mn), .ref mx, .ref my])), (mx, .inl (cI, 32, .inl xs)), (my, .inl (cI, 32, .inl ys))] (some (.int (bz (decide (0 < tAr cs xs ys t0 k0 n0))))) := by
  refine CR.of (by decide) (Nat.le_of_ble_eq_true rfl) ?_
  intro p e s m below meth c hx hb hr hml hown hlocks hta hP hD hK ls hl
  have hl : lv_has ls 4 [(0, .ref th), (1, .int (nI t0)), (2, .int k0), (3, .int n0)] := hl
  have hP : va_P D vwCl [(th, .inr (7, [.ref mk, .int (nI tn), .ref tc])), (tc, .inl (cI, 72, .inl cs)), (mk, .inr (3, [.int (nI mn), .ref mx, .ref my])), (mx, .inl (cI, 32, .inl xs)), (my, .inl (cI, 32, .inl ys))] s.heap := hP
  refine lv_aload_n hx hb dX7_isUpright_0 rfl (lv_at hl 0 rfl) ?_
  refine lv_iload_n hx hb dX7_isUpright_1 rfl (lv_at hl 1 rfl) ?_
  refine lv_iload_n hx hb dX7_isUpright_2 rfl (lv_at hl 2 rfl) ?_
  refine lv_iload_n hx hb dX7_isUpright_3 rfl (lv_at hl 3 rfl) ?_
  refine k_X7_tickArea (Wd := 0) th tc mk mx my t0 k0 n0 tn cs mn xs ys hmn htn hcs ht0 ⟨hx, hb, hml, hown, hta⟩ mw435 ⟨Nat.le_of_ble_eq_true rfl, Nat.le_of_ble_eq_true rfl⟩ hK hP hD [0, 1, 2, 3, 4] rfl rfl hl.1 (Nat.le_of_ble_eq_true rfl) dX7_isUpright_4 ⟨Nat.le_of_ble_eq_true rfl, Nat.le_of_ble_eq_true rfl⟩ ?_
  refine lv_lconst (v := 0) hx hb dX7_isUpright_7 (by decide) ?_
  refine W.lcmp hx hb dX7_isUpright_8 ?_
  refine ifL_le (tgt := 16) hx hb dX7_isUpright_9 (by decide) (fun c_9 => ?_) (fun c_9 => ?_)
  · refine lv_iconst (v := nI 0) hx hb dX7_isUpright_16 (by decide) ?_
    exact rRz hx hb hr hlocks dX7_isUpright_17 (by first | (simp only [bz, eq_false c_9, decide_true, decide_false, Bool.true_or, Bool.or_true, Bool.false_or, Bool.or_false, Bool.true_and, Bool.and_true, Bool.false_and, Bool.and_false, Bool.not_true, Bool.not_false, if_true, if_false, Bool.false_eq_true, and_true, true_and, and_false, false_and, or_true, true_or, or_false, false_or, not_true_eq_false, not_false_eq_true, bz]; done) | (simp only [bz, eq_false c_9, decide_true, decide_false, Bool.true_or, Bool.or_true, Bool.false_or, Bool.or_false, Bool.true_and, Bool.and_true, Bool.false_and, Bool.and_false, Bool.not_true, Bool.not_false, if_true, if_false, Bool.false_eq_true, and_true, true_and, and_false, false_and, or_true, true_or, or_false, false_or, not_true_eq_false, not_false_eq_true, bz]; rfl))
  · refine lv_iconst (v := nI 1) hx hb dX7_isUpright_12 (by decide) ?_
    refine lv_goto (tgt := 17) hx hb dX7_isUpright_13 (by decide) ?_
    exact rRz hx hb hr hlocks dX7_isUpright_17 (by first | (simp only [bz, eq_true c_9, decide_true, decide_false, Bool.true_or, Bool.or_true, Bool.false_or, Bool.or_false, Bool.true_and, Bool.and_true, Bool.false_and, Bool.and_false, Bool.not_true, Bool.not_false, if_true, if_false, Bool.false_eq_true, and_true, true_and, and_false, false_and, or_true, true_or, or_false, false_or, not_true_eq_false, not_false_eq_true, bz]; done) | (simp only [bz, eq_true c_9, decide_true, decide_false, Bool.true_or, Bool.or_true, Bool.false_or, Bool.or_false, Bool.true_and, Bool.and_true, Bool.false_and, Bool.and_false, Bool.not_true, Bool.not_false, if_true, if_false, Bool.false_eq_true, and_true, true_and, and_false, false_and, or_true, true_or, or_false, false_or, not_true_eq_false, not_false_eq_true, bz]; rfl))
theorem k_X7_isUpright {p : Program} {l : Launch} {e : Env} {R : Room} {s : State} {m : MethodId} {args : Array Value} {below : List Frame} {meth : Method} {c : Code} {H : Heap} {locs : List Loc} {cells slots : Nat} {Q : State → Prop} {pc : Nat} {ls : Array Slot} {rest : List Value} {cc : ByteArray} {nL index Wd : Nat} {own : String} {D : va_G} {cI : ClassId} {A : Nat → Prop} {ws : va_W} (th : Nat) (tc : Nat) (mk : Nat) (mx : Nat) (my : Nat) (t0 : Nat) (k0 : Int32) (n0 : Int32) (tn : Nat) (cs : Nat → Int32) (mn : Nat) (xs : Nat → Int32) (ys : Nat → Int32) (hmn : mn ≤ 16) (htn : tn ≤ 24) (hcs : CSok cs tn mn) (ht0 : t0 < tn) (S : CallFix p m c cc nL s args WA own) (hl : Cond.methodLink own index yX7_isUpright ∈ WA) (hR : 3 + 1 ≤ R.frames ∧ Wd + (4 + 11) + 59 ≤ R.locals) (hK : KB D cI s) (hP : va_P D vwCl ws H) (hD : va_D A ws) (is : List Nat) (hs : is.map (fun i => ws[i]?) = ([(th, .inr (7, [.ref mk, .int (nI tn), .ref tc])), (tc, .inl (cI, 72, .inl cs)), (mk, .inr (3, [.int (nI mn), .ref mx, .ref my])), (mx, .inl (cI, 32, .inl xs)), (my, .inl (cI, 32, .inl ys))] : va_W).map some) (hnd : va_nd is = true) (hsz : ls.size = nL) (hW : (rest.map fun v => v.category).sum ≤ Wd) (hdg : decode cc pc = .ok (.invokevirtual index, 3)) (hcel : cells ≤ R.cells ∧ slots ≤ R.slots) (kk : W p l e R s m args below meth c H locs cells slots Q (F0 m (pc + 3) ls (.int (bz (decide (0 < tAr cs xs ys t0 k0 n0))) :: rest))) : W p l e R s m args below meth c H locs cells slots Q (F0 m pc ls (.int n0 :: .int k0 :: .int (nI t0) :: .ref th :: rest)) :=
  kRV (n := 3) (As := [.int (nI t0), .int k0, .int n0]) (ci := 7) S (c_X7_isUpright l D cI th tc mk mx my t0 k0 n0 tn cs mn xs ys hmn htn hcs ht0) hl mw434 mw432 mw433 mw43 (by decide +kernel) hR rfl rfl rfl rfl hK hP hD is hs hnd hsz hW hdg hcel kk
end
