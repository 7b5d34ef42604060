set_option maxHeartbeats 4000000 in
set_option maxRecDepth 100000 in
theorem lawc_folds {p : Program} {l : Launch} {e : Env} {s : State} {m : MethodId} {below : List Frame} {meth : Method} {c : Code} {D : va_G} {cI : ClassId} {b L : Nat} {sc : Nat → Int32} (sb sh shl shn shi mk mx my th tc ea et es be pi piw pih pin po poc poa pob as_ asn : Nat) (md mdl mdm mdi mdp mdc mdt mds mdw mdh mdx mde mda mdb mdr : Nat) (fnd : Int32) (la : Nat → Int32) (le : Nat → Int32) (it : Nat → Int32) (mn : Nat) (xs : Nat → Int32) (ys : Nat → Int32) (tn : Nat) (cs : Nat → Int32) (kn : Nat) (kt : Nat → Int32) (ks : Nat → Int32) (bt : Int32) (ba : Int64) (b1 : Int64) (b2 : Int64) (b3 : Int64) (wd : Nat → Int32) (hg : Nat → Int32) (nb : Nat → Int32) (ra : Nat) (rb : Nat) (pa : Nat) (pb : Nat) (pm : Nat) (cst : Nat → Int32) (mA : Nat → Int32) (mB : Nat → Int32) (an : Nat) (tr : Nat → Int32) (ml : Nat → Int32) (mm : Nat → Int32) (mi : Nat → Int32) (s1 : Int64) (s2 : Int64) (s3 : Int64) (mt : Nat) (hC : LC p s m meth c D cI b L sc) (hI : INV la le it mn xs ys tn cs kn kt ks wd hg an ml mm mi) (H : Heap) (locs : List Loc) (hP : va_P D vwCl (wA sb sh shl shn shi mk mx my th tc ea et es be pi piw pih pin po poc poa pob as_ asn cI fnd la le it mn xs ys tn cs kn kt ks bt ba b1 b2 b3 wd hg nb ra rb pa pb pm cst mA mB an tr ++ wB md mdl mdm mdi mdp mdc mdt mds mdw mdh mdx mde mda mdb mdr cI fnd mn tn kn s1 s2 s3 mt an ml mm mi (plOf xs ys) cs kt ks wd hg nb cst mA mB tr) H) (hD : va_D (fun q : Nat => s.heap.size ≤ q) (wA sb sh shl shn shi mk mx my th tc ea et es be pi piw pih pin po poc poa pob as_ asn cI fnd la le it mn xs ys tn cs kn kt ks bt ba b1 b2 b3 wd hg nb ra rb pa pb pm cst mA mB an tr ++ wB md mdl mdm mdi mdp mdc mdt mds mdw mdh mdx mde mda mdb mdr cI fnd mn tn kn s1 s2 s3 mt an ml mm mi (plOf xs ys) cs kt ks wd hg nb cst mA mB tr)) (hS : va_S (fun q : Nat => s.heap.size ≤ q) s.heap H locs) (i : Nat) (hi : i + 6 ≤ L) (ih : LH p l e s m below meth c D cI b sb sh shl shn shi mk mx my th tc ea et es be pi piw pih pin po poc poa pob as_ asn md mdl mdm mdi mdp mdc mdt mds mdw mdh mdx mde mda mdb mdr (i + 6)) (ls : Array Slot) (hl : lv_has ls 4 [(0, .ref b), (1, .ref sb), (2, .ref md), (3, .int (nI i))]) : W p l e room_1 s m #[Value.ref b] below meth c H locs 39 5353 (lw_Z below #[Value.ref b] s) (F0 m 563 ls []) := by
  obtain ⟨hx, hb, hr, hml, hown, hta, hX, hbl, hlocks, hK, hL⟩ := hC
  obtain ⟨hRS, hmn, htn, hkn, hcs, hxs, hys, hko, hpi, han⟩ := hI
  have hbA : ¬ (fun q : Nat => s.heap.size ≤ q) b := Nat.not_le.mpr hbl
  have hkt := KOK_ne hko
  have hsh := RS_SH hRS
  refine lv_aload_n hx hb dL_law_563 rfl (lv_at hl 1 rfl) ?_
  refine lv_aload_n hx hb dL_law_564 rfl (lv_at hl 0 rfl) ?_
  refine lv_iload_n hx hb dL_law_565 rfl (lv_at hl 3 rfl) ?_
  refine lv_iconst (v := nI 1) hx hb dL_law_566 (by decide) ?_
  refine iaddN (a := i) (b := 1) hx hb dL_law_567 ?_
  refine va_sld hx hb hX hbl hbA hS (vp_in_nI (show i + 1 < L by omega) (by omega)) dL_law_568 ?_
  refine topI (sc (i + 1)) (congrArg sc (nI_clamp (by omega))) ?_
  refine lv_aload_n hx hb dL_law_569 rfl (lv_at hl 0 rfl) ?_
  refine lv_iload_n hx hb dL_law_570 rfl (lv_at hl 3 rfl) ?_
  refine lv_iconst (v := nI 2) hx hb dL_law_571 (by decide) ?_
  refine iaddN (a := i) (b := 2) hx hb dL_law_572 ?_
  refine va_sld hx hb hX hbl hbA hS (vp_in_nI (show i + 2 < L by omega) (by omega)) dL_law_573 ?_
  refine topI (sc (i + 2)) (congrArg sc (nI_clamp (by omega))) ?_
  refine k_X8_folds (Wd := 0) sb th tc mk mx my sh ea be pi po as_ (sc (i + 1)) (sc (i + 2)) fnd tn cs mn xs ys hmn htn hcs ⟨hx, hb, hml, hown, hta⟩ mw423 ⟨Nat.le_of_ble_eq_true rfl, Nat.le_of_ble_eq_true rfl⟩ hK hP hD [0, 8, 9, 5, 6, 7] rfl rfl hl.1 (Nat.le_of_ble_eq_true rfl) dL_law_574 ⟨Nat.le_of_ble_eq_true rfl, Nat.le_of_ble_eq_true rfl⟩ ?_
  refine lv_aload_n hx hb dL_law_577 rfl (lv_at hl 2 rfl) ?_
  refine lv_aload_n hx hb dL_law_578 rfl (lv_at hl 0 rfl) ?_
  refine lv_iload_n hx hb dL_law_579 rfl (lv_at hl 3 rfl) ?_
  refine lv_iconst (v := nI 1) hx hb dL_law_580 (by decide) ?_
  refine iaddN (a := i) (b := 1) hx hb dL_law_581 ?_
  refine va_sld hx hb hX hbl hbA hS (vp_in_nI (show i + 1 < L by omega) (by omega)) dL_law_582 ?_
  refine topI (sc (i + 1)) (congrArg sc (nI_clamp (by omega))) ?_
  refine lv_aload_n hx hb dL_law_583 rfl (lv_at hl 0 rfl) ?_
  refine lv_iload_n hx hb dL_law_584 rfl (lv_at hl 3 rfl) ?_
  refine lv_iconst (v := nI 2) hx hb dL_law_585 (by decide) ?_
  refine iaddN (a := i) (b := 2) hx hb dL_law_586 ?_
  refine va_sld hx hb hX hbl hbA hS (vp_in_nI (show i + 2 < L by omega) (by omega)) dL_law_587 ?_
  refine topI (sc (i + 2)) (congrArg sc (nI_clamp (by omega))) ?_
  refine k_X9_folds (Wd := 1) md mdp mdc mdl mdm mdi mdt mds mdw mdh mdx mde mda mdb mdr (sc (i + 1)) (sc (i + 2)) fnd mn tn kn s1 s2 s3 mt an cs _ _ hmn htn hcs ⟨hx, hb, hml, hown, hta⟩ mw900 ⟨Nat.le_of_ble_eq_true rfl, Nat.le_of_ble_eq_true rfl⟩ hK hP hD hS [24, 28, 29] rfl rfl hl.1 (Nat.le_of_ble_eq_true rfl) dL_law_588 ⟨Nat.le_of_ble_eq_true rfl, Nat.le_of_ble_eq_true rfl⟩ (fun H locs hP hS => ?_)
  have hP : va_P D vwCl (wA sb sh shl shn shi mk mx my th tc ea et es be pi piw pih pin po poc poa pob as_ asn cI fnd la le it mn xs ys tn cs kn kt ks bt ba b1 b2 b3 wd hg nb ra rb pa pb pm cst mA mB an tr ++ wB md mdl mdm mdi mdp mdc mdt mds mdw mdh mdx mde mda mdb mdr cI fnd mn tn kn s1 s2 s3 mt an ml mm mi (plOf xs ys) cs kt ks wd hg nb cst mA mB tr) H := hP
  have hD : va_D (fun q : Nat => s.heap.size ≤ q) (wA sb sh shl shn shi mk mx my th tc ea et es be pi piw pih pin po poc poa pob as_ asn cI fnd la le it mn xs ys tn cs kn kt ks bt ba b1 b2 b3 wd hg nb ra rb pa pb pm cst mA mB an tr ++ wB md mdl mdm mdi mdp mdc mdt mds mdw mdh mdx mde mda mdb mdr cI fnd mn tn kn s1 s2 s3 mt an ml mm mi (plOf xs ys) cs kt ks wd hg nb cst mA mB tr) := hD.same rfl
  refine icmpI_eq (tgt := 1227) hx hb dL_law_591 (by decide) (fun c9 => ?_) (fun c9 => absurd rfl c9)
  refine lv_iinc (v := nI (i + 6)) (lv' := [(3, .int (nI (i + 6))), (0, .ref b), (1, .ref sb), (2, .ref md)]) hx hb dL_law_1227 hl (k := 3) rfl (nI_inc6 _) (by decide) rfl (fun ls hl => ?_)
  refine lv_goto (tgt := 18) hx hb dL_law_1230 (by decide) ?_
  exact ih fnd la le it mn xs ys tn cs kn kt ks bt ba b1 b2 b3 wd hg nb ra rb pa pb pm cst mA mB an tr ml mm mi s1 s2 s3 mt ⟨hRS, hmn, htn, hkn, hcs, hxs, hys, hko, hpi, han⟩ H locs hP hS ls (lv_sub hl [1, 2, 3, 0] rfl)

set_option maxHeartbeats 4000000 in
set_option maxRecDepth 100000 in
theorem lawc_first {p : Program} {l : Launch} {e : Env} {s : State} {m : MethodId} {below : List Frame} {meth : Method} {c : Code} {D : va_G} {cI : ClassId} {b L : Nat} {sc : Nat → Int32} (sb sh shl shn shi mk mx my th tc ea et es be pi piw pih pin po poc poa pob as_ asn : Nat) (md mdl mdm mdi mdp mdc mdt mds mdw mdh mdx mde mda mdb mdr : Nat) (fnd : Int32) (la : Nat → Int32) (le : Nat → Int32) (it : Nat → Int32) (mn : Nat) (xs : Nat → Int32) (ys : Nat → Int32) (tn : Nat) (cs : Nat → Int32) (kn : Nat) (kt : Nat → Int32) (ks : Nat → Int32) (bt : Int32) (ba : Int64) (b1 : Int64) (b2 : Int64) (b3 : Int64) (wd : Nat → Int32) (hg : Nat → Int32) (nb : Nat → Int32) (ra : Nat) (rb : Nat) (pa : Nat) (pb : Nat) (pm : Nat) (cst : Nat → Int32) (mA : Nat → Int32) (mB : Nat → Int32) (an : Nat) (tr : Nat → Int32) (ml : Nat → Int32) (mm : Nat → Int32) (mi : Nat → Int32) (s1 : Int64) (s2 : Int64) (s3 : Int64) (mt : Nat) (hC : LC p s m meth c D cI b L sc) (hI : INV la le it mn xs ys tn cs kn kt ks wd hg an ml mm mi) (H : Heap) (locs : List Loc) (hP : va_P D vwCl (wA sb sh shl shn shi mk mx my th tc ea et es be pi piw pih pin po poc poa pob as_ asn cI fnd la le it mn xs ys tn cs kn kt ks bt ba b1 b2 b3 wd hg nb ra rb pa pb pm cst mA mB an tr ++ wB md mdl mdm mdi mdp mdc mdt mds mdw mdh mdx mde mda mdb mdr cI fnd mn tn kn s1 s2 s3 mt an ml mm mi (plOf xs ys) cs kt ks wd hg nb cst mA mB tr) H) (hD : va_D (fun q : Nat => s.heap.size ≤ q) (wA sb sh shl shn shi mk mx my th tc ea et es be pi piw pih pin po poc poa pob as_ asn cI fnd la le it mn xs ys tn cs kn kt ks bt ba b1 b2 b3 wd hg nb ra rb pa pb pm cst mA mB an tr ++ wB md mdl mdm mdi mdp mdc mdt mds mdw mdh mdx mde mda mdb mdr cI fnd mn tn kn s1 s2 s3 mt an ml mm mi (plOf xs ys) cs kt ks wd hg nb cst mA mB tr)) (hS : va_S (fun q : Nat => s.heap.size ≤ q) s.heap H locs) (i : Nat) (hi : i + 6 ≤ L) (ih : LH p l e s m below meth c D cI b sb sh shl shn shi mk mx my th tc ea et es be pi piw pih pin po poc poa pob as_ asn md mdl mdm mdi mdp mdc mdt mds mdw mdh mdx mde mda mdb mdr (i + 6)) (ls : Array Slot) (hl : lv_has ls 4 [(0, .ref b), (1, .ref sb), (2, .ref md), (3, .int (nI i))]) : W p l e room_1 s m #[Value.ref b] below meth c H locs 39 5353 (lw_Z below #[Value.ref b] s) (F0 m 596 ls []) := by
  obtain ⟨hx, hb, hr, hml, hown, hta, hX, hbl, hlocks, hK, hL⟩ := hC
  obtain ⟨hRS, hmn, htn, hkn, hcs, hxs, hys, hko, hpi, han⟩ := hI
  have hbA : ¬ (fun q : Nat => s.heap.size ≤ q) b := Nat.not_le.mpr hbl
  have hkt := KOK_ne hko
  have hsh := RS_SH hRS
  refine lv_aload_n hx hb dL_law_596 rfl (lv_at hl 1 rfl) ?_
  refine lv_aload_n hx hb dL_law_597 rfl (lv_at hl 0 rfl) ?_
  refine lv_iload_n hx hb dL_law_598 rfl (lv_at hl 3 rfl) ?_
  refine lv_iconst (v := nI 1) hx hb dL_law_599 (by decide) ?_
  refine iaddN (a := i) (b := 1) hx hb dL_law_600 ?_
  refine va_sld hx hb hX hbl hbA hS (vp_in_nI (show i + 1 < L by omega) (by omega)) dL_law_601 ?_
  refine topI (sc (i + 1)) (congrArg sc (nI_clamp (by omega))) ?_
  refine lv_aload_n hx hb dL_law_602 rfl (lv_at hl 0 rfl) ?_
  refine lv_iload_n hx hb dL_law_603 rfl (lv_at hl 3 rfl) ?_
  refine lv_iconst (v := nI 2) hx hb dL_law_604 (by decide) ?_
  refine iaddN (a := i) (b := 2) hx hb dL_law_605 ?_
  refine va_sld hx hb hX hbl hbA hS (vp_in_nI (show i + 2 < L by omega) (by omega)) dL_law_606 ?_
  refine topI (sc (i + 2)) (congrArg sc (nI_clamp (by omega))) ?_
  refine k_X8_first (Wd := 0) sb th tc mk mx my sh ea be pi po as_ (sc (i + 1)) (sc (i + 2)) fnd tn cs mn xs ys hmn htn hcs ⟨hx, hb, hml, hown, hta⟩ mw442 ⟨Nat.le_of_ble_eq_true rfl, Nat.le_of_ble_eq_true rfl⟩ hK hP hD [0, 8, 9, 5, 6, 7] rfl rfl hl.1 (Nat.le_of_ble_eq_true rfl) dL_law_607 ⟨Nat.le_of_ble_eq_true rfl, Nat.le_of_ble_eq_true rfl⟩ ?_
  refine lv_aload_n hx hb dL_law_610 rfl (lv_at hl 2 rfl) ?_
  refine lv_aload_n hx hb dL_law_611 rfl (lv_at hl 0 rfl) ?_
  refine lv_iload_n hx hb dL_law_612 rfl (lv_at hl 3 rfl) ?_
  refine lv_iconst (v := nI 1) hx hb dL_law_613 (by decide) ?_
  refine iaddN (a := i) (b := 1) hx hb dL_law_614 ?_
  refine va_sld hx hb hX hbl hbA hS (vp_in_nI (show i + 1 < L by omega) (by omega)) dL_law_615 ?_
  refine topI (sc (i + 1)) (congrArg sc (nI_clamp (by omega))) ?_
  refine lv_aload_n hx hb dL_law_616 rfl (lv_at hl 0 rfl) ?_
  refine lv_iload_n hx hb dL_law_617 rfl (lv_at hl 3 rfl) ?_
  refine lv_iconst (v := nI 2) hx hb dL_law_618 (by decide) ?_
  refine iaddN (a := i) (b := 2) hx hb dL_law_619 ?_
  refine va_sld hx hb hX hbl hbA hS (vp_in_nI (show i + 2 < L by omega) (by omega)) dL_law_620 ?_
  refine topI (sc (i + 2)) (congrArg sc (nI_clamp (by omega))) ?_
  refine k_X9_first (Wd := 1) md mdp mdc mdl mdm mdi mdt mds mdw mdh mdx mde mda mdb mdr (sc (i + 1)) (sc (i + 2)) fnd mn tn kn s1 s2 s3 mt an cs _ _ hmn htn hcs ⟨hx, hb, hml, hown, hta⟩ mw909 ⟨Nat.le_of_ble_eq_true rfl, Nat.le_of_ble_eq_true rfl⟩ hK hP hD hS [24, 28, 29] rfl rfl hl.1 (Nat.le_of_ble_eq_true rfl) dL_law_621 ⟨Nat.le_of_ble_eq_true rfl, Nat.le_of_ble_eq_true rfl⟩ (fun H locs hP hS => ?_)
  have hP : va_P D vwCl (wA sb sh shl shn shi mk mx my th tc ea et es be pi piw pih pin po poc poa pob as_ asn cI fnd la le it mn xs ys tn cs kn kt ks bt ba b1 b2 b3 wd hg nb ra rb pa pb pm cst mA mB an tr ++ wB md mdl mdm mdi mdp mdc mdt mds mdw mdh mdx mde mda mdb mdr cI fnd mn tn kn s1 s2 s3 mt an ml mm mi (plOf xs ys) cs kt ks wd hg nb cst mA mB tr) H := hP
  have hD : va_D (fun q : Nat => s.heap.size ≤ q) (wA sb sh shl shn shi mk mx my th tc ea et es be pi piw pih pin po poc poa pob as_ asn cI fnd la le it mn xs ys tn cs kn kt ks bt ba b1 b2 b3 wd hg nb ra rb pa pb pm cst mA mB an tr ++ wB md mdl mdm mdi mdp mdc mdt mds mdw mdh mdx mde mda mdb mdr cI fnd mn tn kn s1 s2 s3 mt an ml mm mi (plOf xs ys) cs kt ks wd hg nb cst mA mB tr) := hD.same rfl
  refine icmpI_eq (tgt := 1227) hx hb dL_law_624 (by decide) (fun c9 => ?_) (fun c9 => absurd rfl c9)
  refine lv_iinc (v := nI (i + 6)) (lv' := [(3, .int (nI (i + 6))), (0, .ref b), (1, .ref sb), (2, .ref md)]) hx hb dL_law_1227 hl (k := 3) rfl (nI_inc6 _) (by decide) rfl (fun ls hl => ?_)
  refine lv_goto (tgt := 18) hx hb dL_law_1230 (by decide) ?_
  exact ih fnd la le it mn xs ys tn cs kn kt ks bt ba b1 b2 b3 wd hg nb ra rb pa pb pm cst mA mB an tr ml mm mi s1 s2 s3 mt ⟨hRS, hmn, htn, hkn, hcs, hxs, hys, hko, hpi, han⟩ H locs hP hS ls (lv_sub hl [1, 2, 3, 0] rfl)

set_option maxHeartbeats 4000000 in
set_option maxRecDepth 100000 in
theorem lawc_sides {p : Program} {l : Launch} {e : Env} {s : State} {m : MethodId} {below : List Frame} {meth : Method} {c : Code} {D : va_G} {cI : ClassId} {b L : Nat} {sc : Nat → Int32} (sb sh shl shn shi mk mx my th tc ea et es be pi piw pih pin po poc poa pob as_ asn : Nat) (md mdl mdm mdi mdp mdc mdt mds mdw mdh mdx mde mda mdb mdr : Nat) (fnd : Int32) (la : Nat → Int32) (le : Nat → Int32) (it : Nat → Int32) (mn : Nat) (xs : Nat → Int32) (ys : Nat → Int32) (tn : Nat) (cs : Nat → Int32) (kn : Nat) (kt : Nat → Int32) (ks : Nat → Int32) (bt : Int32) (ba : Int64) (b1 : Int64) (b2 : Int64) (b3 : Int64) (wd : Nat → Int32) (hg : Nat → Int32) (nb : Nat → Int32) (ra : Nat) (rb : Nat) (pa : Nat) (pb : Nat) (pm : Nat) (cst : Nat → Int32) (mA : Nat → Int32) (mB : Nat → Int32) (an : Nat) (tr : Nat → Int32) (ml : Nat → Int32) (mm : Nat → Int32) (mi : Nat → Int32) (s1 : Int64) (s2 : Int64) (s3 : Int64) (mt : Nat) (hC : LC p s m meth c D cI b L sc) (hI : INV la le it mn xs ys tn cs kn kt ks wd hg an ml mm mi) (H : Heap) (locs : List Loc) (hP : va_P D vwCl (wA sb sh shl shn shi mk mx my th tc ea et es be pi piw pih pin po poc poa pob as_ asn cI fnd la le it mn xs ys tn cs kn kt ks bt ba b1 b2 b3 wd hg nb ra rb pa pb pm cst mA mB an tr ++ wB md mdl mdm mdi mdp mdc mdt mds mdw mdh mdx mde mda mdb mdr cI fnd mn tn kn s1 s2 s3 mt an ml mm mi (plOf xs ys) cs kt ks wd hg nb cst mA mB tr) H) (hD : va_D (fun q : Nat => s.heap.size ≤ q) (wA sb sh shl shn shi mk mx my th tc ea et es be pi piw pih pin po poc poa pob as_ asn cI fnd la le it mn xs ys tn cs kn kt ks bt ba b1 b2 b3 wd hg nb ra rb pa pb pm cst mA mB an tr ++ wB md mdl mdm mdi mdp mdc mdt mds mdw mdh mdx mde mda mdb mdr cI fnd mn tn kn s1 s2 s3 mt an ml mm mi (plOf xs ys) cs kt ks wd hg nb cst mA mB tr)) (hS : va_S (fun q : Nat => s.heap.size ≤ q) s.heap H locs) (i : Nat) (hi : i + 6 ≤ L) (ih : LH p l e s m below meth c D cI b sb sh shl shn shi mk mx my th tc ea et es be pi piw pih pin po poc poa pob as_ asn md mdl mdm mdi mdp mdc mdt mds mdw mdh mdx mde mda mdb mdr (i + 6)) (ls : Array Slot) (hl : lv_has ls 4 [(0, .ref b), (1, .ref sb), (2, .ref md), (3, .int (nI i))]) : W p l e room_1 s m #[Value.ref b] below meth c H locs 39 5353 (lw_Z below #[Value.ref b] s) (F0 m 629 ls []) := by
  obtain ⟨hx, hb, hr, hml, hown, hta, hX, hbl, hlocks, hK, hL⟩ := hC
  obtain ⟨hRS, hmn, htn, hkn, hcs, hxs, hys, hko, hpi, han⟩ := hI
  have hbA : ¬ (fun q : Nat => s.heap.size ≤ q) b := Nat.not_le.mpr hbl
  have hkt := KOK_ne hko
  have hsh := RS_SH hRS
  refine lv_aload_n hx hb dL_law_629 rfl (lv_at hl 1 rfl) ?_
  refine lv_aload_n hx hb dL_law_630 rfl (lv_at hl 0 rfl) ?_
  refine lv_iload_n hx hb dL_law_631 rfl (lv_at hl 3 rfl) ?_
  refine lv_iconst (v := nI 1) hx hb dL_law_632 (by decide) ?_
  refine iaddN (a := i) (b := 1) hx hb dL_law_633 ?_
  refine va_sld hx hb hX hbl hbA hS (vp_in_nI (show i + 1 < L by omega) (by omega)) dL_law_634 ?_
  refine topI (sc (i + 1)) (congrArg sc (nI_clamp (by omega))) ?_
  refine k_X8_sides (Wd := 0) sb th tc mk mx my sh ea be pi po as_ (sc (i + 1)) fnd tn cs mn xs ys hmn htn hcs ⟨hx, hb, hml, hown, hta⟩ mw451 ⟨Nat.le_of_ble_eq_true rfl, Nat.le_of_ble_eq_true rfl⟩ hK hP hD [0, 8, 9, 5, 6, 7] rfl rfl hl.1 (Nat.le_of_ble_eq_true rfl) dL_law_635 ⟨Nat.le_of_ble_eq_true rfl, Nat.le_of_ble_eq_true rfl⟩ ?_
  refine lv_aload_n hx hb dL_law_638 rfl (lv_at hl 2 rfl) ?_
  refine lv_aload_n hx hb dL_law_639 rfl (lv_at hl 0 rfl) ?_
  refine lv_iload_n hx hb dL_law_640 rfl (lv_at hl 3 rfl) ?_
  refine lv_iconst (v := nI 1) hx hb dL_law_641 (by decide) ?_
  refine iaddN (a := i) (b := 1) hx hb dL_law_642 ?_
  refine va_sld hx hb hX hbl hbA hS (vp_in_nI (show i + 1 < L by omega) (by omega)) dL_law_643 ?_
  refine topI (sc (i + 1)) (congrArg sc (nI_clamp (by omega))) ?_
  refine k_X9_sides (Wd := 1) md mdc mdl mdm mdi mdp mdt mds mdw mdh mdx mde mda mdb mdr (sc (i + 1)) fnd mn tn kn s1 s2 s3 mt an cs hmn htn hcs ⟨hx, hb, hml, hown, hta⟩ mw913 ⟨Nat.le_of_ble_eq_true rfl, Nat.le_of_ble_eq_true rfl⟩ hK hP hD hS [24, 29] rfl rfl hl.1 (Nat.le_of_ble_eq_true rfl) dL_law_644 ⟨Nat.le_of_ble_eq_true rfl, Nat.le_of_ble_eq_true rfl⟩ (fun H locs hP hS => ?_)
  have hP : va_P D vwCl (wA sb sh shl shn shi mk mx my th tc ea et es be pi piw pih pin po poc poa pob as_ asn cI fnd la le it mn xs ys tn cs kn kt ks bt ba b1 b2 b3 wd hg nb ra rb pa pb pm cst mA mB an tr ++ wB md mdl mdm mdi mdp mdc mdt mds mdw mdh mdx mde mda mdb mdr cI fnd mn tn kn s1 s2 s3 mt an ml mm mi (plOf xs ys) cs kt ks wd hg nb cst mA mB tr) H := hP
  have hD : va_D (fun q : Nat => s.heap.size ≤ q) (wA sb sh shl shn shi mk mx my th tc ea et es be pi piw pih pin po poc poa pob as_ asn cI fnd la le it mn xs ys tn cs kn kt ks bt ba b1 b2 b3 wd hg nb ra rb pa pb pm cst mA mB an tr ++ wB md mdl mdm mdi mdp mdc mdt mds mdw mdh mdx mde mda mdb mdr cI fnd mn tn kn s1 s2 s3 mt an ml mm mi (plOf xs ys) cs kt ks wd hg nb cst mA mB tr) := hD.same rfl
  refine icmpI_eq (tgt := 1227) hx hb dL_law_647 (by decide) (fun c9 => ?_) (fun c9 => absurd rfl c9)
  refine lv_iinc (v := nI (i + 6)) (lv' := [(3, .int (nI (i + 6))), (0, .ref b), (1, .ref sb), (2, .ref md)]) hx hb dL_law_1227 hl (k := 3) rfl (nI_inc6 _) (by decide) rfl (fun ls hl => ?_)
  refine lv_goto (tgt := 18) hx hb dL_law_1230 (by decide) ?_
  exact ih fnd la le it mn xs ys tn cs kn kt ks bt ba b1 b2 b3 wd hg nb ra rb pa pb pm cst mA mB an tr ml mm mi s1 s2 s3 mt ⟨hRS, hmn, htn, hkn, hcs, hxs, hys, hko, hpi, han⟩ H locs hP hS ls (lv_sub hl [1, 2, 3, 0] rfl)

set_option maxHeartbeats 4000000 in
set_option maxRecDepth 100000 in
theorem lawc_key {p : Program} {l : Launch} {e : Env} {s : State} {m : MethodId} {below : List Frame} {meth : Method} {c : Code} {D : va_G} {cI : ClassId} {b L : Nat} {sc : Nat → Int32} (sb sh shl shn shi mk mx my th tc ea et es be pi piw pih pin po poc poa pob as_ asn : Nat) (md mdl mdm mdi mdp mdc mdt mds mdw mdh mdx mde mda mdb mdr : Nat) (fnd : Int32) (la : Nat → Int32) (le : Nat → Int32) (it : Nat → Int32) (mn : Nat) (xs : Nat → Int32) (ys : Nat → Int32) (tn : Nat) (cs : Nat → Int32) (kn : Nat) (kt : Nat → Int32) (ks : Nat → Int32) (bt : Int32) (ba : Int64) (b1 : Int64) (b2 : Int64) (b3 : Int64) (wd : Nat → Int32) (hg : Nat → Int32) (nb : Nat → Int32) (ra : Nat) (rb : Nat) (pa : Nat) (pb : Nat) (pm : Nat) (cst : Nat → Int32) (mA : Nat → Int32) (mB : Nat → Int32) (an : Nat) (tr : Nat → Int32) (ml : Nat → Int32) (mm : Nat → Int32) (mi : Nat → Int32) (s1 : Int64) (s2 : Int64) (s3 : Int64) (mt : Nat) (hC : LC p s m meth c D cI b L sc) (hI : INV la le it mn xs ys tn cs kn kt ks wd hg an ml mm mi) (H : Heap) (locs : List Loc) (hP : va_P D vwCl (wA sb sh shl shn shi mk mx my th tc ea et es be pi piw pih pin po poc poa pob as_ asn cI fnd la le it mn xs ys tn cs kn kt ks bt ba b1 b2 b3 wd hg nb ra rb pa pb pm cst mA mB an tr ++ wB md mdl mdm mdi mdp mdc mdt mds mdw mdh mdx mde mda mdb mdr cI fnd mn tn kn s1 s2 s3 mt an ml mm mi (plOf xs ys) cs kt ks wd hg nb cst mA mB tr) H) (hD : va_D (fun q : Nat => s.heap.size ≤ q) (wA sb sh shl shn shi mk mx my th tc ea et es be pi piw pih pin po poc poa pob as_ asn cI fnd la le it mn xs ys tn cs kn kt ks bt ba b1 b2 b3 wd hg nb ra rb pa pb pm cst mA mB an tr ++ wB md mdl mdm mdi mdp mdc mdt mds mdw mdh mdx mde mda mdb mdr cI fnd mn tn kn s1 s2 s3 mt an ml mm mi (plOf xs ys) cs kt ks wd hg nb cst mA mB tr)) (hS : va_S (fun q : Nat => s.heap.size ≤ q) s.heap H locs) (i : Nat) (hi : i + 6 ≤ L) (ih : LH p l e s m below meth c D cI b sb sh shl shn shi mk mx my th tc ea et es be pi piw pih pin po poc poa pob as_ asn md mdl mdm mdi mdp mdc mdt mds mdw mdh mdx mde mda mdb mdr (i + 6)) (ls : Array Slot) (hl : lv_has ls 4 [(0, .ref b), (1, .ref sb), (2, .ref md), (3, .int (nI i))]) : W p l e room_1 s m #[Value.ref b] below meth c H locs 39 5353 (lw_Z below #[Value.ref b] s) (F0 m 652 ls []) := by
  obtain ⟨hx, hb, hr, hml, hown, hta, hX, hbl, hlocks, hK, hL⟩ := hC
  obtain ⟨hRS, hmn, htn, hkn, hcs, hxs, hys, hko, hpi, han⟩ := hI
  have hbA : ¬ (fun q : Nat => s.heap.size ≤ q) b := Nat.not_le.mpr hbl
  have hkt := KOK_ne hko
  have hsh := RS_SH hRS
  refine lv_aload_n hx hb dL_law_652 rfl (lv_at hl 1 rfl) ?_
  refine lv_aload_n hx hb dL_law_653 rfl (lv_at hl 0 rfl) ?_
  refine lv_iload_n hx hb dL_law_654 rfl (lv_at hl 3 rfl) ?_
  refine lv_iconst (v := nI 1) hx hb dL_law_655 (by decide) ?_
  refine iaddN (a := i) (b := 1) hx hb dL_law_656 ?_
  refine va_sld hx hb hX hbl hbA hS (vp_in_nI (show i + 1 < L by omega) (by omega)) dL_law_657 ?_
  refine topI (sc (i + 1)) (congrArg sc (nI_clamp (by omega))) ?_
  refine lv_aload_n hx hb dL_law_658 rfl (lv_at hl 0 rfl) ?_
  refine lv_iload_n hx hb dL_law_659 rfl (lv_at hl 3 rfl) ?_
  refine lv_iconst (v := nI 2) hx hb dL_law_660 (by decide) ?_
  refine iaddN (a := i) (b := 2) hx hb dL_law_661 ?_
  refine va_sld hx hb hX hbl hbA hS (vp_in_nI (show i + 2 < L by omega) (by omega)) dL_law_662 ?_
  refine topI (sc (i + 2)) (congrArg sc (nI_clamp (by omega))) ?_
  refine k_X8_key (Wd := 0) sb ea et es sh mk th be pi po as_ (sc (i + 1)) (sc (i + 2)) fnd kn kt ks hkn ⟨hx, hb, hml, hown, hta⟩ mw467 ⟨Nat.le_of_ble_eq_true rfl, Nat.le_of_ble_eq_true rfl⟩ hK hP hD hS [0, 10, 11, 12] rfl rfl hl.1 (Nat.le_of_ble_eq_true rfl) dL_law_663 ⟨Nat.le_of_ble_eq_true rfl, Nat.le_of_ble_eq_true rfl⟩ (fun r1 kn1 kt1 ks1 hq1 H locs hP hS => ?_)
  have hP : va_P D vwCl (wA sb sh shl shn shi mk mx my th tc ea et es be pi piw pih pin po poc poa pob as_ asn cI fnd la le it mn xs ys tn cs kn1 kt1 ks1 bt ba b1 b2 b3 wd hg nb ra rb pa pb pm cst mA mB an tr ++ wB md mdl mdm mdi mdp mdc mdt mds mdw mdh mdx mde mda mdb mdr cI fnd mn tn kn s1 s2 s3 mt an ml mm mi (plOf xs ys) cs kt ks wd hg nb cst mA mB tr) H := hP
  have hD : va_D (fun q : Nat => s.heap.size ≤ q) (wA sb sh shl shn shi mk mx my th tc ea et es be pi piw pih pin po poc poa pob as_ asn cI fnd la le it mn xs ys tn cs kn1 kt1 ks1 bt ba b1 b2 b3 wd hg nb ra rb pa pb pm cst mA mB an tr ++ wB md mdl mdm mdi mdp mdc mdt mds mdw mdh mdx mde mda mdb mdr cI fnd mn tn kn s1 s2 s3 mt an ml mm mi (plOf xs ys) cs kt ks wd hg nb cst mA mB tr) := hD.same rfl
  refine lv_aload_n hx hb dL_law_666 rfl (lv_at hl 2 rfl) ?_
  refine lv_aload_n hx hb dL_law_667 rfl (lv_at hl 0 rfl) ?_
  refine lv_iload_n hx hb dL_law_668 rfl (lv_at hl 3 rfl) ?_
  refine lv_iconst (v := nI 1) hx hb dL_law_669 (by decide) ?_
  refine iaddN (a := i) (b := 1) hx hb dL_law_670 ?_
  refine va_sld hx hb hX hbl hbA hS (vp_in_nI (show i + 1 < L by omega) (by omega)) dL_law_671 ?_
  refine topI (sc (i + 1)) (congrArg sc (nI_clamp (by omega))) ?_
  refine lv_aload_n hx hb dL_law_672 rfl (lv_at hl 0 rfl) ?_
  refine lv_iload_n hx hb dL_law_673 rfl (lv_at hl 3 rfl) ?_
  refine lv_iconst (v := nI 2) hx hb dL_law_674 (by decide) ?_
  refine iaddN (a := i) (b := 2) hx hb dL_law_675 ?_
  refine va_sld hx hb hX hbl hbA hS (vp_in_nI (show i + 2 < L by omega) (by omega)) dL_law_676 ?_
  refine topI (sc (i + 2)) (congrArg sc (nI_clamp (by omega))) ?_
  refine k_X9_key (Wd := 1) md mdt mds mdl mdm mdi mdp mdc mdw mdh mdx mde mda mdb mdr (sc (i + 1)) (sc (i + 2)) fnd mn tn kn s1 s2 s3 mt an kt ks hkn ⟨hx, hb, hml, hown, hta⟩ mw918 ⟨Nat.le_of_ble_eq_true rfl, Nat.le_of_ble_eq_true rfl⟩ hK hP hD hS [24, 30, 31] rfl rfl hl.1 (Nat.le_of_ble_eq_true rfl) dL_law_677 ⟨Nat.le_of_ble_eq_true rfl, Nat.le_of_ble_eq_true rfl⟩ (fun r2 kn2 kt2 ks2 hq2 H locs hP hS => ?_)
  have hP : va_P D vwCl (wA sb sh shl shn shi mk mx my th tc ea et es be pi piw pih pin po poc poa pob as_ asn cI fnd la le it mn xs ys tn cs kn1 kt1 ks1 bt ba b1 b2 b3 wd hg nb ra rb pa pb pm cst mA mB an tr ++ wB md mdl mdm mdi mdp mdc mdt mds mdw mdh mdx mde mda mdb mdr cI fnd mn tn kn2 s1 s2 s3 mt an ml mm mi (plOf xs ys) cs kt2 ks2 wd hg nb cst mA mB tr) H := hP
  have hD : va_D (fun q : Nat => s.heap.size ≤ q) (wA sb sh shl shn shi mk mx my th tc ea et es be pi piw pih pin po poc poa pob as_ asn cI fnd la le it mn xs ys tn cs kn1 kt1 ks1 bt ba b1 b2 b3 wd hg nb ra rb pa pb pm cst mA mB an tr ++ wB md mdl mdm mdi mdp mdc mdt mds mdw mdh mdx mde mda mdb mdr cI fnd mn tn kn2 s1 s2 s3 mt an ml mm mi (plOf xs ys) cs kt2 ks2 wd hg nb cst mA mB tr) := hD.same rfl
  have e9 := hq1.trans hq2.symm
  simp only [Prod.mk.injEq] at e9
  obtain ⟨e9_0, e9_1, e9_2, e9_3⟩ := e9
  subst e9_0
  subst e9_1
  subst e9_2
  subst e9_3
  obtain ⟨hkn, hko⟩ := key_inv hkn hko hq1
  have hP : va_P D vwCl (wA sb sh shl shn shi mk mx my th tc ea et es be pi piw pih pin po poc poa pob as_ asn cI fnd la le it mn xs ys tn cs kn1 kt1 ks1 bt ba b1 b2 b3 wd hg nb ra rb pa pb pm cst mA mB an tr ++ wB md mdl mdm mdi mdp mdc mdt mds mdw mdh mdx mde mda mdb mdr cI fnd mn tn (kn1) s1 s2 s3 mt an ml mm mi (plOf xs ys) cs (kt1) (ks1) wd hg nb cst mA mB tr) H := hP
  have hD : va_D (fun q : Nat => s.heap.size ≤ q) (wA sb sh shl shn shi mk mx my th tc ea et es be pi piw pih pin po poc poa pob as_ asn cI fnd la le it mn xs ys tn cs kn1 kt1 ks1 bt ba b1 b2 b3 wd hg nb ra rb pa pb pm cst mA mB an tr ++ wB md mdl mdm mdi mdp mdc mdt mds mdw mdh mdx mde mda mdb mdr cI fnd mn tn (kn1) s1 s2 s3 mt an ml mm mi (plOf xs ys) cs (kt1) (ks1) wd hg nb cst mA mB tr) := hD.same rfl
  refine icmpI_eq (tgt := 1227) hx hb dL_law_680 (by decide) (fun c9 => ?_) (fun c9 => absurd rfl c9)
  refine lv_iinc (v := nI (i + 6)) (lv' := [(3, .int (nI (i + 6))), (0, .ref b), (1, .ref sb), (2, .ref md)]) hx hb dL_law_1227 hl (k := 3) rfl (nI_inc6 _) (by decide) rfl (fun ls hl => ?_)
  refine lv_goto (tgt := 18) hx hb dL_law_1230 (by decide) ?_
  exact ih fnd la le it mn xs ys tn cs kn1 kt1 ks1 bt ba b1 b2 b3 wd hg nb ra rb pa pb pm cst mA mB an tr ml mm mi s1 s2 s3 mt ⟨hRS, hmn, htn, hkn, hcs, hxs, hys, hko, hpi, han⟩ H locs hP hS ls (lv_sub hl [1, 2, 3, 0] rfl)

set_option maxHeartbeats 4000000 in
set_option maxRecDepth 100000 in
theorem lawc_eased {p : Program} {l : Launch} {e : Env} {s : State} {m : MethodId} {below : List Frame} {meth : Method} {c : Code} {D : va_G} {cI : ClassId} {b L : Nat} {sc : Nat → Int32} (sb sh shl shn shi mk mx my th tc ea et es be pi piw pih pin po poc poa pob as_ asn : Nat) (md mdl mdm mdi mdp mdc mdt mds mdw mdh mdx mde mda mdb mdr : Nat) (fnd : Int32) (la : Nat → Int32) (le : Nat → Int32) (it : Nat → Int32) (mn : Nat) (xs : Nat → Int32) (ys : Nat → Int32) (tn : Nat) (cs : Nat → Int32) (kn : Nat) (kt : Nat → Int32) (ks : Nat → Int32) (bt : Int32) (ba : Int64) (b1 : Int64) (b2 : Int64) (b3 : Int64) (wd : Nat → Int32) (hg : Nat → Int32) (nb : Nat → Int32) (ra : Nat) (rb : Nat) (pa : Nat) (pb : Nat) (pm : Nat) (cst : Nat → Int32) (mA : Nat → Int32) (mB : Nat → Int32) (an : Nat) (tr : Nat → Int32) (ml : Nat → Int32) (mm : Nat → Int32) (mi : Nat → Int32) (s1 : Int64) (s2 : Int64) (s3 : Int64) (mt : Nat) (hC : LC p s m meth c D cI b L sc) (hI : INV la le it mn xs ys tn cs kn kt ks wd hg an ml mm mi) (H : Heap) (locs : List Loc) (hP : va_P D vwCl (wA sb sh shl shn shi mk mx my th tc ea et es be pi piw pih pin po poc poa pob as_ asn cI fnd la le it mn xs ys tn cs kn kt ks bt ba b1 b2 b3 wd hg nb ra rb pa pb pm cst mA mB an tr ++ wB md mdl mdm mdi mdp mdc mdt mds mdw mdh mdx mde mda mdb mdr cI fnd mn tn kn s1 s2 s3 mt an ml mm mi (plOf xs ys) cs kt ks wd hg nb cst mA mB tr) H) (hD : va_D (fun q : Nat => s.heap.size ≤ q) (wA sb sh shl shn shi mk mx my th tc ea et es be pi piw pih pin po poc poa pob as_ asn cI fnd la le it mn xs ys tn cs kn kt ks bt ba b1 b2 b3 wd hg nb ra rb pa pb pm cst mA mB an tr ++ wB md mdl mdm mdi mdp mdc mdt mds mdw mdh mdx mde mda mdb mdr cI fnd mn tn kn s1 s2 s3 mt an ml mm mi (plOf xs ys) cs kt ks wd hg nb cst mA mB tr)) (hS : va_S (fun q : Nat => s.heap.size ≤ q) s.heap H locs) (i : Nat) (hi : i + 6 ≤ L) (ih : LH p l e s m below meth c D cI b sb sh shl shn shi mk mx my th tc ea et es be pi piw pih pin po poc poa pob as_ asn md mdl mdm mdi mdp mdc mdt mds mdw mdh mdx mde mda mdb mdr (i + 6)) (ls : Array Slot) (hl : lv_has ls 4 [(0, .ref b), (1, .ref sb), (2, .ref md), (3, .int (nI i))]) : W p l e room_1 s m #[Value.ref b] below meth c H locs 39 5353 (lw_Z below #[Value.ref b] s) (F0 m 685 ls []) := by
  obtain ⟨hx, hb, hr, hml, hown, hta, hX, hbl, hlocks, hK, hL⟩ := hC
  obtain ⟨hRS, hmn, htn, hkn, hcs, hxs, hys, hko, hpi, han⟩ := hI
  have hbA : ¬ (fun q : Nat => s.heap.size ≤ q) b := Nat.not_le.mpr hbl
  have hkt := KOK_ne hko
  have hsh := RS_SH hRS
  refine lv_aload_n hx hb dL_law_685 rfl (lv_at hl 1 rfl) ?_
  refine lv_aload_n hx hb dL_law_686 rfl (lv_at hl 0 rfl) ?_
  refine lv_iload_n hx hb dL_law_687 rfl (lv_at hl 3 rfl) ?_
  refine lv_iconst (v := nI 1) hx hb dL_law_688 (by decide) ?_
  refine iaddN (a := i) (b := 1) hx hb dL_law_689 ?_
  refine va_sld hx hb hX hbl hbA hS (vp_in_nI (show i + 1 < L by omega) (by omega)) dL_law_690 ?_
  refine topI (sc (i + 1)) (congrArg sc (nI_clamp (by omega))) ?_
  refine k_X8_eased (Wd := 0) sb ea et es sh mk th be pi po as_ (sc (i + 1)) fnd kn kt ks hkn hkt ⟨hx, hb, hml, hown, hta⟩ mw483 ⟨Nat.le_of_ble_eq_true rfl, Nat.le_of_ble_eq_true rfl⟩ hK hP hD [0, 10, 11, 12] rfl rfl hl.1 (Nat.le_of_ble_eq_true rfl) dL_law_691 ⟨Nat.le_of_ble_eq_true rfl, Nat.le_of_ble_eq_true rfl⟩ ?_
  refine lv_aload_n hx hb dL_law_694 rfl (lv_at hl 2 rfl) ?_
  refine lv_aload_n hx hb dL_law_695 rfl (lv_at hl 0 rfl) ?_
  refine lv_iload_n hx hb dL_law_696 rfl (lv_at hl 3 rfl) ?_
  refine lv_iconst (v := nI 1) hx hb dL_law_697 (by decide) ?_
  refine iaddN (a := i) (b := 1) hx hb dL_law_698 ?_
  refine va_sld hx hb hX hbl hbA hS (vp_in_nI (show i + 1 < L by omega) (by omega)) dL_law_699 ?_
  refine topI (sc (i + 1)) (congrArg sc (nI_clamp (by omega))) ?_
  refine k_X9_eased (Wd := 1) md mdt mds mdl mdm mdi mdp mdc mdw mdh mdx mde mda mdb mdr (sc (i + 1)) fnd mn tn kn s1 s2 s3 mt an kt ks hkn hko ⟨hx, hb, hml, hown, hta⟩ mw922 ⟨Nat.le_of_ble_eq_true rfl, Nat.le_of_ble_eq_true rfl⟩ hK hP hD hS [24, 30, 31] rfl rfl hl.1 (Nat.le_of_ble_eq_true rfl) dL_law_700 ⟨Nat.le_of_ble_eq_true rfl, Nat.le_of_ble_eq_true rfl⟩ (fun H locs hP hS => ?_)
  have hP : va_P D vwCl (wA sb sh shl shn shi mk mx my th tc ea et es be pi piw pih pin po poc poa pob as_ asn cI fnd la le it mn xs ys tn cs kn kt ks bt ba b1 b2 b3 wd hg nb ra rb pa pb pm cst mA mB an tr ++ wB md mdl mdm mdi mdp mdc mdt mds mdw mdh mdx mde mda mdb mdr cI fnd mn tn kn s1 s2 s3 mt an ml mm mi (plOf xs ys) cs kt ks wd hg nb cst mA mB tr) H := hP
  have hD : va_D (fun q : Nat => s.heap.size ≤ q) (wA sb sh shl shn shi mk mx my th tc ea et es be pi piw pih pin po poc poa pob as_ asn cI fnd la le it mn xs ys tn cs kn kt ks bt ba b1 b2 b3 wd hg nb ra rb pa pb pm cst mA mB an tr ++ wB md mdl mdm mdi mdp mdc mdt mds mdw mdh mdx mde mda mdb mdr cI fnd mn tn kn s1 s2 s3 mt an ml mm mi (plOf xs ys) cs kt ks wd hg nb cst mA mB tr) := hD.same rfl
  refine icmpI_eq (tgt := 1227) hx hb dL_law_703 (by decide) (fun c9 => ?_) (fun c9 => absurd rfl c9)
  refine lv_iinc (v := nI (i + 6)) (lv' := [(3, .int (nI (i + 6))), (0, .ref b), (1, .ref sb), (2, .ref md)]) hx hb dL_law_1227 hl (k := 3) rfl (nI_inc6 _) (by decide) rfl (fun ls hl => ?_)
  refine lv_goto (tgt := 18) hx hb dL_law_1230 (by decide) ?_
  exact ih fnd la le it mn xs ys tn cs kn kt ks bt ba b1 b2 b3 wd hg nb ra rb pa pb pm cst mA mB an tr ml mm mi s1 s2 s3 mt ⟨hRS, hmn, htn, hkn, hcs, hxs, hys, hko, hpi, han⟩ H locs hP hS ls (lv_sub hl [1, 2, 3, 0] rfl)

set_option maxHeartbeats 4000000 in
set_option maxRecDepth 100000 in
theorem lawc_unkey {p : Program} {l : Launch} {e : Env} {s : State} {m : MethodId} {below : List Frame} {meth : Method} {c : Code} {D : va_G} {cI : ClassId} {b L : Nat} {sc : Nat → Int32} (sb sh shl shn shi mk mx my th tc ea et es be pi piw pih pin po poc poa pob as_ asn : Nat) (md mdl mdm mdi mdp mdc mdt mds mdw mdh mdx mde mda mdb mdr : Nat) (fnd : Int32) (la : Nat → Int32) (le : Nat → Int32) (it : Nat → Int32) (mn : Nat) (xs : Nat → Int32) (ys : Nat → Int32) (tn : Nat) (cs : Nat → Int32) (kn : Nat) (kt : Nat → Int32) (ks : Nat → Int32) (bt : Int32) (ba : Int64) (b1 : Int64) (b2 : Int64) (b3 : Int64) (wd : Nat → Int32) (hg : Nat → Int32) (nb : Nat → Int32) (ra : Nat) (rb : Nat) (pa : Nat) (pb : Nat) (pm : Nat) (cst : Nat → Int32) (mA : Nat → Int32) (mB : Nat → Int32) (an : Nat) (tr : Nat → Int32) (ml : Nat → Int32) (mm : Nat → Int32) (mi : Nat → Int32) (s1 : Int64) (s2 : Int64) (s3 : Int64) (mt : Nat) (hC : LC p s m meth c D cI b L sc) (hI : INV la le it mn xs ys tn cs kn kt ks wd hg an ml mm mi) (H : Heap) (locs : List Loc) (hP : va_P D vwCl (wA sb sh shl shn shi mk mx my th tc ea et es be pi piw pih pin po poc poa pob as_ asn cI fnd la le it mn xs ys tn cs kn kt ks bt ba b1 b2 b3 wd hg nb ra rb pa pb pm cst mA mB an tr ++ wB md mdl mdm mdi mdp mdc mdt mds mdw mdh mdx mde mda mdb mdr cI fnd mn tn kn s1 s2 s3 mt an ml mm mi (plOf xs ys) cs kt ks wd hg nb cst mA mB tr) H) (hD : va_D (fun q : Nat => s.heap.size ≤ q) (wA sb sh shl shn shi mk mx my th tc ea et es be pi piw pih pin po poc poa pob as_ asn cI fnd la le it mn xs ys tn cs kn kt ks bt ba b1 b2 b3 wd hg nb ra rb pa pb pm cst mA mB an tr ++ wB md mdl mdm mdi mdp mdc mdt mds mdw mdh mdx mde mda mdb mdr cI fnd mn tn kn s1 s2 s3 mt an ml mm mi (plOf xs ys) cs kt ks wd hg nb cst mA mB tr)) (hS : va_S (fun q : Nat => s.heap.size ≤ q) s.heap H locs) (i : Nat) (hi : i + 6 ≤ L) (ih : LH p l e s m below meth c D cI b sb sh shl shn shi mk mx my th tc ea et es be pi piw pih pin po poc poa pob as_ asn md mdl mdm mdi mdp mdc mdt mds mdw mdh mdx mde mda mdb mdr (i + 6)) (ls : Array Slot) (hl : lv_has ls 4 [(0, .ref b), (1, .ref sb), (2, .ref md), (3, .int (nI i))]) : W p l e room_1 s m #[Value.ref b] below meth c H locs 39 5353 (lw_Z below #[Value.ref b] s) (F0 m 708 ls []) := by
  obtain ⟨hx, hb, hr, hml, hown, hta, hX, hbl, hlocks, hK, hL⟩ := hC
  obtain ⟨hRS, hmn, htn, hkn, hcs, hxs, hys, hko, hpi, han⟩ := hI
  have hbA : ¬ (fun q : Nat => s.heap.size ≤ q) b := Nat.not_le.mpr hbl
  have hkt := KOK_ne hko
  have hsh := RS_SH hRS
  refine lv_aload_n hx hb dL_law_708 rfl (lv_at hl 1 rfl) ?_
  refine k_X8_unkey (Wd := 0) sb ea et es sh mk th be pi po as_ fnd kn kt ks  ⟨hx, hb, hml, hown, hta⟩ mw495 ⟨Nat.le_of_ble_eq_true rfl, Nat.le_of_ble_eq_true rfl⟩ hK hP hD hS [0, 10, 11, 12] rfl rfl hl.1 (Nat.le_of_ble_eq_true rfl) dL_law_709 ⟨Nat.le_of_ble_eq_true rfl, Nat.le_of_ble_eq_true rfl⟩ (fun H locs hP hS => ?_)
  have hP : va_P D vwCl (wA sb sh shl shn shi mk mx my th tc ea et es be pi piw pih pin po poc poa pob as_ asn cI fnd la le it mn xs ys tn cs 0 kt ks bt ba b1 b2 b3 wd hg nb ra rb pa pb pm cst mA mB an tr ++ wB md mdl mdm mdi mdp mdc mdt mds mdw mdh mdx mde mda mdb mdr cI fnd mn tn kn s1 s2 s3 mt an ml mm mi (plOf xs ys) cs kt ks wd hg nb cst mA mB tr) H := hP
  have hD : va_D (fun q : Nat => s.heap.size ≤ q) (wA sb sh shl shn shi mk mx my th tc ea et es be pi piw pih pin po poc poa pob as_ asn cI fnd la le it mn xs ys tn cs 0 kt ks bt ba b1 b2 b3 wd hg nb ra rb pa pb pm cst mA mB an tr ++ wB md mdl mdm mdi mdp mdc mdt mds mdw mdh mdx mde mda mdb mdr cI fnd mn tn kn s1 s2 s3 mt an ml mm mi (plOf xs ys) cs kt ks wd hg nb cst mA mB tr) := hD.same rfl
  refine lv_aload_n hx hb dL_law_712 rfl (lv_at hl 2 rfl) ?_
  refine k_X9_unkey (Wd := 1) md mdt mds mdl mdm mdi mdp mdc mdw mdh mdx mde mda mdb mdr fnd mn tn kn s1 s2 s3 mt an kt ks  ⟨hx, hb, hml, hown, hta⟩ mw926 ⟨Nat.le_of_ble_eq_true rfl, Nat.le_of_ble_eq_true rfl⟩ hK hP hD hS [24, 30, 31] rfl rfl hl.1 (Nat.le_of_ble_eq_true rfl) dL_law_713 ⟨Nat.le_of_ble_eq_true rfl, Nat.le_of_ble_eq_true rfl⟩ (fun H locs hP hS => ?_)
  have hP : va_P D vwCl (wA sb sh shl shn shi mk mx my th tc ea et es be pi piw pih pin po poc poa pob as_ asn cI fnd la le it mn xs ys tn cs 0 kt ks bt ba b1 b2 b3 wd hg nb ra rb pa pb pm cst mA mB an tr ++ wB md mdl mdm mdi mdp mdc mdt mds mdw mdh mdx mde mda mdb mdr cI fnd mn tn 0 s1 s2 s3 mt an ml mm mi (plOf xs ys) cs kt ks wd hg nb cst mA mB tr) H := hP
  have hD : va_D (fun q : Nat => s.heap.size ≤ q) (wA sb sh shl shn shi mk mx my th tc ea et es be pi piw pih pin po poc poa pob as_ asn cI fnd la le it mn xs ys tn cs 0 kt ks bt ba b1 b2 b3 wd hg nb ra rb pa pb pm cst mA mB an tr ++ wB md mdl mdm mdi mdp mdc mdt mds mdw mdh mdx mde mda mdb mdr cI fnd mn tn 0 s1 s2 s3 mt an ml mm mi (plOf xs ys) cs kt ks wd hg nb cst mA mB tr) := hD.same rfl
  have hkn : 0 ≤ 6 := by omega
  have hko := KOK_0 kt ks
  refine icmpI_eq (tgt := 1227) hx hb dL_law_716 (by decide) (fun c9 => ?_) (fun c9 => absurd rfl c9)
  refine lv_iinc (v := nI (i + 6)) (lv' := [(3, .int (nI (i + 6))), (0, .ref b), (1, .ref sb), (2, .ref md)]) hx hb dL_law_1227 hl (k := 3) rfl (nI_inc6 _) (by decide) rfl (fun ls hl => ?_)
  refine lv_goto (tgt := 18) hx hb dL_law_1230 (by decide) ?_
  exact ih fnd la le it mn xs ys tn cs 0 kt ks bt ba b1 b2 b3 wd hg nb ra rb pa pb pm cst mA mB an tr ml mm mi s1 s2 s3 mt ⟨hRS, hmn, htn, hkn, hcs, hxs, hys, hko, hpi, han⟩ H locs hP hS ls (lv_sub hl [1, 2, 3, 0] rfl)

set_option maxHeartbeats 4000000 in
set_option maxRecDepth 100000 in
theorem lawc_in {p : Program} {l : Launch} {e : Env} {s : State} {m : MethodId} {below : List Frame} {meth : Method} {c : Code} {D : va_G} {cI : ClassId} {b L : Nat} {sc : Nat → Int32} (sb sh shl shn shi mk mx my th tc ea et es be pi piw pih pin po poc poa pob as_ asn : Nat) (md mdl mdm mdi mdp mdc mdt mds mdw mdh mdx mde mda mdb mdr : Nat) (fnd : Int32) (la : Nat → Int32) (le : Nat → Int32) (it : Nat → Int32) (mn : Nat) (xs : Nat → Int32) (ys : Nat → Int32) (tn : Nat) (cs : Nat → Int32) (kn : Nat) (kt : Nat → Int32) (ks : Nat → Int32) (bt : Int32) (ba : Int64) (b1 : Int64) (b2 : Int64) (b3 : Int64) (wd : Nat → Int32) (hg : Nat → Int32) (nb : Nat → Int32) (ra : Nat) (rb : Nat) (pa : Nat) (pb : Nat) (pm : Nat) (cst : Nat → Int32) (mA : Nat → Int32) (mB : Nat → Int32) (an : Nat) (tr : Nat → Int32) (ml : Nat → Int32) (mm : Nat → Int32) (mi : Nat → Int32) (s1 : Int64) (s2 : Int64) (s3 : Int64) (mt : Nat) (hC : LC p s m meth c D cI b L sc) (hI : INV la le it mn xs ys tn cs kn kt ks wd hg an ml mm mi) (H : Heap) (locs : List Loc) (hP : va_P D vwCl (wA sb sh shl shn shi mk mx my th tc ea et es be pi piw pih pin po poc poa pob as_ asn cI fnd la le it mn xs ys tn cs kn kt ks bt ba b1 b2 b3 wd hg nb ra rb pa pb pm cst mA mB an tr ++ wB md mdl mdm mdi mdp mdc mdt mds mdw mdh mdx mde mda mdb mdr cI fnd mn tn kn s1 s2 s3 mt an ml mm mi (plOf xs ys) cs kt ks wd hg nb cst mA mB tr) H) (hD : va_D (fun q : Nat => s.heap.size ≤ q) (wA sb sh shl shn shi mk mx my th tc ea et es be pi piw pih pin po poc poa pob as_ asn cI fnd la le it mn xs ys tn cs kn kt ks bt ba b1 b2 b3 wd hg nb ra rb pa pb pm cst mA mB an tr ++ wB md mdl mdm mdi mdp mdc mdt mds mdw mdh mdx mde mda mdb mdr cI fnd mn tn kn s1 s2 s3 mt an ml mm mi (plOf xs ys) cs kt ks wd hg nb cst mA mB tr)) (hS : va_S (fun q : Nat => s.heap.size ≤ q) s.heap H locs) (i : Nat) (hi : i + 6 ≤ L) (ih : LH p l e s m below meth c D cI b sb sh shl shn shi mk mx my th tc ea et es be pi piw pih pin po poc poa pob as_ asn md mdl mdm mdi mdp mdc mdt mds mdw mdh mdx mde mda mdb mdr (i + 6)) (ls : Array Slot) (hl : lv_has ls 4 [(0, .ref b), (1, .ref sb), (2, .ref md), (3, .int (nI i))]) : W p l e room_1 s m #[Value.ref b] below meth c H locs 39 5353 (lw_Z below #[Value.ref b] s) (F0 m 721 ls []) := by
  obtain ⟨hx, hb, hr, hml, hown, hta, hX, hbl, hlocks, hK, hL⟩ := hC
  obtain ⟨hRS, hmn, htn, hkn, hcs, hxs, hys, hko, hpi, han⟩ := hI
  have hbA : ¬ (fun q : Nat => s.heap.size ≤ q) b := Nat.not_le.mpr hbl
  have hkt := KOK_ne hko
  have hsh := RS_SH hRS
  refine lv_aload_n hx hb dL_law_721 rfl (lv_at hl 1 rfl) ?_
  refine lv_aload_n hx hb dL_law_722 rfl (lv_at hl 0 rfl) ?_
  refine lv_iload_n hx hb dL_law_723 rfl (lv_at hl 3 rfl) ?_
  refine lv_iconst (v := nI 1) hx hb dL_law_724 (by decide) ?_
  refine iaddN (a := i) (b := 1) hx hb dL_law_725 ?_
  refine va_sld hx hb hX hbl hbA hS (vp_in_nI (show i + 1 < L by omega) (by omega)) dL_law_726 ?_
  refine topI (sc (i + 1)) (congrArg sc (nI_clamp (by omega))) ?_
  refine lv_aload_n hx hb dL_law_727 rfl (lv_at hl 0 rfl) ?_
  refine lv_iload_n hx hb dL_law_728 rfl (lv_at hl 3 rfl) ?_
  refine lv_iconst (v := nI 2) hx hb dL_law_729 (by decide) ?_
  refine iaddN (a := i) (b := 2) hx hb dL_law_730 ?_
  refine va_sld hx hb hX hbl hbA hS (vp_in_nI (show i + 2 < L by omega) (by omega)) dL_law_731 ?_
  refine topI (sc (i + 2)) (congrArg sc (nI_clamp (by omega))) ?_
  refine lv_aload_n hx hb dL_law_732 rfl (lv_at hl 0 rfl) ?_
  refine lv_iload_n hx hb dL_law_733 rfl (lv_at hl 3 rfl) ?_
  refine lv_iconst (v := nI 3) hx hb dL_law_734 (by decide) ?_
  refine iaddN (a := i) (b := 3) hx hb dL_law_735 ?_
  refine va_sld hx hb hX hbl hbA hS (vp_in_nI (show i + 3 < L by omega) (by omega)) dL_law_736 ?_
  refine topI (sc (i + 3)) (congrArg sc (nI_clamp (by omega))) ?_
  refine lv_aload_n hx hb dL_law_737 rfl (lv_at hl 0 rfl) ?_
  refine lv_iload_n hx hb dL_law_738 rfl (lv_at hl 3 rfl) ?_
  refine lv_iconst (v := nI 4) hx hb dL_law_739 (by decide) ?_
  refine iaddN (a := i) (b := 4) hx hb dL_law_740 ?_
  refine va_sld hx hb hX hbl hbA hS (vp_in_nI (show i + 4 < L by omega) (by omega)) dL_law_741 ?_
  refine topI (sc (i + 4)) (congrArg sc (nI_clamp (by omega))) ?_
  refine k_X8_in (Wd := 0) sb be th tc mk mx my sh ea pi po as_ (sc (i + 1)) (sc (i + 2)) (sc (i + 3)) (sc (i + 4)) fnd bt ba b1 b2 b3 tn cs mn xs ys hmn htn hcs ⟨hx, hb, hml, hown, hta⟩ mw503 ⟨Nat.le_of_ble_eq_true rfl, Nat.le_of_ble_eq_true rfl⟩ hK hP hD hS [0, 13, 8, 9, 5, 6, 7] rfl rfl hl.1 (Nat.le_of_ble_eq_true rfl) dL_law_742 ⟨Nat.le_of_ble_eq_true rfl, Nat.le_of_ble_eq_true rfl⟩ (fun r1 bt1 ba1 b11 b21 b31 hq1 H locs hP hS => ?_)
  have hP : va_P D vwCl (wA sb sh shl shn shi mk mx my th tc ea et es be pi piw pih pin po poc poa pob as_ asn cI fnd la le it mn xs ys tn cs kn kt ks bt1 ba1 b11 b21 b31 wd hg nb ra rb pa pb pm cst mA mB an tr ++ wB md mdl mdm mdi mdp mdc mdt mds mdw mdh mdx mde mda mdb mdr cI fnd mn tn kn s1 s2 s3 mt an ml mm mi (plOf xs ys) cs kt ks wd hg nb cst mA mB tr) H := hP
  have hD : va_D (fun q : Nat => s.heap.size ≤ q) (wA sb sh shl shn shi mk mx my th tc ea et es be pi piw pih pin po poc poa pob as_ asn cI fnd la le it mn xs ys tn cs kn kt ks bt1 ba1 b11 b21 b31 wd hg nb ra rb pa pb pm cst mA mB an tr ++ wB md mdl mdm mdi mdp mdc mdt mds mdw mdh mdx mde mda mdb mdr cI fnd mn tn kn s1 s2 s3 mt an ml mm mi (plOf xs ys) cs kt ks wd hg nb cst mA mB tr) := hD.same rfl
  refine lv_aload_n hx hb dL_law_745 rfl (lv_at hl 2 rfl) ?_
  refine lv_aload_n hx hb dL_law_746 rfl (lv_at hl 0 rfl) ?_
  refine lv_iload_n hx hb dL_law_747 rfl (lv_at hl 3 rfl) ?_
  refine lv_iconst (v := nI 1) hx hb dL_law_748 (by decide) ?_
  refine iaddN (a := i) (b := 1) hx hb dL_law_749 ?_
  refine va_sld hx hb hX hbl hbA hS (vp_in_nI (show i + 1 < L by omega) (by omega)) dL_law_750 ?_
  refine topI (sc (i + 1)) (congrArg sc (nI_clamp (by omega))) ?_
  refine lv_aload_n hx hb dL_law_751 rfl (lv_at hl 0 rfl) ?_
  refine lv_iload_n hx hb dL_law_752 rfl (lv_at hl 3 rfl) ?_
  refine lv_iconst (v := nI 2) hx hb dL_law_753 (by decide) ?_
  refine iaddN (a := i) (b := 2) hx hb dL_law_754 ?_
  refine va_sld hx hb hX hbl hbA hS (vp_in_nI (show i + 2 < L by omega) (by omega)) dL_law_755 ?_
  refine topI (sc (i + 2)) (congrArg sc (nI_clamp (by omega))) ?_
  refine lv_aload_n hx hb dL_law_756 rfl (lv_at hl 0 rfl) ?_
  refine lv_iload_n hx hb dL_law_757 rfl (lv_at hl 3 rfl) ?_
  refine lv_iconst (v := nI 3) hx hb dL_law_758 (by decide) ?_
  refine iaddN (a := i) (b := 3) hx hb dL_law_759 ?_
  refine va_sld hx hb hX hbl hbA hS (vp_in_nI (show i + 3 < L by omega) (by omega)) dL_law_760 ?_
  refine topI (sc (i + 3)) (congrArg sc (nI_clamp (by omega))) ?_
  refine lv_aload_n hx hb dL_law_761 rfl (lv_at hl 0 rfl) ?_
  refine lv_iload_n hx hb dL_law_762 rfl (lv_at hl 3 rfl) ?_
  refine lv_iconst (v := nI 4) hx hb dL_law_763 (by decide) ?_
  refine iaddN (a := i) (b := 4) hx hb dL_law_764 ?_
  refine va_sld hx hb hX hbl hbA hS (vp_in_nI (show i + 4 < L by omega) (by omega)) dL_law_765 ?_
  refine topI (sc (i + 4)) (congrArg sc (nI_clamp (by omega))) ?_
  refine k_X9_in (Wd := 1) md mdp mdc mdl mdm mdi mdt mds mdw mdh mdx mde mda mdb mdr (sc (i + 1)) (sc (i + 2)) (sc (i + 3)) (sc (i + 4)) fnd mn tn kn s1 s2 s3 mt an cs _ _ hmn htn hcs ⟨hx, hb, hml, hown, hta⟩ mw930 ⟨Nat.le_of_ble_eq_true rfl, Nat.le_of_ble_eq_true rfl⟩ hK hP hD hS [24, 28, 29] rfl rfl hl.1 (Nat.le_of_ble_eq_true rfl) dL_law_766 ⟨Nat.le_of_ble_eq_true rfl, Nat.le_of_ble_eq_true rfl⟩ (fun r2 s12 s22 s32 hq2 H locs hP hS => ?_)
  have hP : va_P D vwCl (wA sb sh shl shn shi mk mx my th tc ea et es be pi piw pih pin po poc poa pob as_ asn cI fnd la le it mn xs ys tn cs kn kt ks bt1 ba1 b11 b21 b31 wd hg nb ra rb pa pb pm cst mA mB an tr ++ wB md mdl mdm mdi mdp mdc mdt mds mdw mdh mdx mde mda mdb mdr cI fnd mn tn kn s12 s22 s32 mt an ml mm mi (plOf xs ys) cs kt ks wd hg nb cst mA mB tr) H := hP
  have hD : va_D (fun q : Nat => s.heap.size ≤ q) (wA sb sh shl shn shi mk mx my th tc ea et es be pi piw pih pin po poc poa pob as_ asn cI fnd la le it mn xs ys tn cs kn kt ks bt1 ba1 b11 b21 b31 wd hg nb ra rb pa pb pm cst mA mB an tr ++ wB md mdl mdm mdi mdp mdc mdt mds mdw mdh mdx mde mda mdb mdr cI fnd mn tn kn s12 s22 s32 mt an ml mm mi (plOf xs ys) cs kt ks wd hg nb cst mA mB tr) := hD.same rfl
  have e9 : r1 = r2 := hq1.trans hq2.symm
  subst e9
  have hP : va_P D vwCl (wA sb sh shl shn shi mk mx my th tc ea et es be pi piw pih pin po poc poa pob as_ asn cI fnd la le it mn xs ys tn cs kn kt ks bt1 ba1 b11 b21 b31 wd hg nb ra rb pa pb pm cst mA mB an tr ++ wB md mdl mdm mdi mdp mdc mdt mds mdw mdh mdx mde mda mdb mdr cI fnd mn tn kn s12 s22 s32 mt an ml mm mi (plOf xs ys) cs kt ks wd hg nb cst mA mB tr) H := hP
  have hD : va_D (fun q : Nat => s.heap.size ≤ q) (wA sb sh shl shn shi mk mx my th tc ea et es be pi piw pih pin po poc poa pob as_ asn cI fnd la le it mn xs ys tn cs kn kt ks bt1 ba1 b11 b21 b31 wd hg nb ra rb pa pb pm cst mA mB an tr ++ wB md mdl mdm mdi mdp mdc mdt mds mdw mdh mdx mde mda mdb mdr cI fnd mn tn kn s12 s22 s32 mt an ml mm mi (plOf xs ys) cs kt ks wd hg nb cst mA mB tr) := hD.same rfl
  refine icmpI_eq (tgt := 1227) hx hb dL_law_769 (by decide) (fun c9 => ?_) (fun c9 => absurd rfl c9)
  refine lv_iinc (v := nI (i + 6)) (lv' := [(3, .int (nI (i + 6))), (0, .ref b), (1, .ref sb), (2, .ref md)]) hx hb dL_law_1227 hl (k := 3) rfl (nI_inc6 _) (by decide) rfl (fun ls hl => ?_)
  refine lv_goto (tgt := 18) hx hb dL_law_1230 (by decide) ?_
  exact ih fnd la le it mn xs ys tn cs kn kt ks bt1 ba1 b11 b21 b31 wd hg nb ra rb pa pb pm cst mA mB an tr ml mm mi s12 s22 s32 mt ⟨hRS, hmn, htn, hkn, hcs, hxs, hys, hko, hpi, han⟩ H locs hP hS ls (lv_sub hl [1, 2, 3, 0] rfl)

set_option maxHeartbeats 4000000 in
set_option maxRecDepth 100000 in
theorem lawc_from {p : Program} {l : Launch} {e : Env} {s : State} {m : MethodId} {below : List Frame} {meth : Method} {c : Code} {D : va_G} {cI : ClassId} {b L : Nat} {sc : Nat → Int32} (sb sh shl shn shi mk mx my th tc ea et es be pi piw pih pin po poc poa pob as_ asn : Nat) (md mdl mdm mdi mdp mdc mdt mds mdw mdh mdx mde mda mdb mdr : Nat) (fnd : Int32) (la : Nat → Int32) (le : Nat → Int32) (it : Nat → Int32) (mn : Nat) (xs : Nat → Int32) (ys : Nat → Int32) (tn : Nat) (cs : Nat → Int32) (kn : Nat) (kt : Nat → Int32) (ks : Nat → Int32) (bt : Int32) (ba : Int64) (b1 : Int64) (b2 : Int64) (b3 : Int64) (wd : Nat → Int32) (hg : Nat → Int32) (nb : Nat → Int32) (ra : Nat) (rb : Nat) (pa : Nat) (pb : Nat) (pm : Nat) (cst : Nat → Int32) (mA : Nat → Int32) (mB : Nat → Int32) (an : Nat) (tr : Nat → Int32) (ml : Nat → Int32) (mm : Nat → Int32) (mi : Nat → Int32) (s1 : Int64) (s2 : Int64) (s3 : Int64) (mt : Nat) (hC : LC p s m meth c D cI b L sc) (hI : INV la le it mn xs ys tn cs kn kt ks wd hg an ml mm mi) (H : Heap) (locs : List Loc) (hP : va_P D vwCl (wA sb sh shl shn shi mk mx my th tc ea et es be pi piw pih pin po poc poa pob as_ asn cI fnd la le it mn xs ys tn cs kn kt ks bt ba b1 b2 b3 wd hg nb ra rb pa pb pm cst mA mB an tr ++ wB md mdl mdm mdi mdp mdc mdt mds mdw mdh mdx mde mda mdb mdr cI fnd mn tn kn s1 s2 s3 mt an ml mm mi (plOf xs ys) cs kt ks wd hg nb cst mA mB tr) H) (hD : va_D (fun q : Nat => s.heap.size ≤ q) (wA sb sh shl shn shi mk mx my th tc ea et es be pi piw pih pin po poc poa pob as_ asn cI fnd la le it mn xs ys tn cs kn kt ks bt ba b1 b2 b3 wd hg nb ra rb pa pb pm cst mA mB an tr ++ wB md mdl mdm mdi mdp mdc mdt mds mdw mdh mdx mde mda mdb mdr cI fnd mn tn kn s1 s2 s3 mt an ml mm mi (plOf xs ys) cs kt ks wd hg nb cst mA mB tr)) (hS : va_S (fun q : Nat => s.heap.size ≤ q) s.heap H locs) (i : Nat) (hi : i + 6 ≤ L) (ih : LH p l e s m below meth c D cI b sb sh shl shn shi mk mx my th tc ea et es be pi piw pih pin po poc poa pob as_ asn md mdl mdm mdi mdp mdc mdt mds mdw mdh mdx mde mda mdb mdr (i + 6)) (ls : Array Slot) (hl : lv_has ls 4 [(0, .ref b), (1, .ref sb), (2, .ref md), (3, .int (nI i))]) : W p l e room_1 s m #[Value.ref b] below meth c H locs 39 5353 (lw_Z below #[Value.ref b] s) (F0 m 774 ls []) := by
  obtain ⟨hx, hb, hr, hml, hown, hta, hX, hbl, hlocks, hK, hL⟩ := hC
  obtain ⟨hRS, hmn, htn, hkn, hcs, hxs, hys, hko, hpi, han⟩ := hI
  have hbA : ¬ (fun q : Nat => s.heap.size ≤ q) b := Nat.not_le.mpr hbl
  have hkt := KOK_ne hko
  have hsh := RS_SH hRS
  refine lv_aload_n hx hb dL_law_774 rfl (lv_at hl 1 rfl) ?_
  refine lv_aload_n hx hb dL_law_775 rfl (lv_at hl 0 rfl) ?_
  refine lv_iload_n hx hb dL_law_776 rfl (lv_at hl 3 rfl) ?_
  refine lv_iconst (v := nI 1) hx hb dL_law_777 (by decide) ?_
  refine iaddN (a := i) (b := 1) hx hb dL_law_778 ?_
  refine va_sld hx hb hX hbl hbA hS (vp_in_nI (show i + 1 < L by omega) (by omega)) dL_law_779 ?_
  refine topI (sc (i + 1)) (congrArg sc (nI_clamp (by omega))) ?_
  refine lv_aload_n hx hb dL_law_780 rfl (lv_at hl 0 rfl) ?_
  refine lv_iload_n hx hb dL_law_781 rfl (lv_at hl 3 rfl) ?_
  refine lv_iconst (v := nI 2) hx hb dL_law_782 (by decide) ?_
  refine iaddN (a := i) (b := 2) hx hb dL_law_783 ?_
  refine va_sld hx hb hX hbl hbA hS (vp_in_nI (show i + 2 < L by omega) (by omega)) dL_law_784 ?_
  refine topI (sc (i + 2)) (congrArg sc (nI_clamp (by omega))) ?_
  refine lv_aload_n hx hb dL_law_785 rfl (lv_at hl 0 rfl) ?_
  refine lv_iload_n hx hb dL_law_786 rfl (lv_at hl 3 rfl) ?_
  refine lv_iconst (v := nI 3) hx hb dL_law_787 (by decide) ?_
  refine iaddN (a := i) (b := 3) hx hb dL_law_788 ?_
  refine va_sld hx hb hX hbl hbA hS (vp_in_nI (show i + 3 < L by omega) (by omega)) dL_law_789 ?_
  refine topI (sc (i + 3)) (congrArg sc (nI_clamp (by omega))) ?_
  refine lv_aload_n hx hb dL_law_790 rfl (lv_at hl 0 rfl) ?_
  refine lv_iload_n hx hb dL_law_791 rfl (lv_at hl 3 rfl) ?_
  refine lv_iconst (v := nI 4) hx hb dL_law_792 (by decide) ?_
  refine iaddN (a := i) (b := 4) hx hb dL_law_793 ?_
  refine va_sld hx hb hX hbl hbA hS (vp_in_nI (show i + 4 < L by omega) (by omega)) dL_law_794 ?_
  refine topI (sc (i + 4)) (congrArg sc (nI_clamp (by omega))) ?_
  refine lv_aload_n hx hb dL_law_795 rfl (lv_at hl 0 rfl) ?_
  refine lv_iload_n hx hb dL_law_796 rfl (lv_at hl 3 rfl) ?_
  refine lv_iconst (v := nI 5) hx hb dL_law_797 (by decide) ?_
  refine iaddN (a := i) (b := 5) hx hb dL_law_798 ?_
  refine va_sld hx hb hX hbl hbA hS (vp_in_nI (show i + 5 < L by omega) (by omega)) dL_law_799 ?_
  refine topI (sc (i + 5)) (congrArg sc (nI_clamp (by omega))) ?_
  refine k_X8_from (Wd := 0) sb be th tc mk mx my sh ea pi po as_ (sc (i + 1)) (sc (i + 2)) (sc (i + 3)) (sc (i + 4)) (sc (i + 5)) fnd bt ba b1 b2 b3 tn cs mn xs ys hmn htn hcs ⟨hx, hb, hml, hown, hta⟩ mw523 ⟨Nat.le_of_ble_eq_true rfl, Nat.le_of_ble_eq_true rfl⟩ hK hP hD hS [0, 13, 8, 9, 5, 6, 7] rfl rfl hl.1 (Nat.le_of_ble_eq_true rfl) dL_law_800 ⟨Nat.le_of_ble_eq_true rfl, Nat.le_of_ble_eq_true rfl⟩ (fun r1 bt1 ba1 b11 b21 b31 hq1 H locs hP hS => ?_)
  have hP : va_P D vwCl (wA sb sh shl shn shi mk mx my th tc ea et es be pi piw pih pin po poc poa pob as_ asn cI fnd la le it mn xs ys tn cs kn kt ks bt1 ba1 b11 b21 b31 wd hg nb ra rb pa pb pm cst mA mB an tr ++ wB md mdl mdm mdi mdp mdc mdt mds mdw mdh mdx mde mda mdb mdr cI fnd mn tn kn s1 s2 s3 mt an ml mm mi (plOf xs ys) cs kt ks wd hg nb cst mA mB tr) H := hP
  have hD : va_D (fun q : Nat => s.heap.size ≤ q) (wA sb sh shl shn shi mk mx my th tc ea et es be pi piw pih pin po poc poa pob as_ asn cI fnd la le it mn xs ys tn cs kn kt ks bt1 ba1 b11 b21 b31 wd hg nb ra rb pa pb pm cst mA mB an tr ++ wB md mdl mdm mdi mdp mdc mdt mds mdw mdh mdx mde mda mdb mdr cI fnd mn tn kn s1 s2 s3 mt an ml mm mi (plOf xs ys) cs kt ks wd hg nb cst mA mB tr) := hD.same rfl
  refine lv_aload_n hx hb dL_law_803 rfl (lv_at hl 2 rfl) ?_
  refine lv_aload_n hx hb dL_law_804 rfl (lv_at hl 0 rfl) ?_
  refine lv_iload_n hx hb dL_law_805 rfl (lv_at hl 3 rfl) ?_
  refine lv_iconst (v := nI 1) hx hb dL_law_806 (by decide) ?_
  refine iaddN (a := i) (b := 1) hx hb dL_law_807 ?_
  refine va_sld hx hb hX hbl hbA hS (vp_in_nI (show i + 1 < L by omega) (by omega)) dL_law_808 ?_
  refine topI (sc (i + 1)) (congrArg sc (nI_clamp (by omega))) ?_
  refine lv_aload_n hx hb dL_law_809 rfl (lv_at hl 0 rfl) ?_
  refine lv_iload_n hx hb dL_law_810 rfl (lv_at hl 3 rfl) ?_
  refine lv_iconst (v := nI 2) hx hb dL_law_811 (by decide) ?_
  refine iaddN (a := i) (b := 2) hx hb dL_law_812 ?_
  refine va_sld hx hb hX hbl hbA hS (vp_in_nI (show i + 2 < L by omega) (by omega)) dL_law_813 ?_
  refine topI (sc (i + 2)) (congrArg sc (nI_clamp (by omega))) ?_
  refine lv_aload_n hx hb dL_law_814 rfl (lv_at hl 0 rfl) ?_
  refine lv_iload_n hx hb dL_law_815 rfl (lv_at hl 3 rfl) ?_
  refine lv_iconst (v := nI 3) hx hb dL_law_816 (by decide) ?_
  refine iaddN (a := i) (b := 3) hx hb dL_law_817 ?_
  refine va_sld hx hb hX hbl hbA hS (vp_in_nI (show i + 3 < L by omega) (by omega)) dL_law_818 ?_
  refine topI (sc (i + 3)) (congrArg sc (nI_clamp (by omega))) ?_
  refine lv_aload_n hx hb dL_law_819 rfl (lv_at hl 0 rfl) ?_
  refine lv_iload_n hx hb dL_law_820 rfl (lv_at hl 3 rfl) ?_
  refine lv_iconst (v := nI 4) hx hb dL_law_821 (by decide) ?_
  refine iaddN (a := i) (b := 4) hx hb dL_law_822 ?_
  refine va_sld hx hb hX hbl hbA hS (vp_in_nI (show i + 4 < L by omega) (by omega)) dL_law_823 ?_
  refine topI (sc (i + 4)) (congrArg sc (nI_clamp (by omega))) ?_
  refine lv_aload_n hx hb dL_law_824 rfl (lv_at hl 0 rfl) ?_
  refine lv_iload_n hx hb dL_law_825 rfl (lv_at hl 3 rfl) ?_
  refine lv_iconst (v := nI 5) hx hb dL_law_826 (by decide) ?_
  refine iaddN (a := i) (b := 5) hx hb dL_law_827 ?_
  refine va_sld hx hb hX hbl hbA hS (vp_in_nI (show i + 5 < L by omega) (by omega)) dL_law_828 ?_
  refine topI (sc (i + 5)) (congrArg sc (nI_clamp (by omega))) ?_
  refine k_X9_from (Wd := 1) md mdp mdc mdl mdm mdi mdt mds mdw mdh mdx mde mda mdb mdr (sc (i + 1)) (sc (i + 2)) (sc (i + 3)) (sc (i + 4)) (sc (i + 5)) fnd mn tn kn s1 s2 s3 mt an cs _ _ hmn htn hcs ⟨hx, hb, hml, hown, hta⟩ mw938 ⟨Nat.le_of_ble_eq_true rfl, Nat.le_of_ble_eq_true rfl⟩ hK hP hD hS [24, 28, 29] rfl rfl hl.1 (Nat.le_of_ble_eq_true rfl) dL_law_829 ⟨Nat.le_of_ble_eq_true rfl, Nat.le_of_ble_eq_true rfl⟩ (fun r2 s12 s22 s32 hq2 H locs hP hS => ?_)
  have hP : va_P D vwCl (wA sb sh shl shn shi mk mx my th tc ea et es be pi piw pih pin po poc poa pob as_ asn cI fnd la le it mn xs ys tn cs kn kt ks bt1 ba1 b11 b21 b31 wd hg nb ra rb pa pb pm cst mA mB an tr ++ wB md mdl mdm mdi mdp mdc mdt mds mdw mdh mdx mde mda mdb mdr cI fnd mn tn kn s12 s22 s32 mt an ml mm mi (plOf xs ys) cs kt ks wd hg nb cst mA mB tr) H := hP
  have hD : va_D (fun q : Nat => s.heap.size ≤ q) (wA sb sh shl shn shi mk mx my th tc ea et es be pi piw pih pin po poc poa pob as_ asn cI fnd la le it mn xs ys tn cs kn kt ks bt1 ba1 b11 b21 b31 wd hg nb ra rb pa pb pm cst mA mB an tr ++ wB md mdl mdm mdi mdp mdc mdt mds mdw mdh mdx mde mda mdb mdr cI fnd mn tn kn s12 s22 s32 mt an ml mm mi (plOf xs ys) cs kt ks wd hg nb cst mA mB tr) := hD.same rfl
  have e9 : r1 = r2 := hq1.trans hq2.symm
  subst e9
  have hP : va_P D vwCl (wA sb sh shl shn shi mk mx my th tc ea et es be pi piw pih pin po poc poa pob as_ asn cI fnd la le it mn xs ys tn cs kn kt ks bt1 ba1 b11 b21 b31 wd hg nb ra rb pa pb pm cst mA mB an tr ++ wB md mdl mdm mdi mdp mdc mdt mds mdw mdh mdx mde mda mdb mdr cI fnd mn tn kn s12 s22 s32 mt an ml mm mi (plOf xs ys) cs kt ks wd hg nb cst mA mB tr) H := hP
  have hD : va_D (fun q : Nat => s.heap.size ≤ q) (wA sb sh shl shn shi mk mx my th tc ea et es be pi piw pih pin po poc poa pob as_ asn cI fnd la le it mn xs ys tn cs kn kt ks bt1 ba1 b11 b21 b31 wd hg nb ra rb pa pb pm cst mA mB an tr ++ wB md mdl mdm mdi mdp mdc mdt mds mdw mdh mdx mde mda mdb mdr cI fnd mn tn kn s12 s22 s32 mt an ml mm mi (plOf xs ys) cs kt ks wd hg nb cst mA mB tr) := hD.same rfl
  refine icmpI_eq (tgt := 1227) hx hb dL_law_832 (by decide) (fun c9 => ?_) (fun c9 => absurd rfl c9)
  refine lv_iinc (v := nI (i + 6)) (lv' := [(3, .int (nI (i + 6))), (0, .ref b), (1, .ref sb), (2, .ref md)]) hx hb dL_law_1227 hl (k := 3) rfl (nI_inc6 _) (by decide) rfl (fun ls hl => ?_)
  refine lv_goto (tgt := 18) hx hb dL_law_1230 (by decide) ?_
  exact ih fnd la le it mn xs ys tn cs kn kt ks bt1 ba1 b11 b21 b31 wd hg nb ra rb pa pb pm cst mA mB an tr ml mm mi s12 s22 s32 mt ⟨hRS, hmn, htn, hkn, hcs, hxs, hys, hko, hpi, han⟩ H locs hP hS ls (lv_sub hl [1, 2, 3, 0] rfl)

set_option maxHeartbeats 4000000 in
set_option maxRecDepth 100000 in
theorem lawc_picture {p : Program} {l : Launch} {e : Env} {s : State} {m : MethodId} {below : List Frame} {meth : Method} {c : Code} {D : va_G} {cI : ClassId} {b L : Nat} {sc : Nat → Int32} (sb sh shl shn shi mk mx my th tc ea et es be pi piw pih pin po poc poa pob as_ asn : Nat) (md mdl mdm mdi mdp mdc mdt mds mdw mdh mdx mde mda mdb mdr : Nat) (fnd : Int32) (la : Nat → Int32) (le : Nat → Int32) (it : Nat → Int32) (mn : Nat) (xs : Nat → Int32) (ys : Nat → Int32) (tn : Nat) (cs : Nat → Int32) (kn : Nat) (kt : Nat → Int32) (ks : Nat → Int32) (bt : Int32) (ba : Int64) (b1 : Int64) (b2 : Int64) (b3 : Int64) (wd : Nat → Int32) (hg : Nat → Int32) (nb : Nat → Int32) (ra : Nat) (rb : Nat) (pa : Nat) (pb : Nat) (pm : Nat) (cst : Nat → Int32) (mA : Nat → Int32) (mB : Nat → Int32) (an : Nat) (tr : Nat → Int32) (ml : Nat → Int32) (mm : Nat → Int32) (mi : Nat → Int32) (s1 : Int64) (s2 : Int64) (s3 : Int64) (mt : Nat) (hC : LC p s m meth c D cI b L sc) (hI : INV la le it mn xs ys tn cs kn kt ks wd hg an ml mm mi) (H : Heap) (locs : List Loc) (hP : va_P D vwCl (wA sb sh shl shn shi mk mx my th tc ea et es be pi piw pih pin po poc poa pob as_ asn cI fnd la le it mn xs ys tn cs kn kt ks bt ba b1 b2 b3 wd hg nb ra rb pa pb pm cst mA mB an tr ++ wB md mdl mdm mdi mdp mdc mdt mds mdw mdh mdx mde mda mdb mdr cI fnd mn tn kn s1 s2 s3 mt an ml mm mi (plOf xs ys) cs kt ks wd hg nb cst mA mB tr) H) (hD : va_D (fun q : Nat => s.heap.size ≤ q) (wA sb sh shl shn shi mk mx my th tc ea et es be pi piw pih pin po poc poa pob as_ asn cI fnd la le it mn xs ys tn cs kn kt ks bt ba b1 b2 b3 wd hg nb ra rb pa pb pm cst mA mB an tr ++ wB md mdl mdm mdi mdp mdc mdt mds mdw mdh mdx mde mda mdb mdr cI fnd mn tn kn s1 s2 s3 mt an ml mm mi (plOf xs ys) cs kt ks wd hg nb cst mA mB tr)) (hS : va_S (fun q : Nat => s.heap.size ≤ q) s.heap H locs) (i : Nat) (hi : i + 6 ≤ L) (ih : LH p l e s m below meth c D cI b sb sh shl shn shi mk mx my th tc ea et es be pi piw pih pin po poc poa pob as_ asn md mdl mdm mdi mdp mdc mdt mds mdw mdh mdx mde mda mdb mdr (i + 6)) (ls : Array Slot) (hl : lv_has ls 4 [(0, .ref b), (1, .ref sb), (2, .ref md), (3, .int (nI i))]) : W p l e room_1 s m #[Value.ref b] below meth c H locs 39 5353 (lw_Z below #[Value.ref b] s) (F0 m 837 ls []) := by
  obtain ⟨hx, hb, hr, hml, hown, hta, hX, hbl, hlocks, hK, hL⟩ := hC
  obtain ⟨hRS, hmn, htn, hkn, hcs, hxs, hys, hko, hpi, han⟩ := hI
  have hbA : ¬ (fun q : Nat => s.heap.size ≤ q) b := Nat.not_le.mpr hbl
  have hkt := KOK_ne hko
  have hsh := RS_SH hRS
  refine lv_aload_n hx hb dL_law_837 rfl (lv_at hl 1 rfl) ?_
  refine lv_aload_n hx hb dL_law_838 rfl (lv_at hl 0 rfl) ?_
  refine lv_iload_n hx hb dL_law_839 rfl (lv_at hl 3 rfl) ?_
  refine lv_iconst (v := nI 1) hx hb dL_law_840 (by decide) ?_
  refine iaddN (a := i) (b := 1) hx hb dL_law_841 ?_
  refine va_sld hx hb hX hbl hbA hS (vp_in_nI (show i + 1 < L by omega) (by omega)) dL_law_842 ?_
  refine topI (sc (i + 1)) (congrArg sc (nI_clamp (by omega))) ?_
  refine lv_aload_n hx hb dL_law_843 rfl (lv_at hl 0 rfl) ?_
  refine lv_iload_n hx hb dL_law_844 rfl (lv_at hl 3 rfl) ?_
  refine lv_iconst (v := nI 2) hx hb dL_law_845 (by decide) ?_
  refine iaddN (a := i) (b := 2) hx hb dL_law_846 ?_
  refine va_sld hx hb hX hbl hbA hS (vp_in_nI (show i + 2 < L by omega) (by omega)) dL_law_847 ?_
  refine topI (sc (i + 2)) (congrArg sc (nI_clamp (by omega))) ?_
  refine lv_aload_n hx hb dL_law_848 rfl (lv_at hl 0 rfl) ?_
  refine lv_iload_n hx hb dL_law_849 rfl (lv_at hl 3 rfl) ?_
  refine lv_iconst (v := nI 3) hx hb dL_law_850 (by decide) ?_
  refine iaddN (a := i) (b := 3) hx hb dL_law_851 ?_
  refine va_sld hx hb hX hbl hbA hS (vp_in_nI (show i + 3 < L by omega) (by omega)) dL_law_852 ?_
  refine topI (sc (i + 3)) (congrArg sc (nI_clamp (by omega))) ?_
  refine lv_aload_n hx hb dL_law_853 rfl (lv_at hl 0 rfl) ?_
  refine lv_iload_n hx hb dL_law_854 rfl (lv_at hl 3 rfl) ?_
  refine lv_iconst (v := nI 4) hx hb dL_law_855 (by decide) ?_
  refine iaddN (a := i) (b := 4) hx hb dL_law_856 ?_
  refine va_sld hx hb hX hbl hbA hS (vp_in_nI (show i + 4 < L by omega) (by omega)) dL_law_857 ?_
  refine topI (sc (i + 4)) (congrArg sc (nI_clamp (by omega))) ?_
  refine lv_aload_n hx hb dL_law_858 rfl (lv_at hl 0 rfl) ?_
  refine lv_iload_n hx hb dL_law_859 rfl (lv_at hl 3 rfl) ?_
  refine lv_iconst (v := nI 5) hx hb dL_law_860 (by decide) ?_
  refine iaddN (a := i) (b := 5) hx hb dL_law_861 ?_
  refine va_sld hx hb hX hbl hbA hS (vp_in_nI (show i + 5 < L by omega) (by omega)) dL_law_862 ?_
  refine topI (sc (i + 5)) (congrArg sc (nI_clamp (by omega))) ?_
  refine k_X8_picture (Wd := 0) sb pi piw pih pin sh shl shn shi mk th ea be po as_ (sc (i + 1)) (sc (i + 2)) (sc (i + 3)) (sc (i + 4)) (sc (i + 5)) fnd wd hg nb la le it hsh ⟨hx, hb, hml, hown, hta⟩ mw537 ⟨Nat.le_of_ble_eq_true rfl, Nat.le_of_ble_eq_true rfl⟩ hK hP hD hS [0, 14, 15, 16, 17, 1, 2, 3, 4] rfl rfl hl.1 (Nat.le_of_ble_eq_true rfl) dL_law_863 ⟨Nat.le_of_ble_eq_true rfl, Nat.le_of_ble_eq_true rfl⟩ (fun r1 f1 wd1 hg1 nb1 hq1 H locs hP hS => ?_)
  have hP : va_P D vwCl (wA sb sh shl shn shi mk mx my th tc ea et es be pi piw pih pin po poc poa pob as_ asn cI f1 la le it mn xs ys tn cs kn kt ks bt ba b1 b2 b3 wd1 hg1 nb1 ra rb pa pb pm cst mA mB an tr ++ wB md mdl mdm mdi mdp mdc mdt mds mdw mdh mdx mde mda mdb mdr cI fnd mn tn kn s1 s2 s3 mt an ml mm mi (plOf xs ys) cs kt ks wd hg nb cst mA mB tr) H := hP
  have hD : va_D (fun q : Nat => s.heap.size ≤ q) (wA sb sh shl shn shi mk mx my th tc ea et es be pi piw pih pin po poc poa pob as_ asn cI f1 la le it mn xs ys tn cs kn kt ks bt ba b1 b2 b3 wd1 hg1 nb1 ra rb pa pb pm cst mA mB an tr ++ wB md mdl mdm mdi mdp mdc mdt mds mdw mdh mdx mde mda mdb mdr cI fnd mn tn kn s1 s2 s3 mt an ml mm mi (plOf xs ys) cs kt ks wd hg nb cst mA mB tr) := hD.same rfl
  refine lv_aload_n hx hb dL_law_866 rfl (lv_at hl 2 rfl) ?_
  refine lv_aload_n hx hb dL_law_867 rfl (lv_at hl 0 rfl) ?_
  refine lv_iload_n hx hb dL_law_868 rfl (lv_at hl 3 rfl) ?_
  refine lv_iconst (v := nI 1) hx hb dL_law_869 (by decide) ?_
  refine iaddN (a := i) (b := 1) hx hb dL_law_870 ?_
  refine va_sld hx hb hX hbl hbA hS (vp_in_nI (show i + 1 < L by omega) (by omega)) dL_law_871 ?_
  refine topI (sc (i + 1)) (congrArg sc (nI_clamp (by omega))) ?_
  refine lv_aload_n hx hb dL_law_872 rfl (lv_at hl 0 rfl) ?_
  refine lv_iload_n hx hb dL_law_873 rfl (lv_at hl 3 rfl) ?_
  refine lv_iconst (v := nI 2) hx hb dL_law_874 (by decide) ?_
  refine iaddN (a := i) (b := 2) hx hb dL_law_875 ?_
  refine va_sld hx hb hX hbl hbA hS (vp_in_nI (show i + 2 < L by omega) (by omega)) dL_law_876 ?_
  refine topI (sc (i + 2)) (congrArg sc (nI_clamp (by omega))) ?_
  refine lv_aload_n hx hb dL_law_877 rfl (lv_at hl 0 rfl) ?_
  refine lv_iload_n hx hb dL_law_878 rfl (lv_at hl 3 rfl) ?_
  refine lv_iconst (v := nI 3) hx hb dL_law_879 (by decide) ?_
  refine iaddN (a := i) (b := 3) hx hb dL_law_880 ?_
  refine va_sld hx hb hX hbl hbA hS (vp_in_nI (show i + 3 < L by omega) (by omega)) dL_law_881 ?_
  refine topI (sc (i + 3)) (congrArg sc (nI_clamp (by omega))) ?_
  refine lv_aload_n hx hb dL_law_882 rfl (lv_at hl 0 rfl) ?_
  refine lv_iload_n hx hb dL_law_883 rfl (lv_at hl 3 rfl) ?_
  refine lv_iconst (v := nI 4) hx hb dL_law_884 (by decide) ?_
  refine iaddN (a := i) (b := 4) hx hb dL_law_885 ?_
  refine va_sld hx hb hX hbl hbA hS (vp_in_nI (show i + 4 < L by omega) (by omega)) dL_law_886 ?_
  refine topI (sc (i + 4)) (congrArg sc (nI_clamp (by omega))) ?_
  refine lv_aload_n hx hb dL_law_887 rfl (lv_at hl 0 rfl) ?_
  refine lv_iload_n hx hb dL_law_888 rfl (lv_at hl 3 rfl) ?_
  refine lv_iconst (v := nI 5) hx hb dL_law_889 (by decide) ?_
  refine iaddN (a := i) (b := 5) hx hb dL_law_890 ?_
  refine va_sld hx hb hX hbl hbA hS (vp_in_nI (show i + 5 < L by omega) (by omega)) dL_law_891 ?_
  refine topI (sc (i + 5)) (congrArg sc (nI_clamp (by omega))) ?_
  refine k_X9_picture (Wd := 1) md mdl mdm mdi mdw mdh mdx mdp mdc mdt mds mde mda mdb mdr (sc (i + 1)) (sc (i + 2)) (sc (i + 3)) (sc (i + 4)) (sc (i + 5)) fnd mn tn kn s1 s2 s3 mt an ml mm mi wd hg nb _ _ _ hRS ⟨hx, hb, hml, hown, hta⟩ mw947 ⟨Nat.le_of_ble_eq_true rfl, Nat.le_of_ble_eq_true rfl⟩ hK hP hD hS [24, 25, 26, 27, 32, 33, 34] rfl rfl hl.1 (Nat.le_of_ble_eq_true rfl) dL_law_892 ⟨Nat.le_of_ble_eq_true rfl, Nat.le_of_ble_eq_true rfl⟩ (fun r2 f2 wd2 hg2 nb2 hq2 H locs hP hS => ?_)
  have hP : va_P D vwCl (wA sb sh shl shn shi mk mx my th tc ea et es be pi piw pih pin po poc poa pob as_ asn cI f1 la le it mn xs ys tn cs kn kt ks bt ba b1 b2 b3 wd1 hg1 nb1 ra rb pa pb pm cst mA mB an tr ++ wB md mdl mdm mdi mdp mdc mdt mds mdw mdh mdx mde mda mdb mdr cI f2 mn tn kn s1 s2 s3 mt an ml mm mi (plOf xs ys) cs kt ks wd2 hg2 nb2 cst mA mB tr) H := hP
  have hD : va_D (fun q : Nat => s.heap.size ≤ q) (wA sb sh shl shn shi mk mx my th tc ea et es be pi piw pih pin po poc poa pob as_ asn cI f1 la le it mn xs ys tn cs kn kt ks bt ba b1 b2 b3 wd1 hg1 nb1 ra rb pa pb pm cst mA mB an tr ++ wB md mdl mdm mdi mdp mdc mdt mds mdw mdh mdx mde mda mdb mdr cI f2 mn tn kn s1 s2 s3 mt an ml mm mi (plOf xs ys) cs kt ks wd2 hg2 nb2 cst mA mB tr) := hD.same rfl
  have e9 := hq1.trans hq2.symm
  simp only [Prod.mk.injEq] at e9
  obtain ⟨e9_0, e9_1, e9_2, e9_3, e9_4⟩ := e9
  subst e9_0
  subst e9_1
  subst e9_2
  subst e9_3
  subst e9_4
  have hpi := pic_inv hpi hq1
  have hP : va_P D vwCl (wA sb sh shl shn shi mk mx my th tc ea et es be pi piw pih pin po poc poa pob as_ asn cI f1 la le it mn xs ys tn cs kn kt ks bt ba b1 b2 b3 wd1 hg1 nb1 ra rb pa pb pm cst mA mB an tr ++ wB md mdl mdm mdi mdp mdc mdt mds mdw mdh mdx mde mda mdb mdr cI (f1) mn tn kn s1 s2 s3 mt an ml mm mi (plOf xs ys) cs kt ks (wd1) (hg1) (nb1) cst mA mB tr) H := hP
  have hD : va_D (fun q : Nat => s.heap.size ≤ q) (wA sb sh shl shn shi mk mx my th tc ea et es be pi piw pih pin po poc poa pob as_ asn cI f1 la le it mn xs ys tn cs kn kt ks bt ba b1 b2 b3 wd1 hg1 nb1 ra rb pa pb pm cst mA mB an tr ++ wB md mdl mdm mdi mdp mdc mdt mds mdw mdh mdx mde mda mdb mdr cI (f1) mn tn kn s1 s2 s3 mt an ml mm mi (plOf xs ys) cs kt ks (wd1) (hg1) (nb1) cst mA mB tr) := hD.same rfl
  refine icmpI_eq (tgt := 1227) hx hb dL_law_895 (by decide) (fun c9 => ?_) (fun c9 => absurd rfl c9)
  refine lv_iinc (v := nI (i + 6)) (lv' := [(3, .int (nI (i + 6))), (0, .ref b), (1, .ref sb), (2, .ref md)]) hx hb dL_law_1227 hl (k := 3) rfl (nI_inc6 _) (by decide) rfl (fun ls hl => ?_)
  refine lv_goto (tgt := 18) hx hb dL_law_1230 (by decide) ?_
  exact ih f1 la le it mn xs ys tn cs kn kt ks bt ba b1 b2 b3 wd1 hg1 nb1 ra rb pa pb pm cst mA mB an tr ml mm mi s1 s2 s3 mt ⟨hRS, hmn, htn, hkn, hcs, hxs, hys, hko, hpi, han⟩ H locs hP hS ls (lv_sub hl [1, 2, 3, 0] rfl)
