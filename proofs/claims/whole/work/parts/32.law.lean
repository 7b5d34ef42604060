set_option maxHeartbeats 4000000 in
set_option maxRecDepth 100000 in
theorem lawc_seen {p : Program} {l : Launch} {e : Env} {s : State} {m : MethodId} {below : List Frame} {meth : Method} {c : Code} {D : va_G} {cI : ClassId} {b L : Nat} {sc : Nat → Int32} (sb sh shl shn shi mk mx my th tc ea et es be pi piw pih pin po poc poa pob as_ asn : Nat) (md mdl mdm mdi mdp mdc mdt mds mdw mdh mdx mde mda mdb mdr : Nat) (fnd : Int32) (la : Nat → Int32) (le : Nat → Int32) (it : Nat → Int32) (mn : Nat) (xs : Nat → Int32) (ys : Nat → Int32) (tn : Nat) (cs : Nat → Int32) (kn : Nat) (kt : Nat → Int32) (ks : Nat → Int32) (bt : Int32) (ba : Int64) (b1 : Int64) (b2 : Int64) (b3 : Int64) (wd : Nat → Int32) (hg : Nat → Int32) (nb : Nat → Int32) (ra : Nat) (rb : Nat) (pa : Nat) (pb : Nat) (pm : Nat) (cst : Nat → Int32) (mA : Nat → Int32) (mB : Nat → Int32) (an : Nat) (tr : Nat → Int32) (ml : Nat → Int32) (mm : Nat → Int32) (mi : Nat → Int32) (s1 : Int64) (s2 : Int64) (s3 : Int64) (mt : Nat) (hC : LC p s m meth c D cI b L sc) (hI : INV la le it mn xs ys tn cs kn kt ks wd hg an ml mm mi) (H : Heap) (locs : List Loc) (hP : va_P D vwCl (wA sb sh shl shn shi mk mx my th tc ea et es be pi piw pih pin po poc poa pob as_ asn cI fnd la le it mn xs ys tn cs kn kt ks bt ba b1 b2 b3 wd hg nb ra rb pa pb pm cst mA mB an tr ++ wB md mdl mdm mdi mdp mdc mdt mds mdw mdh mdx mde mda mdb mdr cI fnd mn tn kn s1 s2 s3 mt an ml mm mi (plOf xs ys) cs kt ks wd hg nb cst mA mB tr) H) (hD : va_D (fun q : Nat => s.heap.size ≤ q) (wA sb sh shl shn shi mk mx my th tc ea et es be pi piw pih pin po poc poa pob as_ asn cI fnd la le it mn xs ys tn cs kn kt ks bt ba b1 b2 b3 wd hg nb ra rb pa pb pm cst mA mB an tr ++ wB md mdl mdm mdi mdp mdc mdt mds mdw mdh mdx mde mda mdb mdr cI fnd mn tn kn s1 s2 s3 mt an ml mm mi (plOf xs ys) cs kt ks wd hg nb cst mA mB tr)) (hS : va_S (fun q : Nat => s.heap.size ≤ q) s.heap H locs) (i : Nat) (hi : i + 6 ≤ L) (ih : LH p l e s m below meth c D cI b sb sh shl shn shi mk mx my th tc ea et es be pi piw pih pin po poc poa pob as_ asn md mdl mdm mdi mdp mdc mdt mds mdw mdh mdx mde mda mdb mdr (i + 6)) (ls : Array Slot) (hl : lv_has ls 4 [(0, .ref b), (1, .ref sb), (2, .ref md), (3, .int (nI i))]) : W p l e room_1 s m #[Value.ref b] below meth c H locs 39 5353 (lw_Z below #[Value.ref b] s) (F0 m 900 ls []) := by
  obtain ⟨hx, hb, hr, hml, hown, hta, hX, hbl, hlocks, hK, hL⟩ := hC
  obtain ⟨hRS, hmn, htn, hkn, hcs, hxs, hys, hko, hpi, han⟩ := hI
  have hbA : ¬ (fun q : Nat => s.heap.size ≤ q) b := Nat.not_le.mpr hbl
  have hkt := KOK_ne hko
  have hsh := RS_SH hRS
  refine lv_aload_n hx hb dL_law_900 rfl (lv_at hl 1 rfl) ?_
  refine lv_aload_n hx hb dL_law_901 rfl (lv_at hl 0 rfl) ?_
  refine lv_iload_n hx hb dL_law_902 rfl (lv_at hl 3 rfl) ?_
  refine lv_iconst (v := nI 1) hx hb dL_law_903 (by decide) ?_
  refine iaddN (a := i) (b := 1) hx hb dL_law_904 ?_
  refine va_sld hx hb hX hbl hbA hS (vp_in_nI (show i + 1 < L by omega) (by omega)) dL_law_905 ?_
  refine topI (sc (i + 1)) (congrArg sc (nI_clamp (by omega))) ?_
  refine lv_aload_n hx hb dL_law_906 rfl (lv_at hl 0 rfl) ?_
  refine lv_iload_n hx hb dL_law_907 rfl (lv_at hl 3 rfl) ?_
  refine lv_iconst (v := nI 2) hx hb dL_law_908 (by decide) ?_
  refine iaddN (a := i) (b := 2) hx hb dL_law_909 ?_
  refine va_sld hx hb hX hbl hbA hS (vp_in_nI (show i + 2 < L by omega) (by omega)) dL_law_910 ?_
  refine topI (sc (i + 2)) (congrArg sc (nI_clamp (by omega))) ?_
  refine lv_aload_n hx hb dL_law_911 rfl (lv_at hl 0 rfl) ?_
  refine lv_iload_n hx hb dL_law_912 rfl (lv_at hl 3 rfl) ?_
  refine lv_iconst (v := nI 3) hx hb dL_law_913 (by decide) ?_
  refine iaddN (a := i) (b := 3) hx hb dL_law_914 ?_
  refine va_sld hx hb hX hbl hbA hS (vp_in_nI (show i + 3 < L by omega) (by omega)) dL_law_915 ?_
  refine topI (sc (i + 3)) (congrArg sc (nI_clamp (by omega))) ?_
  refine lv_aload_n hx hb dL_law_916 rfl (lv_at hl 0 rfl) ?_
  refine lv_iload_n hx hb dL_law_917 rfl (lv_at hl 3 rfl) ?_
  refine lv_iconst (v := nI 4) hx hb dL_law_918 (by decide) ?_
  refine iaddN (a := i) (b := 4) hx hb dL_law_919 ?_
  refine va_sld hx hb hX hbl hbA hS (vp_in_nI (show i + 4 < L by omega) (by omega)) dL_law_920 ?_
  refine topI (sc (i + 4)) (congrArg sc (nI_clamp (by omega))) ?_
  refine k_X8_seen (Wd := 0) sb be th tc mk mx my pi piw pih pin sh ea po as_ (sc (i + 1)) (sc (i + 2)) (sc (i + 3)) (sc (i + 4)) fnd bt ba b1 b2 b3 tn cs mn xs ys wd hg nb hmn htn hcs hxs hys hpi ⟨hx, hb, hml, hown, hta⟩ mw555 ⟨Nat.le_of_ble_eq_true rfl, Nat.le_of_ble_eq_true rfl⟩ hK hP hD hS [0, 13, 8, 9, 5, 6, 7, 14, 15, 16, 17] rfl rfl hl.1 (Nat.le_of_ble_eq_true rfl) dL_law_921 ⟨Nat.le_of_ble_eq_true rfl, Nat.le_of_ble_eq_true rfl⟩ (fun r1 bt1 ba1 b11 b21 b31 hq1 H locs hP hS => ?_)
  have hP : va_P D vwCl (wA sb sh shl shn shi mk mx my th tc ea et es be pi piw pih pin po poc poa pob as_ asn cI fnd la le it mn xs ys tn cs kn kt ks bt1 ba1 b11 b21 b31 wd hg nb ra rb pa pb pm cst mA mB an tr ++ wB md mdl mdm mdi mdp mdc mdt mds mdw mdh mdx mde mda mdb mdr cI fnd mn tn kn s1 s2 s3 mt an ml mm mi (plOf xs ys) cs kt ks wd hg nb cst mA mB tr) H := hP
  have hD : va_D (fun q : Nat => s.heap.size ≤ q) (wA sb sh shl shn shi mk mx my th tc ea et es be pi piw pih pin po poc poa pob as_ asn cI fnd la le it mn xs ys tn cs kn kt ks bt1 ba1 b11 b21 b31 wd hg nb ra rb pa pb pm cst mA mB an tr ++ wB md mdl mdm mdi mdp mdc mdt mds mdw mdh mdx mde mda mdb mdr cI fnd mn tn kn s1 s2 s3 mt an ml mm mi (plOf xs ys) cs kt ks wd hg nb cst mA mB tr) := hD.same rfl
  refine lv_aload_n hx hb dL_law_924 rfl (lv_at hl 2 rfl) ?_
  refine lv_aload_n hx hb dL_law_925 rfl (lv_at hl 0 rfl) ?_
  refine lv_iload_n hx hb dL_law_926 rfl (lv_at hl 3 rfl) ?_
  refine lv_iconst (v := nI 1) hx hb dL_law_927 (by decide) ?_
  refine iaddN (a := i) (b := 1) hx hb dL_law_928 ?_
  refine va_sld hx hb hX hbl hbA hS (vp_in_nI (show i + 1 < L by omega) (by omega)) dL_law_929 ?_
  refine topI (sc (i + 1)) (congrArg sc (nI_clamp (by omega))) ?_
  refine lv_aload_n hx hb dL_law_930 rfl (lv_at hl 0 rfl) ?_
  refine lv_iload_n hx hb dL_law_931 rfl (lv_at hl 3 rfl) ?_
  refine lv_iconst (v := nI 2) hx hb dL_law_932 (by decide) ?_
  refine iaddN (a := i) (b := 2) hx hb dL_law_933 ?_
  refine va_sld hx hb hX hbl hbA hS (vp_in_nI (show i + 2 < L by omega) (by omega)) dL_law_934 ?_
  refine topI (sc (i + 2)) (congrArg sc (nI_clamp (by omega))) ?_
  refine lv_aload_n hx hb dL_law_935 rfl (lv_at hl 0 rfl) ?_
  refine lv_iload_n hx hb dL_law_936 rfl (lv_at hl 3 rfl) ?_
  refine lv_iconst (v := nI 3) hx hb dL_law_937 (by decide) ?_
  refine iaddN (a := i) (b := 3) hx hb dL_law_938 ?_
  refine va_sld hx hb hX hbl hbA hS (vp_in_nI (show i + 3 < L by omega) (by omega)) dL_law_939 ?_
  refine topI (sc (i + 3)) (congrArg sc (nI_clamp (by omega))) ?_
  refine lv_aload_n hx hb dL_law_940 rfl (lv_at hl 0 rfl) ?_
  refine lv_iload_n hx hb dL_law_941 rfl (lv_at hl 3 rfl) ?_
  refine lv_iconst (v := nI 4) hx hb dL_law_942 (by decide) ?_
  refine iaddN (a := i) (b := 4) hx hb dL_law_943 ?_
  refine va_sld hx hb hX hbl hbA hS (vp_in_nI (show i + 4 < L by omega) (by omega)) dL_law_944 ?_
  refine topI (sc (i + 4)) (congrArg sc (nI_clamp (by omega))) ?_
  refine k_X9_seen (Wd := 1) md mdp mdc mdw mdh mdx mdl mdm mdi mdt mds mde mda mdb mdr (sc (i + 1)) (sc (i + 2)) (sc (i + 3)) (sc (i + 4)) fnd mn tn kn s1 s2 s3 mt an cs wd hg nb _ _ hmn htn hcs hxs hys hpi ⟨hx, hb, hml, hown, hta⟩ mw953 ⟨Nat.le_of_ble_eq_true rfl, Nat.le_of_ble_eq_true rfl⟩ hK hP hD hS [24, 28, 29, 32, 33, 34] rfl rfl hl.1 (Nat.le_of_ble_eq_true rfl) dL_law_945 ⟨Nat.le_of_ble_eq_true rfl, Nat.le_of_ble_eq_true rfl⟩ (fun r2 s12 s22 s32 hq2 H locs hP hS => ?_)
  have hP : va_P D vwCl (wA sb sh shl shn shi mk mx my th tc ea et es be pi piw pih pin po poc poa pob as_ asn cI fnd la le it mn xs ys tn cs kn kt ks bt1 ba1 b11 b21 b31 wd hg nb ra rb pa pb pm cst mA mB an tr ++ wB md mdl mdm mdi mdp mdc mdt mds mdw mdh mdx mde mda mdb mdr cI fnd mn tn kn s12 s22 s32 mt an ml mm mi (plOf xs ys) cs kt ks wd hg nb cst mA mB tr) H := hP
  have hD : va_D (fun q : Nat => s.heap.size ≤ q) (wA sb sh shl shn shi mk mx my th tc ea et es be pi piw pih pin po poc poa pob as_ asn cI fnd la le it mn xs ys tn cs kn kt ks bt1 ba1 b11 b21 b31 wd hg nb ra rb pa pb pm cst mA mB an tr ++ wB md mdl mdm mdi mdp mdc mdt mds mdw mdh mdx mde mda mdb mdr cI fnd mn tn kn s12 s22 s32 mt an ml mm mi (plOf xs ys) cs kt ks wd hg nb cst mA mB tr) := hD.same rfl
  have e9 : r1 = r2 := hq1.trans hq2.symm
  subst e9
  have hP : va_P D vwCl (wA sb sh shl shn shi mk mx my th tc ea et es be pi piw pih pin po poc poa pob as_ asn cI fnd la le it mn xs ys tn cs kn kt ks bt1 ba1 b11 b21 b31 wd hg nb ra rb pa pb pm cst mA mB an tr ++ wB md mdl mdm mdi mdp mdc mdt mds mdw mdh mdx mde mda mdb mdr cI fnd mn tn kn s12 s22 s32 mt an ml mm mi (plOf xs ys) cs kt ks wd hg nb cst mA mB tr) H := hP
  have hD : va_D (fun q : Nat => s.heap.size ≤ q) (wA sb sh shl shn shi mk mx my th tc ea et es be pi piw pih pin po poc poa pob as_ asn cI fnd la le it mn xs ys tn cs kn kt ks bt1 ba1 b11 b21 b31 wd hg nb ra rb pa pb pm cst mA mB an tr ++ wB md mdl mdm mdi mdp mdc mdt mds mdw mdh mdx mde mda mdb mdr cI fnd mn tn kn s12 s22 s32 mt an ml mm mi (plOf xs ys) cs kt ks wd hg nb cst mA mB tr) := hD.same rfl
  refine icmpI_eq (tgt := 1227) hx hb dL_law_948 (by decide) (fun c9 => ?_) (fun c9 => absurd rfl c9)
  refine lv_iinc (v := nI (i + 6)) (lv' := [(3, .int (nI (i + 6))), (0, .ref b), (1, .ref sb), (2, .ref md)]) hx hb dL_law_1227 hl (k := 3) rfl (nI_inc6 _) (by decide) rfl (fun ls hl => ?_)
  refine lv_goto (tgt := 18) hx hb dL_law_1230 (by decide) ?_
  exact ih fnd la le it mn xs ys tn cs kn kt ks bt1 ba1 b11 b21 b31 wd hg nb ra rb pa pb pm cst mA mB an tr ml mm mi s12 s22 s32 mt ⟨hRS, hmn, htn, hkn, hcs, hxs, hys, hko, hpi, han⟩ H locs hP hS ls (lv_sub hl [1, 2, 3, 0] rfl)

set_option maxHeartbeats 4000000 in
set_option maxRecDepth 100000 in
theorem lawc_pairs {p : Program} {l : Launch} {e : Env} {s : State} {m : MethodId} {below : List Frame} {meth : Method} {c : Code} {D : va_G} {cI : ClassId} {b L : Nat} {sc : Nat → Int32} (sb sh shl shn shi mk mx my th tc ea et es be pi piw pih pin po poc poa pob as_ asn : Nat) (md mdl mdm mdi mdp mdc mdt mds mdw mdh mdx mde mda mdb mdr : Nat) (fnd : Int32) (la : Nat → Int32) (le : Nat → Int32) (it : Nat → Int32) (mn : Nat) (xs : Nat → Int32) (ys : Nat → Int32) (tn : Nat) (cs : Nat → Int32) (kn : Nat) (kt : Nat → Int32) (ks : Nat → Int32) (bt : Int32) (ba : Int64) (b1 : Int64) (b2 : Int64) (b3 : Int64) (wd : Nat → Int32) (hg : Nat → Int32) (nb : Nat → Int32) (ra : Nat) (rb : Nat) (pa : Nat) (pb : Nat) (pm : Nat) (cst : Nat → Int32) (mA : Nat → Int32) (mB : Nat → Int32) (an : Nat) (tr : Nat → Int32) (ml : Nat → Int32) (mm : Nat → Int32) (mi : Nat → Int32) (s1 : Int64) (s2 : Int64) (s3 : Int64) (mt : Nat) (hC : LC p s m meth c D cI b L sc) (hI : INV la le it mn xs ys tn cs kn kt ks wd hg an ml mm mi) (H : Heap) (locs : List Loc) (hP : va_P D vwCl (wA sb sh shl shn shi mk mx my th tc ea et es be pi piw pih pin po poc poa pob as_ asn cI fnd la le it mn xs ys tn cs kn kt ks bt ba b1 b2 b3 wd hg nb ra rb pa pb pm cst mA mB an tr ++ wB md mdl mdm mdi mdp mdc mdt mds mdw mdh mdx mde mda mdb mdr cI fnd mn tn kn s1 s2 s3 mt an ml mm mi (plOf xs ys) cs kt ks wd hg nb cst mA mB tr) H) (hD : va_D (fun q : Nat => s.heap.size ≤ q) (wA sb sh shl shn shi mk mx my th tc ea et es be pi piw pih pin po poc poa pob as_ asn cI fnd la le it mn xs ys tn cs kn kt ks bt ba b1 b2 b3 wd hg nb ra rb pa pb pm cst mA mB an tr ++ wB md mdl mdm mdi mdp mdc mdt mds mdw mdh mdx mde mda mdb mdr cI fnd mn tn kn s1 s2 s3 mt an ml mm mi (plOf xs ys) cs kt ks wd hg nb cst mA mB tr)) (hS : va_S (fun q : Nat => s.heap.size ≤ q) s.heap H locs) (i : Nat) (hi : i + 6 ≤ L) (ih : LH p l e s m below meth c D cI b sb sh shl shn shi mk mx my th tc ea et es be pi piw pih pin po poc poa pob as_ asn md mdl mdm mdi mdp mdc mdt mds mdw mdh mdx mde mda mdb mdr (i + 6)) (ls : Array Slot) (hl : lv_has ls 4 [(0, .ref b), (1, .ref sb), (2, .ref md), (3, .int (nI i))]) : W p l e room_1 s m #[Value.ref b] below meth c H locs 39 5353 (lw_Z below #[Value.ref b] s) (F0 m 953 ls []) := by
  obtain ⟨hx, hb, hr, hml, hown, hta, hX, hbl, hlocks, hK, hL⟩ := hC
  obtain ⟨hRS, hmn, htn, hkn, hcs, hxs, hys, hko, hpi, han⟩ := hI
  have hbA : ¬ (fun q : Nat => s.heap.size ≤ q) b := Nat.not_le.mpr hbl
  have hkt := KOK_ne hko
  have hsh := RS_SH hRS
  refine lv_aload_n hx hb dL_law_953 rfl (lv_at hl 1 rfl) ?_
  refine lv_aload_n hx hb dL_law_954 rfl (lv_at hl 0 rfl) ?_
  refine lv_iload_n hx hb dL_law_955 rfl (lv_at hl 3 rfl) ?_
  refine lv_iconst (v := nI 1) hx hb dL_law_956 (by decide) ?_
  refine iaddN (a := i) (b := 1) hx hb dL_law_957 ?_
  refine va_sld hx hb hX hbl hbA hS (vp_in_nI (show i + 1 < L by omega) (by omega)) dL_law_958 ?_
  refine topI (sc (i + 1)) (congrArg sc (nI_clamp (by omega))) ?_
  refine lv_aload_n hx hb dL_law_959 rfl (lv_at hl 0 rfl) ?_
  refine lv_iload_n hx hb dL_law_960 rfl (lv_at hl 3 rfl) ?_
  refine lv_iconst (v := nI 2) hx hb dL_law_961 (by decide) ?_
  refine iaddN (a := i) (b := 2) hx hb dL_law_962 ?_
  refine va_sld hx hb hX hbl hbA hS (vp_in_nI (show i + 2 < L by omega) (by omega)) dL_law_963 ?_
  refine topI (sc (i + 2)) (congrArg sc (nI_clamp (by omega))) ?_
  refine lv_aload_n hx hb dL_law_964 rfl (lv_at hl 0 rfl) ?_
  refine lv_iload_n hx hb dL_law_965 rfl (lv_at hl 3 rfl) ?_
  refine lv_iconst (v := nI 3) hx hb dL_law_966 (by decide) ?_
  refine iaddN (a := i) (b := 3) hx hb dL_law_967 ?_
  refine va_sld hx hb hX hbl hbA hS (vp_in_nI (show i + 3 < L by omega) (by omega)) dL_law_968 ?_
  refine topI (sc (i + 3)) (congrArg sc (nI_clamp (by omega))) ?_
  refine lv_aload_n hx hb dL_law_969 rfl (lv_at hl 0 rfl) ?_
  refine lv_iload_n hx hb dL_law_970 rfl (lv_at hl 3 rfl) ?_
  refine lv_iconst (v := nI 4) hx hb dL_law_971 (by decide) ?_
  refine iaddN (a := i) (b := 4) hx hb dL_law_972 ?_
  refine va_sld hx hb hX hbl hbA hS (vp_in_nI (show i + 4 < L by omega) (by omega)) dL_law_973 ?_
  refine topI (sc (i + 4)) (congrArg sc (nI_clamp (by omega))) ?_
  refine lv_aload_n hx hb dL_law_974 rfl (lv_at hl 0 rfl) ?_
  refine lv_iload_n hx hb dL_law_975 rfl (lv_at hl 3 rfl) ?_
  refine lv_iconst (v := nI 5) hx hb dL_law_976 (by decide) ?_
  refine iaddN (a := i) (b := 5) hx hb dL_law_977 ?_
  refine va_sld hx hb hX hbl hbA hS (vp_in_nI (show i + 5 < L by omega) (by omega)) dL_law_978 ?_
  refine topI (sc (i + 5)) (congrArg sc (nI_clamp (by omega))) ?_
  refine k_X8_pairs (Wd := 0) sb po poc poa pob sh shl shn shi mk th ea be pi as_ (sc (i + 1)) (sc (i + 2)) (sc (i + 3)) (sc (i + 4)) (sc (i + 5)) fnd ra rb pa pb pm cst mA mB la le it  ⟨hx, hb, hml, hown, hta⟩ mw571 ⟨Nat.le_of_ble_eq_true rfl, Nat.le_of_ble_eq_true rfl⟩ hK hP hD hS [0, 18, 19, 20, 21, 1, 2, 3, 4] rfl rfl hl.1 (Nat.le_of_ble_eq_true rfl) dL_law_979 ⟨Nat.le_of_ble_eq_true rfl, Nat.le_of_ble_eq_true rfl⟩ (fun r1 f1 ra1 rb1 pa1 pb1 pm1 cst1 mA1 mB1 hq1 H locs hP hS => ?_)
  have hP : va_P D vwCl (wA sb sh shl shn shi mk mx my th tc ea et es be pi piw pih pin po poc poa pob as_ asn cI f1 la le it mn xs ys tn cs kn kt ks bt ba b1 b2 b3 wd hg nb ra1 rb1 pa1 pb1 pm1 cst1 mA1 mB1 an tr ++ wB md mdl mdm mdi mdp mdc mdt mds mdw mdh mdx mde mda mdb mdr cI fnd mn tn kn s1 s2 s3 mt an ml mm mi (plOf xs ys) cs kt ks wd hg nb cst mA mB tr) H := hP
  have hD : va_D (fun q : Nat => s.heap.size ≤ q) (wA sb sh shl shn shi mk mx my th tc ea et es be pi piw pih pin po poc poa pob as_ asn cI f1 la le it mn xs ys tn cs kn kt ks bt ba b1 b2 b3 wd hg nb ra1 rb1 pa1 pb1 pm1 cst1 mA1 mB1 an tr ++ wB md mdl mdm mdi mdp mdc mdt mds mdw mdh mdx mde mda mdb mdr cI fnd mn tn kn s1 s2 s3 mt an ml mm mi (plOf xs ys) cs kt ks wd hg nb cst mA mB tr) := hD.same rfl
  refine lv_aload_n hx hb dL_law_982 rfl (lv_at hl 2 rfl) ?_
  refine lv_aload_n hx hb dL_law_983 rfl (lv_at hl 0 rfl) ?_
  refine lv_iload_n hx hb dL_law_984 rfl (lv_at hl 3 rfl) ?_
  refine lv_iconst (v := nI 1) hx hb dL_law_985 (by decide) ?_
  refine iaddN (a := i) (b := 1) hx hb dL_law_986 ?_
  refine va_sld hx hb hX hbl hbA hS (vp_in_nI (show i + 1 < L by omega) (by omega)) dL_law_987 ?_
  refine topI (sc (i + 1)) (congrArg sc (nI_clamp (by omega))) ?_
  refine lv_aload_n hx hb dL_law_988 rfl (lv_at hl 0 rfl) ?_
  refine lv_iload_n hx hb dL_law_989 rfl (lv_at hl 3 rfl) ?_
  refine lv_iconst (v := nI 2) hx hb dL_law_990 (by decide) ?_
  refine iaddN (a := i) (b := 2) hx hb dL_law_991 ?_
  refine va_sld hx hb hX hbl hbA hS (vp_in_nI (show i + 2 < L by omega) (by omega)) dL_law_992 ?_
  refine topI (sc (i + 2)) (congrArg sc (nI_clamp (by omega))) ?_
  refine lv_aload_n hx hb dL_law_993 rfl (lv_at hl 0 rfl) ?_
  refine lv_iload_n hx hb dL_law_994 rfl (lv_at hl 3 rfl) ?_
  refine lv_iconst (v := nI 3) hx hb dL_law_995 (by decide) ?_
  refine iaddN (a := i) (b := 3) hx hb dL_law_996 ?_
  refine va_sld hx hb hX hbl hbA hS (vp_in_nI (show i + 3 < L by omega) (by omega)) dL_law_997 ?_
  refine topI (sc (i + 3)) (congrArg sc (nI_clamp (by omega))) ?_
  refine lv_aload_n hx hb dL_law_998 rfl (lv_at hl 0 rfl) ?_
  refine lv_iload_n hx hb dL_law_999 rfl (lv_at hl 3 rfl) ?_
  refine lv_iconst (v := nI 4) hx hb dL_law_1000 (by decide) ?_
  refine iaddN (a := i) (b := 4) hx hb dL_law_1001 ?_
  refine va_sld hx hb hX hbl hbA hS (vp_in_nI (show i + 4 < L by omega) (by omega)) dL_law_1002 ?_
  refine topI (sc (i + 4)) (congrArg sc (nI_clamp (by omega))) ?_
  refine lv_aload_n hx hb dL_law_1003 rfl (lv_at hl 0 rfl) ?_
  refine lv_iload_n hx hb dL_law_1004 rfl (lv_at hl 3 rfl) ?_
  refine lv_iconst (v := nI 5) hx hb dL_law_1005 (by decide) ?_
  refine iaddN (a := i) (b := 5) hx hb dL_law_1006 ?_
  refine va_sld hx hb hX hbl hbA hS (vp_in_nI (show i + 5 < L by omega) (by omega)) dL_law_1007 ?_
  refine topI (sc (i + 5)) (congrArg sc (nI_clamp (by omega))) ?_
  refine k_X9_pairs (Wd := 1) md mdl mdm mdi mde mda mdb mdp mdc mdt mds mdw mdh mdx mdr (sc (i + 1)) (sc (i + 2)) (sc (i + 3)) (sc (i + 4)) (sc (i + 5)) fnd mn tn kn s1 s2 s3 mt an ml mm mi cst mA mB _ _ _ hRS ⟨hx, hb, hml, hown, hta⟩ mw961 ⟨Nat.le_of_ble_eq_true rfl, Nat.le_of_ble_eq_true rfl⟩ hK hP hD hS [24, 25, 26, 27, 35, 36, 37] rfl rfl hl.1 (Nat.le_of_ble_eq_true rfl) dL_law_1008 ⟨Nat.le_of_ble_eq_true rfl, Nat.le_of_ble_eq_true rfl⟩ (fun r2 f2 mt2 cst2 mA2 mB2 hq2 H locs hP hS => ?_)
  have hP : va_P D vwCl (wA sb sh shl shn shi mk mx my th tc ea et es be pi piw pih pin po poc poa pob as_ asn cI f1 la le it mn xs ys tn cs kn kt ks bt ba b1 b2 b3 wd hg nb ra1 rb1 pa1 pb1 pm1 cst1 mA1 mB1 an tr ++ wB md mdl mdm mdi mdp mdc mdt mds mdw mdh mdx mde mda mdb mdr cI f2 mn tn kn s1 s2 s3 mt2 an ml mm mi (plOf xs ys) cs kt ks wd hg nb cst2 mA2 mB2 tr) H := hP
  have hD : va_D (fun q : Nat => s.heap.size ≤ q) (wA sb sh shl shn shi mk mx my th tc ea et es be pi piw pih pin po poc poa pob as_ asn cI f1 la le it mn xs ys tn cs kn kt ks bt ba b1 b2 b3 wd hg nb ra1 rb1 pa1 pb1 pm1 cst1 mA1 mB1 an tr ++ wB md mdl mdm mdi mdp mdc mdt mds mdw mdh mdx mde mda mdb mdr cI f2 mn tn kn s1 s2 s3 mt2 an ml mm mi (plOf xs ys) cs kt ks wd hg nb cst2 mA2 mB2 tr) := hD.same rfl
  have e9 := hq1.trans hq2.symm
  simp only [Prod.mk.injEq] at e9
  obtain ⟨e9_0, e9_1, e9_2, e9_3, e9_4⟩ := e9
  subst e9_0
  subst e9_1
  subst e9_2
  subst e9_3
  subst e9_4
  have hP : va_P D vwCl (wA sb sh shl shn shi mk mx my th tc ea et es be pi piw pih pin po poc poa pob as_ asn cI f1 la le it mn xs ys tn cs kn kt ks bt ba b1 b2 b3 wd hg nb ra1 rb1 pa1 pb1 pm1 cst1 mA1 mB1 an tr ++ wB md mdl mdm mdi mdp mdc mdt mds mdw mdh mdx mde mda mdb mdr cI (f1) mn tn kn s1 s2 s3 mt2 an ml mm mi (plOf xs ys) cs kt ks wd hg nb (cst1) (mA1) (mB1) tr) H := hP
  have hD : va_D (fun q : Nat => s.heap.size ≤ q) (wA sb sh shl shn shi mk mx my th tc ea et es be pi piw pih pin po poc poa pob as_ asn cI f1 la le it mn xs ys tn cs kn kt ks bt ba b1 b2 b3 wd hg nb ra1 rb1 pa1 pb1 pm1 cst1 mA1 mB1 an tr ++ wB md mdl mdm mdi mdp mdc mdt mds mdw mdh mdx mde mda mdb mdr cI (f1) mn tn kn s1 s2 s3 mt2 an ml mm mi (plOf xs ys) cs kt ks wd hg nb (cst1) (mA1) (mB1) tr) := hD.same rfl
  refine icmpI_eq (tgt := 1227) hx hb dL_law_1011 (by decide) (fun c9 => ?_) (fun c9 => absurd rfl c9)
  refine lv_iinc (v := nI (i + 6)) (lv' := [(3, .int (nI (i + 6))), (0, .ref b), (1, .ref sb), (2, .ref md)]) hx hb dL_law_1227 hl (k := 3) rfl (nI_inc6 _) (by decide) rfl (fun ls hl => ?_)
  refine lv_goto (tgt := 18) hx hb dL_law_1230 (by decide) ?_
  exact ih f1 la le it mn xs ys tn cs kn kt ks bt ba b1 b2 b3 wd hg nb ra1 rb1 pa1 pb1 pm1 cst1 mA1 mB1 an tr ml mm mi s1 s2 s3 mt2 ⟨hRS, hmn, htn, hkn, hcs, hxs, hys, hko, hpi, han⟩ H locs hP hS ls (lv_sub hl [1, 2, 3, 0] rfl)

set_option maxHeartbeats 4000000 in
set_option maxRecDepth 100000 in
theorem lawc_pair {p : Program} {l : Launch} {e : Env} {s : State} {m : MethodId} {below : List Frame} {meth : Method} {c : Code} {D : va_G} {cI : ClassId} {b L : Nat} {sc : Nat → Int32} (sb sh shl shn shi mk mx my th tc ea et es be pi piw pih pin po poc poa pob as_ asn : Nat) (md mdl mdm mdi mdp mdc mdt mds mdw mdh mdx mde mda mdb mdr : Nat) (fnd : Int32) (la : Nat → Int32) (le : Nat → Int32) (it : Nat → Int32) (mn : Nat) (xs : Nat → Int32) (ys : Nat → Int32) (tn : Nat) (cs : Nat → Int32) (kn : Nat) (kt : Nat → Int32) (ks : Nat → Int32) (bt : Int32) (ba : Int64) (b1 : Int64) (b2 : Int64) (b3 : Int64) (wd : Nat → Int32) (hg : Nat → Int32) (nb : Nat → Int32) (ra : Nat) (rb : Nat) (pa : Nat) (pb : Nat) (pm : Nat) (cst : Nat → Int32) (mA : Nat → Int32) (mB : Nat → Int32) (an : Nat) (tr : Nat → Int32) (ml : Nat → Int32) (mm : Nat → Int32) (mi : Nat → Int32) (s1 : Int64) (s2 : Int64) (s3 : Int64) (mt : Nat) (hC : LC p s m meth c D cI b L sc) (hI : INV la le it mn xs ys tn cs kn kt ks wd hg an ml mm mi) (H : Heap) (locs : List Loc) (hP : va_P D vwCl (wA sb sh shl shn shi mk mx my th tc ea et es be pi piw pih pin po poc poa pob as_ asn cI fnd la le it mn xs ys tn cs kn kt ks bt ba b1 b2 b3 wd hg nb ra rb pa pb pm cst mA mB an tr ++ wB md mdl mdm mdi mdp mdc mdt mds mdw mdh mdx mde mda mdb mdr cI fnd mn tn kn s1 s2 s3 mt an ml mm mi (plOf xs ys) cs kt ks wd hg nb cst mA mB tr) H) (hD : va_D (fun q : Nat => s.heap.size ≤ q) (wA sb sh shl shn shi mk mx my th tc ea et es be pi piw pih pin po poc poa pob as_ asn cI fnd la le it mn xs ys tn cs kn kt ks bt ba b1 b2 b3 wd hg nb ra rb pa pb pm cst mA mB an tr ++ wB md mdl mdm mdi mdp mdc mdt mds mdw mdh mdx mde mda mdb mdr cI fnd mn tn kn s1 s2 s3 mt an ml mm mi (plOf xs ys) cs kt ks wd hg nb cst mA mB tr)) (hS : va_S (fun q : Nat => s.heap.size ≤ q) s.heap H locs) (i : Nat) (hi : i + 6 ≤ L) (ih : LH p l e s m below meth c D cI b sb sh shl shn shi mk mx my th tc ea et es be pi piw pih pin po poc poa pob as_ asn md mdl mdm mdi mdp mdc mdt mds mdw mdh mdx mde mda mdb mdr (i + 6)) (ls : Array Slot) (hl : lv_has ls 4 [(0, .ref b), (1, .ref sb), (2, .ref md), (3, .int (nI i))]) : W p l e room_1 s m #[Value.ref b] below meth c H locs 39 5353 (lw_Z below #[Value.ref b] s) (F0 m 1016 ls []) := by
  obtain ⟨hx, hb, hr, hml, hown, hta, hX, hbl, hlocks, hK, hL⟩ := hC
  obtain ⟨hRS, hmn, htn, hkn, hcs, hxs, hys, hko, hpi, han⟩ := hI
  have hbA : ¬ (fun q : Nat => s.heap.size ≤ q) b := Nat.not_le.mpr hbl
  have hkt := KOK_ne hko
  have hsh := RS_SH hRS
  refine lv_aload_n hx hb dL_law_1016 rfl (lv_at hl 1 rfl) ?_
  refine lv_aload_n hx hb dL_law_1017 rfl (lv_at hl 0 rfl) ?_
  refine lv_iload_n hx hb dL_law_1018 rfl (lv_at hl 3 rfl) ?_
  refine lv_iconst (v := nI 1) hx hb dL_law_1019 (by decide) ?_
  refine iaddN (a := i) (b := 1) hx hb dL_law_1020 ?_
  refine va_sld hx hb hX hbl hbA hS (vp_in_nI (show i + 1 < L by omega) (by omega)) dL_law_1021 ?_
  refine topI (sc (i + 1)) (congrArg sc (nI_clamp (by omega))) ?_
  refine lv_aload_n hx hb dL_law_1022 rfl (lv_at hl 0 rfl) ?_
  refine lv_iload_n hx hb dL_law_1023 rfl (lv_at hl 3 rfl) ?_
  refine lv_iconst (v := nI 2) hx hb dL_law_1024 (by decide) ?_
  refine iaddN (a := i) (b := 2) hx hb dL_law_1025 ?_
  refine va_sld hx hb hX hbl hbA hS (vp_in_nI (show i + 2 < L by omega) (by omega)) dL_law_1026 ?_
  refine topI (sc (i + 2)) (congrArg sc (nI_clamp (by omega))) ?_
  refine lv_aload_n hx hb dL_law_1027 rfl (lv_at hl 0 rfl) ?_
  refine lv_iload_n hx hb dL_law_1028 rfl (lv_at hl 3 rfl) ?_
  refine lv_iconst (v := nI 3) hx hb dL_law_1029 (by decide) ?_
  refine iaddN (a := i) (b := 3) hx hb dL_law_1030 ?_
  refine va_sld hx hb hX hbl hbA hS (vp_in_nI (show i + 3 < L by omega) (by omega)) dL_law_1031 ?_
  refine topI (sc (i + 3)) (congrArg sc (nI_clamp (by omega))) ?_
  refine lv_aload_n hx hb dL_law_1032 rfl (lv_at hl 0 rfl) ?_
  refine lv_iload_n hx hb dL_law_1033 rfl (lv_at hl 3 rfl) ?_
  refine lv_iconst (v := nI 4) hx hb dL_law_1034 (by decide) ?_
  refine iaddN (a := i) (b := 4) hx hb dL_law_1035 ?_
  refine va_sld hx hb hX hbl hbA hS (vp_in_nI (show i + 4 < L by omega) (by omega)) dL_law_1036 ?_
  refine topI (sc (i + 4)) (congrArg sc (nI_clamp (by omega))) ?_
  refine lv_aload_n hx hb dL_law_1037 rfl (lv_at hl 0 rfl) ?_
  refine lv_iload_n hx hb dL_law_1038 rfl (lv_at hl 3 rfl) ?_
  refine lv_iconst (v := nI 5) hx hb dL_law_1039 (by decide) ?_
  refine iaddN (a := i) (b := 5) hx hb dL_law_1040 ?_
  refine va_sld hx hb hX hbl hbA hS (vp_in_nI (show i + 5 < L by omega) (by omega)) dL_law_1041 ?_
  refine topI (sc (i + 5)) (congrArg sc (nI_clamp (by omega))) ?_
  refine k_X8_pair (Wd := 0) sb po poc poa pob sh shl shn shi mk th ea be pi as_ (sc (i + 1)) (sc (i + 2)) (sc (i + 3)) (sc (i + 4)) (sc (i + 5)) fnd ra rb pa pb pm cst mA mB la le it  ⟨hx, hb, hml, hown, hta⟩ mw622 ⟨Nat.le_of_ble_eq_true rfl, Nat.le_of_ble_eq_true rfl⟩ hK hP hD hS [0, 18, 19, 20, 21, 1, 2, 3, 4] rfl rfl hl.1 (Nat.le_of_ble_eq_true rfl) dL_law_1042 ⟨Nat.le_of_ble_eq_true rfl, Nat.le_of_ble_eq_true rfl⟩ (fun r1 f1 ra1 rb1 pa1 pb1 pm1 cst1 mA1 mB1 hq1 H locs hP hS => ?_)
  have hP : va_P D vwCl (wA sb sh shl shn shi mk mx my th tc ea et es be pi piw pih pin po poc poa pob as_ asn cI f1 la le it mn xs ys tn cs kn kt ks bt ba b1 b2 b3 wd hg nb ra1 rb1 pa1 pb1 pm1 cst1 mA1 mB1 an tr ++ wB md mdl mdm mdi mdp mdc mdt mds mdw mdh mdx mde mda mdb mdr cI fnd mn tn kn s1 s2 s3 mt an ml mm mi (plOf xs ys) cs kt ks wd hg nb cst mA mB tr) H := hP
  have hD : va_D (fun q : Nat => s.heap.size ≤ q) (wA sb sh shl shn shi mk mx my th tc ea et es be pi piw pih pin po poc poa pob as_ asn cI f1 la le it mn xs ys tn cs kn kt ks bt ba b1 b2 b3 wd hg nb ra1 rb1 pa1 pb1 pm1 cst1 mA1 mB1 an tr ++ wB md mdl mdm mdi mdp mdc mdt mds mdw mdh mdx mde mda mdb mdr cI fnd mn tn kn s1 s2 s3 mt an ml mm mi (plOf xs ys) cs kt ks wd hg nb cst mA mB tr) := hD.same rfl
  refine lv_aload_n hx hb dL_law_1045 rfl (lv_at hl 2 rfl) ?_
  refine lv_aload_n hx hb dL_law_1046 rfl (lv_at hl 0 rfl) ?_
  refine lv_iload_n hx hb dL_law_1047 rfl (lv_at hl 3 rfl) ?_
  refine lv_iconst (v := nI 1) hx hb dL_law_1048 (by decide) ?_
  refine iaddN (a := i) (b := 1) hx hb dL_law_1049 ?_
  refine va_sld hx hb hX hbl hbA hS (vp_in_nI (show i + 1 < L by omega) (by omega)) dL_law_1050 ?_
  refine topI (sc (i + 1)) (congrArg sc (nI_clamp (by omega))) ?_
  refine lv_aload_n hx hb dL_law_1051 rfl (lv_at hl 0 rfl) ?_
  refine lv_iload_n hx hb dL_law_1052 rfl (lv_at hl 3 rfl) ?_
  refine lv_iconst (v := nI 2) hx hb dL_law_1053 (by decide) ?_
  refine iaddN (a := i) (b := 2) hx hb dL_law_1054 ?_
  refine va_sld hx hb hX hbl hbA hS (vp_in_nI (show i + 2 < L by omega) (by omega)) dL_law_1055 ?_
  refine topI (sc (i + 2)) (congrArg sc (nI_clamp (by omega))) ?_
  refine lv_aload_n hx hb dL_law_1056 rfl (lv_at hl 0 rfl) ?_
  refine lv_iload_n hx hb dL_law_1057 rfl (lv_at hl 3 rfl) ?_
  refine lv_iconst (v := nI 3) hx hb dL_law_1058 (by decide) ?_
  refine iaddN (a := i) (b := 3) hx hb dL_law_1059 ?_
  refine va_sld hx hb hX hbl hbA hS (vp_in_nI (show i + 3 < L by omega) (by omega)) dL_law_1060 ?_
  refine topI (sc (i + 3)) (congrArg sc (nI_clamp (by omega))) ?_
  refine lv_aload_n hx hb dL_law_1061 rfl (lv_at hl 0 rfl) ?_
  refine lv_iload_n hx hb dL_law_1062 rfl (lv_at hl 3 rfl) ?_
  refine lv_iconst (v := nI 4) hx hb dL_law_1063 (by decide) ?_
  refine iaddN (a := i) (b := 4) hx hb dL_law_1064 ?_
  refine va_sld hx hb hX hbl hbA hS (vp_in_nI (show i + 4 < L by omega) (by omega)) dL_law_1065 ?_
  refine topI (sc (i + 4)) (congrArg sc (nI_clamp (by omega))) ?_
  refine lv_aload_n hx hb dL_law_1066 rfl (lv_at hl 0 rfl) ?_
  refine lv_iload_n hx hb dL_law_1067 rfl (lv_at hl 3 rfl) ?_
  refine lv_iconst (v := nI 5) hx hb dL_law_1068 (by decide) ?_
  refine iaddN (a := i) (b := 5) hx hb dL_law_1069 ?_
  refine va_sld hx hb hX hbl hbA hS (vp_in_nI (show i + 5 < L by omega) (by omega)) dL_law_1070 ?_
  refine topI (sc (i + 5)) (congrArg sc (nI_clamp (by omega))) ?_
  refine k_X9_pair (Wd := 1) md mdl mdm mdi mde mda mdb mdp mdc mdt mds mdw mdh mdx mdr (sc (i + 1)) (sc (i + 2)) (sc (i + 3)) (sc (i + 4)) (sc (i + 5)) fnd mn tn kn s1 s2 s3 mt an ml mm mi cst mA mB _ _ _ hRS ⟨hx, hb, hml, hown, hta⟩ mw982 ⟨Nat.le_of_ble_eq_true rfl, Nat.le_of_ble_eq_true rfl⟩ hK hP hD hS [24, 25, 26, 27, 35, 36, 37] rfl rfl hl.1 (Nat.le_of_ble_eq_true rfl) dL_law_1071 ⟨Nat.le_of_ble_eq_true rfl, Nat.le_of_ble_eq_true rfl⟩ (fun r2 f2 mt2 cst2 mA2 mB2 hq2 H locs hP hS => ?_)
  have hP : va_P D vwCl (wA sb sh shl shn shi mk mx my th tc ea et es be pi piw pih pin po poc poa pob as_ asn cI f1 la le it mn xs ys tn cs kn kt ks bt ba b1 b2 b3 wd hg nb ra1 rb1 pa1 pb1 pm1 cst1 mA1 mB1 an tr ++ wB md mdl mdm mdi mdp mdc mdt mds mdw mdh mdx mde mda mdb mdr cI f2 mn tn kn s1 s2 s3 mt2 an ml mm mi (plOf xs ys) cs kt ks wd hg nb cst2 mA2 mB2 tr) H := hP
  have hD : va_D (fun q : Nat => s.heap.size ≤ q) (wA sb sh shl shn shi mk mx my th tc ea et es be pi piw pih pin po poc poa pob as_ asn cI f1 la le it mn xs ys tn cs kn kt ks bt ba b1 b2 b3 wd hg nb ra1 rb1 pa1 pb1 pm1 cst1 mA1 mB1 an tr ++ wB md mdl mdm mdi mdp mdc mdt mds mdw mdh mdx mde mda mdb mdr cI f2 mn tn kn s1 s2 s3 mt2 an ml mm mi (plOf xs ys) cs kt ks wd hg nb cst2 mA2 mB2 tr) := hD.same rfl
  have e9 := hq1.trans hq2.symm
  simp only [Prod.mk.injEq] at e9
  obtain ⟨e9_0, e9_1, e9_2, e9_3, e9_4⟩ := e9
  subst e9_0
  subst e9_1
  subst e9_2
  subst e9_3
  subst e9_4
  have hP : va_P D vwCl (wA sb sh shl shn shi mk mx my th tc ea et es be pi piw pih pin po poc poa pob as_ asn cI f1 la le it mn xs ys tn cs kn kt ks bt ba b1 b2 b3 wd hg nb ra1 rb1 pa1 pb1 pm1 cst1 mA1 mB1 an tr ++ wB md mdl mdm mdi mdp mdc mdt mds mdw mdh mdx mde mda mdb mdr cI (f1) mn tn kn s1 s2 s3 mt2 an ml mm mi (plOf xs ys) cs kt ks wd hg nb (cst1) (mA1) (mB1) tr) H := hP
  have hD : va_D (fun q : Nat => s.heap.size ≤ q) (wA sb sh shl shn shi mk mx my th tc ea et es be pi piw pih pin po poc poa pob as_ asn cI f1 la le it mn xs ys tn cs kn kt ks bt ba b1 b2 b3 wd hg nb ra1 rb1 pa1 pb1 pm1 cst1 mA1 mB1 an tr ++ wB md mdl mdm mdi mdp mdc mdt mds mdw mdh mdx mde mda mdb mdr cI (f1) mn tn kn s1 s2 s3 mt2 an ml mm mi (plOf xs ys) cs kt ks wd hg nb (cst1) (mA1) (mB1) tr) := hD.same rfl
  refine icmpI_eq (tgt := 1227) hx hb dL_law_1074 (by decide) (fun c9 => ?_) (fun c9 => absurd rfl c9)
  refine lv_iinc (v := nI (i + 6)) (lv' := [(3, .int (nI (i + 6))), (0, .ref b), (1, .ref sb), (2, .ref md)]) hx hb dL_law_1227 hl (k := 3) rfl (nI_inc6 _) (by decide) rfl (fun ls hl => ?_)
  refine lv_goto (tgt := 18) hx hb dL_law_1230 (by decide) ?_
  exact ih f1 la le it mn xs ys tn cs kn kt ks bt ba b1 b2 b3 wd hg nb ra1 rb1 pa1 pb1 pm1 cst1 mA1 mB1 an tr ml mm mi s1 s2 s3 mt2 ⟨hRS, hmn, htn, hkn, hcs, hxs, hys, hko, hpi, han⟩ H locs hP hS ls (lv_sub hl [1, 2, 3, 0] rfl)

set_option maxHeartbeats 4000000 in
set_option maxRecDepth 100000 in
theorem lawc_kind {p : Program} {l : Launch} {e : Env} {s : State} {m : MethodId} {below : List Frame} {meth : Method} {c : Code} {D : va_G} {cI : ClassId} {b L : Nat} {sc : Nat → Int32} (sb sh shl shn shi mk mx my th tc ea et es be pi piw pih pin po poc poa pob as_ asn : Nat) (md mdl mdm mdi mdp mdc mdt mds mdw mdh mdx mde mda mdb mdr : Nat) (fnd : Int32) (la : Nat → Int32) (le : Nat → Int32) (it : Nat → Int32) (mn : Nat) (xs : Nat → Int32) (ys : Nat → Int32) (tn : Nat) (cs : Nat → Int32) (kn : Nat) (kt : Nat → Int32) (ks : Nat → Int32) (bt : Int32) (ba : Int64) (b1 : Int64) (b2 : Int64) (b3 : Int64) (wd : Nat → Int32) (hg : Nat → Int32) (nb : Nat → Int32) (ra : Nat) (rb : Nat) (pa : Nat) (pb : Nat) (pm : Nat) (cst : Nat → Int32) (mA : Nat → Int32) (mB : Nat → Int32) (an : Nat) (tr : Nat → Int32) (ml : Nat → Int32) (mm : Nat → Int32) (mi : Nat → Int32) (s1 : Int64) (s2 : Int64) (s3 : Int64) (mt : Nat) (hC : LC p s m meth c D cI b L sc) (hI : INV la le it mn xs ys tn cs kn kt ks wd hg an ml mm mi) (H : Heap) (locs : List Loc) (hP : va_P D vwCl (wA sb sh shl shn shi mk mx my th tc ea et es be pi piw pih pin po poc poa pob as_ asn cI fnd la le it mn xs ys tn cs kn kt ks bt ba b1 b2 b3 wd hg nb ra rb pa pb pm cst mA mB an tr ++ wB md mdl mdm mdi mdp mdc mdt mds mdw mdh mdx mde mda mdb mdr cI fnd mn tn kn s1 s2 s3 mt an ml mm mi (plOf xs ys) cs kt ks wd hg nb cst mA mB tr) H) (hD : va_D (fun q : Nat => s.heap.size ≤ q) (wA sb sh shl shn shi mk mx my th tc ea et es be pi piw pih pin po poc poa pob as_ asn cI fnd la le it mn xs ys tn cs kn kt ks bt ba b1 b2 b3 wd hg nb ra rb pa pb pm cst mA mB an tr ++ wB md mdl mdm mdi mdp mdc mdt mds mdw mdh mdx mde mda mdb mdr cI fnd mn tn kn s1 s2 s3 mt an ml mm mi (plOf xs ys) cs kt ks wd hg nb cst mA mB tr)) (hS : va_S (fun q : Nat => s.heap.size ≤ q) s.heap H locs) (i : Nat) (hi : i + 6 ≤ L) (ih : LH p l e s m below meth c D cI b sb sh shl shn shi mk mx my th tc ea et es be pi piw pih pin po poc poa pob as_ asn md mdl mdm mdi mdp mdc mdt mds mdw mdh mdx mde mda mdb mdr (i + 6)) (ls : Array Slot) (hl : lv_has ls 4 [(0, .ref b), (1, .ref sb), (2, .ref md), (3, .int (nI i))]) : W p l e room_1 s m #[Value.ref b] below meth c H locs 39 5353 (lw_Z below #[Value.ref b] s) (F0 m 1079 ls []) := by
  obtain ⟨hx, hb, hr, hml, hown, hta, hX, hbl, hlocks, hK, hL⟩ := hC
  obtain ⟨hRS, hmn, htn, hkn, hcs, hxs, hys, hko, hpi, han⟩ := hI
  have hbA : ¬ (fun q : Nat => s.heap.size ≤ q) b := Nat.not_le.mpr hbl
  have hkt := KOK_ne hko
  have hsh := RS_SH hRS
  refine lv_aload_n hx hb dL_law_1079 rfl (lv_at hl 1 rfl) ?_
  refine lv_aload_n hx hb dL_law_1080 rfl (lv_at hl 0 rfl) ?_
  refine lv_iload_n hx hb dL_law_1081 rfl (lv_at hl 3 rfl) ?_
  refine lv_iconst (v := nI 1) hx hb dL_law_1082 (by decide) ?_
  refine iaddN (a := i) (b := 1) hx hb dL_law_1083 ?_
  refine va_sld hx hb hX hbl hbA hS (vp_in_nI (show i + 1 < L by omega) (by omega)) dL_law_1084 ?_
  refine topI (sc (i + 1)) (congrArg sc (nI_clamp (by omega))) ?_
  refine k_X8_kind (Wd := 0) sb th tc mk mx my sh ea be pi po as_ (sc (i + 1)) fnd tn cs mn xs ys hmn htn hcs ⟨hx, hb, hml, hown, hta⟩ mw631 ⟨Nat.le_of_ble_eq_true rfl, Nat.le_of_ble_eq_true rfl⟩ hK hP hD [0, 8, 9, 5, 6, 7] rfl rfl hl.1 (Nat.le_of_ble_eq_true rfl) dL_law_1085 ⟨Nat.le_of_ble_eq_true rfl, Nat.le_of_ble_eq_true rfl⟩ ?_
  refine lv_aload_n hx hb dL_law_1088 rfl (lv_at hl 2 rfl) ?_
  refine lv_aload_n hx hb dL_law_1089 rfl (lv_at hl 0 rfl) ?_
  refine lv_iload_n hx hb dL_law_1090 rfl (lv_at hl 3 rfl) ?_
  refine lv_iconst (v := nI 1) hx hb dL_law_1091 (by decide) ?_
  refine iaddN (a := i) (b := 1) hx hb dL_law_1092 ?_
  refine va_sld hx hb hX hbl hbA hS (vp_in_nI (show i + 1 < L by omega) (by omega)) dL_law_1093 ?_
  refine topI (sc (i + 1)) (congrArg sc (nI_clamp (by omega))) ?_
  refine k_X9_kind (Wd := 1) md mdp mdc mdl mdm mdi mdt mds mdw mdh mdx mde mda mdb mdr (sc (i + 1)) fnd mn tn kn s1 s2 s3 mt an cs _ _ hmn htn hcs hxs hys ⟨hx, hb, hml, hown, hta⟩ mw986 ⟨Nat.le_of_ble_eq_true rfl, Nat.le_of_ble_eq_true rfl⟩ hK hP hD hS [24, 28, 29] rfl rfl hl.1 (Nat.le_of_ble_eq_true rfl) dL_law_1094 ⟨Nat.le_of_ble_eq_true rfl, Nat.le_of_ble_eq_true rfl⟩ (fun H locs hP hS => ?_)
  have hP : va_P D vwCl (wA sb sh shl shn shi mk mx my th tc ea et es be pi piw pih pin po poc poa pob as_ asn cI fnd la le it mn xs ys tn cs kn kt ks bt ba b1 b2 b3 wd hg nb ra rb pa pb pm cst mA mB an tr ++ wB md mdl mdm mdi mdp mdc mdt mds mdw mdh mdx mde mda mdb mdr cI fnd mn tn kn s1 s2 s3 mt an ml mm mi (plOf xs ys) cs kt ks wd hg nb cst mA mB tr) H := hP
  have hD : va_D (fun q : Nat => s.heap.size ≤ q) (wA sb sh shl shn shi mk mx my th tc ea et es be pi piw pih pin po poc poa pob as_ asn cI fnd la le it mn xs ys tn cs kn kt ks bt ba b1 b2 b3 wd hg nb ra rb pa pb pm cst mA mB an tr ++ wB md mdl mdm mdi mdp mdc mdt mds mdw mdh mdx mde mda mdb mdr cI fnd mn tn kn s1 s2 s3 mt an ml mm mi (plOf xs ys) cs kt ks wd hg nb cst mA mB tr) := hD.same rfl
  refine icmpI_eq (tgt := 1227) hx hb dL_law_1097 (by decide) (fun c9 => ?_) (fun c9 => absurd rfl c9)
  refine lv_iinc (v := nI (i + 6)) (lv' := [(3, .int (nI (i + 6))), (0, .ref b), (1, .ref sb), (2, .ref md)]) hx hb dL_law_1227 hl (k := 3) rfl (nI_inc6 _) (by decide) rfl (fun ls hl => ?_)
  refine lv_goto (tgt := 18) hx hb dL_law_1230 (by decide) ?_
  exact ih fnd la le it mn xs ys tn cs kn kt ks bt ba b1 b2 b3 wd hg nb ra rb pa pb pm cst mA mB an tr ml mm mi s1 s2 s3 mt ⟨hRS, hmn, htn, hkn, hcs, hxs, hys, hko, hpi, han⟩ H locs hP hS ls (lv_sub hl [1, 2, 3, 0] rfl)

set_option maxHeartbeats 4000000 in
set_option maxRecDepth 100000 in
theorem lawc_as {p : Program} {l : Launch} {e : Env} {s : State} {m : MethodId} {below : List Frame} {meth : Method} {c : Code} {D : va_G} {cI : ClassId} {b L : Nat} {sc : Nat → Int32} (sb sh shl shn shi mk mx my th tc ea et es be pi piw pih pin po poc poa pob as_ asn : Nat) (md mdl mdm mdi mdp mdc mdt mds mdw mdh mdx mde mda mdb mdr : Nat) (fnd : Int32) (la : Nat → Int32) (le : Nat → Int32) (it : Nat → Int32) (mn : Nat) (xs : Nat → Int32) (ys : Nat → Int32) (tn : Nat) (cs : Nat → Int32) (kn : Nat) (kt : Nat → Int32) (ks : Nat → Int32) (bt : Int32) (ba : Int64) (b1 : Int64) (b2 : Int64) (b3 : Int64) (wd : Nat → Int32) (hg : Nat → Int32) (nb : Nat → Int32) (ra : Nat) (rb : Nat) (pa : Nat) (pb : Nat) (pm : Nat) (cst : Nat → Int32) (mA : Nat → Int32) (mB : Nat → Int32) (an : Nat) (tr : Nat → Int32) (ml : Nat → Int32) (mm : Nat → Int32) (mi : Nat → Int32) (s1 : Int64) (s2 : Int64) (s3 : Int64) (mt : Nat) (hC : LC p s m meth c D cI b L sc) (hI : INV la le it mn xs ys tn cs kn kt ks wd hg an ml mm mi) (H : Heap) (locs : List Loc) (hP : va_P D vwCl (wA sb sh shl shn shi mk mx my th tc ea et es be pi piw pih pin po poc poa pob as_ asn cI fnd la le it mn xs ys tn cs kn kt ks bt ba b1 b2 b3 wd hg nb ra rb pa pb pm cst mA mB an tr ++ wB md mdl mdm mdi mdp mdc mdt mds mdw mdh mdx mde mda mdb mdr cI fnd mn tn kn s1 s2 s3 mt an ml mm mi (plOf xs ys) cs kt ks wd hg nb cst mA mB tr) H) (hD : va_D (fun q : Nat => s.heap.size ≤ q) (wA sb sh shl shn shi mk mx my th tc ea et es be pi piw pih pin po poc poa pob as_ asn cI fnd la le it mn xs ys tn cs kn kt ks bt ba b1 b2 b3 wd hg nb ra rb pa pb pm cst mA mB an tr ++ wB md mdl mdm mdi mdp mdc mdt mds mdw mdh mdx mde mda mdb mdr cI fnd mn tn kn s1 s2 s3 mt an ml mm mi (plOf xs ys) cs kt ks wd hg nb cst mA mB tr)) (hS : va_S (fun q : Nat => s.heap.size ≤ q) s.heap H locs) (i : Nat) (hi : i + 6 ≤ L) (ih : LH p l e s m below meth c D cI b sb sh shl shn shi mk mx my th tc ea et es be pi piw pih pin po poc poa pob as_ asn md mdl mdm mdi mdp mdc mdt mds mdw mdh mdx mde mda mdb mdr (i + 6)) (ls : Array Slot) (hl : lv_has ls 4 [(0, .ref b), (1, .ref sb), (2, .ref md), (3, .int (nI i))]) : W p l e room_1 s m #[Value.ref b] below meth c H locs 39 5353 (lw_Z below #[Value.ref b] s) (F0 m 1102 ls []) := by
  obtain ⟨hx, hb, hr, hml, hown, hta, hX, hbl, hlocks, hK, hL⟩ := hC
  obtain ⟨hRS, hmn, htn, hkn, hcs, hxs, hys, hko, hpi, han⟩ := hI
  have hbA : ¬ (fun q : Nat => s.heap.size ≤ q) b := Nat.not_le.mpr hbl
  have hkt := KOK_ne hko
  have hsh := RS_SH hRS
  refine lv_aload_n hx hb dL_law_1102 rfl (lv_at hl 1 rfl) ?_
  refine lv_aload_n hx hb dL_law_1103 rfl (lv_at hl 0 rfl) ?_
  refine lv_iload_n hx hb dL_law_1104 rfl (lv_at hl 3 rfl) ?_
  refine lv_iconst (v := nI 1) hx hb dL_law_1105 (by decide) ?_
  refine iaddN (a := i) (b := 1) hx hb dL_law_1106 ?_
  refine va_sld hx hb hX hbl hbA hS (vp_in_nI (show i + 1 < L by omega) (by omega)) dL_law_1107 ?_
  refine topI (sc (i + 1)) (congrArg sc (nI_clamp (by omega))) ?_
  refine lv_aload_n hx hb dL_law_1108 rfl (lv_at hl 0 rfl) ?_
  refine lv_iload_n hx hb dL_law_1109 rfl (lv_at hl 3 rfl) ?_
  refine lv_iconst (v := nI 2) hx hb dL_law_1110 (by decide) ?_
  refine iaddN (a := i) (b := 2) hx hb dL_law_1111 ?_
  refine va_sld hx hb hX hbl hbA hS (vp_in_nI (show i + 2 < L by omega) (by omega)) dL_law_1112 ?_
  refine topI (sc (i + 2)) (congrArg sc (nI_clamp (by omega))) ?_
  refine k_X8_as (Wd := 0) sb th tc mk mx my sh ea be pi po as_ (sc (i + 1)) (sc (i + 2)) fnd tn cs mn xs ys hmn htn hcs ⟨hx, hb, hml, hown, hta⟩ mw648 ⟨Nat.le_of_ble_eq_true rfl, Nat.le_of_ble_eq_true rfl⟩ hK hP hD hS [0, 8, 9, 5, 6, 7] rfl rfl hl.1 (Nat.le_of_ble_eq_true rfl) dL_law_1113 ⟨Nat.le_of_ble_eq_true rfl, Nat.le_of_ble_eq_true rfl⟩ (fun r1 f1 hq1 H locs hP hS => ?_)
  have hP : va_P D vwCl (wA sb sh shl shn shi mk mx my th tc ea et es be pi piw pih pin po poc poa pob as_ asn cI f1 la le it mn xs ys tn cs kn kt ks bt ba b1 b2 b3 wd hg nb ra rb pa pb pm cst mA mB an tr ++ wB md mdl mdm mdi mdp mdc mdt mds mdw mdh mdx mde mda mdb mdr cI fnd mn tn kn s1 s2 s3 mt an ml mm mi (plOf xs ys) cs kt ks wd hg nb cst mA mB tr) H := hP
  have hD : va_D (fun q : Nat => s.heap.size ≤ q) (wA sb sh shl shn shi mk mx my th tc ea et es be pi piw pih pin po poc poa pob as_ asn cI f1 la le it mn xs ys tn cs kn kt ks bt ba b1 b2 b3 wd hg nb ra rb pa pb pm cst mA mB an tr ++ wB md mdl mdm mdi mdp mdc mdt mds mdw mdh mdx mde mda mdb mdr cI fnd mn tn kn s1 s2 s3 mt an ml mm mi (plOf xs ys) cs kt ks wd hg nb cst mA mB tr) := hD.same rfl
  refine lv_aload_n hx hb dL_law_1116 rfl (lv_at hl 2 rfl) ?_
  refine lv_aload_n hx hb dL_law_1117 rfl (lv_at hl 0 rfl) ?_
  refine lv_iload_n hx hb dL_law_1118 rfl (lv_at hl 3 rfl) ?_
  refine lv_iconst (v := nI 1) hx hb dL_law_1119 (by decide) ?_
  refine iaddN (a := i) (b := 1) hx hb dL_law_1120 ?_
  refine va_sld hx hb hX hbl hbA hS (vp_in_nI (show i + 1 < L by omega) (by omega)) dL_law_1121 ?_
  refine topI (sc (i + 1)) (congrArg sc (nI_clamp (by omega))) ?_
  refine lv_aload_n hx hb dL_law_1122 rfl (lv_at hl 0 rfl) ?_
  refine lv_iload_n hx hb dL_law_1123 rfl (lv_at hl 3 rfl) ?_
  refine lv_iconst (v := nI 2) hx hb dL_law_1124 (by decide) ?_
  refine iaddN (a := i) (b := 2) hx hb dL_law_1125 ?_
  refine va_sld hx hb hX hbl hbA hS (vp_in_nI (show i + 2 < L by omega) (by omega)) dL_law_1126 ?_
  refine topI (sc (i + 2)) (congrArg sc (nI_clamp (by omega))) ?_
  refine k_X9_as (Wd := 1) md mdp mdc mdl mdm mdi mdt mds mdw mdh mdx mde mda mdb mdr (sc (i + 1)) (sc (i + 2)) fnd mn tn kn s1 s2 s3 mt an cs _ _ hmn htn hcs hxs hys ⟨hx, hb, hml, hown, hta⟩ mw994 ⟨Nat.le_of_ble_eq_true rfl, Nat.le_of_ble_eq_true rfl⟩ hK hP hD hS [24, 28, 29] rfl rfl hl.1 (Nat.le_of_ble_eq_true rfl) dL_law_1127 ⟨Nat.le_of_ble_eq_true rfl, Nat.le_of_ble_eq_true rfl⟩ (fun r2 f2 hq2 H locs hP hS => ?_)
  have hP : va_P D vwCl (wA sb sh shl shn shi mk mx my th tc ea et es be pi piw pih pin po poc poa pob as_ asn cI f1 la le it mn xs ys tn cs kn kt ks bt ba b1 b2 b3 wd hg nb ra rb pa pb pm cst mA mB an tr ++ wB md mdl mdm mdi mdp mdc mdt mds mdw mdh mdx mde mda mdb mdr cI f2 mn tn kn s1 s2 s3 mt an ml mm mi (plOf xs ys) cs kt ks wd hg nb cst mA mB tr) H := hP
  have hD : va_D (fun q : Nat => s.heap.size ≤ q) (wA sb sh shl shn shi mk mx my th tc ea et es be pi piw pih pin po poc poa pob as_ asn cI f1 la le it mn xs ys tn cs kn kt ks bt ba b1 b2 b3 wd hg nb ra rb pa pb pm cst mA mB an tr ++ wB md mdl mdm mdi mdp mdc mdt mds mdw mdh mdx mde mda mdb mdr cI f2 mn tn kn s1 s2 s3 mt an ml mm mi (plOf xs ys) cs kt ks wd hg nb cst mA mB tr) := hD.same rfl
  have e9 := hq1.trans hq2.symm
  simp only [Prod.mk.injEq] at e9
  obtain ⟨e9_0, e9_1⟩ := e9
  subst e9_0
  subst e9_1
  have hP : va_P D vwCl (wA sb sh shl shn shi mk mx my th tc ea et es be pi piw pih pin po poc poa pob as_ asn cI f1 la le it mn xs ys tn cs kn kt ks bt ba b1 b2 b3 wd hg nb ra rb pa pb pm cst mA mB an tr ++ wB md mdl mdm mdi mdp mdc mdt mds mdw mdh mdx mde mda mdb mdr cI (f1) mn tn kn s1 s2 s3 mt an ml mm mi (plOf xs ys) cs kt ks wd hg nb cst mA mB tr) H := hP
  have hD : va_D (fun q : Nat => s.heap.size ≤ q) (wA sb sh shl shn shi mk mx my th tc ea et es be pi piw pih pin po poc poa pob as_ asn cI f1 la le it mn xs ys tn cs kn kt ks bt ba b1 b2 b3 wd hg nb ra rb pa pb pm cst mA mB an tr ++ wB md mdl mdm mdi mdp mdc mdt mds mdw mdh mdx mde mda mdb mdr cI (f1) mn tn kn s1 s2 s3 mt an ml mm mi (plOf xs ys) cs kt ks wd hg nb cst mA mB tr) := hD.same rfl
  refine icmpI_eq (tgt := 1227) hx hb dL_law_1130 (by decide) (fun c9 => ?_) (fun c9 => absurd rfl c9)
  refine lv_iinc (v := nI (i + 6)) (lv' := [(3, .int (nI (i + 6))), (0, .ref b), (1, .ref sb), (2, .ref md)]) hx hb dL_law_1227 hl (k := 3) rfl (nI_inc6 _) (by decide) rfl (fun ls hl => ?_)
  refine lv_goto (tgt := 18) hx hb dL_law_1230 (by decide) ?_
  exact ih f1 la le it mn xs ys tn cs kn kt ks bt ba b1 b2 b3 wd hg nb ra rb pa pb pm cst mA mB an tr ml mm mi s1 s2 s3 mt ⟨hRS, hmn, htn, hkn, hcs, hxs, hys, hko, hpi, han⟩ H locs hP hS ls (lv_sub hl [1, 2, 3, 0] rfl)

set_option maxHeartbeats 4000000 in
set_option maxRecDepth 100000 in
theorem lawc_ask {p : Program} {l : Launch} {e : Env} {s : State} {m : MethodId} {below : List Frame} {meth : Method} {c : Code} {D : va_G} {cI : ClassId} {b L : Nat} {sc : Nat → Int32} (sb sh shl shn shi mk mx my th tc ea et es be pi piw pih pin po poc poa pob as_ asn : Nat) (md mdl mdm mdi mdp mdc mdt mds mdw mdh mdx mde mda mdb mdr : Nat) (fnd : Int32) (la : Nat → Int32) (le : Nat → Int32) (it : Nat → Int32) (mn : Nat) (xs : Nat → Int32) (ys : Nat → Int32) (tn : Nat) (cs : Nat → Int32) (kn : Nat) (kt : Nat → Int32) (ks : Nat → Int32) (bt : Int32) (ba : Int64) (b1 : Int64) (b2 : Int64) (b3 : Int64) (wd : Nat → Int32) (hg : Nat → Int32) (nb : Nat → Int32) (ra : Nat) (rb : Nat) (pa : Nat) (pb : Nat) (pm : Nat) (cst : Nat → Int32) (mA : Nat → Int32) (mB : Nat → Int32) (an : Nat) (tr : Nat → Int32) (ml : Nat → Int32) (mm : Nat → Int32) (mi : Nat → Int32) (s1 : Int64) (s2 : Int64) (s3 : Int64) (mt : Nat) (hC : LC p s m meth c D cI b L sc) (hI : INV la le it mn xs ys tn cs kn kt ks wd hg an ml mm mi) (H : Heap) (locs : List Loc) (hP : va_P D vwCl (wA sb sh shl shn shi mk mx my th tc ea et es be pi piw pih pin po poc poa pob as_ asn cI fnd la le it mn xs ys tn cs kn kt ks bt ba b1 b2 b3 wd hg nb ra rb pa pb pm cst mA mB an tr ++ wB md mdl mdm mdi mdp mdc mdt mds mdw mdh mdx mde mda mdb mdr cI fnd mn tn kn s1 s2 s3 mt an ml mm mi (plOf xs ys) cs kt ks wd hg nb cst mA mB tr) H) (hD : va_D (fun q : Nat => s.heap.size ≤ q) (wA sb sh shl shn shi mk mx my th tc ea et es be pi piw pih pin po poc poa pob as_ asn cI fnd la le it mn xs ys tn cs kn kt ks bt ba b1 b2 b3 wd hg nb ra rb pa pb pm cst mA mB an tr ++ wB md mdl mdm mdi mdp mdc mdt mds mdw mdh mdx mde mda mdb mdr cI fnd mn tn kn s1 s2 s3 mt an ml mm mi (plOf xs ys) cs kt ks wd hg nb cst mA mB tr)) (hS : va_S (fun q : Nat => s.heap.size ≤ q) s.heap H locs) (i : Nat) (hi : i + 6 ≤ L) (ih : LH p l e s m below meth c D cI b sb sh shl shn shi mk mx my th tc ea et es be pi piw pih pin po poc poa pob as_ asn md mdl mdm mdi mdp mdc mdt mds mdw mdh mdx mde mda mdb mdr (i + 6)) (ls : Array Slot) (hl : lv_has ls 4 [(0, .ref b), (1, .ref sb), (2, .ref md), (3, .int (nI i))]) : W p l e room_1 s m #[Value.ref b] below meth c H locs 39 5353 (lw_Z below #[Value.ref b] s) (F0 m 1135 ls []) := by
  obtain ⟨hx, hb, hr, hml, hown, hta, hX, hbl, hlocks, hK, hL⟩ := hC
  obtain ⟨hRS, hmn, htn, hkn, hcs, hxs, hys, hko, hpi, han⟩ := hI
  have hbA : ¬ (fun q : Nat => s.heap.size ≤ q) b := Nat.not_le.mpr hbl
  have hkt := KOK_ne hko
  have hsh := RS_SH hRS
  refine lv_aload_n hx hb dL_law_1135 rfl (lv_at hl 1 rfl) ?_
  refine lv_aload_n hx hb dL_law_1136 rfl (lv_at hl 0 rfl) ?_
  refine lv_iload_n hx hb dL_law_1137 rfl (lv_at hl 3 rfl) ?_
  refine lv_iconst (v := nI 1) hx hb dL_law_1138 (by decide) ?_
  refine iaddN (a := i) (b := 1) hx hb dL_law_1139 ?_
  refine va_sld hx hb hX hbl hbA hS (vp_in_nI (show i + 1 < L by omega) (by omega)) dL_law_1140 ?_
  refine topI (sc (i + 1)) (congrArg sc (nI_clamp (by omega))) ?_
  refine lv_aload_n hx hb dL_law_1141 rfl (lv_at hl 0 rfl) ?_
  refine lv_iload_n hx hb dL_law_1142 rfl (lv_at hl 3 rfl) ?_
  refine lv_iconst (v := nI 2) hx hb dL_law_1143 (by decide) ?_
  refine iaddN (a := i) (b := 2) hx hb dL_law_1144 ?_
  refine va_sld hx hb hX hbl hbA hS (vp_in_nI (show i + 2 < L by omega) (by omega)) dL_law_1145 ?_
  refine topI (sc (i + 2)) (congrArg sc (nI_clamp (by omega))) ?_
  refine k_X8_ask (Wd := 0) sb as_ asn th tc mk mx my sh ea be pi po (sc (i + 1)) (sc (i + 2)) fnd an tr tn cs mn xs ys hmn htn hcs ⟨hx, hb, hml, hown, hta⟩ mw657 ⟨Nat.le_of_ble_eq_true rfl, Nat.le_of_ble_eq_true rfl⟩ hK hP hD hS [0, 22, 23, 8, 9, 5, 6, 7] rfl rfl hl.1 (Nat.le_of_ble_eq_true rfl) dL_law_1146 ⟨Nat.le_of_ble_eq_true rfl, Nat.le_of_ble_eq_true rfl⟩ (fun r1 an1 tr1 hq1 H locs hP hS => ?_)
  have hP : va_P D vwCl (wA sb sh shl shn shi mk mx my th tc ea et es be pi piw pih pin po poc poa pob as_ asn cI fnd la le it mn xs ys tn cs kn kt ks bt ba b1 b2 b3 wd hg nb ra rb pa pb pm cst mA mB an1 tr1 ++ wB md mdl mdm mdi mdp mdc mdt mds mdw mdh mdx mde mda mdb mdr cI fnd mn tn kn s1 s2 s3 mt an ml mm mi (plOf xs ys) cs kt ks wd hg nb cst mA mB tr) H := hP
  have hD : va_D (fun q : Nat => s.heap.size ≤ q) (wA sb sh shl shn shi mk mx my th tc ea et es be pi piw pih pin po poc poa pob as_ asn cI fnd la le it mn xs ys tn cs kn kt ks bt ba b1 b2 b3 wd hg nb ra rb pa pb pm cst mA mB an1 tr1 ++ wB md mdl mdm mdi mdp mdc mdt mds mdw mdh mdx mde mda mdb mdr cI fnd mn tn kn s1 s2 s3 mt an ml mm mi (plOf xs ys) cs kt ks wd hg nb cst mA mB tr) := hD.same rfl
  refine lv_aload_n hx hb dL_law_1149 rfl (lv_at hl 2 rfl) ?_
  refine lv_aload_n hx hb dL_law_1150 rfl (lv_at hl 0 rfl) ?_
  refine lv_iload_n hx hb dL_law_1151 rfl (lv_at hl 3 rfl) ?_
  refine lv_iconst (v := nI 1) hx hb dL_law_1152 (by decide) ?_
  refine iaddN (a := i) (b := 1) hx hb dL_law_1153 ?_
  refine va_sld hx hb hX hbl hbA hS (vp_in_nI (show i + 1 < L by omega) (by omega)) dL_law_1154 ?_
  refine topI (sc (i + 1)) (congrArg sc (nI_clamp (by omega))) ?_
  refine lv_aload_n hx hb dL_law_1155 rfl (lv_at hl 0 rfl) ?_
  refine lv_iload_n hx hb dL_law_1156 rfl (lv_at hl 3 rfl) ?_
  refine lv_iconst (v := nI 2) hx hb dL_law_1157 (by decide) ?_
  refine iaddN (a := i) (b := 2) hx hb dL_law_1158 ?_
  refine va_sld hx hb hX hbl hbA hS (vp_in_nI (show i + 2 < L by omega) (by omega)) dL_law_1159 ?_
  refine topI (sc (i + 2)) (congrArg sc (nI_clamp (by omega))) ?_
  refine k_X9_ask (Wd := 1) md mdp mdc mdr mdl mdm mdi mdt mds mdw mdh mdx mde mda mdb (sc (i + 1)) (sc (i + 2)) fnd mn tn kn s1 s2 s3 mt an cs tr _ _ hmn htn hcs hxs hys ⟨hx, hb, hml, hown, hta⟩ mw1001 ⟨Nat.le_of_ble_eq_true rfl, Nat.le_of_ble_eq_true rfl⟩ hK hP hD hS [24, 28, 29, 38] rfl rfl hl.1 (Nat.le_of_ble_eq_true rfl) dL_law_1160 ⟨Nat.le_of_ble_eq_true rfl, Nat.le_of_ble_eq_true rfl⟩ (fun r2 an2 tr2 hq2 H locs hP hS => ?_)
  have hP : va_P D vwCl (wA sb sh shl shn shi mk mx my th tc ea et es be pi piw pih pin po poc poa pob as_ asn cI fnd la le it mn xs ys tn cs kn kt ks bt ba b1 b2 b3 wd hg nb ra rb pa pb pm cst mA mB an1 tr1 ++ wB md mdl mdm mdi mdp mdc mdt mds mdw mdh mdx mde mda mdb mdr cI fnd mn tn kn s1 s2 s3 mt an2 ml mm mi (plOf xs ys) cs kt ks wd hg nb cst mA mB tr2) H := hP
  have hD : va_D (fun q : Nat => s.heap.size ≤ q) (wA sb sh shl shn shi mk mx my th tc ea et es be pi piw pih pin po poc poa pob as_ asn cI fnd la le it mn xs ys tn cs kn kt ks bt ba b1 b2 b3 wd hg nb ra rb pa pb pm cst mA mB an1 tr1 ++ wB md mdl mdm mdi mdp mdc mdt mds mdw mdh mdx mde mda mdb mdr cI fnd mn tn kn s1 s2 s3 mt an2 ml mm mi (plOf xs ys) cs kt ks wd hg nb cst mA mB tr2) := hD.same rfl
  have e9 := hq1.trans hq2.symm
  simp only [Prod.mk.injEq] at e9
  obtain ⟨e9_0, e9_1, e9_2⟩ := e9
  subst e9_0
  subst e9_1
  subst e9_2
  have han := ask_inv han hq1
  have hP : va_P D vwCl (wA sb sh shl shn shi mk mx my th tc ea et es be pi piw pih pin po poc poa pob as_ asn cI fnd la le it mn xs ys tn cs kn kt ks bt ba b1 b2 b3 wd hg nb ra rb pa pb pm cst mA mB an1 tr1 ++ wB md mdl mdm mdi mdp mdc mdt mds mdw mdh mdx mde mda mdb mdr cI fnd mn tn kn s1 s2 s3 mt (an1) ml mm mi (plOf xs ys) cs kt ks wd hg nb cst mA mB (tr1)) H := hP
  have hD : va_D (fun q : Nat => s.heap.size ≤ q) (wA sb sh shl shn shi mk mx my th tc ea et es be pi piw pih pin po poc poa pob as_ asn cI fnd la le it mn xs ys tn cs kn kt ks bt ba b1 b2 b3 wd hg nb ra rb pa pb pm cst mA mB an1 tr1 ++ wB md mdl mdm mdi mdp mdc mdt mds mdw mdh mdx mde mda mdb mdr cI fnd mn tn kn s1 s2 s3 mt (an1) ml mm mi (plOf xs ys) cs kt ks wd hg nb cst mA mB (tr1)) := hD.same rfl
  refine icmpI_eq (tgt := 1227) hx hb dL_law_1163 (by decide) (fun c9 => ?_) (fun c9 => absurd rfl c9)
  refine lv_iinc (v := nI (i + 6)) (lv' := [(3, .int (nI (i + 6))), (0, .ref b), (1, .ref sb), (2, .ref md)]) hx hb dL_law_1227 hl (k := 3) rfl (nI_inc6 _) (by decide) rfl (fun ls hl => ?_)
  refine lv_goto (tgt := 18) hx hb dL_law_1230 (by decide) ?_
  exact ih fnd la le it mn xs ys tn cs kn kt ks bt ba b1 b2 b3 wd hg nb ra rb pa pb pm cst mA mB an1 tr1 ml mm mi s1 s2 s3 mt ⟨hRS, hmn, htn, hkn, hcs, hxs, hys, hko, hpi, han⟩ H locs hP hS ls (lv_sub hl [1, 2, 3, 0] rfl)

set_option maxHeartbeats 4000000 in
set_option maxRecDepth 100000 in
theorem lawc_trace {p : Program} {l : Launch} {e : Env} {s : State} {m : MethodId} {below : List Frame} {meth : Method} {c : Code} {D : va_G} {cI : ClassId} {b L : Nat} {sc : Nat → Int32} (sb sh shl shn shi mk mx my th tc ea et es be pi piw pih pin po poc poa pob as_ asn : Nat) (md mdl mdm mdi mdp mdc mdt mds mdw mdh mdx mde mda mdb mdr : Nat) (fnd : Int32) (la : Nat → Int32) (le : Nat → Int32) (it : Nat → Int32) (mn : Nat) (xs : Nat → Int32) (ys : Nat → Int32) (tn : Nat) (cs : Nat → Int32) (kn : Nat) (kt : Nat → Int32) (ks : Nat → Int32) (bt : Int32) (ba : Int64) (b1 : Int64) (b2 : Int64) (b3 : Int64) (wd : Nat → Int32) (hg : Nat → Int32) (nb : Nat → Int32) (ra : Nat) (rb : Nat) (pa : Nat) (pb : Nat) (pm : Nat) (cst : Nat → Int32) (mA : Nat → Int32) (mB : Nat → Int32) (an : Nat) (tr : Nat → Int32) (ml : Nat → Int32) (mm : Nat → Int32) (mi : Nat → Int32) (s1 : Int64) (s2 : Int64) (s3 : Int64) (mt : Nat) (hC : LC p s m meth c D cI b L sc) (hI : INV la le it mn xs ys tn cs kn kt ks wd hg an ml mm mi) (H : Heap) (locs : List Loc) (hP : va_P D vwCl (wA sb sh shl shn shi mk mx my th tc ea et es be pi piw pih pin po poc poa pob as_ asn cI fnd la le it mn xs ys tn cs kn kt ks bt ba b1 b2 b3 wd hg nb ra rb pa pb pm cst mA mB an tr ++ wB md mdl mdm mdi mdp mdc mdt mds mdw mdh mdx mde mda mdb mdr cI fnd mn tn kn s1 s2 s3 mt an ml mm mi (plOf xs ys) cs kt ks wd hg nb cst mA mB tr) H) (hD : va_D (fun q : Nat => s.heap.size ≤ q) (wA sb sh shl shn shi mk mx my th tc ea et es be pi piw pih pin po poc poa pob as_ asn cI fnd la le it mn xs ys tn cs kn kt ks bt ba b1 b2 b3 wd hg nb ra rb pa pb pm cst mA mB an tr ++ wB md mdl mdm mdi mdp mdc mdt mds mdw mdh mdx mde mda mdb mdr cI fnd mn tn kn s1 s2 s3 mt an ml mm mi (plOf xs ys) cs kt ks wd hg nb cst mA mB tr)) (hS : va_S (fun q : Nat => s.heap.size ≤ q) s.heap H locs) (i : Nat) (hi : i + 6 ≤ L) (ih : LH p l e s m below meth c D cI b sb sh shl shn shi mk mx my th tc ea et es be pi piw pih pin po poc poa pob as_ asn md mdl mdm mdi mdp mdc mdt mds mdw mdh mdx mde mda mdb mdr (i + 6)) (ls : Array Slot) (hl : lv_has ls 4 [(0, .ref b), (1, .ref sb), (2, .ref md), (3, .int (nI i))]) : W p l e room_1 s m #[Value.ref b] below meth c H locs 39 5353 (lw_Z below #[Value.ref b] s) (F0 m 1168 ls []) := by
  obtain ⟨hx, hb, hr, hml, hown, hta, hX, hbl, hlocks, hK, hL⟩ := hC
  obtain ⟨hRS, hmn, htn, hkn, hcs, hxs, hys, hko, hpi, han⟩ := hI
  have hbA : ¬ (fun q : Nat => s.heap.size ≤ q) b := Nat.not_le.mpr hbl
  have hkt := KOK_ne hko
  have hsh := RS_SH hRS
  refine lv_aload_n hx hb dL_law_1168 rfl (lv_at hl 1 rfl) ?_
  refine lv_aload_n hx hb dL_law_1169 rfl (lv_at hl 0 rfl) ?_
  refine lv_iload_n hx hb dL_law_1170 rfl (lv_at hl 3 rfl) ?_
  refine lv_iconst (v := nI 1) hx hb dL_law_1171 (by decide) ?_
  refine iaddN (a := i) (b := 1) hx hb dL_law_1172 ?_
  refine va_sld hx hb hX hbl hbA hS (vp_in_nI (show i + 1 < L by omega) (by omega)) dL_law_1173 ?_
  refine topI (sc (i + 1)) (congrArg sc (nI_clamp (by omega))) ?_
  refine k_X8_trace (Wd := 0) sb as_ asn th tc mk mx my sh ea be pi po (sc (i + 1)) fnd an tr tn cs mn xs ys han ⟨hx, hb, hml, hown, hta⟩ mw708 ⟨Nat.le_of_ble_eq_true rfl, Nat.le_of_ble_eq_true rfl⟩ hK hP hD [0, 22, 23, 8, 9, 5, 6, 7] rfl rfl hl.1 (Nat.le_of_ble_eq_true rfl) dL_law_1174 ⟨Nat.le_of_ble_eq_true rfl, Nat.le_of_ble_eq_true rfl⟩ ?_
  refine lv_aload_n hx hb dL_law_1177 rfl (lv_at hl 2 rfl) ?_
  refine lv_aload_n hx hb dL_law_1178 rfl (lv_at hl 0 rfl) ?_
  refine lv_iload_n hx hb dL_law_1179 rfl (lv_at hl 3 rfl) ?_
  refine lv_iconst (v := nI 1) hx hb dL_law_1180 (by decide) ?_
  refine iaddN (a := i) (b := 1) hx hb dL_law_1181 ?_
  refine va_sld hx hb hX hbl hbA hS (vp_in_nI (show i + 1 < L by omega) (by omega)) dL_law_1182 ?_
  refine topI (sc (i + 1)) (congrArg sc (nI_clamp (by omega))) ?_
  refine k_X9_trace (Wd := 1) md mdr mdl mdm mdi mdp mdc mdt mds mdw mdh mdx mde mda mdb (sc (i + 1)) fnd mn tn kn s1 s2 s3 mt an tr han ⟨hx, hb, hml, hown, hta⟩ mw1021 ⟨Nat.le_of_ble_eq_true rfl, Nat.le_of_ble_eq_true rfl⟩ hK hP hD hS [24, 38] rfl rfl hl.1 (Nat.le_of_ble_eq_true rfl) dL_law_1183 ⟨Nat.le_of_ble_eq_true rfl, Nat.le_of_ble_eq_true rfl⟩ (fun H locs hP hS => ?_)
  have hP : va_P D vwCl (wA sb sh shl shn shi mk mx my th tc ea et es be pi piw pih pin po poc poa pob as_ asn cI fnd la le it mn xs ys tn cs kn kt ks bt ba b1 b2 b3 wd hg nb ra rb pa pb pm cst mA mB an tr ++ wB md mdl mdm mdi mdp mdc mdt mds mdw mdh mdx mde mda mdb mdr cI fnd mn tn kn s1 s2 s3 mt an ml mm mi (plOf xs ys) cs kt ks wd hg nb cst mA mB tr) H := hP
  have hD : va_D (fun q : Nat => s.heap.size ≤ q) (wA sb sh shl shn shi mk mx my th tc ea et es be pi piw pih pin po poc poa pob as_ asn cI fnd la le it mn xs ys tn cs kn kt ks bt ba b1 b2 b3 wd hg nb ra rb pa pb pm cst mA mB an tr ++ wB md mdl mdm mdi mdp mdc mdt mds mdw mdh mdx mde mda mdb mdr cI fnd mn tn kn s1 s2 s3 mt an ml mm mi (plOf xs ys) cs kt ks wd hg nb cst mA mB tr) := hD.same rfl
  refine icmpI_eq (tgt := 1227) hx hb dL_law_1186 (by decide) (fun c9 => ?_) (fun c9 => absurd rfl c9)
  refine lv_iinc (v := nI (i + 6)) (lv' := [(3, .int (nI (i + 6))), (0, .ref b), (1, .ref sb), (2, .ref md)]) hx hb dL_law_1227 hl (k := 3) rfl (nI_inc6 _) (by decide) rfl (fun ls hl => ?_)
  refine lv_goto (tgt := 18) hx hb dL_law_1230 (by decide) ?_
  exact ih fnd la le it mn xs ys tn cs kn kt ks bt ba b1 b2 b3 wd hg nb ra rb pa pb pm cst mA mB an tr ml mm mi s1 s2 s3 mt ⟨hRS, hmn, htn, hkn, hcs, hxs, hys, hko, hpi, han⟩ H locs hP hS ls (lv_sub hl [1, 2, 3, 0] rfl)

set_option maxHeartbeats 4000000 in
set_option maxRecDepth 100000 in
theorem lawc_count {p : Program} {l : Launch} {e : Env} {s : State} {m : MethodId} {below : List Frame} {meth : Method} {c : Code} {D : va_G} {cI : ClassId} {b L : Nat} {sc : Nat → Int32} (sb sh shl shn shi mk mx my th tc ea et es be pi piw pih pin po poc poa pob as_ asn : Nat) (md mdl mdm mdi mdp mdc mdt mds mdw mdh mdx mde mda mdb mdr : Nat) (fnd : Int32) (la : Nat → Int32) (le : Nat → Int32) (it : Nat → Int32) (mn : Nat) (xs : Nat → Int32) (ys : Nat → Int32) (tn : Nat) (cs : Nat → Int32) (kn : Nat) (kt : Nat → Int32) (ks : Nat → Int32) (bt : Int32) (ba : Int64) (b1 : Int64) (b2 : Int64) (b3 : Int64) (wd : Nat → Int32) (hg : Nat → Int32) (nb : Nat → Int32) (ra : Nat) (rb : Nat) (pa : Nat) (pb : Nat) (pm : Nat) (cst : Nat → Int32) (mA : Nat → Int32) (mB : Nat → Int32) (an : Nat) (tr : Nat → Int32) (ml : Nat → Int32) (mm : Nat → Int32) (mi : Nat → Int32) (s1 : Int64) (s2 : Int64) (s3 : Int64) (mt : Nat) (hC : LC p s m meth c D cI b L sc) (hI : INV la le it mn xs ys tn cs kn kt ks wd hg an ml mm mi) (H : Heap) (locs : List Loc) (hP : va_P D vwCl (wA sb sh shl shn shi mk mx my th tc ea et es be pi piw pih pin po poc poa pob as_ asn cI fnd la le it mn xs ys tn cs kn kt ks bt ba b1 b2 b3 wd hg nb ra rb pa pb pm cst mA mB an tr ++ wB md mdl mdm mdi mdp mdc mdt mds mdw mdh mdx mde mda mdb mdr cI fnd mn tn kn s1 s2 s3 mt an ml mm mi (plOf xs ys) cs kt ks wd hg nb cst mA mB tr) H) (hD : va_D (fun q : Nat => s.heap.size ≤ q) (wA sb sh shl shn shi mk mx my th tc ea et es be pi piw pih pin po poc poa pob as_ asn cI fnd la le it mn xs ys tn cs kn kt ks bt ba b1 b2 b3 wd hg nb ra rb pa pb pm cst mA mB an tr ++ wB md mdl mdm mdi mdp mdc mdt mds mdw mdh mdx mde mda mdb mdr cI fnd mn tn kn s1 s2 s3 mt an ml mm mi (plOf xs ys) cs kt ks wd hg nb cst mA mB tr)) (hS : va_S (fun q : Nat => s.heap.size ≤ q) s.heap H locs) (i : Nat) (hi : i + 6 ≤ L) (ih : LH p l e s m below meth c D cI b sb sh shl shn shi mk mx my th tc ea et es be pi piw pih pin po poc poa pob as_ asn md mdl mdm mdi mdp mdc mdt mds mdw mdh mdx mde mda mdb mdr (i + 6)) (ls : Array Slot) (hl : lv_has ls 4 [(0, .ref b), (1, .ref sb), (2, .ref md), (3, .int (nI i))]) : W p l e room_1 s m #[Value.ref b] below meth c H locs 39 5353 (lw_Z below #[Value.ref b] s) (F0 m 1191 ls []) := by
  obtain ⟨hx, hb, hr, hml, hown, hta, hX, hbl, hlocks, hK, hL⟩ := hC
  obtain ⟨hRS, hmn, htn, hkn, hcs, hxs, hys, hko, hpi, han⟩ := hI
  have hbA : ¬ (fun q : Nat => s.heap.size ≤ q) b := Nat.not_le.mpr hbl
  have hkt := KOK_ne hko
  have hsh := RS_SH hRS
  refine lv_aload_n hx hb dL_law_1191 rfl (lv_at hl 1 rfl) ?_
  refine lv_aload_n hx hb dL_law_1192 rfl (lv_at hl 0 rfl) ?_
  refine lv_iload_n hx hb dL_law_1193 rfl (lv_at hl 3 rfl) ?_
  refine lv_iconst (v := nI 1) hx hb dL_law_1194 (by decide) ?_
  refine iaddN (a := i) (b := 1) hx hb dL_law_1195 ?_
  refine va_sld hx hb hX hbl hbA hS (vp_in_nI (show i + 1 < L by omega) (by omega)) dL_law_1196 ?_
  refine topI (sc (i + 1)) (congrArg sc (nI_clamp (by omega))) ?_
  refine k_X8_count (Wd := 0) sb th tc mk mx my sh shl shn shi ea et es be pi po as_ (sc (i + 1)) fnd tn cs mn xs ys la le it kn kt ks hmn htn hcs ⟨hx, hb, hml, hown, hta⟩ mw717 ⟨Nat.le_of_ble_eq_true rfl, Nat.le_of_ble_eq_true rfl⟩ hK hP hD [0, 8, 9, 5, 6, 7, 1, 2, 3, 4, 10, 11, 12] rfl rfl hl.1 (Nat.le_of_ble_eq_true rfl) dL_law_1197 ⟨Nat.le_of_ble_eq_true rfl, Nat.le_of_ble_eq_true rfl⟩ ?_
  refine lv_aload_n hx hb dL_law_1200 rfl (lv_at hl 2 rfl) ?_
  refine lv_aload_n hx hb dL_law_1201 rfl (lv_at hl 0 rfl) ?_
  refine lv_iload_n hx hb dL_law_1202 rfl (lv_at hl 3 rfl) ?_
  refine lv_iconst (v := nI 1) hx hb dL_law_1203 (by decide) ?_
  refine iaddN (a := i) (b := 1) hx hb dL_law_1204 ?_
  refine va_sld hx hb hX hbl hbA hS (vp_in_nI (show i + 1 < L by omega) (by omega)) dL_law_1205 ?_
  refine topI (sc (i + 1)) (congrArg sc (nI_clamp (by omega))) ?_
  refine k_X9_count (Wd := 1) md mdp mdc mdl mdm mdi mdt mds mdw mdh mdx mde mda mdb mdr (sc (i + 1)) fnd mn tn kn s1 s2 s3 mt an cs ml mm mi _ _ _ _ _ hmn htn hcs hxs hys hRS ⟨hx, hb, hml, hown, hta⟩ mw1025 ⟨Nat.le_of_ble_eq_true rfl, Nat.le_of_ble_eq_true rfl⟩ hK hP hD hS [24, 28, 29, 25, 26, 27] rfl rfl hl.1 (Nat.le_of_ble_eq_true rfl) dL_law_1206 ⟨Nat.le_of_ble_eq_true rfl, Nat.le_of_ble_eq_true rfl⟩ (fun H locs hP hS => ?_)
  have hP : va_P D vwCl (wA sb sh shl shn shi mk mx my th tc ea et es be pi piw pih pin po poc poa pob as_ asn cI fnd la le it mn xs ys tn cs kn kt ks bt ba b1 b2 b3 wd hg nb ra rb pa pb pm cst mA mB an tr ++ wB md mdl mdm mdi mdp mdc mdt mds mdw mdh mdx mde mda mdb mdr cI fnd mn tn kn s1 s2 s3 mt an ml mm mi (plOf xs ys) cs kt ks wd hg nb cst mA mB tr) H := hP
  have hD : va_D (fun q : Nat => s.heap.size ≤ q) (wA sb sh shl shn shi mk mx my th tc ea et es be pi piw pih pin po poc poa pob as_ asn cI fnd la le it mn xs ys tn cs kn kt ks bt ba b1 b2 b3 wd hg nb ra rb pa pb pm cst mA mB an tr ++ wB md mdl mdm mdi mdp mdc mdt mds mdw mdh mdx mde mda mdb mdr cI fnd mn tn kn s1 s2 s3 mt an ml mm mi (plOf xs ys) cs kt ks wd hg nb cst mA mB tr) := hD.same rfl
  refine icmpI_eq (tgt := 1227) hx hb dL_law_1209 (by decide) (fun c9 => ?_) (fun c9 => absurd rfl c9)
  refine lv_iinc (v := nI (i + 6)) (lv' := [(3, .int (nI (i + 6))), (0, .ref b), (1, .ref sb), (2, .ref md)]) hx hb dL_law_1227 hl (k := 3) rfl (nI_inc6 _) (by decide) rfl (fun ls hl => ?_)
  refine lv_goto (tgt := 18) hx hb dL_law_1230 (by decide) ?_
  exact ih fnd la le it mn xs ys tn cs kn kt ks bt ba b1 b2 b3 wd hg nb ra rb pa pb pm cst mA mB an tr ml mm mi s1 s2 s3 mt ⟨hRS, hmn, htn, hkn, hcs, hxs, hys, hko, hpi, han⟩ H locs hP hS ls (lv_sub hl [1, 2, 3, 0] rfl)

set_option maxHeartbeats 4000000 in
set_option maxRecDepth 100000 in
theorem lawc_status {p : Program} {l : Launch} {e : Env} {s : State} {m : MethodId} {below : List Frame} {meth : Method} {c : Code} {D : va_G} {cI : ClassId} {b L : Nat} {sc : Nat → Int32} (sb sh shl shn shi mk mx my th tc ea et es be pi piw pih pin po poc poa pob as_ asn : Nat) (md mdl mdm mdi mdp mdc mdt mds mdw mdh mdx mde mda mdb mdr : Nat) (fnd : Int32) (la : Nat → Int32) (le : Nat → Int32) (it : Nat → Int32) (mn : Nat) (xs : Nat → Int32) (ys : Nat → Int32) (tn : Nat) (cs : Nat → Int32) (kn : Nat) (kt : Nat → Int32) (ks : Nat → Int32) (bt : Int32) (ba : Int64) (b1 : Int64) (b2 : Int64) (b3 : Int64) (wd : Nat → Int32) (hg : Nat → Int32) (nb : Nat → Int32) (ra : Nat) (rb : Nat) (pa : Nat) (pb : Nat) (pm : Nat) (cst : Nat → Int32) (mA : Nat → Int32) (mB : Nat → Int32) (an : Nat) (tr : Nat → Int32) (ml : Nat → Int32) (mm : Nat → Int32) (mi : Nat → Int32) (s1 : Int64) (s2 : Int64) (s3 : Int64) (mt : Nat) (hC : LC p s m meth c D cI b L sc) (hI : INV la le it mn xs ys tn cs kn kt ks wd hg an ml mm mi) (H : Heap) (locs : List Loc) (hP : va_P D vwCl (wA sb sh shl shn shi mk mx my th tc ea et es be pi piw pih pin po poc poa pob as_ asn cI fnd la le it mn xs ys tn cs kn kt ks bt ba b1 b2 b3 wd hg nb ra rb pa pb pm cst mA mB an tr ++ wB md mdl mdm mdi mdp mdc mdt mds mdw mdh mdx mde mda mdb mdr cI fnd mn tn kn s1 s2 s3 mt an ml mm mi (plOf xs ys) cs kt ks wd hg nb cst mA mB tr) H) (hD : va_D (fun q : Nat => s.heap.size ≤ q) (wA sb sh shl shn shi mk mx my th tc ea et es be pi piw pih pin po poc poa pob as_ asn cI fnd la le it mn xs ys tn cs kn kt ks bt ba b1 b2 b3 wd hg nb ra rb pa pb pm cst mA mB an tr ++ wB md mdl mdm mdi mdp mdc mdt mds mdw mdh mdx mde mda mdb mdr cI fnd mn tn kn s1 s2 s3 mt an ml mm mi (plOf xs ys) cs kt ks wd hg nb cst mA mB tr)) (hS : va_S (fun q : Nat => s.heap.size ≤ q) s.heap H locs) (i : Nat) (hi : i + 6 ≤ L) (ih : LH p l e s m below meth c D cI b sb sh shl shn shi mk mx my th tc ea et es be pi piw pih pin po poc poa pob as_ asn md mdl mdm mdi mdp mdc mdt mds mdw mdh mdx mde mda mdb mdr (i + 6)) (ls : Array Slot) (hl : lv_has ls 4 [(0, .ref b), (1, .ref sb), (2, .ref md), (3, .int (nI i))]) : W p l e room_1 s m #[Value.ref b] below meth c H locs 39 5353 (lw_Z below #[Value.ref b] s) (F0 m 1214 ls []) := by
  obtain ⟨hx, hb, hr, hml, hown, hta, hX, hbl, hlocks, hK, hL⟩ := hC
  obtain ⟨hRS, hmn, htn, hkn, hcs, hxs, hys, hko, hpi, han⟩ := hI
  have hbA : ¬ (fun q : Nat => s.heap.size ≤ q) b := Nat.not_le.mpr hbl
  have hkt := KOK_ne hko
  have hsh := RS_SH hRS
  refine lv_aload_n hx hb dL_law_1214 rfl (lv_at hl 1 rfl) ?_
  refine k_X8_status (Wd := 0) sb sh mk th ea be pi po as_ fnd  ⟨hx, hb, hml, hown, hta⟩ mw737 ⟨Nat.le_of_ble_eq_true rfl, Nat.le_of_ble_eq_true rfl⟩ hK hP hD [0] rfl rfl hl.1 (Nat.le_of_ble_eq_true rfl) dL_law_1215 ⟨Nat.le_of_ble_eq_true rfl, Nat.le_of_ble_eq_true rfl⟩ ?_
  refine lv_aload_n hx hb dL_law_1218 rfl (lv_at hl 2 rfl) ?_
  refine k_X9_status (Wd := 1) md mdl mdm mdi mdp mdc mdt mds mdw mdh mdx mde mda mdb mdr fnd mn tn kn s1 s2 s3 mt an  ⟨hx, hb, hml, hown, hta⟩ mw1029 ⟨Nat.le_of_ble_eq_true rfl, Nat.le_of_ble_eq_true rfl⟩ hK hP hD hS [24] rfl rfl hl.1 (Nat.le_of_ble_eq_true rfl) dL_law_1219 ⟨Nat.le_of_ble_eq_true rfl, Nat.le_of_ble_eq_true rfl⟩ (fun H locs hP hS => ?_)
  have hP : va_P D vwCl (wA sb sh shl shn shi mk mx my th tc ea et es be pi piw pih pin po poc poa pob as_ asn cI fnd la le it mn xs ys tn cs kn kt ks bt ba b1 b2 b3 wd hg nb ra rb pa pb pm cst mA mB an tr ++ wB md mdl mdm mdi mdp mdc mdt mds mdw mdh mdx mde mda mdb mdr cI fnd mn tn kn s1 s2 s3 mt an ml mm mi (plOf xs ys) cs kt ks wd hg nb cst mA mB tr) H := hP
  have hD : va_D (fun q : Nat => s.heap.size ≤ q) (wA sb sh shl shn shi mk mx my th tc ea et es be pi piw pih pin po poc poa pob as_ asn cI fnd la le it mn xs ys tn cs kn kt ks bt ba b1 b2 b3 wd hg nb ra rb pa pb pm cst mA mB an tr ++ wB md mdl mdm mdi mdp mdc mdt mds mdw mdh mdx mde mda mdb mdr cI fnd mn tn kn s1 s2 s3 mt an ml mm mi (plOf xs ys) cs kt ks wd hg nb cst mA mB tr) := hD.same rfl
  refine icmpI_eq (tgt := 1227) hx hb dL_law_1222 (by decide) (fun c9 => ?_) (fun c9 => absurd rfl c9)
  refine lv_iinc (v := nI (i + 6)) (lv' := [(3, .int (nI (i + 6))), (0, .ref b), (1, .ref sb), (2, .ref md)]) hx hb dL_law_1227 hl (k := 3) rfl (nI_inc6 _) (by decide) rfl (fun ls hl => ?_)
  refine lv_goto (tgt := 18) hx hb dL_law_1230 (by decide) ?_
  exact ih fnd la le it mn xs ys tn cs kn kt ks bt ba b1 b2 b3 wd hg nb ra rb pa pb pm cst mA mB an tr ml mm mi s1 s2 s3 mt ⟨hRS, hmn, htn, hkn, hcs, hxs, hys, hko, hpi, han⟩ H locs hP hS ls (lv_sub hl [1, 2, 3, 0] rfl)
