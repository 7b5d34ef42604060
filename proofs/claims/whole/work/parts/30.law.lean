set_option maxHeartbeats 4000000 in
set_option maxRecDepth 100000 in
theorem lawc_sheet {p : Program} {l : Launch} {e : Env} {s : State} {m : MethodId} {below : List Frame} {meth : Method} {c : Code} {D : va_G} {cI : ClassId} {b L : Nat} {sc : Nat → Int32} (sb sh shl shn shi mk mx my th tc ea et es be pi piw pih pin po poc poa pob as_ asn : Nat) (md mdl mdm mdi mdp mdc mdt mds mdw mdh mdx mde mda mdb mdr : Nat) (fnd : Int32) (la : Nat → Int32) (le : Nat → Int32) (it : Nat → Int32) (mn : Nat) (xs : Nat → Int32) (ys : Nat → Int32) (tn : Nat) (cs : Nat → Int32) (kn : Nat) (kt : Nat → Int32) (ks : Nat → Int32) (bt : Int32) (ba : Int64) (b1 : Int64) (b2 : Int64) (b3 : Int64) (wd : Nat → Int32) (hg : Nat → Int32) (nb : Nat → Int32) (ra : Nat) (rb : Nat) (pa : Nat) (pb : Nat) (pm : Nat) (cst : Nat → Int32) (mA : Nat → Int32) (mB : Nat → Int32) (an : Nat) (tr : Nat → Int32) (ml : Nat → Int32) (mm : Nat → Int32) (mi : Nat → Int32) (s1 : Int64) (s2 : Int64) (s3 : Int64) (mt : Nat) (hC : LC p s m meth c D cI b L sc) (hI : INV la le it mn xs ys tn cs kn kt ks wd hg an ml mm mi) (H : Heap) (locs : List Loc) (hP : va_P D vwCl (wA sb sh shl shn shi mk mx my th tc ea et es be pi piw pih pin po poc poa pob as_ asn cI fnd la le it mn xs ys tn cs kn kt ks bt ba b1 b2 b3 wd hg nb ra rb pa pb pm cst mA mB an tr ++ wB md mdl mdm mdi mdp mdc mdt mds mdw mdh mdx mde mda mdb mdr cI fnd mn tn kn s1 s2 s3 mt an ml mm mi (plOf xs ys) cs kt ks wd hg nb cst mA mB tr) H) (hD : va_D (fun q : Nat => s.heap.size ≤ q) (wA sb sh shl shn shi mk mx my th tc ea et es be pi piw pih pin po poc poa pob as_ asn cI fnd la le it mn xs ys tn cs kn kt ks bt ba b1 b2 b3 wd hg nb ra rb pa pb pm cst mA mB an tr ++ wB md mdl mdm mdi mdp mdc mdt mds mdw mdh mdx mde mda mdb mdr cI fnd mn tn kn s1 s2 s3 mt an ml mm mi (plOf xs ys) cs kt ks wd hg nb cst mA mB tr)) (hS : va_S (fun q : Nat => s.heap.size ≤ q) s.heap H locs) (i : Nat) (hi : i + 6 ≤ L) (ih : LH p l e s m below meth c D cI b sb sh shl shn shi mk mx my th tc ea et es be pi piw pih pin po poc poa pob as_ asn md mdl mdm mdi mdp mdc mdt mds mdw mdh mdx mde mda mdb mdr (i + 6)) (ls : Array Slot) (hl : lv_has ls 4 [(0, .ref b), (1, .ref sb), (2, .ref md), (3, .int (nI i))]) : W p l e room_1 s m #[Value.ref b] below meth c H locs 39 5353 (lw_Z below #[Value.ref b] s) (F0 m 156 ls []) := by
  obtain ⟨hx, hb, hr, hml, hown, hta, hX, hbl, hlocks, hK, hL⟩ := hC
  obtain ⟨hRS, hmn, htn, hkn, hcs, hxs, hys, hko, hpi, han⟩ := hI
  have hbA : ¬ (fun q : Nat => s.heap.size ≤ q) b := Nat.not_le.mpr hbl
  have hkt := KOK_ne hko
  have hsh := RS_SH hRS
  refine lv_aload_n hx hb dL_law_156 rfl (lv_at hl 1 rfl) ?_
  refine lv_aload_n hx hb dL_law_157 rfl (lv_at hl 0 rfl) ?_
  refine lv_iload_n hx hb dL_law_158 rfl (lv_at hl 3 rfl) ?_
  refine lv_iconst (v := nI 1) hx hb dL_law_159 (by decide) ?_
  refine iaddN (a := i) (b := 1) hx hb dL_law_160 ?_
  refine va_sld hx hb hX hbl hbA hS (vp_in_nI (show i + 1 < L by omega) (by omega)) dL_law_161 ?_
  refine topI (sc (i + 1)) (congrArg sc (nI_clamp (by omega))) ?_
  refine lv_aload_n hx hb dL_law_162 rfl (lv_at hl 0 rfl) ?_
  refine lv_iload_n hx hb dL_law_163 rfl (lv_at hl 3 rfl) ?_
  refine lv_iconst (v := nI 2) hx hb dL_law_164 (by decide) ?_
  refine iaddN (a := i) (b := 2) hx hb dL_law_165 ?_
  refine va_sld hx hb hX hbl hbA hS (vp_in_nI (show i + 2 < L by omega) (by omega)) dL_law_166 ?_
  refine topI (sc (i + 2)) (congrArg sc (nI_clamp (by omega))) ?_
  refine lv_aload_n hx hb dL_law_167 rfl (lv_at hl 0 rfl) ?_
  refine lv_iload_n hx hb dL_law_168 rfl (lv_at hl 3 rfl) ?_
  refine lv_iconst (v := nI 3) hx hb dL_law_169 (by decide) ?_
  refine iaddN (a := i) (b := 3) hx hb dL_law_170 ?_
  refine va_sld hx hb hX hbl hbA hS (vp_in_nI (show i + 3 < L by omega) (by omega)) dL_law_171 ?_
  refine topI (sc (i + 3)) (congrArg sc (nI_clamp (by omega))) ?_
  refine k_X8_sheet (Wd := 0) sb sh shl shn shi mk th ea be pi po as_ (sc (i + 1)) (sc (i + 2)) (sc (i + 3)) fnd la le it  ⟨hx, hb, hml, hown, hta⟩ mw248 ⟨Nat.le_of_ble_eq_true rfl, Nat.le_of_ble_eq_true rfl⟩ hK hP hD hS [0, 1, 2, 3, 4] rfl rfl hl.1 (Nat.le_of_ble_eq_true rfl) dL_law_172 ⟨Nat.le_of_ble_eq_true rfl, Nat.le_of_ble_eq_true rfl⟩ (fun r1 f1 la1 le1 it1 hq1 H locs hP hS => ?_)
  have hP : va_P D vwCl (wA sb sh shl shn shi mk mx my th tc ea et es be pi piw pih pin po poc poa pob as_ asn cI f1 la1 le1 it1 mn xs ys tn cs kn kt ks bt ba b1 b2 b3 wd hg nb ra rb pa pb pm cst mA mB an tr ++ wB md mdl mdm mdi mdp mdc mdt mds mdw mdh mdx mde mda mdb mdr cI fnd mn tn kn s1 s2 s3 mt an ml mm mi (plOf xs ys) cs kt ks wd hg nb cst mA mB tr) H := hP
  have hD : va_D (fun q : Nat => s.heap.size ≤ q) (wA sb sh shl shn shi mk mx my th tc ea et es be pi piw pih pin po poc poa pob as_ asn cI f1 la1 le1 it1 mn xs ys tn cs kn kt ks bt ba b1 b2 b3 wd hg nb ra rb pa pb pm cst mA mB an tr ++ wB md mdl mdm mdi mdp mdc mdt mds mdw mdh mdx mde mda mdb mdr cI fnd mn tn kn s1 s2 s3 mt an ml mm mi (plOf xs ys) cs kt ks wd hg nb cst mA mB tr) := hD.same rfl
  refine lv_aload_n hx hb dL_law_175 rfl (lv_at hl 2 rfl) ?_
  refine lv_aload_n hx hb dL_law_176 rfl (lv_at hl 0 rfl) ?_
  refine lv_iload_n hx hb dL_law_177 rfl (lv_at hl 3 rfl) ?_
  refine lv_iconst (v := nI 1) hx hb dL_law_178 (by decide) ?_
  refine iaddN (a := i) (b := 1) hx hb dL_law_179 ?_
  refine va_sld hx hb hX hbl hbA hS (vp_in_nI (show i + 1 < L by omega) (by omega)) dL_law_180 ?_
  refine topI (sc (i + 1)) (congrArg sc (nI_clamp (by omega))) ?_
  refine lv_aload_n hx hb dL_law_181 rfl (lv_at hl 0 rfl) ?_
  refine lv_iload_n hx hb dL_law_182 rfl (lv_at hl 3 rfl) ?_
  refine lv_iconst (v := nI 2) hx hb dL_law_183 (by decide) ?_
  refine iaddN (a := i) (b := 2) hx hb dL_law_184 ?_
  refine va_sld hx hb hX hbl hbA hS (vp_in_nI (show i + 2 < L by omega) (by omega)) dL_law_185 ?_
  refine topI (sc (i + 2)) (congrArg sc (nI_clamp (by omega))) ?_
  refine lv_aload_n hx hb dL_law_186 rfl (lv_at hl 0 rfl) ?_
  refine lv_iload_n hx hb dL_law_187 rfl (lv_at hl 3 rfl) ?_
  refine lv_iconst (v := nI 3) hx hb dL_law_188 (by decide) ?_
  refine iaddN (a := i) (b := 3) hx hb dL_law_189 ?_
  refine va_sld hx hb hX hbl hbA hS (vp_in_nI (show i + 3 < L by omega) (by omega)) dL_law_190 ?_
  refine topI (sc (i + 3)) (congrArg sc (nI_clamp (by omega))) ?_
  refine k_X9_sheet (Wd := 1) md mdl mdm mdi mdp mdc mdt mds mdw mdh mdx mde mda mdb mdr (sc (i + 1)) (sc (i + 2)) (sc (i + 3)) fnd mn tn kn s1 s2 s3 mt an ml mm mi _ _ _ hRS ⟨hx, hb, hml, hown, hta⟩ mw820 ⟨Nat.le_of_ble_eq_true rfl, Nat.le_of_ble_eq_true rfl⟩ hK hP hD hS [24, 25, 26, 27] rfl rfl hl.1 (Nat.le_of_ble_eq_true rfl) dL_law_191 ⟨Nat.le_of_ble_eq_true rfl, Nat.le_of_ble_eq_true rfl⟩ (fun r2 f2 ml2 mm2 mi2 hr2 hf2 hRS2 H locs hP hS => ?_)
  have hP : va_P D vwCl (wA sb sh shl shn shi mk mx my th tc ea et es be pi piw pih pin po poc poa pob as_ asn cI f1 la1 le1 it1 mn xs ys tn cs kn kt ks bt ba b1 b2 b3 wd hg nb ra rb pa pb pm cst mA mB an tr ++ wB md mdl mdm mdi mdp mdc mdt mds mdw mdh mdx mde mda mdb mdr cI f2 mn tn kn s1 s2 s3 mt an ml2 mm2 mi2 (plOf xs ys) cs kt ks wd hg nb cst mA mB tr) H := hP
  have hD : va_D (fun q : Nat => s.heap.size ≤ q) (wA sb sh shl shn shi mk mx my th tc ea et es be pi piw pih pin po poc poa pob as_ asn cI f1 la1 le1 it1 mn xs ys tn cs kn kt ks bt ba b1 b2 b3 wd hg nb ra rb pa pb pm cst mA mB an tr ++ wB md mdl mdm mdi mdp mdc mdt mds mdw mdh mdx mde mda mdb mdr cI f2 mn tn kn s1 s2 s3 mt an ml2 mm2 mi2 (plOf xs ys) cs kt ks wd hg nb cst mA mB tr) := hD.same rfl
  rw [← hq1] at hr2 hf2 hRS2
  have e9 : r1 = r2 := hr2.symm
  have e8 : f1 = f2 := hf2.symm
  subst e9
  subst e8
  have hRS : RS la1 le1 it1 ml2 mm2 mi2 := hRS2
  have hP : va_P D vwCl (wA sb sh shl shn shi mk mx my th tc ea et es be pi piw pih pin po poc poa pob as_ asn cI f1 la1 le1 it1 mn xs ys tn cs kn kt ks bt ba b1 b2 b3 wd hg nb ra rb pa pb pm cst mA mB an tr ++ wB md mdl mdm mdi mdp mdc mdt mds mdw mdh mdx mde mda mdb mdr cI (f1) mn tn kn s1 s2 s3 mt an ml2 mm2 mi2 (plOf xs ys) cs kt ks wd hg nb cst mA mB tr) H := hP
  have hD : va_D (fun q : Nat => s.heap.size ≤ q) (wA sb sh shl shn shi mk mx my th tc ea et es be pi piw pih pin po poc poa pob as_ asn cI f1 la1 le1 it1 mn xs ys tn cs kn kt ks bt ba b1 b2 b3 wd hg nb ra rb pa pb pm cst mA mB an tr ++ wB md mdl mdm mdi mdp mdc mdt mds mdw mdh mdx mde mda mdb mdr cI (f1) mn tn kn s1 s2 s3 mt an ml2 mm2 mi2 (plOf xs ys) cs kt ks wd hg nb cst mA mB tr) := hD.same rfl
  refine icmpI_eq (tgt := 1227) hx hb dL_law_194 (by decide) (fun c9 => ?_) (fun c9 => absurd rfl c9)
  refine lv_iinc (v := nI (i + 6)) (lv' := [(3, .int (nI (i + 6))), (0, .ref b), (1, .ref sb), (2, .ref md)]) hx hb dL_law_1227 hl (k := 3) rfl (nI_inc6 _) (by decide) rfl (fun ls hl => ?_)
  refine lv_goto (tgt := 18) hx hb dL_law_1230 (by decide) ?_
  exact ih f1 la1 le1 it1 mn xs ys tn cs kn kt ks bt ba b1 b2 b3 wd hg nb ra rb pa pb pm cst mA mB an tr ml2 mm2 mi2 s1 s2 s3 mt ⟨hRS, hmn, htn, hkn, hcs, hxs, hys, hko, hpi, han⟩ H locs hP hS ls (lv_sub hl [1, 2, 3, 0] rfl)

set_option maxHeartbeats 4000000 in
set_option maxRecDepth 100000 in
theorem lawc_mark {p : Program} {l : Launch} {e : Env} {s : State} {m : MethodId} {below : List Frame} {meth : Method} {c : Code} {D : va_G} {cI : ClassId} {b L : Nat} {sc : Nat → Int32} (sb sh shl shn shi mk mx my th tc ea et es be pi piw pih pin po poc poa pob as_ asn : Nat) (md mdl mdm mdi mdp mdc mdt mds mdw mdh mdx mde mda mdb mdr : Nat) (fnd : Int32) (la : Nat → Int32) (le : Nat → Int32) (it : Nat → Int32) (mn : Nat) (xs : Nat → Int32) (ys : Nat → Int32) (tn : Nat) (cs : Nat → Int32) (kn : Nat) (kt : Nat → Int32) (ks : Nat → Int32) (bt : Int32) (ba : Int64) (b1 : Int64) (b2 : Int64) (b3 : Int64) (wd : Nat → Int32) (hg : Nat → Int32) (nb : Nat → Int32) (ra : Nat) (rb : Nat) (pa : Nat) (pb : Nat) (pm : Nat) (cst : Nat → Int32) (mA : Nat → Int32) (mB : Nat → Int32) (an : Nat) (tr : Nat → Int32) (ml : Nat → Int32) (mm : Nat → Int32) (mi : Nat → Int32) (s1 : Int64) (s2 : Int64) (s3 : Int64) (mt : Nat) (hC : LC p s m meth c D cI b L sc) (hI : INV la le it mn xs ys tn cs kn kt ks wd hg an ml mm mi) (H : Heap) (locs : List Loc) (hP : va_P D vwCl (wA sb sh shl shn shi mk mx my th tc ea et es be pi piw pih pin po poc poa pob as_ asn cI fnd la le it mn xs ys tn cs kn kt ks bt ba b1 b2 b3 wd hg nb ra rb pa pb pm cst mA mB an tr ++ wB md mdl mdm mdi mdp mdc mdt mds mdw mdh mdx mde mda mdb mdr cI fnd mn tn kn s1 s2 s3 mt an ml mm mi (plOf xs ys) cs kt ks wd hg nb cst mA mB tr) H) (hD : va_D (fun q : Nat => s.heap.size ≤ q) (wA sb sh shl shn shi mk mx my th tc ea et es be pi piw pih pin po poc poa pob as_ asn cI fnd la le it mn xs ys tn cs kn kt ks bt ba b1 b2 b3 wd hg nb ra rb pa pb pm cst mA mB an tr ++ wB md mdl mdm mdi mdp mdc mdt mds mdw mdh mdx mde mda mdb mdr cI fnd mn tn kn s1 s2 s3 mt an ml mm mi (plOf xs ys) cs kt ks wd hg nb cst mA mB tr)) (hS : va_S (fun q : Nat => s.heap.size ≤ q) s.heap H locs) (i : Nat) (hi : i + 6 ≤ L) (ih : LH p l e s m below meth c D cI b sb sh shl shn shi mk mx my th tc ea et es be pi piw pih pin po poc poa pob as_ asn md mdl mdm mdi mdp mdc mdt mds mdw mdh mdx mde mda mdb mdr (i + 6)) (ls : Array Slot) (hl : lv_has ls 4 [(0, .ref b), (1, .ref sb), (2, .ref md), (3, .int (nI i))]) : W p l e room_1 s m #[Value.ref b] below meth c H locs 39 5353 (lw_Z below #[Value.ref b] s) (F0 m 328 ls []) := by
  obtain ⟨hx, hb, hr, hml, hown, hta, hX, hbl, hlocks, hK, hL⟩ := hC
  obtain ⟨hRS, hmn, htn, hkn, hcs, hxs, hys, hko, hpi, han⟩ := hI
  have hbA : ¬ (fun q : Nat => s.heap.size ≤ q) b := Nat.not_le.mpr hbl
  have hkt := KOK_ne hko
  have hsh := RS_SH hRS
  refine lv_aload_n hx hb dL_law_328 rfl (lv_at hl 1 rfl) ?_
  refine lv_aload_n hx hb dL_law_329 rfl (lv_at hl 0 rfl) ?_
  refine lv_iload_n hx hb dL_law_330 rfl (lv_at hl 3 rfl) ?_
  refine lv_iconst (v := nI 1) hx hb dL_law_331 (by decide) ?_
  refine iaddN (a := i) (b := 1) hx hb dL_law_332 ?_
  refine va_sld hx hb hX hbl hbA hS (vp_in_nI (show i + 1 < L by omega) (by omega)) dL_law_333 ?_
  refine topI (sc (i + 1)) (congrArg sc (nI_clamp (by omega))) ?_
  refine lv_aload_n hx hb dL_law_334 rfl (lv_at hl 0 rfl) ?_
  refine lv_iload_n hx hb dL_law_335 rfl (lv_at hl 3 rfl) ?_
  refine lv_iconst (v := nI 2) hx hb dL_law_336 (by decide) ?_
  refine iaddN (a := i) (b := 2) hx hb dL_law_337 ?_
  refine va_sld hx hb hX hbl hbA hS (vp_in_nI (show i + 2 < L by omega) (by omega)) dL_law_338 ?_
  refine topI (sc (i + 2)) (congrArg sc (nI_clamp (by omega))) ?_
  refine lv_aload_n hx hb dL_law_339 rfl (lv_at hl 0 rfl) ?_
  refine lv_iload_n hx hb dL_law_340 rfl (lv_at hl 3 rfl) ?_
  refine lv_iconst (v := nI 3) hx hb dL_law_341 (by decide) ?_
  refine iaddN (a := i) (b := 3) hx hb dL_law_342 ?_
  refine va_sld hx hb hX hbl hbA hS (vp_in_nI (show i + 3 < L by omega) (by omega)) dL_law_343 ?_
  refine topI (sc (i + 3)) (congrArg sc (nI_clamp (by omega))) ?_
  refine lv_aload_n hx hb dL_law_344 rfl (lv_at hl 0 rfl) ?_
  refine lv_iload_n hx hb dL_law_345 rfl (lv_at hl 3 rfl) ?_
  refine lv_iconst (v := nI 4) hx hb dL_law_346 (by decide) ?_
  refine iaddN (a := i) (b := 4) hx hb dL_law_347 ?_
  refine va_sld hx hb hX hbl hbA hS (vp_in_nI (show i + 4 < L by omega) (by omega)) dL_law_348 ?_
  refine topI (sc (i + 4)) (congrArg sc (nI_clamp (by omega))) ?_
  refine k_X8_mark (Wd := 0) sb mk mx my sh th ea be pi po as_ (sc (i + 1)) (sc (i + 2)) (sc (i + 3)) (sc (i + 4)) fnd mn xs ys hmn ⟨hx, hb, hml, hown, hta⟩ mw321 ⟨Nat.le_of_ble_eq_true rfl, Nat.le_of_ble_eq_true rfl⟩ hK hP hD hS [0, 5, 6, 7] rfl rfl hl.1 (Nat.le_of_ble_eq_true rfl) dL_law_349 ⟨Nat.le_of_ble_eq_true rfl, Nat.le_of_ble_eq_true rfl⟩ (fun r1 mn1 xs1 ys1 hq1 H locs hP hS => ?_)
  have hP : va_P D vwCl (wA sb sh shl shn shi mk mx my th tc ea et es be pi piw pih pin po poc poa pob as_ asn cI fnd la le it mn1 xs1 ys1 tn cs kn kt ks bt ba b1 b2 b3 wd hg nb ra rb pa pb pm cst mA mB an tr ++ wB md mdl mdm mdi mdp mdc mdt mds mdw mdh mdx mde mda mdb mdr cI fnd mn tn kn s1 s2 s3 mt an ml mm mi (plOf xs ys) cs kt ks wd hg nb cst mA mB tr) H := hP
  have hD : va_D (fun q : Nat => s.heap.size ≤ q) (wA sb sh shl shn shi mk mx my th tc ea et es be pi piw pih pin po poc poa pob as_ asn cI fnd la le it mn1 xs1 ys1 tn cs kn kt ks bt ba b1 b2 b3 wd hg nb ra rb pa pb pm cst mA mB an tr ++ wB md mdl mdm mdi mdp mdc mdt mds mdw mdh mdx mde mda mdb mdr cI fnd mn tn kn s1 s2 s3 mt an ml mm mi (plOf xs ys) cs kt ks wd hg nb cst mA mB tr) := hD.same rfl
  refine lv_aload_n hx hb dL_law_352 rfl (lv_at hl 2 rfl) ?_
  refine lv_aload_n hx hb dL_law_353 rfl (lv_at hl 0 rfl) ?_
  refine lv_iload_n hx hb dL_law_354 rfl (lv_at hl 3 rfl) ?_
  refine lv_iconst (v := nI 1) hx hb dL_law_355 (by decide) ?_
  refine iaddN (a := i) (b := 1) hx hb dL_law_356 ?_
  refine va_sld hx hb hX hbl hbA hS (vp_in_nI (show i + 1 < L by omega) (by omega)) dL_law_357 ?_
  refine topI (sc (i + 1)) (congrArg sc (nI_clamp (by omega))) ?_
  refine lv_aload_n hx hb dL_law_358 rfl (lv_at hl 0 rfl) ?_
  refine lv_iload_n hx hb dL_law_359 rfl (lv_at hl 3 rfl) ?_
  refine lv_iconst (v := nI 2) hx hb dL_law_360 (by decide) ?_
  refine iaddN (a := i) (b := 2) hx hb dL_law_361 ?_
  refine va_sld hx hb hX hbl hbA hS (vp_in_nI (show i + 2 < L by omega) (by omega)) dL_law_362 ?_
  refine topI (sc (i + 2)) (congrArg sc (nI_clamp (by omega))) ?_
  refine lv_aload_n hx hb dL_law_363 rfl (lv_at hl 0 rfl) ?_
  refine lv_iload_n hx hb dL_law_364 rfl (lv_at hl 3 rfl) ?_
  refine lv_iconst (v := nI 3) hx hb dL_law_365 (by decide) ?_
  refine iaddN (a := i) (b := 3) hx hb dL_law_366 ?_
  refine va_sld hx hb hX hbl hbA hS (vp_in_nI (show i + 3 < L by omega) (by omega)) dL_law_367 ?_
  refine topI (sc (i + 3)) (congrArg sc (nI_clamp (by omega))) ?_
  refine lv_aload_n hx hb dL_law_368 rfl (lv_at hl 0 rfl) ?_
  refine lv_iload_n hx hb dL_law_369 rfl (lv_at hl 3 rfl) ?_
  refine lv_iconst (v := nI 4) hx hb dL_law_370 (by decide) ?_
  refine iaddN (a := i) (b := 4) hx hb dL_law_371 ?_
  refine va_sld hx hb hX hbl hbA hS (vp_in_nI (show i + 4 < L by omega) (by omega)) dL_law_372 ?_
  refine topI (sc (i + 4)) (congrArg sc (nI_clamp (by omega))) ?_
  refine k_X9_mark (Wd := 1) md mdp mdl mdm mdi mdc mdt mds mdw mdh mdx mde mda mdb mdr (sc (i + 1)) (sc (i + 2)) (sc (i + 3)) (sc (i + 4)) fnd mn tn kn s1 s2 s3 mt an _ _ hmn ⟨hx, hb, hml, hown, hta⟩ mw850 ⟨Nat.le_of_ble_eq_true rfl, Nat.le_of_ble_eq_true rfl⟩ hK hP hD hS [24, 28] rfl rfl hl.1 (Nat.le_of_ble_eq_true rfl) dL_law_373 ⟨Nat.le_of_ble_eq_true rfl, Nat.le_of_ble_eq_true rfl⟩ (fun r2 mn2 xs2 ys2 hq2 H locs hP hS => ?_)
  have hP : va_P D vwCl (wA sb sh shl shn shi mk mx my th tc ea et es be pi piw pih pin po poc poa pob as_ asn cI fnd la le it mn1 xs1 ys1 tn cs kn kt ks bt ba b1 b2 b3 wd hg nb ra rb pa pb pm cst mA mB an tr ++ wB md mdl mdm mdi mdp mdc mdt mds mdw mdh mdx mde mda mdb mdr cI fnd mn2 tn kn s1 s2 s3 mt an ml mm mi (plOf xs2 ys2) cs kt ks wd hg nb cst mA mB tr) H := hP
  have hD : va_D (fun q : Nat => s.heap.size ≤ q) (wA sb sh shl shn shi mk mx my th tc ea et es be pi piw pih pin po poc poa pob as_ asn cI fnd la le it mn1 xs1 ys1 tn cs kn kt ks bt ba b1 b2 b3 wd hg nb ra rb pa pb pm cst mA mB an tr ++ wB md mdl mdm mdi mdp mdc mdt mds mdw mdh mdx mde mda mdb mdr cI fnd mn2 tn kn s1 s2 s3 mt an ml mm mi (plOf xs2 ys2) cs kt ks wd hg nb cst mA mB tr) := hD.same rfl
  have e9 := hq1.trans hq2.symm
  simp only [Prod.mk.injEq] at e9
  obtain ⟨e9_0, e9_1, e9_2, e9_3⟩ := e9
  subst e9_0
  subst e9_1
  subst e9_2
  subst e9_3
  obtain ⟨hmn, hcs, hxs, hys⟩ := mrk_inv hmn hxs hys hcs hq1
  have hP : va_P D vwCl (wA sb sh shl shn shi mk mx my th tc ea et es be pi piw pih pin po poc poa pob as_ asn cI fnd la le it mn1 xs1 ys1 tn cs kn kt ks bt ba b1 b2 b3 wd hg nb ra rb pa pb pm cst mA mB an tr ++ wB md mdl mdm mdi mdp mdc mdt mds mdw mdh mdx mde mda mdb mdr cI fnd (mn1) tn kn s1 s2 s3 mt an ml mm mi (plOf (xs1) (ys1)) cs kt ks wd hg nb cst mA mB tr) H := hP
  have hD : va_D (fun q : Nat => s.heap.size ≤ q) (wA sb sh shl shn shi mk mx my th tc ea et es be pi piw pih pin po poc poa pob as_ asn cI fnd la le it mn1 xs1 ys1 tn cs kn kt ks bt ba b1 b2 b3 wd hg nb ra rb pa pb pm cst mA mB an tr ++ wB md mdl mdm mdi mdp mdc mdt mds mdw mdh mdx mde mda mdb mdr cI fnd (mn1) tn kn s1 s2 s3 mt an ml mm mi (plOf (xs1) (ys1)) cs kt ks wd hg nb cst mA mB tr) := hD.same rfl
  refine icmpI_eq (tgt := 1227) hx hb dL_law_376 (by decide) (fun c9 => ?_) (fun c9 => absurd rfl c9)
  refine lv_iinc (v := nI (i + 6)) (lv' := [(3, .int (nI (i + 6))), (0, .ref b), (1, .ref sb), (2, .ref md)]) hx hb dL_law_1227 hl (k := 3) rfl (nI_inc6 _) (by decide) rfl (fun ls hl => ?_)
  refine lv_goto (tgt := 18) hx hb dL_law_1230 (by decide) ?_
  exact ih fnd la le it mn1 xs1 ys1 tn cs kn kt ks bt ba b1 b2 b3 wd hg nb ra rb pa pb pm cst mA mB an tr ml mm mi s1 s2 s3 mt ⟨hRS, hmn, htn, hkn, hcs, hxs, hys, hko, hpi, han⟩ H locs hP hS ls (lv_sub hl [1, 2, 3, 0] rfl)

set_option maxHeartbeats 4000000 in
set_option maxRecDepth 100000 in
theorem lawc_at {p : Program} {l : Launch} {e : Env} {s : State} {m : MethodId} {below : List Frame} {meth : Method} {c : Code} {D : va_G} {cI : ClassId} {b L : Nat} {sc : Nat → Int32} (sb sh shl shn shi mk mx my th tc ea et es be pi piw pih pin po poc poa pob as_ asn : Nat) (md mdl mdm mdi mdp mdc mdt mds mdw mdh mdx mde mda mdb mdr : Nat) (fnd : Int32) (la : Nat → Int32) (le : Nat → Int32) (it : Nat → Int32) (mn : Nat) (xs : Nat → Int32) (ys : Nat → Int32) (tn : Nat) (cs : Nat → Int32) (kn : Nat) (kt : Nat → Int32) (ks : Nat → Int32) (bt : Int32) (ba : Int64) (b1 : Int64) (b2 : Int64) (b3 : Int64) (wd : Nat → Int32) (hg : Nat → Int32) (nb : Nat → Int32) (ra : Nat) (rb : Nat) (pa : Nat) (pb : Nat) (pm : Nat) (cst : Nat → Int32) (mA : Nat → Int32) (mB : Nat → Int32) (an : Nat) (tr : Nat → Int32) (ml : Nat → Int32) (mm : Nat → Int32) (mi : Nat → Int32) (s1 : Int64) (s2 : Int64) (s3 : Int64) (mt : Nat) (hC : LC p s m meth c D cI b L sc) (hI : INV la le it mn xs ys tn cs kn kt ks wd hg an ml mm mi) (H : Heap) (locs : List Loc) (hP : va_P D vwCl (wA sb sh shl shn shi mk mx my th tc ea et es be pi piw pih pin po poc poa pob as_ asn cI fnd la le it mn xs ys tn cs kn kt ks bt ba b1 b2 b3 wd hg nb ra rb pa pb pm cst mA mB an tr ++ wB md mdl mdm mdi mdp mdc mdt mds mdw mdh mdx mde mda mdb mdr cI fnd mn tn kn s1 s2 s3 mt an ml mm mi (plOf xs ys) cs kt ks wd hg nb cst mA mB tr) H) (hD : va_D (fun q : Nat => s.heap.size ≤ q) (wA sb sh shl shn shi mk mx my th tc ea et es be pi piw pih pin po poc poa pob as_ asn cI fnd la le it mn xs ys tn cs kn kt ks bt ba b1 b2 b3 wd hg nb ra rb pa pb pm cst mA mB an tr ++ wB md mdl mdm mdi mdp mdc mdt mds mdw mdh mdx mde mda mdb mdr cI fnd mn tn kn s1 s2 s3 mt an ml mm mi (plOf xs ys) cs kt ks wd hg nb cst mA mB tr)) (hS : va_S (fun q : Nat => s.heap.size ≤ q) s.heap H locs) (i : Nat) (hi : i + 6 ≤ L) (ih : LH p l e s m below meth c D cI b sb sh shl shn shi mk mx my th tc ea et es be pi piw pih pin po poc poa pob as_ asn md mdl mdm mdi mdp mdc mdt mds mdw mdh mdx mde mda mdb mdr (i + 6)) (ls : Array Slot) (hl : lv_has ls 4 [(0, .ref b), (1, .ref sb), (2, .ref md), (3, .int (nI i))]) : W p l e room_1 s m #[Value.ref b] below meth c H locs 39 5353 (lw_Z below #[Value.ref b] s) (F0 m 434 ls []) := by
  obtain ⟨hx, hb, hr, hml, hown, hta, hX, hbl, hlocks, hK, hL⟩ := hC
  obtain ⟨hRS, hmn, htn, hkn, hcs, hxs, hys, hko, hpi, han⟩ := hI
  have hbA : ¬ (fun q : Nat => s.heap.size ≤ q) b := Nat.not_le.mpr hbl
  have hkt := KOK_ne hko
  have hsh := RS_SH hRS
  refine lv_aload_n hx hb dL_law_434 rfl (lv_at hl 1 rfl) ?_
  refine lv_aload_n hx hb dL_law_435 rfl (lv_at hl 0 rfl) ?_
  refine lv_iload_n hx hb dL_law_436 rfl (lv_at hl 3 rfl) ?_
  refine lv_iconst (v := nI 1) hx hb dL_law_437 (by decide) ?_
  refine iaddN (a := i) (b := 1) hx hb dL_law_438 ?_
  refine va_sld hx hb hX hbl hbA hS (vp_in_nI (show i + 1 < L by omega) (by omega)) dL_law_439 ?_
  refine topI (sc (i + 1)) (congrArg sc (nI_clamp (by omega))) ?_
  refine lv_aload_n hx hb dL_law_440 rfl (lv_at hl 0 rfl) ?_
  refine lv_iload_n hx hb dL_law_441 rfl (lv_at hl 3 rfl) ?_
  refine lv_iconst (v := nI 2) hx hb dL_law_442 (by decide) ?_
  refine iaddN (a := i) (b := 2) hx hb dL_law_443 ?_
  refine va_sld hx hb hX hbl hbA hS (vp_in_nI (show i + 2 < L by omega) (by omega)) dL_law_444 ?_
  refine topI (sc (i + 2)) (congrArg sc (nI_clamp (by omega))) ?_
  refine lv_aload_n hx hb dL_law_445 rfl (lv_at hl 0 rfl) ?_
  refine lv_iload_n hx hb dL_law_446 rfl (lv_at hl 3 rfl) ?_
  refine lv_iconst (v := nI 3) hx hb dL_law_447 (by decide) ?_
  refine iaddN (a := i) (b := 3) hx hb dL_law_448 ?_
  refine va_sld hx hb hX hbl hbA hS (vp_in_nI (show i + 3 < L by omega) (by omega)) dL_law_449 ?_
  refine topI (sc (i + 3)) (congrArg sc (nI_clamp (by omega))) ?_
  refine lv_aload_n hx hb dL_law_450 rfl (lv_at hl 0 rfl) ?_
  refine lv_iload_n hx hb dL_law_451 rfl (lv_at hl 3 rfl) ?_
  refine lv_iconst (v := nI 4) hx hb dL_law_452 (by decide) ?_
  refine iaddN (a := i) (b := 4) hx hb dL_law_453 ?_
  refine va_sld hx hb hX hbl hbA hS (vp_in_nI (show i + 4 < L by omega) (by omega)) dL_law_454 ?_
  refine topI (sc (i + 4)) (congrArg sc (nI_clamp (by omega))) ?_
  refine k_X8_at (Wd := 0) sb mk mx my sh th ea be pi po as_ (sc (i + 1)) (sc (i + 2)) (sc (i + 3)) (sc (i + 4)) fnd mn xs ys hmn ⟨hx, hb, hml, hown, hta⟩ mw354 ⟨Nat.le_of_ble_eq_true rfl, Nat.le_of_ble_eq_true rfl⟩ hK hP hD [0, 5, 6, 7] rfl rfl hl.1 (Nat.le_of_ble_eq_true rfl) dL_law_455 ⟨Nat.le_of_ble_eq_true rfl, Nat.le_of_ble_eq_true rfl⟩ ?_
  refine lv_aload_n hx hb dL_law_458 rfl (lv_at hl 2 rfl) ?_
  refine lv_aload_n hx hb dL_law_459 rfl (lv_at hl 0 rfl) ?_
  refine lv_iload_n hx hb dL_law_460 rfl (lv_at hl 3 rfl) ?_
  refine lv_iconst (v := nI 1) hx hb dL_law_461 (by decide) ?_
  refine iaddN (a := i) (b := 1) hx hb dL_law_462 ?_
  refine va_sld hx hb hX hbl hbA hS (vp_in_nI (show i + 1 < L by omega) (by omega)) dL_law_463 ?_
  refine topI (sc (i + 1)) (congrArg sc (nI_clamp (by omega))) ?_
  refine lv_aload_n hx hb dL_law_464 rfl (lv_at hl 0 rfl) ?_
  refine lv_iload_n hx hb dL_law_465 rfl (lv_at hl 3 rfl) ?_
  refine lv_iconst (v := nI 2) hx hb dL_law_466 (by decide) ?_
  refine iaddN (a := i) (b := 2) hx hb dL_law_467 ?_
  refine va_sld hx hb hX hbl hbA hS (vp_in_nI (show i + 2 < L by omega) (by omega)) dL_law_468 ?_
  refine topI (sc (i + 2)) (congrArg sc (nI_clamp (by omega))) ?_
  refine lv_aload_n hx hb dL_law_469 rfl (lv_at hl 0 rfl) ?_
  refine lv_iload_n hx hb dL_law_470 rfl (lv_at hl 3 rfl) ?_
  refine lv_iconst (v := nI 3) hx hb dL_law_471 (by decide) ?_
  refine iaddN (a := i) (b := 3) hx hb dL_law_472 ?_
  refine va_sld hx hb hX hbl hbA hS (vp_in_nI (show i + 3 < L by omega) (by omega)) dL_law_473 ?_
  refine topI (sc (i + 3)) (congrArg sc (nI_clamp (by omega))) ?_
  refine lv_aload_n hx hb dL_law_474 rfl (lv_at hl 0 rfl) ?_
  refine lv_iload_n hx hb dL_law_475 rfl (lv_at hl 3 rfl) ?_
  refine lv_iconst (v := nI 4) hx hb dL_law_476 (by decide) ?_
  refine iaddN (a := i) (b := 4) hx hb dL_law_477 ?_
  refine va_sld hx hb hX hbl hbA hS (vp_in_nI (show i + 4 < L by omega) (by omega)) dL_law_478 ?_
  refine topI (sc (i + 4)) (congrArg sc (nI_clamp (by omega))) ?_
  refine k_X9_at (Wd := 1) md mdp mdl mdm mdi mdc mdt mds mdw mdh mdx mde mda mdb mdr (sc (i + 1)) (sc (i + 2)) (sc (i + 3)) (sc (i + 4)) fnd mn tn kn s1 s2 s3 mt an _ _ hmn ⟨hx, hb, hml, hown, hta⟩ mw867 ⟨Nat.le_of_ble_eq_true rfl, Nat.le_of_ble_eq_true rfl⟩ hK hP hD hS [24, 28] rfl rfl hl.1 (Nat.le_of_ble_eq_true rfl) dL_law_479 ⟨Nat.le_of_ble_eq_true rfl, Nat.le_of_ble_eq_true rfl⟩ (fun H locs hP hS => ?_)
  have hP : va_P D vwCl (wA sb sh shl shn shi mk mx my th tc ea et es be pi piw pih pin po poc poa pob as_ asn cI fnd la le it mn xs ys tn cs kn kt ks bt ba b1 b2 b3 wd hg nb ra rb pa pb pm cst mA mB an tr ++ wB md mdl mdm mdi mdp mdc mdt mds mdw mdh mdx mde mda mdb mdr cI fnd mn tn kn s1 s2 s3 mt an ml mm mi (plOf xs ys) cs kt ks wd hg nb cst mA mB tr) H := hP
  have hD : va_D (fun q : Nat => s.heap.size ≤ q) (wA sb sh shl shn shi mk mx my th tc ea et es be pi piw pih pin po poc poa pob as_ asn cI fnd la le it mn xs ys tn cs kn kt ks bt ba b1 b2 b3 wd hg nb ra rb pa pb pm cst mA mB an tr ++ wB md mdl mdm mdi mdp mdc mdt mds mdw mdh mdx mde mda mdb mdr cI fnd mn tn kn s1 s2 s3 mt an ml mm mi (plOf xs ys) cs kt ks wd hg nb cst mA mB tr) := hD.same rfl
  refine icmpI_eq (tgt := 1227) hx hb dL_law_482 (by decide) (fun c9 => ?_) (fun c9 => absurd rfl c9)
  refine lv_iinc (v := nI (i + 6)) (lv' := [(3, .int (nI (i + 6))), (0, .ref b), (1, .ref sb), (2, .ref md)]) hx hb dL_law_1227 hl (k := 3) rfl (nI_inc6 _) (by decide) rfl (fun ls hl => ?_)
  refine lv_goto (tgt := 18) hx hb dL_law_1230 (by decide) ?_
  exact ih fnd la le it mn xs ys tn cs kn kt ks bt ba b1 b2 b3 wd hg nb ra rb pa pb pm cst mA mB an tr ml mm mi s1 s2 s3 mt ⟨hRS, hmn, htn, hkn, hcs, hxs, hys, hko, hpi, han⟩ H locs hP hS ls (lv_sub hl [1, 2, 3, 0] rfl)
