set_option maxHeartbeats 4000000 in
set_option maxRecDepth 100000 in
theorem lawc_sheet {p : Program} {l : Launch} {e : Env} {s : State} {m : MethodId} {below : List Frame} {meth : Method} {c : Code} {D : va_G} {cI : ClassId} {b L : Nat} {sc : Nat → Int32} (sb sh shl shn shi mk mx my th tc ea et es be pi piw pih pin po poc poa pob as_ asn : Nat) (md mdl mdm mdi mdp mdc mdt mds mdw mdh mdx mde mda mdb mdr : Nat) (fnd : Int32) (la : Nat → Int32) (le : Nat → Int32) (it : Nat → Int32) (mn : Nat) (xs : Nat → Int32) (ys : Nat → Int32) (tn : Nat) (cs : Nat → Int32) (kn : Nat) (kt : Nat → Int32) (ks : Nat → Int32) (bt : Int32) (ba : Int64) (b1 : Int64) (b2 : Int64) (b3 : Int64) (wd : Nat → Int32) (hg : Nat → Int32) (nb : Nat → Int32) (ra : Nat) (rb : Nat) (pa : Nat) (pb : Nat) (pm : Nat) (cst : Nat → Int32) (mA : Nat → Int32) (mB : Nat → Int32) (an : Nat) (tr : Nat → Int32) (ml : Nat → Int32) (mm : Nat → Int32) (mi : Nat → Int32) (s1 : Int64) (s2 : Int64) (s3 : Int64) (mt : Nat) (hC : LC p s m meth c D cI b L sc) (hI : INV la le it mn xs ys tn cs kn kt ks wd hg an ml mm mi) (H : Heap) (locs : List Loc) (hP : va_P D vwCl (wA sb sh shl shn shi mk mx my th tc ea et es be pi piw pih pin po poc poa pob as_ asn cI fnd la le it mn xs ys tn cs kn kt ks bt ba b1 b2 b3 wd hg nb ra rb pa pb pm cst mA mB an tr ++ wB md mdl mdm mdi mdp mdc mdt mds mdw mdh mdx mde mda mdb mdr cI fnd mn tn kn s1 s2 s3 mt an ml mm mi (plOf xs ys) cs kt ks wd hg nb cst mA mB tr) H) (hD : va_D (fun q : Nat => s.heap.size ≤ q) (wA sb sh shl shn shi mk mx my th tc ea et es be pi piw pih pin po poc poa pob as_ asn cI fnd la le it mn xs ys tn cs kn kt ks bt ba b1 b2 b3 wd hg nb ra rb pa pb pm cst mA mB an tr ++ wB md mdl mdm mdi mdp mdc mdt mds mdw mdh mdx mde mda mdb mdr cI fnd mn tn kn s1 s2 s3 mt an ml mm mi (plOf xs ys) cs kt ks wd hg nb cst mA mB tr)) (hS : va_S (fun q : Nat => s.heap.size ≤ q) s.heap H locs) (i : Nat) (hi : i + 6 ≤ L) (ih : LH p l e s m below meth c D cI b sb sh shl shn shi mk mx my th tc ea et es be pi piw pih pin po poc poa pob as_ asn md mdl mdm mdi mdp mdc mdt mds mdw mdh mdx mde mda mdb mdr (i + 6)) (ls : Array Slot) (hl : lv_has ls 4 [(0, .ref b), (1, .ref sb), (2, .ref md), (3, .int (nI i))]) : W p l e room_1 s m #[Value.ref b] below meth c H locs 39 5353 (lw_Z below #[Value.ref b] s) (F0 m 156 ls []) := by
  obtain ⟨hx, hb, hr, hml, hown, hta, hX, hbl, hlocks, hK, hL⟩ := hC
  obtain ⟨hRS, hmn, htn, hkn, hcs, hxs, hys, hko, hpi, han⟩ := hI
  have hbA : ¬ (fun q : Nat => s.heap.size ≤ q) b := Nat.not_le.mpr hbl
  have hkt := KOK_ne hko
  have hsh := RS_SH hRS
  refine lv_aload_n hx hb dL_law_156 rfl (lv_at hl 1 rfl) ?_
  refine lv_aload_n hx hb dL_law_157 rfl (lv_at hl 0 rfl) ?_
  refine lv_iload_n hx hb dL_law_158 rfl (lv_at hl 3 rfl) ?_
  refine lv_iconst (v := nI 1) hx hb dL_law_159 (by decide) ?_
  refine iaddN (a := i) (b := 1) hx hb dL_law_160 ?_
  refine va_sld hx hb hX hbl hbA hS (vp_in_nI (show i + 1 < L by omega) (by omega)) dL_law_161 ?_
  refine topI (sc (i + 1)) (congrArg sc (nI_clamp (by omega))) ?_
  refine lv_aload_n hx hb dL_law_162 rfl (lv_at hl 0 rfl) ?_
  refine lv_iload_n hx hb dL_law_163 rfl (lv_at hl 3 rfl) ?_
  refine lv_iconst (v := nI 2) hx hb dL_law_164 (by decide) ?_
  refine iaddN (a := i) (b := 2) hx hb dL_law_165 ?_
  refine va_sld hx hb hX hbl hbA hS (vp_in_nI (show i + 2 < L by omega) (by omega)) dL_law_166 ?_
  refine topI (sc (i + 2)) (congrArg sc (nI_clamp (by omega))) ?_
  refine lv_aload_n hx hb dL_law_167 rfl (lv_at hl 0 rfl) ?_
  refine lv_iload_n hx hb dL_law_168 rfl (lv_at hl 3 rfl) ?_
  refine lv_iconst (v := nI 3) hx hb dL_law_169 (by decide) ?_
  refine iaddN (a := i) (b := 3) hx hb dL_law_170 ?_
  refine va_sld hx hb hX hbl hbA hS (vp_in_nI (show i + 3 < L by omega) (by omega)) dL_law_171 ?_
  refine topI (sc (i + 3)) (congrArg sc (nI_clamp (by omega))) ?_
  refine k_X8_sheet (Wd := 0) sb sh shl shn shi mk th ea be pi po as_ (sc (i + 1)) (sc (i + 2)) (sc (i + 3)) fnd la le it  ⟨hx, hb, hml, hown, hta⟩ mw248 ⟨Nat.le_of_ble_eq_true rfl, Nat.le_of_ble_eq_true rfl⟩ hK hP hD hS [0, 1, 2, 3, 4] rfl rfl hl.1 (Nat.le_of_ble_eq_true rfl) dL_law_172 ⟨Nat.le_of_ble_eq_true rfl, Nat.le_of_ble_eq_true rfl⟩ (fun r1 f1 la1 le1 it1 hq1 H locs hP hS => ?_)
  have hP : va_P D vwCl (wA sb sh shl shn shi mk mx my th tc ea et es be pi piw pih pin po poc poa pob as_ asn cI f1 la1 le1 it1 mn xs ys tn cs kn kt ks bt ba b1 b2 b3 wd hg nb ra rb pa pb pm cst mA mB an tr ++ wB md mdl mdm mdi mdp mdc mdt mds mdw mdh mdx mde mda mdb mdr cI fnd mn tn kn s1 s2 s3 mt an ml mm mi (plOf xs ys) cs kt ks wd hg nb cst mA mB tr) H := hP
  have hD : va_D (fun q : Nat => s.heap.size ≤ q) (wA sb sh shl shn shi mk mx my th tc ea et es be pi piw pih pin po poc poa pob as_ asn cI f1 la1 le1 it1 mn xs ys tn cs kn kt ks bt ba b1 b2 b3 wd hg nb ra rb pa pb pm cst mA mB an tr ++ wB md mdl mdm mdi mdp mdc mdt mds mdw mdh mdx mde mda mdb mdr cI fnd mn tn kn s1 s2 s3 mt an ml mm mi (plOf xs ys) cs kt ks wd hg nb cst mA mB tr) := hD.same rfl
  refine lv_aload_n hx hb dL_law_175 rfl (lv_at hl 2 rfl) ?_
  refine lv_aload_n hx hb dL_law_176 rfl (lv_at hl 0 rfl) ?_
  refine lv_iload_n hx hb dL_law_177 rfl (lv_at hl 3 rfl) ?_
  refine lv_iconst (v := nI 1) hx hb dL_law_178 (by decide) ?_
  refine iaddN (a := i) (b := 1) hx hb dL_law_179 ?_
  refine va_sld hx hb hX hbl hbA hS (vp_in_nI (show i + 1 < L by omega) (by omega)) dL_law_180 ?_
  refine topI (sc (i + 1)) (congrArg sc (nI_clamp (by omega))) ?_
  refine lv_aload_n hx hb dL_law_181 rfl (lv_at hl 0 rfl) ?_
  refine lv_iload_n hx hb dL_law_182 rfl (lv_at hl 3 rfl) ?_
  refine lv_iconst (v := nI 2) hx hb dL_law_183 (by decide) ?_
  refine iaddN (a := i) (b := 2) hx hb dL_law_184 ?_
  refine va_sld hx hb hX hbl hbA hS (vp_in_nI (show i + 2 < L by omega) (by omega)) dL_law_185 ?_
  refine topI (sc (i + 2)) (congrArg sc (nI_clamp (by omega))) ?_
  refine lv_aload_n hx hb dL_law_186 rfl (lv_at hl 0 rfl) ?_
  refine lv_iload_n hx hb dL_law_187 rfl (lv_at hl 3 rfl) ?_
  refine lv_iconst (v := nI 3) hx hb dL_law_188 (by decide) ?_
  refine iaddN (a := i) (b := 3) hx hb dL_law_189 ?_
  refine va_sld hx hb hX hbl hbA hS (vp_in_nI (show i + 3 < L by omega) (by omega)) dL_law_190 ?_
  refine topI (sc (i + 3)) (congrArg sc (nI_clamp (by omega))) ?_
  refine k_X9_sheet (Wd := 1) md mdl mdm mdi mdp mdc mdt mds mdw mdh mdx mde mda mdb mdr (sc (i + 1)) (sc (i + 2)) (sc (i + 3)) fnd mn tn kn s1 s2 s3 mt an ml mm mi _ _ _ hRS ⟨hx, hb, hml, hown, hta⟩ mw820 ⟨Nat.le_of_ble_eq_true rfl, Nat.le_of_ble_eq_true rfl⟩ hK hP hD hS [24, 25, 26, 27] rfl rfl hl.1 (Nat.le_of_ble_eq_true rfl) dL_law_191 ⟨Nat.le_of_ble_eq_true rfl, Nat.le_of_ble_eq_true rfl⟩ (fun r2 f2 ml2 mm2 mi2 hr2 hf2 hRS2 H locs hP hS => ?_)
  have hP : va_P D vwCl (wA sb sh shl shn shi mk mx my th tc ea et es be pi piw pih pin po poc poa pob as_ asn cI f1 la1 le1 it1 mn xs ys tn cs kn kt ks bt ba b1 b2 b3 wd hg nb ra rb pa pb pm cst mA mB an tr ++ wB md mdl mdm mdi mdp mdc mdt mds mdw mdh mdx mde mda mdb mdr cI f2 mn tn kn s1 s2 s3 mt an ml2 mm2 mi2 (plOf xs ys) cs kt ks wd hg nb cst mA mB tr) H := hP
  have hD : va_D (fun q : Nat => s.heap.size ≤ q) (wA sb sh shl shn shi mk mx my th tc ea et es be pi piw pih pin po poc poa pob as_ asn cI f1 la1 le1 it1 mn xs ys tn cs kn kt ks bt ba b1 b2 b3 wd hg nb ra rb pa pb pm cst mA mB an tr ++ wB md mdl mdm mdi mdp mdc mdt mds mdw mdh mdx mde mda mdb mdr cI f2 mn tn kn s1 s2 s3 mt an ml2 mm2 mi2 (plOf xs ys) cs kt ks wd hg nb cst mA mB tr) := hD.same rfl
  rw [← hq1] at hr2 hf2 hRS2
  have e9 : r1 = r2 := hr2.symm
  have e8 : f1 = f2 := hf2.symm
  subst e9
  subst e8
  have hRS : RS la1 le1 it1 ml2 mm2 mi2 := hRS2
  have hP : va_P D vwCl (wA sb sh shl shn shi mk mx my th tc ea et es be pi piw pih pin po poc poa pob as_ asn cI f1 la1 le1 it1 mn xs ys tn cs kn kt ks bt ba b1 b2 b3 wd hg nb ra rb pa pb pm cst mA mB an tr ++ wB md mdl mdm mdi mdp mdc mdt mds mdw mdh mdx mde mda mdb mdr cI (f1) mn tn kn s1 s2 s3 mt an ml2 mm2 mi2 (plOf xs ys) cs kt ks wd hg nb cst mA mB tr) H := hP
  have hD : va_D (fun q : Nat => s.heap.size ≤ q) (wA sb sh shl shn shi mk mx my th tc ea et es be pi piw pih pin po poc poa pob as_ asn cI f1 la1 le1 it1 mn xs ys tn cs kn kt ks bt ba b1 b2 b3 wd hg nb ra rb pa pb pm cst mA mB an tr ++ wB md mdl mdm mdi mdp mdc mdt mds mdw mdh mdx mde mda mdb mdr cI (f1) mn tn kn s1 s2 s3 mt an ml2 mm2 mi2 (plOf xs ys) cs kt ks wd hg nb cst mA mB tr) := hD.same rfl
  refine icmpI_eq (tgt := 1227) hx hb dL_law_194 (by decide) (fun c9 => ?_) (fun c9 => absurd rfl c9)
  refine lv_iinc (v := nI (i + 6)) (lv' := [(3, .int (nI (i + 6))), (0, .ref b), (1, .ref sb), (2, .ref md)]) hx hb dL_law_1227 hl (k := 3) rfl (nI_inc6 _) (by decide) rfl (fun ls hl => ?_)
  refine lv_goto (tgt := 18) hx hb dL_law_1230 (by decide) ?_
  exact ih f1 la1 le1 it1 mn xs ys tn cs kn kt ks bt ba b1 b2 b3 wd hg nb ra rb pa pb pm cst mA mB an tr ml2 mm2 mi2 s1 s2 s3 mt ⟨hRS, hmn, htn, hkn, hcs, hxs, hys, hko, hpi, han⟩ H locs hP hS ls (lv_sub hl [1, 2, 3, 0] rfl)

set_option maxHeartbeats 4000000 in
set_option maxRecDepth 100000 in
theorem lawc_set {p : Program} {l : Launch} {e : Env} {s : State} {m : MethodId} {below : List Frame} {meth : Method} {c : Code} {D : va_G} {cI : ClassId} {b L : Nat} {sc : Nat → Int32} (sb sh shl shn shi mk mx my th tc ea et es be pi piw pih pin po poc poa pob as_ asn : Nat) (md mdl mdm mdi mdp mdc mdt mds mdw mdh mdx mde mda mdb mdr : Nat) (fnd : Int32) (la : Nat → Int32) (le : Nat → Int32) (it : Nat → Int32) (mn : Nat) (xs : Nat → Int32) (ys : Nat → Int32) (tn : Nat) (cs : Nat → Int32) (kn : Nat) (kt : Nat → Int32) (ks : Nat → Int32) (bt : Int32) (ba : Int64) (b1 : Int64) (b2 : Int64) (b3 : Int64) (wd : Nat → Int32) (hg : Nat → Int32) (nb : Nat → Int32) (ra : Nat) (rb : Nat) (pa : Nat) (pb : Nat) (pm : Nat) (cst : Nat → Int32) (mA : Nat → Int32) (mB : Nat → Int32) (an : Nat) (tr : Nat → Int32) (ml : Nat → Int32) (mm : Nat → Int32) (mi : Nat → Int32) (s1 : Int64) (s2 : Int64) (s3 : Int64) (mt : Nat) (hC : LC p s m meth c D cI b L sc) (hI : INV la le it mn xs ys tn cs kn kt ks wd hg an ml mm mi) (H : Heap) (locs : List Loc) (hP : va_P D vwCl (wA sb sh shl shn shi mk mx my th tc ea et es be pi piw pih pin po poc poa pob as_ asn cI fnd la le it mn xs ys tn cs kn kt ks bt ba b1 b2 b3 wd hg nb ra rb pa pb pm cst mA mB an tr ++ wB md mdl mdm mdi mdp mdc mdt mds mdw mdh mdx mde mda mdb mdr cI fnd mn tn kn s1 s2 s3 mt an ml mm mi (plOf xs ys) cs kt ks wd hg nb cst mA mB tr) H) (hD : va_D (fun q : Nat => s.heap.size ≤ q) (wA sb sh shl shn shi mk mx my th tc ea et es be pi piw pih pin po poc poa pob as_ asn cI fnd la le it mn xs ys tn cs kn kt ks bt ba b1 b2 b3 wd hg nb ra rb pa pb pm cst mA mB an tr ++ wB md mdl mdm mdi mdp mdc mdt mds mdw mdh mdx mde mda mdb mdr cI fnd mn tn kn s1 s2 s3 mt an ml mm mi (plOf xs ys) cs kt ks wd hg nb cst mA mB tr)) (hS : va_S (fun q : Nat => s.heap.size ≤ q) s.heap H locs) (i : Nat) (hi : i + 6 ≤ L) (ih : LH p l e s m below meth c D cI b sb sh shl shn shi mk mx my th tc ea et es be pi piw pih pin po poc poa pob as_ asn md mdl mdm mdi mdp mdc mdt mds mdw mdh mdx mde mda mdb mdr (i + 6)) (ls : Array Slot) (hl : lv_has ls 4 [(0, .ref b), (1, .ref sb), (2, .ref md), (3, .int (nI i))]) : W p l e room_1 s m #[Value.ref b] below meth c H locs 39 5353 (lw_Z below #[Value.ref b] s) (F0 m 199 ls []) := by
  obtain ⟨hx, hb, hr, hml, hown, hta, hX, hbl, hlocks, hK, hL⟩ := hC
  obtain ⟨hRS, hmn, htn, hkn, hcs, hxs, hys, hko, hpi, han⟩ := hI
  have hbA : ¬ (fun q : Nat => s.heap.size ≤ q) b := Nat.not_le.mpr hbl
  have hkt := KOK_ne hko
  have hsh := RS_SH hRS
  refine lv_aload_n hx hb dL_law_199 rfl (lv_at hl 1 rfl) ?_
  refine lv_aload_n hx hb dL_law_200 rfl (lv_at hl 0 rfl) ?_
  refine lv_iload_n hx hb dL_law_201 rfl (lv_at hl 3 rfl) ?_
  refine lv_iconst (v := nI 1) hx hb dL_law_202 (by decide) ?_
  refine iaddN (a := i) (b := 1) hx hb dL_law_203 ?_
  refine va_sld hx hb hX hbl hbA hS (vp_in_nI (show i + 1 < L by omega) (by omega)) dL_law_204 ?_
  refine topI (sc (i + 1)) (congrArg sc (nI_clamp (by omega))) ?_
  refine lv_aload_n hx hb dL_law_205 rfl (lv_at hl 0 rfl) ?_
  refine lv_iload_n hx hb dL_law_206 rfl (lv_at hl 3 rfl) ?_
  refine lv_iconst (v := nI 2) hx hb dL_law_207 (by decide) ?_
  refine iaddN (a := i) (b := 2) hx hb dL_law_208 ?_
  refine va_sld hx hb hX hbl hbA hS (vp_in_nI (show i + 2 < L by omega) (by omega)) dL_law_209 ?_
  refine topI (sc (i + 2)) (congrArg sc (nI_clamp (by omega))) ?_
  refine lv_aload_n hx hb dL_law_210 rfl (lv_at hl 0 rfl) ?_
  refine lv_iload_n hx hb dL_law_211 rfl (lv_at hl 3 rfl) ?_
  refine lv_iconst (v := nI 3) hx hb dL_law_212 (by decide) ?_
  refine iaddN (a := i) (b := 3) hx hb dL_law_213 ?_
  refine va_sld hx hb hX hbl hbA hS (vp_in_nI (show i + 3 < L by omega) (by omega)) dL_law_214 ?_
  refine topI (sc (i + 3)) (congrArg sc (nI_clamp (by omega))) ?_
  refine k_X8_set (Wd := 0) sb sh shl shn shi mk th ea be pi po as_ (sc (i + 1)) (sc (i + 2)) (sc (i + 3)) fnd la le it hsh ⟨hx, hb, hml, hown, hta⟩ mw275 ⟨Nat.le_of_ble_eq_true rfl, Nat.le_of_ble_eq_true rfl⟩ hK hP hD hS [0, 1, 2, 3, 4] rfl rfl hl.1 (Nat.le_of_ble_eq_true rfl) dL_law_215 ⟨Nat.le_of_ble_eq_true rfl, Nat.le_of_ble_eq_true rfl⟩ (fun r1 f1 it1 hq1 H locs hP hS => ?_)
  have hP : va_P D vwCl (wA sb sh shl shn shi mk mx my th tc ea et es be pi piw pih pin po poc poa pob as_ asn cI f1 la le it1 mn xs ys tn cs kn kt ks bt ba b1 b2 b3 wd hg nb ra rb pa pb pm cst mA mB an tr ++ wB md mdl mdm mdi mdp mdc mdt mds mdw mdh mdx mde mda mdb mdr cI fnd mn tn kn s1 s2 s3 mt an ml mm mi (plOf xs ys) cs kt ks wd hg nb cst mA mB tr) H := hP
  have hD : va_D (fun q : Nat => s.heap.size ≤ q) (wA sb sh shl shn shi mk mx my th tc ea et es be pi piw pih pin po poc poa pob as_ asn cI f1 la le it1 mn xs ys tn cs kn kt ks bt ba b1 b2 b3 wd hg nb ra rb pa pb pm cst mA mB an tr ++ wB md mdl mdm mdi mdp mdc mdt mds mdw mdh mdx mde mda mdb mdr cI fnd mn tn kn s1 s2 s3 mt an ml mm mi (plOf xs ys) cs kt ks wd hg nb cst mA mB tr) := hD.same rfl
  refine lv_aload_n hx hb dL_law_218 rfl (lv_at hl 2 rfl) ?_
  refine lv_aload_n hx hb dL_law_219 rfl (lv_at hl 0 rfl) ?_
  refine lv_iload_n hx hb dL_law_220 rfl (lv_at hl 3 rfl) ?_
  refine lv_iconst (v := nI 1) hx hb dL_law_221 (by decide) ?_
  refine iaddN (a := i) (b := 1) hx hb dL_law_222 ?_
  refine va_sld hx hb hX hbl hbA hS (vp_in_nI (show i + 1 < L by omega) (by omega)) dL_law_223 ?_
  refine topI (sc (i + 1)) (congrArg sc (nI_clamp (by omega))) ?_
  refine lv_aload_n hx hb dL_law_224 rfl (lv_at hl 0 rfl) ?_
  refine lv_iload_n hx hb dL_law_225 rfl (lv_at hl 3 rfl) ?_
  refine lv_iconst (v := nI 2) hx hb dL_law_226 (by decide) ?_
  refine iaddN (a := i) (b := 2) hx hb dL_law_227 ?_
  refine va_sld hx hb hX hbl hbA hS (vp_in_nI (show i + 2 < L by omega) (by omega)) dL_law_228 ?_
  refine topI (sc (i + 2)) (congrArg sc (nI_clamp (by omega))) ?_
  refine lv_aload_n hx hb dL_law_229 rfl (lv_at hl 0 rfl) ?_
  refine lv_iload_n hx hb dL_law_230 rfl (lv_at hl 3 rfl) ?_
  refine lv_iconst (v := nI 3) hx hb dL_law_231 (by decide) ?_
  refine iaddN (a := i) (b := 3) hx hb dL_law_232 ?_
  refine va_sld hx hb hX hbl hbA hS (vp_in_nI (show i + 3 < L by omega) (by omega)) dL_law_233 ?_
  refine topI (sc (i + 3)) (congrArg sc (nI_clamp (by omega))) ?_
  refine k_X9_set (Wd := 1) md mdl mdm mdi mdp mdc mdt mds mdw mdh mdx mde mda mdb mdr (sc (i + 1)) (sc (i + 2)) (sc (i + 3)) fnd mn tn kn s1 s2 s3 mt an ml mm mi _ _ _ hRS ⟨hx, hb, hml, hown, hta⟩ mw838 ⟨Nat.le_of_ble_eq_true rfl, Nat.le_of_ble_eq_true rfl⟩ hK hP hD hS [24, 25, 26, 27] rfl rfl hl.1 (Nat.le_of_ble_eq_true rfl) dL_law_234 ⟨Nat.le_of_ble_eq_true rfl, Nat.le_of_ble_eq_true rfl⟩ (fun r2 f2 mi2 hr2 hf2 hRS2 H locs hP hS => ?_)
  have hP : va_P D vwCl (wA sb sh shl shn shi mk mx my th tc ea et es be pi piw pih pin po poc poa pob as_ asn cI f1 la le it1 mn xs ys tn cs kn kt ks bt ba b1 b2 b3 wd hg nb ra rb pa pb pm cst mA mB an tr ++ wB md mdl mdm mdi mdp mdc mdt mds mdw mdh mdx mde mda mdb mdr cI f2 mn tn kn s1 s2 s3 mt an ml mm mi2 (plOf xs ys) cs kt ks wd hg nb cst mA mB tr) H := hP
  have hD : va_D (fun q : Nat => s.heap.size ≤ q) (wA sb sh shl shn shi mk mx my th tc ea et es be pi piw pih pin po poc poa pob as_ asn cI f1 la le it1 mn xs ys tn cs kn kt ks bt ba b1 b2 b3 wd hg nb ra rb pa pb pm cst mA mB an tr ++ wB md mdl mdm mdi mdp mdc mdt mds mdw mdh mdx mde mda mdb mdr cI f2 mn tn kn s1 s2 s3 mt an ml mm mi2 (plOf xs ys) cs kt ks wd hg nb cst mA mB tr) := hD.same rfl
  rw [← hq1] at hr2 hf2 hRS2
  have e9 : r1 = r2 := hr2.symm
  have e8 : f1 = f2 := hf2.symm
  subst e9
  subst e8
  have hRS : RS la le it1 ml mm mi2 := hRS2
  have hP : va_P D vwCl (wA sb sh shl shn shi mk mx my th tc ea et es be pi piw pih pin po poc poa pob as_ asn cI f1 la le it1 mn xs ys tn cs kn kt ks bt ba b1 b2 b3 wd hg nb ra rb pa pb pm cst mA mB an tr ++ wB md mdl mdm mdi mdp mdc mdt mds mdw mdh mdx mde mda mdb mdr cI (f1) mn tn kn s1 s2 s3 mt an ml mm mi2 (plOf xs ys) cs kt ks wd hg nb cst mA mB tr) H := hP
  have hD : va_D (fun q : Nat => s.heap.size ≤ q) (wA sb sh shl shn shi mk mx my th tc ea et es be pi piw pih pin po poc poa pob as_ asn cI f1 la le it1 mn xs ys tn cs kn kt ks bt ba b1 b2 b3 wd hg nb ra rb pa pb pm cst mA mB an tr ++ wB md mdl mdm mdi mdp mdc mdt mds mdw mdh mdx mde mda mdb mdr cI (f1) mn tn kn s1 s2 s3 mt an ml mm mi2 (plOf xs ys) cs kt ks wd hg nb cst mA mB tr) := hD.same rfl
  refine icmpI_eq (tgt := 1227) hx hb dL_law_237 (by decide) (fun c9 => ?_) (fun c9 => absurd rfl c9)
  refine lv_iinc (v := nI (i + 6)) (lv' := [(3, .int (nI (i + 6))), (0, .ref b), (1, .ref sb), (2, .ref md)]) hx hb dL_law_1227 hl (k := 3) rfl (nI_inc6 _) (by decide) rfl (fun ls hl => ?_)
  refine lv_goto (tgt := 18) hx hb dL_law_1230 (by decide) ?_
  exact ih f1 la le it1 mn xs ys tn cs kn kt ks bt ba b1 b2 b3 wd hg nb ra rb pa pb pm cst mA mB an tr ml mm mi2 s1 s2 s3 mt ⟨hRS, hmn, htn, hkn, hcs, hxs, hys, hko, hpi, han⟩ H locs hP hS ls (lv_sub hl [1, 2, 3, 0] rfl)

set_option maxHeartbeats 4000000 in
set_option maxRecDepth 100000 in
theorem lawc_copy {p : Program} {l : Launch} {e : Env} {s : State} {m : MethodId} {below : List Frame} {meth : Method} {c : Code} {D : va_G} {cI : ClassId} {b L : Nat} {sc : Nat → Int32} (sb sh shl shn shi mk mx my th tc ea et es be pi piw pih pin po poc poa pob as_ asn : Nat) (md mdl mdm mdi mdp mdc mdt mds mdw mdh mdx mde mda mdb mdr : Nat) (fnd : Int32) (la : Nat → Int32) (le : Nat → Int32) (it : Nat → Int32) (mn : Nat) (xs : Nat → Int32) (ys : Nat → Int32) (tn : Nat) (cs : Nat → Int32) (kn : Nat) (kt : Nat → Int32) (ks : Nat → Int32) (bt : Int32) (ba : Int64) (b1 : Int64) (b2 : Int64) (b3 : Int64) (wd : Nat → Int32) (hg : Nat → Int32) (nb : Nat → Int32) (ra : Nat) (rb : Nat) (pa : Nat) (pb : Nat) (pm : Nat) (cst : Nat → Int32) (mA : Nat → Int32) (mB : Nat → Int32) (an : Nat) (tr : Nat → Int32) (ml : Nat → Int32) (mm : Nat → Int32) (mi : Nat → Int32) (s1 : Int64) (s2 : Int64) (s3 : Int64) (mt : Nat) (hC : LC p s m meth c D cI b L sc) (hI : INV la le it mn xs ys tn cs kn kt ks wd hg an ml mm mi) (H : Heap) (locs : List Loc) (hP : va_P D vwCl (wA sb sh shl shn shi mk mx my th tc ea et es be pi piw pih pin po poc poa pob as_ asn cI fnd la le it mn xs ys tn cs kn kt ks bt ba b1 b2 b3 wd hg nb ra rb pa pb pm cst mA mB an tr ++ wB md mdl mdm mdi mdp mdc mdt mds mdw mdh mdx mde mda mdb mdr cI fnd mn tn kn s1 s2 s3 mt an ml mm mi (plOf xs ys) cs kt ks wd hg nb cst mA mB tr) H) (hD : va_D (fun q : Nat => s.heap.size ≤ q) (wA sb sh shl shn shi mk mx my th tc ea et es be pi piw pih pin po poc poa pob as_ asn cI fnd la le it mn xs ys tn cs kn kt ks bt ba b1 b2 b3 wd hg nb ra rb pa pb pm cst mA mB an tr ++ wB md mdl mdm mdi mdp mdc mdt mds mdw mdh mdx mde mda mdb mdr cI fnd mn tn kn s1 s2 s3 mt an ml mm mi (plOf xs ys) cs kt ks wd hg nb cst mA mB tr)) (hS : va_S (fun q : Nat => s.heap.size ≤ q) s.heap H locs) (i : Nat) (hi : i + 6 ≤ L) (ih : LH p l e s m below meth c D cI b sb sh shl shn shi mk mx my th tc ea et es be pi piw pih pin po poc poa pob as_ asn md mdl mdm mdi mdp mdc mdt mds mdw mdh mdx mde mda mdb mdr (i + 6)) (ls : Array Slot) (hl : lv_has ls 4 [(0, .ref b), (1, .ref sb), (2, .ref md), (3, .int (nI i))]) : W p l e room_1 s m #[Value.ref b] below meth c H locs 39 5353 (lw_Z below #[Value.ref b] s) (F0 m 242 ls []) := by
  obtain ⟨hx, hb, hr, hml, hown, hta, hX, hbl, hlocks, hK, hL⟩ := hC
  obtain ⟨hRS, hmn, htn, hkn, hcs, hxs, hys, hko, hpi, han⟩ := hI
  have hbA : ¬ (fun q : Nat => s.heap.size ≤ q) b := Nat.not_le.mpr hbl
  have hkt := KOK_ne hko
  have hsh := RS_SH hRS
  refine lv_aload_n hx hb dL_law_242 rfl (lv_at hl 1 rfl) ?_
  refine lv_aload_n hx hb dL_law_243 rfl (lv_at hl 0 rfl) ?_
  refine lv_iload_n hx hb dL_law_244 rfl (lv_at hl 3 rfl) ?_
  refine lv_iconst (v := nI 1) hx hb dL_law_245 (by decide) ?_
  refine iaddN (a := i) (b := 1) hx hb dL_law_246 ?_
  refine va_sld hx hb hX hbl hbA hS (vp_in_nI (show i + 1 < L by omega) (by omega)) dL_law_247 ?_
  refine topI (sc (i + 1)) (congrArg sc (nI_clamp (by omega))) ?_
  refine lv_aload_n hx hb dL_law_248 rfl (lv_at hl 0 rfl) ?_
  refine lv_iload_n hx hb dL_law_249 rfl (lv_at hl 3 rfl) ?_
  refine lv_iconst (v := nI 2) hx hb dL_law_250 (by decide) ?_
  refine iaddN (a := i) (b := 2) hx hb dL_law_251 ?_
  refine va_sld hx hb hX hbl hbA hS (vp_in_nI (show i + 2 < L by omega) (by omega)) dL_law_252 ?_
  refine topI (sc (i + 2)) (congrArg sc (nI_clamp (by omega))) ?_
  refine lv_aload_n hx hb dL_law_253 rfl (lv_at hl 0 rfl) ?_
  refine lv_iload_n hx hb dL_law_254 rfl (lv_at hl 3 rfl) ?_
  refine lv_iconst (v := nI 3) hx hb dL_law_255 (by decide) ?_
  refine iaddN (a := i) (b := 3) hx hb dL_law_256 ?_
  refine va_sld hx hb hX hbl hbA hS (vp_in_nI (show i + 3 < L by omega) (by omega)) dL_law_257 ?_
  refine topI (sc (i + 3)) (congrArg sc (nI_clamp (by omega))) ?_
  refine lv_aload_n hx hb dL_law_258 rfl (lv_at hl 0 rfl) ?_
  refine lv_iload_n hx hb dL_law_259 rfl (lv_at hl 3 rfl) ?_
  refine lv_iconst (v := nI 4) hx hb dL_law_260 (by decide) ?_
  refine iaddN (a := i) (b := 4) hx hb dL_law_261 ?_
  refine va_sld hx hb hX hbl hbA hS (vp_in_nI (show i + 4 < L by omega) (by omega)) dL_law_262 ?_
  refine topI (sc (i + 4)) (congrArg sc (nI_clamp (by omega))) ?_
  refine lv_aload_n hx hb dL_law_263 rfl (lv_at hl 0 rfl) ?_
  refine lv_iload_n hx hb dL_law_264 rfl (lv_at hl 3 rfl) ?_
  refine lv_iconst (v := nI 5) hx hb dL_law_265 (by decide) ?_
  refine iaddN (a := i) (b := 5) hx hb dL_law_266 ?_
  refine va_sld hx hb hX hbl hbA hS (vp_in_nI (show i + 5 < L by omega) (by omega)) dL_law_267 ?_
  refine topI (sc (i + 5)) (congrArg sc (nI_clamp (by omega))) ?_
  refine k_X8_copy (Wd := 0) sb sh shl shn shi mk th ea be pi po as_ (sc (i + 1)) (sc (i + 2)) (sc (i + 3)) (sc (i + 4)) (sc (i + 5)) fnd la le it hsh ⟨hx, hb, hml, hown, hta⟩ mw298 ⟨Nat.le_of_ble_eq_true rfl, Nat.le_of_ble_eq_true rfl⟩ hK hP hD hS [0, 1, 2, 3, 4] rfl rfl hl.1 (Nat.le_of_ble_eq_true rfl) dL_law_268 ⟨Nat.le_of_ble_eq_true rfl, Nat.le_of_ble_eq_true rfl⟩ (fun r1 f1 it1 hq1 H locs hP hS => ?_)
  have hP : va_P D vwCl (wA sb sh shl shn shi mk mx my th tc ea et es be pi piw pih pin po poc poa pob as_ asn cI f1 la le it1 mn xs ys tn cs kn kt ks bt ba b1 b2 b3 wd hg nb ra rb pa pb pm cst mA mB an tr ++ wB md mdl mdm mdi mdp mdc mdt mds mdw mdh mdx mde mda mdb mdr cI fnd mn tn kn s1 s2 s3 mt an ml mm mi (plOf xs ys) cs kt ks wd hg nb cst mA mB tr) H := hP
  have hD : va_D (fun q : Nat => s.heap.size ≤ q) (wA sb sh shl shn shi mk mx my th tc ea et es be pi piw pih pin po poc poa pob as_ asn cI f1 la le it1 mn xs ys tn cs kn kt ks bt ba b1 b2 b3 wd hg nb ra rb pa pb pm cst mA mB an tr ++ wB md mdl mdm mdi mdp mdc mdt mds mdw mdh mdx mde mda mdb mdr cI fnd mn tn kn s1 s2 s3 mt an ml mm mi (plOf xs ys) cs kt ks wd hg nb cst mA mB tr) := hD.same rfl
  refine lv_aload_n hx hb dL_law_271 rfl (lv_at hl 2 rfl) ?_
  refine lv_aload_n hx hb dL_law_272 rfl (lv_at hl 0 rfl) ?_
  refine lv_iload_n hx hb dL_law_273 rfl (lv_at hl 3 rfl) ?_
  refine lv_iconst (v := nI 1) hx hb dL_law_274 (by decide) ?_
  refine iaddN (a := i) (b := 1) hx hb dL_law_275 ?_
  refine va_sld hx hb hX hbl hbA hS (vp_in_nI (show i + 1 < L by omega) (by omega)) dL_law_276 ?_
  refine topI (sc (i + 1)) (congrArg sc (nI_clamp (by omega))) ?_
  refine lv_aload_n hx hb dL_law_277 rfl (lv_at hl 0 rfl) ?_
  refine lv_iload_n hx hb dL_law_278 rfl (lv_at hl 3 rfl) ?_
  refine lv_iconst (v := nI 2) hx hb dL_law_279 (by decide) ?_
  refine iaddN (a := i) (b := 2) hx hb dL_law_280 ?_
  refine va_sld hx hb hX hbl hbA hS (vp_in_nI (show i + 2 < L by omega) (by omega)) dL_law_281 ?_
  refine topI (sc (i + 2)) (congrArg sc (nI_clamp (by omega))) ?_
  refine lv_aload_n hx hb dL_law_282 rfl (lv_at hl 0 rfl) ?_
  refine lv_iload_n hx hb dL_law_283 rfl (lv_at hl 3 rfl) ?_
  refine lv_iconst (v := nI 3) hx hb dL_law_284 (by decide) ?_
  refine iaddN (a := i) (b := 3) hx hb dL_law_285 ?_
  refine va_sld hx hb hX hbl hbA hS (vp_in_nI (show i + 3 < L by omega) (by omega)) dL_law_286 ?_
  refine topI (sc (i + 3)) (congrArg sc (nI_clamp (by omega))) ?_
  refine lv_aload_n hx hb dL_law_287 rfl (lv_at hl 0 rfl) ?_
  refine lv_iload_n hx hb dL_law_288 rfl (lv_at hl 3 rfl) ?_
  refine lv_iconst (v := nI 4) hx hb dL_law_289 (by decide) ?_
  refine iaddN (a := i) (b := 4) hx hb dL_law_290 ?_
  refine va_sld hx hb hX hbl hbA hS (vp_in_nI (show i + 4 < L by omega) (by omega)) dL_law_291 ?_
  refine topI (sc (i + 4)) (congrArg sc (nI_clamp (by omega))) ?_
  refine lv_aload_n hx hb dL_law_292 rfl (lv_at hl 0 rfl) ?_
  refine lv_iload_n hx hb dL_law_293 rfl (lv_at hl 3 rfl) ?_
  refine lv_iconst (v := nI 5) hx hb dL_law_294 (by decide) ?_
  refine iaddN (a := i) (b := 5) hx hb dL_law_295 ?_
  refine va_sld hx hb hX hbl hbA hS (vp_in_nI (show i + 5 < L by omega) (by omega)) dL_law_296 ?_
  refine topI (sc (i + 5)) (congrArg sc (nI_clamp (by omega))) ?_
  refine k_X9_copy (Wd := 1) md mdl mdm mdi mdp mdc mdt mds mdw mdh mdx mde mda mdb mdr (sc (i + 1)) (sc (i + 2)) (sc (i + 3)) (sc (i + 4)) (sc (i + 5)) fnd mn tn kn s1 s2 s3 mt an ml mm mi _ _ _ hRS ⟨hx, hb, hml, hown, hta⟩ mw842 ⟨Nat.le_of_ble_eq_true rfl, Nat.le_of_ble_eq_true rfl⟩ hK hP hD hS [24, 25, 26, 27] rfl rfl hl.1 (Nat.le_of_ble_eq_true rfl) dL_law_297 ⟨Nat.le_of_ble_eq_true rfl, Nat.le_of_ble_eq_true rfl⟩ (fun r2 f2 mi2 hr2 hf2 hRS2 H locs hP hS => ?_)
  have hP : va_P D vwCl (wA sb sh shl shn shi mk mx my th tc ea et es be pi piw pih pin po poc poa pob as_ asn cI f1 la le it1 mn xs ys tn cs kn kt ks bt ba b1 b2 b3 wd hg nb ra rb pa pb pm cst mA mB an tr ++ wB md mdl mdm mdi mdp mdc mdt mds mdw mdh mdx mde mda mdb mdr cI f2 mn tn kn s1 s2 s3 mt an ml mm mi2 (plOf xs ys) cs kt ks wd hg nb cst mA mB tr) H := hP
  have hD : va_D (fun q : Nat => s.heap.size ≤ q) (wA sb sh shl shn shi mk mx my th tc ea et es be pi piw pih pin po poc poa pob as_ asn cI f1 la le it1 mn xs ys tn cs kn kt ks bt ba b1 b2 b3 wd hg nb ra rb pa pb pm cst mA mB an tr ++ wB md mdl mdm mdi mdp mdc mdt mds mdw mdh mdx mde mda mdb mdr cI f2 mn tn kn s1 s2 s3 mt an ml mm mi2 (plOf xs ys) cs kt ks wd hg nb cst mA mB tr) := hD.same rfl
  rw [← hq1] at hr2 hf2 hRS2
  have e9 : r1 = r2 := hr2.symm
  have e8 : f1 = f2 := hf2.symm
  subst e9
  subst e8
  have hRS : RS la le it1 ml mm mi2 := hRS2
  have hP : va_P D vwCl (wA sb sh shl shn shi mk mx my th tc ea et es be pi piw pih pin po poc poa pob as_ asn cI f1 la le it1 mn xs ys tn cs kn kt ks bt ba b1 b2 b3 wd hg nb ra rb pa pb pm cst mA mB an tr ++ wB md mdl mdm mdi mdp mdc mdt mds mdw mdh mdx mde mda mdb mdr cI (f1) mn tn kn s1 s2 s3 mt an ml mm mi2 (plOf xs ys) cs kt ks wd hg nb cst mA mB tr) H := hP
  have hD : va_D (fun q : Nat => s.heap.size ≤ q) (wA sb sh shl shn shi mk mx my th tc ea et es be pi piw pih pin po poc poa pob as_ asn cI f1 la le it1 mn xs ys tn cs kn kt ks bt ba b1 b2 b3 wd hg nb ra rb pa pb pm cst mA mB an tr ++ wB md mdl mdm mdi mdp mdc mdt mds mdw mdh mdx mde mda mdb mdr cI (f1) mn tn kn s1 s2 s3 mt an ml mm mi2 (plOf xs ys) cs kt ks wd hg nb cst mA mB tr) := hD.same rfl
  refine icmpI_eq (tgt := 1227) hx hb dL_law_300 (by decide) (fun c9 => ?_) (fun c9 => absurd rfl c9)
  refine lv_iinc (v := nI (i + 6)) (lv' := [(3, .int (nI (i + 6))), (0, .ref b), (1, .ref sb), (2, .ref md)]) hx hb dL_law_1227 hl (k := 3) rfl (nI_inc6 _) (by decide) rfl (fun ls hl => ?_)
  refine lv_goto (tgt := 18) hx hb dL_law_1230 (by decide) ?_
  exact ih f1 la le it1 mn xs ys tn cs kn kt ks bt ba b1 b2 b3 wd hg nb ra rb pa pb pm cst mA mB an tr ml mm mi2 s1 s2 s3 mt ⟨hRS, hmn, htn, hkn, hcs, hxs, hys, hko, hpi, han⟩ H locs hP hS ls (lv_sub hl [1, 2, 3, 0] rfl)

set_option maxHeartbeats 4000000 in
set_option maxRecDepth 100000 in
theorem lawc_drop {p : Program} {l : Launch} {e : Env} {s : State} {m : MethodId} {below : List Frame} {meth : Method} {c : Code} {D : va_G} {cI : ClassId} {b L : Nat} {sc : Nat → Int32} (sb sh shl shn shi mk mx my th tc ea et es be pi piw pih pin po poc poa pob as_ asn : Nat) (md mdl mdm mdi mdp mdc mdt mds mdw mdh mdx mde mda mdb mdr : Nat) (fnd : Int32) (la : Nat → Int32) (le : Nat → Int32) (it : Nat → Int32) (mn : Nat) (xs : Nat → Int32) (ys : Nat → Int32) (tn : Nat) (cs : Nat → Int32) (kn : Nat) (kt : Nat → Int32) (ks : Nat → Int32) (bt : Int32) (ba : Int64) (b1 : Int64) (b2 : Int64) (b3 : Int64) (wd : Nat → Int32) (hg : Nat → Int32) (nb : Nat → Int32) (ra : Nat) (rb : Nat) (pa : Nat) (pb : Nat) (pm : Nat) (cst : Nat → Int32) (mA : Nat → Int32) (mB : Nat → Int32) (an : Nat) (tr : Nat → Int32) (ml : Nat → Int32) (mm : Nat → Int32) (mi : Nat → Int32) (s1 : Int64) (s2 : Int64) (s3 : Int64) (mt : Nat) (hC : LC p s m meth c D cI b L sc) (hI : INV la le it mn xs ys tn cs kn kt ks wd hg an ml mm mi) (H : Heap) (locs : List Loc) (hP : va_P D vwCl (wA sb sh shl shn shi mk mx my th tc ea et es be pi piw pih pin po poc poa pob as_ asn cI fnd la le it mn xs ys tn cs kn kt ks bt ba b1 b2 b3 wd hg nb ra rb pa pb pm cst mA mB an tr ++ wB md mdl mdm mdi mdp mdc mdt mds mdw mdh mdx mde mda mdb mdr cI fnd mn tn kn s1 s2 s3 mt an ml mm mi (plOf xs ys) cs kt ks wd hg nb cst mA mB tr) H) (hD : va_D (fun q : Nat => s.heap.size ≤ q) (wA sb sh shl shn shi mk mx my th tc ea et es be pi piw pih pin po poc poa pob as_ asn cI fnd la le it mn xs ys tn cs kn kt ks bt ba b1 b2 b3 wd hg nb ra rb pa pb pm cst mA mB an tr ++ wB md mdl mdm mdi mdp mdc mdt mds mdw mdh mdx mde mda mdb mdr cI fnd mn tn kn s1 s2 s3 mt an ml mm mi (plOf xs ys) cs kt ks wd hg nb cst mA mB tr)) (hS : va_S (fun q : Nat => s.heap.size ≤ q) s.heap H locs) (i : Nat) (hi : i + 6 ≤ L) (ih : LH p l e s m below meth c D cI b sb sh shl shn shi mk mx my th tc ea et es be pi piw pih pin po poc poa pob as_ asn md mdl mdm mdi mdp mdc mdt mds mdw mdh mdx mde mda mdb mdr (i + 6)) (ls : Array Slot) (hl : lv_has ls 4 [(0, .ref b), (1, .ref sb), (2, .ref md), (3, .int (nI i))]) : W p l e room_1 s m #[Value.ref b] below meth c H locs 39 5353 (lw_Z below #[Value.ref b] s) (F0 m 305 ls []) := by
  obtain ⟨hx, hb, hr, hml, hown, hta, hX, hbl, hlocks, hK, hL⟩ := hC
  obtain ⟨hRS, hmn, htn, hkn, hcs, hxs, hys, hko, hpi, han⟩ := hI
  have hbA : ¬ (fun q : Nat => s.heap.size ≤ q) b := Nat.not_le.mpr hbl
  have hkt := KOK_ne hko
  have hsh := RS_SH hRS
  refine lv_aload_n hx hb dL_law_305 rfl (lv_at hl 1 rfl) ?_
  refine lv_aload_n hx hb dL_law_306 rfl (lv_at hl 0 rfl) ?_
  refine lv_iload_n hx hb dL_law_307 rfl (lv_at hl 3 rfl) ?_
  refine lv_iconst (v := nI 1) hx hb dL_law_308 (by decide) ?_
  refine iaddN (a := i) (b := 1) hx hb dL_law_309 ?_
  refine va_sld hx hb hX hbl hbA hS (vp_in_nI (show i + 1 < L by omega) (by omega)) dL_law_310 ?_
  refine topI (sc (i + 1)) (congrArg sc (nI_clamp (by omega))) ?_
  refine k_X8_drop (Wd := 0) sb sh shl shn shi mk th ea be pi po as_ (sc (i + 1)) fnd la le it  ⟨hx, hb, hml, hown, hta⟩ mw313 ⟨Nat.le_of_ble_eq_true rfl, Nat.le_of_ble_eq_true rfl⟩ hK hP hD hS [0, 1, 2, 3, 4] rfl rfl hl.1 (Nat.le_of_ble_eq_true rfl) dL_law_311 ⟨Nat.le_of_ble_eq_true rfl, Nat.le_of_ble_eq_true rfl⟩ (fun r1 f1 le1 hq1 H locs hP hS => ?_)
  have hP : va_P D vwCl (wA sb sh shl shn shi mk mx my th tc ea et es be pi piw pih pin po poc poa pob as_ asn cI f1 la le1 it mn xs ys tn cs kn kt ks bt ba b1 b2 b3 wd hg nb ra rb pa pb pm cst mA mB an tr ++ wB md mdl mdm mdi mdp mdc mdt mds mdw mdh mdx mde mda mdb mdr cI fnd mn tn kn s1 s2 s3 mt an ml mm mi (plOf xs ys) cs kt ks wd hg nb cst mA mB tr) H := hP
  have hD : va_D (fun q : Nat => s.heap.size ≤ q) (wA sb sh shl shn shi mk mx my th tc ea et es be pi piw pih pin po poc poa pob as_ asn cI f1 la le1 it mn xs ys tn cs kn kt ks bt ba b1 b2 b3 wd hg nb ra rb pa pb pm cst mA mB an tr ++ wB md mdl mdm mdi mdp mdc mdt mds mdw mdh mdx mde mda mdb mdr cI fnd mn tn kn s1 s2 s3 mt an ml mm mi (plOf xs ys) cs kt ks wd hg nb cst mA mB tr) := hD.same rfl
  refine lv_aload_n hx hb dL_law_314 rfl (lv_at hl 2 rfl) ?_
  refine lv_aload_n hx hb dL_law_315 rfl (lv_at hl 0 rfl) ?_
  refine lv_iload_n hx hb dL_law_316 rfl (lv_at hl 3 rfl) ?_
  refine lv_iconst (v := nI 1) hx hb dL_law_317 (by decide) ?_
  refine iaddN (a := i) (b := 1) hx hb dL_law_318 ?_
  refine va_sld hx hb hX hbl hbA hS (vp_in_nI (show i + 1 < L by omega) (by omega)) dL_law_319 ?_
  refine topI (sc (i + 1)) (congrArg sc (nI_clamp (by omega))) ?_
  refine k_X9_drop (Wd := 1) md mdl mdm mdi mdp mdc mdt mds mdw mdh mdx mde mda mdb mdr (sc (i + 1)) fnd mn tn kn s1 s2 s3 mt an ml mm mi _ _ _ hRS ⟨hx, hb, hml, hown, hta⟩ mw846 ⟨Nat.le_of_ble_eq_true rfl, Nat.le_of_ble_eq_true rfl⟩ hK hP hD hS [24, 25, 26, 27] rfl rfl hl.1 (Nat.le_of_ble_eq_true rfl) dL_law_320 ⟨Nat.le_of_ble_eq_true rfl, Nat.le_of_ble_eq_true rfl⟩ (fun r2 f2 ml2 hr2 hf2 hRS2 H locs hP hS => ?_)
  have hP : va_P D vwCl (wA sb sh shl shn shi mk mx my th tc ea et es be pi piw pih pin po poc poa pob as_ asn cI f1 la le1 it mn xs ys tn cs kn kt ks bt ba b1 b2 b3 wd hg nb ra rb pa pb pm cst mA mB an tr ++ wB md mdl mdm mdi mdp mdc mdt mds mdw mdh mdx mde mda mdb mdr cI f2 mn tn kn s1 s2 s3 mt an ml2 mm mi (plOf xs ys) cs kt ks wd hg nb cst mA mB tr) H := hP
  have hD : va_D (fun q : Nat => s.heap.size ≤ q) (wA sb sh shl shn shi mk mx my th tc ea et es be pi piw pih pin po poc poa pob as_ asn cI f1 la le1 it mn xs ys tn cs kn kt ks bt ba b1 b2 b3 wd hg nb ra rb pa pb pm cst mA mB an tr ++ wB md mdl mdm mdi mdp mdc mdt mds mdw mdh mdx mde mda mdb mdr cI f2 mn tn kn s1 s2 s3 mt an ml2 mm mi (plOf xs ys) cs kt ks wd hg nb cst mA mB tr) := hD.same rfl
  rw [← hq1] at hr2 hf2 hRS2
  have e9 : r1 = r2 := hr2.symm
  have e8 : f1 = f2 := hf2.symm
  subst e9
  subst e8
  have hRS : RS la le1 it ml2 mm mi := hRS2
  have hP : va_P D vwCl (wA sb sh shl shn shi mk mx my th tc ea et es be pi piw pih pin po poc poa pob as_ asn cI f1 la le1 it mn xs ys tn cs kn kt ks bt ba b1 b2 b3 wd hg nb ra rb pa pb pm cst mA mB an tr ++ wB md mdl mdm mdi mdp mdc mdt mds mdw mdh mdx mde mda mdb mdr cI (f1) mn tn kn s1 s2 s3 mt an ml2 mm mi (plOf xs ys) cs kt ks wd hg nb cst mA mB tr) H := hP
  have hD : va_D (fun q : Nat => s.heap.size ≤ q) (wA sb sh shl shn shi mk mx my th tc ea et es be pi piw pih pin po poc poa pob as_ asn cI f1 la le1 it mn xs ys tn cs kn kt ks bt ba b1 b2 b3 wd hg nb ra rb pa pb pm cst mA mB an tr ++ wB md mdl mdm mdi mdp mdc mdt mds mdw mdh mdx mde mda mdb mdr cI (f1) mn tn kn s1 s2 s3 mt an ml2 mm mi (plOf xs ys) cs kt ks wd hg nb cst mA mB tr) := hD.same rfl
  refine icmpI_eq (tgt := 1227) hx hb dL_law_323 (by decide) (fun c9 => ?_) (fun c9 => absurd rfl c9)
  refine lv_iinc (v := nI (i + 6)) (lv' := [(3, .int (nI (i + 6))), (0, .ref b), (1, .ref sb), (2, .ref md)]) hx hb dL_law_1227 hl (k := 3) rfl (nI_inc6 _) (by decide) rfl (fun ls hl => ?_)
  refine lv_goto (tgt := 18) hx hb dL_law_1230 (by decide) ?_
  exact ih f1 la le1 it mn xs ys tn cs kn kt ks bt ba b1 b2 b3 wd hg nb ra rb pa pb pm cst mA mB an tr ml2 mm mi s1 s2 s3 mt ⟨hRS, hmn, htn, hkn, hcs, hxs, hys, hko, hpi, han⟩ H locs hP hS ls (lv_sub hl [1, 2, 3, 0] rfl)

set_option maxHeartbeats 4000000 in
set_option maxRecDepth 100000 in
theorem lawc_mark {p : Program} {l : Launch} {e : Env} {s : State} {m : MethodId} {below : List Frame} {meth : Method} {c : Code} {D : va_G} {cI : ClassId} {b L : Nat} {sc : Nat → Int32} (sb sh shl shn shi mk mx my th tc ea et es be pi piw pih pin po poc poa pob as_ asn : Nat) (md mdl mdm mdi mdp mdc mdt mds mdw mdh mdx mde mda mdb mdr : Nat) (fnd : Int32) (la : Nat → Int32) (le : Nat → Int32) (it : Nat → Int32) (mn : Nat) (xs : Nat → Int32) (ys : Nat → Int32) (tn : Nat) (cs : Nat → Int32) (kn : Nat) (kt : Nat → Int32) (ks : Nat → Int32) (bt : Int32) (ba : Int64) (b1 : Int64) (b2 : Int64) (b3 : Int64) (wd : Nat → Int32) (hg : Nat → Int32) (nb : Nat → Int32) (ra : Nat) (rb : Nat) (pa : Nat) (pb : Nat) (pm : Nat) (cst : Nat → Int32) (mA : Nat → Int32) (mB : Nat → Int32) (an : Nat) (tr : Nat → Int32) (ml : Nat → Int32) (mm : Nat → Int32) (mi : Nat → Int32) (s1 : Int64) (s2 : Int64) (s3 : Int64) (mt : Nat) (hC : LC p s m meth c D cI b L sc) (hI : INV la le it mn xs ys tn cs kn kt ks wd hg an ml mm mi) (H : Heap) (locs : List Loc) (hP : va_P D vwCl (wA sb sh shl shn shi mk mx my th tc ea et es be pi piw pih pin po poc poa pob as_ asn cI fnd la le it mn xs ys tn cs kn kt ks bt ba b1 b2 b3 wd hg nb ra rb pa pb pm cst mA mB an tr ++ wB md mdl mdm mdi mdp mdc mdt mds mdw mdh mdx mde mda mdb mdr cI fnd mn tn kn s1 s2 s3 mt an ml mm mi (plOf xs ys) cs kt ks wd hg nb cst mA mB tr) H) (hD : va_D (fun q : Nat => s.heap.size ≤ q) (wA sb sh shl shn shi mk mx my th tc ea et es be pi piw pih pin po poc poa pob as_ asn cI fnd la le it mn xs ys tn cs kn kt ks bt ba b1 b2 b3 wd hg nb ra rb pa pb pm cst mA mB an tr ++ wB md mdl mdm mdi mdp mdc mdt mds mdw mdh mdx mde mda mdb mdr cI fnd mn tn kn s1 s2 s3 mt an ml mm mi (plOf xs ys) cs kt ks wd hg nb cst mA mB tr)) (hS : va_S (fun q : Nat => s.heap.size ≤ q) s.heap H locs) (i : Nat) (hi : i + 6 ≤ L) (ih : LH p l e s m below meth c D cI b sb sh shl shn shi mk mx my th tc ea et es be pi piw pih pin po poc poa pob as_ asn md mdl mdm mdi mdp mdc mdt mds mdw mdh mdx mde mda mdb mdr (i + 6)) (ls : Array Slot) (hl : lv_has ls 4 [(0, .ref b), (1, .ref sb), (2, .ref md), (3, .int (nI i))]) : W p l e room_1 s m #[Value.ref b] below meth c H locs 39 5353 (lw_Z below #[Value.ref b] s) (F0 m 328 ls []) := by
  obtain ⟨hx, hb, hr, hml, hown, hta, hX, hbl, hlocks, hK, hL⟩ := hC
  obtain ⟨hRS, hmn, htn, hkn, hcs, hxs, hys, hko, hpi, han⟩ := hI
  have hbA : ¬ (fun q : Nat => s.heap.size ≤ q) b := Nat.not_le.mpr hbl
  have hkt := KOK_ne hko
  have hsh := RS_SH hRS
  refine lv_aload_n hx hb dL_law_328 rfl (lv_at hl 1 rfl) ?_
  refine lv_aload_n hx hb dL_law_329 rfl (lv_at hl 0 rfl) ?_
  refine lv_iload_n hx hb dL_law_330 rfl (lv_at hl 3 rfl) ?_
  refine lv_iconst (v := nI 1) hx hb dL_law_331 (by decide) ?_
  refine iaddN (a := i) (b := 1) hx hb dL_law_332 ?_
  refine va_sld hx hb hX hbl hbA hS (vp_in_nI (show i + 1 < L by omega) (by omega)) dL_law_333 ?_
  refine topI (sc (i + 1)) (congrArg sc (nI_clamp (by omega))) ?_
  refine lv_aload_n hx hb dL_law_334 rfl (lv_at hl 0 rfl) ?_
  refine lv_iload_n hx hb dL_law_335 rfl (lv_at hl 3 rfl) ?_
  refine lv_iconst (v := nI 2) hx hb dL_law_336 (by decide) ?_
  refine iaddN (a := i) (b := 2) hx hb dL_law_337 ?_
  refine va_sld hx hb hX hbl hbA hS (vp_in_nI (show i + 2 < L by omega) (by omega)) dL_law_338 ?_
  refine topI (sc (i + 2)) (congrArg sc (nI_clamp (by omega))) ?_
  refine lv_aload_n hx hb dL_law_339 rfl (lv_at hl 0 rfl) ?_
  refine lv_iload_n hx hb dL_law_340 rfl (lv_at hl 3 rfl) ?_
  refine lv_iconst (v := nI 3) hx hb dL_law_341 (by decide) ?_
  refine iaddN (a := i) (b := 3) hx hb dL_law_342 ?_
  refine va_sld hx hb hX hbl hbA hS (vp_in_nI (show i + 3 < L by omega) (by omega)) dL_law_343 ?_
  refine topI (sc (i + 3)) (congrArg sc (nI_clamp (by omega))) ?_
  refine lv_aload_n hx hb dL_law_344 rfl (lv_at hl 0 rfl) ?_
  refine lv_iload_n hx hb dL_law_345 rfl (lv_at hl 3 rfl) ?_
  refine lv_iconst (v := nI 4) hx hb dL_law_346 (by decide) ?_
  refine iaddN (a := i) (b := 4) hx hb dL_law_347 ?_
  refine va_sld hx hb hX hbl hbA hS (vp_in_nI (show i + 4 < L by omega) (by omega)) dL_law_348 ?_
  refine topI (sc (i + 4)) (congrArg sc (nI_clamp (by omega))) ?_
  refine k_X8_mark (Wd := 0) sb mk mx my sh th ea be pi po as_ (sc (i + 1)) (sc (i + 2)) (sc (i + 3)) (sc (i + 4)) fnd mn xs ys hmn ⟨hx, hb, hml, hown, hta⟩ mw321 ⟨Nat.le_of_ble_eq_true rfl, Nat.le_of_ble_eq_true rfl⟩ hK hP hD hS [0, 5, 6, 7] rfl rfl hl.1 (Nat.le_of_ble_eq_true rfl) dL_law_349 ⟨Nat.le_of_ble_eq_true rfl, Nat.le_of_ble_eq_true rfl⟩ (fun r1 mn1 xs1 ys1 hq1 H locs hP hS => ?_)
  have hP : va_P D vwCl (wA sb sh shl shn shi mk mx my th tc ea et es be pi piw pih pin po poc poa pob as_ asn cI fnd la le it mn1 xs1 ys1 tn cs kn kt ks bt ba b1 b2 b3 wd hg nb ra rb pa pb pm cst mA mB an tr ++ wB md mdl mdm mdi mdp mdc mdt mds mdw mdh mdx mde mda mdb mdr cI fnd mn tn kn s1 s2 s3 mt an ml mm mi (plOf xs ys) cs kt ks wd hg nb cst mA mB tr) H := hP
  have hD : va_D (fun q : Nat => s.heap.size ≤ q) (wA sb sh shl shn shi mk mx my th tc ea et es be pi piw pih pin po poc poa pob as_ asn cI fnd la le it mn1 xs1 ys1 tn cs kn kt ks bt ba b1 b2 b3 wd hg nb ra rb pa pb pm cst mA mB an tr ++ wB md mdl mdm mdi mdp mdc mdt mds mdw mdh mdx mde mda mdb mdr cI fnd mn tn kn s1 s2 s3 mt an ml mm mi (plOf xs ys) cs kt ks wd hg nb cst mA mB tr) := hD.same rfl
  refine lv_aload_n hx hb dL_law_352 rfl (lv_at hl 2 rfl) ?_
  refine lv_aload_n hx hb dL_law_353 rfl (lv_at hl 0 rfl) ?_
  refine lv_iload_n hx hb dL_law_354 rfl (lv_at hl 3 rfl) ?_
  refine lv_iconst (v := nI 1) hx hb dL_law_355 (by decide) ?_
  refine iaddN (a := i) (b := 1) hx hb dL_law_356 ?_
  refine va_sld hx hb hX hbl hbA hS (vp_in_nI (show i + 1 < L by omega) (by omega)) dL_law_357 ?_
  refine topI (sc (i + 1)) (congrArg sc (nI_clamp (by omega))) ?_
  refine lv_aload_n hx hb dL_law_358 rfl (lv_at hl 0 rfl) ?_
  refine lv_iload_n hx hb dL_law_359 rfl (lv_at hl 3 rfl) ?_
  refine lv_iconst (v := nI 2) hx hb dL_law_360 (by decide) ?_
  refine iaddN (a := i) (b := 2) hx hb dL_law_361 ?_
  refine va_sld hx hb hX hbl hbA hS (vp_in_nI (show i + 2 < L by omega) (by omega)) dL_law_362 ?_
  refine topI (sc (i + 2)) (congrArg sc (nI_clamp (by omega))) ?_
  refine lv_aload_n hx hb dL_law_363 rfl (lv_at hl 0 rfl) ?_
  refine lv_iload_n hx hb dL_law_364 rfl (lv_at hl 3 rfl) ?_
  refine lv_iconst (v := nI 3) hx hb dL_law_365 (by decide) ?_
  refine iaddN (a := i) (b := 3) hx hb dL_law_366 ?_
  refine va_sld hx hb hX hbl hbA hS (vp_in_nI (show i + 3 < L by omega) (by omega)) dL_law_367 ?_
  refine topI (sc (i + 3)) (congrArg sc (nI_clamp (by omega))) ?_
  refine lv_aload_n hx hb dL_law_368 rfl (lv_at hl 0 rfl) ?_
  refine lv_iload_n hx hb dL_law_369 rfl (lv_at hl 3 rfl) ?_
  refine lv_iconst (v := nI 4) hx hb dL_law_370 (by decide) ?_
  refine iaddN (a := i) (b := 4) hx hb dL_law_371 ?_
  refine va_sld hx hb hX hbl hbA hS (vp_in_nI (show i + 4 < L by omega) (by omega)) dL_law_372 ?_
  refine topI (sc (i + 4)) (congrArg sc (nI_clamp (by omega))) ?_
  refine k_X9_mark (Wd := 1) md mdp mdl mdm mdi mdc mdt mds mdw mdh mdx mde mda mdb mdr (sc (i + 1)) (sc (i + 2)) (sc (i + 3)) (sc (i + 4)) fnd mn tn kn s1 s2 s3 mt an _ _ hmn ⟨hx, hb, hml, hown, hta⟩ mw850 ⟨Nat.le_of_ble_eq_true rfl, Nat.le_of_ble_eq_true rfl⟩ hK hP hD hS [24, 28] rfl rfl hl.1 (Nat.le_of_ble_eq_true rfl) dL_law_373 ⟨Nat.le_of_ble_eq_true rfl, Nat.le_of_ble_eq_true rfl⟩ (fun r2 mn2 xs2 ys2 hq2 H locs hP hS => ?_)
  have hP : va_P D vwCl (wA sb sh shl shn shi mk mx my th tc ea et es be pi piw pih pin po poc poa pob as_ asn cI fnd la le it mn1 xs1 ys1 tn cs kn kt ks bt ba b1 b2 b3 wd hg nb ra rb pa pb pm cst mA mB an tr ++ wB md mdl mdm mdi mdp mdc mdt mds mdw mdh mdx mde mda mdb mdr cI fnd mn2 tn kn s1 s2 s3 mt an ml mm mi (plOf xs2 ys2) cs kt ks wd hg nb cst mA mB tr) H := hP
  have hD : va_D (fun q : Nat => s.heap.size ≤ q) (wA sb sh shl shn shi mk mx my th tc ea et es be pi piw pih pin po poc poa pob as_ asn cI fnd la le it mn1 xs1 ys1 tn cs kn kt ks bt ba b1 b2 b3 wd hg nb ra rb pa pb pm cst mA mB an tr ++ wB md mdl mdm mdi mdp mdc mdt mds mdw mdh mdx mde mda mdb mdr cI fnd mn2 tn kn s1 s2 s3 mt an ml mm mi (plOf xs2 ys2) cs kt ks wd hg nb cst mA mB tr) := hD.same rfl
  have e9 := hq1.trans hq2.symm
  simp only [Prod.mk.injEq] at e9
  obtain ⟨e9_0, e9_1, e9_2, e9_3⟩ := e9
  subst e9_0
  subst e9_1
  subst e9_2
  subst e9_3
  obtain ⟨hmn, hcs, hxs, hys⟩ := mrk_inv hmn hxs hys hcs hq1
  have hP : va_P D vwCl (wA sb sh shl shn shi mk mx my th tc ea et es be pi piw pih pin po poc poa pob as_ asn cI fnd la le it mn1 xs1 ys1 tn cs kn kt ks bt ba b1 b2 b3 wd hg nb ra rb pa pb pm cst mA mB an tr ++ wB md mdl mdm mdi mdp mdc mdt mds mdw mdh mdx mde mda mdb mdr cI fnd (mn1) tn kn s1 s2 s3 mt an ml mm mi (plOf (xs1) (ys1)) cs kt ks wd hg nb cst mA mB tr) H := hP
  have hD : va_D (fun q : Nat => s.heap.size ≤ q) (wA sb sh shl shn shi mk mx my th tc ea et es be pi piw pih pin po poc poa pob as_ asn cI fnd la le it mn1 xs1 ys1 tn cs kn kt ks bt ba b1 b2 b3 wd hg nb ra rb pa pb pm cst mA mB an tr ++ wB md mdl mdm mdi mdp mdc mdt mds mdw mdh mdx mde mda mdb mdr cI fnd (mn1) tn kn s1 s2 s3 mt an ml mm mi (plOf (xs1) (ys1)) cs kt ks wd hg nb cst mA mB tr) := hD.same rfl
  refine icmpI_eq (tgt := 1227) hx hb dL_law_376 (by decide) (fun c9 => ?_) (fun c9 => absurd rfl c9)
  refine lv_iinc (v := nI (i + 6)) (lv' := [(3, .int (nI (i + 6))), (0, .ref b), (1, .ref sb), (2, .ref md)]) hx hb dL_law_1227 hl (k := 3) rfl (nI_inc6 _) (by decide) rfl (fun ls hl => ?_)
  refine lv_goto (tgt := 18) hx hb dL_law_1230 (by decide) ?_
  exact ih fnd la le it mn1 xs1 ys1 tn cs kn kt ks bt ba b1 b2 b3 wd hg nb ra rb pa pb pm cst mA mB an tr ml mm mi s1 s2 s3 mt ⟨hRS, hmn, htn, hkn, hcs, hxs, hys, hko, hpi, han⟩ H locs hP hS ls (lv_sub hl [1, 2, 3, 0] rfl)

set_option maxHeartbeats 4000000 in
set_option maxRecDepth 100000 in
theorem lawc_move {p : Program} {l : Launch} {e : Env} {s : State} {m : MethodId} {below : List Frame} {meth : Method} {c : Code} {D : va_G} {cI : ClassId} {b L : Nat} {sc : Nat → Int32} (sb sh shl shn shi mk mx my th tc ea et es be pi piw pih pin po poc poa pob as_ asn : Nat) (md mdl mdm mdi mdp mdc mdt mds mdw mdh mdx mde mda mdb mdr : Nat) (fnd : Int32) (la : Nat → Int32) (le : Nat → Int32) (it : Nat → Int32) (mn : Nat) (xs : Nat → Int32) (ys : Nat → Int32) (tn : Nat) (cs : Nat → Int32) (kn : Nat) (kt : Nat → Int32) (ks : Nat → Int32) (bt : Int32) (ba : Int64) (b1 : Int64) (b2 : Int64) (b3 : Int64) (wd : Nat → Int32) (hg : Nat → Int32) (nb : Nat → Int32) (ra : Nat) (rb : Nat) (pa : Nat) (pb : Nat) (pm : Nat) (cst : Nat → Int32) (mA : Nat → Int32) (mB : Nat → Int32) (an : Nat) (tr : Nat → Int32) (ml : Nat → Int32) (mm : Nat → Int32) (mi : Nat → Int32) (s1 : Int64) (s2 : Int64) (s3 : Int64) (mt : Nat) (hC : LC p s m meth c D cI b L sc) (hI : INV la le it mn xs ys tn cs kn kt ks wd hg an ml mm mi) (H : Heap) (locs : List Loc) (hP : va_P D vwCl (wA sb sh shl shn shi mk mx my th tc ea et es be pi piw pih pin po poc poa pob as_ asn cI fnd la le it mn xs ys tn cs kn kt ks bt ba b1 b2 b3 wd hg nb ra rb pa pb pm cst mA mB an tr ++ wB md mdl mdm mdi mdp mdc mdt mds mdw mdh mdx mde mda mdb mdr cI fnd mn tn kn s1 s2 s3 mt an ml mm mi (plOf xs ys) cs kt ks wd hg nb cst mA mB tr) H) (hD : va_D (fun q : Nat => s.heap.size ≤ q) (wA sb sh shl shn shi mk mx my th tc ea et es be pi piw pih pin po poc poa pob as_ asn cI fnd la le it mn xs ys tn cs kn kt ks bt ba b1 b2 b3 wd hg nb ra rb pa pb pm cst mA mB an tr ++ wB md mdl mdm mdi mdp mdc mdt mds mdw mdh mdx mde mda mdb mdr cI fnd mn tn kn s1 s2 s3 mt an ml mm mi (plOf xs ys) cs kt ks wd hg nb cst mA mB tr)) (hS : va_S (fun q : Nat => s.heap.size ≤ q) s.heap H locs) (i : Nat) (hi : i + 6 ≤ L) (ih : LH p l e s m below meth c D cI b sb sh shl shn shi mk mx my th tc ea et es be pi piw pih pin po poc poa pob as_ asn md mdl mdm mdi mdp mdc mdt mds mdw mdh mdx mde mda mdb mdr (i + 6)) (ls : Array Slot) (hl : lv_has ls 4 [(0, .ref b), (1, .ref sb), (2, .ref md), (3, .int (nI i))]) : W p l e room_1 s m #[Value.ref b] below meth c H locs 39 5353 (lw_Z below #[Value.ref b] s) (F0 m 381 ls []) := by
  obtain ⟨hx, hb, hr, hml, hown, hta, hX, hbl, hlocks, hK, hL⟩ := hC
  obtain ⟨hRS, hmn, htn, hkn, hcs, hxs, hys, hko, hpi, han⟩ := hI
  have hbA : ¬ (fun q : Nat => s.heap.size ≤ q) b := Nat.not_le.mpr hbl
  have hkt := KOK_ne hko
  have hsh := RS_SH hRS
  refine lv_aload_n hx hb dL_law_381 rfl (lv_at hl 1 rfl) ?_
  refine lv_aload_n hx hb dL_law_382 rfl (lv_at hl 0 rfl) ?_
  refine lv_iload_n hx hb dL_law_383 rfl (lv_at hl 3 rfl) ?_
  refine lv_iconst (v := nI 1) hx hb dL_law_384 (by decide) ?_
  refine iaddN (a := i) (b := 1) hx hb dL_law_385 ?_
  refine va_sld hx hb hX hbl hbA hS (vp_in_nI (show i + 1 < L by omega) (by omega)) dL_law_386 ?_
  refine topI (sc (i + 1)) (congrArg sc (nI_clamp (by omega))) ?_
  refine lv_aload_n hx hb dL_law_387 rfl (lv_at hl 0 rfl) ?_
  refine lv_iload_n hx hb dL_law_388 rfl (lv_at hl 3 rfl) ?_
  refine lv_iconst (v := nI 2) hx hb dL_law_389 (by decide) ?_
  refine iaddN (a := i) (b := 2) hx hb dL_law_390 ?_
  refine va_sld hx hb hX hbl hbA hS (vp_in_nI (show i + 2 < L by omega) (by omega)) dL_law_391 ?_
  refine topI (sc (i + 2)) (congrArg sc (nI_clamp (by omega))) ?_
  refine lv_aload_n hx hb dL_law_392 rfl (lv_at hl 0 rfl) ?_
  refine lv_iload_n hx hb dL_law_393 rfl (lv_at hl 3 rfl) ?_
  refine lv_iconst (v := nI 3) hx hb dL_law_394 (by decide) ?_
  refine iaddN (a := i) (b := 3) hx hb dL_law_395 ?_
  refine va_sld hx hb hX hbl hbA hS (vp_in_nI (show i + 3 < L by omega) (by omega)) dL_law_396 ?_
  refine topI (sc (i + 3)) (congrArg sc (nI_clamp (by omega))) ?_
  refine lv_aload_n hx hb dL_law_397 rfl (lv_at hl 0 rfl) ?_
  refine lv_iload_n hx hb dL_law_398 rfl (lv_at hl 3 rfl) ?_
  refine lv_iconst (v := nI 4) hx hb dL_law_399 (by decide) ?_
  refine iaddN (a := i) (b := 4) hx hb dL_law_400 ?_
  refine va_sld hx hb hX hbl hbA hS (vp_in_nI (show i + 4 < L by omega) (by omega)) dL_law_401 ?_
  refine topI (sc (i + 4)) (congrArg sc (nI_clamp (by omega))) ?_
  refine k_X8_move (Wd := 0) sb mk mx my sh th ea be pi po as_ (sc (i + 1)) (sc (i + 2)) (sc (i + 3)) (sc (i + 4)) fnd mn xs ys hmn ⟨hx, hb, hml, hown, hta⟩ mw342 ⟨Nat.le_of_ble_eq_true rfl, Nat.le_of_ble_eq_true rfl⟩ hK hP hD hS [0, 5, 6, 7] rfl rfl hl.1 (Nat.le_of_ble_eq_true rfl) dL_law_402 ⟨Nat.le_of_ble_eq_true rfl, Nat.le_of_ble_eq_true rfl⟩ (fun r1 xs1 ys1 hq1 H locs hP hS => ?_)
  have hP : va_P D vwCl (wA sb sh shl shn shi mk mx my th tc ea et es be pi piw pih pin po poc poa pob as_ asn cI fnd la le it mn xs1 ys1 tn cs kn kt ks bt ba b1 b2 b3 wd hg nb ra rb pa pb pm cst mA mB an tr ++ wB md mdl mdm mdi mdp mdc mdt mds mdw mdh mdx mde mda mdb mdr cI fnd mn tn kn s1 s2 s3 mt an ml mm mi (plOf xs ys) cs kt ks wd hg nb cst mA mB tr) H := hP
  have hD : va_D (fun q : Nat => s.heap.size ≤ q) (wA sb sh shl shn shi mk mx my th tc ea et es be pi piw pih pin po poc poa pob as_ asn cI fnd la le it mn xs1 ys1 tn cs kn kt ks bt ba b1 b2 b3 wd hg nb ra rb pa pb pm cst mA mB an tr ++ wB md mdl mdm mdi mdp mdc mdt mds mdw mdh mdx mde mda mdb mdr cI fnd mn tn kn s1 s2 s3 mt an ml mm mi (plOf xs ys) cs kt ks wd hg nb cst mA mB tr) := hD.same rfl
  refine lv_aload_n hx hb dL_law_405 rfl (lv_at hl 2 rfl) ?_
  refine lv_aload_n hx hb dL_law_406 rfl (lv_at hl 0 rfl) ?_
  refine lv_iload_n hx hb dL_law_407 rfl (lv_at hl 3 rfl) ?_
  refine lv_iconst (v := nI 1) hx hb dL_law_408 (by decide) ?_
  refine iaddN (a := i) (b := 1) hx hb dL_law_409 ?_
  refine va_sld hx hb hX hbl hbA hS (vp_in_nI (show i + 1 < L by omega) (by omega)) dL_law_410 ?_
  refine topI (sc (i + 1)) (congrArg sc (nI_clamp (by omega))) ?_
  refine lv_aload_n hx hb dL_law_411 rfl (lv_at hl 0 rfl) ?_
  refine lv_iload_n hx hb dL_law_412 rfl (lv_at hl 3 rfl) ?_
  refine lv_iconst (v := nI 2) hx hb dL_law_413 (by decide) ?_
  refine iaddN (a := i) (b := 2) hx hb dL_law_414 ?_
  refine va_sld hx hb hX hbl hbA hS (vp_in_nI (show i + 2 < L by omega) (by omega)) dL_law_415 ?_
  refine topI (sc (i + 2)) (congrArg sc (nI_clamp (by omega))) ?_
  refine lv_aload_n hx hb dL_law_416 rfl (lv_at hl 0 rfl) ?_
  refine lv_iload_n hx hb dL_law_417 rfl (lv_at hl 3 rfl) ?_
  refine lv_iconst (v := nI 3) hx hb dL_law_418 (by decide) ?_
  refine iaddN (a := i) (b := 3) hx hb dL_law_419 ?_
  refine va_sld hx hb hX hbl hbA hS (vp_in_nI (show i + 3 < L by omega) (by omega)) dL_law_420 ?_
  refine topI (sc (i + 3)) (congrArg sc (nI_clamp (by omega))) ?_
  refine lv_aload_n hx hb dL_law_421 rfl (lv_at hl 0 rfl) ?_
  refine lv_iload_n hx hb dL_law_422 rfl (lv_at hl 3 rfl) ?_
  refine lv_iconst (v := nI 4) hx hb dL_law_423 (by decide) ?_
  refine iaddN (a := i) (b := 4) hx hb dL_law_424 ?_
  refine va_sld hx hb hX hbl hbA hS (vp_in_nI (show i + 4 < L by omega) (by omega)) dL_law_425 ?_
  refine topI (sc (i + 4)) (congrArg sc (nI_clamp (by omega))) ?_
  refine k_X9_move (Wd := 1) md mdp mdl mdm mdi mdc mdt mds mdw mdh mdx mde mda mdb mdr (sc (i + 1)) (sc (i + 2)) (sc (i + 3)) (sc (i + 4)) fnd mn tn kn s1 s2 s3 mt an _ _ hmn ⟨hx, hb, hml, hown, hta⟩ mw859 ⟨Nat.le_of_ble_eq_true rfl, Nat.le_of_ble_eq_true rfl⟩ hK hP hD hS [24, 28] rfl rfl hl.1 (Nat.le_of_ble_eq_true rfl) dL_law_426 ⟨Nat.le_of_ble_eq_true rfl, Nat.le_of_ble_eq_true rfl⟩ (fun r2 xs2 ys2 hq2 H locs hP hS => ?_)
  have hP : va_P D vwCl (wA sb sh shl shn shi mk mx my th tc ea et es be pi piw pih pin po poc poa pob as_ asn cI fnd la le it mn xs1 ys1 tn cs kn kt ks bt ba b1 b2 b3 wd hg nb ra rb pa pb pm cst mA mB an tr ++ wB md mdl mdm mdi mdp mdc mdt mds mdw mdh mdx mde mda mdb mdr cI fnd mn tn kn s1 s2 s3 mt an ml mm mi (plOf xs2 ys2) cs kt ks wd hg nb cst mA mB tr) H := hP
  have hD : va_D (fun q : Nat => s.heap.size ≤ q) (wA sb sh shl shn shi mk mx my th tc ea et es be pi piw pih pin po poc poa pob as_ asn cI fnd la le it mn xs1 ys1 tn cs kn kt ks bt ba b1 b2 b3 wd hg nb ra rb pa pb pm cst mA mB an tr ++ wB md mdl mdm mdi mdp mdc mdt mds mdw mdh mdx mde mda mdb mdr cI fnd mn tn kn s1 s2 s3 mt an ml mm mi (plOf xs2 ys2) cs kt ks wd hg nb cst mA mB tr) := hD.same rfl
  have e9 := hq1.trans hq2.symm
  simp only [Prod.mk.injEq] at e9
  obtain ⟨e9_0, e9_1, e9_2⟩ := e9
  subst e9_0
  subst e9_1
  subst e9_2
  obtain ⟨hxs, hys⟩ := mov_inv hxs hys hq1
  have hP : va_P D vwCl (wA sb sh shl shn shi mk mx my th tc ea et es be pi piw pih pin po poc poa pob as_ asn cI fnd la le it mn xs1 ys1 tn cs kn kt ks bt ba b1 b2 b3 wd hg nb ra rb pa pb pm cst mA mB an tr ++ wB md mdl mdm mdi mdp mdc mdt mds mdw mdh mdx mde mda mdb mdr cI fnd mn tn kn s1 s2 s3 mt an ml mm mi (plOf (xs1) (ys1)) cs kt ks wd hg nb cst mA mB tr) H := hP
  have hD : va_D (fun q : Nat => s.heap.size ≤ q) (wA sb sh shl shn shi mk mx my th tc ea et es be pi piw pih pin po poc poa pob as_ asn cI fnd la le it mn xs1 ys1 tn cs kn kt ks bt ba b1 b2 b3 wd hg nb ra rb pa pb pm cst mA mB an tr ++ wB md mdl mdm mdi mdp mdc mdt mds mdw mdh mdx mde mda mdb mdr cI fnd mn tn kn s1 s2 s3 mt an ml mm mi (plOf (xs1) (ys1)) cs kt ks wd hg nb cst mA mB tr) := hD.same rfl
  refine icmpI_eq (tgt := 1227) hx hb dL_law_429 (by decide) (fun c9 => ?_) (fun c9 => absurd rfl c9)
  refine lv_iinc (v := nI (i + 6)) (lv' := [(3, .int (nI (i + 6))), (0, .ref b), (1, .ref sb), (2, .ref md)]) hx hb dL_law_1227 hl (k := 3) rfl (nI_inc6 _) (by decide) rfl (fun ls hl => ?_)
  refine lv_goto (tgt := 18) hx hb dL_law_1230 (by decide) ?_
  exact ih fnd la le it mn xs1 ys1 tn cs kn kt ks bt ba b1 b2 b3 wd hg nb ra rb pa pb pm cst mA mB an tr ml mm mi s1 s2 s3 mt ⟨hRS, hmn, htn, hkn, hcs, hxs, hys, hko, hpi, han⟩ H locs hP hS ls (lv_sub hl [1, 2, 3, 0] rfl)

set_option maxHeartbeats 4000000 in
set_option maxRecDepth 100000 in
theorem lawc_at {p : Program} {l : Launch} {e : Env} {s : State} {m : MethodId} {below : List Frame} {meth : Method} {c : Code} {D : va_G} {cI : ClassId} {b L : Nat} {sc : Nat → Int32} (sb sh shl shn shi mk mx my th tc ea et es be pi piw pih pin po poc poa pob as_ asn : Nat) (md mdl mdm mdi mdp mdc mdt mds mdw mdh mdx mde mda mdb mdr : Nat) (fnd : Int32) (la : Nat → Int32) (le : Nat → Int32) (it : Nat → Int32) (mn : Nat) (xs : Nat → Int32) (ys : Nat → Int32) (tn : Nat) (cs : Nat → Int32) (kn : Nat) (kt : Nat → Int32) (ks : Nat → Int32) (bt : Int32) (ba : Int64) (b1 : Int64) (b2 : Int64) (b3 : Int64) (wd : Nat → Int32) (hg : Nat → Int32) (nb : Nat → Int32) (ra : Nat) (rb : Nat) (pa : Nat) (pb : Nat) (pm : Nat) (cst : Nat → Int32) (mA : Nat → Int32) (mB : Nat → Int32) (an : Nat) (tr : Nat → Int32) (ml : Nat → Int32) (mm : Nat → Int32) (mi : Nat → Int32) (s1 : Int64) (s2 : Int64) (s3 : Int64) (mt : Nat) (hC : LC p s m meth c D cI b L sc) (hI : INV la le it mn xs ys tn cs kn kt ks wd hg an ml mm mi) (H : Heap) (locs : List Loc) (hP : va_P D vwCl (wA sb sh shl shn shi mk mx my th tc ea et es be pi piw pih pin po poc poa pob as_ asn cI fnd la le it mn xs ys tn cs kn kt ks bt ba b1 b2 b3 wd hg nb ra rb pa pb pm cst mA mB an tr ++ wB md mdl mdm mdi mdp mdc mdt mds mdw mdh mdx mde mda mdb mdr cI fnd mn tn kn s1 s2 s3 mt an ml mm mi (plOf xs ys) cs kt ks wd hg nb cst mA mB tr) H) (hD : va_D (fun q : Nat => s.heap.size ≤ q) (wA sb sh shl shn shi mk mx my th tc ea et es be pi piw pih pin po poc poa pob as_ asn cI fnd la le it mn xs ys tn cs kn kt ks bt ba b1 b2 b3 wd hg nb ra rb pa pb pm cst mA mB an tr ++ wB md mdl mdm mdi mdp mdc mdt mds mdw mdh mdx mde mda mdb mdr cI fnd mn tn kn s1 s2 s3 mt an ml mm mi (plOf xs ys) cs kt ks wd hg nb cst mA mB tr)) (hS : va_S (fun q : Nat => s.heap.size ≤ q) s.heap H locs) (i : Nat) (hi : i + 6 ≤ L) (ih : LH p l e s m below meth c D cI b sb sh shl shn shi mk mx my th tc ea et es be pi piw pih pin po poc poa pob as_ asn md mdl mdm mdi mdp mdc mdt mds mdw mdh mdx mde mda mdb mdr (i + 6)) (ls : Array Slot) (hl : lv_has ls 4 [(0, .ref b), (1, .ref sb), (2, .ref md), (3, .int (nI i))]) : W p l e room_1 s m #[Value.ref b] below meth c H locs 39 5353 (lw_Z below #[Value.ref b] s) (F0 m 434 ls []) := by
  obtain ⟨hx, hb, hr, hml, hown, hta, hX, hbl, hlocks, hK, hL⟩ := hC
  obtain ⟨hRS, hmn, htn, hkn, hcs, hxs, hys, hko, hpi, han⟩ := hI
  have hbA : ¬ (fun q : Nat => s.heap.size ≤ q) b := Nat.not_le.mpr hbl
  have hkt := KOK_ne hko
  have hsh := RS_SH hRS
  refine lv_aload_n hx hb dL_law_434 rfl (lv_at hl 1 rfl) ?_
  refine lv_aload_n hx hb dL_law_435 rfl (lv_at hl 0 rfl) ?_
  refine lv_iload_n hx hb dL_law_436 rfl (lv_at hl 3 rfl) ?_
  refine lv_iconst (v := nI 1) hx hb dL_law_437 (by decide) ?_
  refine iaddN (a := i) (b := 1) hx hb dL_law_438 ?_
  refine va_sld hx hb hX hbl hbA hS (vp_in_nI (show i + 1 < L by omega) (by omega)) dL_law_439 ?_
  refine topI (sc (i + 1)) (congrArg sc (nI_clamp (by omega))) ?_
  refine lv_aload_n hx hb dL_law_440 rfl (lv_at hl 0 rfl) ?_
  refine lv_iload_n hx hb dL_law_441 rfl (lv_at hl 3 rfl) ?_
  refine lv_iconst (v := nI 2) hx hb dL_law_442 (by decide) ?_
  refine iaddN (a := i) (b := 2) hx hb dL_law_443 ?_
  refine va_sld hx hb hX hbl hbA hS (vp_in_nI (show i + 2 < L by omega) (by omega)) dL_law_444 ?_
  refine topI (sc (i + 2)) (congrArg sc (nI_clamp (by omega))) ?_
  refine lv_aload_n hx hb dL_law_445 rfl (lv_at hl 0 rfl) ?_
  refine lv_iload_n hx hb dL_law_446 rfl (lv_at hl 3 rfl) ?_
  refine lv_iconst (v := nI 3) hx hb dL_law_447 (by decide) ?_
  refine iaddN (a := i) (b := 3) hx hb dL_law_448 ?_
  refine va_sld hx hb hX hbl hbA hS (vp_in_nI (show i + 3 < L by omega) (by omega)) dL_law_449 ?_
  refine topI (sc (i + 3)) (congrArg sc (nI_clamp (by omega))) ?_
  refine lv_aload_n hx hb dL_law_450 rfl (lv_at hl 0 rfl) ?_
  refine lv_iload_n hx hb dL_law_451 rfl (lv_at hl 3 rfl) ?_
  refine lv_iconst (v := nI 4) hx hb dL_law_452 (by decide) ?_
  refine iaddN (a := i) (b := 4) hx hb dL_law_453 ?_
  refine va_sld hx hb hX hbl hbA hS (vp_in_nI (show i + 4 < L by omega) (by omega)) dL_law_454 ?_
  refine topI (sc (i + 4)) (congrArg sc (nI_clamp (by omega))) ?_
  refine k_X8_at (Wd := 0) sb mk mx my sh th ea be pi po as_ (sc (i + 1)) (sc (i + 2)) (sc (i + 3)) (sc (i + 4)) fnd mn xs ys hmn ⟨hx, hb, hml, hown, hta⟩ mw354 ⟨Nat.le_of_ble_eq_true rfl, Nat.le_of_ble_eq_true rfl⟩ hK hP hD [0, 5, 6, 7] rfl rfl hl.1 (Nat.le_of_ble_eq_true rfl) dL_law_455 ⟨Nat.le_of_ble_eq_true rfl, Nat.le_of_ble_eq_true rfl⟩ ?_
  refine lv_aload_n hx hb dL_law_458 rfl (lv_at hl 2 rfl) ?_
  refine lv_aload_n hx hb dL_law_459 rfl (lv_at hl 0 rfl) ?_
  refine lv_iload_n hx hb dL_law_460 rfl (lv_at hl 3 rfl) ?_
  refine lv_iconst (v := nI 1) hx hb dL_law_461 (by decide) ?_
  refine iaddN (a := i) (b := 1) hx hb dL_law_462 ?_
  refine va_sld hx hb hX hbl hbA hS (vp_in_nI (show i + 1 < L by omega) (by omega)) dL_law_463 ?_
  refine topI (sc (i + 1)) (congrArg sc (nI_clamp (by omega))) ?_
  refine lv_aload_n hx hb dL_law_464 rfl (lv_at hl 0 rfl) ?_
  refine lv_iload_n hx hb dL_law_465 rfl (lv_at hl 3 rfl) ?_
  refine lv_iconst (v := nI 2) hx hb dL_law_466 (by decide) ?_
  refine iaddN (a := i) (b := 2) hx hb dL_law_467 ?_
  refine va_sld hx hb hX hbl hbA hS (vp_in_nI (show i + 2 < L by omega) (by omega)) dL_law_468 ?_
  refine topI (sc (i + 2)) (congrArg sc (nI_clamp (by omega))) ?_
  refine lv_aload_n hx hb dL_law_469 rfl (lv_at hl 0 rfl) ?_
  refine lv_iload_n hx hb dL_law_470 rfl (lv_at hl 3 rfl) ?_
  refine lv_iconst (v := nI 3) hx hb dL_law_471 (by decide) ?_
  refine iaddN (a := i) (b := 3) hx hb dL_law_472 ?_
  refine va_sld hx hb hX hbl hbA hS (vp_in_nI (show i + 3 < L by omega) (by omega)) dL_law_473 ?_
  refine topI (sc (i + 3)) (congrArg sc (nI_clamp (by omega))) ?_
  refine lv_aload_n hx hb dL_law_474 rfl (lv_at hl 0 rfl) ?_
  refine lv_iload_n hx hb dL_law_475 rfl (lv_at hl 3 rfl) ?_
  refine lv_iconst (v := nI 4) hx hb dL_law_476 (by decide) ?_
  refine iaddN (a := i) (b := 4) hx hb dL_law_477 ?_
  refine va_sld hx hb hX hbl hbA hS (vp_in_nI (show i + 4 < L by omega) (by omega)) dL_law_478 ?_
  refine topI (sc (i + 4)) (congrArg sc (nI_clamp (by omega))) ?_
  refine k_X9_at (Wd := 1) md mdp mdl mdm mdi mdc mdt mds mdw mdh mdx mde mda mdb mdr (sc (i + 1)) (sc (i + 2)) (sc (i + 3)) (sc (i + 4)) fnd mn tn kn s1 s2 s3 mt an _ _ hmn ⟨hx, hb, hml, hown, hta⟩ mw867 ⟨Nat.le_of_ble_eq_true rfl, Nat.le_of_ble_eq_true rfl⟩ hK hP hD hS [24, 28] rfl rfl hl.1 (Nat.le_of_ble_eq_true rfl) dL_law_479 ⟨Nat.le_of_ble_eq_true rfl, Nat.le_of_ble_eq_true rfl⟩ (fun H locs hP hS => ?_)
  have hP : va_P D vwCl (wA sb sh shl shn shi mk mx my th tc ea et es be pi piw pih pin po poc poa pob as_ asn cI fnd la le it mn xs ys tn cs kn kt ks bt ba b1 b2 b3 wd hg nb ra rb pa pb pm cst mA mB an tr ++ wB md mdl mdm mdi mdp mdc mdt mds mdw mdh mdx mde mda mdb mdr cI fnd mn tn kn s1 s2 s3 mt an ml mm mi (plOf xs ys) cs kt ks wd hg nb cst mA mB tr) H := hP
  have hD : va_D (fun q : Nat => s.heap.size ≤ q) (wA sb sh shl shn shi mk mx my th tc ea et es be pi piw pih pin po poc poa pob as_ asn cI fnd la le it mn xs ys tn cs kn kt ks bt ba b1 b2 b3 wd hg nb ra rb pa pb pm cst mA mB an tr ++ wB md mdl mdm mdi mdp mdc mdt mds mdw mdh mdx mde mda mdb mdr cI fnd mn tn kn s1 s2 s3 mt an ml mm mi (plOf xs ys) cs kt ks wd hg nb cst mA mB tr) := hD.same rfl
  refine icmpI_eq (tgt := 1227) hx hb dL_law_482 (by decide) (fun c9 => ?_) (fun c9 => absurd rfl c9)
  refine lv_iinc (v := nI (i + 6)) (lv' := [(3, .int (nI (i + 6))), (0, .ref b), (1, .ref sb), (2, .ref md)]) hx hb dL_law_1227 hl (k := 3) rfl (nI_inc6 _) (by decide) rfl (fun ls hl => ?_)
  refine lv_goto (tgt := 18) hx hb dL_law_1230 (by decide) ?_
  exact ih fnd la le it mn xs ys tn cs kn kt ks bt ba b1 b2 b3 wd hg nb ra rb pa pb pm cst mA mB an tr ml mm mi s1 s2 s3 mt ⟨hRS, hmn, htn, hkn, hcs, hxs, hys, hko, hpi, han⟩ H locs hP hS ls (lv_sub hl [1, 2, 3, 0] rfl)

set_option maxHeartbeats 4000000 in
set_option maxRecDepth 100000 in
theorem lawc_third {p : Program} {l : Launch} {e : Env} {s : State} {m : MethodId} {below : List Frame} {meth : Method} {c : Code} {D : va_G} {cI : ClassId} {b L : Nat} {sc : Nat → Int32} (sb sh shl shn shi mk mx my th tc ea et es be pi piw pih pin po poc poa pob as_ asn : Nat) (md mdl mdm mdi mdp mdc mdt mds mdw mdh mdx mde mda mdb mdr : Nat) (fnd : Int32) (la : Nat → Int32) (le : Nat → Int32) (it : Nat → Int32) (mn : Nat) (xs : Nat → Int32) (ys : Nat → Int32) (tn : Nat) (cs : Nat → Int32) (kn : Nat) (kt : Nat → Int32) (ks : Nat → Int32) (bt : Int32) (ba : Int64) (b1 : Int64) (b2 : Int64) (b3 : Int64) (wd : Nat → Int32) (hg : Nat → Int32) (nb : Nat → Int32) (ra : Nat) (rb : Nat) (pa : Nat) (pb : Nat) (pm : Nat) (cst : Nat → Int32) (mA : Nat → Int32) (mB : Nat → Int32) (an : Nat) (tr : Nat → Int32) (ml : Nat → Int32) (mm : Nat → Int32) (mi : Nat → Int32) (s1 : Int64) (s2 : Int64) (s3 : Int64) (mt : Nat) (hC : LC p s m meth c D cI b L sc) (hI : INV la le it mn xs ys tn cs kn kt ks wd hg an ml mm mi) (H : Heap) (locs : List Loc) (hP : va_P D vwCl (wA sb sh shl shn shi mk mx my th tc ea et es be pi piw pih pin po poc poa pob as_ asn cI fnd la le it mn xs ys tn cs kn kt ks bt ba b1 b2 b3 wd hg nb ra rb pa pb pm cst mA mB an tr ++ wB md mdl mdm mdi mdp mdc mdt mds mdw mdh mdx mde mda mdb mdr cI fnd mn tn kn s1 s2 s3 mt an ml mm mi (plOf xs ys) cs kt ks wd hg nb cst mA mB tr) H) (hD : va_D (fun q : Nat => s.heap.size ≤ q) (wA sb sh shl shn shi mk mx my th tc ea et es be pi piw pih pin po poc poa pob as_ asn cI fnd la le it mn xs ys tn cs kn kt ks bt ba b1 b2 b3 wd hg nb ra rb pa pb pm cst mA mB an tr ++ wB md mdl mdm mdi mdp mdc mdt mds mdw mdh mdx mde mda mdb mdr cI fnd mn tn kn s1 s2 s3 mt an ml mm mi (plOf xs ys) cs kt ks wd hg nb cst mA mB tr)) (hS : va_S (fun q : Nat => s.heap.size ≤ q) s.heap H locs) (i : Nat) (hi : i + 6 ≤ L) (ih : LH p l e s m below meth c D cI b sb sh shl shn shi mk mx my th tc ea et es be pi piw pih pin po poc poa pob as_ asn md mdl mdm mdi mdp mdc mdt mds mdw mdh mdx mde mda mdb mdr (i + 6)) (ls : Array Slot) (hl : lv_has ls 4 [(0, .ref b), (1, .ref sb), (2, .ref md), (3, .int (nI i))]) : W p l e room_1 s m #[Value.ref b] below meth c H locs 39 5353 (lw_Z below #[Value.ref b] s) (F0 m 487 ls []) := by
  obtain ⟨hx, hb, hr, hml, hown, hta, hX, hbl, hlocks, hK, hL⟩ := hC
  obtain ⟨hRS, hmn, htn, hkn, hcs, hxs, hys, hko, hpi, han⟩ := hI
  have hbA : ¬ (fun q : Nat => s.heap.size ≤ q) b := Nat.not_le.mpr hbl
  have hkt := KOK_ne hko
  have hsh := RS_SH hRS
  refine lv_aload_n hx hb dL_law_487 rfl (lv_at hl 1 rfl) ?_
  refine lv_aload_n hx hb dL_law_488 rfl (lv_at hl 0 rfl) ?_
  refine lv_iload_n hx hb dL_law_489 rfl (lv_at hl 3 rfl) ?_
  refine lv_iconst (v := nI 1) hx hb dL_law_490 (by decide) ?_
  refine iaddN (a := i) (b := 1) hx hb dL_law_491 ?_
  refine va_sld hx hb hX hbl hbA hS (vp_in_nI (show i + 1 < L by omega) (by omega)) dL_law_492 ?_
  refine topI (sc (i + 1)) (congrArg sc (nI_clamp (by omega))) ?_
  refine lv_aload_n hx hb dL_law_493 rfl (lv_at hl 0 rfl) ?_
  refine lv_iload_n hx hb dL_law_494 rfl (lv_at hl 3 rfl) ?_
  refine lv_iconst (v := nI 2) hx hb dL_law_495 (by decide) ?_
  refine iaddN (a := i) (b := 2) hx hb dL_law_496 ?_
  refine va_sld hx hb hX hbl hbA hS (vp_in_nI (show i + 2 < L by omega) (by omega)) dL_law_497 ?_
  refine topI (sc (i + 2)) (congrArg sc (nI_clamp (by omega))) ?_
  refine lv_aload_n hx hb dL_law_498 rfl (lv_at hl 0 rfl) ?_
  refine lv_iload_n hx hb dL_law_499 rfl (lv_at hl 3 rfl) ?_
  refine lv_iconst (v := nI 3) hx hb dL_law_500 (by decide) ?_
  refine iaddN (a := i) (b := 3) hx hb dL_law_501 ?_
  refine va_sld hx hb hX hbl hbA hS (vp_in_nI (show i + 3 < L by omega) (by omega)) dL_law_502 ?_
  refine topI (sc (i + 3)) (congrArg sc (nI_clamp (by omega))) ?_
  refine k_X8_third (Wd := 0) sb th tc mk mx my sh ea be pi po as_ (sc (i + 1)) (sc (i + 2)) (sc (i + 3)) fnd tn cs mn xs ys hmn htn hcs ⟨hx, hb, hml, hown, hta⟩ mw380 ⟨Nat.le_of_ble_eq_true rfl, Nat.le_of_ble_eq_true rfl⟩ hK hP hD hS [0, 8, 9, 5, 6, 7] rfl rfl hl.1 (Nat.le_of_ble_eq_true rfl) dL_law_503 ⟨Nat.le_of_ble_eq_true rfl, Nat.le_of_ble_eq_true rfl⟩ (fun r1 tn1 cs1 hq1 H locs hP hS => ?_)
  have hP : va_P D vwCl (wA sb sh shl shn shi mk mx my th tc ea et es be pi piw pih pin po poc poa pob as_ asn cI fnd la le it mn xs ys tn1 cs1 kn kt ks bt ba b1 b2 b3 wd hg nb ra rb pa pb pm cst mA mB an tr ++ wB md mdl mdm mdi mdp mdc mdt mds mdw mdh mdx mde mda mdb mdr cI fnd mn tn kn s1 s2 s3 mt an ml mm mi (plOf xs ys) cs kt ks wd hg nb cst mA mB tr) H := hP
  have hD : va_D (fun q : Nat => s.heap.size ≤ q) (wA sb sh shl shn shi mk mx my th tc ea et es be pi piw pih pin po poc poa pob as_ asn cI fnd la le it mn xs ys tn1 cs1 kn kt ks bt ba b1 b2 b3 wd hg nb ra rb pa pb pm cst mA mB an tr ++ wB md mdl mdm mdi mdp mdc mdt mds mdw mdh mdx mde mda mdb mdr cI fnd mn tn kn s1 s2 s3 mt an ml mm mi (plOf xs ys) cs kt ks wd hg nb cst mA mB tr) := hD.same rfl
  refine lv_aload_n hx hb dL_law_506 rfl (lv_at hl 2 rfl) ?_
  refine lv_aload_n hx hb dL_law_507 rfl (lv_at hl 0 rfl) ?_
  refine lv_iload_n hx hb dL_law_508 rfl (lv_at hl 3 rfl) ?_
  refine lv_iconst (v := nI 1) hx hb dL_law_509 (by decide) ?_
  refine iaddN (a := i) (b := 1) hx hb dL_law_510 ?_
  refine va_sld hx hb hX hbl hbA hS (vp_in_nI (show i + 1 < L by omega) (by omega)) dL_law_511 ?_
  refine topI (sc (i + 1)) (congrArg sc (nI_clamp (by omega))) ?_
  refine lv_aload_n hx hb dL_law_512 rfl (lv_at hl 0 rfl) ?_
  refine lv_iload_n hx hb dL_law_513 rfl (lv_at hl 3 rfl) ?_
  refine lv_iconst (v := nI 2) hx hb dL_law_514 (by decide) ?_
  refine iaddN (a := i) (b := 2) hx hb dL_law_515 ?_
  refine va_sld hx hb hX hbl hbA hS (vp_in_nI (show i + 2 < L by omega) (by omega)) dL_law_516 ?_
  refine topI (sc (i + 2)) (congrArg sc (nI_clamp (by omega))) ?_
  refine lv_aload_n hx hb dL_law_517 rfl (lv_at hl 0 rfl) ?_
  refine lv_iload_n hx hb dL_law_518 rfl (lv_at hl 3 rfl) ?_
  refine lv_iconst (v := nI 3) hx hb dL_law_519 (by decide) ?_
  refine iaddN (a := i) (b := 3) hx hb dL_law_520 ?_
  refine va_sld hx hb hX hbl hbA hS (vp_in_nI (show i + 3 < L by omega) (by omega)) dL_law_521 ?_
  refine topI (sc (i + 3)) (congrArg sc (nI_clamp (by omega))) ?_
  refine k_X9_third (Wd := 1) md mdc mdl mdm mdi mdp mdt mds mdw mdh mdx mde mda mdb mdr (sc (i + 1)) (sc (i + 2)) (sc (i + 3)) fnd mn tn kn s1 s2 s3 mt an cs hmn htn hcs ⟨hx, hb, hml, hown, hta⟩ mw879 ⟨Nat.le_of_ble_eq_true rfl, Nat.le_of_ble_eq_true rfl⟩ hK hP hD hS [24, 29] rfl rfl hl.1 (Nat.le_of_ble_eq_true rfl) dL_law_522 ⟨Nat.le_of_ble_eq_true rfl, Nat.le_of_ble_eq_true rfl⟩ (fun r2 tn2 cs2 hq2 H locs hP hS => ?_)
  have hP : va_P D vwCl (wA sb sh shl shn shi mk mx my th tc ea et es be pi piw pih pin po poc poa pob as_ asn cI fnd la le it mn xs ys tn1 cs1 kn kt ks bt ba b1 b2 b3 wd hg nb ra rb pa pb pm cst mA mB an tr ++ wB md mdl mdm mdi mdp mdc mdt mds mdw mdh mdx mde mda mdb mdr cI fnd mn tn2 kn s1 s2 s3 mt an ml mm mi (plOf xs ys) cs2 kt ks wd hg nb cst mA mB tr) H := hP
  have hD : va_D (fun q : Nat => s.heap.size ≤ q) (wA sb sh shl shn shi mk mx my th tc ea et es be pi piw pih pin po poc poa pob as_ asn cI fnd la le it mn xs ys tn1 cs1 kn kt ks bt ba b1 b2 b3 wd hg nb ra rb pa pb pm cst mA mB an tr ++ wB md mdl mdm mdi mdp mdc mdt mds mdw mdh mdx mde mda mdb mdr cI fnd mn tn2 kn s1 s2 s3 mt an ml mm mi (plOf xs ys) cs2 kt ks wd hg nb cst mA mB tr) := hD.same rfl
  have e9 := hq1.trans hq2.symm
  simp only [Prod.mk.injEq] at e9
  obtain ⟨e9_0, e9_1, e9_2⟩ := e9
  subst e9_0
  subst e9_1
  subst e9_2
  obtain ⟨htn, hcs⟩ := thd_inv hmn htn hcs hq1
  have hP : va_P D vwCl (wA sb sh shl shn shi mk mx my th tc ea et es be pi piw pih pin po poc poa pob as_ asn cI fnd la le it mn xs ys tn1 cs1 kn kt ks bt ba b1 b2 b3 wd hg nb ra rb pa pb pm cst mA mB an tr ++ wB md mdl mdm mdi mdp mdc mdt mds mdw mdh mdx mde mda mdb mdr cI fnd mn (tn1) kn s1 s2 s3 mt an ml mm mi (plOf xs ys) (cs1) kt ks wd hg nb cst mA mB tr) H := hP
  have hD : va_D (fun q : Nat => s.heap.size ≤ q) (wA sb sh shl shn shi mk mx my th tc ea et es be pi piw pih pin po poc poa pob as_ asn cI fnd la le it mn xs ys tn1 cs1 kn kt ks bt ba b1 b2 b3 wd hg nb ra rb pa pb pm cst mA mB an tr ++ wB md mdl mdm mdi mdp mdc mdt mds mdw mdh mdx mde mda mdb mdr cI fnd mn (tn1) kn s1 s2 s3 mt an ml mm mi (plOf xs ys) (cs1) kt ks wd hg nb cst mA mB tr) := hD.same rfl
  refine icmpI_eq (tgt := 1227) hx hb dL_law_525 (by decide) (fun c9 => ?_) (fun c9 => absurd rfl c9)
  refine lv_iinc (v := nI (i + 6)) (lv' := [(3, .int (nI (i + 6))), (0, .ref b), (1, .ref sb), (2, .ref md)]) hx hb dL_law_1227 hl (k := 3) rfl (nI_inc6 _) (by decide) rfl (fun ls hl => ?_)
  refine lv_goto (tgt := 18) hx hb dL_law_1230 (by decide) ?_
  exact ih fnd la le it mn xs ys tn1 cs1 kn kt ks bt ba b1 b2 b3 wd hg nb ra rb pa pb pm cst mA mB an tr ml mm mi s1 s2 s3 mt ⟨hRS, hmn, htn, hkn, hcs, hxs, hys, hko, hpi, han⟩ H locs hP hS ls (lv_sub hl [1, 2, 3, 0] rfl)

set_option maxHeartbeats 4000000 in
set_option maxRecDepth 100000 in
theorem lawc_told {p : Program} {l : Launch} {e : Env} {s : State} {m : MethodId} {below : List Frame} {meth : Method} {c : Code} {D : va_G} {cI : ClassId} {b L : Nat} {sc : Nat → Int32} (sb sh shl shn shi mk mx my th tc ea et es be pi piw pih pin po poc poa pob as_ asn : Nat) (md mdl mdm mdi mdp mdc mdt mds mdw mdh mdx mde mda mdb mdr : Nat) (fnd : Int32) (la : Nat → Int32) (le : Nat → Int32) (it : Nat → Int32) (mn : Nat) (xs : Nat → Int32) (ys : Nat → Int32) (tn : Nat) (cs : Nat → Int32) (kn : Nat) (kt : Nat → Int32) (ks : Nat → Int32) (bt : Int32) (ba : Int64) (b1 : Int64) (b2 : Int64) (b3 : Int64) (wd : Nat → Int32) (hg : Nat → Int32) (nb : Nat → Int32) (ra : Nat) (rb : Nat) (pa : Nat) (pb : Nat) (pm : Nat) (cst : Nat → Int32) (mA : Nat → Int32) (mB : Nat → Int32) (an : Nat) (tr : Nat → Int32) (ml : Nat → Int32) (mm : Nat → Int32) (mi : Nat → Int32) (s1 : Int64) (s2 : Int64) (s3 : Int64) (mt : Nat) (hC : LC p s m meth c D cI b L sc) (hI : INV la le it mn xs ys tn cs kn kt ks wd hg an ml mm mi) (H : Heap) (locs : List Loc) (hP : va_P D vwCl (wA sb sh shl shn shi mk mx my th tc ea et es be pi piw pih pin po poc poa pob as_ asn cI fnd la le it mn xs ys tn cs kn kt ks bt ba b1 b2 b3 wd hg nb ra rb pa pb pm cst mA mB an tr ++ wB md mdl mdm mdi mdp mdc mdt mds mdw mdh mdx mde mda mdb mdr cI fnd mn tn kn s1 s2 s3 mt an ml mm mi (plOf xs ys) cs kt ks wd hg nb cst mA mB tr) H) (hD : va_D (fun q : Nat => s.heap.size ≤ q) (wA sb sh shl shn shi mk mx my th tc ea et es be pi piw pih pin po poc poa pob as_ asn cI fnd la le it mn xs ys tn cs kn kt ks bt ba b1 b2 b3 wd hg nb ra rb pa pb pm cst mA mB an tr ++ wB md mdl mdm mdi mdp mdc mdt mds mdw mdh mdx mde mda mdb mdr cI fnd mn tn kn s1 s2 s3 mt an ml mm mi (plOf xs ys) cs kt ks wd hg nb cst mA mB tr)) (hS : va_S (fun q : Nat => s.heap.size ≤ q) s.heap H locs) (i : Nat) (hi : i + 6 ≤ L) (ih : LH p l e s m below meth c D cI b sb sh shl shn shi mk mx my th tc ea et es be pi piw pih pin po poc poa pob as_ asn md mdl mdm mdi mdp mdc mdt mds mdw mdh mdx mde mda mdb mdr (i + 6)) (ls : Array Slot) (hl : lv_has ls 4 [(0, .ref b), (1, .ref sb), (2, .ref md), (3, .int (nI i))]) : W p l e room_1 s m #[Value.ref b] below meth c H locs 39 5353 (lw_Z below #[Value.ref b] s) (F0 m 530 ls []) := by
  obtain ⟨hx, hb, hr, hml, hown, hta, hX, hbl, hlocks, hK, hL⟩ := hC
  obtain ⟨hRS, hmn, htn, hkn, hcs, hxs, hys, hko, hpi, han⟩ := hI
  have hbA : ¬ (fun q : Nat => s.heap.size ≤ q) b := Nat.not_le.mpr hbl
  have hkt := KOK_ne hko
  have hsh := RS_SH hRS
  refine lv_aload_n hx hb dL_law_530 rfl (lv_at hl 1 rfl) ?_
  refine lv_aload_n hx hb dL_law_531 rfl (lv_at hl 0 rfl) ?_
  refine lv_iload_n hx hb dL_law_532 rfl (lv_at hl 3 rfl) ?_
  refine lv_iconst (v := nI 1) hx hb dL_law_533 (by decide) ?_
  refine iaddN (a := i) (b := 1) hx hb dL_law_534 ?_
  refine va_sld hx hb hX hbl hbA hS (vp_in_nI (show i + 1 < L by omega) (by omega)) dL_law_535 ?_
  refine topI (sc (i + 1)) (congrArg sc (nI_clamp (by omega))) ?_
  refine lv_aload_n hx hb dL_law_536 rfl (lv_at hl 0 rfl) ?_
  refine lv_iload_n hx hb dL_law_537 rfl (lv_at hl 3 rfl) ?_
  refine lv_iconst (v := nI 2) hx hb dL_law_538 (by decide) ?_
  refine iaddN (a := i) (b := 2) hx hb dL_law_539 ?_
  refine va_sld hx hb hX hbl hbA hS (vp_in_nI (show i + 2 < L by omega) (by omega)) dL_law_540 ?_
  refine topI (sc (i + 2)) (congrArg sc (nI_clamp (by omega))) ?_
  refine k_X8_told (Wd := 0) sb th tc mk mx my sh ea be pi po as_ (sc (i + 1)) (sc (i + 2)) fnd tn cs mn xs ys hmn htn hcs ⟨hx, hb, hml, hown, hta⟩ mw405 ⟨Nat.le_of_ble_eq_true rfl, Nat.le_of_ble_eq_true rfl⟩ hK hP hD [0, 8, 9, 5, 6, 7] rfl rfl hl.1 (Nat.le_of_ble_eq_true rfl) dL_law_541 ⟨Nat.le_of_ble_eq_true rfl, Nat.le_of_ble_eq_true rfl⟩ ?_
  refine lv_aload_n hx hb dL_law_544 rfl (lv_at hl 2 rfl) ?_
  refine lv_aload_n hx hb dL_law_545 rfl (lv_at hl 0 rfl) ?_
  refine lv_iload_n hx hb dL_law_546 rfl (lv_at hl 3 rfl) ?_
  refine lv_iconst (v := nI 1) hx hb dL_law_547 (by decide) ?_
  refine iaddN (a := i) (b := 1) hx hb dL_law_548 ?_
  refine va_sld hx hb hX hbl hbA hS (vp_in_nI (show i + 1 < L by omega) (by omega)) dL_law_549 ?_
  refine topI (sc (i + 1)) (congrArg sc (nI_clamp (by omega))) ?_
  refine lv_aload_n hx hb dL_law_550 rfl (lv_at hl 0 rfl) ?_
  refine lv_iload_n hx hb dL_law_551 rfl (lv_at hl 3 rfl) ?_
  refine lv_iconst (v := nI 2) hx hb dL_law_552 (by decide) ?_
  refine iaddN (a := i) (b := 2) hx hb dL_law_553 ?_
  refine va_sld hx hb hX hbl hbA hS (vp_in_nI (show i + 2 < L by omega) (by omega)) dL_law_554 ?_
  refine topI (sc (i + 2)) (congrArg sc (nI_clamp (by omega))) ?_
  refine k_X9_told (Wd := 1) md mdp mdc mdl mdm mdi mdt mds mdw mdh mdx mde mda mdb mdr (sc (i + 1)) (sc (i + 2)) fnd mn tn kn s1 s2 s3 mt an cs _ _ hmn htn hcs ⟨hx, hb, hml, hown, hta⟩ mw884 ⟨Nat.le_of_ble_eq_true rfl, Nat.le_of_ble_eq_true rfl⟩ hK hP hD hS [24, 28, 29] rfl rfl hl.1 (Nat.le_of_ble_eq_true rfl) dL_law_555 ⟨Nat.le_of_ble_eq_true rfl, Nat.le_of_ble_eq_true rfl⟩ (fun H locs hP hS => ?_)
  have hP : va_P D vwCl (wA sb sh shl shn shi mk mx my th tc ea et es be pi piw pih pin po poc poa pob as_ asn cI fnd la le it mn xs ys tn cs kn kt ks bt ba b1 b2 b3 wd hg nb ra rb pa pb pm cst mA mB an tr ++ wB md mdl mdm mdi mdp mdc mdt mds mdw mdh mdx mde mda mdb mdr cI fnd mn tn kn s1 s2 s3 mt an ml mm mi (plOf xs ys) cs kt ks wd hg nb cst mA mB tr) H := hP
  have hD : va_D (fun q : Nat => s.heap.size ≤ q) (wA sb sh shl shn shi mk mx my th tc ea et es be pi piw pih pin po poc poa pob as_ asn cI fnd la le it mn xs ys tn cs kn kt ks bt ba b1 b2 b3 wd hg nb ra rb pa pb pm cst mA mB an tr ++ wB md mdl mdm mdi mdp mdc mdt mds mdw mdh mdx mde mda mdb mdr cI fnd mn tn kn s1 s2 s3 mt an ml mm mi (plOf xs ys) cs kt ks wd hg nb cst mA mB tr) := hD.same rfl
  refine icmpI_eq (tgt := 1227) hx hb dL_law_558 (by decide) (fun c9 => ?_) (fun c9 => absurd rfl c9)
  refine lv_iinc (v := nI (i + 6)) (lv' := [(3, .int (nI (i + 6))), (0, .ref b), (1, .ref sb), (2, .ref md)]) hx hb dL_law_1227 hl (k := 3) rfl (nI_inc6 _) (by decide) rfl (fun ls hl => ?_)
  refine lv_goto (tgt := 18) hx hb dL_law_1230 (by decide) ?_
  exact ih fnd la le it mn xs ys tn cs kn kt ks bt ba b1 b2 b3 wd hg nb ra rb pa pb pm cst mA mB an tr ml mm mi s1 s2 s3 mt ⟨hRS, hmn, htn, hkn, hcs, hxs, hys, hko, hpi, han⟩ H locs hP hS ls (lv_sub hl [1, 2, 3, 0] rfl)
