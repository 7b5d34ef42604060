theorem exit_iff {L i : Nat} (hL : L < 2 ^ 30) (hi : i < 2 ^ 30) : nI L - nI 6 < nI i ↔ L < i + 6 := by
  rw [Int32.lt_iff_toInt_lt, pk_sub_toInt hL (by omega), nI_toInt (by omega)]
  omega
set_option maxHeartbeats 4000000 in
set_option maxRecDepth 100000 in
theorem law_loop {p : Program} {l : Launch} {e : Env} {s : State} {m : MethodId} {below : List Frame} {meth : Method} {c : Code} {D : va_G} {cI : ClassId} {b L : Nat} {sc : Nat → Int32} (sb sh shl shn shi mk mx my th tc ea et es be pi piw pih pin po poc poa pob as_ asn : Nat) (md mdl mdm mdi mdp mdc mdt mds mdw mdh mdx mde mda mdb mdr : Nat) (hC : LC p s m meth c D cI b L sc) (hDa : ∀ (fnd : Int32) (la : Nat → Int32) (le : Nat → Int32) (it : Nat → Int32) (mn : Nat) (xs : Nat → Int32) (ys : Nat → Int32) (tn : Nat) (cs : Nat → Int32) (kn : Nat) (kt : Nat → Int32) (ks : Nat → Int32) (bt : Int32) (ba : Int64) (b1 : Int64) (b2 : Int64) (b3 : Int64) (wd : Nat → Int32) (hg : Nat → Int32) (nb : Nat → Int32) (ra : Nat) (rb : Nat) (pa : Nat) (pb : Nat) (pm : Nat) (cst : Nat → Int32) (mA : Nat → Int32) (mB : Nat → Int32) (an : Nat) (tr : Nat → Int32) (ml : Nat → Int32) (mm : Nat → Int32) (mi : Nat → Int32) (s1 : Int64) (s2 : Int64) (s3 : Int64) (mt : Nat), va_D (fun q : Nat => s.heap.size ≤ q) (wA sb sh shl shn shi mk mx my th tc ea et es be pi piw pih pin po poc poa pob as_ asn cI fnd la le it mn xs ys tn cs kn kt ks bt ba b1 b2 b3 wd hg nb ra rb pa pb pm cst mA mB an tr ++ wB md mdl mdm mdi mdp mdc mdt mds mdw mdh mdx mde mda mdb mdr cI fnd mn tn kn s1 s2 s3 mt an ml mm mi (plOf xs ys) cs kt ks wd hg nb cst mA mB tr)) : ∀ (n i : Nat), i ≤ L + 6 → L + 6 ≤ i + 6 * n → LH p l e s m below meth c D cI b sb sh shl shn shi mk mx my th tc ea et es be pi piw pih pin po poc poa pob as_ asn md mdl mdm mdi mdp mdc mdt mds mdw mdh mdx mde mda mdb mdr i := by
  obtain ⟨hx, hb, hr, hml, hown, hta, hX, hbl, hlocks, hK, hL⟩ := id hC
  have hbA : ¬ (fun q : Nat => s.heap.size ≤ q) b := Nat.not_le.mpr hbl
  intro n
  induction n with
  | zero =>
    intro i h1 h2 fnd la le it mn xs ys tn cs kn kt ks bt ba b1 b2 b3 wd hg nb ra rb pa pb pm cst mA mB an tr ml mm mi s1 s2 s3 mt hI H locs hP hS ls hl
    refine lv_iload_n hx hb dL_law_18 rfl (lv_at hl 3 rfl) ?_
    refine lv_aload_n hx hb dL_law_19 rfl (lv_at hl 0 rfl) ?_
    refine va_slen hx hb hX hbl hbA hS dL_law_20 ?_
    refine lv_bipush (v := nI 6) hx hb dL_law_21 (by decide) ?_
    refine lv_isub hx hb dL_law_23 ?_
    refine icmpI_gt (tgt := 1233) hx hb dL_law_24 (by decide) (fun c_24 => ?_) (fun c_24 => absurd ((exit_iff (by omega) (by omega)).mpr (by omega)) c_24)
    refine lv_iconst (v := 1) hx hb dL_law_1233 (by decide) ?_
    refine va_forget (fun q hq => hS.2.2 q hq) ?_
    exact lw_ret hx hb hr hlocks dL_law_1234
  | succ n ih =>
    intro i h1 h2 fnd la le it mn xs ys tn cs kn kt ks bt ba b1 b2 b3 wd hg nb ra rb pa pb pm cst mA mB an tr ml mm mi s1 s2 s3 mt hI H locs hP hS ls hl
    refine lv_iload_n hx hb dL_law_18 rfl (lv_at hl 3 rfl) ?_
    refine lv_aload_n hx hb dL_law_19 rfl (lv_at hl 0 rfl) ?_
    refine va_slen hx hb hX hbl hbA hS dL_law_20 ?_
    refine lv_bipush (v := nI 6) hx hb dL_law_21 (by decide) ?_
    refine lv_isub hx hb dL_law_23 ?_
    refine icmpI_gt (tgt := 1233) hx hb dL_law_24 (by decide) (fun c_24 => ?_) (fun c_24 => ?_)
    · refine lv_iconst (v := 1) hx hb dL_law_1233 (by decide) ?_
      refine va_forget (fun q hq => hS.2.2 q hq) ?_
      exact lw_ret hx hb hr hlocks dL_law_1234
    have hi : i + 6 ≤ L := Nat.not_lt.mp (fun z => c_24 ((exit_iff (by omega) (by omega)).mpr z))
    have hN := ih (i + 6) (by omega) (by omega)
    have hD := hDa fnd la le it mn xs ys tn cs kn kt ks bt ba b1 b2 b3 wd hg nb ra rb pa pb pm cst mA mB an tr ml mm mi s1 s2 s3 mt
    refine lv_aload_n hx hb dL_law_27 rfl (lv_at hl 0 rfl) ?_
    refine lv_iload_n hx hb dL_law_28 rfl (lv_at hl 3 rfl) ?_
    refine va_sld hx hb hX hbl hbA hS (vp_in_nI (show i < L by omega) (by omega)) dL_law_29 ?_
    refine lv_bipush (v := nI 31) hx hb dL_law_30 (by decide) ?_
    refine lv_iand hx hb dL_law_32 ?_
    obtain ⟨j, hj, ej⟩ := pk_andE (sc (nI i).toNatClampNeg) (m := nI 31) 5 (by decide)
    refine topN j ej ?_
    have hsw : j = 0 ∨ j = 1 ∨ j = 2 ∨ j = 3 ∨ j = 4 ∨ j = 5 ∨ j = 6 ∨ j = 7 ∨ j = 8 ∨ j = 9 ∨ j = 10 ∨ j = 11 ∨ j = 12 ∨ j = 13 ∨ j = 14 ∨ j = 15 ∨ j = 16 ∨ j = 17 ∨ j = 18 ∨ j = 19 ∨ j = 20 ∨ j = 21 ∨ j = 22 ∨ j = 23 ∨ j = 24 ∨ j = 25 ∨ j = 26 ∨ j = 27 ∨ j = 28 ∨ j = 29 ∨ j = 30 ∨ j = 31 := by omega
    rcases hsw with c9 | c9 | c9 | c9 | c9 | c9 | c9 | c9 | c9 | c9 | c9 | c9 | c9 | c9 | c9 | c9 | c9 | c9 | c9 | c9 | c9 | c9 | c9 | c9 | c9 | c9 | c9 | c9 | c9 | c9 | c9 | c9
    · refine tabIn (tgt := 156) (off := 123) 0 hx hb dL_law_33 c9 (by decide) (by decide) (by decide) (by decide) (by decide) ?_
      exact lawc_sheet sb sh shl shn shi mk mx my th tc ea et es be pi piw pih pin po poc poa pob as_ asn md mdl mdm mdi mdp mdc mdt mds mdw mdh mdx mde mda mdb mdr fnd la le it mn xs ys tn cs kn kt ks bt ba b1 b2 b3 wd hg nb ra rb pa pb pm cst mA mB an tr ml mm mi s1 s2 s3 mt hC hI H locs hP hD hS i hi hN ls hl
    · refine tabIn (tgt := 199) (off := 166) 1 hx hb dL_law_33 c9 (by decide) (by decide) (by decide) (by decide) (by decide) ?_
      exact lawc_set sb sh shl shn shi mk mx my th tc ea et es be pi piw pih pin po poc poa pob as_ asn md mdl mdm mdi mdp mdc mdt mds mdw mdh mdx mde mda mdb mdr fnd la le it mn xs ys tn cs kn kt ks bt ba b1 b2 b3 wd hg nb ra rb pa pb pm cst mA mB an tr ml mm mi s1 s2 s3 mt hC hI H locs hP hD hS i hi hN ls hl
    · refine tabIn (tgt := 242) (off := 209) 2 hx hb dL_law_33 c9 (by decide) (by decide) (by decide) (by decide) (by decide) ?_
      exact lawc_copy sb sh shl shn shi mk mx my th tc ea et es be pi piw pih pin po poc poa pob as_ asn md mdl mdm mdi mdp mdc mdt mds mdw mdh mdx mde mda mdb mdr fnd la le it mn xs ys tn cs kn kt ks bt ba b1 b2 b3 wd hg nb ra rb pa pb pm cst mA mB an tr ml mm mi s1 s2 s3 mt hC hI H locs hP hD hS i hi hN ls hl
    · refine tabIn (tgt := 305) (off := 272) 3 hx hb dL_law_33 c9 (by decide) (by decide) (by decide) (by decide) (by decide) ?_
      exact lawc_drop sb sh shl shn shi mk mx my th tc ea et es be pi piw pih pin po poc poa pob as_ asn md mdl mdm mdi mdp mdc mdt mds mdw mdh mdx mde mda mdb mdr fnd la le it mn xs ys tn cs kn kt ks bt ba b1 b2 b3 wd hg nb ra rb pa pb pm cst mA mB an tr ml mm mi s1 s2 s3 mt hC hI H locs hP hD hS i hi hN ls hl
    · refine tabIn (tgt := 328) (off := 295) 4 hx hb dL_law_33 c9 (by decide) (by decide) (by decide) (by decide) (by decide) ?_
      exact lawc_mark sb sh shl shn shi mk mx my th tc ea et es be pi piw pih pin po poc poa pob as_ asn md mdl mdm mdi mdp mdc mdt mds mdw mdh mdx mde mda mdb mdr fnd la le it mn xs ys tn cs kn kt ks bt ba b1 b2 b3 wd hg nb ra rb pa pb pm cst mA mB an tr ml mm mi s1 s2 s3 mt hC hI H locs hP hD hS i hi hN ls hl
    · refine tabIn (tgt := 381) (off := 348) 5 hx hb dL_law_33 c9 (by decide) (by decide) (by decide) (by decide) (by decide) ?_
      exact lawc_move sb sh shl shn shi mk mx my th tc ea et es be pi piw pih pin po poc poa pob as_ asn md mdl mdm mdi mdp mdc mdt mds mdw mdh mdx mde mda mdb mdr fnd la le it mn xs ys tn cs kn kt ks bt ba b1 b2 b3 wd hg nb ra rb pa pb pm cst mA mB an tr ml mm mi s1 s2 s3 mt hC hI H locs hP hD hS i hi hN ls hl
    · refine tabIn (tgt := 434) (off := 401) 6 hx hb dL_law_33 c9 (by decide) (by decide) (by decide) (by decide) (by decide) ?_
      exact lawc_at sb sh shl shn shi mk mx my th tc ea et es be pi piw pih pin po poc poa pob as_ asn md mdl mdm mdi mdp mdc mdt mds mdw mdh mdx mde mda mdb mdr fnd la le it mn xs ys tn cs kn kt ks bt ba b1 b2 b3 wd hg nb ra rb pa pb pm cst mA mB an tr ml mm mi s1 s2 s3 mt hC hI H locs hP hD hS i hi hN ls hl
    · refine tabIn (tgt := 487) (off := 454) 7 hx hb dL_law_33 c9 (by decide) (by decide) (by decide) (by decide) (by decide) ?_
      exact lawc_third sb sh shl shn shi mk mx my th tc ea et es be pi piw pih pin po poc poa pob as_ asn md mdl mdm mdi mdp mdc mdt mds mdw mdh mdx mde mda mdb mdr fnd la le it mn xs ys tn cs kn kt ks bt ba b1 b2 b3 wd hg nb ra rb pa pb pm cst mA mB an tr ml mm mi s1 s2 s3 mt hC hI H locs hP hD hS i hi hN ls hl
    · refine tabIn (tgt := 530) (off := 497) 8 hx hb dL_law_33 c9 (by decide) (by decide) (by decide) (by decide) (by decide) ?_
      exact lawc_told sb sh shl shn shi mk mx my th tc ea et es be pi piw pih pin po poc poa pob as_ asn md mdl mdm mdi mdp mdc mdt mds mdw mdh mdx mde mda mdb mdr fnd la le it mn xs ys tn cs kn kt ks bt ba b1 b2 b3 wd hg nb ra rb pa pb pm cst mA mB an tr ml mm mi s1 s2 s3 mt hC hI H locs hP hD hS i hi hN ls hl
    · refine tabIn (tgt := 563) (off := 530) 9 hx hb dL_law_33 c9 (by decide) (by decide) (by decide) (by decide) (by decide) ?_
      exact lawc_folds sb sh shl shn shi mk mx my th tc ea et es be pi piw pih pin po poc poa pob as_ asn md mdl mdm mdi mdp mdc mdt mds mdw mdh mdx mde mda mdb mdr fnd la le it mn xs ys tn cs kn kt ks bt ba b1 b2 b3 wd hg nb ra rb pa pb pm cst mA mB an tr ml mm mi s1 s2 s3 mt hC hI H locs hP hD hS i hi hN ls hl
    · refine tabIn (tgt := 596) (off := 563) 10 hx hb dL_law_33 c9 (by decide) (by decide) (by decide) (by decide) (by decide) ?_
      exact lawc_first sb sh shl shn shi mk mx my th tc ea et es be pi piw pih pin po poc poa pob as_ asn md mdl mdm mdi mdp mdc mdt mds mdw mdh mdx mde mda mdb mdr fnd la le it mn xs ys tn cs kn kt ks bt ba b1 b2 b3 wd hg nb ra rb pa pb pm cst mA mB an tr ml mm mi s1 s2 s3 mt hC hI H locs hP hD hS i hi hN ls hl
    · refine tabIn (tgt := 629) (off := 596) 11 hx hb dL_law_33 c9 (by decide) (by decide) (by decide) (by decide) (by decide) ?_
      exact lawc_sides sb sh shl shn shi mk mx my th tc ea et es be pi piw pih pin po poc poa pob as_ asn md mdl mdm mdi mdp mdc mdt mds mdw mdh mdx mde mda mdb mdr fnd la le it mn xs ys tn cs kn kt ks bt ba b1 b2 b3 wd hg nb ra rb pa pb pm cst mA mB an tr ml mm mi s1 s2 s3 mt hC hI H locs hP hD hS i hi hN ls hl
    · refine tabIn (tgt := 652) (off := 619) 12 hx hb dL_law_33 c9 (by decide) (by decide) (by decide) (by decide) (by decide) ?_
      exact lawc_key sb sh shl shn shi mk mx my th tc ea et es be pi piw pih pin po poc poa pob as_ asn md mdl mdm mdi mdp mdc mdt mds mdw mdh mdx mde mda mdb mdr fnd la le it mn xs ys tn cs kn kt ks bt ba b1 b2 b3 wd hg nb ra rb pa pb pm cst mA mB an tr ml mm mi s1 s2 s3 mt hC hI H locs hP hD hS i hi hN ls hl
    · refine tabIn (tgt := 685) (off := 652) 13 hx hb dL_law_33 c9 (by decide) (by decide) (by decide) (by decide) (by decide) ?_
      exact lawc_eased sb sh shl shn shi mk mx my th tc ea et es be pi piw pih pin po poc poa pob as_ asn md mdl mdm mdi mdp mdc mdt mds mdw mdh mdx mde mda mdb mdr fnd la le it mn xs ys tn cs kn kt ks bt ba b1 b2 b3 wd hg nb ra rb pa pb pm cst mA mB an tr ml mm mi s1 s2 s3 mt hC hI H locs hP hD hS i hi hN ls hl
    · refine tabIn (tgt := 708) (off := 675) 14 hx hb dL_law_33 c9 (by decide) (by decide) (by decide) (by decide) (by decide) ?_
      exact lawc_unkey sb sh shl shn shi mk mx my th tc ea et es be pi piw pih pin po poc poa pob as_ asn md mdl mdm mdi mdp mdc mdt mds mdw mdh mdx mde mda mdb mdr fnd la le it mn xs ys tn cs kn kt ks bt ba b1 b2 b3 wd hg nb ra rb pa pb pm cst mA mB an tr ml mm mi s1 s2 s3 mt hC hI H locs hP hD hS i hi hN ls hl
    · refine tabIn (tgt := 721) (off := 688) 15 hx hb dL_law_33 c9 (by decide) (by decide) (by decide) (by decide) (by decide) ?_
      exact lawc_in sb sh shl shn shi mk mx my th tc ea et es be pi piw pih pin po poc poa pob as_ asn md mdl mdm mdi mdp mdc mdt mds mdw mdh mdx mde mda mdb mdr fnd la le it mn xs ys tn cs kn kt ks bt ba b1 b2 b3 wd hg nb ra rb pa pb pm cst mA mB an tr ml mm mi s1 s2 s3 mt hC hI H locs hP hD hS i hi hN ls hl
    · refine tabIn (tgt := 774) (off := 741) 16 hx hb dL_law_33 c9 (by decide) (by decide) (by decide) (by decide) (by decide) ?_
      exact lawc_from sb sh shl shn shi mk mx my th tc ea et es be pi piw pih pin po poc poa pob as_ asn md mdl mdm mdi mdp mdc mdt mds mdw mdh mdx mde mda mdb mdr fnd la le it mn xs ys tn cs kn kt ks bt ba b1 b2 b3 wd hg nb ra rb pa pb pm cst mA mB an tr ml mm mi s1 s2 s3 mt hC hI H locs hP hD hS i hi hN ls hl
    · refine tabIn (tgt := 837) (off := 804) 17 hx hb dL_law_33 c9 (by decide) (by decide) (by decide) (by decide) (by decide) ?_
      exact lawc_picture sb sh shl shn shi mk mx my th tc ea et es be pi piw pih pin po poc poa pob as_ asn md mdl mdm mdi mdp mdc mdt mds mdw mdh mdx mde mda mdb mdr fnd la le it mn xs ys tn cs kn kt ks bt ba b1 b2 b3 wd hg nb ra rb pa pb pm cst mA mB an tr ml mm mi s1 s2 s3 mt hC hI H locs hP hD hS i hi hN ls hl
    · refine tabIn (tgt := 900) (off := 867) 18 hx hb dL_law_33 c9 (by decide) (by decide) (by decide) (by decide) (by decide) ?_
      exact lawc_seen sb sh shl shn shi mk mx my th tc ea et es be pi piw pih pin po poc poa pob as_ asn md mdl mdm mdi mdp mdc mdt mds mdw mdh mdx mde mda mdb mdr fnd la le it mn xs ys tn cs kn kt ks bt ba b1 b2 b3 wd hg nb ra rb pa pb pm cst mA mB an tr ml mm mi s1 s2 s3 mt hC hI H locs hP hD hS i hi hN ls hl
    · refine tabIn (tgt := 953) (off := 920) 19 hx hb dL_law_33 c9 (by decide) (by decide) (by decide) (by decide) (by decide) ?_
      exact lawc_pairs sb sh shl shn shi mk mx my th tc ea et es be pi piw pih pin po poc poa pob as_ asn md mdl mdm mdi mdp mdc mdt mds mdw mdh mdx mde mda mdb mdr fnd la le it mn xs ys tn cs kn kt ks bt ba b1 b2 b3 wd hg nb ra rb pa pb pm cst mA mB an tr ml mm mi s1 s2 s3 mt hC hI H locs hP hD hS i hi hN ls hl
    · refine tabIn (tgt := 1016) (off := 983) 20 hx hb dL_law_33 c9 (by decide) (by decide) (by decide) (by decide) (by decide) ?_
      exact lawc_pair sb sh shl shn shi mk mx my th tc ea et es be pi piw pih pin po poc poa pob as_ asn md mdl mdm mdi mdp mdc mdt mds mdw mdh mdx mde mda mdb mdr fnd la le it mn xs ys tn cs kn kt ks bt ba b1 b2 b3 wd hg nb ra rb pa pb pm cst mA mB an tr ml mm mi s1 s2 s3 mt hC hI H locs hP hD hS i hi hN ls hl
    · refine tabIn (tgt := 1079) (off := 1046) 21 hx hb dL_law_33 c9 (by decide) (by decide) (by decide) (by decide) (by decide) ?_
      exact lawc_kind sb sh shl shn shi mk mx my th tc ea et es be pi piw pih pin po poc poa pob as_ asn md mdl mdm mdi mdp mdc mdt mds mdw mdh mdx mde mda mdb mdr fnd la le it mn xs ys tn cs kn kt ks bt ba b1 b2 b3 wd hg nb ra rb pa pb pm cst mA mB an tr ml mm mi s1 s2 s3 mt hC hI H locs hP hD hS i hi hN ls hl
    · refine tabIn (tgt := 1102) (off := 1069) 22 hx hb dL_law_33 c9 (by decide) (by decide) (by decide) (by decide) (by decide) ?_
      exact lawc_as sb sh shl shn shi mk mx my th tc ea et es be pi piw pih pin po poc poa pob as_ asn md mdl mdm mdi mdp mdc mdt mds mdw mdh mdx mde mda mdb mdr fnd la le it mn xs ys tn cs kn kt ks bt ba b1 b2 b3 wd hg nb ra rb pa pb pm cst mA mB an tr ml mm mi s1 s2 s3 mt hC hI H locs hP hD hS i hi hN ls hl
    · refine tabIn (tgt := 1135) (off := 1102) 23 hx hb dL_law_33 c9 (by decide) (by decide) (by decide) (by decide) (by decide) ?_
      exact lawc_ask sb sh shl shn shi mk mx my th tc ea et es be pi piw pih pin po poc poa pob as_ asn md mdl mdm mdi mdp mdc mdt mds mdw mdh mdx mde mda mdb mdr fnd la le it mn xs ys tn cs kn kt ks bt ba b1 b2 b3 wd hg nb ra rb pa pb pm cst mA mB an tr ml mm mi s1 s2 s3 mt hC hI H locs hP hD hS i hi hN ls hl
    · refine tabIn (tgt := 1168) (off := 1135) 24 hx hb dL_law_33 c9 (by decide) (by decide) (by decide) (by decide) (by decide) ?_
      exact lawc_trace sb sh shl shn shi mk mx my th tc ea et es be pi piw pih pin po poc poa pob as_ asn md mdl mdm mdi mdp mdc mdt mds mdw mdh mdx mde mda mdb mdr fnd la le it mn xs ys tn cs kn kt ks bt ba b1 b2 b3 wd hg nb ra rb pa pb pm cst mA mB an tr ml mm mi s1 s2 s3 mt hC hI H locs hP hD hS i hi hN ls hl
    · refine tabIn (tgt := 1191) (off := 1158) 25 hx hb dL_law_33 c9 (by decide) (by decide) (by decide) (by decide) (by decide) ?_
      exact lawc_count sb sh shl shn shi mk mx my th tc ea et es be pi piw pih pin po poc poa pob as_ asn md mdl mdm mdi mdp mdc mdt mds mdw mdh mdx mde mda mdb mdr fnd la le it mn xs ys tn cs kn kt ks bt ba b1 b2 b3 wd hg nb ra rb pa pb pm cst mA mB an tr ml mm mi s1 s2 s3 mt hC hI H locs hP hD hS i hi hN ls hl
    · refine tabIn (tgt := 1214) (off := 1181) 26 hx hb dL_law_33 c9 (by decide) (by decide) (by decide) (by decide) (by decide) ?_
      exact lawc_status sb sh shl shn shi mk mx my th tc ea et es be pi piw pih pin po poc poa pob as_ asn md mdl mdm mdi mdp mdc mdt mds mdw mdh mdx mde mda mdb mdr fnd la le it mn xs ys tn cs kn kt ks bt ba b1 b2 b3 wd hg nb ra rb pa pb pm cst mA mB an tr ml mm mi s1 s2 s3 mt hC hI H locs hP hD hS i hi hN ls hl
    · refine tabOut (tgt := 1227) 27 hx hb dL_law_33 c9 (by decide) (by decide) (by decide) ?_
      refine lv_iinc (v := nI (i + 6)) (lv' := [(3, .int (nI (i + 6))), (0, .ref b), (1, .ref sb), (2, .ref md)]) hx hb dL_law_1227 hl (k := 3) rfl (nI_inc6 _) (by decide) rfl (fun ls hl => ?_)
      refine lv_goto (tgt := 18) hx hb dL_law_1230 (by decide) ?_
      exact hN fnd la le it mn xs ys tn cs kn kt ks bt ba b1 b2 b3 wd hg nb ra rb pa pb pm cst mA mB an tr ml mm mi s1 s2 s3 mt hI H locs hP hS ls (lv_sub hl [1, 2, 3, 0] rfl)
    · refine tabOut (tgt := 1227) 28 hx hb dL_law_33 c9 (by decide) (by decide) (by decide) ?_
      refine lv_iinc (v := nI (i + 6)) (lv' := [(3, .int (nI (i + 6))), (0, .ref b), (1, .ref sb), (2, .ref md)]) hx hb dL_law_1227 hl (k := 3) rfl (nI_inc6 _) (by decide) rfl (fun ls hl => ?_)
      refine lv_goto (tgt := 18) hx hb dL_law_1230 (by decide) ?_
      exact hN fnd la le it mn xs ys tn cs kn kt ks bt ba b1 b2 b3 wd hg nb ra rb pa pb pm cst mA mB an tr ml mm mi s1 s2 s3 mt hI H locs hP hS ls (lv_sub hl [1, 2, 3, 0] rfl)
    · refine tabOut (tgt := 1227) 29 hx hb dL_law_33 c9 (by decide) (by decide) (by decide) ?_
      refine lv_iinc (v := nI (i + 6)) (lv' := [(3, .int (nI (i + 6))), (0, .ref b), (1, .ref sb), (2, .ref md)]) hx hb dL_law_1227 hl (k := 3) rfl (nI_inc6 _) (by decide) rfl (fun ls hl => ?_)
      refine lv_goto (tgt := 18) hx hb dL_law_1230 (by decide) ?_
      exact hN fnd la le it mn xs ys tn cs kn kt ks bt ba b1 b2 b3 wd hg nb ra rb pa pb pm cst mA mB an tr ml mm mi s1 s2 s3 mt hI H locs hP hS ls (lv_sub hl [1, 2, 3, 0] rfl)
    · refine tabOut (tgt := 1227) 30 hx hb dL_law_33 c9 (by decide) (by decide) (by decide) ?_
      refine lv_iinc (v := nI (i + 6)) (lv' := [(3, .int (nI (i + 6))), (0, .ref b), (1, .ref sb), (2, .ref md)]) hx hb dL_law_1227 hl (k := 3) rfl (nI_inc6 _) (by decide) rfl (fun ls hl => ?_)
      refine lv_goto (tgt := 18) hx hb dL_law_1230 (by decide) ?_
      exact hN fnd la le it mn xs ys tn cs kn kt ks bt ba b1 b2 b3 wd hg nb ra rb pa pb pm cst mA mB an tr ml mm mi s1 s2 s3 mt hI H locs hP hS ls (lv_sub hl [1, 2, 3, 0] rfl)
    · refine tabOut (tgt := 1227) 31 hx hb dL_law_33 c9 (by decide) (by decide) (by decide) ?_
      refine lv_iinc (v := nI (i + 6)) (lv' := [(3, .int (nI (i + 6))), (0, .ref b), (1, .ref sb), (2, .ref md)]) hx hb dL_law_1227 hl (k := 3) rfl (nI_inc6 _) (by decide) rfl (fun ls hl => ?_)
      refine lv_goto (tgt := 18) hx hb dL_law_1230 (by decide) ?_
      exact hN fnd la le it mn xs ys tn cs kn kt ks bt ba b1 b2 b3 wd hg nb ra rb pa pb pm cst mA mB an tr ml mm mi s1 s2 s3 mt hI H locs hP hS ls (lv_sub hl [1, 2, 3, 0] rfl)
