def f_X8_row (lfi : Int32) (lan siz : Nat → Int32) (i_itm : Nat → Nat → Int32) (p1 p2 p3 : Int32) : Option (Int32 × Int32 × (Nat → Int32) × (Nat → Int32) × (Nat → Nat → Int32)) := bd (f_X8_isRow p1) (fun z1 => if z1 = 0 then (some ((-1000001), lfi, lan, siz, i_itm)) else (if p2 < 0 then (some ((-1000001), lfi, lan, siz, i_itm)) else (if 3 ≤ p2 then (some ((-1000001), lfi, lan, siz, i_itm)) else (if p3 ≤ 40 then (if 0 ≤ p3 then (bd (f_X6_make lan siz i_itm p1 p2 p3) (fun z7 => bd (f_X8_fine lfi p3) (fun z8 => some (z8.1, z8.2, z7.1, z7.2.1, z7.2.2)))) else (bd (f_X8_found lfi 4) (fun z9 => some (z9.1, z9.2, lan, siz, i_itm)))) else (some ((-1000001), lfi, lan, siz, i_itm))))))
set_option maxHeartbeats 4000000 in
set_option maxRecDepth 100000 in
theorem c_X8_row (l : Launch) (D : va_G) (cy : Nat → ClassId) (mAd : Nat → Nat) (iAd : Nat → Nat → Nat) (GI GM GR : Nat → Option Nat) (lfa lfi : Int32) (lan siz : Nat → Int32) (len tok stt fin num flw : Int32) (byt : Nat → Int32) (dwat : Int32) (dlev dkin dcdp dsil : Nat → Int32) (sta wat : Int32) (lev kin cdp sil : Nat → Int32) (hour : Int32) (dep arr deb : Nat → Int32) (nxt kep fhour : Int32) (fdep farr fdeb : Nat → Int32) (gft : Int32) (bal giv tak inc : Nat → Int32) (trc : Int32) (nrs : Nat → Int32) (i_itm : Nat → Nat → Int32) (p1 p2 p3 : Int32) (hGI : ∀ k, k < 8 → GI k = some (iAd k 0)) (z : (Int32 × Int32 × (Nat → Int32) × (Nat → Int32) × (Nat → Nat → Int32))) (hz : f_X8_row lfi lan siz i_itm p1 p2 p3 = some z) : MI l yX8_row wsX8_row ({ frames := 2, cells := 0, slots := 0, locals := 46 } : Room) D cy [.ref (mAd 0), .int p1, .int p2, .int p3] (w_Top cy mAd GI GM GR lfa lfi lan siz len tok stt fin num flw byt dwat dlev dkin dcdp dsil sta wat lev kin cdp sil hour dep arr deb nxt kep fhour fdep farr fdeb gft bal giv tak inc trc nrs ++ w_FItm cy iAd i_itm) z.1 (w_Top cy mAd GI GM GR lfa z.2.1 z.2.2.1 z.2.2.2.1 len tok stt fin num flw byt dwat dlev dkin dcdp dsil sta wat lev kin cdp sil hour dep arr deb nxt kep fhour fdep farr fdeb gft bal giv tak inc trc nrs ++ w_FItm cy iAd z.2.2.2.2) := by
  refine met_start (Qf := fun A => MQi D cy z.1 (w_Top cy mAd GI GM GR lfa z.2.1 z.2.2.1 z.2.2.2.1 len tok stt fin num flw byt dwat dlev dkin dcdp dsil sta wat lev kin cdp sil hour dep arr deb nxt kep fhour fdep farr fdeb gft bal giv tak inc trc nrs ++ w_FItm cy iAd z.2.2.2.2) A) (cc := cX8_row) (nL := 4) (ret := (some .int)) RX8 rfl (by decide) rfl (Nat.le_of_ble_eq_true rfl) ?_
  intro p e s m below meth c A ls C G hl
  have hl : lv_has ls 4 [(0, .ref (mAd 0)), (1, .int p1), (2, .int p2), (3, .int p3)] := hl
  have H := hz
  unfold f_X8_row at H
  obtain ⟨hx, hb, hr, hml, hown, hts, hlk, hK, hA, hE⟩ := id C
  have lk0 := hts (Cond.constant RX8 73 (-1000001)) (List.mem_of_getElem? (i := 1) rfl)
  have lk1 := hts (Cond.fieldLink RX8 10 "TideDebts" "rows" "LTideDebts$Rows;") (List.mem_of_getElem? (i := 2) rfl)
  have hiX8 : ∀ w ∈ u_ws RX8 TX8 11, w ∈ wsX8_row := fun _ h => List.mem_cons_of_mem _ (List.mem_append_left _ (List.mem_append_right _ h))
  refine lv_iload_n hx hb dX8_row_0 rfl (lv_at hl 1 rfl) ?_
  obtain ⟨z1, hz1, H⟩ := bd_some H
  refine MI.callS z1 [.int p1] [] [] C G (c_X8_isRow l D cy p1 z1 hz1) gX8_row_X8_isRow rfl rfl rfl (n := 1) (by decide +kernel) ⟨Nat.le_of_ble_eq_true rfl, Nat.le_of_ble_eq_true rfl⟩ rfl rfl rfl rfl hl.1 rfl (Nat.le_of_ble_eq_true rfl) dX8_row_1 ⟨Nat.zero_le _, Nat.zero_le _⟩ (fun U locs G => ?_)
  have G : Gd D A s (w_Top cy mAd GI GM GR lfa lfi lan siz len tok stt fin num flw byt dwat dlev dkin dcdp dsil sta wat lev kin cdp sil hour dep arr deb nxt kep fhour fdep farr fdeb gft bal giv tak inc trc nrs ++ w_FItm cy iAd i_itm) U locs := G
  refine lv_if_eq (tgt := 22) hx hb dX8_row_4 (by decide) (fun c2 => ?_) (fun c2 => ?_)
  · have H := if_t H c2
    refine lv_ldc hx hb hown lk0 dX8_row_22 ?_
    obtain rfl := Option.some.inj H
    exact ret_i C G rfl dX8_row_24
  · have H := if_f H c2
    refine lv_iload_n hx hb dX8_row_7 rfl (lv_at hl 2 rfl) ?_
    refine lv_if_lt (tgt := 22) hx hb dX8_row_8 (by decide) (fun c3 => ?_) (fun c3 => ?_)
    · have H := if_t H c3
      refine lv_ldc hx hb hown lk0 dX8_row_22 ?_
      obtain rfl := Option.some.inj H
      exact ret_i C G rfl dX8_row_24
    · have H := if_f H c3
      refine lv_iload_n hx hb dX8_row_11 rfl (lv_at hl 2 rfl) ?_
      refine lv_iconst (v := 3) hx hb dX8_row_12 (by decide) ?_
      refine lv_icmp_ge (tgt := 22) hx hb dX8_row_13 (by decide) (fun c4 => ?_) (fun c4 => ?_)
      · have H := if_t H c4
        refine lv_ldc hx hb hown lk0 dX8_row_22 ?_
        obtain rfl := Option.some.inj H
        exact ret_i C G rfl dX8_row_24
      · have H := if_f H c4
        refine lv_iload_n hx hb dX8_row_16 rfl (lv_at hl 3 rfl) ?_
        refine lv_bipush (v := 40) hx hb dX8_row_17 (by decide) ?_
        refine lv_icmp_le (tgt := 25) hx hb dX8_row_19 (by decide) (fun c5 => ?_) (fun c5 => ?_)
        · have H := if_t H c5
          refine lv_iload_n hx hb dX8_row_25 rfl (lv_at hl 3 rfl) ?_
          refine lv_if_ge (tgt := 35) hx hb dX8_row_26 (by decide) (fun c6 => ?_) (fun c6 => ?_)
          · have H := if_t H c6
            refine lv_aload_n hx hb dX8_row_35 rfl (lv_at hl 0 rfl) ?_
            refine va_get (D := D) (ci := 8) (v := .ref (mAd 1)) (C := RX8) (T := TX8) (N := 11) hx hb hts hiX8 hown hK G.1 0 rfl rfl 0 (by decide) lk1 (fun _ h9 => h9) rfl dX8_row_36 ?_
            refine lv_iload_n hx hb dX8_row_39 rfl (lv_at hl 1 rfl) ?_
            refine lv_iload_n hx hb dX8_row_40 rfl (lv_at hl 2 rfl) ?_
            refine lv_iload_n hx hb dX8_row_41 rfl (lv_at hl 3 rfl) ?_
            obtain ⟨z7, hz7, H⟩ := bd_some H
            refine MV.callVt [.int p1, .int p2, .int p3] [] [1, 2, 3, 4] C G (c_X6_make l D cy (fun k => mAd (k + 1)) iAd GI lan siz i_itm p1 p2 p3 hGI z7 hz7) gX8_row_X6_make rfl rfl rfl (n := 3) (by decide +kernel) ⟨Nat.le_of_ble_eq_true rfl, Nat.le_of_ble_eq_true rfl⟩ (q0 := 1) (ci := 6) rfl rfl rfl rfl rfl rfl (fam_len (fun _ => rfl)) rfl hl.1 rfl (Nat.le_of_ble_eq_true rfl) dX8_row_42 ⟨Nat.zero_le _, Nat.zero_le _⟩ (fun U locs G => ?_)
            have G : Gd D A s (w_Top cy mAd GI GM GR lfa lfi z7.1 z7.2.1 len tok stt fin num flw byt dwat dlev dkin dcdp dsil sta wat lev kin cdp sil hour dep arr deb nxt kep fhour fdep farr fdeb gft bal giv tak inc trc nrs ++ w_FItm cy iAd z7.2.2) U locs := G
            refine lv_aload_n hx hb dX8_row_45 rfl (lv_at hl 0 rfl) ?_
            refine lv_iload_n hx hb dX8_row_46 rfl (lv_at hl 3 rfl) ?_
            obtain ⟨z8, hz8, H⟩ := bd_some H
            refine MI.callVw z8.1 [.int p3] [] C G (MI.tail _ (c_X8_fine l D cy mAd GI GM GR lfa lfi z7.1 z7.2.1 len tok stt fin num flw byt dwat dlev dkin dcdp dsil sta wat lev kin cdp sil hour dep arr deb nxt kep fhour fdep farr fdeb gft bal giv tak inc trc nrs p3 z8 hz8)) gX8_row_X8_fine rfl rfl rfl (n := 1) (by decide +kernel) ⟨Nat.le_of_ble_eq_true rfl, Nat.le_of_ble_eq_true rfl⟩ (q0 := 0) (ci := 8) rfl rfl rfl rfl hl.1 rfl (Nat.le_of_ble_eq_true rfl) dX8_row_47 ⟨Nat.zero_le _, Nat.zero_le _⟩ (fun U locs G => ?_)
            have G : Gd D A s (w_Top cy mAd GI GM GR lfa z8.2 z7.1 z7.2.1 len tok stt fin num flw byt dwat dlev dkin dcdp dsil sta wat lev kin cdp sil hour dep arr deb nxt kep fhour fdep farr fdeb gft bal giv tak inc trc nrs ++ w_FItm cy iAd z7.2.2) U locs := G
            obtain rfl := Option.some.inj H
            exact ret_i C G rfl dX8_row_50
          · have H := if_f H c6
            refine lv_aload_n hx hb dX8_row_29 rfl (lv_at hl 0 rfl) ?_
            refine lv_iconst (v := 4) hx hb dX8_row_30 (by decide) ?_
            obtain ⟨z9, hz9, H⟩ := bd_some H
            refine MI.callVw z9.1 [.int 4] [] C G (MI.tail _ (c_X8_found l D cy mAd GI GM GR lfa lfi lan siz len tok stt fin num flw byt dwat dlev dkin dcdp dsil sta wat lev kin cdp sil hour dep arr deb nxt kep fhour fdep farr fdeb gft bal giv tak inc trc nrs 4 z9 hz9)) gX8_row_X8_found rfl rfl rfl (n := 1) (by decide +kernel) ⟨Nat.le_of_ble_eq_true rfl, Nat.le_of_ble_eq_true rfl⟩ (q0 := 0) (ci := 8) rfl rfl rfl rfl hl.1 rfl (Nat.le_of_ble_eq_true rfl) dX8_row_31 ⟨Nat.zero_le _, Nat.zero_le _⟩ (fun U locs G => ?_)
            have G : Gd D A s (w_Top cy mAd GI GM GR lfa z9.2 lan siz len tok stt fin num flw byt dwat dlev dkin dcdp dsil sta wat lev kin cdp sil hour dep arr deb nxt kep fhour fdep farr fdeb gft bal giv tak inc trc nrs ++ w_FItm cy iAd i_itm) U locs := G
            obtain rfl := Option.some.inj H
            exact ret_i C G rfl dX8_row_34
        · have H := if_f H c5
          refine lv_ldc hx hb hown lk0 dX8_row_22 ?_
          obtain rfl := Option.some.inj H
          exact ret_i C G rfl dX8_row_24
def f_X8_set (lfi : Int32) (lan siz : Nat → Int32) (i_itm : Nat → Nat → Int32) (p1 p2 p3 : Int32) : Option (Int32 × Int32 × (Nat → Nat → Int32)) := bd (f_X8_isRow p1) (fun z1 => if z1 = 0 then (some ((-1000001), lfi, i_itm)) else (bd (f_X6_isMissing lan p1) (fun z3 => if z3 = 0 then (bd (f_X6_hasPlaces siz p1 p2 1) (fun z5 => if z5 = 0 then (bd (f_X8_found lfi 2) (fun z9 => some (z9.1, z9.2, i_itm))) else (bd (f_X6_put lan i_itm p1 p2 p3) (fun z7 => bd (f_X8_fine lfi z7.1) (fun z8 => some (z8.1, z8.2, z7.2)))))) else (bd (f_X8_found lfi 1) (fun z10 => some (z10.1, z10.2, i_itm))))))
set_option maxHeartbeats 4000000 in
set_option maxRecDepth 100000 in
theorem c_X8_set (l : Launch) (D : va_G) (cy : Nat → ClassId) (mAd : Nat → Nat) (iAd : Nat → Nat → Nat) (GI GM GR : Nat → Option Nat) (lfa lfi : Int32) (lan siz : Nat → Int32) (len tok stt fin num flw : Int32) (byt : Nat → Int32) (dwat : Int32) (dlev dkin dcdp dsil : Nat → Int32) (sta wat : Int32) (lev kin cdp sil : Nat → Int32) (hour : Int32) (dep arr deb : Nat → Int32) (nxt kep fhour : Int32) (fdep farr fdeb : Nat → Int32) (gft : Int32) (bal giv tak inc : Nat → Int32) (trc : Int32) (nrs : Nat → Int32) (i_itm : Nat → Nat → Int32) (p1 p2 p3 : Int32) (hGI : ∀ k, k < 8 → GI k = some (iAd k 0)) (z : (Int32 × Int32 × (Nat → Nat → Int32))) (hz : f_X8_set lfi lan siz i_itm p1 p2 p3 = some z) : MI l yX8_set wsX8_set ({ frames := 1, cells := 0, slots := 0, locals := 24 } : Room) D cy [.ref (mAd 0), .int p1, .int p2, .int p3] (w_Top cy mAd GI GM GR lfa lfi lan siz len tok stt fin num flw byt dwat dlev dkin dcdp dsil sta wat lev kin cdp sil hour dep arr deb nxt kep fhour fdep farr fdeb gft bal giv tak inc trc nrs ++ w_FItm cy iAd i_itm) z.1 (w_Top cy mAd GI GM GR lfa z.2.1 lan siz len tok stt fin num flw byt dwat dlev dkin dcdp dsil sta wat lev kin cdp sil hour dep arr deb nxt kep fhour fdep farr fdeb gft bal giv tak inc trc nrs ++ w_FItm cy iAd z.2.2) := by
  refine met_start (Qf := fun A => MQi D cy z.1 (w_Top cy mAd GI GM GR lfa z.2.1 lan siz len tok stt fin num flw byt dwat dlev dkin dcdp dsil sta wat lev kin cdp sil hour dep arr deb nxt kep fhour fdep farr fdeb gft bal giv tak inc trc nrs ++ w_FItm cy iAd z.2.2) A) (cc := cX8_set) (nL := 4) (ret := (some .int)) RX8 rfl (by decide) rfl (Nat.le_of_ble_eq_true rfl) ?_
  intro p e s m below meth c A ls C G hl
  have hl : lv_has ls 4 [(0, .ref (mAd 0)), (1, .int p1), (2, .int p2), (3, .int p3)] := hl
  have H := hz
  unfold f_X8_set at H
  obtain ⟨hx, hb, hr, hml, hown, hts, hlk, hK, hA, hE⟩ := id C
  have lk0 := hts (Cond.fieldLink RX8 10 "TideDebts" "rows" "LTideDebts$Rows;") (List.mem_of_getElem? (i := 2) rfl)
  have lk1 := hts (Cond.constant RX8 73 (-1000001)) (List.mem_of_getElem? (i := 1) rfl)
  have hiX8 : ∀ w ∈ u_ws RX8 TX8 11, w ∈ wsX8_set := fun _ h => List.mem_cons_of_mem _ (List.mem_append_left _ (List.mem_append_right _ h))
  refine lv_iload_n hx hb dX8_set_0 rfl (lv_at hl 1 rfl) ?_
  obtain ⟨z1, hz1, H⟩ := bd_some H
  refine MI.callS z1 [.int p1] [] [] C G (c_X8_isRow l D cy p1 z1 hz1) gX8_set_X8_isRow rfl rfl rfl (n := 1) (by decide +kernel) ⟨Nat.le_of_ble_eq_true rfl, Nat.le_of_ble_eq_true rfl⟩ rfl rfl rfl rfl hl.1 rfl (Nat.le_of_ble_eq_true rfl) dX8_set_1 ⟨Nat.zero_le _, Nat.zero_le _⟩ (fun U locs G => ?_)
  have G : Gd D A s (w_Top cy mAd GI GM GR lfa lfi lan siz len tok stt fin num flw byt dwat dlev dkin dcdp dsil sta wat lev kin cdp sil hour dep arr deb nxt kep fhour fdep farr fdeb gft bal giv tak inc trc nrs ++ w_FItm cy iAd i_itm) U locs := G
  refine lv_if_ne (tgt := 10) hx hb dX8_set_4 (by decide) (fun c2 => ?_) (fun c2 => ?_)
  · have H := if_f H c2
    refine lv_aload_n hx hb dX8_set_10 rfl (lv_at hl 0 rfl) ?_
    refine va_get (D := D) (ci := 8) (v := .ref (mAd 1)) (C := RX8) (T := TX8) (N := 11) hx hb hts hiX8 hown hK G.1 0 rfl rfl 0 (by decide) lk0 (fun _ h9 => h9) rfl dX8_set_11 ?_
    refine lv_iload_n hx hb dX8_set_14 rfl (lv_at hl 1 rfl) ?_
    obtain ⟨z3, hz3, H⟩ := bd_some H
    refine MI.callV z3 [.int p1] [] [1, 2, 3, 4] C G (c_X6_isMissing l D cy (fun k => mAd (k + 1)) GI lan siz p1 z3 hz3) gX8_set_X6_isMissing rfl rfl rfl (n := 1) (by decide +kernel) ⟨Nat.le_of_ble_eq_true rfl, Nat.le_of_ble_eq_true rfl⟩ (q0 := 1) (ci := 6) rfl rfl rfl rfl rfl rfl rfl hl.1 rfl (Nat.le_of_ble_eq_true rfl) dX8_set_15 ⟨Nat.zero_le _, Nat.zero_le _⟩ (fun U locs G => ?_)
    have G : Gd D A s (w_Top cy mAd GI GM GR lfa lfi lan siz len tok stt fin num flw byt dwat dlev dkin dcdp dsil sta wat lev kin cdp sil hour dep arr deb nxt kep fhour fdep farr fdeb gft bal giv tak inc trc nrs ++ w_FItm cy iAd i_itm) U locs := G
    refine lv_if_eq (tgt := 27) hx hb dX8_set_18 (by decide) (fun c4 => ?_) (fun c4 => ?_)
    · have H := if_t H c4
      refine lv_aload_n hx hb dX8_set_27 rfl (lv_at hl 0 rfl) ?_
      refine va_get (D := D) (ci := 8) (v := .ref (mAd 1)) (C := RX8) (T := TX8) (N := 11) hx hb hts hiX8 hown hK G.1 0 rfl rfl 0 (by decide) lk0 (fun _ h9 => h9) rfl dX8_set_28 ?_
      refine lv_iload_n hx hb dX8_set_31 rfl (lv_at hl 1 rfl) ?_
      refine lv_iload_n hx hb dX8_set_32 rfl (lv_at hl 2 rfl) ?_
      refine lv_iconst (v := 1) hx hb dX8_set_33 (by decide) ?_
      obtain ⟨z5, hz5, H⟩ := bd_some H
      refine MI.callV z5 [.int p1, .int p2, .int 1] [] [1, 2, 3, 4] C G (c_X6_hasPlaces l D cy (fun k => mAd (k + 1)) GI lan siz p1 p2 1 z5 hz5) gX8_set_X6_hasPlaces rfl rfl rfl (n := 3) (by decide +kernel) ⟨Nat.le_of_ble_eq_true rfl, Nat.le_of_ble_eq_true rfl⟩ (q0 := 1) (ci := 6) rfl rfl rfl rfl rfl rfl rfl hl.1 rfl (Nat.le_of_ble_eq_true rfl) dX8_set_34 ⟨Nat.zero_le _, Nat.zero_le _⟩ (fun U locs G => ?_)
      have G : Gd D A s (w_Top cy mAd GI GM GR lfa lfi lan siz len tok stt fin num flw byt dwat dlev dkin dcdp dsil sta wat lev kin cdp sil hour dep arr deb nxt kep fhour fdep farr fdeb gft bal giv tak inc trc nrs ++ w_FItm cy iAd i_itm) U locs := G
      refine lv_if_ne (tgt := 46) hx hb dX8_set_37 (by decide) (fun c6 => ?_) (fun c6 => ?_)
      · have H := if_f H c6
        refine lv_aload_n hx hb dX8_set_46 rfl (lv_at hl 0 rfl) ?_
        refine lv_aload_n hx hb dX8_set_47 rfl (lv_at hl 0 rfl) ?_
        refine va_get (D := D) (ci := 8) (v := .ref (mAd 1)) (C := RX8) (T := TX8) (N := 11) hx hb hts hiX8 hown hK G.1 0 rfl rfl 0 (by decide) lk0 (fun _ h9 => h9) rfl dX8_set_48 ?_
        refine lv_iload_n hx hb dX8_set_51 rfl (lv_at hl 1 rfl) ?_
        refine lv_iload_n hx hb dX8_set_52 rfl (lv_at hl 2 rfl) ?_
        refine lv_iload_n hx hb dX8_set_53 rfl (lv_at hl 3 rfl) ?_
        obtain ⟨z7, hz7, H⟩ := bd_some H
        refine MI.callVt z7.1 [.int p1, .int p2, .int p3] [.ref (mAd 0)] [1, 2, 3, 4] C G (c_X6_put l D cy (fun k => mAd (k + 1)) iAd GI lan siz i_itm p1 p2 p3 hGI z7 hz7) gX8_set_X6_put rfl rfl rfl (n := 3) (by decide +kernel) ⟨Nat.le_of_ble_eq_true rfl, Nat.le_of_ble_eq_true rfl⟩ (q0 := 1) (ci := 6) rfl rfl rfl rfl rfl rfl (fam_len (fun _ => rfl)) rfl hl.1 rfl (Nat.le_of_ble_eq_true rfl) dX8_set_54 ⟨Nat.zero_le _, Nat.zero_le _⟩ (fun U locs G => ?_)
        have G : Gd D A s (w_Top cy mAd GI GM GR lfa lfi lan siz len tok stt fin num flw byt dwat dlev dkin dcdp dsil sta wat lev kin cdp sil hour dep arr deb nxt kep fhour fdep farr fdeb gft bal giv tak inc trc nrs ++ w_FItm cy iAd z7.2) U locs := G
        obtain ⟨z8, hz8, H⟩ := bd_some H
        refine MI.callVw z8.1 [.int z7.1] [] C G (MI.tail _ (c_X8_fine l D cy mAd GI GM GR lfa lfi lan siz len tok stt fin num flw byt dwat dlev dkin dcdp dsil sta wat lev kin cdp sil hour dep arr deb nxt kep fhour fdep farr fdeb gft bal giv tak inc trc nrs z7.1 z8 hz8)) gX8_set_X8_fine rfl rfl rfl (n := 1) (by decide +kernel) ⟨Nat.le_of_ble_eq_true rfl, Nat.le_of_ble_eq_true rfl⟩ (q0 := 0) (ci := 8) rfl rfl rfl rfl hl.1 rfl (Nat.le_of_ble_eq_true rfl) dX8_set_57 ⟨Nat.zero_le _, Nat.zero_le _⟩ (fun U locs G => ?_)
        have G : Gd D A s (w_Top cy mAd GI GM GR lfa z8.2 lan siz len tok stt fin num flw byt dwat dlev dkin dcdp dsil sta wat lev kin cdp sil hour dep arr deb nxt kep fhour fdep farr fdeb gft bal giv tak inc trc nrs ++ w_FItm cy iAd z7.2) U locs := G
        obtain rfl := Option.some.inj H
        exact ret_i C G rfl dX8_set_60
      · have H := if_t H c6
        refine lv_aload_n hx hb dX8_set_40 rfl (lv_at hl 0 rfl) ?_
        refine lv_iconst (v := 2) hx hb dX8_set_41 (by decide) ?_
        obtain ⟨z9, hz9, H⟩ := bd_some H
        refine MI.callVw z9.1 [.int 2] [] C G (MI.tail _ (c_X8_found l D cy mAd GI GM GR lfa lfi lan siz len tok stt fin num flw byt dwat dlev dkin dcdp dsil sta wat lev kin cdp sil hour dep arr deb nxt kep fhour fdep farr fdeb gft bal giv tak inc trc nrs 2 z9 hz9)) gX8_set_X8_found rfl rfl rfl (n := 1) (by decide +kernel) ⟨Nat.le_of_ble_eq_true rfl, Nat.le_of_ble_eq_true rfl⟩ (q0 := 0) (ci := 8) rfl rfl rfl rfl hl.1 rfl (Nat.le_of_ble_eq_true rfl) dX8_set_42 ⟨Nat.zero_le _, Nat.zero_le _⟩ (fun U locs G => ?_)
        have G : Gd D A s (w_Top cy mAd GI GM GR lfa z9.2 lan siz len tok stt fin num flw byt dwat dlev dkin dcdp dsil sta wat lev kin cdp sil hour dep arr deb nxt kep fhour fdep farr fdeb gft bal giv tak inc trc nrs ++ w_FItm cy iAd i_itm) U locs := G
        obtain rfl := Option.some.inj H
        exact ret_i C G rfl dX8_set_45
    · have H := if_f H c4
      refine lv_aload_n hx hb dX8_set_21 rfl (lv_at hl 0 rfl) ?_
      refine lv_iconst (v := 1) hx hb dX8_set_22 (by decide) ?_
      obtain ⟨z10, hz10, H⟩ := bd_some H
      refine MI.callVw z10.1 [.int 1] [] C G (MI.tail _ (c_X8_found l D cy mAd GI GM GR lfa lfi lan siz len tok stt fin num flw byt dwat dlev dkin dcdp dsil sta wat lev kin cdp sil hour dep arr deb nxt kep fhour fdep farr fdeb gft bal giv tak inc trc nrs 1 z10 hz10)) gX8_set_X8_found rfl rfl rfl (n := 1) (by decide +kernel) ⟨Nat.le_of_ble_eq_true rfl, Nat.le_of_ble_eq_true rfl⟩ (q0 := 0) (ci := 8) rfl rfl rfl rfl hl.1 rfl (Nat.le_of_ble_eq_true rfl) dX8_set_23 ⟨Nat.zero_le _, Nat.zero_le _⟩ (fun U locs G => ?_)
      have G : Gd D A s (w_Top cy mAd GI GM GR lfa z10.2 lan siz len tok stt fin num flw byt dwat dlev dkin dcdp dsil sta wat lev kin cdp sil hour dep arr deb nxt kep fhour fdep farr fdeb gft bal giv tak inc trc nrs ++ w_FItm cy iAd i_itm) U locs := G
      obtain rfl := Option.some.inj H
      exact ret_i C G rfl dX8_set_26
  · have H := if_t H c2
    refine lv_ldc hx hb hown lk1 dX8_set_7 ?_
    obtain rfl := Option.some.inj H
    exact ret_i C G rfl dX8_set_9
