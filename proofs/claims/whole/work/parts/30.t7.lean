def f_X8_image_m (sta wat : Int32) (lev kin cdp sil : Nat → Int32) (hour : Int32) (dep arr deb : Nat → Int32) (b_sta b_wat : Int32) (b_lev b_kin b_cdp b_sil : Nat → Int32) (b_hour : Int32) (b_dep b_arr b_deb : Nat → Int32) (p1 : Int32) : Option (Int32 × Int32 × Int32 × (Nat → Int32) × (Nat → Int32) × (Nat → Int32) × (Nat → Int32) × Int32 × (Nat → Int32) × (Nat → Int32) × (Nat → Int32)) := if p1 < 0 then (some ((-1000001), b_sta, b_wat, b_lev, b_kin, b_cdp, b_sil, b_hour, b_dep, b_arr, b_deb)) else (if p1 < 2 then (if sta = 0 then (some ((-1000002), b_sta, b_wat, b_lev, b_kin, b_cdp, b_sil, b_hour, b_dep, b_arr, b_deb)) else (gd (inb p1 2) (bd (f_X1_takeFrom b_sta b_wat b_lev b_kin b_cdp b_sil b_hour b_dep b_arr b_deb sta wat lev kin cdp sil hour dep arr deb) (fun z5 => some (1, z5.1, z5.2.1, z5.2.2.1, z5.2.2.2.1, z5.2.2.2.2.1, z5.2.2.2.2.2.1, z5.2.2.2.2.2.2.1, z5.2.2.2.2.2.2.2.1, z5.2.2.2.2.2.2.2.2.1, z5.2.2.2.2.2.2.2.2.2))))) else (some ((-1000001), b_sta, b_wat, b_lev, b_kin, b_cdp, b_sil, b_hour, b_dep, b_arr, b_deb)))
set_option maxHeartbeats 4000000 in
set_option maxRecDepth 100000 in
theorem c_X8_image_m (l : Launch) (D : va_G) (cy : Nat → ClassId) (mAd : Nat → Nat) (bAd : Nat → Nat) (GI GM GR : Nat → Option Nat) (lfa lfi : Int32) (lan siz : Nat → Int32) (len tok stt fin num flw : Int32) (byt : Nat → Int32) (dwat : Int32) (dlev dkin dcdp dsil : Nat → Int32) (sta wat : Int32) (lev kin cdp sil : Nat → Int32) (hour : Int32) (dep arr deb : Nat → Int32) (nxt kep fhour : Int32) (fdep farr fdeb : Nat → Int32) (gft : Int32) (bal giv tak inc : Nat → Int32) (trc : Int32) (nrs : Nat → Int32) (b_sta b_wat : Int32) (b_lev b_kin b_cdp b_sil : Nat → Int32) (b_hour : Int32) (b_dep b_arr b_deb : Nat → Int32) (p1 : Int32) (hg1 : inb p1 2 = true → GM (ix p1) = some (bAd 0)) (z : (Int32 × Int32 × Int32 × (Nat → Int32) × (Nat → Int32) × (Nat → Int32) × (Nat → Int32) × Int32 × (Nat → Int32) × (Nat → Int32) × (Nat → Int32))) (hz : f_X8_image_m sta wat lev kin cdp sil hour dep arr deb b_sta b_wat b_lev b_kin b_cdp b_sil b_hour b_dep b_arr b_deb p1 = some z) : MI l yX8_image wsX8_image ({ frames := 3, cells := 0, slots := 0, locals := 102 } : Room) D cy [.ref (mAd 0), .int p1] (w_Top cy mAd GI GM GR lfa lfi lan siz len tok stt fin num flw byt dwat dlev dkin dcdp dsil sta wat lev kin cdp sil hour dep arr deb nxt kep fhour fdep farr fdeb gft bal giv tak inc trc nrs ++ w_BA cy bAd b_sta b_wat b_lev b_kin b_cdp b_sil b_hour b_dep b_arr b_deb) z.1 (w_Top cy mAd GI GM GR lfa lfi lan siz len tok stt fin num flw byt dwat dlev dkin dcdp dsil sta wat lev kin cdp sil hour dep arr deb nxt kep fhour fdep farr fdeb gft bal giv tak inc trc nrs ++ w_BA cy bAd z.2.1 z.2.2.1 z.2.2.2.1 z.2.2.2.2.1 z.2.2.2.2.2.1 z.2.2.2.2.2.2.1 z.2.2.2.2.2.2.2.1 z.2.2.2.2.2.2.2.2.1 z.2.2.2.2.2.2.2.2.2.1 z.2.2.2.2.2.2.2.2.2.2) := by
  refine met_start (Qf := fun A => MQi D cy z.1 (w_Top cy mAd GI GM GR lfa lfi lan siz len tok stt fin num flw byt dwat dlev dkin dcdp dsil sta wat lev kin cdp sil hour dep arr deb nxt kep fhour fdep farr fdeb gft bal giv tak inc trc nrs ++ w_BA cy bAd z.2.1 z.2.2.1 z.2.2.2.1 z.2.2.2.2.1 z.2.2.2.2.2.1 z.2.2.2.2.2.2.1 z.2.2.2.2.2.2.2.1 z.2.2.2.2.2.2.2.2.1 z.2.2.2.2.2.2.2.2.2.1 z.2.2.2.2.2.2.2.2.2.2) A) (cc := cX8_image) (nL := 2) (ret := (some .int)) RX8 rfl (by decide) rfl (Nat.le_of_ble_eq_true rfl) ?_
  intro p e s m below meth c A ls C G hl
  have hl : lv_has ls 2 [(0, .ref (mAd 0)), (1, .int p1)] := hl
  have H := hz
  unfold f_X8_image_m at H
  obtain ⟨hx, hb, hr, hml, hown, hts, hlk, hK, hA, hE⟩ := id C
  have lk0 := hts (Cond.constant RX8 73 (-1000001)) (List.mem_of_getElem? (i := 1) rfl)
  have lk1 := hts (Cond.fieldLink RX8 33 "TideDebts" "now" "LTideDebts$Bay;") (List.mem_of_getElem? (i := 2) rfl)
  have lk2 := hts (Cond.fieldLink RX8 146 "TideDebts$Bay" "stands" "Z") (List.mem_of_getElem? (i := 3) rfl)
  have lk3 := hts (Cond.fieldLink RX8 37 "TideDebts" "images" "[LTideDebts$Bay;") (List.mem_of_getElem? (i := 5) rfl)
  have lk4 := hts (Cond.constant RX8 150 (-1000002)) (List.mem_of_getElem? (i := 4) rfl)
  have hiX1 : ∀ w ∈ u_ws RX1 TX1 3, w ∈ wsX8_image := fun _ h => List.mem_cons_of_mem _ (List.mem_append_left _ (List.mem_append_left _ (List.mem_append_right _ h)))
  have hiX8 : ∀ w ∈ u_ws RX8 TX8 11, w ∈ wsX8_image := fun _ h => List.mem_cons_of_mem _ (List.mem_append_left _ (List.mem_append_left _ (List.mem_append_left _ (List.mem_append_right _ h))))
  refine lv_iload_n hx hb dX8_image_0 rfl (lv_at hl 1 rfl) ?_
  refine lv_if_lt (tgt := 9) hx hb dX8_image_1 (by decide) (fun c1 => ?_) (fun c1 => ?_)
  · have H := if_t H c1
    refine lv_ldc hx hb hown lk0 dX8_image_9 ?_
    obtain rfl := Option.some.inj H
    exact ret_i C G rfl dX8_image_11
  · have H := if_f H c1
    refine lv_iload_n hx hb dX8_image_4 rfl (lv_at hl 1 rfl) ?_
    refine lv_iconst (v := 2) hx hb dX8_image_5 (by decide) ?_
    refine lv_icmp_lt (tgt := 12) hx hb dX8_image_6 (by decide) (fun c2 => ?_) (fun c2 => ?_)
    · have H := if_t H c2
      refine lv_aload_n hx hb dX8_image_12 rfl (lv_at hl 0 rfl) ?_
      refine va_get (D := D) (ci := 8) (v := .ref (mAd 12)) (C := RX8) (T := TX8) (N := 11) hx hb hts hiX8 hown hK G.1 0 rfl rfl 3 (by decide) lk1 (fun _ h9 => h9) rfl dX8_image_13 ?_
      refine va_get (D := D) (ci := 1) (v := .int sta) (C := RX1) (T := TX1) (N := 3) hx hb hts hiX1 hown hK G.1 12 rfl rfl 2 (by decide) lk2 (fun _ h9 => h9) rfl dX8_image_16 ?_
      refine lv_if_ne (tgt := 25) hx hb dX8_image_19 (by decide) (fun c3 => ?_) (fun c3 => ?_)
      · have H := if_f H c3
        refine lv_aload_n hx hb dX8_image_25 rfl (lv_at hl 0 rfl) ?_
        refine va_get (D := D) (ci := 8) (v := .ref (mAd 22)) (C := RX8) (T := TX8) (N := 11) hx hb hts hiX8 hown hK G.1 0 rfl rfl 4 (by decide) lk3 (fun _ h9 => h9) rfl dX8_image_26 ?_
        refine lv_iload_n hx hb dX8_image_29 rfl (lv_at hl 1 rfl) ?_
        obtain ⟨hb4, H⟩ := gd_some H
        refine g_aald (x := bAd 0) hx hb hK G.1 22 3 rfl rfl rfl hb4 (hg1 hb4) dX8_image_30 ?_
        refine lv_aload_n hx hb dX8_image_31 rfl (lv_at hl 0 rfl) ?_
        refine va_get (D := D) (ci := 8) (v := .ref (mAd 12)) (C := RX8) (T := TX8) (N := 11) hx hb hts hiX8 hown hK G.1 0 rfl rfl 3 (by decide) lk1 (fun _ h9 => h9) rfl dX8_image_32 ?_
        obtain ⟨z5, hz5, H⟩ := bd_some H
        refine MV.callV2 [.ref (mAd 12)] [] [36, 37, 38, 39, 40, 41, 42, 43, 44, 45, 12, 13, 14, 15, 16, 17, 18, 19, 20, 21] [0, 1, 2, 3, 4, 5, 6, 7, 8, 9, 10, 11, 22, 23, 24, 25, 26, 27, 28, 29, 30, 31, 32, 33, 34, 35] (w_Top cy mAd GI GM GR lfa lfi lan siz len tok stt fin num flw byt dwat dlev dkin dcdp dsil sta wat lev kin cdp sil hour dep arr deb nxt kep fhour fdep farr fdeb gft bal giv tak inc trc nrs ++ w_BA cy bAd z5.1 z5.2.1 z5.2.2.1 z5.2.2.2.1 z5.2.2.2.2.1 z5.2.2.2.2.2.1 z5.2.2.2.2.2.2.1 z5.2.2.2.2.2.2.2.1 z5.2.2.2.2.2.2.2.2.1 z5.2.2.2.2.2.2.2.2.2) C G (c_X1_takeFrom l D cy bAd (fun k => bAd (k + 1)) (fun k => bAd (k + 6)) (fun k => mAd (k + 12)) (fun k => mAd (k + 13)) (fun k => mAd (k + 18)) b_sta b_wat b_lev b_kin b_cdp b_sil b_hour b_dep b_arr b_deb sta wat lev kin cdp sil hour dep arr deb z5 hz5) gX8_image_X1_takeFrom rfl rfl rfl (n := 1) (by decide +kernel) ⟨Nat.le_of_ble_eq_true rfl, Nat.le_of_ble_eq_true rfl⟩ (q0 := 36) (ci := 1) rfl rfl rfl rfl rfl (N := 46) rfl (by decide) (by decide) rfl (List.forall_mem_cons.mpr ⟨⟨_, rfl, rfl⟩, (List.forall_mem_cons.mpr ⟨⟨_, rfl, rfl⟩, (List.forall_mem_cons.mpr ⟨⟨_, rfl, rfl⟩, (List.forall_mem_cons.mpr ⟨⟨_, rfl, rfl⟩, (List.forall_mem_cons.mpr ⟨⟨_, rfl, rfl⟩, (List.forall_mem_cons.mpr ⟨⟨_, rfl, rfl⟩, (List.forall_mem_cons.mpr ⟨⟨_, rfl, rfl⟩, (List.forall_mem_cons.mpr ⟨⟨_, rfl, rfl⟩, (List.forall_mem_cons.mpr ⟨⟨_, rfl, rfl⟩, (List.forall_mem_cons.mpr ⟨⟨_, rfl, rfl⟩, (List.forall_mem_cons.mpr ⟨⟨_, rfl, rfl⟩, (List.forall_mem_cons.mpr ⟨⟨_, rfl, rfl⟩, (List.forall_mem_cons.mpr ⟨⟨_, rfl, rfl⟩, (List.forall_mem_cons.mpr ⟨⟨_, rfl, rfl⟩, (List.forall_mem_cons.mpr ⟨⟨_, rfl, rfl⟩, (List.forall_mem_cons.mpr ⟨⟨_, rfl, rfl⟩, (List.forall_mem_cons.mpr ⟨⟨_, rfl, rfl⟩, (List.forall_mem_cons.mpr ⟨⟨_, rfl, rfl⟩, (List.forall_mem_cons.mpr ⟨⟨_, rfl, rfl⟩, (List.forall_mem_cons.mpr ⟨⟨_, rfl, rfl⟩, (List.forall_mem_cons.mpr ⟨⟨_, rfl, rfl⟩, (List.forall_mem_cons.mpr ⟨⟨_, rfl, rfl⟩, (List.forall_mem_cons.mpr ⟨⟨_, rfl, rfl⟩, (List.forall_mem_cons.mpr ⟨⟨_, rfl, rfl⟩, (List.forall_mem_cons.mpr ⟨⟨_, rfl, rfl⟩, (List.forall_mem_cons.mpr ⟨⟨_, rfl, rfl⟩, (fun _ h => absurd h List.not_mem_nil)⟩)⟩)⟩)⟩)⟩)⟩)⟩)⟩)⟩)⟩)⟩)⟩)⟩)⟩)⟩)⟩)⟩)⟩)⟩)⟩)⟩)⟩)⟩)⟩)⟩)⟩) rfl hl.1 rfl (Nat.le_of_ble_eq_true rfl) dX8_image_35 ⟨Nat.zero_le _, Nat.zero_le _⟩ (fun U locs G => ?_)
        have G : Gd D A s (w_Top cy mAd GI GM GR lfa lfi lan siz len tok stt fin num flw byt dwat dlev dkin dcdp dsil sta wat lev kin cdp sil hour dep arr deb nxt kep fhour fdep farr fdeb gft bal giv tak inc trc nrs ++ w_BA cy bAd z5.1 z5.2.1 z5.2.2.1 z5.2.2.2.1 z5.2.2.2.2.1 z5.2.2.2.2.2.1 z5.2.2.2.2.2.2.1 z5.2.2.2.2.2.2.2.1 z5.2.2.2.2.2.2.2.2.1 z5.2.2.2.2.2.2.2.2.2) U locs := G
        refine lv_iconst (v := 1) hx hb dX8_image_38 (by decide) ?_
        obtain rfl := Option.some.inj H
        exact ret_i C G rfl dX8_image_39
      · have H := if_t H c3
        refine lv_ldc hx hb hown lk4 dX8_image_22 ?_
        obtain rfl := Option.some.inj H
        exact ret_i C G rfl dX8_image_24
    · have H := if_f H c2
      refine lv_ldc hx hb hown lk0 dX8_image_9 ?_
      obtain rfl := Option.some.inj H
      exact ret_i C G rfl dX8_image_11
def f_X8_restore_m (sta wat : Int32) (lev kin cdp sil : Nat → Int32) (hour : Int32) (dep arr deb : Nat → Int32) (kep b_sta b_wat : Int32) (b_lev b_kin b_cdp b_sil : Nat → Int32) (b_hour : Int32) (b_dep b_arr b_deb : Nat → Int32) (p1 : Int32) : Option (Int32 × Int32 × Int32 × (Nat → Int32) × (Nat → Int32) × (Nat → Int32) × (Nat → Int32) × Int32 × (Nat → Int32) × (Nat → Int32) × (Nat → Int32) × Int32) := if p1 < 0 then (some ((-1000001), sta, wat, lev, kin, cdp, sil, hour, dep, arr, deb, kep)) else (if p1 < 2 then (gd (inb p1 2) (if b_sta = 0 then (some ((-1000002), sta, wat, lev, kin, cdp, sil, hour, dep, arr, deb, kep)) else (bd (f_X1_takeFrom sta wat lev kin cdp sil hour dep arr deb b_sta b_wat b_lev b_kin b_cdp b_sil b_hour b_dep b_arr b_deb) (fun z5 => bd (f_X5_forget kep) (fun z6 => some (1, z5.1, z5.2.1, z5.2.2.1, z5.2.2.2.1, z5.2.2.2.2.1, z5.2.2.2.2.2.1, z5.2.2.2.2.2.2.1, z5.2.2.2.2.2.2.2.1, z5.2.2.2.2.2.2.2.2.1, z5.2.2.2.2.2.2.2.2.2, z6)))))) else (some ((-1000001), sta, wat, lev, kin, cdp, sil, hour, dep, arr, deb, kep)))
set_option maxHeartbeats 4000000 in
set_option maxRecDepth 100000 in
theorem c_X8_restore_m (l : Launch) (D : va_G) (cy : Nat → ClassId) (mAd : Nat → Nat) (bAd : Nat → Nat) (GI GM GR : Nat → Option Nat) (lfa lfi : Int32) (lan siz : Nat → Int32) (len tok stt fin num flw : Int32) (byt : Nat → Int32) (dwat : Int32) (dlev dkin dcdp dsil : Nat → Int32) (sta wat : Int32) (lev kin cdp sil : Nat → Int32) (hour : Int32) (dep arr deb : Nat → Int32) (nxt kep fhour : Int32) (fdep farr fdeb : Nat → Int32) (gft : Int32) (bal giv tak inc : Nat → Int32) (trc : Int32) (nrs : Nat → Int32) (b_sta b_wat : Int32) (b_lev b_kin b_cdp b_sil : Nat → Int32) (b_hour : Int32) (b_dep b_arr b_deb : Nat → Int32) (p1 : Int32) (hg1 : inb p1 2 = true → GM (ix p1) = some (bAd 0)) (z : (Int32 × Int32 × Int32 × (Nat → Int32) × (Nat → Int32) × (Nat → Int32) × (Nat → Int32) × Int32 × (Nat → Int32) × (Nat → Int32) × (Nat → Int32) × Int32)) (hz : f_X8_restore_m sta wat lev kin cdp sil hour dep arr deb kep b_sta b_wat b_lev b_kin b_cdp b_sil b_hour b_dep b_arr b_deb p1 = some z) : MI l yX8_restore wsX8_restore ({ frames := 3, cells := 0, slots := 0, locals := 102 } : Room) D cy [.ref (mAd 0), .int p1] (w_Top cy mAd GI GM GR lfa lfi lan siz len tok stt fin num flw byt dwat dlev dkin dcdp dsil sta wat lev kin cdp sil hour dep arr deb nxt kep fhour fdep farr fdeb gft bal giv tak inc trc nrs ++ w_BA cy bAd b_sta b_wat b_lev b_kin b_cdp b_sil b_hour b_dep b_arr b_deb) z.1 (w_Top cy mAd GI GM GR lfa lfi lan siz len tok stt fin num flw byt dwat dlev dkin dcdp dsil z.2.1 z.2.2.1 z.2.2.2.1 z.2.2.2.2.1 z.2.2.2.2.2.1 z.2.2.2.2.2.2.1 z.2.2.2.2.2.2.2.1 z.2.2.2.2.2.2.2.2.1 z.2.2.2.2.2.2.2.2.2.1 z.2.2.2.2.2.2.2.2.2.2.1 nxt z.2.2.2.2.2.2.2.2.2.2.2 fhour fdep farr fdeb gft bal giv tak inc trc nrs ++ w_BA cy bAd b_sta b_wat b_lev b_kin b_cdp b_sil b_hour b_dep b_arr b_deb) := by
  refine met_start (Qf := fun A => MQi D cy z.1 (w_Top cy mAd GI GM GR lfa lfi lan siz len tok stt fin num flw byt dwat dlev dkin dcdp dsil z.2.1 z.2.2.1 z.2.2.2.1 z.2.2.2.2.1 z.2.2.2.2.2.1 z.2.2.2.2.2.2.1 z.2.2.2.2.2.2.2.1 z.2.2.2.2.2.2.2.2.1 z.2.2.2.2.2.2.2.2.2.1 z.2.2.2.2.2.2.2.2.2.2.1 nxt z.2.2.2.2.2.2.2.2.2.2.2 fhour fdep farr fdeb gft bal giv tak inc trc nrs ++ w_BA cy bAd b_sta b_wat b_lev b_kin b_cdp b_sil b_hour b_dep b_arr b_deb) A) (cc := cX8_restore) (nL := 2) (ret := (some .int)) RX8 rfl (by decide) rfl (Nat.le_of_ble_eq_true rfl) ?_
  intro p e s m below meth c A ls C G hl
  have hl : lv_has ls 2 [(0, .ref (mAd 0)), (1, .int p1)] := hl
  have H := hz
  unfold f_X8_restore_m at H
  obtain ⟨hx, hb, hr, hml, hown, hts, hlk, hK, hA, hE⟩ := id C
  have lk0 := hts (Cond.constant RX8 73 (-1000001)) (List.mem_of_getElem? (i := 1) rfl)
  have lk1 := hts (Cond.fieldLink RX8 37 "TideDebts" "images" "[LTideDebts$Bay;") (List.mem_of_getElem? (i := 2) rfl)
  have lk2 := hts (Cond.fieldLink RX8 146 "TideDebts$Bay" "stands" "Z") (List.mem_of_getElem? (i := 3) rfl)
  have lk3 := hts (Cond.fieldLink RX8 33 "TideDebts" "now" "LTideDebts$Bay;") (List.mem_of_getElem? (i := 5) rfl)
  have lk4 := hts (Cond.fieldLink RX8 44 "TideDebts" "past" "LTideDebts$Past;") (List.mem_of_getElem? (i := 6) rfl)
  have lk5 := hts (Cond.constant RX8 150 (-1000002)) (List.mem_of_getElem? (i := 4) rfl)
  have hiX1 : ∀ w ∈ u_ws RX1 TX1 3, w ∈ wsX8_restore := fun _ h => List.mem_cons_of_mem _ (List.mem_append_left _ (List.mem_append_left _ (List.mem_append_left _ (List.mem_append_right _ h))))
  have hiX8 : ∀ w ∈ u_ws RX8 TX8 11, w ∈ wsX8_restore := fun _ h => List.mem_cons_of_mem _ (List.mem_append_left _ (List.mem_append_left _ (List.mem_append_left _ (List.mem_append_left _ (List.mem_append_right _ h)))))
  refine lv_iload_n hx hb dX8_restore_0 rfl (lv_at hl 1 rfl) ?_
  refine lv_if_lt (tgt := 9) hx hb dX8_restore_1 (by decide) (fun c1 => ?_) (fun c1 => ?_)
  · have H := if_t H c1
    refine lv_ldc hx hb hown lk0 dX8_restore_9 ?_
    obtain rfl := Option.some.inj H
    exact ret_i C G rfl dX8_restore_11
  · have H := if_f H c1
    refine lv_iload_n hx hb dX8_restore_4 rfl (lv_at hl 1 rfl) ?_
    refine lv_iconst (v := 2) hx hb dX8_restore_5 (by decide) ?_
    refine lv_icmp_lt (tgt := 12) hx hb dX8_restore_6 (by decide) (fun c2 => ?_) (fun c2 => ?_)
    · have H := if_t H c2
      refine lv_aload_n hx hb dX8_restore_12 rfl (lv_at hl 0 rfl) ?_
      refine va_get (D := D) (ci := 8) (v := .ref (mAd 22)) (C := RX8) (T := TX8) (N := 11) hx hb hts hiX8 hown hK G.1 0 rfl rfl 4 (by decide) lk1 (fun _ h9 => h9) rfl dX8_restore_13 ?_
      refine lv_iload_n hx hb dX8_restore_16 rfl (lv_at hl 1 rfl) ?_
      obtain ⟨hb3, H⟩ := gd_some H
      refine g_aald (x := bAd 0) hx hb hK G.1 22 3 rfl rfl rfl hb3 (hg1 hb3) dX8_restore_17 ?_
      refine va_get (D := D) (ci := 1) (v := .int b_sta) (C := RX1) (T := TX1) (N := 3) hx hb hts hiX1 hown hK G.1 36 rfl rfl 2 (by decide) lk2 (fun _ h9 => h9) rfl dX8_restore_18 ?_
      refine lv_if_ne (tgt := 27) hx hb dX8_restore_21 (by decide) (fun c4 => ?_) (fun c4 => ?_)
      · have H := if_f H c4
        refine lv_aload_n hx hb dX8_restore_27 rfl (lv_at hl 0 rfl) ?_
        refine va_get (D := D) (ci := 8) (v := .ref (mAd 12)) (C := RX8) (T := TX8) (N := 11) hx hb hts hiX8 hown hK G.1 0 rfl rfl 3 (by decide) lk3 (fun _ h9 => h9) rfl dX8_restore_28 ?_
        refine lv_aload_n hx hb dX8_restore_31 rfl (lv_at hl 0 rfl) ?_
        refine va_get (D := D) (ci := 8) (v := .ref (mAd 22)) (C := RX8) (T := TX8) (N := 11) hx hb hts hiX8 hown hK G.1 0 rfl rfl 4 (by decide) lk1 (fun _ h9 => h9) rfl dX8_restore_32 ?_
        refine lv_iload_n hx hb dX8_restore_35 rfl (lv_at hl 1 rfl) ?_
        refine g_aald (x := bAd 0) hx hb hK G.1 22 3 rfl rfl rfl hb3 (hg1 hb3) dX8_restore_36 ?_
        obtain ⟨z5, hz5, H⟩ := bd_some H
        refine MV.callV2 [.ref (bAd 0)] [] [12, 13, 14, 15, 16, 17, 18, 19, 20, 21, 36, 37, 38, 39, 40, 41, 42, 43, 44, 45] [0, 1, 2, 3, 4, 5, 6, 7, 8, 9, 10, 11, 22, 23, 24, 25, 26, 27, 28, 29, 30, 31, 32, 33, 34, 35] (w_Top cy mAd GI GM GR lfa lfi lan siz len tok stt fin num flw byt dwat dlev dkin dcdp dsil z5.1 z5.2.1 z5.2.2.1 z5.2.2.2.1 z5.2.2.2.2.1 z5.2.2.2.2.2.1 z5.2.2.2.2.2.2.1 z5.2.2.2.2.2.2.2.1 z5.2.2.2.2.2.2.2.2.1 z5.2.2.2.2.2.2.2.2.2 nxt kep fhour fdep farr fdeb gft bal giv tak inc trc nrs ++ w_BA cy bAd b_sta b_wat b_lev b_kin b_cdp b_sil b_hour b_dep b_arr b_deb) C G (c_X1_takeFrom l D cy (fun k => mAd (k + 12)) (fun k => mAd (k + 13)) (fun k => mAd (k + 18)) bAd (fun k => bAd (k + 1)) (fun k => bAd (k + 6)) sta wat lev kin cdp sil hour dep arr deb b_sta b_wat b_lev b_kin b_cdp b_sil b_hour b_dep b_arr b_deb z5 hz5) gX8_restore_X1_takeFrom rfl rfl rfl (n := 1) (by decide +kernel) ⟨Nat.le_of_ble_eq_true rfl, Nat.le_of_ble_eq_true rfl⟩ (q0 := 12) (ci := 1) rfl rfl rfl rfl rfl (N := 46) rfl (by decide) (by decide) rfl (List.forall_mem_cons.mpr ⟨⟨_, rfl, rfl⟩, (List.forall_mem_cons.mpr ⟨⟨_, rfl, rfl⟩, (List.forall_mem_cons.mpr ⟨⟨_, rfl, rfl⟩, (List.forall_mem_cons.mpr ⟨⟨_, rfl, rfl⟩, (List.forall_mem_cons.mpr ⟨⟨_, rfl, rfl⟩, (List.forall_mem_cons.mpr ⟨⟨_, rfl, rfl⟩, (List.forall_mem_cons.mpr ⟨⟨_, rfl, rfl⟩, (List.forall_mem_cons.mpr ⟨⟨_, rfl, rfl⟩, (List.forall_mem_cons.mpr ⟨⟨_, rfl, rfl⟩, (List.forall_mem_cons.mpr ⟨⟨_, rfl, rfl⟩, (List.forall_mem_cons.mpr ⟨⟨_, rfl, rfl⟩, (List.forall_mem_cons.mpr ⟨⟨_, rfl, rfl⟩, (List.forall_mem_cons.mpr ⟨⟨_, rfl, rfl⟩, (List.forall_mem_cons.mpr ⟨⟨_, rfl, rfl⟩, (List.forall_mem_cons.mpr ⟨⟨_, rfl, rfl⟩, (List.forall_mem_cons.mpr ⟨⟨_, rfl, rfl⟩, (List.forall_mem_cons.mpr ⟨⟨_, rfl, rfl⟩, (List.forall_mem_cons.mpr ⟨⟨_, rfl, rfl⟩, (List.forall_mem_cons.mpr ⟨⟨_, rfl, rfl⟩, (List.forall_mem_cons.mpr ⟨⟨_, rfl, rfl⟩, (List.forall_mem_cons.mpr ⟨⟨_, rfl, rfl⟩, (List.forall_mem_cons.mpr ⟨⟨_, rfl, rfl⟩, (List.forall_mem_cons.mpr ⟨⟨_, rfl, rfl⟩, (List.forall_mem_cons.mpr ⟨⟨_, rfl, rfl⟩, (List.forall_mem_cons.mpr ⟨⟨_, rfl, rfl⟩, (List.forall_mem_cons.mpr ⟨⟨_, rfl, rfl⟩, (fun _ h => absurd h List.not_mem_nil)⟩)⟩)⟩)⟩)⟩)⟩)⟩)⟩)⟩)⟩)⟩)⟩)⟩)⟩)⟩)⟩)⟩)⟩)⟩)⟩)⟩)⟩)⟩)⟩)⟩)⟩) rfl hl.1 rfl (Nat.le_of_ble_eq_true rfl) dX8_restore_37 ⟨Nat.zero_le _, Nat.zero_le _⟩ (fun U locs G => ?_)
        have G : Gd D A s (w_Top cy mAd GI GM GR lfa lfi lan siz len tok stt fin num flw byt dwat dlev dkin dcdp dsil z5.1 z5.2.1 z5.2.2.1 z5.2.2.2.1 z5.2.2.2.2.1 z5.2.2.2.2.2.1 z5.2.2.2.2.2.2.1 z5.2.2.2.2.2.2.2.1 z5.2.2.2.2.2.2.2.2.1 z5.2.2.2.2.2.2.2.2.2 nxt kep fhour fdep farr fdeb gft bal giv tak inc trc nrs ++ w_BA cy bAd b_sta b_wat b_lev b_kin b_cdp b_sil b_hour b_dep b_arr b_deb) U locs := G
        refine lv_aload_n hx hb dX8_restore_40 rfl (lv_at hl 0 rfl) ?_
        refine va_get (D := D) (ci := 8) (v := .ref (mAd 23)) (C := RX8) (T := TX8) (N := 11) hx hb hts hiX8 hown hK G.1 0 rfl rfl 5 (by decide) lk4 (fun _ h9 => h9) rfl dX8_restore_41 ?_
        obtain ⟨z6, hz6, H⟩ := bd_some H
        refine MV.callV [] [] [23, 24] C G (c_X5_forget l D cy (fun k => mAd (k + 23)) GR nxt kep z6 hz6) gX8_restore_X5_forget rfl rfl rfl (n := 0) (by decide +kernel) ⟨Nat.le_of_ble_eq_true rfl, Nat.le_of_ble_eq_true rfl⟩ (q0 := 23) (ci := 5) rfl rfl rfl rfl rfl rfl rfl hl.1 rfl (Nat.le_of_ble_eq_true rfl) dX8_restore_44 ⟨Nat.zero_le _, Nat.zero_le _⟩ (fun U locs G => ?_)
        have G : Gd D A s (w_Top cy mAd GI GM GR lfa lfi lan siz len tok stt fin num flw byt dwat dlev dkin dcdp dsil z5.1 z5.2.1 z5.2.2.1 z5.2.2.2.1 z5.2.2.2.2.1 z5.2.2.2.2.2.1 z5.2.2.2.2.2.2.1 z5.2.2.2.2.2.2.2.1 z5.2.2.2.2.2.2.2.2.1 z5.2.2.2.2.2.2.2.2.2 nxt z6 fhour fdep farr fdeb gft bal giv tak inc trc nrs ++ w_BA cy bAd b_sta b_wat b_lev b_kin b_cdp b_sil b_hour b_dep b_arr b_deb) U locs := G
        refine lv_iconst (v := 1) hx hb dX8_restore_47 (by decide) ?_
        obtain rfl := Option.some.inj H
        exact ret_i C G rfl dX8_restore_48
      · have H := if_t H c4
        refine lv_ldc hx hb hown lk5 dX8_restore_24 ?_
        obtain rfl := Option.some.inj H
        exact ret_i C G rfl dX8_restore_26
    · have H := if_f H c2
      refine lv_ldc hx hb hown lk0 dX8_restore_9 ?_
      obtain rfl := Option.some.inj H
      exact ret_i C G rfl dX8_restore_11
