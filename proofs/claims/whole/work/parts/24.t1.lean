def f_X8_isRow (p0 : Int32) : Option Int32 := if p0 < 0 then (some 0) else (if 8 ≤ p0 then (some 0) else (some 1))
set_option maxHeartbeats 4000000 in
set_option maxRecDepth 100000 in
theorem c_X8_isRow (l : Launch) (D : va_G) (cy : Nat → ClassId) (p0 : Int32) (z : Int32) (hz : f_X8_isRow p0 = some z) : MI l yX8_isRow wsX8_isRow ({ frames := 0, cells := 0, slots := 0, locals := 0 } : Room) D cy [.int p0] [] z [] := by
  refine met_start (Qf := fun A => MQi D cy z [] A) (cc := cX8_isRow) (nL := 1) (ret := (some .boolean)) RX8 rfl (by decide) rfl (Nat.le_of_ble_eq_true rfl) ?_
  intro p e s m below meth c A ls C G hl
  have hl : lv_has ls 1 [(0, .int p0)] := hl
  have H := hz
  unfold f_X8_isRow at H
  obtain ⟨hx, hb, hr, hml, hown, hts, hlk, hK, hA, hE⟩ := id C
  refine lv_iload_n hx hb dX8_isRow_0 rfl (lv_at hl 0 rfl) ?_
  refine lv_if_lt (tgt := 14) hx hb dX8_isRow_1 (by decide) (fun c1 => ?_) (fun c1 => ?_)
  · have H := if_t H c1
    refine lv_iconst (v := 0) hx hb dX8_isRow_14 (by decide) ?_
    obtain rfl := Option.some.inj H
    exact ret_z C G rfl rfl dX8_isRow_15
  · have H := if_f H c1
    refine lv_iload_n hx hb dX8_isRow_4 rfl (lv_at hl 0 rfl) ?_
    refine lv_bipush (v := 8) hx hb dX8_isRow_5 (by decide) ?_
    refine lv_icmp_ge (tgt := 14) hx hb dX8_isRow_7 (by decide) (fun c2 => ?_) (fun c2 => ?_)
    · have H := if_t H c2
      refine lv_iconst (v := 0) hx hb dX8_isRow_14 (by decide) ?_
      obtain rfl := Option.some.inj H
      exact ret_z C G rfl rfl dX8_isRow_15
    · have H := if_f H c2
      refine lv_iconst (v := 1) hx hb dX8_isRow_10 (by decide) ?_
      refine lv_goto (tgt := 15) hx hb dX8_isRow_11 (by decide) ?_
      obtain rfl := Option.some.inj H
      exact ret_z C G rfl rfl dX8_isRow_15
def f_X8_isWater (wat p1 : Int32) : Option Int32 := if p1 < 0 then (some 0) else (if wat ≤ p1 then (some 0) else (some 1))
set_option maxHeartbeats 4000000 in
set_option maxRecDepth 100000 in
theorem c_X8_isWater (l : Launch) (D : va_G) (cy : Nat → ClassId) (mAd : Nat → Nat) (GI GM GR : Nat → Option Nat) (lfa lfi : Int32) (lan siz : Nat → Int32) (len tok stt fin num flw : Int32) (byt : Nat → Int32) (dwat : Int32) (dlev dkin dcdp dsil : Nat → Int32) (sta wat : Int32) (lev kin cdp sil : Nat → Int32) (hour : Int32) (dep arr deb : Nat → Int32) (nxt kep fhour : Int32) (fdep farr fdeb : Nat → Int32) (gft : Int32) (bal giv tak inc : Nat → Int32) (trc : Int32) (nrs : Nat → Int32) (p1 : Int32) (z : Int32) (hz : f_X8_isWater wat p1 = some z) : MI l yX8_isWater wsX8_isWater ({ frames := 0, cells := 0, slots := 0, locals := 0 } : Room) D cy [.ref (mAd 0), .int p1] (w_Top cy mAd GI GM GR lfa lfi lan siz len tok stt fin num flw byt dwat dlev dkin dcdp dsil sta wat lev kin cdp sil hour dep arr deb nxt kep fhour fdep farr fdeb gft bal giv tak inc trc nrs) z (w_Top cy mAd GI GM GR lfa lfi lan siz len tok stt fin num flw byt dwat dlev dkin dcdp dsil sta wat lev kin cdp sil hour dep arr deb nxt kep fhour fdep farr fdeb gft bal giv tak inc trc nrs) := by
  refine met_start (Qf := fun A => MQi D cy z (w_Top cy mAd GI GM GR lfa lfi lan siz len tok stt fin num flw byt dwat dlev dkin dcdp dsil sta wat lev kin cdp sil hour dep arr deb nxt kep fhour fdep farr fdeb gft bal giv tak inc trc nrs) A) (cc := cX8_isWater) (nL := 2) (ret := (some .boolean)) RX8 rfl (by decide) rfl (Nat.le_of_ble_eq_true rfl) ?_
  intro p e s m below meth c A ls C G hl
  have hl : lv_has ls 2 [(0, .ref (mAd 0)), (1, .int p1)] := hl
  have H := hz
  unfold f_X8_isWater at H
  obtain ⟨hx, hb, hr, hml, hown, hts, hlk, hK, hA, hE⟩ := id C
  have lk0 := hts (Cond.fieldLink RX8 33 "TideDebts" "now" "LTideDebts$Bay;") (List.mem_of_getElem? (i := 1) rfl)
  have lk1 := hts (Cond.fieldLink RX8 140 "TideDebts$Bay" "chart" "LTideDebts$Chart;") (List.mem_of_getElem? (i := 2) rfl)
  have lk2 := hts (Cond.fieldLink RX8 143 "TideDebts$Chart" "waters" "I") (List.mem_of_getElem? (i := 3) rfl)
  have hiX1 : ∀ w ∈ u_ws RX1 TX1 3, w ∈ wsX8_isWater := fun _ h => List.mem_cons_of_mem _ (List.mem_append_left _ (List.mem_append_right _ h))
  have hiX2 : ∀ w ∈ u_ws RX2 TX2 5, w ∈ wsX8_isWater := fun _ h => List.mem_cons_of_mem _ (List.mem_append_right _ h)
  have hiX8 : ∀ w ∈ u_ws RX8 TX8 11, w ∈ wsX8_isWater := fun _ h => List.mem_cons_of_mem _ (List.mem_append_left _ (List.mem_append_left _ (List.mem_append_right _ h)))
  refine lv_iload_n hx hb dX8_isWater_0 rfl (lv_at hl 1 rfl) ?_
  refine lv_if_lt (tgt := 22) hx hb dX8_isWater_1 (by decide) (fun c1 => ?_) (fun c1 => ?_)
  · have H := if_t H c1
    refine lv_iconst (v := 0) hx hb dX8_isWater_22 (by decide) ?_
    obtain rfl := Option.some.inj H
    exact ret_z C G rfl rfl dX8_isWater_23
  · have H := if_f H c1
    refine lv_iload_n hx hb dX8_isWater_4 rfl (lv_at hl 1 rfl) ?_
    refine lv_aload_n hx hb dX8_isWater_5 rfl (lv_at hl 0 rfl) ?_
    refine va_get (D := D) (ci := 8) (v := .ref (mAd 12)) (C := RX8) (T := TX8) (N := 11) hx hb hts hiX8 hown hK G.1 0 rfl rfl 3 (by decide) lk0 (fun _ h9 => h9) rfl dX8_isWater_6 ?_
    refine va_get (D := D) (ci := 1) (v := .ref (mAd 13)) (C := RX1) (T := TX1) (N := 3) hx hb hts hiX1 hown hK G.1 12 rfl rfl 0 (by decide) lk1 (fun _ h9 => h9) rfl dX8_isWater_9 ?_
    refine va_get (D := D) (ci := 2) (v := .int wat) (C := RX2) (T := TX2) (N := 5) hx hb hts hiX2 hown hK G.1 13 rfl rfl 4 (by decide) lk2 (fun _ h9 => h9) rfl dX8_isWater_12 ?_
    refine lv_icmp_ge (tgt := 22) hx hb dX8_isWater_15 (by decide) (fun c2 => ?_) (fun c2 => ?_)
    · have H := if_t H c2
      refine lv_iconst (v := 0) hx hb dX8_isWater_22 (by decide) ?_
      obtain rfl := Option.some.inj H
      exact ret_z C G rfl rfl dX8_isWater_23
    · have H := if_f H c2
      refine lv_iconst (v := 1) hx hb dX8_isWater_18 (by decide) ?_
      refine lv_goto (tgt := 23) hx hb dX8_isWater_19 (by decide) ?_
      obtain rfl := Option.some.inj H
      exact ret_z C G rfl rfl dX8_isWater_23
def f_X8_areTwoWaters (wat p1 p2 : Int32) : Option Int32 := bd (f_X8_isWater wat p1) (fun z1 => if z1 = 0 then (some 0) else (bd (f_X8_isWater wat p2) (fun z3 => if z3 = 0 then (some 0) else (if p1 = p2 then (some 0) else (some 1)))))
set_option maxHeartbeats 4000000 in
set_option maxRecDepth 100000 in
theorem c_X8_areTwoWaters (l : Launch) (D : va_G) (cy : Nat → ClassId) (mAd : Nat → Nat) (GI GM GR : Nat → Option Nat) (lfa lfi : Int32) (lan siz : Nat → Int32) (len tok stt fin num flw : Int32) (byt : Nat → Int32) (dwat : Int32) (dlev dkin dcdp dsil : Nat → Int32) (sta wat : Int32) (lev kin cdp sil : Nat → Int32) (hour : Int32) (dep arr deb : Nat → Int32) (nxt kep fhour : Int32) (fdep farr fdeb : Nat → Int32) (gft : Int32) (bal giv tak inc : Nat → Int32) (trc : Int32) (nrs : Nat → Int32) (p1 p2 : Int32) (z : Int32) (hz : f_X8_areTwoWaters wat p1 p2 = some z) : MI l yX8_areTwoWaters wsX8_areTwoWaters ({ frames := 1, cells := 0, slots := 0, locals := 21 } : Room) D cy [.ref (mAd 0), .int p1, .int p2] (w_Top cy mAd GI GM GR lfa lfi lan siz len tok stt fin num flw byt dwat dlev dkin dcdp dsil sta wat lev kin cdp sil hour dep arr deb nxt kep fhour fdep farr fdeb gft bal giv tak inc trc nrs) z (w_Top cy mAd GI GM GR lfa lfi lan siz len tok stt fin num flw byt dwat dlev dkin dcdp dsil sta wat lev kin cdp sil hour dep arr deb nxt kep fhour fdep farr fdeb gft bal giv tak inc trc nrs) := by
  refine met_start (Qf := fun A => MQi D cy z (w_Top cy mAd GI GM GR lfa lfi lan siz len tok stt fin num flw byt dwat dlev dkin dcdp dsil sta wat lev kin cdp sil hour dep arr deb nxt kep fhour fdep farr fdeb gft bal giv tak inc trc nrs) A) (cc := cX8_areTwoWaters) (nL := 3) (ret := (some .boolean)) RX8 rfl (by decide) rfl (Nat.le_of_ble_eq_true rfl) ?_
  intro p e s m below meth c A ls C G hl
  have hl : lv_has ls 3 [(0, .ref (mAd 0)), (1, .int p1), (2, .int p2)] := hl
  have H := hz
  unfold f_X8_areTwoWaters at H
  obtain ⟨hx, hb, hr, hml, hown, hts, hlk, hK, hA, hE⟩ := id C
  refine lv_aload_n hx hb dX8_areTwoWaters_0 rfl (lv_at hl 0 rfl) ?_
  refine lv_iload_n hx hb dX8_areTwoWaters_1 rfl (lv_at hl 1 rfl) ?_
  obtain ⟨z1, hz1, H⟩ := bd_some H
  refine MI.callVw z1 [.int p1] [] C G (c_X8_isWater l D cy mAd GI GM GR lfa lfi lan siz len tok stt fin num flw byt dwat dlev dkin dcdp dsil sta wat lev kin cdp sil hour dep arr deb nxt kep fhour fdep farr fdeb gft bal giv tak inc trc nrs p1 z1 hz1) gX8_areTwoWaters_X8_isWater rfl rfl rfl (n := 1) (by decide +kernel) ⟨Nat.le_of_ble_eq_true rfl, Nat.le_of_ble_eq_true rfl⟩ (q0 := 0) (ci := 8) rfl rfl rfl rfl hl.1 rfl (Nat.le_of_ble_eq_true rfl) dX8_areTwoWaters_2 ⟨Nat.zero_le _, Nat.zero_le _⟩ (fun U locs G => ?_)
  have G : Gd D A s (w_Top cy mAd GI GM GR lfa lfi lan siz len tok stt fin num flw byt dwat dlev dkin dcdp dsil sta wat lev kin cdp sil hour dep arr deb nxt kep fhour fdep farr fdeb gft bal giv tak inc trc nrs) U locs := G
  refine lv_if_eq (tgt := 25) hx hb dX8_areTwoWaters_5 (by decide) (fun c2 => ?_) (fun c2 => ?_)
  · have H := if_t H c2
    refine lv_iconst (v := 0) hx hb dX8_areTwoWaters_25 (by decide) ?_
    obtain rfl := Option.some.inj H
    exact ret_z C G rfl rfl dX8_areTwoWaters_26
  · have H := if_f H c2
    refine lv_aload_n hx hb dX8_areTwoWaters_8 rfl (lv_at hl 0 rfl) ?_
    refine lv_iload_n hx hb dX8_areTwoWaters_9 rfl (lv_at hl 2 rfl) ?_
    obtain ⟨z3, hz3, H⟩ := bd_some H
    refine MI.callVw z3 [.int p2] [] C G (c_X8_isWater l D cy mAd GI GM GR lfa lfi lan siz len tok stt fin num flw byt dwat dlev dkin dcdp dsil sta wat lev kin cdp sil hour dep arr deb nxt kep fhour fdep farr fdeb gft bal giv tak inc trc nrs p2 z3 hz3) gX8_areTwoWaters_X8_isWater rfl rfl rfl (n := 1) (by decide +kernel) ⟨Nat.le_of_ble_eq_true rfl, Nat.le_of_ble_eq_true rfl⟩ (q0 := 0) (ci := 8) rfl rfl rfl rfl hl.1 rfl (Nat.le_of_ble_eq_true rfl) dX8_areTwoWaters_10 ⟨Nat.zero_le _, Nat.zero_le _⟩ (fun U locs G => ?_)
    have G : Gd D A s (w_Top cy mAd GI GM GR lfa lfi lan siz len tok stt fin num flw byt dwat dlev dkin dcdp dsil sta wat lev kin cdp sil hour dep arr deb nxt kep fhour fdep farr fdeb gft bal giv tak inc trc nrs) U locs := G
    refine lv_if_eq (tgt := 25) hx hb dX8_areTwoWaters_13 (by decide) (fun c4 => ?_) (fun c4 => ?_)
    · have H := if_t H c4
      refine lv_iconst (v := 0) hx hb dX8_areTwoWaters_25 (by decide) ?_
      obtain rfl := Option.some.inj H
      exact ret_z C G rfl rfl dX8_areTwoWaters_26
    · have H := if_f H c4
      refine lv_iload_n hx hb dX8_areTwoWaters_16 rfl (lv_at hl 1 rfl) ?_
      refine lv_iload_n hx hb dX8_areTwoWaters_17 rfl (lv_at hl 2 rfl) ?_
      refine lv_icmp_eq (tgt := 25) hx hb dX8_areTwoWaters_18 (by decide) (fun c5 => ?_) (fun c5 => ?_)
      · have H := if_t H c5
        refine lv_iconst (v := 0) hx hb dX8_areTwoWaters_25 (by decide) ?_
        obtain rfl := Option.some.inj H
        exact ret_z C G rfl rfl dX8_areTwoWaters_26
      · have H := if_f H c5
        refine lv_iconst (v := 1) hx hb dX8_areTwoWaters_21 (by decide) ?_
        refine lv_goto (tgt := 26) hx hb dX8_areTwoWaters_22 (by decide) ?_
        obtain rfl := Option.some.inj H
        exact ret_z C G rfl rfl dX8_areTwoWaters_26
def f_X8_found (lfi p1 : Int32) : Option (Int32 × Int32) := some ((-1000010) - p1, p1)
set_option maxHeartbeats 4000000 in
set_option maxRecDepth 100000 in
theorem c_X8_found (l : Launch) (D : va_G) (cy : Nat → ClassId) (mAd : Nat → Nat) (GI GM GR : Nat → Option Nat) (lfa lfi : Int32) (lan siz : Nat → Int32) (len tok stt fin num flw : Int32) (byt : Nat → Int32) (dwat : Int32) (dlev dkin dcdp dsil : Nat → Int32) (sta wat : Int32) (lev kin cdp sil : Nat → Int32) (hour : Int32) (dep arr deb : Nat → Int32) (nxt kep fhour : Int32) (fdep farr fdeb : Nat → Int32) (gft : Int32) (bal giv tak inc : Nat → Int32) (trc : Int32) (nrs : Nat → Int32) (p1 : Int32) (z : (Int32 × Int32)) (hz : f_X8_found lfi p1 = some z) : MI l yX8_found wsX8_found ({ frames := 0, cells := 0, slots := 0, locals := 0 } : Room) D cy [.ref (mAd 0), .int p1] (w_Top cy mAd GI GM GR lfa lfi lan siz len tok stt fin num flw byt dwat dlev dkin dcdp dsil sta wat lev kin cdp sil hour dep arr deb nxt kep fhour fdep farr fdeb gft bal giv tak inc trc nrs) z.1 (w_Top cy mAd GI GM GR lfa z.2 lan siz len tok stt fin num flw byt dwat dlev dkin dcdp dsil sta wat lev kin cdp sil hour dep arr deb nxt kep fhour fdep farr fdeb gft bal giv tak inc trc nrs) := by
  refine met_start (Qf := fun A => MQi D cy z.1 (w_Top cy mAd GI GM GR lfa z.2 lan siz len tok stt fin num flw byt dwat dlev dkin dcdp dsil sta wat lev kin cdp sil hour dep arr deb nxt kep fhour fdep farr fdeb gft bal giv tak inc trc nrs) A) (cc := cX8_found) (nL := 2) (ret := (some .int)) RX8 rfl (by decide) rfl (Nat.le_of_ble_eq_true rfl) ?_
  intro p e s m below meth c A ls C G hl
  have hl : lv_has ls 2 [(0, .ref (mAd 0)), (1, .int p1)] := hl
  have H := hz
  unfold f_X8_found at H
  obtain ⟨hx, hb, hr, hml, hown, hts, hlk, hK, hA, hE⟩ := id C
  have lk0 := hts (Cond.fieldLink RX8 281 "TideDebts" "latestFinding" "I") (List.mem_of_getElem? (i := 1) rfl)
  have lk1 := hts (Cond.constant RX8 284 (-1000010)) (List.mem_of_getElem? (i := 2) rfl)
  have hiX8 : ∀ w ∈ u_ws RX8 TX8 11, w ∈ wsX8_found := fun _ h => List.mem_cons_of_mem _ (List.mem_append_right _ h)
  refine lv_aload_n hx hb dX8_found_0 rfl (lv_at hl 0 rfl) ?_
  refine lv_iload_n hx hb dX8_found_1 rfl (lv_at hl 1 rfl) ?_
  refine va_put (D := D) (ci := 8) (v := .int p1) (ty := .int) (C := RX8) (T := TX8) (N := 11) hx hb hts hiX8 tyX8 tyX8_ok nmX8 hown hK G.1 G.2.1 G.2.2 0 rfl rfl 10 (by decide) lk0 (fun _ h9 => h9) rfl (tyX8_ok 10 (by decide)) rfl rfl (Nat.le_of_ble_eq_true rfl) dX8_found_2 (fun U locs hP hD hS => ?_)
  have G : Gd D A s (w_Top cy mAd GI GM GR lfa p1 lan siz len tok stt fin num flw byt dwat dlev dkin dcdp dsil sta wat lev kin cdp sil hour dep arr deb nxt kep fhour fdep farr fdeb gft bal giv tak inc trc nrs) U locs := ⟨hP, hD, hS⟩
  refine lv_ldcw hx hb hown lk1 dX8_found_5 ?_
  refine lv_iload_n hx hb dX8_found_8 rfl (lv_at hl 1 rfl) ?_
  refine lv_isub hx hb dX8_found_9 ?_
  obtain rfl := Option.some.inj H
  exact ret_i C G rfl dX8_found_10
def f_X8_fine (lfi p1 : Int32) : Option (Int32 × Int32) := some (p1, 0)
set_option maxHeartbeats 4000000 in
set_option maxRecDepth 100000 in
theorem c_X8_fine (l : Launch) (D : va_G) (cy : Nat → ClassId) (mAd : Nat → Nat) (GI GM GR : Nat → Option Nat) (lfa lfi : Int32) (lan siz : Nat → Int32) (len tok stt fin num flw : Int32) (byt : Nat → Int32) (dwat : Int32) (dlev dkin dcdp dsil : Nat → Int32) (sta wat : Int32) (lev kin cdp sil : Nat → Int32) (hour : Int32) (dep arr deb : Nat → Int32) (nxt kep fhour : Int32) (fdep farr fdeb : Nat → Int32) (gft : Int32) (bal giv tak inc : Nat → Int32) (trc : Int32) (nrs : Nat → Int32) (p1 : Int32) (z : (Int32 × Int32)) (hz : f_X8_fine lfi p1 = some z) : MI l yX8_fine wsX8_fine ({ frames := 0, cells := 0, slots := 0, locals := 0 } : Room) D cy [.ref (mAd 0), .int p1] (w_Top cy mAd GI GM GR lfa lfi lan siz len tok stt fin num flw byt dwat dlev dkin dcdp dsil sta wat lev kin cdp sil hour dep arr deb nxt kep fhour fdep farr fdeb gft bal giv tak inc trc nrs) z.1 (w_Top cy mAd GI GM GR lfa z.2 lan siz len tok stt fin num flw byt dwat dlev dkin dcdp dsil sta wat lev kin cdp sil hour dep arr deb nxt kep fhour fdep farr fdeb gft bal giv tak inc trc nrs) := by
  refine met_start (Qf := fun A => MQi D cy z.1 (w_Top cy mAd GI GM GR lfa z.2 lan siz len tok stt fin num flw byt dwat dlev dkin dcdp dsil sta wat lev kin cdp sil hour dep arr deb nxt kep fhour fdep farr fdeb gft bal giv tak inc trc nrs) A) (cc := cX8_fine) (nL := 2) (ret := (some .int)) RX8 rfl (by decide) rfl (Nat.le_of_ble_eq_true rfl) ?_
  intro p e s m below meth c A ls C G hl
  have hl : lv_has ls 2 [(0, .ref (mAd 0)), (1, .int p1)] := hl
  have H := hz
  unfold f_X8_fine at H
  obtain ⟨hx, hb, hr, hml, hown, hts, hlk, hK, hA, hE⟩ := id C
  have lk0 := hts (Cond.fieldLink RX8 281 "TideDebts" "latestFinding" "I") (List.mem_of_getElem? (i := 1) rfl)
  have hiX8 : ∀ w ∈ u_ws RX8 TX8 11, w ∈ wsX8_fine := fun _ h => List.mem_cons_of_mem _ (List.mem_append_right _ h)
  refine lv_aload_n hx hb dX8_fine_0 rfl (lv_at hl 0 rfl) ?_
  refine lv_iconst (v := 0) hx hb dX8_fine_1 (by decide) ?_
  refine va_put (D := D) (ci := 8) (v := .int 0) (ty := .int) (C := RX8) (T := TX8) (N := 11) hx hb hts hiX8 tyX8 tyX8_ok nmX8 hown hK G.1 G.2.1 G.2.2 0 rfl rfl 10 (by decide) lk0 (fun _ h9 => h9) rfl (tyX8_ok 10 (by decide)) rfl rfl (Nat.le_of_ble_eq_true rfl) dX8_fine_2 (fun U locs hP hD hS => ?_)
  have G : Gd D A s (w_Top cy mAd GI GM GR lfa 0 lan siz len tok stt fin num flw byt dwat dlev dkin dcdp dsil sta wat lev kin cdp sil hour dep arr deb nxt kep fhour fdep farr fdeb gft bal giv tak inc trc nrs) U locs := ⟨hP, hD, hS⟩
  refine lv_iload_n hx hb dX8_fine_5 rfl (lv_at hl 1 rfl) ?_
  obtain rfl := Option.some.inj H
  exact ret_i C G rfl dX8_fine_6
def f_X8_drop (lfi : Int32) (lan siz : Nat → Int32) (p1 : Int32) : Option (Int32 × Int32 × (Nat → Int32)) := bd (f_X8_isRow p1) (fun z1 => if z1 = 0 then (some ((-1000001), lfi, lan)) else (bd (f_X6_isMissing lan p1) (fun z3 => if z3 = 0 then (bd (f_X6_remove lan siz p1) (fun z5 => bd (f_X8_fine lfi z5.1) (fun z6 => some (z6.1, z6.2, z5.2)))) else (bd (f_X8_found lfi 1) (fun z7 => some (z7.1, z7.2, lan))))))
set_option maxHeartbeats 4000000 in
set_option maxRecDepth 100000 in
theorem c_X8_drop (l : Launch) (D : va_G) (cy : Nat → ClassId) (mAd : Nat → Nat) (GI GM GR : Nat → Option Nat) (lfa lfi : Int32) (lan siz : Nat → Int32) (len tok stt fin num flw : Int32) (byt : Nat → Int32) (dwat : Int32) (dlev dkin dcdp dsil : Nat → Int32) (sta wat : Int32) (lev kin cdp sil : Nat → Int32) (hour : Int32) (dep arr deb : Nat → Int32) (nxt kep fhour : Int32) (fdep farr fdeb : Nat → Int32) (gft : Int32) (bal giv tak inc : Nat → Int32) (trc : Int32) (nrs : Nat → Int32) (p1 : Int32) (z : (Int32 × Int32 × (Nat → Int32))) (hz : f_X8_drop lfi lan siz p1 = some z) : MI l yX8_drop wsX8_drop ({ frames := 1, cells := 0, slots := 0, locals := 21 } : Room) D cy [.ref (mAd 0), .int p1] (w_Top cy mAd GI GM GR lfa lfi lan siz len tok stt fin num flw byt dwat dlev dkin dcdp dsil sta wat lev kin cdp sil hour dep arr deb nxt kep fhour fdep farr fdeb gft bal giv tak inc trc nrs) z.1 (w_Top cy mAd GI GM GR lfa z.2.1 z.2.2 siz len tok stt fin num flw byt dwat dlev dkin dcdp dsil sta wat lev kin cdp sil hour dep arr deb nxt kep fhour fdep farr fdeb gft bal giv tak inc trc nrs) := by
  refine met_start (Qf := fun A => MQi D cy z.1 (w_Top cy mAd GI GM GR lfa z.2.1 z.2.2 siz len tok stt fin num flw byt dwat dlev dkin dcdp dsil sta wat lev kin cdp sil hour dep arr deb nxt kep fhour fdep farr fdeb gft bal giv tak inc trc nrs) A) (cc := cX8_drop) (nL := 2) (ret := (some .int)) RX8 rfl (by decide) rfl (Nat.le_of_ble_eq_true rfl) ?_
  intro p e s m below meth c A ls C G hl
  have hl : lv_has ls 2 [(0, .ref (mAd 0)), (1, .int p1)] := hl
  have H := hz
  unfold f_X8_drop at H
  obtain ⟨hx, hb, hr, hml, hown, hts, hlk, hK, hA, hE⟩ := id C
  have lk0 := hts (Cond.fieldLink RX8 10 "TideDebts" "rows" "LTideDebts$Rows;") (List.mem_of_getElem? (i := 2) rfl)
  have lk1 := hts (Cond.constant RX8 73 (-1000001)) (List.mem_of_getElem? (i := 1) rfl)
  have hiX8 : ∀ w ∈ u_ws RX8 TX8 11, w ∈ wsX8_drop := fun _ h => List.mem_cons_of_mem _ (List.mem_append_left _ (List.mem_append_right _ h))
  refine lv_iload_n hx hb dX8_drop_0 rfl (lv_at hl 1 rfl) ?_
  obtain ⟨z1, hz1, H⟩ := bd_some H
  refine MI.callS z1 [.int p1] [] [] C G (c_X8_isRow l D cy p1 z1 hz1) gX8_drop_X8_isRow rfl rfl rfl (n := 1) (by decide +kernel) ⟨Nat.le_of_ble_eq_true rfl, Nat.le_of_ble_eq_true rfl⟩ rfl rfl rfl rfl hl.1 rfl (Nat.le_of_ble_eq_true rfl) dX8_drop_1 ⟨Nat.zero_le _, Nat.zero_le _⟩ (fun U locs G => ?_)
  have G : Gd D A s (w_Top cy mAd GI GM GR lfa lfi lan siz len tok stt fin num flw byt dwat dlev dkin dcdp dsil sta wat lev kin cdp sil hour dep arr deb nxt kep fhour fdep farr fdeb gft bal giv tak inc trc nrs) U locs := G
  refine lv_if_ne (tgt := 10) hx hb dX8_drop_4 (by decide) (fun c2 => ?_) (fun c2 => ?_)
  · have H := if_f H c2
    refine lv_aload_n hx hb dX8_drop_10 rfl (lv_at hl 0 rfl) ?_
    refine va_get (D := D) (ci := 8) (v := .ref (mAd 1)) (C := RX8) (T := TX8) (N := 11) hx hb hts hiX8 hown hK G.1 0 rfl rfl 0 (by decide) lk0 (fun _ h9 => h9) rfl dX8_drop_11 ?_
    refine lv_iload_n hx hb dX8_drop_14 rfl (lv_at hl 1 rfl) ?_
    obtain ⟨z3, hz3, H⟩ := bd_some H
    refine MI.callV z3 [.int p1] [] [1, 2, 3, 4] C G (c_X6_isMissing l D cy (fun k => mAd (k + 1)) GI lan siz p1 z3 hz3) gX8_drop_X6_isMissing rfl rfl rfl (n := 1) (by decide +kernel) ⟨Nat.le_of_ble_eq_true rfl, Nat.le_of_ble_eq_true rfl⟩ (q0 := 1) (ci := 6) rfl rfl rfl rfl rfl rfl rfl hl.1 rfl (Nat.le_of_ble_eq_true rfl) dX8_drop_15 ⟨Nat.zero_le _, Nat.zero_le _⟩ (fun U locs G => ?_)
    have G : Gd D A s (w_Top cy mAd GI GM GR lfa lfi lan siz len tok stt fin num flw byt dwat dlev dkin dcdp dsil sta wat lev kin cdp sil hour dep arr deb nxt kep fhour fdep farr fdeb gft bal giv tak inc trc nrs) U locs := G
    refine lv_if_eq (tgt := 27) hx hb dX8_drop_18 (by decide) (fun c4 => ?_) (fun c4 => ?_)
    · have H := if_t H c4
      refine lv_aload_n hx hb dX8_drop_27 rfl (lv_at hl 0 rfl) ?_
      refine lv_aload_n hx hb dX8_drop_28 rfl (lv_at hl 0 rfl) ?_
      refine va_get (D := D) (ci := 8) (v := .ref (mAd 1)) (C := RX8) (T := TX8) (N := 11) hx hb hts hiX8 hown hK G.1 0 rfl rfl 0 (by decide) lk0 (fun _ h9 => h9) rfl dX8_drop_29 ?_
      refine lv_iload_n hx hb dX8_drop_32 rfl (lv_at hl 1 rfl) ?_
      obtain ⟨z5, hz5, H⟩ := bd_some H
      refine MI.callV z5.1 [.int p1] [.ref (mAd 0)] [1, 2, 3, 4] C G (c_X6_remove l D cy (fun k => mAd (k + 1)) GI lan siz p1 z5 hz5) gX8_drop_X6_remove rfl rfl rfl (n := 1) (by decide +kernel) ⟨Nat.le_of_ble_eq_true rfl, Nat.le_of_ble_eq_true rfl⟩ (q0 := 1) (ci := 6) rfl rfl rfl rfl rfl rfl rfl hl.1 rfl (Nat.le_of_ble_eq_true rfl) dX8_drop_33 ⟨Nat.zero_le _, Nat.zero_le _⟩ (fun U locs G => ?_)
      have G : Gd D A s (w_Top cy mAd GI GM GR lfa lfi z5.2 siz len tok stt fin num flw byt dwat dlev dkin dcdp dsil sta wat lev kin cdp sil hour dep arr deb nxt kep fhour fdep farr fdeb gft bal giv tak inc trc nrs) U locs := G
      obtain ⟨z6, hz6, H⟩ := bd_some H
      refine MI.callVw z6.1 [.int z5.1] [] C G (c_X8_fine l D cy mAd GI GM GR lfa lfi z5.2 siz len tok stt fin num flw byt dwat dlev dkin dcdp dsil sta wat lev kin cdp sil hour dep arr deb nxt kep fhour fdep farr fdeb gft bal giv tak inc trc nrs z5.1 z6 hz6) gX8_drop_X8_fine rfl rfl rfl (n := 1) (by decide +kernel) ⟨Nat.le_of_ble_eq_true rfl, Nat.le_of_ble_eq_true rfl⟩ (q0 := 0) (ci := 8) rfl rfl rfl rfl hl.1 rfl (Nat.le_of_ble_eq_true rfl) dX8_drop_36 ⟨Nat.zero_le _, Nat.zero_le _⟩ (fun U locs G => ?_)
      have G : Gd D A s (w_Top cy mAd GI GM GR lfa z6.2 z5.2 siz len tok stt fin num flw byt dwat dlev dkin dcdp dsil sta wat lev kin cdp sil hour dep arr deb nxt kep fhour fdep farr fdeb gft bal giv tak inc trc nrs) U locs := G
      obtain rfl := Option.some.inj H
      exact ret_i C G rfl dX8_drop_39
    · have H := if_f H c4
      refine lv_aload_n hx hb dX8_drop_21 rfl (lv_at hl 0 rfl) ?_
      refine lv_iconst (v := 1) hx hb dX8_drop_22 (by decide) ?_
      obtain ⟨z7, hz7, H⟩ := bd_some H
      refine MI.callVw z7.1 [.int 1] [] C G (c_X8_found l D cy mAd GI GM GR lfa lfi lan siz len tok stt fin num flw byt dwat dlev dkin dcdp dsil sta wat lev kin cdp sil hour dep arr deb nxt kep fhour fdep farr fdeb gft bal giv tak inc trc nrs 1 z7 hz7) gX8_drop_X8_found rfl rfl rfl (n := 1) (by decide +kernel) ⟨Nat.le_of_ble_eq_true rfl, Nat.le_of_ble_eq_true rfl⟩ (q0 := 0) (ci := 8) rfl rfl rfl rfl hl.1 rfl (Nat.le_of_ble_eq_true rfl) dX8_drop_23 ⟨Nat.zero_le _, Nat.zero_le _⟩ (fun U locs G => ?_)
      have G : Gd D A s (w_Top cy mAd GI GM GR lfa z7.2 lan siz len tok stt fin num flw byt dwat dlev dkin dcdp dsil sta wat lev kin cdp sil hour dep arr deb nxt kep fhour fdep farr fdeb gft bal giv tak inc trc nrs) U locs := G
      obtain rfl := Option.some.inj H
      exact ret_i C G rfl dX8_drop_26
  · have H := if_t H c2
    refine lv_ldc hx hb hown lk1 dX8_drop_7 ?_
    obtain rfl := Option.some.inj H
    exact ret_i C G rfl dX8_drop_9
def f_X8_feed (len : Int32) (byt : Nat → Int32) (p1 : Int64) (p3 : Int32) : Option (Int32 × Int32 × (Nat → Int32)) := if p3 < 1 then (some ((-1000001), len, byt)) else (if p3 ≤ 8 then (if (len + p3) ≤ 400 then (bd (f_X7_write len byt p1 p3) (fun z4 => some (z4.1, z4.1, z4.2))) else (some ((-1000003), len, byt))) else (some ((-1000001), len, byt)))
set_option maxHeartbeats 4000000 in
set_option maxRecDepth 100000 in
theorem c_X8_feed (l : Launch) (D : va_G) (cy : Nat → ClassId) (mAd : Nat → Nat) (GI GM GR : Nat → Option Nat) (lfa lfi : Int32) (lan siz : Nat → Int32) (len tok stt fin num flw : Int32) (byt : Nat → Int32) (dwat : Int32) (dlev dkin dcdp dsil : Nat → Int32) (sta wat : Int32) (lev kin cdp sil : Nat → Int32) (hour : Int32) (dep arr deb : Nat → Int32) (nxt kep fhour : Int32) (fdep farr fdeb : Nat → Int32) (gft : Int32) (bal giv tak inc : Nat → Int32) (trc : Int32) (nrs : Nat → Int32) (p1 : Int64) (p3 : Int32) (z : (Int32 × Int32 × (Nat → Int32))) (hz : f_X8_feed len byt p1 p3 = some z) : MI l yX8_feed wsX8_feed ({ frames := 1, cells := 0, slots := 0, locals := 24 } : Room) D cy [.ref (mAd 0), .long p1, .int p3] (w_Top cy mAd GI GM GR lfa lfi lan siz len tok stt fin num flw byt dwat dlev dkin dcdp dsil sta wat lev kin cdp sil hour dep arr deb nxt kep fhour fdep farr fdeb gft bal giv tak inc trc nrs) z.1 (w_Top cy mAd GI GM GR lfa lfi lan siz z.2.1 tok stt fin num flw z.2.2 dwat dlev dkin dcdp dsil sta wat lev kin cdp sil hour dep arr deb nxt kep fhour fdep farr fdeb gft bal giv tak inc trc nrs) := by
  refine met_start (Qf := fun A => MQi D cy z.1 (w_Top cy mAd GI GM GR lfa lfi lan siz z.2.1 tok stt fin num flw z.2.2 dwat dlev dkin dcdp dsil sta wat lev kin cdp sil hour dep arr deb nxt kep fhour fdep farr fdeb gft bal giv tak inc trc nrs) A) (cc := cX8_feed) (nL := 4) (ret := (some .int)) RX8 rfl (by decide) rfl (Nat.le_of_ble_eq_true rfl) ?_
  intro p e s m below meth c A ls C G hl
  have hl : lv_has ls 4 [(0, .ref (mAd 0)), (1, .long p1), (3, .int p3)] := hl
  have H := hz
  unfold f_X8_feed at H
  obtain ⟨hx, hb, hr, hml, hown, hts, hlk, hK, hA, hE⟩ := id C
  have lk0 := hts (Cond.constant RX8 73 (-1000001)) (List.mem_of_getElem? (i := 1) rfl)
  have lk1 := hts (Cond.fieldLink RX8 19 "TideDebts" "tape" "LTideDebts$Tape;") (List.mem_of_getElem? (i := 2) rfl)
  have lk2 := hts (Cond.fieldLink RX8 113 "TideDebts$Tape" "length" "I") (List.mem_of_getElem? (i := 3) rfl)
  have lk3 := hts (Cond.constant RX8 117 (-1000003)) (List.mem_of_getElem? (i := 4) rfl)
  have hiX7 : ∀ w ∈ u_ws RX7 TX7 7, w ∈ wsX8_feed := fun _ h => List.mem_cons_of_mem _ (List.mem_append_right _ h)
  have hiX8 : ∀ w ∈ u_ws RX8 TX8 11, w ∈ wsX8_feed := fun _ h => List.mem_cons_of_mem _ (List.mem_append_left _ (List.mem_append_right _ h))
  refine lv_iload_n hx hb dX8_feed_0 rfl (lv_at hl 2 rfl) ?_
  refine lv_iconst (v := 1) hx hb dX8_feed_1 (by decide) ?_
  refine lv_icmp_lt (tgt := 11) hx hb dX8_feed_2 (by decide) (fun c1 => ?_) (fun c1 => ?_)
  · have H := if_t H c1
    refine lv_ldc hx hb hown lk0 dX8_feed_11 ?_
    obtain rfl := Option.some.inj H
    exact ret_i C G rfl dX8_feed_13
  · have H := if_f H c1
    refine lv_iload_n hx hb dX8_feed_5 rfl (lv_at hl 2 rfl) ?_
    refine lv_bipush (v := 8) hx hb dX8_feed_6 (by decide) ?_
    refine lv_icmp_le (tgt := 14) hx hb dX8_feed_8 (by decide) (fun c2 => ?_) (fun c2 => ?_)
    · have H := if_t H c2
      refine lv_aload_n hx hb dX8_feed_14 rfl (lv_at hl 0 rfl) ?_
      refine va_get (D := D) (ci := 8) (v := .ref (mAd 5)) (C := RX8) (T := TX8) (N := 11) hx hb hts hiX8 hown hK G.1 0 rfl rfl 1 (by decide) lk1 (fun _ h9 => h9) rfl dX8_feed_15 ?_
      refine va_get (D := D) (ci := 7) (v := .int len) (C := RX7) (T := TX7) (N := 7) hx hb hts hiX7 hown hK G.1 5 rfl rfl 1 (by decide) lk2 (fun _ h9 => h9) rfl dX8_feed_18 ?_
      refine lv_iload_n hx hb dX8_feed_21 rfl (lv_at hl 2 rfl) ?_
      refine lv_iadd hx hb dX8_feed_22 ?_
      refine lv_sipush (v := 400) hx hb dX8_feed_23 (by decide) ?_
      refine lv_icmp_le (tgt := 32) hx hb dX8_feed_26 (by decide) (fun c3 => ?_) (fun c3 => ?_)
      · have H := if_t H c3
        refine lv_aload_n hx hb dX8_feed_32 rfl (lv_at hl 0 rfl) ?_
        refine va_get (D := D) (ci := 8) (v := .ref (mAd 5)) (C := RX8) (T := TX8) (N := 11) hx hb hts hiX8 hown hK G.1 0 rfl rfl 1 (by decide) lk1 (fun _ h9 => h9) rfl dX8_feed_33 ?_
        refine lv_lload_n hx hb dX8_feed_36 rfl (lv_at hl 1 rfl) ?_
        refine lv_iload_n hx hb dX8_feed_37 rfl (lv_at hl 2 rfl) ?_
        obtain ⟨z4, hz4, H⟩ := bd_some H
        refine MV.callV [.long p1, .int p3] [] [5, 6] C G (c_X7_write l D cy (fun k => mAd (k + 5)) len tok stt fin num flw byt p1 p3 z4 hz4) gX8_feed_X7_write rfl rfl rfl (n := 2) (by decide +kernel) ⟨Nat.le_of_ble_eq_true rfl, Nat.le_of_ble_eq_true rfl⟩ (q0 := 5) (ci := 7) rfl rfl rfl rfl rfl rfl rfl hl.1 rfl (Nat.le_of_ble_eq_true rfl) dX8_feed_38 ⟨Nat.zero_le _, Nat.zero_le _⟩ (fun U locs G => ?_)
        have G : Gd D A s (w_Top cy mAd GI GM GR lfa lfi lan siz z4.1 tok stt fin num flw z4.2 dwat dlev dkin dcdp dsil sta wat lev kin cdp sil hour dep arr deb nxt kep fhour fdep farr fdeb gft bal giv tak inc trc nrs) U locs := G
        refine lv_aload_n hx hb dX8_feed_41 rfl (lv_at hl 0 rfl) ?_
        refine va_get (D := D) (ci := 8) (v := .ref (mAd 5)) (C := RX8) (T := TX8) (N := 11) hx hb hts hiX8 hown hK G.1 0 rfl rfl 1 (by decide) lk1 (fun _ h9 => h9) rfl dX8_feed_42 ?_
        refine va_get (D := D) (ci := 7) (v := .int z4.1) (C := RX7) (T := TX7) (N := 7) hx hb hts hiX7 hown hK G.1 5 rfl rfl 1 (by decide) lk2 (fun _ h9 => h9) rfl dX8_feed_45 ?_
        obtain rfl := Option.some.inj H
        exact ret_i C G rfl dX8_feed_48
      · have H := if_f H c3
        refine lv_ldc hx hb hown lk3 dX8_feed_29 ?_
        obtain rfl := Option.some.inj H
        exact ret_i C G rfl dX8_feed_31
    · have H := if_f H c2
      refine lv_ldc hx hb hown lk0 dX8_feed_11 ?_
      obtain rfl := Option.some.inj H
      exact ret_i C G rfl dX8_feed_13
def f_X8_bay (lfa len tok stt fin num flw : Int32) (byt : Nat → Int32) (dwat : Int32) (dlev dkin dcdp dsil : Nat → Int32) (sta wat : Int32) (lev kin cdp sil : Nat → Int32) (hour : Int32) (dep arr deb : Nat → Int32) (kep : Int32) : Option (Int32 × Int32 × Int32 × Int32 × Int32 × Int32 × Int32 × Int32 × Int32 × (Nat → Int32) × (Nat → Int32) × (Nat → Int32) × (Nat → Int32) × Int32 × Int32 × (Nat → Int32) × (Nat → Int32) × (Nat → Int32) × (Nat → Int32) × Int32 × (Nat → Int32) × (Nat → Int32) × (Nat → Int32) × Int32) := bd (f_X7_read len tok stt fin num flw byt dwat dlev dkin dcdp dsil) (fun z1 => if z1.1 = 0 then (bd (f_X1_open sta wat lev kin cdp sil hour dep arr deb z1.2.2.2.2.2.2.2.1 z1.2.2.2.2.2.2.2.2.1 z1.2.2.2.2.2.2.2.2.2.1 z1.2.2.2.2.2.2.2.2.2.2.1 z1.2.2.2.2.2.2.2.2.2.2.2) (fun z3 => bd (f_X5_forget kep) (fun z4 => some (z3.2.1, lfa, z1.2.1, z1.2.2.1, z1.2.2.2.1, z1.2.2.2.2.1, z1.2.2.2.2.2.1, z1.2.2.2.2.2.2.1, z1.2.2.2.2.2.2.2.1, z1.2.2.2.2.2.2.2.2.1, z1.2.2.2.2.2.2.2.2.2.1, z1.2.2.2.2.2.2.2.2.2.2.1, z1.2.2.2.2.2.2.2.2.2.2.2, z3.1, z3.2.1, z3.2.2.1, z3.2.2.2.1, z3.2.2.2.2.1, z3.2.2.2.2.2.1, z3.2.2.2.2.2.2.1, z3.2.2.2.2.2.2.2.1, z3.2.2.2.2.2.2.2.2.1, z3.2.2.2.2.2.2.2.2.2, z4)))) else (some ((-1000100) - z1.2.2.2.1, z1.1, z1.2.1, z1.2.2.1, z1.2.2.2.1, z1.2.2.2.2.1, z1.2.2.2.2.2.1, z1.2.2.2.2.2.2.1, z1.2.2.2.2.2.2.2.1, z1.2.2.2.2.2.2.2.2.1, z1.2.2.2.2.2.2.2.2.2.1, z1.2.2.2.2.2.2.2.2.2.2.1, z1.2.2.2.2.2.2.2.2.2.2.2, sta, wat, lev, kin, cdp, sil, hour, dep, arr, deb, kep)))
set_option maxHeartbeats 4000000 in
set_option maxRecDepth 100000 in
theorem c_X8_bay (l : Launch) (D : va_G) (cy : Nat → ClassId) (mAd : Nat → Nat) (GI GM GR : Nat → Option Nat) (lfa lfi : Int32) (lan siz : Nat → Int32) (len tok stt fin num flw : Int32) (byt : Nat → Int32) (dwat : Int32) (dlev dkin dcdp dsil : Nat → Int32) (sta wat : Int32) (lev kin cdp sil : Nat → Int32) (hour : Int32) (dep arr deb : Nat → Int32) (nxt kep fhour : Int32) (fdep farr fdeb : Nat → Int32) (gft : Int32) (bal giv tak inc : Nat → Int32) (trc : Int32) (nrs : Nat → Int32) (z : (Int32 × Int32 × Int32 × Int32 × Int32 × Int32 × Int32 × Int32 × Int32 × (Nat → Int32) × (Nat → Int32) × (Nat → Int32) × (Nat → Int32) × Int32 × Int32 × (Nat → Int32) × (Nat → Int32) × (Nat → Int32) × (Nat → Int32) × Int32 × (Nat → Int32) × (Nat → Int32) × (Nat → Int32) × Int32)) (hz : f_X8_bay lfa len tok stt fin num flw byt dwat dlev dkin dcdp dsil sta wat lev kin cdp sil hour dep arr deb kep = some z) : MI l yX8_bay wsX8_bay ({ frames := 9, cells := 0, slots := 0, locals := 194 } : Room) D cy [.ref (mAd 0)] (w_Top cy mAd GI GM GR lfa lfi lan siz len tok stt fin num flw byt dwat dlev dkin dcdp dsil sta wat lev kin cdp sil hour dep arr deb nxt kep fhour fdep farr fdeb gft bal giv tak inc trc nrs) z.1 (w_Top cy mAd GI GM GR z.2.1 lfi lan siz z.2.2.1 z.2.2.2.1 z.2.2.2.2.1 z.2.2.2.2.2.1 z.2.2.2.2.2.2.1 z.2.2.2.2.2.2.2.1 byt z.2.2.2.2.2.2.2.2.1 z.2.2.2.2.2.2.2.2.2.1 z.2.2.2.2.2.2.2.2.2.2.1 z.2.2.2.2.2.2.2.2.2.2.2.1 z.2.2.2.2.2.2.2.2.2.2.2.2.1 z.2.2.2.2.2.2.2.2.2.2.2.2.2.1 z.2.2.2.2.2.2.2.2.2.2.2.2.2.2.1 z.2.2.2.2.2.2.2.2.2.2.2.2.2.2.2.1 z.2.2.2.2.2.2.2.2.2.2.2.2.2.2.2.2.1 z.2.2.2.2.2.2.2.2.2.2.2.2.2.2.2.2.2.1 z.2.2.2.2.2.2.2.2.2.2.2.2.2.2.2.2.2.2.1 z.2.2.2.2.2.2.2.2.2.2.2.2.2.2.2.2.2.2.2.1 z.2.2.2.2.2.2.2.2.2.2.2.2.2.2.2.2.2.2.2.2.1 z.2.2.2.2.2.2.2.2.2.2.2.2.2.2.2.2.2.2.2.2.2.1 z.2.2.2.2.2.2.2.2.2.2.2.2.2.2.2.2.2.2.2.2.2.2.1 nxt z.2.2.2.2.2.2.2.2.2.2.2.2.2.2.2.2.2.2.2.2.2.2.2 fhour fdep farr fdeb gft bal giv tak inc trc nrs) := by
  refine met_start (Qf := fun A => MQi D cy z.1 (w_Top cy mAd GI GM GR z.2.1 lfi lan siz z.2.2.1 z.2.2.2.1 z.2.2.2.2.1 z.2.2.2.2.2.1 z.2.2.2.2.2.2.1 z.2.2.2.2.2.2.2.1 byt z.2.2.2.2.2.2.2.2.1 z.2.2.2.2.2.2.2.2.2.1 z.2.2.2.2.2.2.2.2.2.2.1 z.2.2.2.2.2.2.2.2.2.2.2.1 z.2.2.2.2.2.2.2.2.2.2.2.2.1 z.2.2.2.2.2.2.2.2.2.2.2.2.2.1 z.2.2.2.2.2.2.2.2.2.2.2.2.2.2.1 z.2.2.2.2.2.2.2.2.2.2.2.2.2.2.2.1 z.2.2.2.2.2.2.2.2.2.2.2.2.2.2.2.2.1 z.2.2.2.2.2.2.2.2.2.2.2.2.2.2.2.2.2.1 z.2.2.2.2.2.2.2.2.2.2.2.2.2.2.2.2.2.2.1 z.2.2.2.2.2.2.2.2.2.2.2.2.2.2.2.2.2.2.2.1 z.2.2.2.2.2.2.2.2.2.2.2.2.2.2.2.2.2.2.2.2.1 z.2.2.2.2.2.2.2.2.2.2.2.2.2.2.2.2.2.2.2.2.2.1 z.2.2.2.2.2.2.2.2.2.2.2.2.2.2.2.2.2.2.2.2.2.2.1 nxt z.2.2.2.2.2.2.2.2.2.2.2.2.2.2.2.2.2.2.2.2.2.2.2 fhour fdep farr fdeb gft bal giv tak inc trc nrs) A) (cc := cX8_bay) (nL := 2) (ret := (some .int)) RX8 rfl (by decide) rfl (Nat.le_of_ble_eq_true rfl) ?_
  intro p e s m below meth c A ls C G hl
  have hl : lv_has ls 2 [(0, .ref (mAd 0))] := hl
  have H := hz
  unfold f_X8_bay at H
  obtain ⟨hx, hb, hr, hml, hown, hts, hlk, hK, hA, hE⟩ := id C
  have lk0 := hts (Cond.fieldLink RX8 19 "TideDebts" "tape" "LTideDebts$Tape;") (List.mem_of_getElem? (i := 1) rfl)
  have lk1 := hts (Cond.fieldLink RX8 26 "TideDebts" "draft" "LTideDebts$Chart;") (List.mem_of_getElem? (i := 2) rfl)
  have lk2 := hts (Cond.fieldLink RX8 33 "TideDebts" "now" "LTideDebts$Bay;") (List.mem_of_getElem? (i := 6) rfl)
  have lk3 := hts (Cond.fieldLink RX8 44 "TideDebts" "past" "LTideDebts$Past;") (List.mem_of_getElem? (i := 7) rfl)
  have lk4 := hts (Cond.fieldLink RX8 140 "TideDebts$Bay" "chart" "LTideDebts$Chart;") (List.mem_of_getElem? (i := 8) rfl)
  have lk5 := hts (Cond.fieldLink RX8 143 "TideDebts$Chart" "waters" "I") (List.mem_of_getElem? (i := 9) rfl)
  have lk6 := hts (Cond.fieldLink RX8 126 "TideDebts" "latestFault" "I") (List.mem_of_getElem? (i := 3) rfl)
  have lk7 := hts (Cond.constant RX8 129 (-1000100)) (List.mem_of_getElem? (i := 4) rfl)
  have lk8 := hts (Cond.fieldLink RX8 130 "TideDebts$Tape" "start" "I") (List.mem_of_getElem? (i := 5) rfl)
  have hiX1 : ∀ w ∈ u_ws RX1 TX1 3, w ∈ wsX8_bay := fun _ h => List.mem_cons_of_mem _ (List.mem_append_left _ (List.mem_append_left _ (List.mem_append_left _ (List.mem_append_right _ h))))
  have hiX2 : ∀ w ∈ u_ws RX2 TX2 5, w ∈ wsX8_bay := fun _ h => List.mem_cons_of_mem _ (List.mem_append_left _ (List.mem_append_left _ (List.mem_append_right _ h)))
  have hiX7 : ∀ w ∈ u_ws RX7 TX7 7, w ∈ wsX8_bay := fun _ h => List.mem_cons_of_mem _ (List.mem_append_left _ (List.mem_append_left _ (List.mem_append_left _ (List.mem_append_left _ (List.mem_append_right _ h)))))
  have hiX8 : ∀ w ∈ u_ws RX8 TX8 11, w ∈ wsX8_bay := fun _ h => List.mem_cons_of_mem _ (List.mem_append_left _ (List.mem_append_left _ (List.mem_append_left _ (List.mem_append_left _ (List.mem_append_left _ (List.mem_append_right _ h))))))
  refine lv_aload_n hx hb dX8_bay_0 rfl (lv_at hl 0 rfl) ?_
  refine va_get (D := D) (ci := 8) (v := .ref (mAd 5)) (C := RX8) (T := TX8) (N := 11) hx hb hts hiX8 hown hK G.1 0 rfl rfl 1 (by decide) lk0 (fun _ h9 => h9) rfl dX8_bay_1 ?_
  refine lv_aload_n hx hb dX8_bay_4 rfl (lv_at hl 0 rfl) ?_
  refine va_get (D := D) (ci := 8) (v := .ref (mAd 7)) (C := RX8) (T := TX8) (N := 11) hx hb hts hiX8 hown hK G.1 0 rfl rfl 2 (by decide) lk1 (fun _ h9 => h9) rfl dX8_bay_5 ?_
  obtain ⟨z1, hz1, H⟩ := bd_some H
  refine MI.callV z1.1 [.ref (mAd 7)] [] [5, 6, 7, 8, 9, 10, 11] C G (c_X7_read l D cy (fun k => mAd (k + 5)) (fun k => mAd (k + 7)) len tok stt fin num flw byt dwat dlev dkin dcdp dsil z1 hz1) gX8_bay_X7_read rfl rfl rfl (n := 1) (by decide +kernel) ⟨Nat.le_of_ble_eq_true rfl, Nat.le_of_ble_eq_true rfl⟩ (q0 := 5) (ci := 7) rfl rfl rfl rfl rfl rfl rfl hl.1 rfl (Nat.le_of_ble_eq_true rfl) dX8_bay_8 ⟨Nat.zero_le _, Nat.zero_le _⟩ (fun U locs G => ?_)
  have G : Gd D A s (w_Top cy mAd GI GM GR lfa lfi lan siz z1.2.1 z1.2.2.1 z1.2.2.2.1 z1.2.2.2.2.1 z1.2.2.2.2.2.1 z1.2.2.2.2.2.2.1 byt z1.2.2.2.2.2.2.2.1 z1.2.2.2.2.2.2.2.2.1 z1.2.2.2.2.2.2.2.2.2.1 z1.2.2.2.2.2.2.2.2.2.2.1 z1.2.2.2.2.2.2.2.2.2.2.2 sta wat lev kin cdp sil hour dep arr deb nxt kep fhour fdep farr fdeb gft bal giv tak inc trc nrs) U locs := G
  refine lv_istore_n (lv' := [(1, .int z1.1), (0, .ref (mAd 0))]) hx hb dX8_bay_11 rfl hl (by decide) rfl (fun ls hl => ?_)
  refine lv_iload_n hx hb dX8_bay_12 rfl (lv_at hl 0 rfl) ?_
  refine lv_if_eq (tgt := 32) hx hb dX8_bay_13 (by decide) (fun c2 => ?_) (fun c2 => ?_)
  · have H := if_t H c2
    refine lv_aload_n hx hb dX8_bay_32 rfl (lv_at hl 1 rfl) ?_
    refine va_get (D := D) (ci := 8) (v := .ref (mAd 12)) (C := RX8) (T := TX8) (N := 11) hx hb hts hiX8 hown hK G.1 0 rfl rfl 3 (by decide) lk2 (fun _ h9 => h9) rfl dX8_bay_33 ?_
    refine lv_aload_n hx hb dX8_bay_36 rfl (lv_at hl 1 rfl) ?_
    refine va_get (D := D) (ci := 8) (v := .ref (mAd 7)) (C := RX8) (T := TX8) (N := 11) hx hb hts hiX8 hown hK G.1 0 rfl rfl 2 (by decide) lk1 (fun _ h9 => h9) rfl dX8_bay_37 ?_
    obtain ⟨z3, hz3, H⟩ := bd_some H
    refine MV.callV2 [.ref (mAd 7)] [] [12, 13, 14, 15, 16, 17, 18, 19, 20, 21, 7, 8, 9, 10, 11] [0, 1, 2, 3, 4, 5, 6, 22, 23, 24, 25, 26, 27, 28, 29, 30, 31, 32, 33, 34, 35] (w_Top cy mAd GI GM GR lfa lfi lan siz z1.2.1 z1.2.2.1 z1.2.2.2.1 z1.2.2.2.2.1 z1.2.2.2.2.2.1 z1.2.2.2.2.2.2.1 byt z1.2.2.2.2.2.2.2.1 z1.2.2.2.2.2.2.2.2.1 z1.2.2.2.2.2.2.2.2.2.1 z1.2.2.2.2.2.2.2.2.2.2.1 z1.2.2.2.2.2.2.2.2.2.2.2 z3.1 z3.2.1 z3.2.2.1 z3.2.2.2.1 z3.2.2.2.2.1 z3.2.2.2.2.2.1 z3.2.2.2.2.2.2.1 z3.2.2.2.2.2.2.2.1 z3.2.2.2.2.2.2.2.2.1 z3.2.2.2.2.2.2.2.2.2 nxt kep fhour fdep farr fdeb gft bal giv tak inc trc nrs) C G (c_X1_open l D cy (fun k => mAd (k + 12)) (fun k => mAd (k + 13)) (fun k => mAd (k + 18)) (fun k => mAd (k + 7)) sta wat lev kin cdp sil hour dep arr deb z1.2.2.2.2.2.2.2.1 z1.2.2.2.2.2.2.2.2.1 z1.2.2.2.2.2.2.2.2.2.1 z1.2.2.2.2.2.2.2.2.2.2.1 z1.2.2.2.2.2.2.2.2.2.2.2 z3 hz3) gX8_bay_X1_open rfl rfl rfl (n := 1) (by decide +kernel) ⟨Nat.le_of_ble_eq_true rfl, Nat.le_of_ble_eq_true rfl⟩ (q0 := 12) (ci := 1) rfl rfl rfl rfl rfl (N := 36) rfl (by decide) (by decide) rfl (List.forall_mem_cons.mpr ⟨⟨_, rfl, rfl⟩, (List.forall_mem_cons.mpr ⟨⟨_, rfl, rfl⟩, (List.forall_mem_cons.mpr ⟨⟨_, rfl, rfl⟩, (List.forall_mem_cons.mpr ⟨⟨_, rfl, rfl⟩, (List.forall_mem_cons.mpr ⟨⟨_, rfl, rfl⟩, (List.forall_mem_cons.mpr ⟨⟨_, rfl, rfl⟩, (List.forall_mem_cons.mpr ⟨⟨_, rfl, rfl⟩, (List.forall_mem_cons.mpr ⟨⟨_, rfl, rfl⟩, (List.forall_mem_cons.mpr ⟨⟨_, rfl, rfl⟩, (List.forall_mem_cons.mpr ⟨⟨_, rfl, rfl⟩, (List.forall_mem_cons.mpr ⟨⟨_, rfl, rfl⟩, (List.forall_mem_cons.mpr ⟨⟨_, rfl, rfl⟩, (List.forall_mem_cons.mpr ⟨⟨_, rfl, rfl⟩, (List.forall_mem_cons.mpr ⟨⟨_, rfl, rfl⟩, (List.forall_mem_cons.mpr ⟨⟨_, rfl, rfl⟩, (List.forall_mem_cons.mpr ⟨⟨_, rfl, rfl⟩, (List.forall_mem_cons.mpr ⟨⟨_, rfl, rfl⟩, (List.forall_mem_cons.mpr ⟨⟨_, rfl, rfl⟩, (List.forall_mem_cons.mpr ⟨⟨_, rfl, rfl⟩, (List.forall_mem_cons.mpr ⟨⟨_, rfl, rfl⟩, (List.forall_mem_cons.mpr ⟨⟨_, rfl, rfl⟩, (fun _ h => absurd h List.not_mem_nil)⟩)⟩)⟩)⟩)⟩)⟩)⟩)⟩)⟩)⟩)⟩)⟩)⟩)⟩)⟩)⟩)⟩)⟩)⟩)⟩)⟩) rfl hl.1 rfl (Nat.le_of_ble_eq_true rfl) dX8_bay_40 ⟨Nat.zero_le _, Nat.zero_le _⟩ (fun U locs G => ?_)
    have G : Gd D A s (w_Top cy mAd GI GM GR lfa lfi lan siz z1.2.1 z1.2.2.1 z1.2.2.2.1 z1.2.2.2.2.1 z1.2.2.2.2.2.1 z1.2.2.2.2.2.2.1 byt z1.2.2.2.2.2.2.2.1 z1.2.2.2.2.2.2.2.2.1 z1.2.2.2.2.2.2.2.2.2.1 z1.2.2.2.2.2.2.2.2.2.2.1 z1.2.2.2.2.2.2.2.2.2.2.2 z3.1 z3.2.1 z3.2.2.1 z3.2.2.2.1 z3.2.2.2.2.1 z3.2.2.2.2.2.1 z3.2.2.2.2.2.2.1 z3.2.2.2.2.2.2.2.1 z3.2.2.2.2.2.2.2.2.1 z3.2.2.2.2.2.2.2.2.2 nxt kep fhour fdep farr fdeb gft bal giv tak inc trc nrs) U locs := G
    refine lv_aload_n hx hb dX8_bay_43 rfl (lv_at hl 1 rfl) ?_
    refine va_get (D := D) (ci := 8) (v := .ref (mAd 23)) (C := RX8) (T := TX8) (N := 11) hx hb hts hiX8 hown hK G.1 0 rfl rfl 5 (by decide) lk3 (fun _ h9 => h9) rfl dX8_bay_44 ?_
    obtain ⟨z4, hz4, H⟩ := bd_some H
    refine MV.callV [] [] [23, 24] C G (c_X5_forget l D cy (fun k => mAd (k + 23)) GR nxt kep z4 hz4) gX8_bay_X5_forget rfl rfl rfl (n := 0) (by decide +kernel) ⟨Nat.le_of_ble_eq_true rfl, Nat.le_of_ble_eq_true rfl⟩ (q0 := 23) (ci := 5) rfl rfl rfl rfl rfl rfl rfl hl.1 rfl (Nat.le_of_ble_eq_true rfl) dX8_bay_47 ⟨Nat.zero_le _, Nat.zero_le _⟩ (fun U locs G => ?_)
    have G : Gd D A s (w_Top cy mAd GI GM GR lfa lfi lan siz z1.2.1 z1.2.2.1 z1.2.2.2.1 z1.2.2.2.2.1 z1.2.2.2.2.2.1 z1.2.2.2.2.2.2.1 byt z1.2.2.2.2.2.2.2.1 z1.2.2.2.2.2.2.2.2.1 z1.2.2.2.2.2.2.2.2.2.1 z1.2.2.2.2.2.2.2.2.2.2.1 z1.2.2.2.2.2.2.2.2.2.2.2 z3.1 z3.2.1 z3.2.2.1 z3.2.2.2.1 z3.2.2.2.2.1 z3.2.2.2.2.2.1 z3.2.2.2.2.2.2.1 z3.2.2.2.2.2.2.2.1 z3.2.2.2.2.2.2.2.2.1 z3.2.2.2.2.2.2.2.2.2 nxt z4 fhour fdep farr fdeb gft bal giv tak inc trc nrs) U locs := G
    refine lv_aload_n hx hb dX8_bay_50 rfl (lv_at hl 1 rfl) ?_
    refine va_get (D := D) (ci := 8) (v := .ref (mAd 12)) (C := RX8) (T := TX8) (N := 11) hx hb hts hiX8 hown hK G.1 0 rfl rfl 3 (by decide) lk2 (fun _ h9 => h9) rfl dX8_bay_51 ?_
    refine va_get (D := D) (ci := 1) (v := .ref (mAd 13)) (C := RX1) (T := TX1) (N := 3) hx hb hts hiX1 hown hK G.1 12 rfl rfl 0 (by decide) lk4 (fun _ h9 => h9) rfl dX8_bay_54 ?_
    refine va_get (D := D) (ci := 2) (v := .int z3.2.1) (C := RX2) (T := TX2) (N := 5) hx hb hts hiX2 hown hK G.1 13 rfl rfl 4 (by decide) lk5 (fun _ h9 => h9) rfl dX8_bay_57 ?_
    obtain rfl := Option.some.inj H
    exact ret_i C G rfl dX8_bay_60
  · have H := if_f H c2
    refine lv_aload_n hx hb dX8_bay_16 rfl (lv_at hl 1 rfl) ?_
    refine lv_iload_n hx hb dX8_bay_17 rfl (lv_at hl 0 rfl) ?_
    refine va_put (D := D) (ci := 8) (v := .int z1.1) (ty := .int) (C := RX8) (T := TX8) (N := 11) hx hb hts hiX8 tyX8 tyX8_ok nmX8 hown hK G.1 G.2.1 G.2.2 0 rfl rfl 9 (by decide) lk6 (fun _ h9 => h9) rfl (tyX8_ok 9 (by decide)) rfl rfl (Nat.le_of_ble_eq_true rfl) dX8_bay_18 (fun U locs hP hD hS => ?_)
    have G : Gd D A s (w_Top cy mAd GI GM GR z1.1 lfi lan siz z1.2.1 z1.2.2.1 z1.2.2.2.1 z1.2.2.2.2.1 z1.2.2.2.2.2.1 z1.2.2.2.2.2.2.1 byt z1.2.2.2.2.2.2.2.1 z1.2.2.2.2.2.2.2.2.1 z1.2.2.2.2.2.2.2.2.2.1 z1.2.2.2.2.2.2.2.2.2.2.1 z1.2.2.2.2.2.2.2.2.2.2.2 sta wat lev kin cdp sil hour dep arr deb nxt kep fhour fdep farr fdeb gft bal giv tak inc trc nrs) U locs := ⟨hP, hD, hS⟩
    refine lv_ldc hx hb hown lk7 dX8_bay_21 ?_
    refine lv_aload_n hx hb dX8_bay_23 rfl (lv_at hl 1 rfl) ?_
    refine va_get (D := D) (ci := 8) (v := .ref (mAd 5)) (C := RX8) (T := TX8) (N := 11) hx hb hts hiX8 hown hK G.1 0 rfl rfl 1 (by decide) lk0 (fun _ h9 => h9) rfl dX8_bay_24 ?_
    refine va_get (D := D) (ci := 7) (v := .int z1.2.2.2.1) (C := RX7) (T := TX7) (N := 7) hx hb hts hiX7 hown hK G.1 5 rfl rfl 3 (by decide) lk8 (fun _ h9 => h9) rfl dX8_bay_27 ?_
    refine lv_isub hx hb dX8_bay_30 ?_
    obtain rfl := Option.some.inj H
    exact ret_i C G rfl dX8_bay_31
def f_X8_fault (lfa : Int32) : Option Int32 := some lfa
set_option maxHeartbeats 4000000 in
set_option maxRecDepth 100000 in
theorem c_X8_fault (l : Launch) (D : va_G) (cy : Nat → ClassId) (mAd : Nat → Nat) (GI GM GR : Nat → Option Nat) (lfa lfi : Int32) (lan siz : Nat → Int32) (len tok stt fin num flw : Int32) (byt : Nat → Int32) (dwat : Int32) (dlev dkin dcdp dsil : Nat → Int32) (sta wat : Int32) (lev kin cdp sil : Nat → Int32) (hour : Int32) (dep arr deb : Nat → Int32) (nxt kep fhour : Int32) (fdep farr fdeb : Nat → Int32) (gft : Int32) (bal giv tak inc : Nat → Int32) (trc : Int32) (nrs : Nat → Int32) (z : Int32) (hz : f_X8_fault lfa = some z) : MI l yX8_fault wsX8_fault ({ frames := 0, cells := 0, slots := 0, locals := 0 } : Room) D cy [.ref (mAd 0)] (w_Top cy mAd GI GM GR lfa lfi lan siz len tok stt fin num flw byt dwat dlev dkin dcdp dsil sta wat lev kin cdp sil hour dep arr deb nxt kep fhour fdep farr fdeb gft bal giv tak inc trc nrs) z (w_Top cy mAd GI GM GR lfa lfi lan siz len tok stt fin num flw byt dwat dlev dkin dcdp dsil sta wat lev kin cdp sil hour dep arr deb nxt kep fhour fdep farr fdeb gft bal giv tak inc trc nrs) := by
  refine met_start (Qf := fun A => MQi D cy z (w_Top cy mAd GI GM GR lfa lfi lan siz len tok stt fin num flw byt dwat dlev dkin dcdp dsil sta wat lev kin cdp sil hour dep arr deb nxt kep fhour fdep farr fdeb gft bal giv tak inc trc nrs) A) (cc := cX8_fault) (nL := 1) (ret := (some .int)) RX8 rfl (by decide) rfl (Nat.le_of_ble_eq_true rfl) ?_
  intro p e s m below meth c A ls C G hl
  have hl : lv_has ls 1 [(0, .ref (mAd 0))] := hl
  have H := hz
  unfold f_X8_fault at H
  obtain ⟨hx, hb, hr, hml, hown, hts, hlk, hK, hA, hE⟩ := id C
  have lk0 := hts (Cond.fieldLink RX8 126 "TideDebts" "latestFault" "I") (List.mem_of_getElem? (i := 1) rfl)
  have hiX8 : ∀ w ∈ u_ws RX8 TX8 11, w ∈ wsX8_fault := fun _ h => List.mem_cons_of_mem _ (List.mem_append_right _ h)
  refine lv_aload_n hx hb dX8_fault_0 rfl (lv_at hl 0 rfl) ?_
  refine va_get (D := D) (ci := 8) (v := .int lfa) (C := RX8) (T := TX8) (N := 11) hx hb hts hiX8 hown hK G.1 0 rfl rfl 9 (by decide) lk0 (fun _ h9 => h9) rfl dX8_fault_1 ?_
  obtain rfl := Option.some.inj H
  exact ret_i C G rfl dX8_fault_4
def f_X8_water (wat : Int32) (sil dep arr deb : Nat → Int32) (p1 p2 : Int32) : Option Int32 := bd (f_X8_isWater wat p1) (fun z1 => if z1 = 0 then (some (-1000001)) else (if p2 = 0 then (gd (inb p1 6) (some (dep (ix p1)))) else (if p2 = 1 then (gd (inb p1 6) (some (arr (ix p1)))) else (if p2 = 2 then (gd (inb p1 6) (some (sil (ix p1)))) else (if p2 = 3 then (bd (f_X3_balance deb p1) (fun z10 => some z10)) else (some (-1000001)))))))
set_option maxHeartbeats 4000000 in
set_option maxRecDepth 100000 in
theorem c_X8_water (l : Launch) (D : va_G) (cy : Nat → ClassId) (mAd : Nat → Nat) (GI GM GR : Nat → Option Nat) (lfa lfi : Int32) (lan siz : Nat → Int32) (len tok stt fin num flw : Int32) (byt : Nat → Int32) (dwat : Int32) (dlev dkin dcdp dsil : Nat → Int32) (sta wat : Int32) (lev kin cdp sil : Nat → Int32) (hour : Int32) (dep arr deb : Nat → Int32) (nxt kep fhour : Int32) (fdep farr fdeb : Nat → Int32) (gft : Int32) (bal giv tak inc : Nat → Int32) (trc : Int32) (nrs : Nat → Int32) (p1 p2 : Int32) (z : Int32) (hz : f_X8_water wat sil dep arr deb p1 p2 = some z) : MI l yX8_water wsX8_water ({ frames := 3, cells := 0, slots := 0, locals := 68 } : Room) D cy [.ref (mAd 0), .int p1, .int p2] (w_Top cy mAd GI GM GR lfa lfi lan siz len tok stt fin num flw byt dwat dlev dkin dcdp dsil sta wat lev kin cdp sil hour dep arr deb nxt kep fhour fdep farr fdeb gft bal giv tak inc trc nrs) z (w_Top cy mAd GI GM GR lfa lfi lan siz len tok stt fin num flw byt dwat dlev dkin dcdp dsil sta wat lev kin cdp sil hour dep arr deb nxt kep fhour fdep farr fdeb gft bal giv tak inc trc nrs) := by
  refine met_start (Qf := fun A => MQi D cy z (w_Top cy mAd GI GM GR lfa lfi lan siz len tok stt fin num flw byt dwat dlev dkin dcdp dsil sta wat lev kin cdp sil hour dep arr deb nxt kep fhour fdep farr fdeb gft bal giv tak inc trc nrs) A) (cc := cX8_water) (nL := 3) (ret := (some .int)) RX8 rfl (by decide) rfl (Nat.le_of_ble_eq_true rfl) ?_
  intro p e s m below meth c A ls C G hl
  have hl : lv_has ls 3 [(0, .ref (mAd 0)), (1, .int p1), (2, .int p2)] := hl
  have H := hz
  unfold f_X8_water at H
  obtain ⟨hx, hb, hr, hml, hown, hts, hlk, hK, hA, hE⟩ := id C
  have lk0 := hts (Cond.fieldLink RX8 33 "TideDebts" "now" "LTideDebts$Bay;") (List.mem_of_getElem? (i := 2) rfl)
  have lk1 := hts (Cond.fieldLink RX8 151 "TideDebts$Bay" "ledger" "LTideDebts$Ledger;") (List.mem_of_getElem? (i := 3) rfl)
  have lk2 := hts (Cond.fieldLink RX8 168 "TideDebts$Ledger" "depths" "[I") (List.mem_of_getElem? (i := 4) rfl)
  have lk3 := hts (Cond.fieldLink RX8 206 "TideDebts$Ledger" "arrears" "[I") (List.mem_of_getElem? (i := 5) rfl)
  have lk4 := hts (Cond.fieldLink RX8 140 "TideDebts$Bay" "chart" "LTideDebts$Chart;") (List.mem_of_getElem? (i := 6) rfl)
  have lk5 := hts (Cond.fieldLink RX8 209 "TideDebts$Chart" "sills" "[I") (List.mem_of_getElem? (i := 7) rfl)
  have lk6 := hts (Cond.constant RX8 73 (-1000001)) (List.mem_of_getElem? (i := 1) rfl)
  have hiX1 : ∀ w ∈ u_ws RX1 TX1 3, w ∈ wsX8_water := fun _ h => List.mem_cons_of_mem _ (List.mem_append_left _ (List.mem_append_left _ (List.mem_append_right _ h)))
  have hiX2 : ∀ w ∈ u_ws RX2 TX2 5, w ∈ wsX8_water := fun _ h => List.mem_cons_of_mem _ (List.mem_append_right _ h)
  have hiX3 : ∀ w ∈ u_ws RX3 TX3 4, w ∈ wsX8_water := fun _ h => List.mem_cons_of_mem _ (List.mem_append_left _ (List.mem_append_right _ h))
  have hiX8 : ∀ w ∈ u_ws RX8 TX8 11, w ∈ wsX8_water := fun _ h => List.mem_cons_of_mem _ (List.mem_append_left _ (List.mem_append_left _ (List.mem_append_left _ (List.mem_append_right _ h))))
  refine lv_aload_n hx hb dX8_water_0 rfl (lv_at hl 0 rfl) ?_
  refine lv_iload_n hx hb dX8_water_1 rfl (lv_at hl 1 rfl) ?_
  obtain ⟨z1, hz1, H⟩ := bd_some H
  refine MI.callVw z1 [.int p1] [] C G (c_X8_isWater l D cy mAd GI GM GR lfa lfi lan siz len tok stt fin num flw byt dwat dlev dkin dcdp dsil sta wat lev kin cdp sil hour dep arr deb nxt kep fhour fdep farr fdeb gft bal giv tak inc trc nrs p1 z1 hz1) gX8_water_X8_isWater rfl rfl rfl (n := 1) (by decide +kernel) ⟨Nat.le_of_ble_eq_true rfl, Nat.le_of_ble_eq_true rfl⟩ (q0 := 0) (ci := 8) rfl rfl rfl rfl hl.1 rfl (Nat.le_of_ble_eq_true rfl) dX8_water_2 ⟨Nat.zero_le _, Nat.zero_le _⟩ (fun U locs G => ?_)
  have G : Gd D A s (w_Top cy mAd GI GM GR lfa lfi lan siz len tok stt fin num flw byt dwat dlev dkin dcdp dsil sta wat lev kin cdp sil hour dep arr deb nxt kep fhour fdep farr fdeb gft bal giv tak inc trc nrs) U locs := G
  refine lv_if_ne (tgt := 11) hx hb dX8_water_5 (by decide) (fun c2 => ?_) (fun c2 => ?_)
  · have H := if_f H c2
    refine lv_iload_n hx hb dX8_water_11 rfl (lv_at hl 2 rfl) ?_
    by_cases c3 : p2 = 0
    · have H := if_t H c3
      refine lv_tableIn (off := 32) (tgt := 44) hx hb dX8_water_12 (by rw [c3]; decide) (by rw [c3]; decide) (by rw [c3]; decide) (by decide) ?_
      refine lv_aload_n hx hb dX8_water_44 rfl (lv_at hl 0 rfl) ?_
      refine va_get (D := D) (ci := 8) (v := .ref (mAd 12)) (C := RX8) (T := TX8) (N := 11) hx hb hts hiX8 hown hK G.1 0 rfl rfl 3 (by decide) lk0 (fun _ h9 => h9) rfl dX8_water_45 ?_
      refine va_get (D := D) (ci := 1) (v := .ref (mAd 18)) (C := RX1) (T := TX1) (N := 3) hx hb hts hiX1 hown hK G.1 12 rfl rfl 1 (by decide) lk1 (fun _ h9 => h9) rfl dX8_water_48 ?_
      refine va_get (D := D) (ci := 3) (v := .ref (mAd 19)) (C := RX3) (T := TX3) (N := 4) hx hb hts hiX3 hown hK G.1 18 rfl rfl 0 (by decide) lk2 (fun _ h9 => h9) rfl dX8_water_51 ?_
      refine lv_iload_n hx hb dX8_water_54 rfl (lv_at hl 1 rfl) ?_
      obtain ⟨hb4, H⟩ := gd_some H
      refine g_iald (v := dep (ix p1)) hx hb hK G.1 19 1 rfl rfl hb4 rfl dX8_water_55 ?_
      obtain rfl := Option.some.inj H
      exact ret_i C G rfl dX8_water_56
    · have H := if_f H c3
      by_cases c5 : p2 = 1
      · have H := if_t H c5
        refine lv_tableIn (off := 45) (tgt := 57) hx hb dX8_water_12 (by rw [c5]; decide) (by rw [c5]; decide) (by rw [c5]; decide) (by decide) ?_
        refine lv_aload_n hx hb dX8_water_57 rfl (lv_at hl 0 rfl) ?_
        refine va_get (D := D) (ci := 8) (v := .ref (mAd 12)) (C := RX8) (T := TX8) (N := 11) hx hb hts hiX8 hown hK G.1 0 rfl rfl 3 (by decide) lk0 (fun _ h9 => h9) rfl dX8_water_58 ?_
        refine va_get (D := D) (ci := 1) (v := .ref (mAd 18)) (C := RX1) (T := TX1) (N := 3) hx hb hts hiX1 hown hK G.1 12 rfl rfl 1 (by decide) lk1 (fun _ h9 => h9) rfl dX8_water_61 ?_
        refine va_get (D := D) (ci := 3) (v := .ref (mAd 20)) (C := RX3) (T := TX3) (N := 4) hx hb hts hiX3 hown hK G.1 18 rfl rfl 1 (by decide) lk3 (fun _ h9 => h9) rfl dX8_water_64 ?_
        refine lv_iload_n hx hb dX8_water_67 rfl (lv_at hl 1 rfl) ?_
        obtain ⟨hb6, H⟩ := gd_some H
        refine g_iald (v := arr (ix p1)) hx hb hK G.1 20 1 rfl rfl hb6 rfl dX8_water_68 ?_
        obtain rfl := Option.some.inj H
        exact ret_i C G rfl dX8_water_69
      · have H := if_f H c5
        by_cases c7 : p2 = 2
        · have H := if_t H c7
          refine lv_tableIn (off := 58) (tgt := 70) hx hb dX8_water_12 (by rw [c7]; decide) (by rw [c7]; decide) (by rw [c7]; decide) (by decide) ?_
          refine lv_aload_n hx hb dX8_water_70 rfl (lv_at hl 0 rfl) ?_
          refine va_get (D := D) (ci := 8) (v := .ref (mAd 12)) (C := RX8) (T := TX8) (N := 11) hx hb hts hiX8 hown hK G.1 0 rfl rfl 3 (by decide) lk0 (fun _ h9 => h9) rfl dX8_water_71 ?_
          refine va_get (D := D) (ci := 1) (v := .ref (mAd 13)) (C := RX1) (T := TX1) (N := 3) hx hb hts hiX1 hown hK G.1 12 rfl rfl 0 (by decide) lk4 (fun _ h9 => h9) rfl dX8_water_74 ?_
          refine va_get (D := D) (ci := 2) (v := .ref (mAd 17)) (C := RX2) (T := TX2) (N := 5) hx hb hts hiX2 hown hK G.1 13 rfl rfl 3 (by decide) lk5 (fun _ h9 => h9) rfl dX8_water_77 ?_
          refine lv_iload_n hx hb dX8_water_80 rfl (lv_at hl 1 rfl) ?_
          obtain ⟨hb8, H⟩ := gd_some H
          refine g_iald (v := sil (ix p1)) hx hb hK G.1 17 1 rfl rfl hb8 rfl dX8_water_81 ?_
          obtain rfl := Option.some.inj H
          exact ret_i C G rfl dX8_water_82
        · have H := if_f H c7
          by_cases c9 : p2 = 3
          · have H := if_t H c9
            refine lv_tableIn (off := 71) (tgt := 83) hx hb dX8_water_12 (by rw [c9]; decide) (by rw [c9]; decide) (by rw [c9]; decide) (by decide) ?_
            refine lv_aload_n hx hb dX8_water_83 rfl (lv_at hl 0 rfl) ?_
            refine va_get (D := D) (ci := 8) (v := .ref (mAd 12)) (C := RX8) (T := TX8) (N := 11) hx hb hts hiX8 hown hK G.1 0 rfl rfl 3 (by decide) lk0 (fun _ h9 => h9) rfl dX8_water_84 ?_
            refine va_get (D := D) (ci := 1) (v := .ref (mAd 18)) (C := RX1) (T := TX1) (N := 3) hx hb hts hiX1 hown hK G.1 12 rfl rfl 1 (by decide) lk1 (fun _ h9 => h9) rfl dX8_water_87 ?_
            refine lv_iload_n hx hb dX8_water_90 rfl (lv_at hl 1 rfl) ?_
            obtain ⟨z10, hz10, H⟩ := bd_some H
            refine MI.callV z10 [.int p1] [] [18, 19, 20, 21] C G (c_X3_balance l D cy (fun k => mAd (k + 18)) hour dep arr deb p1 z10 hz10) gX8_water_X3_balance rfl rfl rfl (n := 1) (by decide +kernel) ⟨Nat.le_of_ble_eq_true rfl, Nat.le_of_ble_eq_true rfl⟩ (q0 := 18) (ci := 3) rfl rfl rfl rfl rfl rfl rfl hl.1 rfl (Nat.le_of_ble_eq_true rfl) dX8_water_91 ⟨Nat.zero_le _, Nat.zero_le _⟩ (fun U locs G => ?_)
            have G : Gd D A s (w_Top cy mAd GI GM GR lfa lfi lan siz len tok stt fin num flw byt dwat dlev dkin dcdp dsil sta wat lev kin cdp sil hour dep arr deb nxt kep fhour fdep farr fdeb gft bal giv tak inc trc nrs) U locs := G
            obtain rfl := Option.some.inj H
            exact ret_i C G rfl dX8_water_94
          · have H := if_f H c9
            have hout := sw_out (x := p2) (lo := 0) (hi := 3) (fun k h1 h2 => by
                have hk : k = 0 ∨ k = 1 ∨ k = 2 ∨ k = 3 := by omega
                rcases hk with rfl | rfl | rfl | rfl
                · exact c3
                · exact c5
                · exact c7
                · exact c9)
            refine lv_tableOut (tgt := 95) hx hb dX8_water_12 hout (by decide) ?_
            refine lv_ldc hx hb hown lk6 dX8_water_95 ?_
            obtain rfl := Option.some.inj H
            exact ret_i C G rfl dX8_water_97
  · have H := if_t H c2
    refine lv_ldc hx hb hown lk6 dX8_water_8 ?_
    obtain rfl := Option.some.inj H
    exact ret_i C G rfl dX8_water_10
def f_X8_owes (wat : Int32) (deb : Nat → Int32) (p1 p2 : Int32) : Option Int32 := bd (f_X8_areTwoWaters wat p1 p2) (fun z1 => if z1 = 0 then (some (-1000001)) else (bd (f_X3_debt deb p1 p2) (fun z3 => some z3)))
set_option maxHeartbeats 4000000 in
set_option maxRecDepth 100000 in
theorem c_X8_owes (l : Launch) (D : va_G) (cy : Nat → ClassId) (mAd : Nat → Nat) (GI GM GR : Nat → Option Nat) (lfa lfi : Int32) (lan siz : Nat → Int32) (len tok stt fin num flw : Int32) (byt : Nat → Int32) (dwat : Int32) (dlev dkin dcdp dsil : Nat → Int32) (sta wat : Int32) (lev kin cdp sil : Nat → Int32) (hour : Int32) (dep arr deb : Nat → Int32) (nxt kep fhour : Int32) (fdep farr fdeb : Nat → Int32) (gft : Int32) (bal giv tak inc : Nat → Int32) (trc : Int32) (nrs : Nat → Int32) (p1 p2 : Int32) (z : Int32) (hz : f_X8_owes wat deb p1 p2 = some z) : MI l yX8_owes wsX8_owes ({ frames := 2, cells := 0, slots := 0, locals := 43 } : Room) D cy [.ref (mAd 0), .int p1, .int p2] (w_Top cy mAd GI GM GR lfa lfi lan siz len tok stt fin num flw byt dwat dlev dkin dcdp dsil sta wat lev kin cdp sil hour dep arr deb nxt kep fhour fdep farr fdeb gft bal giv tak inc trc nrs) z (w_Top cy mAd GI GM GR lfa lfi lan siz len tok stt fin num flw byt dwat dlev dkin dcdp dsil sta wat lev kin cdp sil hour dep arr deb nxt kep fhour fdep farr fdeb gft bal giv tak inc trc nrs) := by
  refine met_start (Qf := fun A => MQi D cy z (w_Top cy mAd GI GM GR lfa lfi lan siz len tok stt fin num flw byt dwat dlev dkin dcdp dsil sta wat lev kin cdp sil hour dep arr deb nxt kep fhour fdep farr fdeb gft bal giv tak inc trc nrs) A) (cc := cX8_owes) (nL := 3) (ret := (some .int)) RX8 rfl (by decide) rfl (Nat.le_of_ble_eq_true rfl) ?_
  intro p e s m below meth c A ls C G hl
  have hl : lv_has ls 3 [(0, .ref (mAd 0)), (1, .int p1), (2, .int p2)] := hl
  have H := hz
  unfold f_X8_owes at H
  obtain ⟨hx, hb, hr, hml, hown, hts, hlk, hK, hA, hE⟩ := id C
  have lk0 := hts (Cond.constant RX8 73 (-1000001)) (List.mem_of_getElem? (i := 3) rfl)
  have lk1 := hts (Cond.fieldLink RX8 33 "TideDebts" "now" "LTideDebts$Bay;") (List.mem_of_getElem? (i := 1) rfl)
  have lk2 := hts (Cond.fieldLink RX8 151 "TideDebts$Bay" "ledger" "LTideDebts$Ledger;") (List.mem_of_getElem? (i := 2) rfl)
  have hiX1 : ∀ w ∈ u_ws RX1 TX1 3, w ∈ wsX8_owes := fun _ h => List.mem_cons_of_mem _ (List.mem_append_left _ (List.mem_append_left _ (List.mem_append_right _ h)))
  have hiX8 : ∀ w ∈ u_ws RX8 TX8 11, w ∈ wsX8_owes := fun _ h => List.mem_cons_of_mem _ (List.mem_append_left _ (List.mem_append_left _ (List.mem_append_left _ (List.mem_append_right _ h))))
  refine lv_aload_n hx hb dX8_owes_0 rfl (lv_at hl 0 rfl) ?_
  refine lv_iload_n hx hb dX8_owes_1 rfl (lv_at hl 1 rfl) ?_
  refine lv_iload_n hx hb dX8_owes_2 rfl (lv_at hl 2 rfl) ?_
  obtain ⟨z1, hz1, H⟩ := bd_some H
  refine MI.callVw z1 [.int p1, .int p2] [] C G (c_X8_areTwoWaters l D cy mAd GI GM GR lfa lfi lan siz len tok stt fin num flw byt dwat dlev dkin dcdp dsil sta wat lev kin cdp sil hour dep arr deb nxt kep fhour fdep farr fdeb gft bal giv tak inc trc nrs p1 p2 z1 hz1) gX8_owes_X8_areTwoWaters rfl rfl rfl (n := 2) (by decide +kernel) ⟨Nat.le_of_ble_eq_true rfl, Nat.le_of_ble_eq_true rfl⟩ (q0 := 0) (ci := 8) rfl rfl rfl rfl hl.1 rfl (Nat.le_of_ble_eq_true rfl) dX8_owes_3 ⟨Nat.zero_le _, Nat.zero_le _⟩ (fun U locs G => ?_)
  have G : Gd D A s (w_Top cy mAd GI GM GR lfa lfi lan siz len tok stt fin num flw byt dwat dlev dkin dcdp dsil sta wat lev kin cdp sil hour dep arr deb nxt kep fhour fdep farr fdeb gft bal giv tak inc trc nrs) U locs := G
  refine lv_if_eq (tgt := 24) hx hb dX8_owes_6 (by decide) (fun c2 => ?_) (fun c2 => ?_)
  · have H := if_t H c2
    refine lv_ldc hx hb hown lk0 dX8_owes_24 ?_
    obtain rfl := Option.some.inj H
    exact ret_i C G rfl dX8_owes_26
  · have H := if_f H c2
    refine lv_aload_n hx hb dX8_owes_9 rfl (lv_at hl 0 rfl) ?_
    refine va_get (D := D) (ci := 8) (v := .ref (mAd 12)) (C := RX8) (T := TX8) (N := 11) hx hb hts hiX8 hown hK G.1 0 rfl rfl 3 (by decide) lk1 (fun _ h9 => h9) rfl dX8_owes_10 ?_
    refine va_get (D := D) (ci := 1) (v := .ref (mAd 18)) (C := RX1) (T := TX1) (N := 3) hx hb hts hiX1 hown hK G.1 12 rfl rfl 1 (by decide) lk2 (fun _ h9 => h9) rfl dX8_owes_13 ?_
    refine lv_iload_n hx hb dX8_owes_16 rfl (lv_at hl 1 rfl) ?_
    refine lv_iload_n hx hb dX8_owes_17 rfl (lv_at hl 2 rfl) ?_
    obtain ⟨z3, hz3, H⟩ := bd_some H
    refine MI.callV z3 [.int p1, .int p2] [] [18, 19, 20, 21] C G (c_X3_debt l D cy (fun k => mAd (k + 18)) hour dep arr deb p1 p2 z3 hz3) gX8_owes_X3_debt rfl rfl rfl (n := 2) (by decide +kernel) ⟨Nat.le_of_ble_eq_true rfl, Nat.le_of_ble_eq_true rfl⟩ (q0 := 18) (ci := 3) rfl rfl rfl rfl rfl rfl rfl hl.1 rfl (Nat.le_of_ble_eq_true rfl) dX8_owes_18 ⟨Nat.zero_le _, Nat.zero_le _⟩ (fun U locs G => ?_)
    have G : Gd D A s (w_Top cy mAd GI GM GR lfa lfi lan siz len tok stt fin num flw byt dwat dlev dkin dcdp dsil sta wat lev kin cdp sil hour dep arr deb nxt kep fhour fdep farr fdeb gft bal giv tak inc trc nrs) U locs := G
    refine lv_goto (tgt := 26) hx hb dX8_owes_21 (by decide) ?_
    obtain rfl := Option.some.inj H
    exact ret_i C G rfl dX8_owes_26
def f_X8_ahead (wat : Int32) (lev kin sil : Nat → Int32) (hour : Int32) (dep arr deb : Nat → Int32) (fhour : Int32) (fdep farr fdeb : Nat → Int32) (p1 p2 p3 : Int32) : Option (Int32 × Int32 × (Nat → Int32) × (Nat → Int32) × (Nat → Int32)) := bd (f_X8_isWater wat p1) (fun z1 => if z1 = 0 then (some ((-1000001), fhour, fdep, farr, fdeb)) else (if p2 < 0 then (some ((-1000001), fhour, fdep, farr, fdeb)) else (if 48 < p2 then (some ((-1000001), fhour, fdep, farr, fdeb)) else (if p3 < 0 then (some ((-1000001), fhour, fdep, farr, fdeb)) else (if p3 ≤ 2 then (bd (f_X3_takeFrom fhour fdep farr fdeb hour dep arr deb) (fun z7 => bd (f_X3_passHours z7.1 z7.2.1 z7.2.2.1 z7.2.2.2 wat lev kin sil p2) (fun z8 => if p3 = 2 then (bd (f_X3_owedBy z8.2.2.2 p1) (fun z13 => some (z13, z8.1, z8.2.1, z8.2.2.1, z8.2.2.2))) else (if p3 = 1 then (gd (inb p1 6) (some (z8.2.2.1 (ix p1), z8.1, z8.2.1, z8.2.2.1, z8.2.2.2))) else (gd (inb p1 6) (some (z8.2.1 (ix p1), z8.1, z8.2.1, z8.2.2.1, z8.2.2.2))))))) else (some ((-1000001), fhour, fdep, farr, fdeb)))))))
set_option maxHeartbeats 4000000 in
set_option maxRecDepth 100000 in
theorem c_X8_ahead (l : Launch) (D : va_G) (cy : Nat → ClassId) (mAd : Nat → Nat) (GI GM GR : Nat → Option Nat) (lfa lfi : Int32) (lan siz : Nat → Int32) (len tok stt fin num flw : Int32) (byt : Nat → Int32) (dwat : Int32) (dlev dkin dcdp dsil : Nat → Int32) (sta wat : Int32) (lev kin cdp sil : Nat → Int32) (hour : Int32) (dep arr deb : Nat → Int32) (nxt kep fhour : Int32) (fdep farr fdeb : Nat → Int32) (gft : Int32) (bal giv tak inc : Nat → Int32) (trc : Int32) (nrs : Nat → Int32) (p1 p2 p3 : Int32) (z : (Int32 × Int32 × (Nat → Int32) × (Nat → Int32) × (Nat → Int32))) (hz : f_X8_ahead wat lev kin sil hour dep arr deb fhour fdep farr fdeb p1 p2 p3 = some z) : MI l yX8_ahead wsX8_ahead ({ frames := 6, cells := 0, slots := 0, locals := 132 } : Room) D cy [.ref (mAd 0), .int p1, .int p2, .int p3] (w_Top cy mAd GI GM GR lfa lfi lan siz len tok stt fin num flw byt dwat dlev dkin dcdp dsil sta wat lev kin cdp sil hour dep arr deb nxt kep fhour fdep farr fdeb gft bal giv tak inc trc nrs) z.1 (w_Top cy mAd GI GM GR lfa lfi lan siz len tok stt fin num flw byt dwat dlev dkin dcdp dsil sta wat lev kin cdp sil hour dep arr deb nxt kep z.2.1 z.2.2.1 z.2.2.2.1 z.2.2.2.2 gft bal giv tak inc trc nrs) := by
  refine met_start (Qf := fun A => MQi D cy z.1 (w_Top cy mAd GI GM GR lfa lfi lan siz len tok stt fin num flw byt dwat dlev dkin dcdp dsil sta wat lev kin cdp sil hour dep arr deb nxt kep z.2.1 z.2.2.1 z.2.2.2.1 z.2.2.2.2 gft bal giv tak inc trc nrs) A) (cc := cX8_ahead) (nL := 4) (ret := (some .int)) RX8 rfl (by decide) rfl (Nat.le_of_ble_eq_true rfl) ?_
  intro p e s m below meth c A ls C G hl
  have hl : lv_has ls 4 [(0, .ref (mAd 0)), (1, .int p1), (2, .int p2), (3, .int p3)] := hl
  have H := hz
  unfold f_X8_ahead at H
  obtain ⟨hx, hb, hr, hml, hown, hts, hlk, hK, hA, hE⟩ := id C
  have lk0 := hts (Cond.constant RX8 73 (-1000001)) (List.mem_of_getElem? (i := 1) rfl)
  have lk1 := hts (Cond.fieldLink RX8 51 "TideDebts" "foretold" "LTideDebts$Ledger;") (List.mem_of_getElem? (i := 2) rfl)
  have lk2 := hts (Cond.fieldLink RX8 33 "TideDebts" "now" "LTideDebts$Bay;") (List.mem_of_getElem? (i := 3) rfl)
  have lk3 := hts (Cond.fieldLink RX8 151 "TideDebts$Bay" "ledger" "LTideDebts$Ledger;") (List.mem_of_getElem? (i := 4) rfl)
  have lk4 := hts (Cond.fieldLink RX8 140 "TideDebts$Bay" "chart" "LTideDebts$Chart;") (List.mem_of_getElem? (i := 5) rfl)
  have lk5 := hts (Cond.fieldLink RX8 168 "TideDebts$Ledger" "depths" "[I") (List.mem_of_getElem? (i := 7) rfl)
  have lk6 := hts (Cond.fieldLink RX8 206 "TideDebts$Ledger" "arrears" "[I") (List.mem_of_getElem? (i := 6) rfl)
  have hiX1 : ∀ w ∈ u_ws RX1 TX1 3, w ∈ wsX8_ahead := fun _ h => List.mem_cons_of_mem _ (List.mem_append_left _ (List.mem_append_left _ (List.mem_append_right _ h)))
  have hiX3 : ∀ w ∈ u_ws RX3 TX3 4, w ∈ wsX8_ahead := fun _ h => List.mem_cons_of_mem _ (List.mem_append_left _ (List.mem_append_right _ h))
  have hiX8 : ∀ w ∈ u_ws RX8 TX8 11, w ∈ wsX8_ahead := fun _ h => List.mem_cons_of_mem _ (List.mem_append_left _ (List.mem_append_left _ (List.mem_append_left _ (List.mem_append_right _ h))))
  refine lv_aload_n hx hb dX8_ahead_0 rfl (lv_at hl 0 rfl) ?_
  refine lv_iload_n hx hb dX8_ahead_1 rfl (lv_at hl 1 rfl) ?_
  obtain ⟨z1, hz1, H⟩ := bd_some H
  refine MI.callVw z1 [.int p1] [] C G (c_X8_isWater l D cy mAd GI GM GR lfa lfi lan siz len tok stt fin num flw byt dwat dlev dkin dcdp dsil sta wat lev kin cdp sil hour dep arr deb nxt kep fhour fdep farr fdeb gft bal giv tak inc trc nrs p1 z1 hz1) gX8_ahead_X8_isWater rfl rfl rfl (n := 1) (by decide +kernel) ⟨Nat.le_of_ble_eq_true rfl, Nat.le_of_ble_eq_true rfl⟩ (q0 := 0) (ci := 8) rfl rfl rfl rfl hl.1 rfl (Nat.le_of_ble_eq_true rfl) dX8_ahead_2 ⟨Nat.zero_le _, Nat.zero_le _⟩ (fun U locs G => ?_)
  have G : Gd D A s (w_Top cy mAd GI GM GR lfa lfi lan siz len tok stt fin num flw byt dwat dlev dkin dcdp dsil sta wat lev kin cdp sil hour dep arr deb nxt kep fhour fdep farr fdeb gft bal giv tak inc trc nrs) U locs := G
  refine lv_if_eq (tgt := 27) hx hb dX8_ahead_5 (by decide) (fun c2 => ?_) (fun c2 => ?_)
  · have H := if_t H c2
    refine lv_ldc hx hb hown lk0 dX8_ahead_27 ?_
    obtain rfl := Option.some.inj H
    exact ret_i C G rfl dX8_ahead_29
  · have H := if_f H c2
    refine lv_iload_n hx hb dX8_ahead_8 rfl (lv_at hl 2 rfl) ?_
    refine lv_if_lt (tgt := 27) hx hb dX8_ahead_9 (by decide) (fun c3 => ?_) (fun c3 => ?_)
    · have H := if_t H c3
      refine lv_ldc hx hb hown lk0 dX8_ahead_27 ?_
      obtain rfl := Option.some.inj H
      exact ret_i C G rfl dX8_ahead_29
    · have H := if_f H c3
      refine lv_iload_n hx hb dX8_ahead_12 rfl (lv_at hl 2 rfl) ?_
      refine lv_bipush (v := 48) hx hb dX8_ahead_13 (by decide) ?_
      refine lv_icmp_gt (tgt := 27) hx hb dX8_ahead_15 (by decide) (fun c4 => ?_) (fun c4 => ?_)
      · have H := if_t H c4
        refine lv_ldc hx hb hown lk0 dX8_ahead_27 ?_
        obtain rfl := Option.some.inj H
        exact ret_i C G rfl dX8_ahead_29
      · have H := if_f H c4
        refine lv_iload_n hx hb dX8_ahead_18 rfl (lv_at hl 3 rfl) ?_
        refine lv_if_lt (tgt := 27) hx hb dX8_ahead_19 (by decide) (fun c5 => ?_) (fun c5 => ?_)
        · have H := if_t H c5
          refine lv_ldc hx hb hown lk0 dX8_ahead_27 ?_
          obtain rfl := Option.some.inj H
          exact ret_i C G rfl dX8_ahead_29
        · have H := if_f H c5
          refine lv_iload_n hx hb dX8_ahead_22 rfl (lv_at hl 3 rfl) ?_
          refine lv_iconst (v := 2) hx hb dX8_ahead_23 (by decide) ?_
          refine lv_icmp_le (tgt := 30) hx hb dX8_ahead_24 (by decide) (fun c6 => ?_) (fun c6 => ?_)
          · have H := if_t H c6
            refine lv_aload_n hx hb dX8_ahead_30 rfl (lv_at hl 0 rfl) ?_
            refine va_get (D := D) (ci := 8) (v := .ref (mAd 25)) (C := RX8) (T := TX8) (N := 11) hx hb hts hiX8 hown hK G.1 0 rfl rfl 6 (by decide) lk1 (fun _ h9 => h9) rfl dX8_ahead_31 ?_
            refine lv_aload_n hx hb dX8_ahead_34 rfl (lv_at hl 0 rfl) ?_
            refine va_get (D := D) (ci := 8) (v := .ref (mAd 12)) (C := RX8) (T := TX8) (N := 11) hx hb hts hiX8 hown hK G.1 0 rfl rfl 3 (by decide) lk2 (fun _ h9 => h9) rfl dX8_ahead_35 ?_
            refine va_get (D := D) (ci := 1) (v := .ref (mAd 18)) (C := RX1) (T := TX1) (N := 3) hx hb hts hiX1 hown hK G.1 12 rfl rfl 1 (by decide) lk3 (fun _ h9 => h9) rfl dX8_ahead_38 ?_
            obtain ⟨z7, hz7, H⟩ := bd_some H
            refine MV.callV [.ref (mAd 18)] [] [25, 26, 27, 28, 18, 19, 20, 21] C G (c_X3_takeFrom l D cy (fun k => mAd (k + 25)) (fun k => mAd (k + 18)) fhour fdep farr fdeb hour dep arr deb z7 hz7) gX8_ahead_X3_takeFrom rfl rfl rfl (n := 1) (by decide +kernel) ⟨Nat.le_of_ble_eq_true rfl, Nat.le_of_ble_eq_true rfl⟩ (q0 := 25) (ci := 3) rfl rfl rfl rfl rfl rfl rfl hl.1 rfl (Nat.le_of_ble_eq_true rfl) dX8_ahead_41 ⟨Nat.zero_le _, Nat.zero_le _⟩ (fun U locs G => ?_)
            have G : Gd D A s (w_Top cy mAd GI GM GR lfa lfi lan siz len tok stt fin num flw byt dwat dlev dkin dcdp dsil sta wat lev kin cdp sil hour dep arr deb nxt kep z7.1 z7.2.1 z7.2.2.1 z7.2.2.2 gft bal giv tak inc trc nrs) U locs := G
            refine lv_aload_n hx hb dX8_ahead_44 rfl (lv_at hl 0 rfl) ?_
            refine va_get (D := D) (ci := 8) (v := .ref (mAd 25)) (C := RX8) (T := TX8) (N := 11) hx hb hts hiX8 hown hK G.1 0 rfl rfl 6 (by decide) lk1 (fun _ h9 => h9) rfl dX8_ahead_45 ?_
            refine lv_aload_n hx hb dX8_ahead_48 rfl (lv_at hl 0 rfl) ?_
            refine va_get (D := D) (ci := 8) (v := .ref (mAd 12)) (C := RX8) (T := TX8) (N := 11) hx hb hts hiX8 hown hK G.1 0 rfl rfl 3 (by decide) lk2 (fun _ h9 => h9) rfl dX8_ahead_49 ?_
            refine va_get (D := D) (ci := 1) (v := .ref (mAd 13)) (C := RX1) (T := TX1) (N := 3) hx hb hts hiX1 hown hK G.1 12 rfl rfl 0 (by decide) lk4 (fun _ h9 => h9) rfl dX8_ahead_52 ?_
            refine lv_iload_n hx hb dX8_ahead_55 rfl (lv_at hl 2 rfl) ?_
            obtain ⟨z8, hz8, H⟩ := bd_some H
            refine MV.callV [.ref (mAd 13), .int p2] [] [25, 26, 27, 28, 13, 14, 15, 16, 17] C G (c_X3_passHours l D cy (fun k => mAd (k + 25)) (fun k => mAd (k + 13)) z7.1 z7.2.1 z7.2.2.1 z7.2.2.2 wat lev kin cdp sil p2 z8 hz8) gX8_ahead_X3_passHours rfl rfl rfl (n := 2) (by decide +kernel) ⟨Nat.le_of_ble_eq_true rfl, Nat.le_of_ble_eq_true rfl⟩ (q0 := 25) (ci := 3) rfl rfl rfl rfl rfl rfl rfl hl.1 rfl (Nat.le_of_ble_eq_true rfl) dX8_ahead_56 ⟨Nat.zero_le _, Nat.zero_le _⟩ (fun U locs G => ?_)
            have G : Gd D A s (w_Top cy mAd GI GM GR lfa lfi lan siz len tok stt fin num flw byt dwat dlev dkin dcdp dsil sta wat lev kin cdp sil hour dep arr deb nxt kep z8.1 z8.2.1 z8.2.2.1 z8.2.2.2 gft bal giv tak inc trc nrs) U locs := G
            refine lv_iload_n hx hb dX8_ahead_59 rfl (lv_at hl 3 rfl) ?_
            refine lv_iconst (v := 2) hx hb dX8_ahead_60 (by decide) ?_
            refine lv_icmp_ne (tgt := 73) hx hb dX8_ahead_61 (by decide) (fun c9 => ?_) (fun c9 => ?_)
            · have H := if_f H c9
              refine lv_iload_n hx hb dX8_ahead_73 rfl (lv_at hl 3 rfl) ?_
              refine lv_iconst (v := 1) hx hb dX8_ahead_74 (by decide) ?_
              refine lv_icmp_ne (tgt := 90) hx hb dX8_ahead_75 (by decide) (fun c10 => ?_) (fun c10 => ?_)
              · have H := if_f H c10
                refine lv_aload_n hx hb dX8_ahead_90 rfl (lv_at hl 0 rfl) ?_
                refine va_get (D := D) (ci := 8) (v := .ref (mAd 25)) (C := RX8) (T := TX8) (N := 11) hx hb hts hiX8 hown hK G.1 0 rfl rfl 6 (by decide) lk1 (fun _ h9 => h9) rfl dX8_ahead_91 ?_
                refine va_get (D := D) (ci := 3) (v := .ref (mAd 26)) (C := RX3) (T := TX3) (N := 4) hx hb hts hiX3 hown hK G.1 25 rfl rfl 0 (by decide) lk5 (fun _ h9 => h9) rfl dX8_ahead_94 ?_
                refine lv_iload_n hx hb dX8_ahead_97 rfl (lv_at hl 1 rfl) ?_
                obtain ⟨hb11, H⟩ := gd_some H
                refine g_iald (v := z8.2.1 (ix p1)) hx hb hK G.1 26 1 rfl rfl hb11 rfl dX8_ahead_98 ?_
                obtain rfl := Option.some.inj H
                exact ret_i C G rfl dX8_ahead_99
              · have H := if_t H c10
                refine lv_aload_n hx hb dX8_ahead_78 rfl (lv_at hl 0 rfl) ?_
                refine va_get (D := D) (ci := 8) (v := .ref (mAd 25)) (C := RX8) (T := TX8) (N := 11) hx hb hts hiX8 hown hK G.1 0 rfl rfl 6 (by decide) lk1 (fun _ h9 => h9) rfl dX8_ahead_79 ?_
                refine va_get (D := D) (ci := 3) (v := .ref (mAd 27)) (C := RX3) (T := TX3) (N := 4) hx hb hts hiX3 hown hK G.1 25 rfl rfl 1 (by decide) lk6 (fun _ h9 => h9) rfl dX8_ahead_82 ?_
                refine lv_iload_n hx hb dX8_ahead_85 rfl (lv_at hl 1 rfl) ?_
                obtain ⟨hb12, H⟩ := gd_some H
                refine g_iald (v := z8.2.2.1 (ix p1)) hx hb hK G.1 27 1 rfl rfl hb12 rfl dX8_ahead_86 ?_
                refine lv_goto (tgt := 99) hx hb dX8_ahead_87 (by decide) ?_
                obtain rfl := Option.some.inj H
                exact ret_i C G rfl dX8_ahead_99
            · have H := if_t H c9
              refine lv_aload_n hx hb dX8_ahead_64 rfl (lv_at hl 0 rfl) ?_
              refine va_get (D := D) (ci := 8) (v := .ref (mAd 25)) (C := RX8) (T := TX8) (N := 11) hx hb hts hiX8 hown hK G.1 0 rfl rfl 6 (by decide) lk1 (fun _ h9 => h9) rfl dX8_ahead_65 ?_
              refine lv_iload_n hx hb dX8_ahead_68 rfl (lv_at hl 1 rfl) ?_
              obtain ⟨z13, hz13, H⟩ := bd_some H
              refine MI.callV z13 [.int p1] [] [25, 26, 27, 28] C G (c_X3_owedBy l D cy (fun k => mAd (k + 25)) z8.1 z8.2.1 z8.2.2.1 z8.2.2.2 p1 z13 hz13) gX8_ahead_X3_owedBy rfl rfl rfl (n := 1) (by decide +kernel) ⟨Nat.le_of_ble_eq_true rfl, Nat.le_of_ble_eq_true rfl⟩ (q0 := 25) (ci := 3) rfl rfl rfl rfl rfl rfl rfl hl.1 rfl (Nat.le_of_ble_eq_true rfl) dX8_ahead_69 ⟨Nat.zero_le _, Nat.zero_le _⟩ (fun U locs G => ?_)
              have G : Gd D A s (w_Top cy mAd GI GM GR lfa lfi lan siz len tok stt fin num flw byt dwat dlev dkin dcdp dsil sta wat lev kin cdp sil hour dep arr deb nxt kep z8.1 z8.2.1 z8.2.2.1 z8.2.2.2 gft bal giv tak inc trc nrs) U locs := G
              obtain rfl := Option.some.inj H
              exact ret_i C G rfl dX8_ahead_72
          · have H := if_f H c6
            refine lv_ldc hx hb hown lk0 dX8_ahead_27 ?_
            obtain rfl := Option.some.inj H
            exact ret_i C G rfl dX8_ahead_29
def f_X8_firstDeepHour_L32 (wat : Int32) (lev kin sil : Nat → Int32) (x1 x2 x4 : Int32) : Nat → Int32 → (Nat → Int32) → (Nat → Int32) → (Nat → Int32) → Int32 → Option (Int32 × Int32 × (Nat → Int32) × (Nat → Int32) × (Nat → Int32))
  | 0, _, _, _, _, _ => none
  | n + 1, fhour, fdep, farr, fdeb, x5 => if x4 < x5 then (some ((-1000000), fhour, fdep, farr, fdeb)) else (gd (inb x1 6) (if (fdep (ix x1)) < x2 then (bd (f_X3_passHour fhour fdep farr fdeb wat lev kin sil) (fun z6 => f_X8_firstDeepHour_L32 wat lev kin sil x1 x2 x4 n z6.2.1 z6.2.2.1 z6.2.2.2.1 z6.2.2.2.2 (x5 + 1))) else (some (x5, fhour, fdep, farr, fdeb))))
theorem f_X8_firstDeepHour_L32_z (wat : Int32) (lev kin sil : Nat → Int32) (x1 x2 x4 : Int32) (fhour : Int32) (fdep farr fdeb : Nat → Int32) (x5 : Int32) : f_X8_firstDeepHour_L32 wat lev kin sil x1 x2 x4 0 fhour fdep farr fdeb x5 = none := rfl
theorem f_X8_firstDeepHour_L32_s (wat : Int32) (lev kin sil : Nat → Int32) (x1 x2 x4 : Int32) (n : Nat) (fhour : Int32) (fdep farr fdeb : Nat → Int32) (x5 : Int32) : f_X8_firstDeepHour_L32 wat lev kin sil x1 x2 x4 (n + 1) fhour fdep farr fdeb x5 = if x4 < x5 then (some ((-1000000), fhour, fdep, farr, fdeb)) else (gd (inb x1 6) (if (fdep (ix x1)) < x2 then (bd (f_X3_passHour fhour fdep farr fdeb wat lev kin sil) (fun z6 => f_X8_firstDeepHour_L32 wat lev kin sil x1 x2 x4 n z6.2.1 z6.2.2.1 z6.2.2.2.1 z6.2.2.2.2 (x5 + 1))) else (some (x5, fhour, fdep, farr, fdeb)))) := rfl
set_option maxHeartbeats 4000000 in
set_option maxRecDepth 100000 in
theorem wl_X8_firstDeepHour_32 {p : Program} {l : Launch} {e : Env} {s : State} {m : MethodId} {below : List Frame} {meth : Method} {c : Code} {D : va_G} {cy : Nat → ClassId} {A : Nat → Prop} {args : Array Value} (C : Cx D cy A p s m meth c cX8_firstDeepHour 6 (some .int) wsX8_firstDeepHour RX8 args) (mAd : Nat → Nat) (GI GM GR : Nat → Option Nat) (lfa lfi : Int32) (lan siz : Nat → Int32) (len tok stt fin num flw : Int32) (byt : Nat → Int32) (dwat : Int32) (dlev dkin dcdp dsil : Nat → Int32) (sta wat : Int32) (lev kin cdp sil : Nat → Int32) (hour : Int32) (dep arr deb : Nat → Int32) (nxt kep gft : Int32) (bal giv tak inc : Nat → Int32) (trc : Int32) (nrs : Nat → Int32) (x1 x2 x4 : Int32) :
    ∀ (n : Nat) (fhour : Int32) (fdep farr fdeb : Nat → Int32) (x5 : Int32) (z : (Int32 × Int32 × (Nat → Int32) × (Nat → Int32) × (Nat → Int32))), f_X8_firstDeepHour_L32 wat lev kin sil x1 x2 x4 n fhour fdep farr fdeb x5 = some z → ∀ (U : Heap) (locs : List Loc) (ls : Array Slot), Gd D A s (w_Top cy mAd GI GM GR lfa lfi lan siz len tok stt fin num flw byt dwat dlev dkin dcdp dsil sta wat lev kin cdp sil hour dep arr deb nxt kep fhour fdep farr fdeb gft bal giv tak inc trc nrs) U locs → lv_has ls 6 [(0, .ref (mAd 0)), (1, .int x1), (2, .int x2), (4, .int x4), (5, .int x5)] → W p l e ({ frames := 6, cells := 0, slots := 0, locals := 132 } : Room) s m args below meth c U locs 0 0 (MQ below (MQi D cy z.1 (w_Top cy mAd GI GM GR lfa lfi lan siz len tok stt fin num flw byt dwat dlev dkin dcdp dsil sta wat lev kin cdp sil hour dep arr deb nxt kep z.2.1 z.2.2.1 z.2.2.2.1 z.2.2.2.2 gft bal giv tak inc trc nrs) A) args s 0 0 A) (F0 m 32 ls []) := by
  obtain ⟨hx, hb, hr, hml, hown, hts, hlk, hK, hA, hE⟩ := id C
  have lk0 := hts (Cond.constant RX8 229 (-1000000)) (List.mem_of_getElem? (i := 6) rfl)
  have lk1 := hts (Cond.fieldLink RX8 51 "TideDebts" "foretold" "LTideDebts$Ledger;") (List.mem_of_getElem? (i := 1) rfl)
  have lk2 := hts (Cond.fieldLink RX8 168 "TideDebts$Ledger" "depths" "[I") (List.mem_of_getElem? (i := 5) rfl)
  have lk3 := hts (Cond.fieldLink RX8 33 "TideDebts" "now" "LTideDebts$Bay;") (List.mem_of_getElem? (i := 2) rfl)
  have lk4 := hts (Cond.fieldLink RX8 140 "TideDebts$Bay" "chart" "LTideDebts$Chart;") (List.mem_of_getElem? (i := 4) rfl)
  have hiX1 : ∀ w ∈ u_ws RX1 TX1 3, w ∈ wsX8_firstDeepHour := fun _ h => List.mem_cons_of_mem _ (List.mem_append_left _ (List.mem_append_left _ (List.mem_append_right _ h)))
  have hiX3 : ∀ w ∈ u_ws RX3 TX3 4, w ∈ wsX8_firstDeepHour := fun _ h => List.mem_cons_of_mem _ (List.mem_append_left _ (List.mem_append_right _ h))
  have hiX8 : ∀ w ∈ u_ws RX8 TX8 11, w ∈ wsX8_firstDeepHour := fun _ h => List.mem_cons_of_mem _ (List.mem_append_left _ (List.mem_append_left _ (List.mem_append_left _ (List.mem_append_right _ h))))
  intro n
  induction n with
  | zero =>
    intro fhour fdep farr fdeb x5 z H
    rw [f_X8_firstDeepHour_L32_z] at H
    cases H
  | succ n ih =>
    intro fhour fdep farr fdeb x5 z H U locs ls G hl
    rw [f_X8_firstDeepHour_L32_s] at H
    refine lv_iload hx hb dX8_firstDeepHour_32 (lv_at hl 4 rfl) ?_
    refine lv_iload hx hb dX8_firstDeepHour_34 (lv_at hl 3 rfl) ?_
    refine lv_icmp_gt (tgt := 76) hx hb dX8_firstDeepHour_36 (by decide) (fun c3 => ?_) (fun c3 => ?_)
    · have H := if_t H c3
      refine lv_ldc hx hb hown lk0 dX8_firstDeepHour_76 ?_
      obtain rfl := Option.some.inj H
      exact ret_i C G rfl dX8_firstDeepHour_78
    · have H := if_f H c3
      refine lv_aload_n hx hb dX8_firstDeepHour_39 rfl (lv_at hl 0 rfl) ?_
      refine va_get (D := D) (ci := 8) (v := .ref (mAd 25)) (C := RX8) (T := TX8) (N := 11) hx hb hts hiX8 hown hK G.1 0 rfl rfl 6 (by decide) lk1 (fun _ h9 => h9) rfl dX8_firstDeepHour_40 ?_
      refine va_get (D := D) (ci := 3) (v := .ref (mAd 26)) (C := RX3) (T := TX3) (N := 4) hx hb hts hiX3 hown hK G.1 25 rfl rfl 0 (by decide) lk2 (fun _ h9 => h9) rfl dX8_firstDeepHour_43 ?_
      refine lv_iload_n hx hb dX8_firstDeepHour_46 rfl (lv_at hl 1 rfl) ?_
      obtain ⟨hb4, H⟩ := gd_some H
      refine g_iald (v := fdep (ix x1)) hx hb hK G.1 26 1 rfl rfl hb4 rfl dX8_firstDeepHour_47 ?_
      refine lv_iload_n hx hb dX8_firstDeepHour_48 rfl (lv_at hl 2 rfl) ?_
      refine lv_icmp_lt (tgt := 55) hx hb dX8_firstDeepHour_49 (by decide) (fun c5 => ?_) (fun c5 => ?_)
      · have H := if_t H c5
        refine lv_aload_n hx hb dX8_firstDeepHour_55 rfl (lv_at hl 0 rfl) ?_
        refine va_get (D := D) (ci := 8) (v := .ref (mAd 25)) (C := RX8) (T := TX8) (N := 11) hx hb hts hiX8 hown hK G.1 0 rfl rfl 6 (by decide) lk1 (fun _ h9 => h9) rfl dX8_firstDeepHour_56 ?_
        refine lv_aload_n hx hb dX8_firstDeepHour_59 rfl (lv_at hl 0 rfl) ?_
        refine va_get (D := D) (ci := 8) (v := .ref (mAd 12)) (C := RX8) (T := TX8) (N := 11) hx hb hts hiX8 hown hK G.1 0 rfl rfl 3 (by decide) lk3 (fun _ h9 => h9) rfl dX8_firstDeepHour_60 ?_
        refine va_get (D := D) (ci := 1) (v := .ref (mAd 13)) (C := RX1) (T := TX1) (N := 3) hx hb hts hiX1 hown hK G.1 12 rfl rfl 0 (by decide) lk4 (fun _ h9 => h9) rfl dX8_firstDeepHour_63 ?_
        obtain ⟨z6, hz6, H⟩ := bd_some H
        refine MI.callV z6.1 [.ref (mAd 13)] [] [25, 26, 27, 28, 13, 14, 15, 16, 17] C G (c_X3_passHour l D cy (fun k => mAd (k + 25)) (fun k => mAd (k + 13)) fhour fdep farr fdeb wat lev kin cdp sil z6 hz6) gX8_firstDeepHour_X3_passHour rfl rfl rfl (n := 1) (by decide +kernel) ⟨Nat.le_of_ble_eq_true rfl, Nat.le_of_ble_eq_true rfl⟩ (q0 := 25) (ci := 3) rfl rfl rfl rfl rfl rfl rfl hl.1 rfl (Nat.le_of_ble_eq_true rfl) dX8_firstDeepHour_66 ⟨Nat.zero_le _, Nat.zero_le _⟩ (fun U locs G => ?_)
        have G : Gd D A s (w_Top cy mAd GI GM GR lfa lfi lan siz len tok stt fin num flw byt dwat dlev dkin dcdp dsil sta wat lev kin cdp sil hour dep arr deb nxt kep z6.2.1 z6.2.2.1 z6.2.2.2.1 z6.2.2.2.2 gft bal giv tak inc trc nrs) U locs := G
        refine lv_pop hx hb dX8_firstDeepHour_69 rfl ?_
        refine lv_iinc (v := x5 + 1) (lv' := [(5, .int (x5 + 1)), (0, .ref (mAd 0)), (1, .int x1), (2, .int x2), (4, .int x4)]) hx hb dX8_firstDeepHour_70 hl (k := 4) rfl rfl (by decide) rfl (fun ls hl => ?_)
        refine lv_goto (tgt := 32) hx hb dX8_firstDeepHour_73 (by decide) ?_
        exact ih z6.2.1 z6.2.2.1 z6.2.2.2.1 z6.2.2.2.2 (x5 + 1) z H _ _ _ G (lv_sub hl [1, 2, 3, 4, 0] rfl)
      · have H := if_f H c5
        refine lv_iload hx hb dX8_firstDeepHour_52 (lv_at hl 4 rfl) ?_
        obtain rfl := Option.some.inj H
        exact ret_i C G rfl dX8_firstDeepHour_54
def f_X8_firstDeepHour (wat : Int32) (lev kin sil : Nat → Int32) (hour : Int32) (dep arr deb : Nat → Int32) (fhour : Int32) (fdep farr fdeb : Nat → Int32) (p1 p2 p3 p4 : Int32) : Option (Int32 × Int32 × (Nat → Int32) × (Nat → Int32) × (Nat → Int32)) := bd (f_X3_takeFrom fhour fdep farr fdeb hour dep arr deb) (fun z1 => bd (f_X3_passHours z1.1 z1.2.1 z1.2.2.1 z1.2.2.2 wat lev kin sil p3) (fun z2 => f_X8_firstDeepHour_L32 wat lev kin sil p1 p2 p4 2000 z2.1 z2.2.1 z2.2.2.1 z2.2.2.2 p3))
set_option maxHeartbeats 4000000 in
set_option maxRecDepth 100000 in
theorem c_X8_firstDeepHour (l : Launch) (D : va_G) (cy : Nat → ClassId) (mAd : Nat → Nat) (GI GM GR : Nat → Option Nat) (lfa lfi : Int32) (lan siz : Nat → Int32) (len tok stt fin num flw : Int32) (byt : Nat → Int32) (dwat : Int32) (dlev dkin dcdp dsil : Nat → Int32) (sta wat : Int32) (lev kin cdp sil : Nat → Int32) (hour : Int32) (dep arr deb : Nat → Int32) (nxt kep fhour : Int32) (fdep farr fdeb : Nat → Int32) (gft : Int32) (bal giv tak inc : Nat → Int32) (trc : Int32) (nrs : Nat → Int32) (p1 p2 p3 p4 : Int32) (z : (Int32 × Int32 × (Nat → Int32) × (Nat → Int32) × (Nat → Int32))) (hz : f_X8_firstDeepHour wat lev kin sil hour dep arr deb fhour fdep farr fdeb p1 p2 p3 p4 = some z) : MI l yX8_firstDeepHour wsX8_firstDeepHour ({ frames := 6, cells := 0, slots := 0, locals := 132 } : Room) D cy [.ref (mAd 0), .int p1, .int p2, .int p3, .int p4] (w_Top cy mAd GI GM GR lfa lfi lan siz len tok stt fin num flw byt dwat dlev dkin dcdp dsil sta wat lev kin cdp sil hour dep arr deb nxt kep fhour fdep farr fdeb gft bal giv tak inc trc nrs) z.1 (w_Top cy mAd GI GM GR lfa lfi lan siz len tok stt fin num flw byt dwat dlev dkin dcdp dsil sta wat lev kin cdp sil hour dep arr deb nxt kep z.2.1 z.2.2.1 z.2.2.2.1 z.2.2.2.2 gft bal giv tak inc trc nrs) := by
  refine met_start (Qf := fun A => MQi D cy z.1 (w_Top cy mAd GI GM GR lfa lfi lan siz len tok stt fin num flw byt dwat dlev dkin dcdp dsil sta wat lev kin cdp sil hour dep arr deb nxt kep z.2.1 z.2.2.1 z.2.2.2.1 z.2.2.2.2 gft bal giv tak inc trc nrs) A) (cc := cX8_firstDeepHour) (nL := 6) (ret := (some .int)) RX8 rfl (by decide) rfl (Nat.le_of_ble_eq_true rfl) ?_
  intro p e s m below meth c A ls C G hl
  have hl : lv_has ls 6 [(0, .ref (mAd 0)), (1, .int p1), (2, .int p2), (3, .int p3), (4, .int p4)] := hl
  have H := hz
  unfold f_X8_firstDeepHour at H
  obtain ⟨hx, hb, hr, hml, hown, hts, hlk, hK, hA, hE⟩ := id C
  have lk0 := hts (Cond.fieldLink RX8 51 "TideDebts" "foretold" "LTideDebts$Ledger;") (List.mem_of_getElem? (i := 1) rfl)
  have lk1 := hts (Cond.fieldLink RX8 33 "TideDebts" "now" "LTideDebts$Bay;") (List.mem_of_getElem? (i := 2) rfl)
  have lk2 := hts (Cond.fieldLink RX8 151 "TideDebts$Bay" "ledger" "LTideDebts$Ledger;") (List.mem_of_getElem? (i := 3) rfl)
  have lk3 := hts (Cond.fieldLink RX8 140 "TideDebts$Bay" "chart" "LTideDebts$Chart;") (List.mem_of_getElem? (i := 4) rfl)
  have hiX1 : ∀ w ∈ u_ws RX1 TX1 3, w ∈ wsX8_firstDeepHour := fun _ h => List.mem_cons_of_mem _ (List.mem_append_left _ (List.mem_append_left _ (List.mem_append_right _ h)))
  have hiX8 : ∀ w ∈ u_ws RX8 TX8 11, w ∈ wsX8_firstDeepHour := fun _ h => List.mem_cons_of_mem _ (List.mem_append_left _ (List.mem_append_left _ (List.mem_append_left _ (List.mem_append_right _ h))))
  refine lv_aload_n hx hb dX8_firstDeepHour_0 rfl (lv_at hl 0 rfl) ?_
  refine va_get (D := D) (ci := 8) (v := .ref (mAd 25)) (C := RX8) (T := TX8) (N := 11) hx hb hts hiX8 hown hK G.1 0 rfl rfl 6 (by decide) lk0 (fun _ h9 => h9) rfl dX8_firstDeepHour_1 ?_
  refine lv_aload_n hx hb dX8_firstDeepHour_4 rfl (lv_at hl 0 rfl) ?_
  refine va_get (D := D) (ci := 8) (v := .ref (mAd 12)) (C := RX8) (T := TX8) (N := 11) hx hb hts hiX8 hown hK G.1 0 rfl rfl 3 (by decide) lk1 (fun _ h9 => h9) rfl dX8_firstDeepHour_5 ?_
  refine va_get (D := D) (ci := 1) (v := .ref (mAd 18)) (C := RX1) (T := TX1) (N := 3) hx hb hts hiX1 hown hK G.1 12 rfl rfl 1 (by decide) lk2 (fun _ h9 => h9) rfl dX8_firstDeepHour_8 ?_
  obtain ⟨z1, hz1, H⟩ := bd_some H
  refine MV.callV [.ref (mAd 18)] [] [25, 26, 27, 28, 18, 19, 20, 21] C G (c_X3_takeFrom l D cy (fun k => mAd (k + 25)) (fun k => mAd (k + 18)) fhour fdep farr fdeb hour dep arr deb z1 hz1) gX8_firstDeepHour_X3_takeFrom rfl rfl rfl (n := 1) (by decide +kernel) ⟨Nat.le_of_ble_eq_true rfl, Nat.le_of_ble_eq_true rfl⟩ (q0 := 25) (ci := 3) rfl rfl rfl rfl rfl rfl rfl hl.1 rfl (Nat.le_of_ble_eq_true rfl) dX8_firstDeepHour_11 ⟨Nat.zero_le _, Nat.zero_le _⟩ (fun U locs G => ?_)
  have G : Gd D A s (w_Top cy mAd GI GM GR lfa lfi lan siz len tok stt fin num flw byt dwat dlev dkin dcdp dsil sta wat lev kin cdp sil hour dep arr deb nxt kep z1.1 z1.2.1 z1.2.2.1 z1.2.2.2 gft bal giv tak inc trc nrs) U locs := G
  refine lv_aload_n hx hb dX8_firstDeepHour_14 rfl (lv_at hl 0 rfl) ?_
  refine va_get (D := D) (ci := 8) (v := .ref (mAd 25)) (C := RX8) (T := TX8) (N := 11) hx hb hts hiX8 hown hK G.1 0 rfl rfl 6 (by decide) lk0 (fun _ h9 => h9) rfl dX8_firstDeepHour_15 ?_
  refine lv_aload_n hx hb dX8_firstDeepHour_18 rfl (lv_at hl 0 rfl) ?_
  refine va_get (D := D) (ci := 8) (v := .ref (mAd 12)) (C := RX8) (T := TX8) (N := 11) hx hb hts hiX8 hown hK G.1 0 rfl rfl 3 (by decide) lk1 (fun _ h9 => h9) rfl dX8_firstDeepHour_19 ?_
  refine va_get (D := D) (ci := 1) (v := .ref (mAd 13)) (C := RX1) (T := TX1) (N := 3) hx hb hts hiX1 hown hK G.1 12 rfl rfl 0 (by decide) lk3 (fun _ h9 => h9) rfl dX8_firstDeepHour_22 ?_
  refine lv_iload_n hx hb dX8_firstDeepHour_25 rfl (lv_at hl 3 rfl) ?_
  obtain ⟨z2, hz2, H⟩ := bd_some H
  refine MV.callV [.ref (mAd 13), .int p3] [] [25, 26, 27, 28, 13, 14, 15, 16, 17] C G (c_X3_passHours l D cy (fun k => mAd (k + 25)) (fun k => mAd (k + 13)) z1.1 z1.2.1 z1.2.2.1 z1.2.2.2 wat lev kin cdp sil p3 z2 hz2) gX8_firstDeepHour_X3_passHours rfl rfl rfl (n := 2) (by decide +kernel) ⟨Nat.le_of_ble_eq_true rfl, Nat.le_of_ble_eq_true rfl⟩ (q0 := 25) (ci := 3) rfl rfl rfl rfl rfl rfl rfl hl.1 rfl (Nat.le_of_ble_eq_true rfl) dX8_firstDeepHour_26 ⟨Nat.zero_le _, Nat.zero_le _⟩ (fun U locs G => ?_)
  have G : Gd D A s (w_Top cy mAd GI GM GR lfa lfi lan siz len tok stt fin num flw byt dwat dlev dkin dcdp dsil sta wat lev kin cdp sil hour dep arr deb nxt kep z2.1 z2.2.1 z2.2.2.1 z2.2.2.2 gft bal giv tak inc trc nrs) U locs := G
  refine lv_iload_n hx hb dX8_firstDeepHour_29 rfl (lv_at hl 3 rfl) ?_
  refine lv_istore (lv' := [(5, .int p3), (0, .ref (mAd 0)), (1, .int p1), (2, .int p2), (3, .int p3), (4, .int p4)]) hx hb dX8_firstDeepHour_30 hl (by decide) rfl (fun ls hl => ?_)
  exact wl_X8_firstDeepHour_32 C mAd GI GM GR lfa lfi lan siz len tok stt fin num flw byt dwat dlev dkin dcdp dsil sta wat lev kin cdp sil hour dep arr deb nxt kep gft bal giv tak inc trc nrs p1 p2 p4 _ z2.1 z2.2.1 z2.2.2.1 z2.2.2.2 p3 z H _ _ _ G (lv_sub hl [1, 2, 3, 5, 0] rfl)
def f_X8_sail (wat : Int32) (lev kin sil : Nat → Int32) (hour : Int32) (dep arr deb : Nat → Int32) (fhour : Int32) (fdep farr fdeb : Nat → Int32) (p1 p2 p3 p4 : Int32) : Option (Int32 × Int32 × (Nat → Int32) × (Nat → Int32) × (Nat → Int32)) := bd (f_X8_isWater wat p1) (fun z1 => if z1 = 0 then (some ((-1000001), fhour, fdep, farr, fdeb)) else (if p2 < 0 then (some ((-1000001), fhour, fdep, farr, fdeb)) else (if 999 < p2 then (some ((-1000001), fhour, fdep, farr, fdeb)) else (if p3 < 1 then (some ((-1000001), fhour, fdep, farr, fdeb)) else (if 24 < p3 then (some ((-1000001), fhour, fdep, farr, fdeb)) else (if p4 < 0 then (some ((-1000001), fhour, fdep, farr, fdeb)) else (if p4 ≤ 1 then (bd (f_X8_firstDeepHour wat lev kin sil hour dep arr deb fhour fdep farr fdeb p1 p2 0 24) (fun z9 => if p4 = 0 then (some (z9.1, z9.2.1, z9.2.2.1, z9.2.2.2.1, z9.2.2.2.2)) else (if z9.1 = (-1000000) then (some (z9.1, z9.2.1, z9.2.2.1, z9.2.2.2.1, z9.2.2.2.2)) else (bd (f_X8_firstDeepHour wat lev kin sil hour dep arr deb z9.2.1 z9.2.2.1 z9.2.2.2.1 z9.2.2.2.2 p1 p2 (z9.1 + p3) 48) (fun z12 => some (z12.1, z12.2.1, z12.2.2.1, z12.2.2.2.1, z12.2.2.2.2)))))) else (some ((-1000001), fhour, fdep, farr, fdeb)))))))))
set_option maxHeartbeats 4000000 in
set_option maxRecDepth 100000 in
theorem c_X8_sail (l : Launch) (D : va_G) (cy : Nat → ClassId) (mAd : Nat → Nat) (GI GM GR : Nat → Option Nat) (lfa lfi : Int32) (lan siz : Nat → Int32) (len tok stt fin num flw : Int32) (byt : Nat → Int32) (dwat : Int32) (dlev dkin dcdp dsil : Nat → Int32) (sta wat : Int32) (lev kin cdp sil : Nat → Int32) (hour : Int32) (dep arr deb : Nat → Int32) (nxt kep fhour : Int32) (fdep farr fdeb : Nat → Int32) (gft : Int32) (bal giv tak inc : Nat → Int32) (trc : Int32) (nrs : Nat → Int32) (p1 p2 p3 p4 : Int32) (z : (Int32 × Int32 × (Nat → Int32) × (Nat → Int32) × (Nat → Int32))) (hz : f_X8_sail wat lev kin sil hour dep arr deb fhour fdep farr fdeb p1 p2 p3 p4 = some z) : MI l yX8_sail wsX8_sail ({ frames := 7, cells := 0, slots := 0, locals := 157 } : Room) D cy [.ref (mAd 0), .int p1, .int p2, .int p3, .int p4] (w_Top cy mAd GI GM GR lfa lfi lan siz len tok stt fin num flw byt dwat dlev dkin dcdp dsil sta wat lev kin cdp sil hour dep arr deb nxt kep fhour fdep farr fdeb gft bal giv tak inc trc nrs) z.1 (w_Top cy mAd GI GM GR lfa lfi lan siz len tok stt fin num flw byt dwat dlev dkin dcdp dsil sta wat lev kin cdp sil hour dep arr deb nxt kep z.2.1 z.2.2.1 z.2.2.2.1 z.2.2.2.2 gft bal giv tak inc trc nrs) := by
  refine met_start (Qf := fun A => MQi D cy z.1 (w_Top cy mAd GI GM GR lfa lfi lan siz len tok stt fin num flw byt dwat dlev dkin dcdp dsil sta wat lev kin cdp sil hour dep arr deb nxt kep z.2.1 z.2.2.1 z.2.2.2.1 z.2.2.2.2 gft bal giv tak inc trc nrs) A) (cc := cX8_sail) (nL := 6) (ret := (some .int)) RX8 rfl (by decide) rfl (Nat.le_of_ble_eq_true rfl) ?_
  intro p e s m below meth c A ls C G hl
  have hl : lv_has ls 6 [(0, .ref (mAd 0)), (1, .int p1), (2, .int p2), (3, .int p3), (4, .int p4)] := hl
  have H := hz
  unfold f_X8_sail at H
  obtain ⟨hx, hb, hr, hml, hown, hts, hlk, hK, hA, hE⟩ := id C
  have lk0 := hts (Cond.constant RX8 73 (-1000001)) (List.mem_of_getElem? (i := 1) rfl)
  have lk1 := hts (Cond.constant RX8 229 (-1000000)) (List.mem_of_getElem? (i := 2) rfl)
  refine lv_aload_n hx hb dX8_sail_0 rfl (lv_at hl 0 rfl) ?_
  refine lv_iload_n hx hb dX8_sail_1 rfl (lv_at hl 1 rfl) ?_
  obtain ⟨z1, hz1, H⟩ := bd_some H
  refine MI.callVw z1 [.int p1] [] C G (c_X8_isWater l D cy mAd GI GM GR lfa lfi lan siz len tok stt fin num flw byt dwat dlev dkin dcdp dsil sta wat lev kin cdp sil hour dep arr deb nxt kep fhour fdep farr fdeb gft bal giv tak inc trc nrs p1 z1 hz1) gX8_sail_X8_isWater rfl rfl rfl (n := 1) (by decide +kernel) ⟨Nat.le_of_ble_eq_true rfl, Nat.le_of_ble_eq_true rfl⟩ (q0 := 0) (ci := 8) rfl rfl rfl rfl hl.1 rfl (Nat.le_of_ble_eq_true rfl) dX8_sail_2 ⟨Nat.zero_le _, Nat.zero_le _⟩ (fun U locs G => ?_)
  have G : Gd D A s (w_Top cy mAd GI GM GR lfa lfi lan siz len tok stt fin num flw byt dwat dlev dkin dcdp dsil sta wat lev kin cdp sil hour dep arr deb nxt kep fhour fdep farr fdeb gft bal giv tak inc trc nrs) U locs := G
  refine lv_if_eq (tgt := 41) hx hb dX8_sail_5 (by decide) (fun c2 => ?_) (fun c2 => ?_)
  · have H := if_t H c2
    refine lv_ldc hx hb hown lk0 dX8_sail_41 ?_
    obtain rfl := Option.some.inj H
    exact ret_i C G rfl dX8_sail_43
  · have H := if_f H c2
    refine lv_iload_n hx hb dX8_sail_8 rfl (lv_at hl 2 rfl) ?_
    refine lv_if_lt (tgt := 41) hx hb dX8_sail_9 (by decide) (fun c3 => ?_) (fun c3 => ?_)
    · have H := if_t H c3
      refine lv_ldc hx hb hown lk0 dX8_sail_41 ?_
      obtain rfl := Option.some.inj H
      exact ret_i C G rfl dX8_sail_43
    · have H := if_f H c3
      refine lv_iload_n hx hb dX8_sail_12 rfl (lv_at hl 2 rfl) ?_
      refine lv_sipush (v := 999) hx hb dX8_sail_13 (by decide) ?_
      refine lv_icmp_gt (tgt := 41) hx hb dX8_sail_16 (by decide) (fun c4 => ?_) (fun c4 => ?_)
      · have H := if_t H c4
        refine lv_ldc hx hb hown lk0 dX8_sail_41 ?_
        obtain rfl := Option.some.inj H
        exact ret_i C G rfl dX8_sail_43
      · have H := if_f H c4
        refine lv_iload_n hx hb dX8_sail_19 rfl (lv_at hl 3 rfl) ?_
        refine lv_iconst (v := 1) hx hb dX8_sail_20 (by decide) ?_
        refine lv_icmp_lt (tgt := 41) hx hb dX8_sail_21 (by decide) (fun c5 => ?_) (fun c5 => ?_)
        · have H := if_t H c5
          refine lv_ldc hx hb hown lk0 dX8_sail_41 ?_
          obtain rfl := Option.some.inj H
          exact ret_i C G rfl dX8_sail_43
        · have H := if_f H c5
          refine lv_iload_n hx hb dX8_sail_24 rfl (lv_at hl 3 rfl) ?_
          refine lv_bipush (v := 24) hx hb dX8_sail_25 (by decide) ?_
          refine lv_icmp_gt (tgt := 41) hx hb dX8_sail_27 (by decide) (fun c6 => ?_) (fun c6 => ?_)
          · have H := if_t H c6
            refine lv_ldc hx hb hown lk0 dX8_sail_41 ?_
            obtain rfl := Option.some.inj H
            exact ret_i C G rfl dX8_sail_43
          · have H := if_f H c6
            refine lv_iload hx hb dX8_sail_30 (lv_at hl 4 rfl) ?_
            refine lv_if_lt (tgt := 41) hx hb dX8_sail_32 (by decide) (fun c7 => ?_) (fun c7 => ?_)
            · have H := if_t H c7
              refine lv_ldc hx hb hown lk0 dX8_sail_41 ?_
              obtain rfl := Option.some.inj H
              exact ret_i C G rfl dX8_sail_43
            · have H := if_f H c7
              refine lv_iload hx hb dX8_sail_35 (lv_at hl 4 rfl) ?_
              refine lv_iconst (v := 1) hx hb dX8_sail_37 (by decide) ?_
              refine lv_icmp_le (tgt := 44) hx hb dX8_sail_38 (by decide) (fun c8 => ?_) (fun c8 => ?_)
              · have H := if_t H c8
                refine lv_aload_n hx hb dX8_sail_44 rfl (lv_at hl 0 rfl) ?_
                refine lv_iload_n hx hb dX8_sail_45 rfl (lv_at hl 1 rfl) ?_
                refine lv_iload_n hx hb dX8_sail_46 rfl (lv_at hl 2 rfl) ?_
                refine lv_iconst (v := 0) hx hb dX8_sail_47 (by decide) ?_
                refine lv_bipush (v := 24) hx hb dX8_sail_48 (by decide) ?_
                obtain ⟨z9, hz9, H⟩ := bd_some H
                refine MI.callVw z9.1 [.int p1, .int p2, .int 0, .int 24] [] C G (c_X8_firstDeepHour l D cy mAd GI GM GR lfa lfi lan siz len tok stt fin num flw byt dwat dlev dkin dcdp dsil sta wat lev kin cdp sil hour dep arr deb nxt kep fhour fdep farr fdeb gft bal giv tak inc trc nrs p1 p2 0 24 z9 hz9) gX8_sail_X8_firstDeepHour rfl rfl rfl (n := 4) (by decide +kernel) ⟨Nat.le_of_ble_eq_true rfl, Nat.le_of_ble_eq_true rfl⟩ (q0 := 0) (ci := 8) rfl rfl rfl rfl hl.1 rfl (Nat.le_of_ble_eq_true rfl) dX8_sail_50 ⟨Nat.zero_le _, Nat.zero_le _⟩ (fun U locs G => ?_)
                have G : Gd D A s (w_Top cy mAd GI GM GR lfa lfi lan siz len tok stt fin num flw byt dwat dlev dkin dcdp dsil sta wat lev kin cdp sil hour dep arr deb nxt kep z9.2.1 z9.2.2.1 z9.2.2.2.1 z9.2.2.2.2 gft bal giv tak inc trc nrs) U locs := G
                refine lv_istore (lv' := [(5, .int z9.1), (0, .ref (mAd 0)), (1, .int p1), (2, .int p2), (3, .int p3), (4, .int p4)]) hx hb dX8_sail_53 hl (by decide) rfl (fun ls hl => ?_)
                refine lv_iload hx hb dX8_sail_55 (lv_at hl 5 rfl) ?_
                refine lv_if_eq (tgt := 67) hx hb dX8_sail_57 (by decide) (fun c10 => ?_) (fun c10 => ?_)
                · have H := if_t H c10
                  refine lv_iload hx hb dX8_sail_67 (lv_at hl 0 rfl) ?_
                  obtain rfl := Option.some.inj H
                  exact ret_i C G rfl dX8_sail_69
                · have H := if_f H c10
                  refine lv_iload hx hb dX8_sail_60 (lv_at hl 0 rfl) ?_
                  refine lv_ldc hx hb hown lk1 dX8_sail_62 ?_
                  refine lv_icmp_ne (tgt := 70) hx hb dX8_sail_64 (by decide) (fun c11 => ?_) (fun c11 => ?_)
                  · have H := if_f H c11
                    refine lv_aload_n hx hb dX8_sail_70 rfl (lv_at hl 1 rfl) ?_
                    refine lv_iload_n hx hb dX8_sail_71 rfl (lv_at hl 2 rfl) ?_
                    refine lv_iload_n hx hb dX8_sail_72 rfl (lv_at hl 3 rfl) ?_
                    refine lv_iload hx hb dX8_sail_73 (lv_at hl 0 rfl) ?_
                    refine lv_iload_n hx hb dX8_sail_75 rfl (lv_at hl 4 rfl) ?_
                    refine lv_iadd hx hb dX8_sail_76 ?_
                    refine lv_bipush (v := 48) hx hb dX8_sail_77 (by decide) ?_
                    obtain ⟨z12, hz12, H⟩ := bd_some H
                    refine MI.callVw z12.1 [.int p1, .int p2, .int (z9.1 + p3), .int 48] [] C G (c_X8_firstDeepHour l D cy mAd GI GM GR lfa lfi lan siz len tok stt fin num flw byt dwat dlev dkin dcdp dsil sta wat lev kin cdp sil hour dep arr deb nxt kep z9.2.1 z9.2.2.1 z9.2.2.2.1 z9.2.2.2.2 gft bal giv tak inc trc nrs p1 p2 (z9.1 + p3) 48 z12 hz12) gX8_sail_X8_firstDeepHour rfl rfl rfl (n := 4) (by decide +kernel) ⟨Nat.le_of_ble_eq_true rfl, Nat.le_of_ble_eq_true rfl⟩ (q0 := 0) (ci := 8) rfl rfl rfl rfl hl.1 rfl (Nat.le_of_ble_eq_true rfl) dX8_sail_79 ⟨Nat.zero_le _, Nat.zero_le _⟩ (fun U locs G => ?_)
                    have G : Gd D A s (w_Top cy mAd GI GM GR lfa lfi lan siz len tok stt fin num flw byt dwat dlev dkin dcdp dsil sta wat lev kin cdp sil hour dep arr deb nxt kep z12.2.1 z12.2.2.1 z12.2.2.2.1 z12.2.2.2.2 gft bal giv tak inc trc nrs) U locs := G
                    obtain rfl := Option.some.inj H
                    exact ret_i C G rfl dX8_sail_82
                  · have H := if_t H c11
                    refine lv_iload hx hb dX8_sail_67 (lv_at hl 0 rfl) ?_
                    obtain rfl := Option.some.inj H
                    exact ret_i C G rfl dX8_sail_69
              · have H := if_f H c8
                refine lv_ldc hx hb hown lk0 dX8_sail_41 ?_
                obtain rfl := Option.some.inj H
                exact ret_i C G rfl dX8_sail_43
def f_X8_net (sta wat : Int32) (dep deb : Nat → Int32) (gft : Int32) (bal giv tak inc : Nat → Int32) (p1 p2 : Int32) : Option (Int32 × Int32 × (Nat → Int32) × (Nat → Int32) × (Nat → Int32) × (Nat → Int32)) := if sta = 0 then (some ((-1000002), gft, bal, giv, tak, inc)) else (if p1 < (-2) then (some ((-1000001), gft, bal, giv, tak, inc)) else (if p2 < 0 then (some ((-1000001), gft, bal, giv, tak, inc)) else (if p2 ≤ 2 then (if p1 = (-2) then (bd (f_X4_canBe dep deb wat) (fun z9 => if z9 = 0 then (some (0, gft, bal, giv, tak, inc)) else (some (1, gft, bal, giv, tak, inc)))) else (bd (f_X4_workOut gft bal giv tak inc deb wat) (fun z6 => if p1 = (-1) then (some (z6.1, z6.1, z6.2.1, z6.2.2.1, z6.2.2.2.1, z6.2.2.2.2)) else (bd (f_X4_tell z6.1 z6.2.2.1 z6.2.2.2.1 z6.2.2.2.2 p1 p2) (fun z8 => some (z8, z6.1, z6.2.1, z6.2.2.1, z6.2.2.2.1, z6.2.2.2.2)))))) else (some ((-1000001), gft, bal, giv, tak, inc)))))
set_option maxHeartbeats 4000000 in
set_option maxRecDepth 100000 in
theorem c_X8_net (l : Launch) (D : va_G) (cy : Nat → ClassId) (mAd : Nat → Nat) (GI GM GR : Nat → Option Nat) (lfa lfi : Int32) (lan siz : Nat → Int32) (len tok stt fin num flw : Int32) (byt : Nat → Int32) (dwat : Int32) (dlev dkin dcdp dsil : Nat → Int32) (sta wat : Int32) (lev kin cdp sil : Nat → Int32) (hour : Int32) (dep arr deb : Nat → Int32) (nxt kep fhour : Int32) (fdep farr fdeb : Nat → Int32) (gft : Int32) (bal giv tak inc : Nat → Int32) (trc : Int32) (nrs : Nat → Int32) (p1 p2 : Int32) (z : (Int32 × Int32 × (Nat → Int32) × (Nat → Int32) × (Nat → Int32) × (Nat → Int32))) (hz : f_X8_net sta wat dep deb gft bal giv tak inc p1 p2 = some z) : MI l yX8_net wsX8_net ({ frames := 4, cells := 0, slots := 0, locals := 91 } : Room) D cy [.ref (mAd 0), .int p1, .int p2] (w_Top cy mAd GI GM GR lfa lfi lan siz len tok stt fin num flw byt dwat dlev dkin dcdp dsil sta wat lev kin cdp sil hour dep arr deb nxt kep fhour fdep farr fdeb gft bal giv tak inc trc nrs) z.1 (w_Top cy mAd GI GM GR lfa lfi lan siz len tok stt fin num flw byt dwat dlev dkin dcdp dsil sta wat lev kin cdp sil hour dep arr deb nxt kep fhour fdep farr fdeb z.2.1 z.2.2.1 z.2.2.2.1 z.2.2.2.2.1 z.2.2.2.2.2 trc nrs) := by
  refine met_start (Qf := fun A => MQi D cy z.1 (w_Top cy mAd GI GM GR lfa lfi lan siz len tok stt fin num flw byt dwat dlev dkin dcdp dsil sta wat lev kin cdp sil hour dep arr deb nxt kep fhour fdep farr fdeb z.2.1 z.2.2.1 z.2.2.2.1 z.2.2.2.2.1 z.2.2.2.2.2 trc nrs) A) (cc := cX8_net) (nL := 3) (ret := (some .int)) RX8 rfl (by decide) rfl (Nat.le_of_ble_eq_true rfl) ?_
  intro p e s m below meth c A ls C G hl
  have hl : lv_has ls 3 [(0, .ref (mAd 0)), (1, .int p1), (2, .int p2)] := hl
  have H := hz
  unfold f_X8_net at H
  obtain ⟨hx, hb, hr, hml, hown, hts, hlk, hK, hA, hE⟩ := id C
  have lk0 := hts (Cond.fieldLink RX8 33 "TideDebts" "now" "LTideDebts$Bay;") (List.mem_of_getElem? (i := 1) rfl)
  have lk1 := hts (Cond.fieldLink RX8 146 "TideDebts$Bay" "stands" "Z") (List.mem_of_getElem? (i := 2) rfl)
  have lk2 := hts (Cond.constant RX8 73 (-1000001)) (List.mem_of_getElem? (i := 4) rfl)
  have lk3 := hts (Cond.fieldLink RX8 58 "TideDebts" "netting" "LTideDebts$Netting;") (List.mem_of_getElem? (i := 5) rfl)
  have lk4 := hts (Cond.fieldLink RX8 151 "TideDebts$Bay" "ledger" "LTideDebts$Ledger;") (List.mem_of_getElem? (i := 6) rfl)
  have lk5 := hts (Cond.fieldLink RX8 140 "TideDebts$Bay" "chart" "LTideDebts$Chart;") (List.mem_of_getElem? (i := 7) rfl)
  have lk6 := hts (Cond.fieldLink RX8 143 "TideDebts$Chart" "waters" "I") (List.mem_of_getElem? (i := 8) rfl)
  have lk7 := hts (Cond.fieldLink RX8 230 "TideDebts$Netting" "gifts" "I") (List.mem_of_getElem? (i := 9) rfl)
  have lk8 := hts (Cond.constant RX8 150 (-1000002)) (List.mem_of_getElem? (i := 3) rfl)
  have hiX1 : ∀ w ∈ u_ws RX1 TX1 3, w ∈ wsX8_net := fun _ h => List.mem_cons_of_mem _ (List.mem_append_left _ (List.mem_append_left _ (List.mem_append_left _ (List.mem_append_right _ h))))
  have hiX2 : ∀ w ∈ u_ws RX2 TX2 5, w ∈ wsX8_net := fun _ h => List.mem_cons_of_mem _ (List.mem_append_left _ (List.mem_append_left _ (List.mem_append_right _ h)))
  have hiX4 : ∀ w ∈ u_ws RX4 TX4 5, w ∈ wsX8_net := fun _ h => List.mem_cons_of_mem _ (List.mem_append_left _ (List.mem_append_right _ h))
  have hiX8 : ∀ w ∈ u_ws RX8 TX8 11, w ∈ wsX8_net := fun _ h => List.mem_cons_of_mem _ (List.mem_append_left _ (List.mem_append_left _ (List.mem_append_left _ (List.mem_append_left _ (List.mem_append_right _ h)))))
  refine lv_aload_n hx hb dX8_net_0 rfl (lv_at hl 0 rfl) ?_
  refine va_get (D := D) (ci := 8) (v := .ref (mAd 12)) (C := RX8) (T := TX8) (N := 11) hx hb hts hiX8 hown hK G.1 0 rfl rfl 3 (by decide) lk0 (fun _ h9 => h9) rfl dX8_net_1 ?_
  refine va_get (D := D) (ci := 1) (v := .int sta) (C := RX1) (T := TX1) (N := 3) hx hb hts hiX1 hown hK G.1 12 rfl rfl 2 (by decide) lk1 (fun _ h9 => h9) rfl dX8_net_4 ?_
  refine lv_if_ne (tgt := 13) hx hb dX8_net_7 (by decide) (fun c1 => ?_) (fun c1 => ?_)
  · have H := if_f H c1
    refine lv_iload_n hx hb dX8_net_13 rfl (lv_at hl 1 rfl) ?_
    refine lv_bipush (v := (-2)) hx hb dX8_net_14 (by decide) ?_
    refine lv_icmp_lt (tgt := 28) hx hb dX8_net_16 (by decide) (fun c2 => ?_) (fun c2 => ?_)
    · have H := if_t H c2
      refine lv_ldc hx hb hown lk2 dX8_net_28 ?_
      obtain rfl := Option.some.inj H
      exact ret_i C G rfl dX8_net_30
    · have H := if_f H c2
      refine lv_iload_n hx hb dX8_net_19 rfl (lv_at hl 2 rfl) ?_
      refine lv_if_lt (tgt := 28) hx hb dX8_net_20 (by decide) (fun c3 => ?_) (fun c3 => ?_)
      · have H := if_t H c3
        refine lv_ldc hx hb hown lk2 dX8_net_28 ?_
        obtain rfl := Option.some.inj H
        exact ret_i C G rfl dX8_net_30
      · have H := if_f H c3
        refine lv_iload_n hx hb dX8_net_23 rfl (lv_at hl 2 rfl) ?_
        refine lv_iconst (v := 2) hx hb dX8_net_24 (by decide) ?_
        refine lv_icmp_le (tgt := 31) hx hb dX8_net_25 (by decide) (fun c4 => ?_) (fun c4 => ?_)
        · have H := if_t H c4
          refine lv_iload_n hx hb dX8_net_31 rfl (lv_at hl 1 rfl) ?_
          refine lv_bipush (v := (-2)) hx hb dX8_net_32 (by decide) ?_
          refine lv_icmp_ne (tgt := 70) hx hb dX8_net_34 (by decide) (fun c5 => ?_) (fun c5 => ?_)
          · have H := if_f H c5
            refine lv_aload_n hx hb dX8_net_70 rfl (lv_at hl 0 rfl) ?_
            refine va_get (D := D) (ci := 8) (v := .ref (mAd 29)) (C := RX8) (T := TX8) (N := 11) hx hb hts hiX8 hown hK G.1 0 rfl rfl 7 (by decide) lk3 (fun _ h9 => h9) rfl dX8_net_71 ?_
            refine lv_aload_n hx hb dX8_net_74 rfl (lv_at hl 0 rfl) ?_
            refine va_get (D := D) (ci := 8) (v := .ref (mAd 12)) (C := RX8) (T := TX8) (N := 11) hx hb hts hiX8 hown hK G.1 0 rfl rfl 3 (by decide) lk0 (fun _ h9 => h9) rfl dX8_net_75 ?_
            refine va_get (D := D) (ci := 1) (v := .ref (mAd 18)) (C := RX1) (T := TX1) (N := 3) hx hb hts hiX1 hown hK G.1 12 rfl rfl 1 (by decide) lk4 (fun _ h9 => h9) rfl dX8_net_78 ?_
            refine lv_aload_n hx hb dX8_net_81 rfl (lv_at hl 0 rfl) ?_
            refine va_get (D := D) (ci := 8) (v := .ref (mAd 12)) (C := RX8) (T := TX8) (N := 11) hx hb hts hiX8 hown hK G.1 0 rfl rfl 3 (by decide) lk0 (fun _ h9 => h9) rfl dX8_net_82 ?_
            refine va_get (D := D) (ci := 1) (v := .ref (mAd 13)) (C := RX1) (T := TX1) (N := 3) hx hb hts hiX1 hown hK G.1 12 rfl rfl 0 (by decide) lk5 (fun _ h9 => h9) rfl dX8_net_85 ?_
            refine va_get (D := D) (ci := 2) (v := .int wat) (C := RX2) (T := TX2) (N := 5) hx hb hts hiX2 hown hK G.1 13 rfl rfl 4 (by decide) lk6 (fun _ h9 => h9) rfl dX8_net_88 ?_
            obtain ⟨z6, hz6, H⟩ := bd_some H
            refine MV.callV [.ref (mAd 18), .int wat] [] [29, 30, 31, 32, 33, 18, 19, 20, 21] C G (c_X4_workOut l D cy (fun k => mAd (k + 29)) (fun k => mAd (k + 18)) gft bal giv tak inc hour dep arr deb wat z6 hz6) gX8_net_X4_workOut rfl rfl rfl (n := 2) (by decide +kernel) ⟨Nat.le_of_ble_eq_true rfl, Nat.le_of_ble_eq_true rfl⟩ (q0 := 29) (ci := 4) rfl rfl rfl rfl rfl rfl rfl hl.1 rfl (Nat.le_of_ble_eq_true rfl) dX8_net_91 ⟨Nat.zero_le _, Nat.zero_le _⟩ (fun U locs G => ?_)
            have G : Gd D A s (w_Top cy mAd GI GM GR lfa lfi lan siz len tok stt fin num flw byt dwat dlev dkin dcdp dsil sta wat lev kin cdp sil hour dep arr deb nxt kep fhour fdep farr fdeb z6.1 z6.2.1 z6.2.2.1 z6.2.2.2.1 z6.2.2.2.2 trc nrs) U locs := G
            refine lv_iload_n hx hb dX8_net_94 rfl (lv_at hl 1 rfl) ?_
            refine lv_iconst (v := (-1)) hx hb dX8_net_95 (by decide) ?_
            refine lv_icmp_ne (tgt := 109) hx hb dX8_net_96 (by decide) (fun c7 => ?_) (fun c7 => ?_)
            · have H := if_f H c7
              refine lv_aload_n hx hb dX8_net_109 rfl (lv_at hl 0 rfl) ?_
              refine va_get (D := D) (ci := 8) (v := .ref (mAd 29)) (C := RX8) (T := TX8) (N := 11) hx hb hts hiX8 hown hK G.1 0 rfl rfl 7 (by decide) lk3 (fun _ h9 => h9) rfl dX8_net_110 ?_
              refine lv_iload_n hx hb dX8_net_113 rfl (lv_at hl 1 rfl) ?_
              refine lv_iload_n hx hb dX8_net_114 rfl (lv_at hl 2 rfl) ?_
              obtain ⟨z8, hz8, H⟩ := bd_some H
              refine MI.callV z8 [.int p1, .int p2] [] [29, 30, 31, 32, 33] C G (c_X4_tell l D cy (fun k => mAd (k + 29)) z6.1 z6.2.1 z6.2.2.1 z6.2.2.2.1 z6.2.2.2.2 p1 p2 z8 hz8) gX8_net_X4_tell rfl rfl rfl (n := 2) (by decide +kernel) ⟨Nat.le_of_ble_eq_true rfl, Nat.le_of_ble_eq_true rfl⟩ (q0 := 29) (ci := 4) rfl rfl rfl rfl rfl rfl rfl hl.1 rfl (Nat.le_of_ble_eq_true rfl) dX8_net_115 ⟨Nat.zero_le _, Nat.zero_le _⟩ (fun U locs G => ?_)
              have G : Gd D A s (w_Top cy mAd GI GM GR lfa lfi lan siz len tok stt fin num flw byt dwat dlev dkin dcdp dsil sta wat lev kin cdp sil hour dep arr deb nxt kep fhour fdep farr fdeb z6.1 z6.2.1 z6.2.2.1 z6.2.2.2.1 z6.2.2.2.2 trc nrs) U locs := G
              obtain rfl := Option.some.inj H
              exact ret_i C G rfl dX8_net_118
            · have H := if_t H c7
              refine lv_aload_n hx hb dX8_net_99 rfl (lv_at hl 0 rfl) ?_
              refine va_get (D := D) (ci := 8) (v := .ref (mAd 29)) (C := RX8) (T := TX8) (N := 11) hx hb hts hiX8 hown hK G.1 0 rfl rfl 7 (by decide) lk3 (fun _ h9 => h9) rfl dX8_net_100 ?_
              refine va_get (D := D) (ci := 4) (v := .int z6.1) (C := RX4) (T := TX4) (N := 5) hx hb hts hiX4 hown hK G.1 29 rfl rfl 4 (by decide) lk7 (fun _ h9 => h9) rfl dX8_net_103 ?_
              refine lv_goto (tgt := 118) hx hb dX8_net_106 (by decide) ?_
              obtain rfl := Option.some.inj H
              exact ret_i C G rfl dX8_net_118
          · have H := if_t H c5
            refine lv_aload_n hx hb dX8_net_37 rfl (lv_at hl 0 rfl) ?_
            refine va_get (D := D) (ci := 8) (v := .ref (mAd 29)) (C := RX8) (T := TX8) (N := 11) hx hb hts hiX8 hown hK G.1 0 rfl rfl 7 (by decide) lk3 (fun _ h9 => h9) rfl dX8_net_38 ?_
            refine lv_aload_n hx hb dX8_net_41 rfl (lv_at hl 0 rfl) ?_
            refine va_get (D := D) (ci := 8) (v := .ref (mAd 12)) (C := RX8) (T := TX8) (N := 11) hx hb hts hiX8 hown hK G.1 0 rfl rfl 3 (by decide) lk0 (fun _ h9 => h9) rfl dX8_net_42 ?_
            refine va_get (D := D) (ci := 1) (v := .ref (mAd 18)) (C := RX1) (T := TX1) (N := 3) hx hb hts hiX1 hown hK G.1 12 rfl rfl 1 (by decide) lk4 (fun _ h9 => h9) rfl dX8_net_45 ?_
            refine lv_aload_n hx hb dX8_net_48 rfl (lv_at hl 0 rfl) ?_
            refine va_get (D := D) (ci := 8) (v := .ref (mAd 12)) (C := RX8) (T := TX8) (N := 11) hx hb hts hiX8 hown hK G.1 0 rfl rfl 3 (by decide) lk0 (fun _ h9 => h9) rfl dX8_net_49 ?_
            refine va_get (D := D) (ci := 1) (v := .ref (mAd 13)) (C := RX1) (T := TX1) (N := 3) hx hb hts hiX1 hown hK G.1 12 rfl rfl 0 (by decide) lk5 (fun _ h9 => h9) rfl dX8_net_52 ?_
            refine va_get (D := D) (ci := 2) (v := .int wat) (C := RX2) (T := TX2) (N := 5) hx hb hts hiX2 hown hK G.1 13 rfl rfl 4 (by decide) lk6 (fun _ h9 => h9) rfl dX8_net_55 ?_
            obtain ⟨z9, hz9, H⟩ := bd_some H
            refine MI.callV z9 [.ref (mAd 18), .int wat] [] [29, 30, 31, 32, 33, 18, 19, 20, 21] C G (c_X4_canBe l D cy (fun k => mAd (k + 29)) (fun k => mAd (k + 18)) gft bal giv tak inc hour dep arr deb wat z9 hz9) gX8_net_X4_canBe rfl rfl rfl (n := 2) (by decide +kernel) ⟨Nat.le_of_ble_eq_true rfl, Nat.le_of_ble_eq_true rfl⟩ (q0 := 29) (ci := 4) rfl rfl rfl rfl rfl rfl rfl hl.1 rfl (Nat.le_of_ble_eq_true rfl) dX8_net_58 ⟨Nat.zero_le _, Nat.zero_le _⟩ (fun U locs G => ?_)
            have G : Gd D A s (w_Top cy mAd GI GM GR lfa lfi lan siz len tok stt fin num flw byt dwat dlev dkin dcdp dsil sta wat lev kin cdp sil hour dep arr deb nxt kep fhour fdep farr fdeb gft bal giv tak inc trc nrs) U locs := G
            refine lv_if_eq (tgt := 68) hx hb dX8_net_61 (by decide) (fun c10 => ?_) (fun c10 => ?_)
            · have H := if_t H c10
              refine lv_iconst (v := 0) hx hb dX8_net_68 (by decide) ?_
              obtain rfl := Option.some.inj H
              exact ret_i C G rfl dX8_net_69
            · have H := if_f H c10
              refine lv_iconst (v := 1) hx hb dX8_net_64 (by decide) ?_
              refine lv_goto (tgt := 69) hx hb dX8_net_65 (by decide) ?_
              obtain rfl := Option.some.inj H
              exact ret_i C G rfl dX8_net_69
        · have H := if_f H c4
          refine lv_ldc hx hb hown lk2 dX8_net_28 ?_
          obtain rfl := Option.some.inj H
          exact ret_i C G rfl dX8_net_30
  · have H := if_t H c1
    refine lv_ldc hx hb hown lk8 dX8_net_10 ?_
    obtain rfl := Option.some.inj H
    exact ret_i C G rfl dX8_net_12
def f_X8_depthByLoan (wat : Int32) (lev kin sil : Nat → Int32) (hour : Int32) (dep arr deb : Nat → Int32) (fhour : Int32) (fdep farr fdeb : Nat → Int32) (p1 p2 p3 : Int32) : Option (Int32 × Int32 × (Nat → Int32) × (Nat → Int32) × (Nat → Int32)) := bd (f_X3_takeFrom fhour fdep farr fdeb hour dep arr deb) (fun z1 => gd (inb p1 6) (bd (f_X3_passHours z1.1 (upd z1.2.1 (ix p1) ((z1.2.1 (ix p1)) + p2)) z1.2.2.1 z1.2.2.2 wat lev kin sil p3) (fun z3 => some (z3.2.1 (ix p1), z3.1, z3.2.1, z3.2.2.1, z3.2.2.2))))
set_option maxHeartbeats 4000000 in
set_option maxRecDepth 100000 in
theorem c_X8_depthByLoan (l : Launch) (D : va_G) (cy : Nat → ClassId) (mAd : Nat → Nat) (GI GM GR : Nat → Option Nat) (lfa lfi : Int32) (lan siz : Nat → Int32) (len tok stt fin num flw : Int32) (byt : Nat → Int32) (dwat : Int32) (dlev dkin dcdp dsil : Nat → Int32) (sta wat : Int32) (lev kin cdp sil : Nat → Int32) (hour : Int32) (dep arr deb : Nat → Int32) (nxt kep fhour : Int32) (fdep farr fdeb : Nat → Int32) (gft : Int32) (bal giv tak inc : Nat → Int32) (trc : Int32) (nrs : Nat → Int32) (p1 p2 p3 : Int32) (z : (Int32 × Int32 × (Nat → Int32) × (Nat → Int32) × (Nat → Int32))) (hz : f_X8_depthByLoan wat lev kin sil hour dep arr deb fhour fdep farr fdeb p1 p2 p3 = some z) : MI l yX8_depthByLoan wsX8_depthByLoan ({ frames := 6, cells := 0, slots := 0, locals := 132 } : Room) D cy [.ref (mAd 0), .int p1, .int p2, .int p3] (w_Top cy mAd GI GM GR lfa lfi lan siz len tok stt fin num flw byt dwat dlev dkin dcdp dsil sta wat lev kin cdp sil hour dep arr deb nxt kep fhour fdep farr fdeb gft bal giv tak inc trc nrs) z.1 (w_Top cy mAd GI GM GR lfa lfi lan siz len tok stt fin num flw byt dwat dlev dkin dcdp dsil sta wat lev kin cdp sil hour dep arr deb nxt kep z.2.1 z.2.2.1 z.2.2.2.1 z.2.2.2.2 gft bal giv tak inc trc nrs) := by
  refine met_start (Qf := fun A => MQi D cy z.1 (w_Top cy mAd GI GM GR lfa lfi lan siz len tok stt fin num flw byt dwat dlev dkin dcdp dsil sta wat lev kin cdp sil hour dep arr deb nxt kep z.2.1 z.2.2.1 z.2.2.2.1 z.2.2.2.2 gft bal giv tak inc trc nrs) A) (cc := cX8_depthByLoan) (nL := 4) (ret := (some .int)) RX8 rfl (by decide) rfl (Nat.le_of_ble_eq_true rfl) ?_
  intro p e s m below meth c A ls C G hl
  have hl : lv_has ls 4 [(0, .ref (mAd 0)), (1, .int p1), (2, .int p2), (3, .int p3)] := hl
  have H := hz
  unfold f_X8_depthByLoan at H
  obtain ⟨hx, hb, hr, hml, hown, hts, hlk, hK, hA, hE⟩ := id C
  have lk0 := hts (Cond.fieldLink RX8 51 "TideDebts" "foretold" "LTideDebts$Ledger;") (List.mem_of_getElem? (i := 1) rfl)
  have lk1 := hts (Cond.fieldLink RX8 33 "TideDebts" "now" "LTideDebts$Bay;") (List.mem_of_getElem? (i := 2) rfl)
  have lk2 := hts (Cond.fieldLink RX8 151 "TideDebts$Bay" "ledger" "LTideDebts$Ledger;") (List.mem_of_getElem? (i := 3) rfl)
  have lk3 := hts (Cond.fieldLink RX8 168 "TideDebts$Ledger" "depths" "[I") (List.mem_of_getElem? (i := 4) rfl)
  have lk4 := hts (Cond.fieldLink RX8 140 "TideDebts$Bay" "chart" "LTideDebts$Chart;") (List.mem_of_getElem? (i := 5) rfl)
  have hiX1 : ∀ w ∈ u_ws RX1 TX1 3, w ∈ wsX8_depthByLoan := fun _ h => List.mem_cons_of_mem _ (List.mem_append_left _ (List.mem_append_left _ (List.mem_append_right _ h)))
  have hiX3 : ∀ w ∈ u_ws RX3 TX3 4, w ∈ wsX8_depthByLoan := fun _ h => List.mem_cons_of_mem _ (List.mem_append_left _ (List.mem_append_right _ h))
  have hiX8 : ∀ w ∈ u_ws RX8 TX8 11, w ∈ wsX8_depthByLoan := fun _ h => List.mem_cons_of_mem _ (List.mem_append_left _ (List.mem_append_left _ (List.mem_append_left _ (List.mem_append_right _ h))))
  refine lv_aload_n hx hb dX8_depthByLoan_0 rfl (lv_at hl 0 rfl) ?_
  refine va_get (D := D) (ci := 8) (v := .ref (mAd 25)) (C := RX8) (T := TX8) (N := 11) hx hb hts hiX8 hown hK G.1 0 rfl rfl 6 (by decide) lk0 (fun _ h9 => h9) rfl dX8_depthByLoan_1 ?_
  refine lv_aload_n hx hb dX8_depthByLoan_4 rfl (lv_at hl 0 rfl) ?_
  refine va_get (D := D) (ci := 8) (v := .ref (mAd 12)) (C := RX8) (T := TX8) (N := 11) hx hb hts hiX8 hown hK G.1 0 rfl rfl 3 (by decide) lk1 (fun _ h9 => h9) rfl dX8_depthByLoan_5 ?_
  refine va_get (D := D) (ci := 1) (v := .ref (mAd 18)) (C := RX1) (T := TX1) (N := 3) hx hb hts hiX1 hown hK G.1 12 rfl rfl 1 (by decide) lk2 (fun _ h9 => h9) rfl dX8_depthByLoan_8 ?_
  obtain ⟨z1, hz1, H⟩ := bd_some H
  refine MV.callV [.ref (mAd 18)] [] [25, 26, 27, 28, 18, 19, 20, 21] C G (c_X3_takeFrom l D cy (fun k => mAd (k + 25)) (fun k => mAd (k + 18)) fhour fdep farr fdeb hour dep arr deb z1 hz1) gX8_depthByLoan_X3_takeFrom rfl rfl rfl (n := 1) (by decide +kernel) ⟨Nat.le_of_ble_eq_true rfl, Nat.le_of_ble_eq_true rfl⟩ (q0 := 25) (ci := 3) rfl rfl rfl rfl rfl rfl rfl hl.1 rfl (Nat.le_of_ble_eq_true rfl) dX8_depthByLoan_11 ⟨Nat.zero_le _, Nat.zero_le _⟩ (fun U locs G => ?_)
  have G : Gd D A s (w_Top cy mAd GI GM GR lfa lfi lan siz len tok stt fin num flw byt dwat dlev dkin dcdp dsil sta wat lev kin cdp sil hour dep arr deb nxt kep z1.1 z1.2.1 z1.2.2.1 z1.2.2.2 gft bal giv tak inc trc nrs) U locs := G
  refine lv_aload_n hx hb dX8_depthByLoan_14 rfl (lv_at hl 0 rfl) ?_
  refine va_get (D := D) (ci := 8) (v := .ref (mAd 25)) (C := RX8) (T := TX8) (N := 11) hx hb hts hiX8 hown hK G.1 0 rfl rfl 6 (by decide) lk0 (fun _ h9 => h9) rfl dX8_depthByLoan_15 ?_
  refine va_get (D := D) (ci := 3) (v := .ref (mAd 26)) (C := RX3) (T := TX3) (N := 4) hx hb hts hiX3 hown hK G.1 25 rfl rfl 0 (by decide) lk3 (fun _ h9 => h9) rfl dX8_depthByLoan_18 ?_
  refine lv_iload_n hx hb dX8_depthByLoan_21 rfl (lv_at hl 1 rfl) ?_
  refine lv_dup2_11 hx hb dX8_depthByLoan_22 rfl rfl ?_
  obtain ⟨hb2, H⟩ := gd_some H
  refine g_iald (v := z1.2.1 (ix p1)) hx hb hK G.1 26 1 rfl rfl hb2 rfl dX8_depthByLoan_23 ?_
  refine lv_iload_n hx hb dX8_depthByLoan_24 rfl (lv_at hl 2 rfl) ?_
  refine lv_iadd hx hb dX8_depthByLoan_25 ?_
  refine va_iast hx hb hK G.1 G.2.1 G.2.2 26 1 rfl rfl (inb_in hb2) dX8_depthByLoan_26 (fun U locs hP hD hS => ?_)
  have G : Gd D A s (w_Top cy mAd GI GM GR lfa lfi lan siz len tok stt fin num flw byt dwat dlev dkin dcdp dsil sta wat lev kin cdp sil hour dep arr deb nxt kep z1.1 (upd z1.2.1 (ix p1) ((z1.2.1 (ix p1)) + p2)) z1.2.2.1 z1.2.2.2 gft bal giv tak inc trc nrs) U locs := ⟨hP, hD, hS⟩
  refine lv_aload_n hx hb dX8_depthByLoan_27 rfl (lv_at hl 0 rfl) ?_
  refine va_get (D := D) (ci := 8) (v := .ref (mAd 25)) (C := RX8) (T := TX8) (N := 11) hx hb hts hiX8 hown hK G.1 0 rfl rfl 6 (by decide) lk0 (fun _ h9 => h9) rfl dX8_depthByLoan_28 ?_
  refine lv_aload_n hx hb dX8_depthByLoan_31 rfl (lv_at hl 0 rfl) ?_
  refine va_get (D := D) (ci := 8) (v := .ref (mAd 12)) (C := RX8) (T := TX8) (N := 11) hx hb hts hiX8 hown hK G.1 0 rfl rfl 3 (by decide) lk1 (fun _ h9 => h9) rfl dX8_depthByLoan_32 ?_
  refine va_get (D := D) (ci := 1) (v := .ref (mAd 13)) (C := RX1) (T := TX1) (N := 3) hx hb hts hiX1 hown hK G.1 12 rfl rfl 0 (by decide) lk4 (fun _ h9 => h9) rfl dX8_depthByLoan_35 ?_
  refine lv_iload_n hx hb dX8_depthByLoan_38 rfl (lv_at hl 3 rfl) ?_
  obtain ⟨z3, hz3, H⟩ := bd_some H
  refine MV.callV [.ref (mAd 13), .int p3] [] [25, 26, 27, 28, 13, 14, 15, 16, 17] C G (c_X3_passHours l D cy (fun k => mAd (k + 25)) (fun k => mAd (k + 13)) z1.1 (upd z1.2.1 (ix p1) ((z1.2.1 (ix p1)) + p2)) z1.2.2.1 z1.2.2.2 wat lev kin cdp sil p3 z3 hz3) gX8_depthByLoan_X3_passHours rfl rfl rfl (n := 2) (by decide +kernel) ⟨Nat.le_of_ble_eq_true rfl, Nat.le_of_ble_eq_true rfl⟩ (q0 := 25) (ci := 3) rfl rfl rfl rfl rfl rfl rfl hl.1 rfl (Nat.le_of_ble_eq_true rfl) dX8_depthByLoan_39 ⟨Nat.zero_le _, Nat.zero_le _⟩ (fun U locs G => ?_)
  have G : Gd D A s (w_Top cy mAd GI GM GR lfa lfi lan siz len tok stt fin num flw byt dwat dlev dkin dcdp dsil sta wat lev kin cdp sil hour dep arr deb nxt kep z3.1 z3.2.1 z3.2.2.1 z3.2.2.2 gft bal giv tak inc trc nrs) U locs := G
  refine lv_aload_n hx hb dX8_depthByLoan_42 rfl (lv_at hl 0 rfl) ?_
  refine va_get (D := D) (ci := 8) (v := .ref (mAd 25)) (C := RX8) (T := TX8) (N := 11) hx hb hts hiX8 hown hK G.1 0 rfl rfl 6 (by decide) lk0 (fun _ h9 => h9) rfl dX8_depthByLoan_43 ?_
  refine va_get (D := D) (ci := 3) (v := .ref (mAd 26)) (C := RX3) (T := TX3) (N := 4) hx hb hts hiX3 hown hK G.1 25 rfl rfl 0 (by decide) lk3 (fun _ h9 => h9) rfl dX8_depthByLoan_46 ?_
  refine lv_iload_n hx hb dX8_depthByLoan_49 rfl (lv_at hl 1 rfl) ?_
  refine g_iald (v := z3.2.1 (ix p1)) hx hb hK G.1 26 1 rfl rfl hb2 rfl dX8_depthByLoan_50 ?_
  obtain rfl := Option.some.inj H
  exact ret_i C G rfl dX8_depthByLoan_51
