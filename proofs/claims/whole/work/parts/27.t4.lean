def f_X8_lend (wat hour : Int32) (dep arr deb : Nat → Int32) (nxt kep : Int32) (r_hour : Nat → Int32) (r_dep r_arr r_deb : Nat → Nat → Int32) (p1 p2 p3 : Int32) : Option (Int32 × (Nat → Int32) × (Nat → Int32) × Int32 × Int32 × (Nat → Int32) × (Nat → Nat → Int32) × (Nat → Nat → Int32) × (Nat → Nat → Int32)) := bd (f_X8_areTwoWaters wat p1 p2) (fun z1 => if z1 = 0 then (some ((-1000001), dep, deb, nxt, kep, r_hour, r_dep, r_arr, r_deb)) else (if p3 < 1 then (some ((-1000001), dep, deb, nxt, kep, r_hour, r_dep, r_arr, r_deb)) else (if p3 ≤ 999 then (gd (inb p1 6) (if p3 ≤ (dep (ix p1)) then (bd (f_X3_debt deb p2 p1) (fun z7 => if (z7 + p3) ≤ 9999 then (bd (f_X5_keep nxt kep hour dep arr deb r_hour r_dep r_arr r_deb) (fun z9 => bd (f_X3_move dep p1 p2 p3) (fun z10 => bd (f_X3_addDebt deb p2 p1 p3) (fun z11 => some (z11.1, z10, z11.2, z9.1, z9.2.1, z9.2.2.1, z9.2.2.2.1, z9.2.2.2.2.1, z9.2.2.2.2.2))))) else (some ((-1000003), dep, deb, nxt, kep, r_hour, r_dep, r_arr, r_deb)))) else (some ((-1000002), dep, deb, nxt, kep, r_hour, r_dep, r_arr, r_deb)))) else (some ((-1000001), dep, deb, nxt, kep, r_hour, r_dep, r_arr, r_deb)))))
set_option maxHeartbeats 4000000 in
set_option maxRecDepth 100000 in
theorem c_X8_lend (l : Launch) (D : va_G) (cy : Nat → ClassId) (mAd : Nat → Nat) (rAd : Nat → Nat → Nat) (GI GM GR : Nat → Option Nat) (lfa lfi : Int32) (lan siz : Nat → Int32) (len tok stt fin num flw : Int32) (byt : Nat → Int32) (dwat : Int32) (dlev dkin dcdp dsil : Nat → Int32) (sta wat : Int32) (lev kin cdp sil : Nat → Int32) (hour : Int32) (dep arr deb : Nat → Int32) (nxt kep fhour : Int32) (fdep farr fdeb : Nat → Int32) (gft : Int32) (bal giv tak inc : Nat → Int32) (trc : Int32) (nrs r_hour : Nat → Int32) (r_dep r_arr r_deb : Nat → Nat → Int32) (p1 p2 p3 : Int32) (hGR : ∀ k, k < 24 → GR k = some (rAd k 0)) (z : (Int32 × (Nat → Int32) × (Nat → Int32) × Int32 × Int32 × (Nat → Int32) × (Nat → Nat → Int32) × (Nat → Nat → Int32) × (Nat → Nat → Int32))) (hz : f_X8_lend wat hour dep arr deb nxt kep r_hour r_dep r_arr r_deb p1 p2 p3 = some z) : MI l yX8_lend wsX8_lend ({ frames := 3, cells := 0, slots := 0, locals := 102 } : Room) D cy [.ref (mAd 0), .int p1, .int p2, .int p3] (w_Top cy mAd GI GM GR lfa lfi lan siz len tok stt fin num flw byt dwat dlev dkin dcdp dsil sta wat lev kin cdp sil hour dep arr deb nxt kep fhour fdep farr fdeb gft bal giv tak inc trc nrs ++ w_FRing cy rAd r_hour r_dep r_arr r_deb) z.1 (w_Top cy mAd GI GM GR lfa lfi lan siz len tok stt fin num flw byt dwat dlev dkin dcdp dsil sta wat lev kin cdp sil hour z.2.1 arr z.2.2.1 z.2.2.2.1 z.2.2.2.2.1 fhour fdep farr fdeb gft bal giv tak inc trc nrs ++ w_FRing cy rAd z.2.2.2.2.2.1 z.2.2.2.2.2.2.1 z.2.2.2.2.2.2.2.1 z.2.2.2.2.2.2.2.2) := by
  refine met_start (Qf := fun A => MQi D cy z.1 (w_Top cy mAd GI GM GR lfa lfi lan siz len tok stt fin num flw byt dwat dlev dkin dcdp dsil sta wat lev kin cdp sil hour z.2.1 arr z.2.2.1 z.2.2.2.1 z.2.2.2.2.1 fhour fdep farr fdeb gft bal giv tak inc trc nrs ++ w_FRing cy rAd z.2.2.2.2.2.1 z.2.2.2.2.2.2.1 z.2.2.2.2.2.2.2.1 z.2.2.2.2.2.2.2.2) A) (cc := cX8_lend) (nL := 5) (ret := (some .int)) RX8 rfl (by decide) rfl (Nat.le_of_ble_eq_true rfl) ?_
  intro p e s m below meth c A ls C G hl
  have hl : lv_has ls 5 [(0, .ref (mAd 0)), (1, .int p1), (2, .int p2), (3, .int p3)] := hl
  have H := hz
  unfold f_X8_lend at H
  obtain ⟨hx, hb, hr, hml, hown, hts, hlk, hK, hA, hE⟩ := id C
  have lk0 := hts (Cond.constant RX8 73 (-1000001)) (List.mem_of_getElem? (i := 1) rfl)
  have lk1 := hts (Cond.fieldLink RX8 33 "TideDebts" "now" "LTideDebts$Bay;") (List.mem_of_getElem? (i := 2) rfl)
  have lk2 := hts (Cond.fieldLink RX8 151 "TideDebts$Bay" "ledger" "LTideDebts$Ledger;") (List.mem_of_getElem? (i := 3) rfl)
  have lk3 := hts (Cond.fieldLink RX8 168 "TideDebts$Ledger" "depths" "[I") (List.mem_of_getElem? (i := 4) rfl)
  have lk4 := hts (Cond.fieldLink RX8 44 "TideDebts" "past" "LTideDebts$Past;") (List.mem_of_getElem? (i := 7) rfl)
  have lk5 := hts (Cond.constant RX8 117 (-1000003)) (List.mem_of_getElem? (i := 6) rfl)
  have lk6 := hts (Cond.constant RX8 150 (-1000002)) (List.mem_of_getElem? (i := 5) rfl)
  have hiX1 : ∀ w ∈ u_ws RX1 TX1 3, w ∈ wsX8_lend := fun _ h => List.mem_cons_of_mem _ (List.mem_append_left _ (List.mem_append_left _ (List.mem_append_left _ (List.mem_append_right _ h))))
  have hiX3 : ∀ w ∈ u_ws RX3 TX3 4, w ∈ wsX8_lend := fun _ h => List.mem_cons_of_mem _ (List.mem_append_left _ (List.mem_append_left _ (List.mem_append_right _ h)))
  have hiX8 : ∀ w ∈ u_ws RX8 TX8 11, w ∈ wsX8_lend := fun _ h => List.mem_cons_of_mem _ (List.mem_append_left _ (List.mem_append_left _ (List.mem_append_left _ (List.mem_append_left _ (List.mem_append_right _ h)))))
  refine lv_aload_n hx hb dX8_lend_0 rfl (lv_at hl 0 rfl) ?_
  refine lv_iload_n hx hb dX8_lend_1 rfl (lv_at hl 1 rfl) ?_
  refine lv_iload_n hx hb dX8_lend_2 rfl (lv_at hl 2 rfl) ?_
  obtain ⟨z1, hz1, H⟩ := bd_some H
  refine MI.callVw z1 [.int p1, .int p2] [] C G (MI.tail _ (c_X8_areTwoWaters l D cy mAd GI GM GR lfa lfi lan siz len tok stt fin num flw byt dwat dlev dkin dcdp dsil sta wat lev kin cdp sil hour dep arr deb nxt kep fhour fdep farr fdeb gft bal giv tak inc trc nrs p1 p2 z1 hz1)) gX8_lend_X8_areTwoWaters rfl rfl rfl (n := 2) (by decide +kernel) ⟨Nat.le_of_ble_eq_true rfl, Nat.le_of_ble_eq_true rfl⟩ (q0 := 0) (ci := 8) rfl rfl rfl rfl hl.1 rfl (Nat.le_of_ble_eq_true rfl) dX8_lend_3 ⟨Nat.zero_le _, Nat.zero_le _⟩ (fun U locs G => ?_)
  have G : Gd D A s (w_Top cy mAd GI GM GR lfa lfi lan siz len tok stt fin num flw byt dwat dlev dkin dcdp dsil sta wat lev kin cdp sil hour dep arr deb nxt kep fhour fdep farr fdeb gft bal giv tak inc trc nrs ++ w_FRing cy rAd r_hour r_dep r_arr r_deb) U locs := G
  refine lv_if_eq (tgt := 21) hx hb dX8_lend_6 (by decide) (fun c2 => ?_) (fun c2 => ?_)
  · have H := if_t H c2
    refine lv_ldc hx hb hown lk0 dX8_lend_21 ?_
    obtain rfl := Option.some.inj H
    exact ret_i C G rfl dX8_lend_23
  · have H := if_f H c2
    refine lv_iload_n hx hb dX8_lend_9 rfl (lv_at hl 3 rfl) ?_
    refine lv_iconst (v := 1) hx hb dX8_lend_10 (by decide) ?_
    refine lv_icmp_lt (tgt := 21) hx hb dX8_lend_11 (by decide) (fun c3 => ?_) (fun c3 => ?_)
    · have H := if_t H c3
      refine lv_ldc hx hb hown lk0 dX8_lend_21 ?_
      obtain rfl := Option.some.inj H
      exact ret_i C G rfl dX8_lend_23
    · have H := if_f H c3
      refine lv_iload_n hx hb dX8_lend_14 rfl (lv_at hl 3 rfl) ?_
      refine lv_sipush (v := 999) hx hb dX8_lend_15 (by decide) ?_
      refine lv_icmp_le (tgt := 24) hx hb dX8_lend_18 (by decide) (fun c4 => ?_) (fun c4 => ?_)
      · have H := if_t H c4
        refine lv_aload_n hx hb dX8_lend_24 rfl (lv_at hl 0 rfl) ?_
        refine va_get (D := D) (ci := 8) (v := .ref (mAd 12)) (C := RX8) (T := TX8) (N := 11) hx hb hts hiX8 hown hK G.1 0 rfl rfl 3 (by decide) lk1 (fun _ h9 => h9) rfl dX8_lend_25 ?_
        refine va_get (D := D) (ci := 1) (v := .ref (mAd 18)) (C := RX1) (T := TX1) (N := 3) hx hb hts hiX1 hown hK G.1 12 rfl rfl 1 (by decide) lk2 (fun _ h9 => h9) rfl dX8_lend_28 ?_
        refine lv_astore (lv' := [(4, .ref (mAd 18)), (0, .ref (mAd 0)), (1, .int p1), (2, .int p2), (3, .int p3)]) hx hb dX8_lend_31 hl (by decide) rfl (fun ls hl => ?_)
        refine lv_aload hx hb dX8_lend_33 (lv_at hl 0 rfl) ?_
        refine va_get (D := D) (ci := 3) (v := .ref (mAd 19)) (C := RX3) (T := TX3) (N := 4) hx hb hts hiX3 hown hK G.1 18 rfl rfl 0 (by decide) lk3 (fun _ h9 => h9) rfl dX8_lend_35 ?_
        refine lv_iload_n hx hb dX8_lend_38 rfl (lv_at hl 2 rfl) ?_
        obtain ⟨hb5, H⟩ := gd_some H
        refine g_iald (v := dep (ix p1)) hx hb hK G.1 19 1 rfl rfl hb5 rfl dX8_lend_39 ?_
        refine lv_iload_n hx hb dX8_lend_40 rfl (lv_at hl 4 rfl) ?_
        refine lv_icmp_ge (tgt := 47) hx hb dX8_lend_41 (by decide) (fun c6 => ?_) (fun c6 => ?_)
        · have H := if_t H c6
          refine lv_aload hx hb dX8_lend_47 (lv_at hl 0 rfl) ?_
          refine lv_iload_n hx hb dX8_lend_49 rfl (lv_at hl 3 rfl) ?_
          refine lv_iload_n hx hb dX8_lend_50 rfl (lv_at hl 2 rfl) ?_
          obtain ⟨z7, hz7, H⟩ := bd_some H
          refine MI.callV z7 [.int p2, .int p1] [] [18, 19, 20, 21] C G (c_X3_debt l D cy (fun k => mAd (k + 18)) hour dep arr deb p2 p1 z7 hz7) gX8_lend_X3_debt rfl rfl rfl (n := 2) (by decide +kernel) ⟨Nat.le_of_ble_eq_true rfl, Nat.le_of_ble_eq_true rfl⟩ (q0 := 18) (ci := 3) rfl rfl rfl rfl rfl rfl rfl hl.1 rfl (Nat.le_of_ble_eq_true rfl) dX8_lend_51 ⟨Nat.zero_le _, Nat.zero_le _⟩ (fun U locs G => ?_)
          have G : Gd D A s (w_Top cy mAd GI GM GR lfa lfi lan siz len tok stt fin num flw byt dwat dlev dkin dcdp dsil sta wat lev kin cdp sil hour dep arr deb nxt kep fhour fdep farr fdeb gft bal giv tak inc trc nrs ++ w_FRing cy rAd r_hour r_dep r_arr r_deb) U locs := G
          refine lv_iload_n hx hb dX8_lend_54 rfl (lv_at hl 4 rfl) ?_
          refine lv_iadd hx hb dX8_lend_55 ?_
          refine lv_sipush (v := 9999) hx hb dX8_lend_56 (by decide) ?_
          refine lv_icmp_le (tgt := 65) hx hb dX8_lend_59 (by decide) (fun c8 => ?_) (fun c8 => ?_)
          · have H := if_t H c8
            refine lv_aload_n hx hb dX8_lend_65 rfl (lv_at hl 1 rfl) ?_
            refine va_get (D := D) (ci := 8) (v := .ref (mAd 23)) (C := RX8) (T := TX8) (N := 11) hx hb hts hiX8 hown hK G.1 0 rfl rfl 5 (by decide) lk4 (fun _ h9 => h9) rfl dX8_lend_66 ?_
            refine lv_aload hx hb dX8_lend_69 (lv_at hl 0 rfl) ?_
            obtain ⟨z9, hz9, H⟩ := bd_some H
            refine MV.callVt [.ref (mAd 18)] [] [23, 24, 18, 19, 20, 21] C G (c_X5_keep l D cy (fun k => mAd (k + 23)) (fun k => mAd (k + 18)) rAd GR nxt kep hour dep arr deb r_hour r_dep r_arr r_deb hGR z9 hz9) gX8_lend_X5_keep rfl rfl rfl (n := 1) (by decide +kernel) ⟨Nat.le_of_ble_eq_true rfl, Nat.le_of_ble_eq_true rfl⟩ (q0 := 23) (ci := 5) rfl rfl rfl rfl rfl rfl (fam_len (fun _ => rfl)) rfl hl.1 rfl (Nat.le_of_ble_eq_true rfl) dX8_lend_71 ⟨Nat.zero_le _, Nat.zero_le _⟩ (fun U locs G => ?_)
            have G : Gd D A s (w_Top cy mAd GI GM GR lfa lfi lan siz len tok stt fin num flw byt dwat dlev dkin dcdp dsil sta wat lev kin cdp sil hour dep arr deb z9.1 z9.2.1 fhour fdep farr fdeb gft bal giv tak inc trc nrs ++ w_FRing cy rAd z9.2.2.1 z9.2.2.2.1 z9.2.2.2.2.1 z9.2.2.2.2.2) U locs := G
            refine lv_aload hx hb dX8_lend_74 (lv_at hl 0 rfl) ?_
            refine lv_iload_n hx hb dX8_lend_76 rfl (lv_at hl 2 rfl) ?_
            refine lv_iload_n hx hb dX8_lend_77 rfl (lv_at hl 3 rfl) ?_
            refine lv_iload_n hx hb dX8_lend_78 rfl (lv_at hl 4 rfl) ?_
            obtain ⟨z10, hz10, H⟩ := bd_some H
            refine MV.callV [.int p1, .int p2, .int p3] [] [18, 19, 20, 21] C G (c_X3_move l D cy (fun k => mAd (k + 18)) hour dep arr deb p1 p2 p3 z10 hz10) gX8_lend_X3_move rfl rfl rfl (n := 3) (by decide +kernel) ⟨Nat.le_of_ble_eq_true rfl, Nat.le_of_ble_eq_true rfl⟩ (q0 := 18) (ci := 3) rfl rfl rfl rfl rfl rfl rfl hl.1 rfl (Nat.le_of_ble_eq_true rfl) dX8_lend_79 ⟨Nat.zero_le _, Nat.zero_le _⟩ (fun U locs G => ?_)
            have G : Gd D A s (w_Top cy mAd GI GM GR lfa lfi lan siz len tok stt fin num flw byt dwat dlev dkin dcdp dsil sta wat lev kin cdp sil hour z10 arr deb z9.1 z9.2.1 fhour fdep farr fdeb gft bal giv tak inc trc nrs ++ w_FRing cy rAd z9.2.2.1 z9.2.2.2.1 z9.2.2.2.2.1 z9.2.2.2.2.2) U locs := G
            refine lv_aload hx hb dX8_lend_82 (lv_at hl 0 rfl) ?_
            refine lv_iload_n hx hb dX8_lend_84 rfl (lv_at hl 3 rfl) ?_
            refine lv_iload_n hx hb dX8_lend_85 rfl (lv_at hl 2 rfl) ?_
            refine lv_iload_n hx hb dX8_lend_86 rfl (lv_at hl 4 rfl) ?_
            obtain ⟨z11, hz11, H⟩ := bd_some H
            refine MI.callV z11.1 [.int p2, .int p1, .int p3] [] [18, 19, 20, 21] C G (c_X3_addDebt l D cy (fun k => mAd (k + 18)) hour z10 arr deb p2 p1 p3 z11 hz11) gX8_lend_X3_addDebt rfl rfl rfl (n := 3) (by decide +kernel) ⟨Nat.le_of_ble_eq_true rfl, Nat.le_of_ble_eq_true rfl⟩ (q0 := 18) (ci := 3) rfl rfl rfl rfl rfl rfl rfl hl.1 rfl (Nat.le_of_ble_eq_true rfl) dX8_lend_87 ⟨Nat.zero_le _, Nat.zero_le _⟩ (fun U locs G => ?_)
            have G : Gd D A s (w_Top cy mAd GI GM GR lfa lfi lan siz len tok stt fin num flw byt dwat dlev dkin dcdp dsil sta wat lev kin cdp sil hour z10 arr z11.2 z9.1 z9.2.1 fhour fdep farr fdeb gft bal giv tak inc trc nrs ++ w_FRing cy rAd z9.2.2.1 z9.2.2.2.1 z9.2.2.2.2.1 z9.2.2.2.2.2) U locs := G
            obtain rfl := Option.some.inj H
            exact ret_i C G rfl dX8_lend_90
          · have H := if_f H c8
            refine lv_ldc hx hb hown lk5 dX8_lend_62 ?_
            obtain rfl := Option.some.inj H
            exact ret_i C G rfl dX8_lend_64
        · have H := if_f H c6
          refine lv_ldc hx hb hown lk6 dX8_lend_44 ?_
          obtain rfl := Option.some.inj H
          exact ret_i C G rfl dX8_lend_46
      · have H := if_f H c4
        refine lv_ldc hx hb hown lk0 dX8_lend_21 ?_
        obtain rfl := Option.some.inj H
        exact ret_i C G rfl dX8_lend_23
def f_X8_pay (wat hour : Int32) (dep arr deb : Nat → Int32) (nxt kep : Int32) (r_hour : Nat → Int32) (r_dep r_arr r_deb : Nat → Nat → Int32) (p1 p2 p3 : Int32) : Option (Int32 × (Nat → Int32) × (Nat → Int32) × Int32 × Int32 × (Nat → Int32) × (Nat → Nat → Int32) × (Nat → Nat → Int32) × (Nat → Nat → Int32)) := bd (f_X8_areTwoWaters wat p1 p2) (fun z1 => if z1 = 0 then (some ((-1000001), dep, deb, nxt, kep, r_hour, r_dep, r_arr, r_deb)) else (if p3 < 1 then (some ((-1000001), dep, deb, nxt, kep, r_hour, r_dep, r_arr, r_deb)) else (if p3 ≤ 9999 then (bd (f_X3_debt deb p1 p2) (fun z5 => if z5 < p3 then (some ((-1000002), dep, deb, nxt, kep, r_hour, r_dep, r_arr, r_deb)) else (gd (inb p1 6) (if p3 ≤ (dep (ix p1)) then (bd (f_X5_keep nxt kep hour dep arr deb r_hour r_dep r_arr r_deb) (fun z9 => bd (f_X3_move dep p1 p2 p3) (fun z10 => bd (f_X3_addDebt deb p1 p2 (-p3)) (fun z11 => some (z11.1, z10, z11.2, z9.1, z9.2.1, z9.2.2.1, z9.2.2.2.1, z9.2.2.2.2.1, z9.2.2.2.2.2))))) else (some ((-1000002), dep, deb, nxt, kep, r_hour, r_dep, r_arr, r_deb)))))) else (some ((-1000001), dep, deb, nxt, kep, r_hour, r_dep, r_arr, r_deb)))))
set_option maxHeartbeats 4000000 in
set_option maxRecDepth 100000 in
theorem c_X8_pay (l : Launch) (D : va_G) (cy : Nat → ClassId) (mAd : Nat → Nat) (rAd : Nat → Nat → Nat) (GI GM GR : Nat → Option Nat) (lfa lfi : Int32) (lan siz : Nat → Int32) (len tok stt fin num flw : Int32) (byt : Nat → Int32) (dwat : Int32) (dlev dkin dcdp dsil : Nat → Int32) (sta wat : Int32) (lev kin cdp sil : Nat → Int32) (hour : Int32) (dep arr deb : Nat → Int32) (nxt kep fhour : Int32) (fdep farr fdeb : Nat → Int32) (gft : Int32) (bal giv tak inc : Nat → Int32) (trc : Int32) (nrs r_hour : Nat → Int32) (r_dep r_arr r_deb : Nat → Nat → Int32) (p1 p2 p3 : Int32) (hGR : ∀ k, k < 24 → GR k = some (rAd k 0)) (z : (Int32 × (Nat → Int32) × (Nat → Int32) × Int32 × Int32 × (Nat → Int32) × (Nat → Nat → Int32) × (Nat → Nat → Int32) × (Nat → Nat → Int32))) (hz : f_X8_pay wat hour dep arr deb nxt kep r_hour r_dep r_arr r_deb p1 p2 p3 = some z) : MI l yX8_pay wsX8_pay ({ frames := 3, cells := 0, slots := 0, locals := 102 } : Room) D cy [.ref (mAd 0), .int p1, .int p2, .int p3] (w_Top cy mAd GI GM GR lfa lfi lan siz len tok stt fin num flw byt dwat dlev dkin dcdp dsil sta wat lev kin cdp sil hour dep arr deb nxt kep fhour fdep farr fdeb gft bal giv tak inc trc nrs ++ w_FRing cy rAd r_hour r_dep r_arr r_deb) z.1 (w_Top cy mAd GI GM GR lfa lfi lan siz len tok stt fin num flw byt dwat dlev dkin dcdp dsil sta wat lev kin cdp sil hour z.2.1 arr z.2.2.1 z.2.2.2.1 z.2.2.2.2.1 fhour fdep farr fdeb gft bal giv tak inc trc nrs ++ w_FRing cy rAd z.2.2.2.2.2.1 z.2.2.2.2.2.2.1 z.2.2.2.2.2.2.2.1 z.2.2.2.2.2.2.2.2) := by
  refine met_start (Qf := fun A => MQi D cy z.1 (w_Top cy mAd GI GM GR lfa lfi lan siz len tok stt fin num flw byt dwat dlev dkin dcdp dsil sta wat lev kin cdp sil hour z.2.1 arr z.2.2.1 z.2.2.2.1 z.2.2.2.2.1 fhour fdep farr fdeb gft bal giv tak inc trc nrs ++ w_FRing cy rAd z.2.2.2.2.2.1 z.2.2.2.2.2.2.1 z.2.2.2.2.2.2.2.1 z.2.2.2.2.2.2.2.2) A) (cc := cX8_pay) (nL := 5) (ret := (some .int)) RX8 rfl (by decide) rfl (Nat.le_of_ble_eq_true rfl) ?_
  intro p e s m below meth c A ls C G hl
  have hl : lv_has ls 5 [(0, .ref (mAd 0)), (1, .int p1), (2, .int p2), (3, .int p3)] := hl
  have H := hz
  unfold f_X8_pay at H
  obtain ⟨hx, hb, hr, hml, hown, hts, hlk, hK, hA, hE⟩ := id C
  have lk0 := hts (Cond.constant RX8 73 (-1000001)) (List.mem_of_getElem? (i := 1) rfl)
  have lk1 := hts (Cond.fieldLink RX8 33 "TideDebts" "now" "LTideDebts$Bay;") (List.mem_of_getElem? (i := 2) rfl)
  have lk2 := hts (Cond.fieldLink RX8 151 "TideDebts$Bay" "ledger" "LTideDebts$Ledger;") (List.mem_of_getElem? (i := 3) rfl)
  have lk3 := hts (Cond.constant RX8 150 (-1000002)) (List.mem_of_getElem? (i := 5) rfl)
  have lk4 := hts (Cond.fieldLink RX8 168 "TideDebts$Ledger" "depths" "[I") (List.mem_of_getElem? (i := 4) rfl)
  have lk5 := hts (Cond.fieldLink RX8 44 "TideDebts" "past" "LTideDebts$Past;") (List.mem_of_getElem? (i := 6) rfl)
  have hiX1 : ∀ w ∈ u_ws RX1 TX1 3, w ∈ wsX8_pay := fun _ h => List.mem_cons_of_mem _ (List.mem_append_left _ (List.mem_append_left _ (List.mem_append_left _ (List.mem_append_right _ h))))
  have hiX3 : ∀ w ∈ u_ws RX3 TX3 4, w ∈ wsX8_pay := fun _ h => List.mem_cons_of_mem _ (List.mem_append_left _ (List.mem_append_left _ (List.mem_append_right _ h)))
  have hiX8 : ∀ w ∈ u_ws RX8 TX8 11, w ∈ wsX8_pay := fun _ h => List.mem_cons_of_mem _ (List.mem_append_left _ (List.mem_append_left _ (List.mem_append_left _ (List.mem_append_left _ (List.mem_append_right _ h)))))
  refine lv_aload_n hx hb dX8_pay_0 rfl (lv_at hl 0 rfl) ?_
  refine lv_iload_n hx hb dX8_pay_1 rfl (lv_at hl 1 rfl) ?_
  refine lv_iload_n hx hb dX8_pay_2 rfl (lv_at hl 2 rfl) ?_
  obtain ⟨z1, hz1, H⟩ := bd_some H
  refine MI.callVw z1 [.int p1, .int p2] [] C G (MI.tail _ (c_X8_areTwoWaters l D cy mAd GI GM GR lfa lfi lan siz len tok stt fin num flw byt dwat dlev dkin dcdp dsil sta wat lev kin cdp sil hour dep arr deb nxt kep fhour fdep farr fdeb gft bal giv tak inc trc nrs p1 p2 z1 hz1)) gX8_pay_X8_areTwoWaters rfl rfl rfl (n := 2) (by decide +kernel) ⟨Nat.le_of_ble_eq_true rfl, Nat.le_of_ble_eq_true rfl⟩ (q0 := 0) (ci := 8) rfl rfl rfl rfl hl.1 rfl (Nat.le_of_ble_eq_true rfl) dX8_pay_3 ⟨Nat.zero_le _, Nat.zero_le _⟩ (fun U locs G => ?_)
  have G : Gd D A s (w_Top cy mAd GI GM GR lfa lfi lan siz len tok stt fin num flw byt dwat dlev dkin dcdp dsil sta wat lev kin cdp sil hour dep arr deb nxt kep fhour fdep farr fdeb gft bal giv tak inc trc nrs ++ w_FRing cy rAd r_hour r_dep r_arr r_deb) U locs := G
  refine lv_if_eq (tgt := 21) hx hb dX8_pay_6 (by decide) (fun c2 => ?_) (fun c2 => ?_)
  · have H := if_t H c2
    refine lv_ldc hx hb hown lk0 dX8_pay_21 ?_
    obtain rfl := Option.some.inj H
    exact ret_i C G rfl dX8_pay_23
  · have H := if_f H c2
    refine lv_iload_n hx hb dX8_pay_9 rfl (lv_at hl 3 rfl) ?_
    refine lv_iconst (v := 1) hx hb dX8_pay_10 (by decide) ?_
    refine lv_icmp_lt (tgt := 21) hx hb dX8_pay_11 (by decide) (fun c3 => ?_) (fun c3 => ?_)
    · have H := if_t H c3
      refine lv_ldc hx hb hown lk0 dX8_pay_21 ?_
      obtain rfl := Option.some.inj H
      exact ret_i C G rfl dX8_pay_23
    · have H := if_f H c3
      refine lv_iload_n hx hb dX8_pay_14 rfl (lv_at hl 3 rfl) ?_
      refine lv_sipush (v := 9999) hx hb dX8_pay_15 (by decide) ?_
      refine lv_icmp_le (tgt := 24) hx hb dX8_pay_18 (by decide) (fun c4 => ?_) (fun c4 => ?_)
      · have H := if_t H c4
        refine lv_aload_n hx hb dX8_pay_24 rfl (lv_at hl 0 rfl) ?_
        refine va_get (D := D) (ci := 8) (v := .ref (mAd 12)) (C := RX8) (T := TX8) (N := 11) hx hb hts hiX8 hown hK G.1 0 rfl rfl 3 (by decide) lk1 (fun _ h9 => h9) rfl dX8_pay_25 ?_
        refine va_get (D := D) (ci := 1) (v := .ref (mAd 18)) (C := RX1) (T := TX1) (N := 3) hx hb hts hiX1 hown hK G.1 12 rfl rfl 1 (by decide) lk2 (fun _ h9 => h9) rfl dX8_pay_28 ?_
        refine lv_astore (lv' := [(4, .ref (mAd 18)), (0, .ref (mAd 0)), (1, .int p1), (2, .int p2), (3, .int p3)]) hx hb dX8_pay_31 hl (by decide) rfl (fun ls hl => ?_)
        refine lv_aload hx hb dX8_pay_33 (lv_at hl 0 rfl) ?_
        refine lv_iload_n hx hb dX8_pay_35 rfl (lv_at hl 2 rfl) ?_
        refine lv_iload_n hx hb dX8_pay_36 rfl (lv_at hl 3 rfl) ?_
        obtain ⟨z5, hz5, H⟩ := bd_some H
        refine MI.callV z5 [.int p1, .int p2] [] [18, 19, 20, 21] C G (c_X3_debt l D cy (fun k => mAd (k + 18)) hour dep arr deb p1 p2 z5 hz5) gX8_pay_X3_debt rfl rfl rfl (n := 2) (by decide +kernel) ⟨Nat.le_of_ble_eq_true rfl, Nat.le_of_ble_eq_true rfl⟩ (q0 := 18) (ci := 3) rfl rfl rfl rfl rfl rfl rfl hl.1 rfl (Nat.le_of_ble_eq_true rfl) dX8_pay_37 ⟨Nat.zero_le _, Nat.zero_le _⟩ (fun U locs G => ?_)
        have G : Gd D A s (w_Top cy mAd GI GM GR lfa lfi lan siz len tok stt fin num flw byt dwat dlev dkin dcdp dsil sta wat lev kin cdp sil hour dep arr deb nxt kep fhour fdep farr fdeb gft bal giv tak inc trc nrs ++ w_FRing cy rAd r_hour r_dep r_arr r_deb) U locs := G
        refine lv_iload_n hx hb dX8_pay_40 rfl (lv_at hl 4 rfl) ?_
        refine lv_icmp_lt (tgt := 55) hx hb dX8_pay_41 (by decide) (fun c6 => ?_) (fun c6 => ?_)
        · have H := if_t H c6
          refine lv_ldc hx hb hown lk3 dX8_pay_55 ?_
          obtain rfl := Option.some.inj H
          exact ret_i C G rfl dX8_pay_57
        · have H := if_f H c6
          refine lv_aload hx hb dX8_pay_44 (lv_at hl 0 rfl) ?_
          refine va_get (D := D) (ci := 3) (v := .ref (mAd 19)) (C := RX3) (T := TX3) (N := 4) hx hb hts hiX3 hown hK G.1 18 rfl rfl 0 (by decide) lk4 (fun _ h9 => h9) rfl dX8_pay_46 ?_
          refine lv_iload_n hx hb dX8_pay_49 rfl (lv_at hl 2 rfl) ?_
          obtain ⟨hb7, H⟩ := gd_some H
          refine g_iald (v := dep (ix p1)) hx hb hK G.1 19 1 rfl rfl hb7 rfl dX8_pay_50 ?_
          refine lv_iload_n hx hb dX8_pay_51 rfl (lv_at hl 4 rfl) ?_
          refine lv_icmp_ge (tgt := 58) hx hb dX8_pay_52 (by decide) (fun c8 => ?_) (fun c8 => ?_)
          · have H := if_t H c8
            refine lv_aload_n hx hb dX8_pay_58 rfl (lv_at hl 1 rfl) ?_
            refine va_get (D := D) (ci := 8) (v := .ref (mAd 23)) (C := RX8) (T := TX8) (N := 11) hx hb hts hiX8 hown hK G.1 0 rfl rfl 5 (by decide) lk5 (fun _ h9 => h9) rfl dX8_pay_59 ?_
            refine lv_aload hx hb dX8_pay_62 (lv_at hl 0 rfl) ?_
            obtain ⟨z9, hz9, H⟩ := bd_some H
            refine MV.callVt [.ref (mAd 18)] [] [23, 24, 18, 19, 20, 21] C G (c_X5_keep l D cy (fun k => mAd (k + 23)) (fun k => mAd (k + 18)) rAd GR nxt kep hour dep arr deb r_hour r_dep r_arr r_deb hGR z9 hz9) gX8_pay_X5_keep rfl rfl rfl (n := 1) (by decide +kernel) ⟨Nat.le_of_ble_eq_true rfl, Nat.le_of_ble_eq_true rfl⟩ (q0 := 23) (ci := 5) rfl rfl rfl rfl rfl rfl (fam_len (fun _ => rfl)) rfl hl.1 rfl (Nat.le_of_ble_eq_true rfl) dX8_pay_64 ⟨Nat.zero_le _, Nat.zero_le _⟩ (fun U locs G => ?_)
            have G : Gd D A s (w_Top cy mAd GI GM GR lfa lfi lan siz len tok stt fin num flw byt dwat dlev dkin dcdp dsil sta wat lev kin cdp sil hour dep arr deb z9.1 z9.2.1 fhour fdep farr fdeb gft bal giv tak inc trc nrs ++ w_FRing cy rAd z9.2.2.1 z9.2.2.2.1 z9.2.2.2.2.1 z9.2.2.2.2.2) U locs := G
            refine lv_aload hx hb dX8_pay_67 (lv_at hl 0 rfl) ?_
            refine lv_iload_n hx hb dX8_pay_69 rfl (lv_at hl 2 rfl) ?_
            refine lv_iload_n hx hb dX8_pay_70 rfl (lv_at hl 3 rfl) ?_
            refine lv_iload_n hx hb dX8_pay_71 rfl (lv_at hl 4 rfl) ?_
            obtain ⟨z10, hz10, H⟩ := bd_some H
            refine MV.callV [.int p1, .int p2, .int p3] [] [18, 19, 20, 21] C G (c_X3_move l D cy (fun k => mAd (k + 18)) hour dep arr deb p1 p2 p3 z10 hz10) gX8_pay_X3_move rfl rfl rfl (n := 3) (by decide +kernel) ⟨Nat.le_of_ble_eq_true rfl, Nat.le_of_ble_eq_true rfl⟩ (q0 := 18) (ci := 3) rfl rfl rfl rfl rfl rfl rfl hl.1 rfl (Nat.le_of_ble_eq_true rfl) dX8_pay_72 ⟨Nat.zero_le _, Nat.zero_le _⟩ (fun U locs G => ?_)
            have G : Gd D A s (w_Top cy mAd GI GM GR lfa lfi lan siz len tok stt fin num flw byt dwat dlev dkin dcdp dsil sta wat lev kin cdp sil hour z10 arr deb z9.1 z9.2.1 fhour fdep farr fdeb gft bal giv tak inc trc nrs ++ w_FRing cy rAd z9.2.2.1 z9.2.2.2.1 z9.2.2.2.2.1 z9.2.2.2.2.2) U locs := G
            refine lv_aload hx hb dX8_pay_75 (lv_at hl 0 rfl) ?_
            refine lv_iload_n hx hb dX8_pay_77 rfl (lv_at hl 2 rfl) ?_
            refine lv_iload_n hx hb dX8_pay_78 rfl (lv_at hl 3 rfl) ?_
            refine lv_iload_n hx hb dX8_pay_79 rfl (lv_at hl 4 rfl) ?_
            refine lv_ineg hx hb dX8_pay_80 ?_
            obtain ⟨z11, hz11, H⟩ := bd_some H
            refine MI.callV z11.1 [.int p1, .int p2, .int (-p3)] [] [18, 19, 20, 21] C G (c_X3_addDebt l D cy (fun k => mAd (k + 18)) hour z10 arr deb p1 p2 (-p3) z11 hz11) gX8_pay_X3_addDebt rfl rfl rfl (n := 3) (by decide +kernel) ⟨Nat.le_of_ble_eq_true rfl, Nat.le_of_ble_eq_true rfl⟩ (q0 := 18) (ci := 3) rfl rfl rfl rfl rfl rfl rfl hl.1 rfl (Nat.le_of_ble_eq_true rfl) dX8_pay_81 ⟨Nat.zero_le _, Nat.zero_le _⟩ (fun U locs G => ?_)
            have G : Gd D A s (w_Top cy mAd GI GM GR lfa lfi lan siz len tok stt fin num flw byt dwat dlev dkin dcdp dsil sta wat lev kin cdp sil hour z10 arr z11.2 z9.1 z9.2.1 fhour fdep farr fdeb gft bal giv tak inc trc nrs ++ w_FRing cy rAd z9.2.2.1 z9.2.2.2.1 z9.2.2.2.2.1 z9.2.2.2.2.2) U locs := G
            obtain rfl := Option.some.inj H
            exact ret_i C G rfl dX8_pay_84
          · have H := if_f H c8
            refine lv_ldc hx hb hown lk3 dX8_pay_55 ?_
            obtain rfl := Option.some.inj H
            exact ret_i C G rfl dX8_pay_57
      · have H := if_f H c4
        refine lv_ldc hx hb hown lk0 dX8_pay_21 ?_
        obtain rfl := Option.some.inj H
        exact ret_i C G rfl dX8_pay_23
def f_X8_storm (sta wat hour : Int32) (dep arr deb : Nat → Int32) (nxt kep : Int32) (r_hour : Nat → Int32) (r_dep r_arr r_deb : Nat → Nat → Int32) (p1 : Int32) : Option (Int32 × (Nat → Int32) × (Nat → Int32) × Int32 × Int32 × (Nat → Int32) × (Nat → Nat → Int32) × (Nat → Nat → Int32) × (Nat → Nat → Int32)) := if sta = 0 then (some ((-1000002), dep, arr, nxt, kep, r_hour, r_dep, r_arr, r_deb)) else (if p1 < 1 then (some ((-1000001), dep, arr, nxt, kep, r_hour, r_dep, r_arr, r_deb)) else (if p1 ≤ 999999 then (bd (f_X5_keep nxt kep hour dep arr deb r_hour r_dep r_arr r_deb) (fun z4 => bd (f_X3_advance dep arr p1 wat) (fun z5 => some (z5.1, z5.2.1, z5.2.2, z4.1, z4.2.1, z4.2.2.1, z4.2.2.2.1, z4.2.2.2.2.1, z4.2.2.2.2.2)))) else (some ((-1000001), dep, arr, nxt, kep, r_hour, r_dep, r_arr, r_deb))))
set_option maxHeartbeats 4000000 in
set_option maxRecDepth 100000 in
theorem c_X8_storm (l : Launch) (D : va_G) (cy : Nat → ClassId) (mAd : Nat → Nat) (rAd : Nat → Nat → Nat) (GI GM GR : Nat → Option Nat) (lfa lfi : Int32) (lan siz : Nat → Int32) (len tok stt fin num flw : Int32) (byt : Nat → Int32) (dwat : Int32) (dlev dkin dcdp dsil : Nat → Int32) (sta wat : Int32) (lev kin cdp sil : Nat → Int32) (hour : Int32) (dep arr deb : Nat → Int32) (nxt kep fhour : Int32) (fdep farr fdeb : Nat → Int32) (gft : Int32) (bal giv tak inc : Nat → Int32) (trc : Int32) (nrs r_hour : Nat → Int32) (r_dep r_arr r_deb : Nat → Nat → Int32) (p1 : Int32) (hGR : ∀ k, k < 24 → GR k = some (rAd k 0)) (z : (Int32 × (Nat → Int32) × (Nat → Int32) × Int32 × Int32 × (Nat → Int32) × (Nat → Nat → Int32) × (Nat → Nat → Int32) × (Nat → Nat → Int32))) (hz : f_X8_storm sta wat hour dep arr deb nxt kep r_hour r_dep r_arr r_deb p1 = some z) : MI l yX8_storm wsX8_storm ({ frames := 3, cells := 0, slots := 0, locals := 102 } : Room) D cy [.ref (mAd 0), .int p1] (w_Top cy mAd GI GM GR lfa lfi lan siz len tok stt fin num flw byt dwat dlev dkin dcdp dsil sta wat lev kin cdp sil hour dep arr deb nxt kep fhour fdep farr fdeb gft bal giv tak inc trc nrs ++ w_FRing cy rAd r_hour r_dep r_arr r_deb) z.1 (w_Top cy mAd GI GM GR lfa lfi lan siz len tok stt fin num flw byt dwat dlev dkin dcdp dsil sta wat lev kin cdp sil hour z.2.1 z.2.2.1 deb z.2.2.2.1 z.2.2.2.2.1 fhour fdep farr fdeb gft bal giv tak inc trc nrs ++ w_FRing cy rAd z.2.2.2.2.2.1 z.2.2.2.2.2.2.1 z.2.2.2.2.2.2.2.1 z.2.2.2.2.2.2.2.2) := by
  refine met_start (Qf := fun A => MQi D cy z.1 (w_Top cy mAd GI GM GR lfa lfi lan siz len tok stt fin num flw byt dwat dlev dkin dcdp dsil sta wat lev kin cdp sil hour z.2.1 z.2.2.1 deb z.2.2.2.1 z.2.2.2.2.1 fhour fdep farr fdeb gft bal giv tak inc trc nrs ++ w_FRing cy rAd z.2.2.2.2.2.1 z.2.2.2.2.2.2.1 z.2.2.2.2.2.2.2.1 z.2.2.2.2.2.2.2.2) A) (cc := cX8_storm) (nL := 2) (ret := (some .int)) RX8 rfl (by decide) rfl (Nat.le_of_ble_eq_true rfl) ?_
  intro p e s m below meth c A ls C G hl
  have hl : lv_has ls 2 [(0, .ref (mAd 0)), (1, .int p1)] := hl
  have H := hz
  unfold f_X8_storm at H
  obtain ⟨hx, hb, hr, hml, hown, hts, hlk, hK, hA, hE⟩ := id C
  have lk0 := hts (Cond.fieldLink RX8 33 "TideDebts" "now" "LTideDebts$Bay;") (List.mem_of_getElem? (i := 1) rfl)
  have lk1 := hts (Cond.fieldLink RX8 146 "TideDebts$Bay" "stands" "Z") (List.mem_of_getElem? (i := 2) rfl)
  have lk2 := hts (Cond.constant RX8 73 (-1000001)) (List.mem_of_getElem? (i := 5) rfl)
  have lk3 := hts (Cond.constant RX8 181 (999999)) (List.mem_of_getElem? (i := 4) rfl)
  have lk4 := hts (Cond.fieldLink RX8 44 "TideDebts" "past" "LTideDebts$Past;") (List.mem_of_getElem? (i := 6) rfl)
  have lk5 := hts (Cond.fieldLink RX8 151 "TideDebts$Bay" "ledger" "LTideDebts$Ledger;") (List.mem_of_getElem? (i := 7) rfl)
  have lk6 := hts (Cond.fieldLink RX8 140 "TideDebts$Bay" "chart" "LTideDebts$Chart;") (List.mem_of_getElem? (i := 8) rfl)
  have lk7 := hts (Cond.fieldLink RX8 143 "TideDebts$Chart" "waters" "I") (List.mem_of_getElem? (i := 9) rfl)
  have lk8 := hts (Cond.constant RX8 150 (-1000002)) (List.mem_of_getElem? (i := 3) rfl)
  have hiX1 : ∀ w ∈ u_ws RX1 TX1 3, w ∈ wsX8_storm := fun _ h => List.mem_cons_of_mem _ (List.mem_append_left _ (List.mem_append_left _ (List.mem_append_left _ (List.mem_append_right _ h))))
  have hiX2 : ∀ w ∈ u_ws RX2 TX2 5, w ∈ wsX8_storm := fun _ h => List.mem_cons_of_mem _ (List.mem_append_left _ (List.mem_append_left _ (List.mem_append_right _ h)))
  have hiX8 : ∀ w ∈ u_ws RX8 TX8 11, w ∈ wsX8_storm := fun _ h => List.mem_cons_of_mem _ (List.mem_append_left _ (List.mem_append_left _ (List.mem_append_left _ (List.mem_append_left _ (List.mem_append_right _ h)))))
  refine lv_aload_n hx hb dX8_storm_0 rfl (lv_at hl 0 rfl) ?_
  refine va_get (D := D) (ci := 8) (v := .ref (mAd 12)) (C := RX8) (T := TX8) (N := 11) hx hb hts hiX8 hown hK G.1 0 rfl rfl 3 (by decide) lk0 (fun _ h9 => h9) rfl dX8_storm_1 ?_
  refine va_get (D := D) (ci := 1) (v := .int sta) (C := RX1) (T := TX1) (N := 3) hx hb hts hiX1 hown hK G.1 12 rfl rfl 2 (by decide) lk1 (fun _ h9 => h9) rfl dX8_storm_4 ?_
  refine lv_if_ne (tgt := 13) hx hb dX8_storm_7 (by decide) (fun c1 => ?_) (fun c1 => ?_)
  · have H := if_f H c1
    refine lv_iload_n hx hb dX8_storm_13 rfl (lv_at hl 1 rfl) ?_
    refine lv_iconst (v := 1) hx hb dX8_storm_14 (by decide) ?_
    refine lv_icmp_lt (tgt := 24) hx hb dX8_storm_15 (by decide) (fun c2 => ?_) (fun c2 => ?_)
    · have H := if_t H c2
      refine lv_ldc hx hb hown lk2 dX8_storm_24 ?_
      obtain rfl := Option.some.inj H
      exact ret_i C G rfl dX8_storm_26
    · have H := if_f H c2
      refine lv_iload_n hx hb dX8_storm_18 rfl (lv_at hl 1 rfl) ?_
      refine lv_ldc hx hb hown lk3 dX8_storm_19 ?_
      refine lv_icmp_le (tgt := 27) hx hb dX8_storm_21 (by decide) (fun c3 => ?_) (fun c3 => ?_)
      · have H := if_t H c3
        refine lv_aload_n hx hb dX8_storm_27 rfl (lv_at hl 0 rfl) ?_
        refine va_get (D := D) (ci := 8) (v := .ref (mAd 23)) (C := RX8) (T := TX8) (N := 11) hx hb hts hiX8 hown hK G.1 0 rfl rfl 5 (by decide) lk4 (fun _ h9 => h9) rfl dX8_storm_28 ?_
        refine lv_aload_n hx hb dX8_storm_31 rfl (lv_at hl 0 rfl) ?_
        refine va_get (D := D) (ci := 8) (v := .ref (mAd 12)) (C := RX8) (T := TX8) (N := 11) hx hb hts hiX8 hown hK G.1 0 rfl rfl 3 (by decide) lk0 (fun _ h9 => h9) rfl dX8_storm_32 ?_
        refine va_get (D := D) (ci := 1) (v := .ref (mAd 18)) (C := RX1) (T := TX1) (N := 3) hx hb hts hiX1 hown hK G.1 12 rfl rfl 1 (by decide) lk5 (fun _ h9 => h9) rfl dX8_storm_35 ?_
        obtain ⟨z4, hz4, H⟩ := bd_some H
        refine MV.callVt [.ref (mAd 18)] [] [23, 24, 18, 19, 20, 21] C G (c_X5_keep l D cy (fun k => mAd (k + 23)) (fun k => mAd (k + 18)) rAd GR nxt kep hour dep arr deb r_hour r_dep r_arr r_deb hGR z4 hz4) gX8_storm_X5_keep rfl rfl rfl (n := 1) (by decide +kernel) ⟨Nat.le_of_ble_eq_true rfl, Nat.le_of_ble_eq_true rfl⟩ (q0 := 23) (ci := 5) rfl rfl rfl rfl rfl rfl (fam_len (fun _ => rfl)) rfl hl.1 rfl (Nat.le_of_ble_eq_true rfl) dX8_storm_38 ⟨Nat.zero_le _, Nat.zero_le _⟩ (fun U locs G => ?_)
        have G : Gd D A s (w_Top cy mAd GI GM GR lfa lfi lan siz len tok stt fin num flw byt dwat dlev dkin dcdp dsil sta wat lev kin cdp sil hour dep arr deb z4.1 z4.2.1 fhour fdep farr fdeb gft bal giv tak inc trc nrs ++ w_FRing cy rAd z4.2.2.1 z4.2.2.2.1 z4.2.2.2.2.1 z4.2.2.2.2.2) U locs := G
        refine lv_aload_n hx hb dX8_storm_41 rfl (lv_at hl 0 rfl) ?_
        refine va_get (D := D) (ci := 8) (v := .ref (mAd 12)) (C := RX8) (T := TX8) (N := 11) hx hb hts hiX8 hown hK G.1 0 rfl rfl 3 (by decide) lk0 (fun _ h9 => h9) rfl dX8_storm_42 ?_
        refine va_get (D := D) (ci := 1) (v := .ref (mAd 18)) (C := RX1) (T := TX1) (N := 3) hx hb hts hiX1 hown hK G.1 12 rfl rfl 1 (by decide) lk5 (fun _ h9 => h9) rfl dX8_storm_45 ?_
        refine lv_iload_n hx hb dX8_storm_48 rfl (lv_at hl 1 rfl) ?_
        refine lv_aload_n hx hb dX8_storm_49 rfl (lv_at hl 0 rfl) ?_
        refine va_get (D := D) (ci := 8) (v := .ref (mAd 12)) (C := RX8) (T := TX8) (N := 11) hx hb hts hiX8 hown hK G.1 0 rfl rfl 3 (by decide) lk0 (fun _ h9 => h9) rfl dX8_storm_50 ?_
        refine va_get (D := D) (ci := 1) (v := .ref (mAd 13)) (C := RX1) (T := TX1) (N := 3) hx hb hts hiX1 hown hK G.1 12 rfl rfl 0 (by decide) lk6 (fun _ h9 => h9) rfl dX8_storm_53 ?_
        refine va_get (D := D) (ci := 2) (v := .int wat) (C := RX2) (T := TX2) (N := 5) hx hb hts hiX2 hown hK G.1 13 rfl rfl 4 (by decide) lk7 (fun _ h9 => h9) rfl dX8_storm_56 ?_
        obtain ⟨z5, hz5, H⟩ := bd_some H
        refine MI.callV z5.1 [.int p1, .int wat] [] [18, 19, 20, 21] C G (c_X3_advance l D cy (fun k => mAd (k + 18)) hour dep arr deb p1 wat z5 hz5) gX8_storm_X3_advance rfl rfl rfl (n := 2) (by decide +kernel) ⟨Nat.le_of_ble_eq_true rfl, Nat.le_of_ble_eq_true rfl⟩ (q0 := 18) (ci := 3) rfl rfl rfl rfl rfl rfl rfl hl.1 rfl (Nat.le_of_ble_eq_true rfl) dX8_storm_59 ⟨Nat.zero_le _, Nat.zero_le _⟩ (fun U locs G => ?_)
        have G : Gd D A s (w_Top cy mAd GI GM GR lfa lfi lan siz len tok stt fin num flw byt dwat dlev dkin dcdp dsil sta wat lev kin cdp sil hour z5.2.1 z5.2.2 deb z4.1 z4.2.1 fhour fdep farr fdeb gft bal giv tak inc trc nrs ++ w_FRing cy rAd z4.2.2.1 z4.2.2.2.1 z4.2.2.2.2.1 z4.2.2.2.2.2) U locs := G
        obtain rfl := Option.some.inj H
        exact ret_i C G rfl dX8_storm_62
      · have H := if_f H c3
        refine lv_ldc hx hb hown lk2 dX8_storm_24 ?_
        obtain rfl := Option.some.inj H
        exact ret_i C G rfl dX8_storm_26
  · have H := if_t H c1
    refine lv_ldc hx hb hown lk8 dX8_storm_10 ?_
    obtain rfl := Option.some.inj H
    exact ret_i C G rfl dX8_storm_12
def f_X8_settle (sta wat hour : Int32) (dep arr deb : Nat → Int32) (nxt kep gft : Int32) (bal giv tak inc r_hour : Nat → Int32) (r_dep r_arr r_deb : Nat → Nat → Int32) : Option (Int32 × (Nat → Int32) × (Nat → Int32) × Int32 × Int32 × Int32 × (Nat → Int32) × (Nat → Int32) × (Nat → Int32) × (Nat → Int32) × (Nat → Int32) × (Nat → Nat → Int32) × (Nat → Nat → Int32) × (Nat → Nat → Int32)) := if sta = 0 then (some ((-1000002), dep, deb, nxt, kep, gft, bal, giv, tak, inc, r_hour, r_dep, r_arr, r_deb)) else (bd (f_X4_canBe dep deb wat) (fun z2 => if z2 = 0 then (some ((-1000002), dep, deb, nxt, kep, gft, bal, giv, tak, inc, r_hour, r_dep, r_arr, r_deb)) else (bd (f_X4_workOut gft bal giv tak inc deb wat) (fun z4 => bd (f_X5_keep nxt kep hour dep arr deb r_hour r_dep r_arr r_deb) (fun z5 => bd (f_X4_moveAll z4.1 z4.2.2.1 z4.2.2.2.1 z4.2.2.2.2 dep deb) (fun z6 => some (z6.1, z6.2.1, z6.2.2, z5.1, z5.2.1, z4.1, z4.2.1, z4.2.2.1, z4.2.2.2.1, z4.2.2.2.2, z5.2.2.1, z5.2.2.2.1, z5.2.2.2.2.1, z5.2.2.2.2.2)))))))
set_option maxHeartbeats 4000000 in
set_option maxRecDepth 100000 in
theorem c_X8_settle (l : Launch) (D : va_G) (cy : Nat → ClassId) (mAd : Nat → Nat) (rAd : Nat → Nat → Nat) (GI GM GR : Nat → Option Nat) (lfa lfi : Int32) (lan siz : Nat → Int32) (len tok stt fin num flw : Int32) (byt : Nat → Int32) (dwat : Int32) (dlev dkin dcdp dsil : Nat → Int32) (sta wat : Int32) (lev kin cdp sil : Nat → Int32) (hour : Int32) (dep arr deb : Nat → Int32) (nxt kep fhour : Int32) (fdep farr fdeb : Nat → Int32) (gft : Int32) (bal giv tak inc : Nat → Int32) (trc : Int32) (nrs r_hour : Nat → Int32) (r_dep r_arr r_deb : Nat → Nat → Int32) (hGR : ∀ k, k < 24 → GR k = some (rAd k 0)) (z : (Int32 × (Nat → Int32) × (Nat → Int32) × Int32 × Int32 × Int32 × (Nat → Int32) × (Nat → Int32) × (Nat → Int32) × (Nat → Int32) × (Nat → Int32) × (Nat → Nat → Int32) × (Nat → Nat → Int32) × (Nat → Nat → Int32))) (hz : f_X8_settle sta wat hour dep arr deb nxt kep gft bal giv tak inc r_hour r_dep r_arr r_deb = some z) : MI l yX8_settle wsX8_settle ({ frames := 4, cells := 0, slots := 0, locals := 102 } : Room) D cy [.ref (mAd 0)] (w_Top cy mAd GI GM GR lfa lfi lan siz len tok stt fin num flw byt dwat dlev dkin dcdp dsil sta wat lev kin cdp sil hour dep arr deb nxt kep fhour fdep farr fdeb gft bal giv tak inc trc nrs ++ w_FRing cy rAd r_hour r_dep r_arr r_deb) z.1 (w_Top cy mAd GI GM GR lfa lfi lan siz len tok stt fin num flw byt dwat dlev dkin dcdp dsil sta wat lev kin cdp sil hour z.2.1 arr z.2.2.1 z.2.2.2.1 z.2.2.2.2.1 fhour fdep farr fdeb z.2.2.2.2.2.1 z.2.2.2.2.2.2.1 z.2.2.2.2.2.2.2.1 z.2.2.2.2.2.2.2.2.1 z.2.2.2.2.2.2.2.2.2.1 trc nrs ++ w_FRing cy rAd z.2.2.2.2.2.2.2.2.2.2.1 z.2.2.2.2.2.2.2.2.2.2.2.1 z.2.2.2.2.2.2.2.2.2.2.2.2.1 z.2.2.2.2.2.2.2.2.2.2.2.2.2) := by
  refine met_start (Qf := fun A => MQi D cy z.1 (w_Top cy mAd GI GM GR lfa lfi lan siz len tok stt fin num flw byt dwat dlev dkin dcdp dsil sta wat lev kin cdp sil hour z.2.1 arr z.2.2.1 z.2.2.2.1 z.2.2.2.2.1 fhour fdep farr fdeb z.2.2.2.2.2.1 z.2.2.2.2.2.2.1 z.2.2.2.2.2.2.2.1 z.2.2.2.2.2.2.2.2.1 z.2.2.2.2.2.2.2.2.2.1 trc nrs ++ w_FRing cy rAd z.2.2.2.2.2.2.2.2.2.2.1 z.2.2.2.2.2.2.2.2.2.2.2.1 z.2.2.2.2.2.2.2.2.2.2.2.2.1 z.2.2.2.2.2.2.2.2.2.2.2.2.2) A) (cc := cX8_settle) (nL := 1) (ret := (some .int)) RX8 rfl (by decide) rfl (Nat.le_of_ble_eq_true rfl) ?_
  intro p e s m below meth c A ls C G hl
  have hl : lv_has ls 1 [(0, .ref (mAd 0))] := hl
  have H := hz
  unfold f_X8_settle at H
  obtain ⟨hx, hb, hr, hml, hown, hts, hlk, hK, hA, hE⟩ := id C
  have lk0 := hts (Cond.fieldLink RX8 33 "TideDebts" "now" "LTideDebts$Bay;") (List.mem_of_getElem? (i := 1) rfl)
  have lk1 := hts (Cond.fieldLink RX8 146 "TideDebts$Bay" "stands" "Z") (List.mem_of_getElem? (i := 2) rfl)
  have lk2 := hts (Cond.constant RX8 150 (-1000002)) (List.mem_of_getElem? (i := 7) rfl)
  have lk3 := hts (Cond.fieldLink RX8 58 "TideDebts" "netting" "LTideDebts$Netting;") (List.mem_of_getElem? (i := 3) rfl)
  have lk4 := hts (Cond.fieldLink RX8 151 "TideDebts$Bay" "ledger" "LTideDebts$Ledger;") (List.mem_of_getElem? (i := 4) rfl)
  have lk5 := hts (Cond.fieldLink RX8 140 "TideDebts$Bay" "chart" "LTideDebts$Chart;") (List.mem_of_getElem? (i := 5) rfl)
  have lk6 := hts (Cond.fieldLink RX8 143 "TideDebts$Chart" "waters" "I") (List.mem_of_getElem? (i := 6) rfl)
  have lk7 := hts (Cond.fieldLink RX8 44 "TideDebts" "past" "LTideDebts$Past;") (List.mem_of_getElem? (i := 8) rfl)
  have hiX1 : ∀ w ∈ u_ws RX1 TX1 3, w ∈ wsX8_settle := fun _ h => List.mem_cons_of_mem _ (List.mem_append_left _ (List.mem_append_left _ (List.mem_append_left _ (List.mem_append_left _ (List.mem_append_right _ h)))))
  have hiX2 : ∀ w ∈ u_ws RX2 TX2 5, w ∈ wsX8_settle := fun _ h => List.mem_cons_of_mem _ (List.mem_append_left _ (List.mem_append_left _ (List.mem_append_left _ (List.mem_append_right _ h))))
  have hiX8 : ∀ w ∈ u_ws RX8 TX8 11, w ∈ wsX8_settle := fun _ h => List.mem_cons_of_mem _ (List.mem_append_left _ (List.mem_append_left _ (List.mem_append_left _ (List.mem_append_left _ (List.mem_append_left _ (List.mem_append_right _ h))))))
  refine lv_aload_n hx hb dX8_settle_0 rfl (lv_at hl 0 rfl) ?_
  refine va_get (D := D) (ci := 8) (v := .ref (mAd 12)) (C := RX8) (T := TX8) (N := 11) hx hb hts hiX8 hown hK G.1 0 rfl rfl 3 (by decide) lk0 (fun _ h9 => h9) rfl dX8_settle_1 ?_
  refine va_get (D := D) (ci := 1) (v := .int sta) (C := RX1) (T := TX1) (N := 3) hx hb hts hiX1 hown hK G.1 12 rfl rfl 2 (by decide) lk1 (fun _ h9 => h9) rfl dX8_settle_4 ?_
  refine lv_if_eq (tgt := 37) hx hb dX8_settle_7 (by decide) (fun c1 => ?_) (fun c1 => ?_)
  · have H := if_t H c1
    refine lv_ldc hx hb hown lk2 dX8_settle_37 ?_
    obtain rfl := Option.some.inj H
    exact ret_i C G rfl dX8_settle_39
  · have H := if_f H c1
    refine lv_aload_n hx hb dX8_settle_10 rfl (lv_at hl 0 rfl) ?_
    refine va_get (D := D) (ci := 8) (v := .ref (mAd 29)) (C := RX8) (T := TX8) (N := 11) hx hb hts hiX8 hown hK G.1 0 rfl rfl 7 (by decide) lk3 (fun _ h9 => h9) rfl dX8_settle_11 ?_
    refine lv_aload_n hx hb dX8_settle_14 rfl (lv_at hl 0 rfl) ?_
    refine va_get (D := D) (ci := 8) (v := .ref (mAd 12)) (C := RX8) (T := TX8) (N := 11) hx hb hts hiX8 hown hK G.1 0 rfl rfl 3 (by decide) lk0 (fun _ h9 => h9) rfl dX8_settle_15 ?_
    refine va_get (D := D) (ci := 1) (v := .ref (mAd 18)) (C := RX1) (T := TX1) (N := 3) hx hb hts hiX1 hown hK G.1 12 rfl rfl 1 (by decide) lk4 (fun _ h9 => h9) rfl dX8_settle_18 ?_
    refine lv_aload_n hx hb dX8_settle_21 rfl (lv_at hl 0 rfl) ?_
    refine va_get (D := D) (ci := 8) (v := .ref (mAd 12)) (C := RX8) (T := TX8) (N := 11) hx hb hts hiX8 hown hK G.1 0 rfl rfl 3 (by decide) lk0 (fun _ h9 => h9) rfl dX8_settle_22 ?_
    refine va_get (D := D) (ci := 1) (v := .ref (mAd 13)) (C := RX1) (T := TX1) (N := 3) hx hb hts hiX1 hown hK G.1 12 rfl rfl 0 (by decide) lk5 (fun _ h9 => h9) rfl dX8_settle_25 ?_
    refine va_get (D := D) (ci := 2) (v := .int wat) (C := RX2) (T := TX2) (N := 5) hx hb hts hiX2 hown hK G.1 13 rfl rfl 4 (by decide) lk6 (fun _ h9 => h9) rfl dX8_settle_28 ?_
    obtain ⟨z2, hz2, H⟩ := bd_some H
    refine MI.callV z2 [.ref (mAd 18), .int wat] [] [29, 30, 31, 32, 33, 18, 19, 20, 21] C G (c_X4_canBe l D cy (fun k => mAd (k + 29)) (fun k => mAd (k + 18)) gft bal giv tak inc hour dep arr deb wat z2 hz2) gX8_settle_X4_canBe rfl rfl rfl (n := 2) (by decide +kernel) ⟨Nat.le_of_ble_eq_true rfl, Nat.le_of_ble_eq_true rfl⟩ (q0 := 29) (ci := 4) rfl rfl rfl rfl rfl rfl rfl hl.1 rfl (Nat.le_of_ble_eq_true rfl) dX8_settle_31 ⟨Nat.zero_le _, Nat.zero_le _⟩ (fun U locs G => ?_)
    have G : Gd D A s (w_Top cy mAd GI GM GR lfa lfi lan siz len tok stt fin num flw byt dwat dlev dkin dcdp dsil sta wat lev kin cdp sil hour dep arr deb nxt kep fhour fdep farr fdeb gft bal giv tak inc trc nrs ++ w_FRing cy rAd r_hour r_dep r_arr r_deb) U locs := G
    refine lv_if_ne (tgt := 40) hx hb dX8_settle_34 (by decide) (fun c3 => ?_) (fun c3 => ?_)
    · have H := if_f H c3
      refine lv_aload_n hx hb dX8_settle_40 rfl (lv_at hl 0 rfl) ?_
      refine va_get (D := D) (ci := 8) (v := .ref (mAd 29)) (C := RX8) (T := TX8) (N := 11) hx hb hts hiX8 hown hK G.1 0 rfl rfl 7 (by decide) lk3 (fun _ h9 => h9) rfl dX8_settle_41 ?_
      refine lv_aload_n hx hb dX8_settle_44 rfl (lv_at hl 0 rfl) ?_
      refine va_get (D := D) (ci := 8) (v := .ref (mAd 12)) (C := RX8) (T := TX8) (N := 11) hx hb hts hiX8 hown hK G.1 0 rfl rfl 3 (by decide) lk0 (fun _ h9 => h9) rfl dX8_settle_45 ?_
      refine va_get (D := D) (ci := 1) (v := .ref (mAd 18)) (C := RX1) (T := TX1) (N := 3) hx hb hts hiX1 hown hK G.1 12 rfl rfl 1 (by decide) lk4 (fun _ h9 => h9) rfl dX8_settle_48 ?_
      refine lv_aload_n hx hb dX8_settle_51 rfl (lv_at hl 0 rfl) ?_
      refine va_get (D := D) (ci := 8) (v := .ref (mAd 12)) (C := RX8) (T := TX8) (N := 11) hx hb hts hiX8 hown hK G.1 0 rfl rfl 3 (by decide) lk0 (fun _ h9 => h9) rfl dX8_settle_52 ?_
      refine va_get (D := D) (ci := 1) (v := .ref (mAd 13)) (C := RX1) (T := TX1) (N := 3) hx hb hts hiX1 hown hK G.1 12 rfl rfl 0 (by decide) lk5 (fun _ h9 => h9) rfl dX8_settle_55 ?_
      refine va_get (D := D) (ci := 2) (v := .int wat) (C := RX2) (T := TX2) (N := 5) hx hb hts hiX2 hown hK G.1 13 rfl rfl 4 (by decide) lk6 (fun _ h9 => h9) rfl dX8_settle_58 ?_
      obtain ⟨z4, hz4, H⟩ := bd_some H
      refine MV.callV [.ref (mAd 18), .int wat] [] [29, 30, 31, 32, 33, 18, 19, 20, 21] C G (c_X4_workOut l D cy (fun k => mAd (k + 29)) (fun k => mAd (k + 18)) gft bal giv tak inc hour dep arr deb wat z4 hz4) gX8_settle_X4_workOut rfl rfl rfl (n := 2) (by decide +kernel) ⟨Nat.le_of_ble_eq_true rfl, Nat.le_of_ble_eq_true rfl⟩ (q0 := 29) (ci := 4) rfl rfl rfl rfl rfl rfl rfl hl.1 rfl (Nat.le_of_ble_eq_true rfl) dX8_settle_61 ⟨Nat.zero_le _, Nat.zero_le _⟩ (fun U locs G => ?_)
      have G : Gd D A s (w_Top cy mAd GI GM GR lfa lfi lan siz len tok stt fin num flw byt dwat dlev dkin dcdp dsil sta wat lev kin cdp sil hour dep arr deb nxt kep fhour fdep farr fdeb z4.1 z4.2.1 z4.2.2.1 z4.2.2.2.1 z4.2.2.2.2 trc nrs ++ w_FRing cy rAd r_hour r_dep r_arr r_deb) U locs := G
      refine lv_aload_n hx hb dX8_settle_64 rfl (lv_at hl 0 rfl) ?_
      refine va_get (D := D) (ci := 8) (v := .ref (mAd 23)) (C := RX8) (T := TX8) (N := 11) hx hb hts hiX8 hown hK G.1 0 rfl rfl 5 (by decide) lk7 (fun _ h9 => h9) rfl dX8_settle_65 ?_
      refine lv_aload_n hx hb dX8_settle_68 rfl (lv_at hl 0 rfl) ?_
      refine va_get (D := D) (ci := 8) (v := .ref (mAd 12)) (C := RX8) (T := TX8) (N := 11) hx hb hts hiX8 hown hK G.1 0 rfl rfl 3 (by decide) lk0 (fun _ h9 => h9) rfl dX8_settle_69 ?_
      refine va_get (D := D) (ci := 1) (v := .ref (mAd 18)) (C := RX1) (T := TX1) (N := 3) hx hb hts hiX1 hown hK G.1 12 rfl rfl 1 (by decide) lk4 (fun _ h9 => h9) rfl dX8_settle_72 ?_
      obtain ⟨z5, hz5, H⟩ := bd_some H
      refine MV.callVt [.ref (mAd 18)] [] [23, 24, 18, 19, 20, 21] C G (c_X5_keep l D cy (fun k => mAd (k + 23)) (fun k => mAd (k + 18)) rAd GR nxt kep hour dep arr deb r_hour r_dep r_arr r_deb hGR z5 hz5) gX8_settle_X5_keep rfl rfl rfl (n := 1) (by decide +kernel) ⟨Nat.le_of_ble_eq_true rfl, Nat.le_of_ble_eq_true rfl⟩ (q0 := 23) (ci := 5) rfl rfl rfl rfl rfl rfl (fam_len (fun _ => rfl)) rfl hl.1 rfl (Nat.le_of_ble_eq_true rfl) dX8_settle_75 ⟨Nat.zero_le _, Nat.zero_le _⟩ (fun U locs G => ?_)
      have G : Gd D A s (w_Top cy mAd GI GM GR lfa lfi lan siz len tok stt fin num flw byt dwat dlev dkin dcdp dsil sta wat lev kin cdp sil hour dep arr deb z5.1 z5.2.1 fhour fdep farr fdeb z4.1 z4.2.1 z4.2.2.1 z4.2.2.2.1 z4.2.2.2.2 trc nrs ++ w_FRing cy rAd z5.2.2.1 z5.2.2.2.1 z5.2.2.2.2.1 z5.2.2.2.2.2) U locs := G
      refine lv_aload_n hx hb dX8_settle_78 rfl (lv_at hl 0 rfl) ?_
      refine va_get (D := D) (ci := 8) (v := .ref (mAd 29)) (C := RX8) (T := TX8) (N := 11) hx hb hts hiX8 hown hK G.1 0 rfl rfl 7 (by decide) lk3 (fun _ h9 => h9) rfl dX8_settle_79 ?_
      refine lv_aload_n hx hb dX8_settle_82 rfl (lv_at hl 0 rfl) ?_
      refine va_get (D := D) (ci := 8) (v := .ref (mAd 12)) (C := RX8) (T := TX8) (N := 11) hx hb hts hiX8 hown hK G.1 0 rfl rfl 3 (by decide) lk0 (fun _ h9 => h9) rfl dX8_settle_83 ?_
      refine va_get (D := D) (ci := 1) (v := .ref (mAd 18)) (C := RX1) (T := TX1) (N := 3) hx hb hts hiX1 hown hK G.1 12 rfl rfl 1 (by decide) lk4 (fun _ h9 => h9) rfl dX8_settle_86 ?_
      obtain ⟨z6, hz6, H⟩ := bd_some H
      refine MI.callV z6.1 [.ref (mAd 18)] [] [29, 30, 31, 32, 33, 18, 19, 20, 21] C G (c_X4_moveAll l D cy (fun k => mAd (k + 29)) (fun k => mAd (k + 18)) z4.1 z4.2.1 z4.2.2.1 z4.2.2.2.1 z4.2.2.2.2 hour dep arr deb z6 hz6) gX8_settle_X4_moveAll rfl rfl rfl (n := 1) (by decide +kernel) ⟨Nat.le_of_ble_eq_true rfl, Nat.le_of_ble_eq_true rfl⟩ (q0 := 29) (ci := 4) rfl rfl rfl rfl rfl rfl rfl hl.1 rfl (Nat.le_of_ble_eq_true rfl) dX8_settle_89 ⟨Nat.zero_le _, Nat.zero_le _⟩ (fun U locs G => ?_)
      have G : Gd D A s (w_Top cy mAd GI GM GR lfa lfi lan siz len tok stt fin num flw byt dwat dlev dkin dcdp dsil sta wat lev kin cdp sil hour z6.2.1 arr z6.2.2 z5.1 z5.2.1 fhour fdep farr fdeb z4.1 z4.2.1 z4.2.2.1 z4.2.2.2.1 z4.2.2.2.2 trc nrs ++ w_FRing cy rAd z5.2.2.1 z5.2.2.2.1 z5.2.2.2.2.1 z5.2.2.2.2.2) U locs := G
      obtain rfl := Option.some.inj H
      exact ret_i C G rfl dX8_settle_92
    · have H := if_t H c3
      refine lv_ldc hx hb hown lk2 dX8_settle_37 ?_
      obtain rfl := Option.some.inj H
      exact ret_i C G rfl dX8_settle_39
def f_X8_undo (hour : Int32) (dep arr deb : Nat → Int32) (nxt kep : Int32) (r_hour : Nat → Int32) (r_dep r_arr r_deb : Nat → Nat → Int32) : Option (Int32 × Int32 × (Nat → Int32) × (Nat → Int32) × (Nat → Int32) × Int32 × Int32) := if 1 ≤ kep then (bd (f_X5_giveBack nxt kep hour dep arr deb r_hour r_dep r_arr r_deb) (fun z2 => some (z2.2.1, z2.2.2.1, z2.2.2.2.1, z2.2.2.2.2.1, z2.2.2.2.2.2, z2.1, z2.2.1))) else (some ((-1000002), hour, dep, arr, deb, nxt, kep))
set_option maxHeartbeats 4000000 in
set_option maxRecDepth 100000 in
theorem c_X8_undo (l : Launch) (D : va_G) (cy : Nat → ClassId) (mAd : Nat → Nat) (rAd : Nat → Nat → Nat) (GI GM GR : Nat → Option Nat) (lfa lfi : Int32) (lan siz : Nat → Int32) (len tok stt fin num flw : Int32) (byt : Nat → Int32) (dwat : Int32) (dlev dkin dcdp dsil : Nat → Int32) (sta wat : Int32) (lev kin cdp sil : Nat → Int32) (hour : Int32) (dep arr deb : Nat → Int32) (nxt kep fhour : Int32) (fdep farr fdeb : Nat → Int32) (gft : Int32) (bal giv tak inc : Nat → Int32) (trc : Int32) (nrs r_hour : Nat → Int32) (r_dep r_arr r_deb : Nat → Nat → Int32) (hGR : ∀ k, k < 24 → GR k = some (rAd k 0)) (z : (Int32 × Int32 × (Nat → Int32) × (Nat → Int32) × (Nat → Int32) × Int32 × Int32)) (hz : f_X8_undo hour dep arr deb nxt kep r_hour r_dep r_arr r_deb = some z) : MI l yX8_undo wsX8_undo ({ frames := 3, cells := 0, slots := 0, locals := 102 } : Room) D cy [.ref (mAd 0)] (w_Top cy mAd GI GM GR lfa lfi lan siz len tok stt fin num flw byt dwat dlev dkin dcdp dsil sta wat lev kin cdp sil hour dep arr deb nxt kep fhour fdep farr fdeb gft bal giv tak inc trc nrs ++ w_FRing cy rAd r_hour r_dep r_arr r_deb) z.1 (w_Top cy mAd GI GM GR lfa lfi lan siz len tok stt fin num flw byt dwat dlev dkin dcdp dsil sta wat lev kin cdp sil z.2.1 z.2.2.1 z.2.2.2.1 z.2.2.2.2.1 z.2.2.2.2.2.1 z.2.2.2.2.2.2 fhour fdep farr fdeb gft bal giv tak inc trc nrs ++ w_FRing cy rAd r_hour r_dep r_arr r_deb) := by
  refine met_start (Qf := fun A => MQi D cy z.1 (w_Top cy mAd GI GM GR lfa lfi lan siz len tok stt fin num flw byt dwat dlev dkin dcdp dsil sta wat lev kin cdp sil z.2.1 z.2.2.1 z.2.2.2.1 z.2.2.2.2.1 z.2.2.2.2.2.1 z.2.2.2.2.2.2 fhour fdep farr fdeb gft bal giv tak inc trc nrs ++ w_FRing cy rAd r_hour r_dep r_arr r_deb) A) (cc := cX8_undo) (nL := 1) (ret := (some .int)) RX8 rfl (by decide) rfl (Nat.le_of_ble_eq_true rfl) ?_
  intro p e s m below meth c A ls C G hl
  have hl : lv_has ls 1 [(0, .ref (mAd 0))] := hl
  have H := hz
  unfold f_X8_undo at H
  obtain ⟨hx, hb, hr, hml, hown, hts, hlk, hK, hA, hE⟩ := id C
  have lk0 := hts (Cond.fieldLink RX8 44 "TideDebts" "past" "LTideDebts$Past;") (List.mem_of_getElem? (i := 1) rfl)
  have lk1 := hts (Cond.fieldLink RX8 197 "TideDebts$Past" "kept" "I") (List.mem_of_getElem? (i := 2) rfl)
  have lk2 := hts (Cond.fieldLink RX8 33 "TideDebts" "now" "LTideDebts$Bay;") (List.mem_of_getElem? (i := 4) rfl)
  have lk3 := hts (Cond.fieldLink RX8 151 "TideDebts$Bay" "ledger" "LTideDebts$Ledger;") (List.mem_of_getElem? (i := 5) rfl)
  have lk4 := hts (Cond.constant RX8 150 (-1000002)) (List.mem_of_getElem? (i := 3) rfl)
  have hiX1 : ∀ w ∈ u_ws RX1 TX1 3, w ∈ wsX8_undo := fun _ h => List.mem_cons_of_mem _ (List.mem_append_left _ (List.mem_append_right _ h))
  have hiX5 : ∀ w ∈ u_ws RX5 TX5 3, w ∈ wsX8_undo := fun _ h => List.mem_cons_of_mem _ (List.mem_append_left _ (List.mem_append_left _ (List.mem_append_right _ h)))
  have hiX8 : ∀ w ∈ u_ws RX8 TX8 11, w ∈ wsX8_undo := fun _ h => List.mem_cons_of_mem _ (List.mem_append_left _ (List.mem_append_left _ (List.mem_append_left _ (List.mem_append_right _ h))))
  refine lv_aload_n hx hb dX8_undo_0 rfl (lv_at hl 0 rfl) ?_
  refine va_get (D := D) (ci := 8) (v := .ref (mAd 23)) (C := RX8) (T := TX8) (N := 11) hx hb hts hiX8 hown hK G.1 0 rfl rfl 5 (by decide) lk0 (fun _ h9 => h9) rfl dX8_undo_1 ?_
  refine va_get (D := D) (ci := 5) (v := .int kep) (C := RX5) (T := TX5) (N := 3) hx hb hts hiX5 hown hK G.1 23 rfl rfl 2 (by decide) lk1 (fun _ h9 => h9) rfl dX8_undo_4 ?_
  refine lv_iconst (v := 1) hx hb dX8_undo_7 (by decide) ?_
  refine lv_icmp_ge (tgt := 14) hx hb dX8_undo_8 (by decide) (fun c1 => ?_) (fun c1 => ?_)
  · have H := if_t H c1
    refine lv_aload_n hx hb dX8_undo_14 rfl (lv_at hl 0 rfl) ?_
    refine va_get (D := D) (ci := 8) (v := .ref (mAd 23)) (C := RX8) (T := TX8) (N := 11) hx hb hts hiX8 hown hK G.1 0 rfl rfl 5 (by decide) lk0 (fun _ h9 => h9) rfl dX8_undo_15 ?_
    refine lv_aload_n hx hb dX8_undo_18 rfl (lv_at hl 0 rfl) ?_
    refine va_get (D := D) (ci := 8) (v := .ref (mAd 12)) (C := RX8) (T := TX8) (N := 11) hx hb hts hiX8 hown hK G.1 0 rfl rfl 3 (by decide) lk2 (fun _ h9 => h9) rfl dX8_undo_19 ?_
    refine va_get (D := D) (ci := 1) (v := .ref (mAd 18)) (C := RX1) (T := TX1) (N := 3) hx hb hts hiX1 hown hK G.1 12 rfl rfl 1 (by decide) lk3 (fun _ h9 => h9) rfl dX8_undo_22 ?_
    obtain ⟨z2, hz2, H⟩ := bd_some H
    refine MV.callVt [.ref (mAd 18)] [] [23, 24, 18, 19, 20, 21] C G (c_X5_giveBack l D cy (fun k => mAd (k + 23)) (fun k => mAd (k + 18)) rAd GR nxt kep hour dep arr deb r_hour r_dep r_arr r_deb hGR z2 hz2) gX8_undo_X5_giveBack rfl rfl rfl (n := 1) (by decide +kernel) ⟨Nat.le_of_ble_eq_true rfl, Nat.le_of_ble_eq_true rfl⟩ (q0 := 23) (ci := 5) rfl rfl rfl rfl rfl rfl (fam_len (fun _ => rfl)) rfl hl.1 rfl (Nat.le_of_ble_eq_true rfl) dX8_undo_25 ⟨Nat.zero_le _, Nat.zero_le _⟩ (fun U locs G => ?_)
    have G : Gd D A s (w_Top cy mAd GI GM GR lfa lfi lan siz len tok stt fin num flw byt dwat dlev dkin dcdp dsil sta wat lev kin cdp sil z2.2.2.1 z2.2.2.2.1 z2.2.2.2.2.1 z2.2.2.2.2.2 z2.1 z2.2.1 fhour fdep farr fdeb gft bal giv tak inc trc nrs ++ w_FRing cy rAd r_hour r_dep r_arr r_deb) U locs := G
    refine lv_aload_n hx hb dX8_undo_28 rfl (lv_at hl 0 rfl) ?_
    refine va_get (D := D) (ci := 8) (v := .ref (mAd 23)) (C := RX8) (T := TX8) (N := 11) hx hb hts hiX8 hown hK G.1 0 rfl rfl 5 (by decide) lk0 (fun _ h9 => h9) rfl dX8_undo_29 ?_
    refine va_get (D := D) (ci := 5) (v := .int z2.2.1) (C := RX5) (T := TX5) (N := 3) hx hb hts hiX5 hown hK G.1 23 rfl rfl 2 (by decide) lk1 (fun _ h9 => h9) rfl dX8_undo_32 ?_
    obtain rfl := Option.some.inj H
    exact ret_i C G rfl dX8_undo_35
  · have H := if_f H c1
    refine lv_ldc hx hb hown lk4 dX8_undo_11 ?_
    obtain rfl := Option.some.inj H
    exact ret_i C G rfl dX8_undo_13
