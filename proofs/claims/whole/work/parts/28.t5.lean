def f_X8_hours_L52 (wat : Int32) (lev kin sil : Nat → Int32) (x1 : Int32) : Nat → Int32 → (Nat → Int32) → (Nat → Int32) → (Nat → Int32) → Int32 → Int32 → (Nat → Int32) → (Nat → Nat → Int32) → (Nat → Nat → Int32) → (Nat → Nat → Int32) → Int32 → Int32 → Option (Int32 × (Nat → Int32) × (Nat → Int32) × (Nat → Int32) × Int32 × Int32 × (Nat → Int32) × (Nat → Nat → Int32) × (Nat → Nat → Int32) × (Nat → Nat → Int32) × Int32)
  | 0, _, _, _, _, _, _, _, _, _, _, _, _ => none
  | n + 1, hour, dep, arr, deb, nxt, kep, r_hour, r_dep, r_arr, r_deb, x2, x3 => if x1 ≤ x3 then (some (hour, dep, arr, deb, nxt, kep, r_hour, r_dep, r_arr, r_deb, x2)) else (bd (f_X5_keep nxt kep hour dep arr deb r_hour r_dep r_arr r_deb) (fun z6 => bd (f_X3_passHour hour dep arr deb wat lev kin sil) (fun z7 => f_X8_hours_L52 wat lev kin sil x1 n z7.2.1 z7.2.2.1 z7.2.2.2.1 z7.2.2.2.2 z6.1 z6.2.1 z6.2.2.1 z6.2.2.2.1 z6.2.2.2.2.1 z6.2.2.2.2.2 z7.1 (x3 + 1))))
theorem f_X8_hours_L52_z (wat : Int32) (lev kin sil : Nat → Int32) (x1 : Int32) (hour : Int32) (dep arr deb : Nat → Int32) (nxt kep : Int32) (r_hour : Nat → Int32) (r_dep r_arr r_deb : Nat → Nat → Int32) (x2 x3 : Int32) : f_X8_hours_L52 wat lev kin sil x1 0 hour dep arr deb nxt kep r_hour r_dep r_arr r_deb x2 x3 = none := rfl
theorem f_X8_hours_L52_s (wat : Int32) (lev kin sil : Nat → Int32) (x1 : Int32) (n : Nat) (hour : Int32) (dep arr deb : Nat → Int32) (nxt kep : Int32) (r_hour : Nat → Int32) (r_dep r_arr r_deb : Nat → Nat → Int32) (x2 x3 : Int32) : f_X8_hours_L52 wat lev kin sil x1 (n + 1) hour dep arr deb nxt kep r_hour r_dep r_arr r_deb x2 x3 = if x1 ≤ x3 then (some (hour, dep, arr, deb, nxt, kep, r_hour, r_dep, r_arr, r_deb, x2)) else (bd (f_X5_keep nxt kep hour dep arr deb r_hour r_dep r_arr r_deb) (fun z6 => bd (f_X3_passHour hour dep arr deb wat lev kin sil) (fun z7 => f_X8_hours_L52 wat lev kin sil x1 n z7.2.1 z7.2.2.1 z7.2.2.2.1 z7.2.2.2.2 z6.1 z6.2.1 z6.2.2.1 z6.2.2.2.1 z6.2.2.2.2.1 z6.2.2.2.2.2 z7.1 (x3 + 1)))) := rfl
set_option maxHeartbeats 4000000 in
set_option maxRecDepth 100000 in
theorem wl_X8_hours_52 {p : Program} {l : Launch} {e : Env} {s : State} {m : MethodId} {below : List Frame} {meth : Method} {c : Code} {D : va_G} {cy : Nat → ClassId} {A : Nat → Prop} {args : Array Value} {Q : State → Prop} (C : Cx D cy A p s m meth c cX8_hours 4 (some .int) wsX8_hours RX8 args) (mAd : Nat → Nat) (rAd : Nat → Nat → Nat) (GI GM GR : Nat → Option Nat) (lfa lfi : Int32) (lan siz : Nat → Int32) (len tok stt fin num flw : Int32) (byt : Nat → Int32) (dwat : Int32) (dlev dkin dcdp dsil : Nat → Int32) (sta wat : Int32) (lev kin cdp sil : Nat → Int32) (fhour : Int32) (fdep farr fdeb : Nat → Int32) (gft : Int32) (bal giv tak inc : Nat → Int32) (trc : Int32) (nrs : Nat → Int32) (x1 : Int32) (hGR : ∀ k, k < 24 → GR k = some (rAd k 0)) :
    ∀ (n : Nat) (hour : Int32) (dep arr deb : Nat → Int32) (nxt kep : Int32) (r_hour : Nat → Int32) (r_dep r_arr r_deb : Nat → Nat → Int32) (x2 x3 : Int32) (z : (Int32 × (Nat → Int32) × (Nat → Int32) × (Nat → Int32) × Int32 × Int32 × (Nat → Int32) × (Nat → Nat → Int32) × (Nat → Nat → Int32) × (Nat → Nat → Int32) × Int32)), f_X8_hours_L52 wat lev kin sil x1 n hour dep arr deb nxt kep r_hour r_dep r_arr r_deb x2 x3 = some z → (∀ (U : Heap) (locs : List Loc) (ls : Array Slot), Gd D A s (w_Top cy mAd GI GM GR lfa lfi lan siz len tok stt fin num flw byt dwat dlev dkin dcdp dsil sta wat lev kin cdp sil z.1 z.2.1 z.2.2.1 z.2.2.2.1 z.2.2.2.2.1 z.2.2.2.2.2.1 fhour fdep farr fdeb gft bal giv tak inc trc nrs ++ w_FRing cy rAd z.2.2.2.2.2.2.1 z.2.2.2.2.2.2.2.1 z.2.2.2.2.2.2.2.2.1 z.2.2.2.2.2.2.2.2.2.1) U locs → lv_has ls 4 [(2, .int z.2.2.2.2.2.2.2.2.2.2)] → W p l e ({ frames := 5, cells := 0, slots := 0, locals := 109 } : Room) s m args below meth c U locs 0 0 Q (F0 m 95 ls [])) → ∀ (U : Heap) (locs : List Loc) (ls : Array Slot), Gd D A s (w_Top cy mAd GI GM GR lfa lfi lan siz len tok stt fin num flw byt dwat dlev dkin dcdp dsil sta wat lev kin cdp sil hour dep arr deb nxt kep fhour fdep farr fdeb gft bal giv tak inc trc nrs ++ w_FRing cy rAd r_hour r_dep r_arr r_deb) U locs → lv_has ls 4 [(0, .ref (mAd 0)), (1, .int x1), (2, .int x2), (3, .int x3)] → W p l e ({ frames := 5, cells := 0, slots := 0, locals := 109 } : Room) s m args below meth c U locs 0 0 Q (F0 m 52 ls []) := by
  obtain ⟨hx, hb, hr, hml, hown, hts, hlk, hK, hA, hE⟩ := id C
  have lk0 := hts (Cond.fieldLink RX8 44 "TideDebts" "past" "LTideDebts$Past;") (List.mem_of_getElem? (i := 8) rfl)
  have lk1 := hts (Cond.fieldLink RX8 33 "TideDebts" "now" "LTideDebts$Bay;") (List.mem_of_getElem? (i := 1) rfl)
  have lk2 := hts (Cond.fieldLink RX8 151 "TideDebts$Bay" "ledger" "LTideDebts$Ledger;") (List.mem_of_getElem? (i := 5) rfl)
  have lk3 := hts (Cond.fieldLink RX8 140 "TideDebts$Bay" "chart" "LTideDebts$Chart;") (List.mem_of_getElem? (i := 9) rfl)
  have hiX1 : ∀ w ∈ u_ws RX1 TX1 3, w ∈ wsX8_hours := fun _ h => List.mem_cons_of_mem _ (List.mem_append_left _ (List.mem_append_left _ (List.mem_append_left _ (List.mem_append_right _ h))))
  have hiX8 : ∀ w ∈ u_ws RX8 TX8 11, w ∈ wsX8_hours := fun _ h => List.mem_cons_of_mem _ (List.mem_append_left _ (List.mem_append_left _ (List.mem_append_left _ (List.mem_append_left _ (List.mem_append_right _ h)))))
  intro n
  induction n with
  | zero =>
    intro hour dep arr deb nxt kep r_hour r_dep r_arr r_deb x2 x3 z H
    rw [f_X8_hours_L52_z] at H
    cases H
  | succ n ih =>
    intro hour dep arr deb nxt kep r_hour r_dep r_arr r_deb x2 x3 z H kk U locs ls G hl
    rw [f_X8_hours_L52_s] at H
    refine lv_iload_n hx hb dX8_hours_52 rfl (lv_at hl 3 rfl) ?_
    refine lv_iload_n hx hb dX8_hours_53 rfl (lv_at hl 1 rfl) ?_
    refine lv_icmp_ge (tgt := 95) hx hb dX8_hours_54 (by decide) (fun c5 => ?_) (fun c5 => ?_)
    · have H := if_t H c5
      obtain rfl := Option.some.inj H
      exact kk _ _ _ G (lv_sub hl [2] rfl)
    · have H := if_f H c5
      refine lv_aload_n hx hb dX8_hours_57 rfl (lv_at hl 0 rfl) ?_
      refine va_get (D := D) (ci := 8) (v := .ref (mAd 23)) (C := RX8) (T := TX8) (N := 11) hx hb hts hiX8 hown hK G.1 0 rfl rfl 5 (by decide) lk0 (fun _ h9 => h9) rfl dX8_hours_58 ?_
      refine lv_aload_n hx hb dX8_hours_61 rfl (lv_at hl 0 rfl) ?_
      refine va_get (D := D) (ci := 8) (v := .ref (mAd 12)) (C := RX8) (T := TX8) (N := 11) hx hb hts hiX8 hown hK G.1 0 rfl rfl 3 (by decide) lk1 (fun _ h9 => h9) rfl dX8_hours_62 ?_
      refine va_get (D := D) (ci := 1) (v := .ref (mAd 18)) (C := RX1) (T := TX1) (N := 3) hx hb hts hiX1 hown hK G.1 12 rfl rfl 1 (by decide) lk2 (fun _ h9 => h9) rfl dX8_hours_65 ?_
      obtain ⟨z6, hz6, H⟩ := bd_some H
      refine MV.callVt [.ref (mAd 18)] [] [23, 24, 18, 19, 20, 21] C G (c_X5_keep l D cy (fun k => mAd (k + 23)) (fun k => mAd (k + 18)) rAd GR nxt kep hour dep arr deb r_hour r_dep r_arr r_deb hGR z6 hz6) gX8_hours_X5_keep rfl rfl rfl (n := 1) (by decide +kernel) ⟨Nat.le_of_ble_eq_true rfl, Nat.le_of_ble_eq_true rfl⟩ (q0 := 23) (ci := 5) rfl rfl rfl rfl rfl rfl (fam_len (fun _ => rfl)) rfl hl.1 rfl (Nat.le_of_ble_eq_true rfl) dX8_hours_68 ⟨Nat.zero_le _, Nat.zero_le _⟩ (fun U locs G => ?_)
      have G : Gd D A s (w_Top cy mAd GI GM GR lfa lfi lan siz len tok stt fin num flw byt dwat dlev dkin dcdp dsil sta wat lev kin cdp sil hour dep arr deb z6.1 z6.2.1 fhour fdep farr fdeb gft bal giv tak inc trc nrs ++ w_FRing cy rAd z6.2.2.1 z6.2.2.2.1 z6.2.2.2.2.1 z6.2.2.2.2.2) U locs := G
      refine lv_aload_n hx hb dX8_hours_71 rfl (lv_at hl 0 rfl) ?_
      refine va_get (D := D) (ci := 8) (v := .ref (mAd 12)) (C := RX8) (T := TX8) (N := 11) hx hb hts hiX8 hown hK G.1 0 rfl rfl 3 (by decide) lk1 (fun _ h9 => h9) rfl dX8_hours_72 ?_
      refine va_get (D := D) (ci := 1) (v := .ref (mAd 18)) (C := RX1) (T := TX1) (N := 3) hx hb hts hiX1 hown hK G.1 12 rfl rfl 1 (by decide) lk2 (fun _ h9 => h9) rfl dX8_hours_75 ?_
      refine lv_aload_n hx hb dX8_hours_78 rfl (lv_at hl 0 rfl) ?_
      refine va_get (D := D) (ci := 8) (v := .ref (mAd 12)) (C := RX8) (T := TX8) (N := 11) hx hb hts hiX8 hown hK G.1 0 rfl rfl 3 (by decide) lk1 (fun _ h9 => h9) rfl dX8_hours_79 ?_
      refine va_get (D := D) (ci := 1) (v := .ref (mAd 13)) (C := RX1) (T := TX1) (N := 3) hx hb hts hiX1 hown hK G.1 12 rfl rfl 0 (by decide) lk3 (fun _ h9 => h9) rfl dX8_hours_82 ?_
      obtain ⟨z7, hz7, H⟩ := bd_some H
      refine MI.callV z7.1 [.ref (mAd 13)] [] [18, 19, 20, 21, 13, 14, 15, 16, 17] C G (c_X3_passHour l D cy (fun k => mAd (k + 18)) (fun k => mAd (k + 13)) hour dep arr deb wat lev kin cdp sil z7 hz7) gX8_hours_X3_passHour rfl rfl rfl (n := 1) (by decide +kernel) ⟨Nat.le_of_ble_eq_true rfl, Nat.le_of_ble_eq_true rfl⟩ (q0 := 18) (ci := 3) rfl rfl rfl rfl rfl rfl rfl hl.1 rfl (Nat.le_of_ble_eq_true rfl) dX8_hours_85 ⟨Nat.zero_le _, Nat.zero_le _⟩ (fun U locs G => ?_)
      have G : Gd D A s (w_Top cy mAd GI GM GR lfa lfi lan siz len tok stt fin num flw byt dwat dlev dkin dcdp dsil sta wat lev kin cdp sil z7.2.1 z7.2.2.1 z7.2.2.2.1 z7.2.2.2.2 z6.1 z6.2.1 fhour fdep farr fdeb gft bal giv tak inc trc nrs ++ w_FRing cy rAd z6.2.2.1 z6.2.2.2.1 z6.2.2.2.2.1 z6.2.2.2.2.2) U locs := G
      refine lv_istore_n (lv' := [(2, .int z7.1), (0, .ref (mAd 0)), (1, .int x1), (3, .int x3)]) hx hb dX8_hours_88 rfl hl (by decide) rfl (fun ls hl => ?_)
      refine lv_iinc (v := x3 + 1) (lv' := [(3, .int (x3 + 1)), (2, .int z7.1), (0, .ref (mAd 0)), (1, .int x1)]) hx hb dX8_hours_89 hl (k := 3) rfl rfl (by decide) rfl (fun ls hl => ?_)
      refine lv_goto (tgt := 52) hx hb dX8_hours_92 (by decide) ?_
      exact ih z7.2.1 z7.2.2.1 z7.2.2.2.1 z7.2.2.2.2 z6.1 z6.2.1 z6.2.2.1 z6.2.2.2.1 z6.2.2.2.2.1 z6.2.2.2.2.2 z7.1 (x3 + 1) z H kk _ _ _ G (lv_sub hl [2, 3, 1, 0] rfl)
def f_X8_hours (sta wat : Int32) (lev kin sil : Nat → Int32) (hour : Int32) (dep arr deb : Nat → Int32) (nxt kep : Int32) (r_hour : Nat → Int32) (r_dep r_arr r_deb : Nat → Nat → Int32) (p1 : Int32) : Option (Int32 × Int32 × (Nat → Int32) × (Nat → Int32) × (Nat → Int32) × Int32 × Int32 × (Nat → Int32) × (Nat → Nat → Int32) × (Nat → Nat → Int32) × (Nat → Nat → Int32)) := if sta = 0 then (some ((-1000002), hour, dep, arr, deb, nxt, kep, r_hour, r_dep, r_arr, r_deb)) else (if p1 < 1 then (some ((-1000001), hour, dep, arr, deb, nxt, kep, r_hour, r_dep, r_arr, r_deb)) else (if p1 ≤ 24 then (if (hour + p1) ≤ 999 then (bd (f_X8_hours_L52 wat lev kin sil p1 2000 hour dep arr deb nxt kep r_hour r_dep r_arr r_deb 0 0) (fun z8 => some (z8.2.2.2.2.2.2.2.2.2.2, z8.1, z8.2.1, z8.2.2.1, z8.2.2.2.1, z8.2.2.2.2.1, z8.2.2.2.2.2.1, z8.2.2.2.2.2.2.1, z8.2.2.2.2.2.2.2.1, z8.2.2.2.2.2.2.2.2.1, z8.2.2.2.2.2.2.2.2.2.1))) else (some ((-1000003), hour, dep, arr, deb, nxt, kep, r_hour, r_dep, r_arr, r_deb))) else (some ((-1000001), hour, dep, arr, deb, nxt, kep, r_hour, r_dep, r_arr, r_deb))))
set_option maxHeartbeats 4000000 in
set_option maxRecDepth 100000 in
theorem c_X8_hours (l : Launch) (D : va_G) (cy : Nat → ClassId) (mAd : Nat → Nat) (rAd : Nat → Nat → Nat) (GI GM GR : Nat → Option Nat) (lfa lfi : Int32) (lan siz : Nat → Int32) (len tok stt fin num flw : Int32) (byt : Nat → Int32) (dwat : Int32) (dlev dkin dcdp dsil : Nat → Int32) (sta wat : Int32) (lev kin cdp sil : Nat → Int32) (hour : Int32) (dep arr deb : Nat → Int32) (nxt kep fhour : Int32) (fdep farr fdeb : Nat → Int32) (gft : Int32) (bal giv tak inc : Nat → Int32) (trc : Int32) (nrs r_hour : Nat → Int32) (r_dep r_arr r_deb : Nat → Nat → Int32) (p1 : Int32) (hGR : ∀ k, k < 24 → GR k = some (rAd k 0)) (z : (Int32 × Int32 × (Nat → Int32) × (Nat → Int32) × (Nat → Int32) × Int32 × Int32 × (Nat → Int32) × (Nat → Nat → Int32) × (Nat → Nat → Int32) × (Nat → Nat → Int32))) (hz : f_X8_hours sta wat lev kin sil hour dep arr deb nxt kep r_hour r_dep r_arr r_deb p1 = some z) : MI l yX8_hours wsX8_hours ({ frames := 5, cells := 0, slots := 0, locals := 109 } : Room) D cy [.ref (mAd 0), .int p1] (w_Top cy mAd GI GM GR lfa lfi lan siz len tok stt fin num flw byt dwat dlev dkin dcdp dsil sta wat lev kin cdp sil hour dep arr deb nxt kep fhour fdep farr fdeb gft bal giv tak inc trc nrs ++ w_FRing cy rAd r_hour r_dep r_arr r_deb) z.1 (w_Top cy mAd GI GM GR lfa lfi lan siz len tok stt fin num flw byt dwat dlev dkin dcdp dsil sta wat lev kin cdp sil z.2.1 z.2.2.1 z.2.2.2.1 z.2.2.2.2.1 z.2.2.2.2.2.1 z.2.2.2.2.2.2.1 fhour fdep farr fdeb gft bal giv tak inc trc nrs ++ w_FRing cy rAd z.2.2.2.2.2.2.2.1 z.2.2.2.2.2.2.2.2.1 z.2.2.2.2.2.2.2.2.2.1 z.2.2.2.2.2.2.2.2.2.2) := by
  refine met_start (Qf := fun A => MQi D cy z.1 (w_Top cy mAd GI GM GR lfa lfi lan siz len tok stt fin num flw byt dwat dlev dkin dcdp dsil sta wat lev kin cdp sil z.2.1 z.2.2.1 z.2.2.2.1 z.2.2.2.2.1 z.2.2.2.2.2.1 z.2.2.2.2.2.2.1 fhour fdep farr fdeb gft bal giv tak inc trc nrs ++ w_FRing cy rAd z.2.2.2.2.2.2.2.1 z.2.2.2.2.2.2.2.2.1 z.2.2.2.2.2.2.2.2.2.1 z.2.2.2.2.2.2.2.2.2.2) A) (cc := cX8_hours) (nL := 4) (ret := (some .int)) RX8 rfl (by decide) rfl (Nat.le_of_ble_eq_true rfl) ?_
  intro p e s m below meth c A ls C G hl
  have hl : lv_has ls 4 [(0, .ref (mAd 0)), (1, .int p1)] := hl
  have H := hz
  unfold f_X8_hours at H
  obtain ⟨hx, hb, hr, hml, hown, hts, hlk, hK, hA, hE⟩ := id C
  have lk0 := hts (Cond.fieldLink RX8 33 "TideDebts" "now" "LTideDebts$Bay;") (List.mem_of_getElem? (i := 1) rfl)
  have lk1 := hts (Cond.fieldLink RX8 146 "TideDebts$Bay" "stands" "Z") (List.mem_of_getElem? (i := 2) rfl)
  have lk2 := hts (Cond.constant RX8 73 (-1000001)) (List.mem_of_getElem? (i := 4) rfl)
  have lk3 := hts (Cond.fieldLink RX8 151 "TideDebts$Bay" "ledger" "LTideDebts$Ledger;") (List.mem_of_getElem? (i := 5) rfl)
  have lk4 := hts (Cond.fieldLink RX8 154 "TideDebts$Ledger" "hour" "I") (List.mem_of_getElem? (i := 6) rfl)
  have lk5 := hts (Cond.constant RX8 117 (-1000003)) (List.mem_of_getElem? (i := 7) rfl)
  have lk6 := hts (Cond.constant RX8 150 (-1000002)) (List.mem_of_getElem? (i := 3) rfl)
  have hiX1 : ∀ w ∈ u_ws RX1 TX1 3, w ∈ wsX8_hours := fun _ h => List.mem_cons_of_mem _ (List.mem_append_left _ (List.mem_append_left _ (List.mem_append_left _ (List.mem_append_right _ h))))
  have hiX3 : ∀ w ∈ u_ws RX3 TX3 4, w ∈ wsX8_hours := fun _ h => List.mem_cons_of_mem _ (List.mem_append_left _ (List.mem_append_left _ (List.mem_append_right _ h)))
  have hiX8 : ∀ w ∈ u_ws RX8 TX8 11, w ∈ wsX8_hours := fun _ h => List.mem_cons_of_mem _ (List.mem_append_left _ (List.mem_append_left _ (List.mem_append_left _ (List.mem_append_left _ (List.mem_append_right _ h)))))
  refine lv_aload_n hx hb dX8_hours_0 rfl (lv_at hl 0 rfl) ?_
  refine va_get (D := D) (ci := 8) (v := .ref (mAd 12)) (C := RX8) (T := TX8) (N := 11) hx hb hts hiX8 hown hK G.1 0 rfl rfl 3 (by decide) lk0 (fun _ h9 => h9) rfl dX8_hours_1 ?_
  refine va_get (D := D) (ci := 1) (v := .int sta) (C := RX1) (T := TX1) (N := 3) hx hb hts hiX1 hown hK G.1 12 rfl rfl 2 (by decide) lk1 (fun _ h9 => h9) rfl dX8_hours_4 ?_
  refine lv_if_ne (tgt := 13) hx hb dX8_hours_7 (by decide) (fun c1 => ?_) (fun c1 => ?_)
  · have H := if_f H c1
    refine lv_iload_n hx hb dX8_hours_13 rfl (lv_at hl 1 rfl) ?_
    refine lv_iconst (v := 1) hx hb dX8_hours_14 (by decide) ?_
    refine lv_icmp_lt (tgt := 24) hx hb dX8_hours_15 (by decide) (fun c2 => ?_) (fun c2 => ?_)
    · have H := if_t H c2
      refine lv_ldc hx hb hown lk2 dX8_hours_24 ?_
      obtain rfl := Option.some.inj H
      exact ret_i C G rfl dX8_hours_26
    · have H := if_f H c2
      refine lv_iload_n hx hb dX8_hours_18 rfl (lv_at hl 1 rfl) ?_
      refine lv_bipush (v := 24) hx hb dX8_hours_19 (by decide) ?_
      refine lv_icmp_le (tgt := 27) hx hb dX8_hours_21 (by decide) (fun c3 => ?_) (fun c3 => ?_)
      · have H := if_t H c3
        refine lv_aload_n hx hb dX8_hours_27 rfl (lv_at hl 0 rfl) ?_
        refine va_get (D := D) (ci := 8) (v := .ref (mAd 12)) (C := RX8) (T := TX8) (N := 11) hx hb hts hiX8 hown hK G.1 0 rfl rfl 3 (by decide) lk0 (fun _ h9 => h9) rfl dX8_hours_28 ?_
        refine va_get (D := D) (ci := 1) (v := .ref (mAd 18)) (C := RX1) (T := TX1) (N := 3) hx hb hts hiX1 hown hK G.1 12 rfl rfl 1 (by decide) lk3 (fun _ h9 => h9) rfl dX8_hours_31 ?_
        refine va_get (D := D) (ci := 3) (v := .int hour) (C := RX3) (T := TX3) (N := 4) hx hb hts hiX3 hown hK G.1 18 rfl rfl 3 (by decide) lk4 (fun _ h9 => h9) rfl dX8_hours_34 ?_
        refine lv_iload_n hx hb dX8_hours_37 rfl (lv_at hl 1 rfl) ?_
        refine lv_iadd hx hb dX8_hours_38 ?_
        refine lv_sipush (v := 999) hx hb dX8_hours_39 (by decide) ?_
        refine lv_icmp_le (tgt := 48) hx hb dX8_hours_42 (by decide) (fun c4 => ?_) (fun c4 => ?_)
        · have H := if_t H c4
          refine lv_iconst (v := 0) hx hb dX8_hours_48 (by decide) ?_
          refine lv_istore_n (lv' := [(2, .int 0), (0, .ref (mAd 0)), (1, .int p1)]) hx hb dX8_hours_49 rfl hl (by decide) rfl (fun ls hl => ?_)
          refine lv_iconst (v := 0) hx hb dX8_hours_50 (by decide) ?_
          refine lv_istore_n (lv' := [(3, .int 0), (2, .int 0), (0, .ref (mAd 0)), (1, .int p1)]) hx hb dX8_hours_51 rfl hl (by decide) rfl (fun ls hl => ?_)
          obtain ⟨z8, hz8, H⟩ := bd_some H
          refine wl_X8_hours_52 C mAd rAd GI GM GR lfa lfi lan siz len tok stt fin num flw byt dwat dlev dkin dcdp dsil sta wat lev kin cdp sil fhour fdep farr fdeb gft bal giv tak inc trc nrs p1 hGR _ hour dep arr deb nxt kep r_hour r_dep r_arr r_deb 0 0 z8 hz8 (fun U locs ls G hl => ?_) _ _ _ G (lv_sub hl [2, 3, 1, 0] rfl)
          have G : Gd D A s (w_Top cy mAd GI GM GR lfa lfi lan siz len tok stt fin num flw byt dwat dlev dkin dcdp dsil sta wat lev kin cdp sil z8.1 z8.2.1 z8.2.2.1 z8.2.2.2.1 z8.2.2.2.2.1 z8.2.2.2.2.2.1 fhour fdep farr fdeb gft bal giv tak inc trc nrs ++ w_FRing cy rAd z8.2.2.2.2.2.2.1 z8.2.2.2.2.2.2.2.1 z8.2.2.2.2.2.2.2.2.1 z8.2.2.2.2.2.2.2.2.2.1) U locs := G
          have hl : lv_has ls 4 [(2, .int z8.2.2.2.2.2.2.2.2.2.2)] := hl
          refine lv_iload_n hx hb dX8_hours_95 rfl (lv_at hl 0 rfl) ?_
          obtain rfl := Option.some.inj H
          exact ret_i C G rfl dX8_hours_96
        · have H := if_f H c4
          refine lv_ldc hx hb hown lk5 dX8_hours_45 ?_
          obtain rfl := Option.some.inj H
          exact ret_i C G rfl dX8_hours_47
      · have H := if_f H c3
        refine lv_ldc hx hb hown lk2 dX8_hours_24 ?_
        obtain rfl := Option.some.inj H
        exact ret_i C G rfl dX8_hours_26
  · have H := if_t H c1
    refine lv_ldc hx hb hown lk6 dX8_hours_10 ?_
    obtain rfl := Option.some.inj H
    exact ret_i C G rfl dX8_hours_12
