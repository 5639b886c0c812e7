def f_X8_copy_n (lfi : Int32) (lan siz b_itm c_itm : Nat → Int32) (p1 p2 p3 p4 p5 : Int32) : Option (Int32 × Int32 × (Nat → Int32)) := bd (f_X8_isRow p1) (fun z1 => if z1 = 0 then (some ((-1000001), lfi, c_itm)) else (bd (f_X8_isRow p3) (fun z3 => if z3 = 0 then (some ((-1000001), lfi, c_itm)) else (bd (f_X6_isMissing lan p1) (fun z5 => if z5 = 0 then (bd (f_X6_isMissing lan p3) (fun z8 => if z8 = 0 then (gd (inb p1 8) (gd (inb p3 8) (if (lan (ix p1)) = (lan (ix p3)) then (bd (f_X6_hasPlaces siz p1 p2 p5) (fun z13 => if z13 = 0 then (bd (f_X8_found lfi 2) (fun z15 => some (z15.1, z15.2, c_itm))) else (bd (f_X6_hasPlaces siz p3 p4 p5) (fun z16 => if z16 = 0 then (bd (f_X8_found lfi 2) (fun z20 => some (z20.1, z20.2, c_itm))) else (gd (cpb p2 p4 p5 40 40) (bd (f_X8_fine lfi p5) (fun z19 => some (z19.1, z19.2, va_cpy b_itm c_itm (ix p2) (ix p4) (ix p5))))))))) else (bd (f_X8_found lfi 5) (fun z21 => some (z21.1, z21.2, c_itm)))))) else (bd (f_X8_found lfi 1) (fun z22 => some (z22.1, z22.2, c_itm))))) else (bd (f_X8_found lfi 1) (fun z7 => some (z7.1, z7.2, c_itm))))))))
set_option maxHeartbeats 4000000 in
set_option maxRecDepth 100000 in
theorem c_X8_copy_n (l : Launch) (D : va_G) (cy : Nat → ClassId) (mAd : Nat → Nat) (bAd : Nat → Nat) (cAd : Nat → Nat) (GI GM GR : Nat → Option Nat) (lfa lfi : Int32) (lan siz : Nat → Int32) (len tok stt fin num flw : Int32) (byt : Nat → Int32) (dwat : Int32) (dlev dkin dcdp dsil : Nat → Int32) (sta wat : Int32) (lev kin cdp sil : Nat → Int32) (hour : Int32) (dep arr deb : Nat → Int32) (nxt kep fhour : Int32) (fdep farr fdeb : Nat → Int32) (gft : Int32) (bal giv tak inc : Nat → Int32) (trc : Int32) (nrs b_itm c_itm : Nat → Int32) (p1 p2 p3 p4 p5 : Int32) (hg1 : inb p1 8 = true → GI (ix p1) = some (bAd 0)) (hg2 : inb p3 8 = true → GI (ix p3) = some (cAd 0)) (z : (Int32 × Int32 × (Nat → Int32))) (hz : f_X8_copy_n lfi lan siz b_itm c_itm p1 p2 p3 p4 p5 = some z) : MI l yX8_copy wsX8_copy ({ frames := 1, cells := 0, slots := 0, locals := 60 } : Room) D cy [.ref (mAd 0), .int p1, .int p2, .int p3, .int p4, .int p5] (w_Top cy mAd GI GM GR lfa lfi lan siz len tok stt fin num flw byt dwat dlev dkin dcdp dsil sta wat lev kin cdp sil hour dep arr deb nxt kep fhour fdep farr fdeb gft bal giv tak inc trc nrs ++ w_Itm cy bAd b_itm ++ w_Itm cy cAd c_itm) z.1 (w_Top cy mAd GI GM GR lfa z.2.1 lan siz len tok stt fin num flw byt dwat dlev dkin dcdp dsil sta wat lev kin cdp sil hour dep arr deb nxt kep fhour fdep farr fdeb gft bal giv tak inc trc nrs ++ w_Itm cy bAd b_itm ++ w_Itm cy cAd z.2.2) := by
  refine met_start (Qf := fun A => MQi D cy z.1 (w_Top cy mAd GI GM GR lfa z.2.1 lan siz len tok stt fin num flw byt dwat dlev dkin dcdp dsil sta wat lev kin cdp sil hour dep arr deb nxt kep fhour fdep farr fdeb gft bal giv tak inc trc nrs ++ w_Itm cy bAd b_itm ++ w_Itm cy cAd z.2.2) A) (cc := cX8_copy) (nL := 6) (ret := (some .int)) RX8 rfl (by decide) rfl (Nat.le_of_ble_eq_true rfl) ?_
  intro p e s m below meth c A ls C G hl
  have hl : lv_has ls 6 [(0, .ref (mAd 0)), (1, .int p1), (2, .int p2), (3, .int p3), (4, .int p4), (5, .int p5)] := hl
  have H := hz
  unfold f_X8_copy_n at H
  obtain ⟨hx, hb, hr, hml, hown, hts, hlk, hK, hA, hE⟩ := id C
  have lk0 := hts (Cond.constant RX8 73 (-1000001)) (List.mem_of_getElem? (i := 1) rfl)
  have lk1 := hts (Cond.fieldLink RX8 10 "TideDebts" "rows" "LTideDebts$Rows;") (List.mem_of_getElem? (i := 2) rfl)
  have lk2 := hts (Cond.fieldLink RX8 96 "TideDebts$Rows" "lanes" "[I") (List.mem_of_getElem? (i := 3) rfl)
  have lk3 := hts (Cond.fieldLink RX8 100 "TideDebts$Rows" "items" "[[I") (List.mem_of_getElem? (i := 4) rfl)
  have lk4 := hts (Cond.methodLink RX8 104 arraycopyName) (List.mem_of_getElem? (i := 5) rfl)
  have lk5 := hts (Cond.native arraycopyName) (List.mem_of_getElem? (i := 6) rfl)
  have lk6 := hts (Cond.static arraycopyName) (List.mem_of_getElem? (i := 7) rfl)
  have lk7 := hts (Cond.initialized "java/lang/System") (List.mem_of_getElem? (i := 8) rfl)
  have hiX6 : ∀ w ∈ u_ws RX6 TX6 3, w ∈ wsX8_copy := fun _ h => List.mem_cons_of_mem _ (List.mem_append_right _ h)
  have hiX8 : ∀ w ∈ u_ws RX8 TX8 11, w ∈ wsX8_copy := fun _ h => List.mem_cons_of_mem _ (List.mem_append_left _ (List.mem_append_right _ h))
  refine lv_iload_n hx hb dX8_copy_0 rfl (lv_at hl 1 rfl) ?_
  obtain ⟨z1, hz1, H⟩ := bd_some H
  refine MI.callS z1 [.int p1] [] [] C G (c_X8_isRow l D cy p1 z1 hz1) gX8_copy_X8_isRow rfl rfl rfl (n := 1) (by decide +kernel) ⟨Nat.le_of_ble_eq_true rfl, Nat.le_of_ble_eq_true rfl⟩ rfl rfl rfl rfl hl.1 rfl (Nat.le_of_ble_eq_true rfl) dX8_copy_1 ⟨Nat.zero_le _, Nat.zero_le _⟩ (fun U locs G => ?_)
  have G : Gd D A s (w_Top cy mAd GI GM GR lfa lfi lan siz len tok stt fin num flw byt dwat dlev dkin dcdp dsil sta wat lev kin cdp sil hour dep arr deb nxt kep fhour fdep farr fdeb gft bal giv tak inc trc nrs ++ w_Itm cy bAd b_itm ++ w_Itm cy cAd c_itm) U locs := G
  refine lv_if_eq (tgt := 14) hx hb dX8_copy_4 (by decide) (fun c2 => ?_) (fun c2 => ?_)
  · have H := if_t H c2
    refine lv_ldc hx hb hown lk0 dX8_copy_14 ?_
    obtain rfl := Option.some.inj H
    exact ret_i C G rfl dX8_copy_16
  · have H := if_f H c2
    refine lv_iload_n hx hb dX8_copy_7 rfl (lv_at hl 3 rfl) ?_
    obtain ⟨z3, hz3, H⟩ := bd_some H
    refine MI.callS z3 [.int p3] [] [] C G (c_X8_isRow l D cy p3 z3 hz3) gX8_copy_X8_isRow rfl rfl rfl (n := 1) (by decide +kernel) ⟨Nat.le_of_ble_eq_true rfl, Nat.le_of_ble_eq_true rfl⟩ rfl rfl rfl rfl hl.1 rfl (Nat.le_of_ble_eq_true rfl) dX8_copy_8 ⟨Nat.zero_le _, Nat.zero_le _⟩ (fun U locs G => ?_)
    have G : Gd D A s (w_Top cy mAd GI GM GR lfa lfi lan siz len tok stt fin num flw byt dwat dlev dkin dcdp dsil sta wat lev kin cdp sil hour dep arr deb nxt kep fhour fdep farr fdeb gft bal giv tak inc trc nrs ++ w_Itm cy bAd b_itm ++ w_Itm cy cAd c_itm) U locs := G
    refine lv_if_ne (tgt := 17) hx hb dX8_copy_11 (by decide) (fun c4 => ?_) (fun c4 => ?_)
    · have H := if_f H c4
      refine lv_aload_n hx hb dX8_copy_17 rfl (lv_at hl 0 rfl) ?_
      refine va_get (D := D) (ci := 8) (v := .ref (mAd 1)) (C := RX8) (T := TX8) (N := 11) hx hb hts hiX8 hown hK G.1 0 rfl rfl 0 (by decide) lk1 (fun _ h9 => h9) rfl dX8_copy_18 ?_
      refine lv_iload_n hx hb dX8_copy_21 rfl (lv_at hl 1 rfl) ?_
      obtain ⟨z5, hz5, H⟩ := bd_some H
      refine MI.callV z5 [.int p1] [] [1, 2, 3, 4] C G (c_X6_isMissing l D cy (fun k => mAd (k + 1)) GI lan siz p1 z5 hz5) gX8_copy_X6_isMissing rfl rfl rfl (n := 1) (by decide +kernel) ⟨Nat.le_of_ble_eq_true rfl, Nat.le_of_ble_eq_true rfl⟩ (q0 := 1) (ci := 6) rfl rfl rfl rfl rfl rfl rfl hl.1 rfl (Nat.le_of_ble_eq_true rfl) dX8_copy_22 ⟨Nat.zero_le _, Nat.zero_le _⟩ (fun U locs G => ?_)
      have G : Gd D A s (w_Top cy mAd GI GM GR lfa lfi lan siz len tok stt fin num flw byt dwat dlev dkin dcdp dsil sta wat lev kin cdp sil hour dep arr deb nxt kep fhour fdep farr fdeb gft bal giv tak inc trc nrs ++ w_Itm cy bAd b_itm ++ w_Itm cy cAd c_itm) U locs := G
      refine lv_if_ne (tgt := 39) hx hb dX8_copy_25 (by decide) (fun c6 => ?_) (fun c6 => ?_)
      · have H := if_f H c6
        refine lv_aload_n hx hb dX8_copy_39 rfl (lv_at hl 0 rfl) ?_
        refine lv_iconst (v := 1) hx hb dX8_copy_40 (by decide) ?_
        obtain ⟨z7, hz7, H⟩ := bd_some H
        refine MI.callVw z7.1 [.int 1] [] C G (MI.tail _ (MI.tail _ (c_X8_found l D cy mAd GI GM GR lfa lfi lan siz len tok stt fin num flw byt dwat dlev dkin dcdp dsil sta wat lev kin cdp sil hour dep arr deb nxt kep fhour fdep farr fdeb gft bal giv tak inc trc nrs 1 z7 hz7))) gX8_copy_X8_found rfl rfl rfl (n := 1) (by decide +kernel) ⟨Nat.le_of_ble_eq_true rfl, Nat.le_of_ble_eq_true rfl⟩ (q0 := 0) (ci := 8) rfl rfl rfl rfl hl.1 rfl (Nat.le_of_ble_eq_true rfl) dX8_copy_41 ⟨Nat.zero_le _, Nat.zero_le _⟩ (fun U locs G => ?_)
        have G : Gd D A s (w_Top cy mAd GI GM GR lfa z7.2 lan siz len tok stt fin num flw byt dwat dlev dkin dcdp dsil sta wat lev kin cdp sil hour dep arr deb nxt kep fhour fdep farr fdeb gft bal giv tak inc trc nrs ++ w_Itm cy bAd b_itm ++ w_Itm cy cAd c_itm) U locs := G
        obtain rfl := Option.some.inj H
        exact ret_i C G rfl dX8_copy_44
      · have H := if_t H c6
        refine lv_aload_n hx hb dX8_copy_28 rfl (lv_at hl 0 rfl) ?_
        refine va_get (D := D) (ci := 8) (v := .ref (mAd 1)) (C := RX8) (T := TX8) (N := 11) hx hb hts hiX8 hown hK G.1 0 rfl rfl 0 (by decide) lk1 (fun _ h9 => h9) rfl dX8_copy_29 ?_
        refine lv_iload_n hx hb dX8_copy_32 rfl (lv_at hl 3 rfl) ?_
        obtain ⟨z8, hz8, H⟩ := bd_some H
        refine MI.callV z8 [.int p3] [] [1, 2, 3, 4] C G (c_X6_isMissing l D cy (fun k => mAd (k + 1)) GI lan siz p3 z8 hz8) gX8_copy_X6_isMissing rfl rfl rfl (n := 1) (by decide +kernel) ⟨Nat.le_of_ble_eq_true rfl, Nat.le_of_ble_eq_true rfl⟩ (q0 := 1) (ci := 6) rfl rfl rfl rfl rfl rfl rfl hl.1 rfl (Nat.le_of_ble_eq_true rfl) dX8_copy_33 ⟨Nat.zero_le _, Nat.zero_le _⟩ (fun U locs G => ?_)
        have G : Gd D A s (w_Top cy mAd GI GM GR lfa lfi lan siz len tok stt fin num flw byt dwat dlev dkin dcdp dsil sta wat lev kin cdp sil hour dep arr deb nxt kep fhour fdep farr fdeb gft bal giv tak inc trc nrs ++ w_Itm cy bAd b_itm ++ w_Itm cy cAd c_itm) U locs := G
        refine lv_if_eq (tgt := 45) hx hb dX8_copy_36 (by decide) (fun c9 => ?_) (fun c9 => ?_)
        · have H := if_t H c9
          refine lv_aload_n hx hb dX8_copy_45 rfl (lv_at hl 0 rfl) ?_
          refine va_get (D := D) (ci := 8) (v := .ref (mAd 1)) (C := RX8) (T := TX8) (N := 11) hx hb hts hiX8 hown hK G.1 0 rfl rfl 0 (by decide) lk1 (fun _ h9 => h9) rfl dX8_copy_46 ?_
          refine va_get (D := D) (ci := 6) (v := .ref (mAd 2)) (C := RX6) (T := TX6) (N := 3) hx hb hts hiX6 hown hK G.1 1 rfl rfl 1 (by decide) lk2 (fun _ h9 => h9) rfl dX8_copy_49 ?_
          refine lv_iload_n hx hb dX8_copy_52 rfl (lv_at hl 1 rfl) ?_
          obtain ⟨hb10, H⟩ := gd_some H
          refine g_iald (v := lan (ix p1)) hx hb hK G.1 2 1 rfl rfl hb10 rfl dX8_copy_53 ?_
          refine lv_aload_n hx hb dX8_copy_54 rfl (lv_at hl 0 rfl) ?_
          refine va_get (D := D) (ci := 8) (v := .ref (mAd 1)) (C := RX8) (T := TX8) (N := 11) hx hb hts hiX8 hown hK G.1 0 rfl rfl 0 (by decide) lk1 (fun _ h9 => h9) rfl dX8_copy_55 ?_
          refine va_get (D := D) (ci := 6) (v := .ref (mAd 2)) (C := RX6) (T := TX6) (N := 3) hx hb hts hiX6 hown hK G.1 1 rfl rfl 1 (by decide) lk2 (fun _ h9 => h9) rfl dX8_copy_58 ?_
          refine lv_iload_n hx hb dX8_copy_61 rfl (lv_at hl 3 rfl) ?_
          obtain ⟨hb11, H⟩ := gd_some H
          refine g_iald (v := lan (ix p3)) hx hb hK G.1 2 1 rfl rfl hb11 rfl dX8_copy_62 ?_
          refine lv_icmp_eq (tgt := 72) hx hb dX8_copy_63 (by decide) (fun c12 => ?_) (fun c12 => ?_)
          · have H := if_t H c12
            refine lv_aload_n hx hb dX8_copy_72 rfl (lv_at hl 0 rfl) ?_
            refine va_get (D := D) (ci := 8) (v := .ref (mAd 1)) (C := RX8) (T := TX8) (N := 11) hx hb hts hiX8 hown hK G.1 0 rfl rfl 0 (by decide) lk1 (fun _ h9 => h9) rfl dX8_copy_73 ?_
            refine lv_iload_n hx hb dX8_copy_76 rfl (lv_at hl 1 rfl) ?_
            refine lv_iload_n hx hb dX8_copy_77 rfl (lv_at hl 2 rfl) ?_
            refine lv_iload hx hb dX8_copy_78 (lv_at hl 5 rfl) ?_
            obtain ⟨z13, hz13, H⟩ := bd_some H
            refine MI.callV z13 [.int p1, .int p2, .int p5] [] [1, 2, 3, 4] C G (c_X6_hasPlaces l D cy (fun k => mAd (k + 1)) GI lan siz p1 p2 p5 z13 hz13) gX8_copy_X6_hasPlaces rfl rfl rfl (n := 3) (by decide +kernel) ⟨Nat.le_of_ble_eq_true rfl, Nat.le_of_ble_eq_true rfl⟩ (q0 := 1) (ci := 6) rfl rfl rfl rfl rfl rfl rfl hl.1 rfl (Nat.le_of_ble_eq_true rfl) dX8_copy_80 ⟨Nat.zero_le _, Nat.zero_le _⟩ (fun U locs G => ?_)
            have G : Gd D A s (w_Top cy mAd GI GM GR lfa lfi lan siz len tok stt fin num flw byt dwat dlev dkin dcdp dsil sta wat lev kin cdp sil hour dep arr deb nxt kep fhour fdep farr fdeb gft bal giv tak inc trc nrs ++ w_Itm cy bAd b_itm ++ w_Itm cy cAd c_itm) U locs := G
            refine lv_if_eq (tgt := 101) hx hb dX8_copy_83 (by decide) (fun c14 => ?_) (fun c14 => ?_)
            · have H := if_t H c14
              refine lv_aload_n hx hb dX8_copy_101 rfl (lv_at hl 0 rfl) ?_
              refine lv_iconst (v := 2) hx hb dX8_copy_102 (by decide) ?_
              obtain ⟨z15, hz15, H⟩ := bd_some H
              refine MI.callVw z15.1 [.int 2] [] C G (MI.tail _ (MI.tail _ (c_X8_found l D cy mAd GI GM GR lfa lfi lan siz len tok stt fin num flw byt dwat dlev dkin dcdp dsil sta wat lev kin cdp sil hour dep arr deb nxt kep fhour fdep farr fdeb gft bal giv tak inc trc nrs 2 z15 hz15))) gX8_copy_X8_found rfl rfl rfl (n := 1) (by decide +kernel) ⟨Nat.le_of_ble_eq_true rfl, Nat.le_of_ble_eq_true rfl⟩ (q0 := 0) (ci := 8) rfl rfl rfl rfl hl.1 rfl (Nat.le_of_ble_eq_true rfl) dX8_copy_103 ⟨Nat.zero_le _, Nat.zero_le _⟩ (fun U locs G => ?_)
              have G : Gd D A s (w_Top cy mAd GI GM GR lfa z15.2 lan siz len tok stt fin num flw byt dwat dlev dkin dcdp dsil sta wat lev kin cdp sil hour dep arr deb nxt kep fhour fdep farr fdeb gft bal giv tak inc trc nrs ++ w_Itm cy bAd b_itm ++ w_Itm cy cAd c_itm) U locs := G
              obtain rfl := Option.some.inj H
              exact ret_i C G rfl dX8_copy_106
            · have H := if_f H c14
              refine lv_aload_n hx hb dX8_copy_86 rfl (lv_at hl 0 rfl) ?_
              refine va_get (D := D) (ci := 8) (v := .ref (mAd 1)) (C := RX8) (T := TX8) (N := 11) hx hb hts hiX8 hown hK G.1 0 rfl rfl 0 (by decide) lk1 (fun _ h9 => h9) rfl dX8_copy_87 ?_
              refine lv_iload_n hx hb dX8_copy_90 rfl (lv_at hl 3 rfl) ?_
              refine lv_iload hx hb dX8_copy_91 (lv_at hl 4 rfl) ?_
              refine lv_iload hx hb dX8_copy_93 (lv_at hl 5 rfl) ?_
              obtain ⟨z16, hz16, H⟩ := bd_some H
              refine MI.callV z16 [.int p3, .int p4, .int p5] [] [1, 2, 3, 4] C G (c_X6_hasPlaces l D cy (fun k => mAd (k + 1)) GI lan siz p3 p4 p5 z16 hz16) gX8_copy_X6_hasPlaces rfl rfl rfl (n := 3) (by decide +kernel) ⟨Nat.le_of_ble_eq_true rfl, Nat.le_of_ble_eq_true rfl⟩ (q0 := 1) (ci := 6) rfl rfl rfl rfl rfl rfl rfl hl.1 rfl (Nat.le_of_ble_eq_true rfl) dX8_copy_95 ⟨Nat.zero_le _, Nat.zero_le _⟩ (fun U locs G => ?_)
              have G : Gd D A s (w_Top cy mAd GI GM GR lfa lfi lan siz len tok stt fin num flw byt dwat dlev dkin dcdp dsil sta wat lev kin cdp sil hour dep arr deb nxt kep fhour fdep farr fdeb gft bal giv tak inc trc nrs ++ w_Itm cy bAd b_itm ++ w_Itm cy cAd c_itm) U locs := G
              refine lv_if_ne (tgt := 107) hx hb dX8_copy_98 (by decide) (fun c17 => ?_) (fun c17 => ?_)
              · have H := if_f H c17
                refine lv_aload_n hx hb dX8_copy_107 rfl (lv_at hl 0 rfl) ?_
                refine va_get (D := D) (ci := 8) (v := .ref (mAd 1)) (C := RX8) (T := TX8) (N := 11) hx hb hts hiX8 hown hK G.1 0 rfl rfl 0 (by decide) lk1 (fun _ h9 => h9) rfl dX8_copy_108 ?_
                refine va_get (D := D) (ci := 6) (v := .ref (mAd 4)) (C := RX6) (T := TX6) (N := 3) hx hb hts hiX6 hown hK G.1 1 rfl rfl 0 (by decide) lk3 (fun _ h9 => h9) rfl dX8_copy_111 ?_
                refine lv_iload_n hx hb dX8_copy_114 rfl (lv_at hl 1 rfl) ?_
                refine g_aald (x := bAd 0) hx hb hK G.1 4 5 rfl rfl rfl hb10 (hg1 hb10) dX8_copy_115 ?_
                refine lv_iload_n hx hb dX8_copy_116 rfl (lv_at hl 2 rfl) ?_
                refine lv_aload_n hx hb dX8_copy_117 rfl (lv_at hl 0 rfl) ?_
                refine va_get (D := D) (ci := 8) (v := .ref (mAd 1)) (C := RX8) (T := TX8) (N := 11) hx hb hts hiX8 hown hK G.1 0 rfl rfl 0 (by decide) lk1 (fun _ h9 => h9) rfl dX8_copy_118 ?_
                refine va_get (D := D) (ci := 6) (v := .ref (mAd 4)) (C := RX6) (T := TX6) (N := 3) hx hb hts hiX6 hown hK G.1 1 rfl rfl 0 (by decide) lk3 (fun _ h9 => h9) rfl dX8_copy_121 ?_
                refine lv_iload_n hx hb dX8_copy_124 rfl (lv_at hl 3 rfl) ?_
                refine g_aald (x := cAd 0) hx hb hK G.1 4 5 rfl rfl rfl hb11 (hg2 hb11) dX8_copy_125 ?_
                refine lv_iload hx hb dX8_copy_126 (lv_at hl 4 rfl) ?_
                refine lv_iload hx hb dX8_copy_128 (lv_at hl 5 rfl) ?_
                obtain ⟨hc18, H⟩ := gd_some H
                refine va_copyi hx hb (hml.trans hl.1.symm) hown lk4 lk5 lk6 lk7 hK G.1 G.2.1 G.2.2 36 37 1 1 rfl rfl rfl rfl rfl (cpb_1 hc18) (cpb_2 hc18) (cpb_3 hc18) (cpb_4 hc18) (cpb_5 hc18) (fun _ _ => rfl) (Nat.le_of_ble_eq_true rfl) (Nat.le_of_ble_eq_true rfl) dX8_copy_130 (fun U locs hP hD hS => ?_)
                have G : Gd D A s (w_Top cy mAd GI GM GR lfa lfi lan siz len tok stt fin num flw byt dwat dlev dkin dcdp dsil sta wat lev kin cdp sil hour dep arr deb nxt kep fhour fdep farr fdeb gft bal giv tak inc trc nrs ++ w_Itm cy bAd b_itm ++ w_Itm cy cAd (va_cpy b_itm c_itm (ix p2) (ix p4) (ix p5))) U locs := ⟨hP, hD, hS⟩
                refine lv_aload_n hx hb dX8_copy_133 rfl (lv_at hl 0 rfl) ?_
                refine lv_iload hx hb dX8_copy_134 (lv_at hl 5 rfl) ?_
                obtain ⟨z19, hz19, H⟩ := bd_some H
                refine MI.callVw z19.1 [.int p5] [] C G (MI.tail _ (MI.tail _ (c_X8_fine l D cy mAd GI GM GR lfa lfi lan siz len tok stt fin num flw byt dwat dlev dkin dcdp dsil sta wat lev kin cdp sil hour dep arr deb nxt kep fhour fdep farr fdeb gft bal giv tak inc trc nrs p5 z19 hz19))) gX8_copy_X8_fine rfl rfl rfl (n := 1) (by decide +kernel) ⟨Nat.le_of_ble_eq_true rfl, Nat.le_of_ble_eq_true rfl⟩ (q0 := 0) (ci := 8) rfl rfl rfl rfl hl.1 rfl (Nat.le_of_ble_eq_true rfl) dX8_copy_136 ⟨Nat.zero_le _, Nat.zero_le _⟩ (fun U locs G => ?_)
                have G : Gd D A s (w_Top cy mAd GI GM GR lfa z19.2 lan siz len tok stt fin num flw byt dwat dlev dkin dcdp dsil sta wat lev kin cdp sil hour dep arr deb nxt kep fhour fdep farr fdeb gft bal giv tak inc trc nrs ++ w_Itm cy bAd b_itm ++ w_Itm cy cAd (va_cpy b_itm c_itm (ix p2) (ix p4) (ix p5))) U locs := G
                obtain rfl := Option.some.inj H
                exact ret_i C G rfl dX8_copy_139
              · have H := if_t H c17
                refine lv_aload_n hx hb dX8_copy_101 rfl (lv_at hl 0 rfl) ?_
                refine lv_iconst (v := 2) hx hb dX8_copy_102 (by decide) ?_
                obtain ⟨z20, hz20, H⟩ := bd_some H
                refine MI.callVw z20.1 [.int 2] [] C G (MI.tail _ (MI.tail _ (c_X8_found l D cy mAd GI GM GR lfa lfi lan siz len tok stt fin num flw byt dwat dlev dkin dcdp dsil sta wat lev kin cdp sil hour dep arr deb nxt kep fhour fdep farr fdeb gft bal giv tak inc trc nrs 2 z20 hz20))) gX8_copy_X8_found rfl rfl rfl (n := 1) (by decide +kernel) ⟨Nat.le_of_ble_eq_true rfl, Nat.le_of_ble_eq_true rfl⟩ (q0 := 0) (ci := 8) rfl rfl rfl rfl hl.1 rfl (Nat.le_of_ble_eq_true rfl) dX8_copy_103 ⟨Nat.zero_le _, Nat.zero_le _⟩ (fun U locs G => ?_)
                have G : Gd D A s (w_Top cy mAd GI GM GR lfa z20.2 lan siz len tok stt fin num flw byt dwat dlev dkin dcdp dsil sta wat lev kin cdp sil hour dep arr deb nxt kep fhour fdep farr fdeb gft bal giv tak inc trc nrs ++ w_Itm cy bAd b_itm ++ w_Itm cy cAd c_itm) U locs := G
                obtain rfl := Option.some.inj H
                exact ret_i C G rfl dX8_copy_106
          · have H := if_f H c12
            refine lv_aload_n hx hb dX8_copy_66 rfl (lv_at hl 0 rfl) ?_
            refine lv_iconst (v := 5) hx hb dX8_copy_67 (by decide) ?_
            obtain ⟨z21, hz21, H⟩ := bd_some H
            refine MI.callVw z21.1 [.int 5] [] C G (MI.tail _ (MI.tail _ (c_X8_found l D cy mAd GI GM GR lfa lfi lan siz len tok stt fin num flw byt dwat dlev dkin dcdp dsil sta wat lev kin cdp sil hour dep arr deb nxt kep fhour fdep farr fdeb gft bal giv tak inc trc nrs 5 z21 hz21))) gX8_copy_X8_found rfl rfl rfl (n := 1) (by decide +kernel) ⟨Nat.le_of_ble_eq_true rfl, Nat.le_of_ble_eq_true rfl⟩ (q0 := 0) (ci := 8) rfl rfl rfl rfl hl.1 rfl (Nat.le_of_ble_eq_true rfl) dX8_copy_68 ⟨Nat.zero_le _, Nat.zero_le _⟩ (fun U locs G => ?_)
            have G : Gd D A s (w_Top cy mAd GI GM GR lfa z21.2 lan siz len tok stt fin num flw byt dwat dlev dkin dcdp dsil sta wat lev kin cdp sil hour dep arr deb nxt kep fhour fdep farr fdeb gft bal giv tak inc trc nrs ++ w_Itm cy bAd b_itm ++ w_Itm cy cAd c_itm) U locs := G
            obtain rfl := Option.some.inj H
            exact ret_i C G rfl dX8_copy_71
        · have H := if_f H c9
          refine lv_aload_n hx hb dX8_copy_39 rfl (lv_at hl 0 rfl) ?_
          refine lv_iconst (v := 1) hx hb dX8_copy_40 (by decide) ?_
          obtain ⟨z22, hz22, H⟩ := bd_some H
          refine MI.callVw z22.1 [.int 1] [] C G (MI.tail _ (MI.tail _ (c_X8_found l D cy mAd GI GM GR lfa lfi lan siz len tok stt fin num flw byt dwat dlev dkin dcdp dsil sta wat lev kin cdp sil hour dep arr deb nxt kep fhour fdep farr fdeb gft bal giv tak inc trc nrs 1 z22 hz22))) gX8_copy_X8_found rfl rfl rfl (n := 1) (by decide +kernel) ⟨Nat.le_of_ble_eq_true rfl, Nat.le_of_ble_eq_true rfl⟩ (q0 := 0) (ci := 8) rfl rfl rfl rfl hl.1 rfl (Nat.le_of_ble_eq_true rfl) dX8_copy_41 ⟨Nat.zero_le _, Nat.zero_le _⟩ (fun U locs G => ?_)
          have G : Gd D A s (w_Top cy mAd GI GM GR lfa z22.2 lan siz len tok stt fin num flw byt dwat dlev dkin dcdp dsil sta wat lev kin cdp sil hour dep arr deb nxt kep fhour fdep farr fdeb gft bal giv tak inc trc nrs ++ w_Itm cy bAd b_itm ++ w_Itm cy cAd c_itm) U locs := G
          obtain rfl := Option.some.inj H
          exact ret_i C G rfl dX8_copy_44
    · have H := if_t H c4
      refine lv_ldc hx hb hown lk0 dX8_copy_14 ?_
      obtain rfl := Option.some.inj H
      exact ret_i C G rfl dX8_copy_16
def f_X8_copy_e (lfi : Int32) (lan siz b_itm : Nat → Int32) (p1 p2 p3 p4 p5 : Int32) : Option (Int32 × Int32 × (Nat → Int32)) := bd (f_X8_isRow p1) (fun z1 => if z1 = 0 then (some ((-1000001), lfi, b_itm)) else (bd (f_X8_isRow p3) (fun z3 => if z3 = 0 then (some ((-1000001), lfi, b_itm)) else (bd (f_X6_isMissing lan p1) (fun z5 => if z5 = 0 then (bd (f_X6_isMissing lan p3) (fun z8 => if z8 = 0 then (gd (inb p1 8) (gd (inb p3 8) (if (lan (ix p1)) = (lan (ix p3)) then (bd (f_X6_hasPlaces siz p1 p2 p5) (fun z13 => if z13 = 0 then (bd (f_X8_found lfi 2) (fun z15 => some (z15.1, z15.2, b_itm))) else (bd (f_X6_hasPlaces siz p3 p4 p5) (fun z16 => if z16 = 0 then (bd (f_X8_found lfi 2) (fun z20 => some (z20.1, z20.2, b_itm))) else (gd (cpb p2 p4 p5 40 40) (bd (f_X8_fine lfi p5) (fun z19 => some (z19.1, z19.2, va_cpy b_itm b_itm (ix p2) (ix p4) (ix p5))))))))) else (bd (f_X8_found lfi 5) (fun z21 => some (z21.1, z21.2, b_itm)))))) else (bd (f_X8_found lfi 1) (fun z22 => some (z22.1, z22.2, b_itm))))) else (bd (f_X8_found lfi 1) (fun z7 => some (z7.1, z7.2, b_itm))))))))
set_option maxHeartbeats 4000000 in
set_option maxRecDepth 100000 in
theorem c_X8_copy_e (l : Launch) (D : va_G) (cy : Nat → ClassId) (mAd : Nat → Nat) (bAd : Nat → Nat) (GI GM GR : Nat → Option Nat) (lfa lfi : Int32) (lan siz : Nat → Int32) (len tok stt fin num flw : Int32) (byt : Nat → Int32) (dwat : Int32) (dlev dkin dcdp dsil : Nat → Int32) (sta wat : Int32) (lev kin cdp sil : Nat → Int32) (hour : Int32) (dep arr deb : Nat → Int32) (nxt kep fhour : Int32) (fdep farr fdeb : Nat → Int32) (gft : Int32) (bal giv tak inc : Nat → Int32) (trc : Int32) (nrs b_itm : Nat → Int32) (p1 p2 p3 p4 p5 : Int32) (hg1 : inb p1 8 = true → GI (ix p1) = some (bAd 0)) (hg2 : inb p3 8 = true → GI (ix p3) = some (bAd 0)) (z : (Int32 × Int32 × (Nat → Int32))) (hz : f_X8_copy_e lfi lan siz b_itm p1 p2 p3 p4 p5 = some z) : MI l yX8_copy wsX8_copy ({ frames := 1, cells := 0, slots := 0, locals := 60 } : Room) D cy [.ref (mAd 0), .int p1, .int p2, .int p3, .int p4, .int p5] (w_Top cy mAd GI GM GR lfa lfi lan siz len tok stt fin num flw byt dwat dlev dkin dcdp dsil sta wat lev kin cdp sil hour dep arr deb nxt kep fhour fdep farr fdeb gft bal giv tak inc trc nrs ++ w_Itm cy bAd b_itm) z.1 (w_Top cy mAd GI GM GR lfa z.2.1 lan siz len tok stt fin num flw byt dwat dlev dkin dcdp dsil sta wat lev kin cdp sil hour dep arr deb nxt kep fhour fdep farr fdeb gft bal giv tak inc trc nrs ++ w_Itm cy bAd z.2.2) := by
  refine met_start (Qf := fun A => MQi D cy z.1 (w_Top cy mAd GI GM GR lfa z.2.1 lan siz len tok stt fin num flw byt dwat dlev dkin dcdp dsil sta wat lev kin cdp sil hour dep arr deb nxt kep fhour fdep farr fdeb gft bal giv tak inc trc nrs ++ w_Itm cy bAd z.2.2) A) (cc := cX8_copy) (nL := 6) (ret := (some .int)) RX8 rfl (by decide) rfl (Nat.le_of_ble_eq_true rfl) ?_
  intro p e s m below meth c A ls C G hl
  have hl : lv_has ls 6 [(0, .ref (mAd 0)), (1, .int p1), (2, .int p2), (3, .int p3), (4, .int p4), (5, .int p5)] := hl
  have H := hz
  unfold f_X8_copy_e at H
  obtain ⟨hx, hb, hr, hml, hown, hts, hlk, hK, hA, hE⟩ := id C
  have lk0 := hts (Cond.constant RX8 73 (-1000001)) (List.mem_of_getElem? (i := 1) rfl)
  have lk1 := hts (Cond.fieldLink RX8 10 "TideDebts" "rows" "LTideDebts$Rows;") (List.mem_of_getElem? (i := 2) rfl)
  have lk2 := hts (Cond.fieldLink RX8 96 "TideDebts$Rows" "lanes" "[I") (List.mem_of_getElem? (i := 3) rfl)
  have lk3 := hts (Cond.fieldLink RX8 100 "TideDebts$Rows" "items" "[[I") (List.mem_of_getElem? (i := 4) rfl)
  have lk4 := hts (Cond.methodLink RX8 104 arraycopyName) (List.mem_of_getElem? (i := 5) rfl)
  have lk5 := hts (Cond.native arraycopyName) (List.mem_of_getElem? (i := 6) rfl)
  have lk6 := hts (Cond.static arraycopyName) (List.mem_of_getElem? (i := 7) rfl)
  have lk7 := hts (Cond.initialized "java/lang/System") (List.mem_of_getElem? (i := 8) rfl)
  have hiX6 : ∀ w ∈ u_ws RX6 TX6 3, w ∈ wsX8_copy := fun _ h => List.mem_cons_of_mem _ (List.mem_append_right _ h)
  have hiX8 : ∀ w ∈ u_ws RX8 TX8 11, w ∈ wsX8_copy := fun _ h => List.mem_cons_of_mem _ (List.mem_append_left _ (List.mem_append_right _ h))
  refine lv_iload_n hx hb dX8_copy_0 rfl (lv_at hl 1 rfl) ?_
  obtain ⟨z1, hz1, H⟩ := bd_some H
  refine MI.callS z1 [.int p1] [] [] C G (c_X8_isRow l D cy p1 z1 hz1) gX8_copy_X8_isRow rfl rfl rfl (n := 1) (by decide +kernel) ⟨Nat.le_of_ble_eq_true rfl, Nat.le_of_ble_eq_true rfl⟩ rfl rfl rfl rfl hl.1 rfl (Nat.le_of_ble_eq_true rfl) dX8_copy_1 ⟨Nat.zero_le _, Nat.zero_le _⟩ (fun U locs G => ?_)
  have G : Gd D A s (w_Top cy mAd GI GM GR lfa lfi lan siz len tok stt fin num flw byt dwat dlev dkin dcdp dsil sta wat lev kin cdp sil hour dep arr deb nxt kep fhour fdep farr fdeb gft bal giv tak inc trc nrs ++ w_Itm cy bAd b_itm) U locs := G
  refine lv_if_eq (tgt := 14) hx hb dX8_copy_4 (by decide) (fun c2 => ?_) (fun c2 => ?_)
  · have H := if_t H c2
    refine lv_ldc hx hb hown lk0 dX8_copy_14 ?_
    obtain rfl := Option.some.inj H
    exact ret_i C G rfl dX8_copy_16
  · have H := if_f H c2
    refine lv_iload_n hx hb dX8_copy_7 rfl (lv_at hl 3 rfl) ?_
    obtain ⟨z3, hz3, H⟩ := bd_some H
    refine MI.callS z3 [.int p3] [] [] C G (c_X8_isRow l D cy p3 z3 hz3) gX8_copy_X8_isRow rfl rfl rfl (n := 1) (by decide +kernel) ⟨Nat.le_of_ble_eq_true rfl, Nat.le_of_ble_eq_true rfl⟩ rfl rfl rfl rfl hl.1 rfl (Nat.le_of_ble_eq_true rfl) dX8_copy_8 ⟨Nat.zero_le _, Nat.zero_le _⟩ (fun U locs G => ?_)
    have G : Gd D A s (w_Top cy mAd GI GM GR lfa lfi lan siz len tok stt fin num flw byt dwat dlev dkin dcdp dsil sta wat lev kin cdp sil hour dep arr deb nxt kep fhour fdep farr fdeb gft bal giv tak inc trc nrs ++ w_Itm cy bAd b_itm) U locs := G
    refine lv_if_ne (tgt := 17) hx hb dX8_copy_11 (by decide) (fun c4 => ?_) (fun c4 => ?_)
    · have H := if_f H c4
      refine lv_aload_n hx hb dX8_copy_17 rfl (lv_at hl 0 rfl) ?_
      refine va_get (D := D) (ci := 8) (v := .ref (mAd 1)) (C := RX8) (T := TX8) (N := 11) hx hb hts hiX8 hown hK G.1 0 rfl rfl 0 (by decide) lk1 (fun _ h9 => h9) rfl dX8_copy_18 ?_
      refine lv_iload_n hx hb dX8_copy_21 rfl (lv_at hl 1 rfl) ?_
      obtain ⟨z5, hz5, H⟩ := bd_some H
      refine MI.callV z5 [.int p1] [] [1, 2, 3, 4] C G (c_X6_isMissing l D cy (fun k => mAd (k + 1)) GI lan siz p1 z5 hz5) gX8_copy_X6_isMissing rfl rfl rfl (n := 1) (by decide +kernel) ⟨Nat.le_of_ble_eq_true rfl, Nat.le_of_ble_eq_true rfl⟩ (q0 := 1) (ci := 6) rfl rfl rfl rfl rfl rfl rfl hl.1 rfl (Nat.le_of_ble_eq_true rfl) dX8_copy_22 ⟨Nat.zero_le _, Nat.zero_le _⟩ (fun U locs G => ?_)
      have G : Gd D A s (w_Top cy mAd GI GM GR lfa lfi lan siz len tok stt fin num flw byt dwat dlev dkin dcdp dsil sta wat lev kin cdp sil hour dep arr deb nxt kep fhour fdep farr fdeb gft bal giv tak inc trc nrs ++ w_Itm cy bAd b_itm) U locs := G
      refine lv_if_ne (tgt := 39) hx hb dX8_copy_25 (by decide) (fun c6 => ?_) (fun c6 => ?_)
      · have H := if_f H c6
        refine lv_aload_n hx hb dX8_copy_39 rfl (lv_at hl 0 rfl) ?_
        refine lv_iconst (v := 1) hx hb dX8_copy_40 (by decide) ?_
        obtain ⟨z7, hz7, H⟩ := bd_some H
        refine MI.callVw z7.1 [.int 1] [] C G (MI.tail _ (c_X8_found l D cy mAd GI GM GR lfa lfi lan siz len tok stt fin num flw byt dwat dlev dkin dcdp dsil sta wat lev kin cdp sil hour dep arr deb nxt kep fhour fdep farr fdeb gft bal giv tak inc trc nrs 1 z7 hz7)) gX8_copy_X8_found rfl rfl rfl (n := 1) (by decide +kernel) ⟨Nat.le_of_ble_eq_true rfl, Nat.le_of_ble_eq_true rfl⟩ (q0 := 0) (ci := 8) rfl rfl rfl rfl hl.1 rfl (Nat.le_of_ble_eq_true rfl) dX8_copy_41 ⟨Nat.zero_le _, Nat.zero_le _⟩ (fun U locs G => ?_)
        have G : Gd D A s (w_Top cy mAd GI GM GR lfa z7.2 lan siz len tok stt fin num flw byt dwat dlev dkin dcdp dsil sta wat lev kin cdp sil hour dep arr deb nxt kep fhour fdep farr fdeb gft bal giv tak inc trc nrs ++ w_Itm cy bAd b_itm) U locs := G
        obtain rfl := Option.some.inj H
        exact ret_i C G rfl dX8_copy_44
      · have H := if_t H c6
        refine lv_aload_n hx hb dX8_copy_28 rfl (lv_at hl 0 rfl) ?_
        refine va_get (D := D) (ci := 8) (v := .ref (mAd 1)) (C := RX8) (T := TX8) (N := 11) hx hb hts hiX8 hown hK G.1 0 rfl rfl 0 (by decide) lk1 (fun _ h9 => h9) rfl dX8_copy_29 ?_
        refine lv_iload_n hx hb dX8_copy_32 rfl (lv_at hl 3 rfl) ?_
        obtain ⟨z8, hz8, H⟩ := bd_some H
        refine MI.callV z8 [.int p3] [] [1, 2, 3, 4] C G (c_X6_isMissing l D cy (fun k => mAd (k + 1)) GI lan siz p3 z8 hz8) gX8_copy_X6_isMissing rfl rfl rfl (n := 1) (by decide +kernel) ⟨Nat.le_of_ble_eq_true rfl, Nat.le_of_ble_eq_true rfl⟩ (q0 := 1) (ci := 6) rfl rfl rfl rfl rfl rfl rfl hl.1 rfl (Nat.le_of_ble_eq_true rfl) dX8_copy_33 ⟨Nat.zero_le _, Nat.zero_le _⟩ (fun U locs G => ?_)
        have G : Gd D A s (w_Top cy mAd GI GM GR lfa lfi lan siz len tok stt fin num flw byt dwat dlev dkin dcdp dsil sta wat lev kin cdp sil hour dep arr deb nxt kep fhour fdep farr fdeb gft bal giv tak inc trc nrs ++ w_Itm cy bAd b_itm) U locs := G
        refine lv_if_eq (tgt := 45) hx hb dX8_copy_36 (by decide) (fun c9 => ?_) (fun c9 => ?_)
        · have H := if_t H c9
          refine lv_aload_n hx hb dX8_copy_45 rfl (lv_at hl 0 rfl) ?_
          refine va_get (D := D) (ci := 8) (v := .ref (mAd 1)) (C := RX8) (T := TX8) (N := 11) hx hb hts hiX8 hown hK G.1 0 rfl rfl 0 (by decide) lk1 (fun _ h9 => h9) rfl dX8_copy_46 ?_
          refine va_get (D := D) (ci := 6) (v := .ref (mAd 2)) (C := RX6) (T := TX6) (N := 3) hx hb hts hiX6 hown hK G.1 1 rfl rfl 1 (by decide) lk2 (fun _ h9 => h9) rfl dX8_copy_49 ?_
          refine lv_iload_n hx hb dX8_copy_52 rfl (lv_at hl 1 rfl) ?_
          obtain ⟨hb10, H⟩ := gd_some H
          refine g_iald (v := lan (ix p1)) hx hb hK G.1 2 1 rfl rfl hb10 rfl dX8_copy_53 ?_
          refine lv_aload_n hx hb dX8_copy_54 rfl (lv_at hl 0 rfl) ?_
          refine va_get (D := D) (ci := 8) (v := .ref (mAd 1)) (C := RX8) (T := TX8) (N := 11) hx hb hts hiX8 hown hK G.1 0 rfl rfl 0 (by decide) lk1 (fun _ h9 => h9) rfl dX8_copy_55 ?_
          refine va_get (D := D) (ci := 6) (v := .ref (mAd 2)) (C := RX6) (T := TX6) (N := 3) hx hb hts hiX6 hown hK G.1 1 rfl rfl 1 (by decide) lk2 (fun _ h9 => h9) rfl dX8_copy_58 ?_
          refine lv_iload_n hx hb dX8_copy_61 rfl (lv_at hl 3 rfl) ?_
          obtain ⟨hb11, H⟩ := gd_some H
          refine g_iald (v := lan (ix p3)) hx hb hK G.1 2 1 rfl rfl hb11 rfl dX8_copy_62 ?_
          refine lv_icmp_eq (tgt := 72) hx hb dX8_copy_63 (by decide) (fun c12 => ?_) (fun c12 => ?_)
          · have H := if_t H c12
            refine lv_aload_n hx hb dX8_copy_72 rfl (lv_at hl 0 rfl) ?_
            refine va_get (D := D) (ci := 8) (v := .ref (mAd 1)) (C := RX8) (T := TX8) (N := 11) hx hb hts hiX8 hown hK G.1 0 rfl rfl 0 (by decide) lk1 (fun _ h9 => h9) rfl dX8_copy_73 ?_
            refine lv_iload_n hx hb dX8_copy_76 rfl (lv_at hl 1 rfl) ?_
            refine lv_iload_n hx hb dX8_copy_77 rfl (lv_at hl 2 rfl) ?_
            refine lv_iload hx hb dX8_copy_78 (lv_at hl 5 rfl) ?_
            obtain ⟨z13, hz13, H⟩ := bd_some H
            refine MI.callV z13 [.int p1, .int p2, .int p5] [] [1, 2, 3, 4] C G (c_X6_hasPlaces l D cy (fun k => mAd (k + 1)) GI lan siz p1 p2 p5 z13 hz13) gX8_copy_X6_hasPlaces rfl rfl rfl (n := 3) (by decide +kernel) ⟨Nat.le_of_ble_eq_true rfl, Nat.le_of_ble_eq_true rfl⟩ (q0 := 1) (ci := 6) rfl rfl rfl rfl rfl rfl rfl hl.1 rfl (Nat.le_of_ble_eq_true rfl) dX8_copy_80 ⟨Nat.zero_le _, Nat.zero_le _⟩ (fun U locs G => ?_)
            have G : Gd D A s (w_Top cy mAd GI GM GR lfa lfi lan siz len tok stt fin num flw byt dwat dlev dkin dcdp dsil sta wat lev kin cdp sil hour dep arr deb nxt kep fhour fdep farr fdeb gft bal giv tak inc trc nrs ++ w_Itm cy bAd b_itm) U locs := G
            refine lv_if_eq (tgt := 101) hx hb dX8_copy_83 (by decide) (fun c14 => ?_) (fun c14 => ?_)
            · have H := if_t H c14
              refine lv_aload_n hx hb dX8_copy_101 rfl (lv_at hl 0 rfl) ?_
              refine lv_iconst (v := 2) hx hb dX8_copy_102 (by decide) ?_
              obtain ⟨z15, hz15, H⟩ := bd_some H
              refine MI.callVw z15.1 [.int 2] [] C G (MI.tail _ (c_X8_found l D cy mAd GI GM GR lfa lfi lan siz len tok stt fin num flw byt dwat dlev dkin dcdp dsil sta wat lev kin cdp sil hour dep arr deb nxt kep fhour fdep farr fdeb gft bal giv tak inc trc nrs 2 z15 hz15)) gX8_copy_X8_found rfl rfl rfl (n := 1) (by decide +kernel) ⟨Nat.le_of_ble_eq_true rfl, Nat.le_of_ble_eq_true rfl⟩ (q0 := 0) (ci := 8) rfl rfl rfl rfl hl.1 rfl (Nat.le_of_ble_eq_true rfl) dX8_copy_103 ⟨Nat.zero_le _, Nat.zero_le _⟩ (fun U locs G => ?_)
              have G : Gd D A s (w_Top cy mAd GI GM GR lfa z15.2 lan siz len tok stt fin num flw byt dwat dlev dkin dcdp dsil sta wat lev kin cdp sil hour dep arr deb nxt kep fhour fdep farr fdeb gft bal giv tak inc trc nrs ++ w_Itm cy bAd b_itm) U locs := G
              obtain rfl := Option.some.inj H
              exact ret_i C G rfl dX8_copy_106
            · have H := if_f H c14
              refine lv_aload_n hx hb dX8_copy_86 rfl (lv_at hl 0 rfl) ?_
              refine va_get (D := D) (ci := 8) (v := .ref (mAd 1)) (C := RX8) (T := TX8) (N := 11) hx hb hts hiX8 hown hK G.1 0 rfl rfl 0 (by decide) lk1 (fun _ h9 => h9) rfl dX8_copy_87 ?_
              refine lv_iload_n hx hb dX8_copy_90 rfl (lv_at hl 3 rfl) ?_
              refine lv_iload hx hb dX8_copy_91 (lv_at hl 4 rfl) ?_
              refine lv_iload hx hb dX8_copy_93 (lv_at hl 5 rfl) ?_
              obtain ⟨z16, hz16, H⟩ := bd_some H
              refine MI.callV z16 [.int p3, .int p4, .int p5] [] [1, 2, 3, 4] C G (c_X6_hasPlaces l D cy (fun k => mAd (k + 1)) GI lan siz p3 p4 p5 z16 hz16) gX8_copy_X6_hasPlaces rfl rfl rfl (n := 3) (by decide +kernel) ⟨Nat.le_of_ble_eq_true rfl, Nat.le_of_ble_eq_true rfl⟩ (q0 := 1) (ci := 6) rfl rfl rfl rfl rfl rfl rfl hl.1 rfl (Nat.le_of_ble_eq_true rfl) dX8_copy_95 ⟨Nat.zero_le _, Nat.zero_le _⟩ (fun U locs G => ?_)
              have G : Gd D A s (w_Top cy mAd GI GM GR lfa lfi lan siz len tok stt fin num flw byt dwat dlev dkin dcdp dsil sta wat lev kin cdp sil hour dep arr deb nxt kep fhour fdep farr fdeb gft bal giv tak inc trc nrs ++ w_Itm cy bAd b_itm) U locs := G
              refine lv_if_ne (tgt := 107) hx hb dX8_copy_98 (by decide) (fun c17 => ?_) (fun c17 => ?_)
              · have H := if_f H c17
                refine lv_aload_n hx hb dX8_copy_107 rfl (lv_at hl 0 rfl) ?_
                refine va_get (D := D) (ci := 8) (v := .ref (mAd 1)) (C := RX8) (T := TX8) (N := 11) hx hb hts hiX8 hown hK G.1 0 rfl rfl 0 (by decide) lk1 (fun _ h9 => h9) rfl dX8_copy_108 ?_
                refine va_get (D := D) (ci := 6) (v := .ref (mAd 4)) (C := RX6) (T := TX6) (N := 3) hx hb hts hiX6 hown hK G.1 1 rfl rfl 0 (by decide) lk3 (fun _ h9 => h9) rfl dX8_copy_111 ?_
                refine lv_iload_n hx hb dX8_copy_114 rfl (lv_at hl 1 rfl) ?_
                refine g_aald (x := bAd 0) hx hb hK G.1 4 5 rfl rfl rfl hb10 (hg1 hb10) dX8_copy_115 ?_
                refine lv_iload_n hx hb dX8_copy_116 rfl (lv_at hl 2 rfl) ?_
                refine lv_aload_n hx hb dX8_copy_117 rfl (lv_at hl 0 rfl) ?_
                refine va_get (D := D) (ci := 8) (v := .ref (mAd 1)) (C := RX8) (T := TX8) (N := 11) hx hb hts hiX8 hown hK G.1 0 rfl rfl 0 (by decide) lk1 (fun _ h9 => h9) rfl dX8_copy_118 ?_
                refine va_get (D := D) (ci := 6) (v := .ref (mAd 4)) (C := RX6) (T := TX6) (N := 3) hx hb hts hiX6 hown hK G.1 1 rfl rfl 0 (by decide) lk3 (fun _ h9 => h9) rfl dX8_copy_121 ?_
                refine lv_iload_n hx hb dX8_copy_124 rfl (lv_at hl 3 rfl) ?_
                refine g_aald (x := bAd 0) hx hb hK G.1 4 5 rfl rfl rfl hb11 (hg2 hb11) dX8_copy_125 ?_
                refine lv_iload hx hb dX8_copy_126 (lv_at hl 4 rfl) ?_
                refine lv_iload hx hb dX8_copy_128 (lv_at hl 5 rfl) ?_
                obtain ⟨hc18, H⟩ := gd_some H
                refine va_copyi hx hb (hml.trans hl.1.symm) hown lk4 lk5 lk6 lk7 hK G.1 G.2.1 G.2.2 36 36 1 1 rfl rfl rfl rfl rfl (cpb_1 hc18) (cpb_2 hc18) (cpb_3 hc18) (cpb_4 hc18) (cpb_5 hc18) (fun _ _ => rfl) (Nat.le_of_ble_eq_true rfl) (Nat.le_of_ble_eq_true rfl) dX8_copy_130 (fun U locs hP hD hS => ?_)
                have G : Gd D A s (w_Top cy mAd GI GM GR lfa lfi lan siz len tok stt fin num flw byt dwat dlev dkin dcdp dsil sta wat lev kin cdp sil hour dep arr deb nxt kep fhour fdep farr fdeb gft bal giv tak inc trc nrs ++ w_Itm cy bAd (va_cpy b_itm b_itm (ix p2) (ix p4) (ix p5))) U locs := ⟨hP, hD, hS⟩
                refine lv_aload_n hx hb dX8_copy_133 rfl (lv_at hl 0 rfl) ?_
                refine lv_iload hx hb dX8_copy_134 (lv_at hl 5 rfl) ?_
                obtain ⟨z19, hz19, H⟩ := bd_some H
                refine MI.callVw z19.1 [.int p5] [] C G (MI.tail _ (c_X8_fine l D cy mAd GI GM GR lfa lfi lan siz len tok stt fin num flw byt dwat dlev dkin dcdp dsil sta wat lev kin cdp sil hour dep arr deb nxt kep fhour fdep farr fdeb gft bal giv tak inc trc nrs p5 z19 hz19)) gX8_copy_X8_fine rfl rfl rfl (n := 1) (by decide +kernel) ⟨Nat.le_of_ble_eq_true rfl, Nat.le_of_ble_eq_true rfl⟩ (q0 := 0) (ci := 8) rfl rfl rfl rfl hl.1 rfl (Nat.le_of_ble_eq_true rfl) dX8_copy_136 ⟨Nat.zero_le _, Nat.zero_le _⟩ (fun U locs G => ?_)
                have G : Gd D A s (w_Top cy mAd GI GM GR lfa z19.2 lan siz len tok stt fin num flw byt dwat dlev dkin dcdp dsil sta wat lev kin cdp sil hour dep arr deb nxt kep fhour fdep farr fdeb gft bal giv tak inc trc nrs ++ w_Itm cy bAd (va_cpy b_itm b_itm (ix p2) (ix p4) (ix p5))) U locs := G
                obtain rfl := Option.some.inj H
                exact ret_i C G rfl dX8_copy_139
              · have H := if_t H c17
                refine lv_aload_n hx hb dX8_copy_101 rfl (lv_at hl 0 rfl) ?_
                refine lv_iconst (v := 2) hx hb dX8_copy_102 (by decide) ?_
                obtain ⟨z20, hz20, H⟩ := bd_some H
                refine MI.callVw z20.1 [.int 2] [] C G (MI.tail _ (c_X8_found l D cy mAd GI GM GR lfa lfi lan siz len tok stt fin num flw byt dwat dlev dkin dcdp dsil sta wat lev kin cdp sil hour dep arr deb nxt kep fhour fdep farr fdeb gft bal giv tak inc trc nrs 2 z20 hz20)) gX8_copy_X8_found rfl rfl rfl (n := 1) (by decide +kernel) ⟨Nat.le_of_ble_eq_true rfl, Nat.le_of_ble_eq_true rfl⟩ (q0 := 0) (ci := 8) rfl rfl rfl rfl hl.1 rfl (Nat.le_of_ble_eq_true rfl) dX8_copy_103 ⟨Nat.zero_le _, Nat.zero_le _⟩ (fun U locs G => ?_)
                have G : Gd D A s (w_Top cy mAd GI GM GR lfa z20.2 lan siz len tok stt fin num flw byt dwat dlev dkin dcdp dsil sta wat lev kin cdp sil hour dep arr deb nxt kep fhour fdep farr fdeb gft bal giv tak inc trc nrs ++ w_Itm cy bAd b_itm) U locs := G
                obtain rfl := Option.some.inj H
                exact ret_i C G rfl dX8_copy_106
          · have H := if_f H c12
            refine lv_aload_n hx hb dX8_copy_66 rfl (lv_at hl 0 rfl) ?_
            refine lv_iconst (v := 5) hx hb dX8_copy_67 (by decide) ?_
            obtain ⟨z21, hz21, H⟩ := bd_some H
            refine MI.callVw z21.1 [.int 5] [] C G (MI.tail _ (c_X8_found l D cy mAd GI GM GR lfa lfi lan siz len tok stt fin num flw byt dwat dlev dkin dcdp dsil sta wat lev kin cdp sil hour dep arr deb nxt kep fhour fdep farr fdeb gft bal giv tak inc trc nrs 5 z21 hz21)) gX8_copy_X8_found rfl rfl rfl (n := 1) (by decide +kernel) ⟨Nat.le_of_ble_eq_true rfl, Nat.le_of_ble_eq_true rfl⟩ (q0 := 0) (ci := 8) rfl rfl rfl rfl hl.1 rfl (Nat.le_of_ble_eq_true rfl) dX8_copy_68 ⟨Nat.zero_le _, Nat.zero_le _⟩ (fun U locs G => ?_)
            have G : Gd D A s (w_Top cy mAd GI GM GR lfa z21.2 lan siz len tok stt fin num flw byt dwat dlev dkin dcdp dsil sta wat lev kin cdp sil hour dep arr deb nxt kep fhour fdep farr fdeb gft bal giv tak inc trc nrs ++ w_Itm cy bAd b_itm) U locs := G
            obtain rfl := Option.some.inj H
            exact ret_i C G rfl dX8_copy_71
        · have H := if_f H c9
          refine lv_aload_n hx hb dX8_copy_39 rfl (lv_at hl 0 rfl) ?_
          refine lv_iconst (v := 1) hx hb dX8_copy_40 (by decide) ?_
          obtain ⟨z22, hz22, H⟩ := bd_some H
          refine MI.callVw z22.1 [.int 1] [] C G (MI.tail _ (c_X8_found l D cy mAd GI GM GR lfa lfi lan siz len tok stt fin num flw byt dwat dlev dkin dcdp dsil sta wat lev kin cdp sil hour dep arr deb nxt kep fhour fdep farr fdeb gft bal giv tak inc trc nrs 1 z22 hz22)) gX8_copy_X8_found rfl rfl rfl (n := 1) (by decide +kernel) ⟨Nat.le_of_ble_eq_true rfl, Nat.le_of_ble_eq_true rfl⟩ (q0 := 0) (ci := 8) rfl rfl rfl rfl hl.1 rfl (Nat.le_of_ble_eq_true rfl) dX8_copy_41 ⟨Nat.zero_le _, Nat.zero_le _⟩ (fun U locs G => ?_)
          have G : Gd D A s (w_Top cy mAd GI GM GR lfa z22.2 lan siz len tok stt fin num flw byt dwat dlev dkin dcdp dsil sta wat lev kin cdp sil hour dep arr deb nxt kep fhour fdep farr fdeb gft bal giv tak inc trc nrs ++ w_Itm cy bAd b_itm) U locs := G
          obtain rfl := Option.some.inj H
          exact ret_i C G rfl dX8_copy_44
    · have H := if_t H c4
      refine lv_ldc hx hb hown lk0 dX8_copy_14 ?_
      obtain rfl := Option.some.inj H
      exact ret_i C G rfl dX8_copy_16
def f_X8_frauds_m (lfi : Int32) (lan siz : Nat → Int32) (sta wat : Int32) (lev kin sil : Nat → Int32) (hour : Int32) (dep arr deb : Nat → Int32) (fhour : Int32) (fdep farr fdeb b_itm : Nat → Int32) (p1 p2 : Int32) : Option (Int32 × Int32 × Int32 × (Nat → Int32) × (Nat → Int32) × (Nat → Int32)) := if sta = 0 then (some ((-1000002), lfi, fhour, fdep, farr, fdeb)) else (bd (f_X8_isRow p1) (fun z2 => if z2 = 0 then (some ((-1000001), lfi, fhour, fdep, farr, fdeb)) else (bd (f_X6_isMissing lan p1) (fun z4 => if z4 = 0 then (bd (f_X6_hasPlaces siz p1 p2 wat) (fun z6 => if z6 = 0 then (bd (f_X8_found lfi 2) (fun z13 => some (z13.1, z13.2, fhour, fdep, farr, fdeb))) else (bd (f_X6_hasBelowZero_m b_itm p1 p2 wat) (fun z8 => if z8 = 0 then (gd (inb p1 8) (bd (f_X8_watersToldWrong wat lev kin sil hour dep arr deb fhour fdep farr fdeb b_itm p2) (fun z11 => bd (f_X8_fine lfi z11.1) (fun z12 => some (z12.1, z12.2, z11.2.1, z11.2.2.1, z11.2.2.2.1, z11.2.2.2.2))))) else (some ((-1000001), lfi, fhour, fdep, farr, fdeb)))))) else (bd (f_X8_found lfi 1) (fun z14 => some (z14.1, z14.2, fhour, fdep, farr, fdeb)))))))
set_option maxHeartbeats 4000000 in
set_option maxRecDepth 100000 in
theorem c_X8_frauds_m (l : Launch) (D : va_G) (cy : Nat → ClassId) (mAd : Nat → Nat) (bAd : Nat → Nat) (GI GM GR : Nat → Option Nat) (lfa lfi : Int32) (lan siz : Nat → Int32) (len tok stt fin num flw : Int32) (byt : Nat → Int32) (dwat : Int32) (dlev dkin dcdp dsil : Nat → Int32) (sta wat : Int32) (lev kin cdp sil : Nat → Int32) (hour : Int32) (dep arr deb : Nat → Int32) (nxt kep fhour : Int32) (fdep farr fdeb : Nat → Int32) (gft : Int32) (bal giv tak inc : Nat → Int32) (trc : Int32) (nrs b_itm : Nat → Int32) (p1 p2 : Int32) (hg1 : inb p1 8 = true → GI (ix p1) = some (bAd 0)) (z : (Int32 × Int32 × Int32 × (Nat → Int32) × (Nat → Int32) × (Nat → Int32))) (hz : f_X8_frauds_m lfi lan siz sta wat lev kin sil hour dep arr deb fhour fdep farr fdeb b_itm p1 p2 = some z) : MI l yX8_frauds wsX8_frauds ({ frames := 6, cells := 0, slots := 0, locals := 133 } : Room) D cy [.ref (mAd 0), .int p1, .int p2] (w_Top cy mAd GI GM GR lfa lfi lan siz len tok stt fin num flw byt dwat dlev dkin dcdp dsil sta wat lev kin cdp sil hour dep arr deb nxt kep fhour fdep farr fdeb gft bal giv tak inc trc nrs ++ w_Itm cy bAd b_itm) z.1 (w_Top cy mAd GI GM GR lfa z.2.1 lan siz len tok stt fin num flw byt dwat dlev dkin dcdp dsil sta wat lev kin cdp sil hour dep arr deb nxt kep z.2.2.1 z.2.2.2.1 z.2.2.2.2.1 z.2.2.2.2.2 gft bal giv tak inc trc nrs ++ w_Itm cy bAd b_itm) := by
  refine met_start (Qf := fun A => MQi D cy z.1 (w_Top cy mAd GI GM GR lfa z.2.1 lan siz len tok stt fin num flw byt dwat dlev dkin dcdp dsil sta wat lev kin cdp sil hour dep arr deb nxt kep z.2.2.1 z.2.2.2.1 z.2.2.2.2.1 z.2.2.2.2.2 gft bal giv tak inc trc nrs ++ w_Itm cy bAd b_itm) A) (cc := cX8_frauds) (nL := 3) (ret := (some .int)) RX8 rfl (by decide) rfl (Nat.le_of_ble_eq_true rfl) ?_
  intro p e s m below meth c A ls C G hl
  have hl : lv_has ls 3 [(0, .ref (mAd 0)), (1, .int p1), (2, .int p2)] := hl
  have H := hz
  unfold f_X8_frauds_m at H
  obtain ⟨hx, hb, hr, hml, hown, hts, hlk, hK, hA, hE⟩ := id C
  have lk0 := hts (Cond.fieldLink RX8 33 "TideDebts" "now" "LTideDebts$Bay;") (List.mem_of_getElem? (i := 1) rfl)
  have lk1 := hts (Cond.fieldLink RX8 146 "TideDebts$Bay" "stands" "Z") (List.mem_of_getElem? (i := 2) rfl)
  have lk2 := hts (Cond.fieldLink RX8 10 "TideDebts" "rows" "LTideDebts$Rows;") (List.mem_of_getElem? (i := 5) rfl)
  have lk3 := hts (Cond.fieldLink RX8 140 "TideDebts$Bay" "chart" "LTideDebts$Chart;") (List.mem_of_getElem? (i := 6) rfl)
  have lk4 := hts (Cond.fieldLink RX8 143 "TideDebts$Chart" "waters" "I") (List.mem_of_getElem? (i := 7) rfl)
  have lk5 := hts (Cond.fieldLink RX8 100 "TideDebts$Rows" "items" "[[I") (List.mem_of_getElem? (i := 8) rfl)
  have lk6 := hts (Cond.constant RX8 73 (-1000001)) (List.mem_of_getElem? (i := 4) rfl)
  have lk7 := hts (Cond.constant RX8 150 (-1000002)) (List.mem_of_getElem? (i := 3) rfl)
  have hiX1 : ∀ w ∈ u_ws RX1 TX1 3, w ∈ wsX8_frauds := fun _ h => List.mem_cons_of_mem _ (List.mem_append_left _ (List.mem_append_left _ (List.mem_append_left _ (List.mem_append_right _ h))))
  have hiX2 : ∀ w ∈ u_ws RX2 TX2 5, w ∈ wsX8_frauds := fun _ h => List.mem_cons_of_mem _ (List.mem_append_left _ (List.mem_append_left _ (List.mem_append_right _ h)))
  have hiX6 : ∀ w ∈ u_ws RX6 TX6 3, w ∈ wsX8_frauds := fun _ h => List.mem_cons_of_mem _ (List.mem_append_left _ (List.mem_append_right _ h))
  have hiX8 : ∀ w ∈ u_ws RX8 TX8 11, w ∈ wsX8_frauds := fun _ h => List.mem_cons_of_mem _ (List.mem_append_left _ (List.mem_append_left _ (List.mem_append_left _ (List.mem_append_left _ (List.mem_append_right _ h)))))
  refine lv_aload_n hx hb dX8_frauds_0 rfl (lv_at hl 0 rfl) ?_
  refine va_get (D := D) (ci := 8) (v := .ref (mAd 12)) (C := RX8) (T := TX8) (N := 11) hx hb hts hiX8 hown hK G.1 0 rfl rfl 3 (by decide) lk0 (fun _ h9 => h9) rfl dX8_frauds_1 ?_
  refine va_get (D := D) (ci := 1) (v := .int sta) (C := RX1) (T := TX1) (N := 3) hx hb hts hiX1 hown hK G.1 12 rfl rfl 2 (by decide) lk1 (fun _ h9 => h9) rfl dX8_frauds_4 ?_
  refine lv_if_ne (tgt := 13) hx hb dX8_frauds_7 (by decide) (fun c1 => ?_) (fun c1 => ?_)
  · have H := if_f H c1
    refine lv_iload_n hx hb dX8_frauds_13 rfl (lv_at hl 1 rfl) ?_
    obtain ⟨z2, hz2, H⟩ := bd_some H
    refine MI.callS z2 [.int p1] [] [] C G (c_X8_isRow l D cy p1 z2 hz2) gX8_frauds_X8_isRow rfl rfl rfl (n := 1) (by decide +kernel) ⟨Nat.le_of_ble_eq_true rfl, Nat.le_of_ble_eq_true rfl⟩ rfl rfl rfl rfl hl.1 rfl (Nat.le_of_ble_eq_true rfl) dX8_frauds_14 ⟨Nat.zero_le _, Nat.zero_le _⟩ (fun U locs G => ?_)
    have G : Gd D A s (w_Top cy mAd GI GM GR lfa lfi lan siz len tok stt fin num flw byt dwat dlev dkin dcdp dsil sta wat lev kin cdp sil hour dep arr deb nxt kep fhour fdep farr fdeb gft bal giv tak inc trc nrs ++ w_Itm cy bAd b_itm) U locs := G
    refine lv_if_ne (tgt := 23) hx hb dX8_frauds_17 (by decide) (fun c3 => ?_) (fun c3 => ?_)
    · have H := if_f H c3
      refine lv_aload_n hx hb dX8_frauds_23 rfl (lv_at hl 0 rfl) ?_
      refine va_get (D := D) (ci := 8) (v := .ref (mAd 1)) (C := RX8) (T := TX8) (N := 11) hx hb hts hiX8 hown hK G.1 0 rfl rfl 0 (by decide) lk2 (fun _ h9 => h9) rfl dX8_frauds_24 ?_
      refine lv_iload_n hx hb dX8_frauds_27 rfl (lv_at hl 1 rfl) ?_
      obtain ⟨z4, hz4, H⟩ := bd_some H
      refine MI.callV z4 [.int p1] [] [1, 2, 3, 4] C G (c_X6_isMissing l D cy (fun k => mAd (k + 1)) GI lan siz p1 z4 hz4) gX8_frauds_X6_isMissing rfl rfl rfl (n := 1) (by decide +kernel) ⟨Nat.le_of_ble_eq_true rfl, Nat.le_of_ble_eq_true rfl⟩ (q0 := 1) (ci := 6) rfl rfl rfl rfl rfl rfl rfl hl.1 rfl (Nat.le_of_ble_eq_true rfl) dX8_frauds_28 ⟨Nat.zero_le _, Nat.zero_le _⟩ (fun U locs G => ?_)
      have G : Gd D A s (w_Top cy mAd GI GM GR lfa lfi lan siz len tok stt fin num flw byt dwat dlev dkin dcdp dsil sta wat lev kin cdp sil hour dep arr deb nxt kep fhour fdep farr fdeb gft bal giv tak inc trc nrs ++ w_Itm cy bAd b_itm) U locs := G
      refine lv_if_eq (tgt := 40) hx hb dX8_frauds_31 (by decide) (fun c5 => ?_) (fun c5 => ?_)
      · have H := if_t H c5
        refine lv_aload_n hx hb dX8_frauds_40 rfl (lv_at hl 0 rfl) ?_
        refine va_get (D := D) (ci := 8) (v := .ref (mAd 1)) (C := RX8) (T := TX8) (N := 11) hx hb hts hiX8 hown hK G.1 0 rfl rfl 0 (by decide) lk2 (fun _ h9 => h9) rfl dX8_frauds_41 ?_
        refine lv_iload_n hx hb dX8_frauds_44 rfl (lv_at hl 1 rfl) ?_
        refine lv_iload_n hx hb dX8_frauds_45 rfl (lv_at hl 2 rfl) ?_
        refine lv_aload_n hx hb dX8_frauds_46 rfl (lv_at hl 0 rfl) ?_
        refine va_get (D := D) (ci := 8) (v := .ref (mAd 12)) (C := RX8) (T := TX8) (N := 11) hx hb hts hiX8 hown hK G.1 0 rfl rfl 3 (by decide) lk0 (fun _ h9 => h9) rfl dX8_frauds_47 ?_
        refine va_get (D := D) (ci := 1) (v := .ref (mAd 13)) (C := RX1) (T := TX1) (N := 3) hx hb hts hiX1 hown hK G.1 12 rfl rfl 0 (by decide) lk3 (fun _ h9 => h9) rfl dX8_frauds_50 ?_
        refine va_get (D := D) (ci := 2) (v := .int wat) (C := RX2) (T := TX2) (N := 5) hx hb hts hiX2 hown hK G.1 13 rfl rfl 4 (by decide) lk4 (fun _ h9 => h9) rfl dX8_frauds_53 ?_
        obtain ⟨z6, hz6, H⟩ := bd_some H
        refine MI.callV z6 [.int p1, .int p2, .int wat] [] [1, 2, 3, 4] C G (c_X6_hasPlaces l D cy (fun k => mAd (k + 1)) GI lan siz p1 p2 wat z6 hz6) gX8_frauds_X6_hasPlaces rfl rfl rfl (n := 3) (by decide +kernel) ⟨Nat.le_of_ble_eq_true rfl, Nat.le_of_ble_eq_true rfl⟩ (q0 := 1) (ci := 6) rfl rfl rfl rfl rfl rfl rfl hl.1 rfl (Nat.le_of_ble_eq_true rfl) dX8_frauds_56 ⟨Nat.zero_le _, Nat.zero_le _⟩ (fun U locs G => ?_)
        have G : Gd D A s (w_Top cy mAd GI GM GR lfa lfi lan siz len tok stt fin num flw byt dwat dlev dkin dcdp dsil sta wat lev kin cdp sil hour dep arr deb nxt kep fhour fdep farr fdeb gft bal giv tak inc trc nrs ++ w_Itm cy bAd b_itm) U locs := G
        refine lv_if_ne (tgt := 68) hx hb dX8_frauds_59 (by decide) (fun c7 => ?_) (fun c7 => ?_)
        · have H := if_f H c7
          refine lv_aload_n hx hb dX8_frauds_68 rfl (lv_at hl 0 rfl) ?_
          refine va_get (D := D) (ci := 8) (v := .ref (mAd 1)) (C := RX8) (T := TX8) (N := 11) hx hb hts hiX8 hown hK G.1 0 rfl rfl 0 (by decide) lk2 (fun _ h9 => h9) rfl dX8_frauds_69 ?_
          refine lv_iload_n hx hb dX8_frauds_72 rfl (lv_at hl 1 rfl) ?_
          refine lv_iload_n hx hb dX8_frauds_73 rfl (lv_at hl 2 rfl) ?_
          refine lv_aload_n hx hb dX8_frauds_74 rfl (lv_at hl 0 rfl) ?_
          refine va_get (D := D) (ci := 8) (v := .ref (mAd 12)) (C := RX8) (T := TX8) (N := 11) hx hb hts hiX8 hown hK G.1 0 rfl rfl 3 (by decide) lk0 (fun _ h9 => h9) rfl dX8_frauds_75 ?_
          refine va_get (D := D) (ci := 1) (v := .ref (mAd 13)) (C := RX1) (T := TX1) (N := 3) hx hb hts hiX1 hown hK G.1 12 rfl rfl 0 (by decide) lk3 (fun _ h9 => h9) rfl dX8_frauds_78 ?_
          refine va_get (D := D) (ci := 2) (v := .int wat) (C := RX2) (T := TX2) (N := 5) hx hb hts hiX2 hown hK G.1 13 rfl rfl 4 (by decide) lk4 (fun _ h9 => h9) rfl dX8_frauds_81 ?_
          obtain ⟨z8, hz8, H⟩ := bd_some H
          refine MI.callV z8 [.int p1, .int p2, .int wat] [] [1, 2, 3, 4, 36] C G (c_X6_hasBelowZero_m l D cy (fun k => mAd (k + 1)) bAd GI lan siz b_itm p1 p2 wat hg1 z8 hz8) gX8_frauds_X6_hasBelowZero rfl rfl rfl (n := 3) (by decide +kernel) ⟨Nat.le_of_ble_eq_true rfl, Nat.le_of_ble_eq_true rfl⟩ (q0 := 1) (ci := 6) rfl rfl rfl rfl rfl rfl rfl hl.1 rfl (Nat.le_of_ble_eq_true rfl) dX8_frauds_84 ⟨Nat.zero_le _, Nat.zero_le _⟩ (fun U locs G => ?_)
          have G : Gd D A s (w_Top cy mAd GI GM GR lfa lfi lan siz len tok stt fin num flw byt dwat dlev dkin dcdp dsil sta wat lev kin cdp sil hour dep arr deb nxt kep fhour fdep farr fdeb gft bal giv tak inc trc nrs ++ w_Itm cy bAd b_itm) U locs := G
          refine lv_if_eq (tgt := 93) hx hb dX8_frauds_87 (by decide) (fun c9 => ?_) (fun c9 => ?_)
          · have H := if_t H c9
            refine lv_aload_n hx hb dX8_frauds_93 rfl (lv_at hl 0 rfl) ?_
            refine lv_aload_n hx hb dX8_frauds_94 rfl (lv_at hl 0 rfl) ?_
            refine lv_aload_n hx hb dX8_frauds_95 rfl (lv_at hl 0 rfl) ?_
            refine va_get (D := D) (ci := 8) (v := .ref (mAd 1)) (C := RX8) (T := TX8) (N := 11) hx hb hts hiX8 hown hK G.1 0 rfl rfl 0 (by decide) lk2 (fun _ h9 => h9) rfl dX8_frauds_96 ?_
            refine va_get (D := D) (ci := 6) (v := .ref (mAd 4)) (C := RX6) (T := TX6) (N := 3) hx hb hts hiX6 hown hK G.1 1 rfl rfl 0 (by decide) lk5 (fun _ h9 => h9) rfl dX8_frauds_99 ?_
            refine lv_iload_n hx hb dX8_frauds_102 rfl (lv_at hl 1 rfl) ?_
            obtain ⟨hb10, H⟩ := gd_some H
            refine g_aald (x := bAd 0) hx hb hK G.1 4 5 rfl rfl rfl hb10 (hg1 hb10) dX8_frauds_103 ?_
            refine lv_iload_n hx hb dX8_frauds_104 rfl (lv_at hl 2 rfl) ?_
            obtain ⟨z11, hz11, H⟩ := bd_some H
            refine MI.callVw z11.1 [.ref (bAd 0), .int p2] [.ref (mAd 0)] C G (c_X8_watersToldWrong l D cy mAd bAd GI GM GR lfa lfi lan siz len tok stt fin num flw byt dwat dlev dkin dcdp dsil sta wat lev kin cdp sil hour dep arr deb nxt kep fhour fdep farr fdeb gft bal giv tak inc trc nrs b_itm p2 z11 hz11) gX8_frauds_X8_watersToldWrong rfl rfl rfl (n := 2) (by decide +kernel) ⟨Nat.le_of_ble_eq_true rfl, Nat.le_of_ble_eq_true rfl⟩ (q0 := 0) (ci := 8) rfl rfl rfl rfl hl.1 rfl (Nat.le_of_ble_eq_true rfl) dX8_frauds_105 ⟨Nat.zero_le _, Nat.zero_le _⟩ (fun U locs G => ?_)
            have G : Gd D A s (w_Top cy mAd GI GM GR lfa lfi lan siz len tok stt fin num flw byt dwat dlev dkin dcdp dsil sta wat lev kin cdp sil hour dep arr deb nxt kep z11.2.1 z11.2.2.1 z11.2.2.2.1 z11.2.2.2.2 gft bal giv tak inc trc nrs ++ w_Itm cy bAd b_itm) U locs := G
            obtain ⟨z12, hz12, H⟩ := bd_some H
            refine MI.callVw z12.1 [.int z11.1] [] C G (MI.tail _ (c_X8_fine l D cy mAd GI GM GR lfa lfi lan siz len tok stt fin num flw byt dwat dlev dkin dcdp dsil sta wat lev kin cdp sil hour dep arr deb nxt kep z11.2.1 z11.2.2.1 z11.2.2.2.1 z11.2.2.2.2 gft bal giv tak inc trc nrs z11.1 z12 hz12)) gX8_frauds_X8_fine rfl rfl rfl (n := 1) (by decide +kernel) ⟨Nat.le_of_ble_eq_true rfl, Nat.le_of_ble_eq_true rfl⟩ (q0 := 0) (ci := 8) rfl rfl rfl rfl hl.1 rfl (Nat.le_of_ble_eq_true rfl) dX8_frauds_108 ⟨Nat.zero_le _, Nat.zero_le _⟩ (fun U locs G => ?_)
            have G : Gd D A s (w_Top cy mAd GI GM GR lfa z12.2 lan siz len tok stt fin num flw byt dwat dlev dkin dcdp dsil sta wat lev kin cdp sil hour dep arr deb nxt kep z11.2.1 z11.2.2.1 z11.2.2.2.1 z11.2.2.2.2 gft bal giv tak inc trc nrs ++ w_Itm cy bAd b_itm) U locs := G
            obtain rfl := Option.some.inj H
            exact ret_i C G rfl dX8_frauds_111
          · have H := if_f H c9
            refine lv_ldc hx hb hown lk6 dX8_frauds_90 ?_
            obtain rfl := Option.some.inj H
            exact ret_i C G rfl dX8_frauds_92
        · have H := if_t H c7
          refine lv_aload_n hx hb dX8_frauds_62 rfl (lv_at hl 0 rfl) ?_
          refine lv_iconst (v := 2) hx hb dX8_frauds_63 (by decide) ?_
          obtain ⟨z13, hz13, H⟩ := bd_some H
          refine MI.callVw z13.1 [.int 2] [] C G (MI.tail _ (c_X8_found l D cy mAd GI GM GR lfa lfi lan siz len tok stt fin num flw byt dwat dlev dkin dcdp dsil sta wat lev kin cdp sil hour dep arr deb nxt kep fhour fdep farr fdeb gft bal giv tak inc trc nrs 2 z13 hz13)) gX8_frauds_X8_found rfl rfl rfl (n := 1) (by decide +kernel) ⟨Nat.le_of_ble_eq_true rfl, Nat.le_of_ble_eq_true rfl⟩ (q0 := 0) (ci := 8) rfl rfl rfl rfl hl.1 rfl (Nat.le_of_ble_eq_true rfl) dX8_frauds_64 ⟨Nat.zero_le _, Nat.zero_le _⟩ (fun U locs G => ?_)
          have G : Gd D A s (w_Top cy mAd GI GM GR lfa z13.2 lan siz len tok stt fin num flw byt dwat dlev dkin dcdp dsil sta wat lev kin cdp sil hour dep arr deb nxt kep fhour fdep farr fdeb gft bal giv tak inc trc nrs ++ w_Itm cy bAd b_itm) U locs := G
          obtain rfl := Option.some.inj H
          exact ret_i C G rfl dX8_frauds_67
      · have H := if_f H c5
        refine lv_aload_n hx hb dX8_frauds_34 rfl (lv_at hl 0 rfl) ?_
        refine lv_iconst (v := 1) hx hb dX8_frauds_35 (by decide) ?_
        obtain ⟨z14, hz14, H⟩ := bd_some H
        refine MI.callVw z14.1 [.int 1] [] C G (MI.tail _ (c_X8_found l D cy mAd GI GM GR lfa lfi lan siz len tok stt fin num flw byt dwat dlev dkin dcdp dsil sta wat lev kin cdp sil hour dep arr deb nxt kep fhour fdep farr fdeb gft bal giv tak inc trc nrs 1 z14 hz14)) gX8_frauds_X8_found rfl rfl rfl (n := 1) (by decide +kernel) ⟨Nat.le_of_ble_eq_true rfl, Nat.le_of_ble_eq_true rfl⟩ (q0 := 0) (ci := 8) rfl rfl rfl rfl hl.1 rfl (Nat.le_of_ble_eq_true rfl) dX8_frauds_36 ⟨Nat.zero_le _, Nat.zero_le _⟩ (fun U locs G => ?_)
        have G : Gd D A s (w_Top cy mAd GI GM GR lfa z14.2 lan siz len tok stt fin num flw byt dwat dlev dkin dcdp dsil sta wat lev kin cdp sil hour dep arr deb nxt kep fhour fdep farr fdeb gft bal giv tak inc trc nrs ++ w_Itm cy bAd b_itm) U locs := G
        obtain rfl := Option.some.inj H
        exact ret_i C G rfl dX8_frauds_39
    · have H := if_t H c3
      refine lv_ldc hx hb hown lk6 dX8_frauds_20 ?_
      obtain rfl := Option.some.inj H
      exact ret_i C G rfl dX8_frauds_22
  · have H := if_t H c1
    refine lv_ldc hx hb hown lk7 dX8_frauds_10 ?_
    obtain rfl := Option.some.inj H
    exact ret_i C G rfl dX8_frauds_12
