def f_X0_note (a_trc : Int32) (a_nrs : Nat → Int32) (p1 : Int32) : Option (Int32 × (Nat → Int32)) := if 16 ≤ a_trc then (some (a_trc, a_nrs)) else (gd (inb a_trc 16) (some (a_trc + 1, upd a_nrs (ix a_trc) p1)))
set_option maxHeartbeats 4000000 in
set_option maxRecDepth 100000 in
theorem c_X0_note (l : Launch) (D : va_G) (cy : Nat → ClassId) (aAd : Nat → Nat) (a_trc : Int32) (a_nrs : Nat → Int32) (p1 : Int32) (z : (Int32 × (Nat → Int32))) (hz : f_X0_note a_trc a_nrs p1 = some z) : MV l yX0_note wsX0_note ({ frames := 0, cells := 0, slots := 0, locals := 0 } : Room) D cy [.ref (aAd 0), .int p1] (w_Ask cy aAd a_trc a_nrs) (w_Ask cy aAd z.1 z.2) := by
  refine met_start (Qf := fun A => MQv D cy (w_Ask cy aAd z.1 z.2) A) (cc := cX0_note) (nL := 2) (ret := none) RX0 rfl (by decide) rfl (Nat.le_of_ble_eq_true rfl) ?_
  intro p e s m below meth c A ls C G hl
  have hl : lv_has ls 2 [(0, .ref (aAd 0)), (1, .int p1)] := hl
  have H := hz
  unfold f_X0_note at H
  obtain ⟨hx, hb, hr, hml, hown, hts, hlk, hK, hA, hE⟩ := id C
  have lk0 := hts (Cond.fieldLink RX0 57 "TideDebts$Asker" "traced" "I") (List.mem_of_getElem? (i := 1) rfl)
  have lk1 := hts (Cond.fieldLink RX0 7 "TideDebts$Asker" "numbers" "[I") (List.mem_of_getElem? (i := 2) rfl)
  have hiX0 : ∀ w ∈ u_ws RX0 TX0 2, w ∈ wsX0_note := fun _ h => List.mem_cons_of_mem _ (List.mem_append_right _ h)
  refine lv_aload_n hx hb dX0_note_0 rfl (lv_at hl 0 rfl) ?_
  refine va_get (D := D) (ci := 0) (v := .int a_trc) (C := RX0) (T := TX0) (N := 2) hx hb hts hiX0 hown hK G.1 0 rfl rfl 1 (by decide) lk0 (fun _ h9 => h9) rfl dX0_note_1 ?_
  refine lv_aload_n hx hb dX0_note_4 rfl (lv_at hl 0 rfl) ?_
  refine va_get (D := D) (ci := 0) (v := .ref (aAd 1)) (C := RX0) (T := TX0) (N := 2) hx hb hts hiX0 hown hK G.1 0 rfl rfl 0 (by decide) lk1 (fun _ h9 => h9) rfl dX0_note_5 ?_
  refine va_alen hx hb hK G.1 1 1 rfl rfl (v := 16) rfl dX0_note_8 ?_
  refine lv_icmp_ge (tgt := 32) hx hb dX0_note_9 (by decide) (fun c1 => ?_) (fun c1 => ?_)
  · have H := if_t H c1
    obtain rfl := Option.some.inj H
    exact ret_v C G dX0_note_32
  · have H := if_f H c1
    refine lv_aload_n hx hb dX0_note_12 rfl (lv_at hl 0 rfl) ?_
    refine va_get (D := D) (ci := 0) (v := .ref (aAd 1)) (C := RX0) (T := TX0) (N := 2) hx hb hts hiX0 hown hK G.1 0 rfl rfl 0 (by decide) lk1 (fun _ h9 => h9) rfl dX0_note_13 ?_
    refine lv_aload_n hx hb dX0_note_16 rfl (lv_at hl 0 rfl) ?_
    refine va_get (D := D) (ci := 0) (v := .int a_trc) (C := RX0) (T := TX0) (N := 2) hx hb hts hiX0 hown hK G.1 0 rfl rfl 1 (by decide) lk0 (fun _ h9 => h9) rfl dX0_note_17 ?_
    refine lv_iload_n hx hb dX0_note_20 rfl (lv_at hl 1 rfl) ?_
    obtain ⟨hb2, H⟩ := gd_some H
    refine va_iast hx hb hK G.1 G.2.1 G.2.2 1 1 rfl rfl (inb_in hb2) dX0_note_21 (fun U locs hP hD hS => ?_)
    have G : Gd D A s (w_Ask cy aAd a_trc (upd a_nrs (ix a_trc) p1)) U locs := ⟨hP, hD, hS⟩
    refine lv_aload_n hx hb dX0_note_22 rfl (lv_at hl 0 rfl) ?_
    refine lv_dup hx hb dX0_note_23 rfl ?_
    refine va_get (D := D) (ci := 0) (v := .int a_trc) (C := RX0) (T := TX0) (N := 2) hx hb hts hiX0 hown hK G.1 0 rfl rfl 1 (by decide) lk0 (fun _ h9 => h9) rfl dX0_note_24 ?_
    refine lv_iconst (v := 1) hx hb dX0_note_27 (by decide) ?_
    refine lv_iadd hx hb dX0_note_28 ?_
    refine va_put (D := D) (ci := 0) (v := .int (a_trc + 1)) (ty := .int) (C := RX0) (T := TX0) (N := 2) hx hb hts hiX0 tyX0 tyX0_ok nmX0 hown hK G.1 G.2.1 G.2.2 0 rfl rfl 1 (by decide) lk0 (fun _ h9 => h9) rfl (tyX0_ok 1 (by decide)) rfl rfl (Nat.le_of_ble_eq_true rfl) dX0_note_29 (fun U locs hP hD hS => ?_)
    have G : Gd D A s (w_Ask cy aAd (a_trc + 1) (upd a_nrs (ix a_trc) p1)) U locs := ⟨hP, hD, hS⟩
    obtain rfl := Option.some.inj H
    exact ret_v C G dX0_note_32
def rB (n : Nat) : Room := { frames := 2 * n, cells := 0, slots := 0, locals := 60 * n }
def rS (n : Nat) : Room := { frames := 2 * n + 1, cells := 0, slots := 0, locals := 60 * n + 30 }
def f_X0_sizeH (B : Int32 → (Nat → Int32) → (Nat → Int32) → (Nat → Int32) → (Nat → Int32) → Int32 → Int32 → Int32 → Option (Int32 × Int32 × (Nat → Int32))) (a_trc : Int32) (a_nrs c_kin c_sil d_dep : Nat → Int32) (p2 p3 : Int32) : Option (Int32 × Int32 × (Nat → Int32)) := gd (inb p2 6) (gd (inb (c_kin (ix p2)) 6) (bd (B a_trc a_nrs c_kin c_sil d_dep (tbS.getD (ix (c_kin (ix p2))) 0) p2 p3) (fun z3 => some (z3.1, z3.2.1, z3.2.2))))
set_option maxHeartbeats 4000000 in
set_option maxRecDepth 100000 in
theorem c_X0_sizeH (l : Launch) (D : va_G) (cy : Nat → ClassId) (aAd : Nat → Nat) (bAd : Nat → Nat) (cAd : Nat → Nat) (dAd : Nat → Nat) (n : Nat) (B : Int32 → (Nat → Int32) → (Nat → Int32) → (Nat → Int32) → (Nat → Int32) → Int32 → Int32 → Int32 → Option (Int32 × Int32 × (Nat → Int32))) (hB : ∀ (a_trc : Int32) (a_nrs : Nat → Int32) (b_sta : Int32) (c_wat : Int32) (c_lev : Nat → Int32) (c_kin : Nat → Int32) (c_cdp : Nat → Int32) (c_sil : Nat → Int32) (d_hour : Int32) (d_dep : Nat → Int32) (d_arr : Nat → Int32) (d_deb : Nat → Int32) (p1 p3 p4 : Int32) (z : (Int32 × Int32 × (Nat → Int32))), B a_trc a_nrs c_kin c_sil d_dep p1 p3 p4 = some z → MI l yX0_begin wsX0_begin (rB n) D cy [.ref (aAd 0), .int p1, .ref (bAd 0), .int p3, .int p4] (w_Ask cy aAd a_trc a_nrs ++ w_Bay cy bAd (cAd 0) (dAd 0) b_sta ++ w_Ch cy cAd c_wat c_lev c_kin c_cdp c_sil ++ w_Led cy dAd d_hour d_dep d_arr d_deb) z.1 (w_Ask cy aAd z.2.1 z.2.2 ++ w_Bay cy bAd (cAd 0) (dAd 0) b_sta ++ w_Ch cy cAd c_wat c_lev c_kin c_cdp c_sil ++ w_Led cy dAd d_hour d_dep d_arr d_deb)) (a_trc : Int32) (a_nrs : Nat → Int32) (b_sta c_wat : Int32) (c_lev c_kin c_cdp c_sil : Nat → Int32) (d_hour : Int32) (d_dep d_arr d_deb : Nat → Int32) (p2 p3 : Int32) (z : (Int32 × Int32 × (Nat → Int32))) (hz : f_X0_sizeH B a_trc a_nrs c_kin c_sil d_dep p2 p3 = some z) : MI l yX0_size wsX0_size (rS n) D cy [.ref (aAd 0), .ref (bAd 0), .int p2, .int p3] (w_Ask cy aAd a_trc a_nrs ++ w_Bay cy bAd (cAd 0) (dAd 0) b_sta ++ w_Ch cy cAd c_wat c_lev c_kin c_cdp c_sil ++ w_Led cy dAd d_hour d_dep d_arr d_deb) z.1 (w_Ask cy aAd z.2.1 z.2.2 ++ w_Bay cy bAd (cAd 0) (dAd 0) b_sta ++ w_Ch cy cAd c_wat c_lev c_kin c_cdp c_sil ++ w_Led cy dAd d_hour d_dep d_arr d_deb) := by
  refine met_start (Qf := fun A => MQi D cy z.1 (w_Ask cy aAd z.2.1 z.2.2 ++ w_Bay cy bAd (cAd 0) (dAd 0) b_sta ++ w_Ch cy cAd c_wat c_lev c_kin c_cdp c_sil ++ w_Led cy dAd d_hour d_dep d_arr d_deb) A) (cc := cX0_size) (nL := 4) (ret := (some .int)) RX0 rfl (by decide) rfl (Nat.le_of_ble_eq_true rfl) ?_
  intro p e s m below meth c A ls C G hl
  have hl : lv_has ls 4 [(0, .ref (aAd 0)), (1, .ref (bAd 0)), (2, .int p2), (3, .int p3)] := hl
  have H := hz
  unfold f_X0_sizeH at H
  obtain ⟨hx, hb, hr, hml, hown, hts, hlk, hK, hA, hE⟩ := id C
  have lk0 := hts (Cond.fieldLink RX0 13 "TideDebts$Asker" "SIZE_OF_KIND" "[I") (List.mem_of_getElem? (i := 1) rfl)
  have lk1 := hts (Cond.fieldLink RX0 16 "TideDebts$Bay" "chart" "LTideDebts$Chart;") (List.mem_of_getElem? (i := 2) rfl)
  have lk2 := hts (Cond.fieldLink RX0 22 "TideDebts$Chart" "kinds" "[I") (List.mem_of_getElem? (i := 3) rfl)
  have hiX1 : ∀ w ∈ u_ws RX1 TX1 3, w ∈ wsX0_size := fun _ h => List.mem_cons_of_mem _ (List.mem_append_left _ (List.mem_append_left _ (List.mem_append_left _ (List.mem_append_right _ h))))
  have hiX2 : ∀ w ∈ u_ws RX2 TX2 5, w ∈ wsX0_size := fun _ h => List.mem_cons_of_mem _ (List.mem_append_left _ (List.mem_append_right _ h))
  refine lv_aload_n hx hb dX0_size_0 rfl (lv_at hl 0 rfl) ?_
  refine va_gets hx hb hE.1.2.1.1 G.2.2 hown lk0 (fun _ h9 => h9) dX0_size_1 ?_
  refine lv_aload_n hx hb dX0_size_4 rfl (lv_at hl 1 rfl) ?_
  refine va_get (D := D) (ci := 1) (v := .ref (cAd 0)) (C := RX1) (T := TX1) (N := 3) hx hb hts hiX1 hown hK G.1 2 rfl rfl 0 (by decide) lk1 (fun _ h9 => h9) rfl dX0_size_5 ?_
  refine va_get (D := D) (ci := 2) (v := .ref (cAd 2)) (C := RX2) (T := TX2) (N := 5) hx hb hts hiX2 hown hK G.1 3 rfl rfl 1 (by decide) lk2 (fun _ h9 => h9) rfl dX0_size_8 ?_
  refine lv_iload_n hx hb dX0_size_11 rfl (lv_at hl 2 rfl) ?_
  obtain ⟨hb1, H⟩ := gd_some H
  refine g_iald (v := c_kin (ix p2)) hx hb hK G.1 5 1 rfl rfl hb1 rfl dX0_size_12 ?_
  obtain ⟨hb2, H⟩ := gd_some H
  refine va_ti hx hb hE.1.2.1.2 G.2.2 (inb_in hb2) (v := .int (tbS.getD (ix (c_kin (ix p2))) 0)) rfl dX0_size_13 ?_
  refine lv_aload_n hx hb dX0_size_14 rfl (lv_at hl 1 rfl) ?_
  refine lv_iload_n hx hb dX0_size_15 rfl (lv_at hl 2 rfl) ?_
  refine lv_iload_n hx hb dX0_size_16 rfl (lv_at hl 3 rfl) ?_
  obtain ⟨z3, hz3, H⟩ := bd_some H
  refine MI.callVw z3.1 [.int (tbS.getD (ix (c_kin (ix p2))) 0), .ref (bAd 0), .int p2, .int p3] [] C G (hB a_trc a_nrs b_sta c_wat c_lev c_kin c_cdp c_sil d_hour d_dep d_arr d_deb (tbS.getD (ix (c_kin (ix p2))) 0) p2 p3 z3 hz3) gX0_size_X0_begin rfl rfl rfl (n := 4) (by decide +kernel) ⟨by simp only [rB, rS]; omega, by simp only [rB, rS]; omega⟩ (q0 := 0) (ci := 0) rfl rfl rfl rfl hl.1 rfl (Nat.le_of_ble_eq_true rfl) dX0_size_17 ⟨Nat.zero_le _, Nat.zero_le _⟩ (fun U locs G => ?_)
  have G : Gd D A s (w_Ask cy aAd z3.2.1 z3.2.2 ++ w_Bay cy bAd (cAd 0) (dAd 0) b_sta ++ w_Ch cy cAd c_wat c_lev c_kin c_cdp c_sil ++ w_Led cy dAd d_hour d_dep d_arr d_deb) U locs := G
  obtain rfl := Option.some.inj H
  exact ret_i C G rfl dX0_size_20
def f_X0_markH (B : Int32 → (Nat → Int32) → (Nat → Int32) → (Nat → Int32) → (Nat → Int32) → Int32 → Int32 → Int32 → Option (Int32 × Int32 × (Nat → Int32))) (a_trc : Int32) (a_nrs c_kin c_sil d_dep : Nat → Int32) (p2 p3 : Int32) : Option (Int32 × Int32 × (Nat → Int32)) := gd (inb p2 6) (gd (inb (c_kin (ix p2)) 6) (bd (B a_trc a_nrs c_kin c_sil d_dep (tbM.getD (ix (c_kin (ix p2))) 0) p2 p3) (fun z3 => some (z3.1, z3.2.1, z3.2.2))))
set_option maxHeartbeats 4000000 in
set_option maxRecDepth 100000 in
theorem c_X0_markH (l : Launch) (D : va_G) (cy : Nat → ClassId) (aAd : Nat → Nat) (bAd : Nat → Nat) (cAd : Nat → Nat) (dAd : Nat → Nat) (n : Nat) (B : Int32 → (Nat → Int32) → (Nat → Int32) → (Nat → Int32) → (Nat → Int32) → Int32 → Int32 → Int32 → Option (Int32 × Int32 × (Nat → Int32))) (hB : ∀ (a_trc : Int32) (a_nrs : Nat → Int32) (b_sta : Int32) (c_wat : Int32) (c_lev : Nat → Int32) (c_kin : Nat → Int32) (c_cdp : Nat → Int32) (c_sil : Nat → Int32) (d_hour : Int32) (d_dep : Nat → Int32) (d_arr : Nat → Int32) (d_deb : Nat → Int32) (p1 p3 p4 : Int32) (z : (Int32 × Int32 × (Nat → Int32))), B a_trc a_nrs c_kin c_sil d_dep p1 p3 p4 = some z → MI l yX0_begin wsX0_begin (rB n) D cy [.ref (aAd 0), .int p1, .ref (bAd 0), .int p3, .int p4] (w_Ask cy aAd a_trc a_nrs ++ w_Bay cy bAd (cAd 0) (dAd 0) b_sta ++ w_Ch cy cAd c_wat c_lev c_kin c_cdp c_sil ++ w_Led cy dAd d_hour d_dep d_arr d_deb) z.1 (w_Ask cy aAd z.2.1 z.2.2 ++ w_Bay cy bAd (cAd 0) (dAd 0) b_sta ++ w_Ch cy cAd c_wat c_lev c_kin c_cdp c_sil ++ w_Led cy dAd d_hour d_dep d_arr d_deb)) (a_trc : Int32) (a_nrs : Nat → Int32) (b_sta c_wat : Int32) (c_lev c_kin c_cdp c_sil : Nat → Int32) (d_hour : Int32) (d_dep d_arr d_deb : Nat → Int32) (p2 p3 : Int32) (z : (Int32 × Int32 × (Nat → Int32))) (hz : f_X0_markH B a_trc a_nrs c_kin c_sil d_dep p2 p3 = some z) : MI l yX0_mark wsX0_mark (rS n) D cy [.ref (aAd 0), .ref (bAd 0), .int p2, .int p3] (w_Ask cy aAd a_trc a_nrs ++ w_Bay cy bAd (cAd 0) (dAd 0) b_sta ++ w_Ch cy cAd c_wat c_lev c_kin c_cdp c_sil ++ w_Led cy dAd d_hour d_dep d_arr d_deb) z.1 (w_Ask cy aAd z.2.1 z.2.2 ++ w_Bay cy bAd (cAd 0) (dAd 0) b_sta ++ w_Ch cy cAd c_wat c_lev c_kin c_cdp c_sil ++ w_Led cy dAd d_hour d_dep d_arr d_deb) := by
  refine met_start (Qf := fun A => MQi D cy z.1 (w_Ask cy aAd z.2.1 z.2.2 ++ w_Bay cy bAd (cAd 0) (dAd 0) b_sta ++ w_Ch cy cAd c_wat c_lev c_kin c_cdp c_sil ++ w_Led cy dAd d_hour d_dep d_arr d_deb) A) (cc := cX0_mark) (nL := 4) (ret := (some .int)) RX0 rfl (by decide) rfl (Nat.le_of_ble_eq_true rfl) ?_
  intro p e s m below meth c A ls C G hl
  have hl : lv_has ls 4 [(0, .ref (aAd 0)), (1, .ref (bAd 0)), (2, .int p2), (3, .int p3)] := hl
  have H := hz
  unfold f_X0_markH at H
  obtain ⟨hx, hb, hr, hml, hown, hts, hlk, hK, hA, hE⟩ := id C
  have lk0 := hts (Cond.fieldLink RX0 31 "TideDebts$Asker" "MARK_OF_KIND" "[I") (List.mem_of_getElem? (i := 1) rfl)
  have lk1 := hts (Cond.fieldLink RX0 16 "TideDebts$Bay" "chart" "LTideDebts$Chart;") (List.mem_of_getElem? (i := 2) rfl)
  have lk2 := hts (Cond.fieldLink RX0 22 "TideDebts$Chart" "kinds" "[I") (List.mem_of_getElem? (i := 3) rfl)
  have hiX1 : ∀ w ∈ u_ws RX1 TX1 3, w ∈ wsX0_mark := fun _ h => List.mem_cons_of_mem _ (List.mem_append_left _ (List.mem_append_left _ (List.mem_append_left _ (List.mem_append_right _ h))))
  have hiX2 : ∀ w ∈ u_ws RX2 TX2 5, w ∈ wsX0_mark := fun _ h => List.mem_cons_of_mem _ (List.mem_append_left _ (List.mem_append_right _ h))
  refine lv_aload_n hx hb dX0_mark_0 rfl (lv_at hl 0 rfl) ?_
  refine va_gets hx hb hE.1.2.2.1.1 G.2.2 hown lk0 (fun _ h9 => h9) dX0_mark_1 ?_
  refine lv_aload_n hx hb dX0_mark_4 rfl (lv_at hl 1 rfl) ?_
  refine va_get (D := D) (ci := 1) (v := .ref (cAd 0)) (C := RX1) (T := TX1) (N := 3) hx hb hts hiX1 hown hK G.1 2 rfl rfl 0 (by decide) lk1 (fun _ h9 => h9) rfl dX0_mark_5 ?_
  refine va_get (D := D) (ci := 2) (v := .ref (cAd 2)) (C := RX2) (T := TX2) (N := 5) hx hb hts hiX2 hown hK G.1 3 rfl rfl 1 (by decide) lk2 (fun _ h9 => h9) rfl dX0_mark_8 ?_
  refine lv_iload_n hx hb dX0_mark_11 rfl (lv_at hl 2 rfl) ?_
  obtain ⟨hb1, H⟩ := gd_some H
  refine g_iald (v := c_kin (ix p2)) hx hb hK G.1 5 1 rfl rfl hb1 rfl dX0_mark_12 ?_
  obtain ⟨hb2, H⟩ := gd_some H
  refine va_ti hx hb hE.1.2.2.1.2 G.2.2 (inb_in hb2) (v := .int (tbM.getD (ix (c_kin (ix p2))) 0)) rfl dX0_mark_13 ?_
  refine lv_aload_n hx hb dX0_mark_14 rfl (lv_at hl 1 rfl) ?_
  refine lv_iload_n hx hb dX0_mark_15 rfl (lv_at hl 2 rfl) ?_
  refine lv_iload_n hx hb dX0_mark_16 rfl (lv_at hl 3 rfl) ?_
  obtain ⟨z3, hz3, H⟩ := bd_some H
  refine MI.callVw z3.1 [.int (tbM.getD (ix (c_kin (ix p2))) 0), .ref (bAd 0), .int p2, .int p3] [] C G (hB a_trc a_nrs b_sta c_wat c_lev c_kin c_cdp c_sil d_hour d_dep d_arr d_deb (tbM.getD (ix (c_kin (ix p2))) 0) p2 p3 z3 hz3) gX0_mark_X0_begin rfl rfl rfl (n := 4) (by decide +kernel) ⟨by simp only [rB, rS]; omega, by simp only [rB, rS]; omega⟩ (q0 := 0) (ci := 0) rfl rfl rfl rfl hl.1 rfl (Nat.le_of_ble_eq_true rfl) dX0_mark_17 ⟨Nat.zero_le _, Nat.zero_le _⟩ (fun U locs G => ?_)
  have G : Gd D A s (w_Ask cy aAd z3.2.1 z3.2.2 ++ w_Bay cy bAd (cAd 0) (dAd 0) b_sta ++ w_Ch cy cAd c_wat c_lev c_kin c_cdp c_sil ++ w_Led cy dAd d_hour d_dep d_arr d_deb) U locs := G
  obtain rfl := Option.some.inj H
  exact ret_i C G rfl dX0_mark_20
def f_X0_begin : Nat → Int32 → (Nat → Int32) → (Nat → Int32) → (Nat → Int32) → (Nat → Int32) → Int32 → Int32 → Int32 → Option (Int32 × Int32 × (Nat → Int32))
  | 0, _, _, _, _, _, _, _, _ => none
  | n + 1, a_trc, a_nrs, c_kin, c_sil, d_dep, p1, p3, p4 => if p4 ≤ 20 then (bd (f_X0_note a_trc a_nrs p1) (fun z2 => if p1 = 10 then (gd (inb p3 6) (some (d_dep (ix p3), z2.1, z2.2))) else (if p1 = 11 then (bd ((f_X0_begin n) z2.1 z2.2 c_kin c_sil d_dep 10 p3 (p4 + 1)) (fun z6 => bd ((f_X0_markH (f_X0_begin n)) z6.2.1 z6.2.2 c_kin c_sil d_dep p3 (p4 + 1)) (fun z7 => some (z6.1 + z7.1, z7.2.1, z7.2.2)))) else (if p1 = 12 then (bd ((f_X0_begin n) z2.1 z2.2 c_kin c_sil d_dep 11 p3 (p4 + 1)) (fun z9 => some (-z9.1, z9.2.1, z9.2.2))) else (if p1 = 13 then (bd ((f_X0_begin n) z2.1 z2.2 c_kin c_sil d_dep 10 p3 (p4 + 1)) (fun z11 => some (z11.1 - 100, z11.2.1, z11.2.2))) else (if p1 = 14 then (bd ((f_X0_begin n) z2.1 z2.2 c_kin c_sil d_dep 13 p3 (p4 + 1)) (fun z13 => some (2 * z13.1, z13.2.1, z13.2.2))) else (if p1 = 20 then (some (p3, z2.1, z2.2)) else (if p1 = 21 then (bd ((f_X0_begin n) z2.1 z2.2 c_kin c_sil d_dep 20 p3 (p4 + 1)) (fun z16 => gd (inb p3 6) (some (z16.1 + (c_sil (ix p3)), z16.2.1, z16.2.2)))) else (if p1 = 22 then (bd ((f_X0_begin n) z2.1 z2.2 c_kin c_sil d_dep 21 p3 (p4 + 1)) (fun z19 => some (z19.1 - 1000, z19.2.1, z19.2.2))) else (if p1 = 23 then (bd ((f_X0_begin n) z2.1 z2.2 c_kin c_sil d_dep 20 p3 (p4 + 1)) (fun z21 => bd ((f_X0_sizeH (f_X0_begin n)) z21.2.1 z21.2.2 c_kin c_sil d_dep p3 (p4 + 1)) (fun z22 => some (z21.1 - z22.1, z22.2.1, z22.2.2)))) else (if p1 = 24 then (bd ((f_X0_begin n) z2.1 z2.2 c_kin c_sil d_dep 21 p3 (p4 + 1)) (fun z24 => some (2 * z24.1, z24.2.1, z24.2.2))) else (some (0, z2.1, z2.2))))))))))))) else (some (0, a_trc, a_nrs))
theorem f_X0_begin_s (n : Nat) (a_trc : Int32) (a_nrs c_kin c_sil d_dep : Nat → Int32) (p1 p3 p4 : Int32) : f_X0_begin (n + 1) a_trc a_nrs c_kin c_sil d_dep p1 p3 p4 = if p4 ≤ 20 then (bd (f_X0_note a_trc a_nrs p1) (fun z2 => if p1 = 10 then (gd (inb p3 6) (some (d_dep (ix p3), z2.1, z2.2))) else (if p1 = 11 then (bd ((f_X0_begin n) z2.1 z2.2 c_kin c_sil d_dep 10 p3 (p4 + 1)) (fun z6 => bd ((f_X0_markH (f_X0_begin n)) z6.2.1 z6.2.2 c_kin c_sil d_dep p3 (p4 + 1)) (fun z7 => some (z6.1 + z7.1, z7.2.1, z7.2.2)))) else (if p1 = 12 then (bd ((f_X0_begin n) z2.1 z2.2 c_kin c_sil d_dep 11 p3 (p4 + 1)) (fun z9 => some (-z9.1, z9.2.1, z9.2.2))) else (if p1 = 13 then (bd ((f_X0_begin n) z2.1 z2.2 c_kin c_sil d_dep 10 p3 (p4 + 1)) (fun z11 => some (z11.1 - 100, z11.2.1, z11.2.2))) else (if p1 = 14 then (bd ((f_X0_begin n) z2.1 z2.2 c_kin c_sil d_dep 13 p3 (p4 + 1)) (fun z13 => some (2 * z13.1, z13.2.1, z13.2.2))) else (if p1 = 20 then (some (p3, z2.1, z2.2)) else (if p1 = 21 then (bd ((f_X0_begin n) z2.1 z2.2 c_kin c_sil d_dep 20 p3 (p4 + 1)) (fun z16 => gd (inb p3 6) (some (z16.1 + (c_sil (ix p3)), z16.2.1, z16.2.2)))) else (if p1 = 22 then (bd ((f_X0_begin n) z2.1 z2.2 c_kin c_sil d_dep 21 p3 (p4 + 1)) (fun z19 => some (z19.1 - 1000, z19.2.1, z19.2.2))) else (if p1 = 23 then (bd ((f_X0_begin n) z2.1 z2.2 c_kin c_sil d_dep 20 p3 (p4 + 1)) (fun z21 => bd ((f_X0_sizeH (f_X0_begin n)) z21.2.1 z21.2.2 c_kin c_sil d_dep p3 (p4 + 1)) (fun z22 => some (z21.1 - z22.1, z22.2.1, z22.2.2)))) else (if p1 = 24 then (bd ((f_X0_begin n) z2.1 z2.2 c_kin c_sil d_dep 21 p3 (p4 + 1)) (fun z24 => some (2 * z24.1, z24.2.1, z24.2.2))) else (some (0, z2.1, z2.2))))))))))))) else (some (0, a_trc, a_nrs)) := rfl
set_option maxHeartbeats 4000000 in
set_option maxRecDepth 100000 in
theorem c_X0_beginH (l : Launch) (D : va_G) (cy : Nat → ClassId) (aAd : Nat → Nat) (bAd : Nat → Nat) (cAd : Nat → Nat) (dAd : Nat → Nat) (n : Nat) (hB : ∀ (a_trc : Int32) (a_nrs : Nat → Int32) (b_sta : Int32) (c_wat : Int32) (c_lev : Nat → Int32) (c_kin : Nat → Int32) (c_cdp : Nat → Int32) (c_sil : Nat → Int32) (d_hour : Int32) (d_dep : Nat → Int32) (d_arr : Nat → Int32) (d_deb : Nat → Int32) (p1 p3 p4 : Int32) (z : (Int32 × Int32 × (Nat → Int32))), f_X0_begin n a_trc a_nrs c_kin c_sil d_dep p1 p3 p4 = some z → MI l yX0_begin wsX0_begin (rB n) D cy [.ref (aAd 0), .int p1, .ref (bAd 0), .int p3, .int p4] (w_Ask cy aAd a_trc a_nrs ++ w_Bay cy bAd (cAd 0) (dAd 0) b_sta ++ w_Ch cy cAd c_wat c_lev c_kin c_cdp c_sil ++ w_Led cy dAd d_hour d_dep d_arr d_deb) z.1 (w_Ask cy aAd z.2.1 z.2.2 ++ w_Bay cy bAd (cAd 0) (dAd 0) b_sta ++ w_Ch cy cAd c_wat c_lev c_kin c_cdp c_sil ++ w_Led cy dAd d_hour d_dep d_arr d_deb)) (hS : ∀ (a_trc : Int32) (a_nrs : Nat → Int32) (b_sta : Int32) (c_wat : Int32) (c_lev : Nat → Int32) (c_kin : Nat → Int32) (c_cdp : Nat → Int32) (c_sil : Nat → Int32) (d_hour : Int32) (d_dep : Nat → Int32) (d_arr : Nat → Int32) (d_deb : Nat → Int32) (p2 p3 : Int32) (z : (Int32 × Int32 × (Nat → Int32))), f_X0_sizeH (f_X0_begin n) a_trc a_nrs c_kin c_sil d_dep p2 p3 = some z → MI l yX0_size wsX0_size (rS n) D cy [.ref (aAd 0), .ref (bAd 0), .int p2, .int p3] (w_Ask cy aAd a_trc a_nrs ++ w_Bay cy bAd (cAd 0) (dAd 0) b_sta ++ w_Ch cy cAd c_wat c_lev c_kin c_cdp c_sil ++ w_Led cy dAd d_hour d_dep d_arr d_deb) z.1 (w_Ask cy aAd z.2.1 z.2.2 ++ w_Bay cy bAd (cAd 0) (dAd 0) b_sta ++ w_Ch cy cAd c_wat c_lev c_kin c_cdp c_sil ++ w_Led cy dAd d_hour d_dep d_arr d_deb)) (hM : ∀ (a_trc : Int32) (a_nrs : Nat → Int32) (b_sta : Int32) (c_wat : Int32) (c_lev : Nat → Int32) (c_kin : Nat → Int32) (c_cdp : Nat → Int32) (c_sil : Nat → Int32) (d_hour : Int32) (d_dep : Nat → Int32) (d_arr : Nat → Int32) (d_deb : Nat → Int32) (p2 p3 : Int32) (z : (Int32 × Int32 × (Nat → Int32))), f_X0_markH (f_X0_begin n) a_trc a_nrs c_kin c_sil d_dep p2 p3 = some z → MI l yX0_mark wsX0_mark (rS n) D cy [.ref (aAd 0), .ref (bAd 0), .int p2, .int p3] (w_Ask cy aAd a_trc a_nrs ++ w_Bay cy bAd (cAd 0) (dAd 0) b_sta ++ w_Ch cy cAd c_wat c_lev c_kin c_cdp c_sil ++ w_Led cy dAd d_hour d_dep d_arr d_deb) z.1 (w_Ask cy aAd z.2.1 z.2.2 ++ w_Bay cy bAd (cAd 0) (dAd 0) b_sta ++ w_Ch cy cAd c_wat c_lev c_kin c_cdp c_sil ++ w_Led cy dAd d_hour d_dep d_arr d_deb)) (a_trc : Int32) (a_nrs : Nat → Int32) (b_sta c_wat : Int32) (c_lev c_kin c_cdp c_sil : Nat → Int32) (d_hour : Int32) (d_dep d_arr d_deb : Nat → Int32) (p1 p3 p4 : Int32) (z : (Int32 × Int32 × (Nat → Int32))) (hz : f_X0_begin (n + 1) a_trc a_nrs c_kin c_sil d_dep p1 p3 p4 = some z) : MI l yX0_begin wsX0_begin (rB (n + 1)) D cy [.ref (aAd 0), .int p1, .ref (bAd 0), .int p3, .int p4] (w_Ask cy aAd a_trc a_nrs ++ w_Bay cy bAd (cAd 0) (dAd 0) b_sta ++ w_Ch cy cAd c_wat c_lev c_kin c_cdp c_sil ++ w_Led cy dAd d_hour d_dep d_arr d_deb) z.1 (w_Ask cy aAd z.2.1 z.2.2 ++ w_Bay cy bAd (cAd 0) (dAd 0) b_sta ++ w_Ch cy cAd c_wat c_lev c_kin c_cdp c_sil ++ w_Led cy dAd d_hour d_dep d_arr d_deb) := by
  refine met_start (Qf := fun A => MQi D cy z.1 (w_Ask cy aAd z.2.1 z.2.2 ++ w_Bay cy bAd (cAd 0) (dAd 0) b_sta ++ w_Ch cy cAd c_wat c_lev c_kin c_cdp c_sil ++ w_Led cy dAd d_hour d_dep d_arr d_deb) A) (cc := cX0_begin) (nL := 6) (ret := (some .int)) RX0 rfl (by decide) rfl (Nat.le_of_ble_eq_true rfl) ?_
  intro p e s m below meth c A ls C G hl
  have hl : lv_has ls 6 [(0, .ref (aAd 0)), (1, .int p1), (2, .ref (bAd 0)), (3, .int p3), (4, .int p4)] := hl
  have H := hz
  rw [f_X0_begin_s] at H
  obtain ⟨hx, hb, hr, hml, hown, hts, hlk, hK, hA, hE⟩ := id C
  have lk0 := hts (Cond.fieldLink RX0 38 "TideDebts$Bay" "ledger" "LTideDebts$Ledger;") (List.mem_of_getElem? (i := 1) rfl)
  have lk1 := hts (Cond.fieldLink RX0 42 "TideDebts$Ledger" "depths" "[I") (List.mem_of_getElem? (i := 2) rfl)
  have lk2 := hts (Cond.fieldLink RX0 16 "TideDebts$Bay" "chart" "LTideDebts$Chart;") (List.mem_of_getElem? (i := 3) rfl)
  have lk3 := hts (Cond.fieldLink RX0 51 "TideDebts$Chart" "sills" "[I") (List.mem_of_getElem? (i := 4) rfl)
  have hiX1 : ∀ w ∈ u_ws RX1 TX1 3, w ∈ wsX0_begin := fun _ h => List.mem_cons_of_mem _ (List.mem_append_left _ (List.mem_append_left _ (List.mem_append_left _ (List.mem_append_right _ h))))
  have hiX2 : ∀ w ∈ u_ws RX2 TX2 5, w ∈ wsX0_begin := fun _ h => List.mem_cons_of_mem _ (List.mem_append_left _ (List.mem_append_right _ h))
  have hiX3 : ∀ w ∈ u_ws RX3 TX3 4, w ∈ wsX0_begin := fun _ h => List.mem_cons_of_mem _ (List.mem_append_left _ (List.mem_append_left _ (List.mem_append_right _ h)))
  refine lv_iload hx hb dX0_begin_0 (lv_at hl 4 rfl) ?_
  refine lv_bipush (v := 20) hx hb dX0_begin_2 (by decide) ?_
  refine lv_icmp_le (tgt := 9) hx hb dX0_begin_4 (by decide) (fun c1 => ?_) (fun c1 => ?_)
  · have H := if_t H c1
    refine lv_aload_n hx hb dX0_begin_9 rfl (lv_at hl 0 rfl) ?_
    refine lv_iload_n hx hb dX0_begin_10 rfl (lv_at hl 1 rfl) ?_
    obtain ⟨z2, hz2, H⟩ := bd_some H
    refine MV.callVw [.int p1] [] C G (MV.tail _ (MV.tail _ (MV.tail _ (c_X0_note l D cy aAd a_trc a_nrs p1 z2 hz2)))) gX0_begin_X0_note rfl rfl rfl (n := 1) (by decide +kernel) ⟨Nat.le_of_ble_eq_true rfl, Nat.le_of_ble_eq_true rfl⟩ (q0 := 0) (ci := 0) rfl rfl rfl rfl hl.1 rfl (Nat.le_of_ble_eq_true rfl) dX0_begin_11 ⟨Nat.zero_le _, Nat.zero_le _⟩ (fun U locs G => ?_)
    have G : Gd D A s (w_Ask cy aAd z2.1 z2.2 ++ w_Bay cy bAd (cAd 0) (dAd 0) b_sta ++ w_Ch cy cAd c_wat c_lev c_kin c_cdp c_sil ++ w_Led cy dAd d_hour d_dep d_arr d_deb) U locs := G
    refine lv_iload hx hb dX0_begin_14 (lv_at hl 4 rfl) ?_
    refine lv_iconst (v := 1) hx hb dX0_begin_16 (by decide) ?_
    refine lv_iadd hx hb dX0_begin_17 ?_
    refine lv_istore (lv' := [(5, .int (p4 + 1)), (0, .ref (aAd 0)), (1, .int p1), (2, .ref (bAd 0)), (3, .int p3), (4, .int p4)]) hx hb dX0_begin_18 hl (by decide) rfl (fun ls hl => ?_)
    refine lv_iload_n hx hb dX0_begin_20 rfl (lv_at hl 2 rfl) ?_
    by_cases c3 : p1 = 10
    · have H := if_t H c3
      refine lv_tableIn (off := 75) (tgt := 96) hx hb dX0_begin_21 (by rw [c3]; decide) (by rw [c3]; decide) (by rw [c3]; decide) (by decide) ?_
      refine lv_aload_n hx hb dX0_begin_96 rfl (lv_at hl 3 rfl) ?_
      refine va_get (D := D) (ci := 1) (v := .ref (dAd 0)) (C := RX1) (T := TX1) (N := 3) hx hb hts hiX1 hown hK G.1 2 rfl rfl 1 (by decide) lk0 (fun _ h9 => h9) rfl dX0_begin_97 ?_
      refine va_get (D := D) (ci := 3) (v := .ref (dAd 1)) (C := RX3) (T := TX3) (N := 4) hx hb hts hiX3 hown hK G.1 8 rfl rfl 0 (by decide) lk1 (fun _ h9 => h9) rfl dX0_begin_100 ?_
      refine lv_iload_n hx hb dX0_begin_103 rfl (lv_at hl 4 rfl) ?_
      obtain ⟨hb4, H⟩ := gd_some H
      refine g_iald (v := d_dep (ix p3)) hx hb hK G.1 9 1 rfl rfl hb4 rfl dX0_begin_104 ?_
      obtain rfl := Option.some.inj H
      exact ret_i C G rfl dX0_begin_105
    · have H := if_f H c3
      by_cases c5 : p1 = 11
      · have H := if_t H c5
        refine lv_tableIn (off := 85) (tgt := 106) hx hb dX0_begin_21 (by rw [c5]; decide) (by rw [c5]; decide) (by rw [c5]; decide) (by decide) ?_
        refine lv_aload_n hx hb dX0_begin_106 rfl (lv_at hl 1 rfl) ?_
        refine lv_bipush (v := 10) hx hb dX0_begin_107 (by decide) ?_
        refine lv_aload_n hx hb dX0_begin_109 rfl (lv_at hl 3 rfl) ?_
        refine lv_iload_n hx hb dX0_begin_110 rfl (lv_at hl 4 rfl) ?_
        refine lv_iload hx hb dX0_begin_111 (lv_at hl 0 rfl) ?_
        obtain ⟨z6, hz6, H⟩ := bd_some H
        refine MI.callVw z6.1 [.int 10, .ref (bAd 0), .int p3, .int (p4 + 1)] [] C G (hB z2.1 z2.2 b_sta c_wat c_lev c_kin c_cdp c_sil d_hour d_dep d_arr d_deb 10 p3 (p4 + 1) z6 hz6) gX0_begin_X0_begin rfl rfl rfl (n := 4) (by decide +kernel) ⟨by simp only [rB, rS]; omega, by simp only [rB, rS]; omega⟩ (q0 := 0) (ci := 0) rfl rfl rfl rfl hl.1 rfl (Nat.le_of_ble_eq_true rfl) dX0_begin_113 ⟨Nat.zero_le _, Nat.zero_le _⟩ (fun U locs G => ?_)
        have G : Gd D A s (w_Ask cy aAd z6.2.1 z6.2.2 ++ w_Bay cy bAd (cAd 0) (dAd 0) b_sta ++ w_Ch cy cAd c_wat c_lev c_kin c_cdp c_sil ++ w_Led cy dAd d_hour d_dep d_arr d_deb) U locs := G
        refine lv_aload_n hx hb dX0_begin_116 rfl (lv_at hl 1 rfl) ?_
        refine lv_aload_n hx hb dX0_begin_117 rfl (lv_at hl 3 rfl) ?_
        refine lv_iload_n hx hb dX0_begin_118 rfl (lv_at hl 4 rfl) ?_
        refine lv_iload hx hb dX0_begin_119 (lv_at hl 0 rfl) ?_
        obtain ⟨z7, hz7, H⟩ := bd_some H
        refine MI.callVw z7.1 [.ref (bAd 0), .int p3, .int (p4 + 1)] [.int z6.1] C G (hM z6.2.1 z6.2.2 b_sta c_wat c_lev c_kin c_cdp c_sil d_hour d_dep d_arr d_deb p3 (p4 + 1) z7 hz7) gX0_begin_X0_mark rfl rfl rfl (n := 3) (by decide +kernel) ⟨by simp only [rB, rS]; omega, by simp only [rB, rS]; omega⟩ (q0 := 0) (ci := 0) rfl rfl rfl rfl hl.1 rfl (Nat.le_of_ble_eq_true rfl) dX0_begin_121 ⟨Nat.zero_le _, Nat.zero_le _⟩ (fun U locs G => ?_)
        have G : Gd D A s (w_Ask cy aAd z7.2.1 z7.2.2 ++ w_Bay cy bAd (cAd 0) (dAd 0) b_sta ++ w_Ch cy cAd c_wat c_lev c_kin c_cdp c_sil ++ w_Led cy dAd d_hour d_dep d_arr d_deb) U locs := G
        refine lv_iadd hx hb dX0_begin_124 ?_
        obtain rfl := Option.some.inj H
        exact ret_i C G rfl dX0_begin_125
      · have H := if_f H c5
        by_cases c8 : p1 = 12
        · have H := if_t H c8
          refine lv_tableIn (off := 105) (tgt := 126) hx hb dX0_begin_21 (by rw [c8]; decide) (by rw [c8]; decide) (by rw [c8]; decide) (by decide) ?_
          refine lv_aload_n hx hb dX0_begin_126 rfl (lv_at hl 1 rfl) ?_
          refine lv_bipush (v := 11) hx hb dX0_begin_127 (by decide) ?_
          refine lv_aload_n hx hb dX0_begin_129 rfl (lv_at hl 3 rfl) ?_
          refine lv_iload_n hx hb dX0_begin_130 rfl (lv_at hl 4 rfl) ?_
          refine lv_iload hx hb dX0_begin_131 (lv_at hl 0 rfl) ?_
          obtain ⟨z9, hz9, H⟩ := bd_some H
          refine MI.callVw z9.1 [.int 11, .ref (bAd 0), .int p3, .int (p4 + 1)] [] C G (hB z2.1 z2.2 b_sta c_wat c_lev c_kin c_cdp c_sil d_hour d_dep d_arr d_deb 11 p3 (p4 + 1) z9 hz9) gX0_begin_X0_begin rfl rfl rfl (n := 4) (by decide +kernel) ⟨by simp only [rB, rS]; omega, by simp only [rB, rS]; omega⟩ (q0 := 0) (ci := 0) rfl rfl rfl rfl hl.1 rfl (Nat.le_of_ble_eq_true rfl) dX0_begin_133 ⟨Nat.zero_le _, Nat.zero_le _⟩ (fun U locs G => ?_)
          have G : Gd D A s (w_Ask cy aAd z9.2.1 z9.2.2 ++ w_Bay cy bAd (cAd 0) (dAd 0) b_sta ++ w_Ch cy cAd c_wat c_lev c_kin c_cdp c_sil ++ w_Led cy dAd d_hour d_dep d_arr d_deb) U locs := G
          refine lv_ineg hx hb dX0_begin_136 ?_
          obtain rfl := Option.some.inj H
          exact ret_i C G rfl dX0_begin_137
        · have H := if_f H c8
          by_cases c10 : p1 = 13
          · have H := if_t H c10
            refine lv_tableIn (off := 117) (tgt := 138) hx hb dX0_begin_21 (by rw [c10]; decide) (by rw [c10]; decide) (by rw [c10]; decide) (by decide) ?_
            refine lv_aload_n hx hb dX0_begin_138 rfl (lv_at hl 1 rfl) ?_
            refine lv_bipush (v := 10) hx hb dX0_begin_139 (by decide) ?_
            refine lv_aload_n hx hb dX0_begin_141 rfl (lv_at hl 3 rfl) ?_
            refine lv_iload_n hx hb dX0_begin_142 rfl (lv_at hl 4 rfl) ?_
            refine lv_iload hx hb dX0_begin_143 (lv_at hl 0 rfl) ?_
            obtain ⟨z11, hz11, H⟩ := bd_some H
            refine MI.callVw z11.1 [.int 10, .ref (bAd 0), .int p3, .int (p4 + 1)] [] C G (hB z2.1 z2.2 b_sta c_wat c_lev c_kin c_cdp c_sil d_hour d_dep d_arr d_deb 10 p3 (p4 + 1) z11 hz11) gX0_begin_X0_begin rfl rfl rfl (n := 4) (by decide +kernel) ⟨by simp only [rB, rS]; omega, by simp only [rB, rS]; omega⟩ (q0 := 0) (ci := 0) rfl rfl rfl rfl hl.1 rfl (Nat.le_of_ble_eq_true rfl) dX0_begin_145 ⟨Nat.zero_le _, Nat.zero_le _⟩ (fun U locs G => ?_)
            have G : Gd D A s (w_Ask cy aAd z11.2.1 z11.2.2 ++ w_Bay cy bAd (cAd 0) (dAd 0) b_sta ++ w_Ch cy cAd c_wat c_lev c_kin c_cdp c_sil ++ w_Led cy dAd d_hour d_dep d_arr d_deb) U locs := G
            refine lv_bipush (v := 100) hx hb dX0_begin_148 (by decide) ?_
            refine lv_isub hx hb dX0_begin_150 ?_
            obtain rfl := Option.some.inj H
            exact ret_i C G rfl dX0_begin_151
          · have H := if_f H c10
            by_cases c12 : p1 = 14
            · have H := if_t H c12
              refine lv_tableIn (off := 131) (tgt := 152) hx hb dX0_begin_21 (by rw [c12]; decide) (by rw [c12]; decide) (by rw [c12]; decide) (by decide) ?_
              refine lv_iconst (v := 2) hx hb dX0_begin_152 (by decide) ?_
              refine lv_aload_n hx hb dX0_begin_153 rfl (lv_at hl 1 rfl) ?_
              refine lv_bipush (v := 13) hx hb dX0_begin_154 (by decide) ?_
              refine lv_aload_n hx hb dX0_begin_156 rfl (lv_at hl 3 rfl) ?_
              refine lv_iload_n hx hb dX0_begin_157 rfl (lv_at hl 4 rfl) ?_
              refine lv_iload hx hb dX0_begin_158 (lv_at hl 0 rfl) ?_
              obtain ⟨z13, hz13, H⟩ := bd_some H
              refine MI.callVw z13.1 [.int 13, .ref (bAd 0), .int p3, .int (p4 + 1)] [.int 2] C G (hB z2.1 z2.2 b_sta c_wat c_lev c_kin c_cdp c_sil d_hour d_dep d_arr d_deb 13 p3 (p4 + 1) z13 hz13) gX0_begin_X0_begin rfl rfl rfl (n := 4) (by decide +kernel) ⟨by simp only [rB, rS]; omega, by simp only [rB, rS]; omega⟩ (q0 := 0) (ci := 0) rfl rfl rfl rfl hl.1 rfl (Nat.le_of_ble_eq_true rfl) dX0_begin_160 ⟨Nat.zero_le _, Nat.zero_le _⟩ (fun U locs G => ?_)
              have G : Gd D A s (w_Ask cy aAd z13.2.1 z13.2.2 ++ w_Bay cy bAd (cAd 0) (dAd 0) b_sta ++ w_Ch cy cAd c_wat c_lev c_kin c_cdp c_sil ++ w_Led cy dAd d_hour d_dep d_arr d_deb) U locs := G
              refine lv_imul hx hb dX0_begin_163 ?_
              obtain rfl := Option.some.inj H
              exact ret_i C G rfl dX0_begin_164
            · have H := if_f H c12
              by_cases c14 : p1 = 20
              · have H := if_t H c14
                refine lv_tableIn (off := 144) (tgt := 165) hx hb dX0_begin_21 (by rw [c14]; decide) (by rw [c14]; decide) (by rw [c14]; decide) (by decide) ?_
                refine lv_iload_n hx hb dX0_begin_165 rfl (lv_at hl 4 rfl) ?_
                obtain rfl := Option.some.inj H
                exact ret_i C G rfl dX0_begin_166
              · have H := if_f H c14
                by_cases c15 : p1 = 21
                · have H := if_t H c15
                  refine lv_tableIn (off := 146) (tgt := 167) hx hb dX0_begin_21 (by rw [c15]; decide) (by rw [c15]; decide) (by rw [c15]; decide) (by decide) ?_
                  refine lv_aload_n hx hb dX0_begin_167 rfl (lv_at hl 1 rfl) ?_
                  refine lv_bipush (v := 20) hx hb dX0_begin_168 (by decide) ?_
                  refine lv_aload_n hx hb dX0_begin_170 rfl (lv_at hl 3 rfl) ?_
                  refine lv_iload_n hx hb dX0_begin_171 rfl (lv_at hl 4 rfl) ?_
                  refine lv_iload hx hb dX0_begin_172 (lv_at hl 0 rfl) ?_
                  obtain ⟨z16, hz16, H⟩ := bd_some H
                  refine MI.callVw z16.1 [.int 20, .ref (bAd 0), .int p3, .int (p4 + 1)] [] C G (hB z2.1 z2.2 b_sta c_wat c_lev c_kin c_cdp c_sil d_hour d_dep d_arr d_deb 20 p3 (p4 + 1) z16 hz16) gX0_begin_X0_begin rfl rfl rfl (n := 4) (by decide +kernel) ⟨by simp only [rB, rS]; omega, by simp only [rB, rS]; omega⟩ (q0 := 0) (ci := 0) rfl rfl rfl rfl hl.1 rfl (Nat.le_of_ble_eq_true rfl) dX0_begin_174 ⟨Nat.zero_le _, Nat.zero_le _⟩ (fun U locs G => ?_)
                  have G : Gd D A s (w_Ask cy aAd z16.2.1 z16.2.2 ++ w_Bay cy bAd (cAd 0) (dAd 0) b_sta ++ w_Ch cy cAd c_wat c_lev c_kin c_cdp c_sil ++ w_Led cy dAd d_hour d_dep d_arr d_deb) U locs := G
                  refine lv_aload_n hx hb dX0_begin_177 rfl (lv_at hl 3 rfl) ?_
                  refine va_get (D := D) (ci := 1) (v := .ref (cAd 0)) (C := RX1) (T := TX1) (N := 3) hx hb hts hiX1 hown hK G.1 2 rfl rfl 0 (by decide) lk2 (fun _ h9 => h9) rfl dX0_begin_178 ?_
                  refine va_get (D := D) (ci := 2) (v := .ref (cAd 4)) (C := RX2) (T := TX2) (N := 5) hx hb hts hiX2 hown hK G.1 3 rfl rfl 3 (by decide) lk3 (fun _ h9 => h9) rfl dX0_begin_181 ?_
                  refine lv_iload_n hx hb dX0_begin_184 rfl (lv_at hl 4 rfl) ?_
                  obtain ⟨hb17, H⟩ := gd_some H
                  refine g_iald (v := c_sil (ix p3)) hx hb hK G.1 7 1 rfl rfl hb17 rfl dX0_begin_185 ?_
                  refine lv_iadd hx hb dX0_begin_186 ?_
                  obtain rfl := Option.some.inj H
                  exact ret_i C G rfl dX0_begin_187
                · have H := if_f H c15
                  by_cases c18 : p1 = 22
                  · have H := if_t H c18
                    refine lv_tableIn (off := 167) (tgt := 188) hx hb dX0_begin_21 (by rw [c18]; decide) (by rw [c18]; decide) (by rw [c18]; decide) (by decide) ?_
                    refine lv_aload_n hx hb dX0_begin_188 rfl (lv_at hl 1 rfl) ?_
                    refine lv_bipush (v := 21) hx hb dX0_begin_189 (by decide) ?_
                    refine lv_aload_n hx hb dX0_begin_191 rfl (lv_at hl 3 rfl) ?_
                    refine lv_iload_n hx hb dX0_begin_192 rfl (lv_at hl 4 rfl) ?_
                    refine lv_iload hx hb dX0_begin_193 (lv_at hl 0 rfl) ?_
                    obtain ⟨z19, hz19, H⟩ := bd_some H
                    refine MI.callVw z19.1 [.int 21, .ref (bAd 0), .int p3, .int (p4 + 1)] [] C G (hB z2.1 z2.2 b_sta c_wat c_lev c_kin c_cdp c_sil d_hour d_dep d_arr d_deb 21 p3 (p4 + 1) z19 hz19) gX0_begin_X0_begin rfl rfl rfl (n := 4) (by decide +kernel) ⟨by simp only [rB, rS]; omega, by simp only [rB, rS]; omega⟩ (q0 := 0) (ci := 0) rfl rfl rfl rfl hl.1 rfl (Nat.le_of_ble_eq_true rfl) dX0_begin_195 ⟨Nat.zero_le _, Nat.zero_le _⟩ (fun U locs G => ?_)
                    have G : Gd D A s (w_Ask cy aAd z19.2.1 z19.2.2 ++ w_Bay cy bAd (cAd 0) (dAd 0) b_sta ++ w_Ch cy cAd c_wat c_lev c_kin c_cdp c_sil ++ w_Led cy dAd d_hour d_dep d_arr d_deb) U locs := G
                    refine lv_sipush (v := 1000) hx hb dX0_begin_198 (by decide) ?_
                    refine lv_isub hx hb dX0_begin_201 ?_
                    obtain rfl := Option.some.inj H
                    exact ret_i C G rfl dX0_begin_202
                  · have H := if_f H c18
                    by_cases c20 : p1 = 23
                    · have H := if_t H c20
                      refine lv_tableIn (off := 182) (tgt := 203) hx hb dX0_begin_21 (by rw [c20]; decide) (by rw [c20]; decide) (by rw [c20]; decide) (by decide) ?_
                      refine lv_aload_n hx hb dX0_begin_203 rfl (lv_at hl 1 rfl) ?_
                      refine lv_bipush (v := 20) hx hb dX0_begin_204 (by decide) ?_
                      refine lv_aload_n hx hb dX0_begin_206 rfl (lv_at hl 3 rfl) ?_
                      refine lv_iload_n hx hb dX0_begin_207 rfl (lv_at hl 4 rfl) ?_
                      refine lv_iload hx hb dX0_begin_208 (lv_at hl 0 rfl) ?_
                      obtain ⟨z21, hz21, H⟩ := bd_some H
                      refine MI.callVw z21.1 [.int 20, .ref (bAd 0), .int p3, .int (p4 + 1)] [] C G (hB z2.1 z2.2 b_sta c_wat c_lev c_kin c_cdp c_sil d_hour d_dep d_arr d_deb 20 p3 (p4 + 1) z21 hz21) gX0_begin_X0_begin rfl rfl rfl (n := 4) (by decide +kernel) ⟨by simp only [rB, rS]; omega, by simp only [rB, rS]; omega⟩ (q0 := 0) (ci := 0) rfl rfl rfl rfl hl.1 rfl (Nat.le_of_ble_eq_true rfl) dX0_begin_210 ⟨Nat.zero_le _, Nat.zero_le _⟩ (fun U locs G => ?_)
                      have G : Gd D A s (w_Ask cy aAd z21.2.1 z21.2.2 ++ w_Bay cy bAd (cAd 0) (dAd 0) b_sta ++ w_Ch cy cAd c_wat c_lev c_kin c_cdp c_sil ++ w_Led cy dAd d_hour d_dep d_arr d_deb) U locs := G
                      refine lv_aload_n hx hb dX0_begin_213 rfl (lv_at hl 1 rfl) ?_
                      refine lv_aload_n hx hb dX0_begin_214 rfl (lv_at hl 3 rfl) ?_
                      refine lv_iload_n hx hb dX0_begin_215 rfl (lv_at hl 4 rfl) ?_
                      refine lv_iload hx hb dX0_begin_216 (lv_at hl 0 rfl) ?_
                      obtain ⟨z22, hz22, H⟩ := bd_some H
                      refine MI.callVw z22.1 [.ref (bAd 0), .int p3, .int (p4 + 1)] [.int z21.1] C G (hS z21.2.1 z21.2.2 b_sta c_wat c_lev c_kin c_cdp c_sil d_hour d_dep d_arr d_deb p3 (p4 + 1) z22 hz22) gX0_begin_X0_size rfl rfl rfl (n := 3) (by decide +kernel) ⟨by simp only [rB, rS]; omega, by simp only [rB, rS]; omega⟩ (q0 := 0) (ci := 0) rfl rfl rfl rfl hl.1 rfl (Nat.le_of_ble_eq_true rfl) dX0_begin_218 ⟨Nat.zero_le _, Nat.zero_le _⟩ (fun U locs G => ?_)
                      have G : Gd D A s (w_Ask cy aAd z22.2.1 z22.2.2 ++ w_Bay cy bAd (cAd 0) (dAd 0) b_sta ++ w_Ch cy cAd c_wat c_lev c_kin c_cdp c_sil ++ w_Led cy dAd d_hour d_dep d_arr d_deb) U locs := G
                      refine lv_isub hx hb dX0_begin_221 ?_
                      obtain rfl := Option.some.inj H
                      exact ret_i C G rfl dX0_begin_222
                    · have H := if_f H c20
                      by_cases c23 : p1 = 24
                      · have H := if_t H c23
                        refine lv_tableIn (off := 202) (tgt := 223) hx hb dX0_begin_21 (by rw [c23]; decide) (by rw [c23]; decide) (by rw [c23]; decide) (by decide) ?_
                        refine lv_iconst (v := 2) hx hb dX0_begin_223 (by decide) ?_
                        refine lv_aload_n hx hb dX0_begin_224 rfl (lv_at hl 1 rfl) ?_
                        refine lv_bipush (v := 21) hx hb dX0_begin_225 (by decide) ?_
                        refine lv_aload_n hx hb dX0_begin_227 rfl (lv_at hl 3 rfl) ?_
                        refine lv_iload_n hx hb dX0_begin_228 rfl (lv_at hl 4 rfl) ?_
                        refine lv_iload hx hb dX0_begin_229 (lv_at hl 0 rfl) ?_
                        obtain ⟨z24, hz24, H⟩ := bd_some H
                        refine MI.callVw z24.1 [.int 21, .ref (bAd 0), .int p3, .int (p4 + 1)] [.int 2] C G (hB z2.1 z2.2 b_sta c_wat c_lev c_kin c_cdp c_sil d_hour d_dep d_arr d_deb 21 p3 (p4 + 1) z24 hz24) gX0_begin_X0_begin rfl rfl rfl (n := 4) (by decide +kernel) ⟨by simp only [rB, rS]; omega, by simp only [rB, rS]; omega⟩ (q0 := 0) (ci := 0) rfl rfl rfl rfl hl.1 rfl (Nat.le_of_ble_eq_true rfl) dX0_begin_231 ⟨Nat.zero_le _, Nat.zero_le _⟩ (fun U locs G => ?_)
                        have G : Gd D A s (w_Ask cy aAd z24.2.1 z24.2.2 ++ w_Bay cy bAd (cAd 0) (dAd 0) b_sta ++ w_Ch cy cAd c_wat c_lev c_kin c_cdp c_sil ++ w_Led cy dAd d_hour d_dep d_arr d_deb) U locs := G
                        refine lv_imul hx hb dX0_begin_234 ?_
                        obtain rfl := Option.some.inj H
                        exact ret_i C G rfl dX0_begin_235
                      · have H := if_f H c23
                        by_cases c25 : p1 = 15
                        · refine lv_tableIn (off := 215) (tgt := 236) hx hb dX0_begin_21 (by rw [c25]; decide) (by rw [c25]; decide) (by rw [c25]; decide) (by decide) ?_
                          refine lv_iconst (v := 0) hx hb dX0_begin_236 (by decide) ?_
                          obtain rfl := Option.some.inj H
                          exact ret_i C G rfl dX0_begin_237
                        by_cases c26 : p1 = 16
                        · refine lv_tableIn (off := 215) (tgt := 236) hx hb dX0_begin_21 (by rw [c26]; decide) (by rw [c26]; decide) (by rw [c26]; decide) (by decide) ?_
                          refine lv_iconst (v := 0) hx hb dX0_begin_236 (by decide) ?_
                          obtain rfl := Option.some.inj H
                          exact ret_i C G rfl dX0_begin_237
                        by_cases c27 : p1 = 17
                        · refine lv_tableIn (off := 215) (tgt := 236) hx hb dX0_begin_21 (by rw [c27]; decide) (by rw [c27]; decide) (by rw [c27]; decide) (by decide) ?_
                          refine lv_iconst (v := 0) hx hb dX0_begin_236 (by decide) ?_
                          obtain rfl := Option.some.inj H
                          exact ret_i C G rfl dX0_begin_237
                        by_cases c28 : p1 = 18
                        · refine lv_tableIn (off := 215) (tgt := 236) hx hb dX0_begin_21 (by rw [c28]; decide) (by rw [c28]; decide) (by rw [c28]; decide) (by decide) ?_
                          refine lv_iconst (v := 0) hx hb dX0_begin_236 (by decide) ?_
                          obtain rfl := Option.some.inj H
                          exact ret_i C G rfl dX0_begin_237
                        by_cases c29 : p1 = 19
                        · refine lv_tableIn (off := 215) (tgt := 236) hx hb dX0_begin_21 (by rw [c29]; decide) (by rw [c29]; decide) (by rw [c29]; decide) (by decide) ?_
                          refine lv_iconst (v := 0) hx hb dX0_begin_236 (by decide) ?_
                          obtain rfl := Option.some.inj H
                          exact ret_i C G rfl dX0_begin_237
                        have hout := sw_out (x := p1) (lo := 10) (hi := 24) (fun k h1 h2 => by
                            have hk : k = 10 ∨ k = 11 ∨ k = 12 ∨ k = 13 ∨ k = 14 ∨ k = 15 ∨ k = 16 ∨ k = 17 ∨ k = 18 ∨ k = 19 ∨ k = 20 ∨ k = 21 ∨ k = 22 ∨ k = 23 ∨ k = 24 := by omega
                            rcases hk with rfl | rfl | rfl | rfl | rfl | rfl | rfl | rfl | rfl | rfl | rfl | rfl | rfl | rfl | rfl
                            · exact c3
                            · exact c5
                            · exact c8
                            · exact c10
                            · exact c12
                            · exact c25
                            · exact c26
                            · exact c27
                            · exact c28
                            · exact c29
                            · exact c14
                            · exact c15
                            · exact c18
                            · exact c20
                            · exact c23)
                        refine lv_tableOut (tgt := 236) hx hb dX0_begin_21 hout (by decide) ?_
                        refine lv_iconst (v := 0) hx hb dX0_begin_236 (by decide) ?_
                        obtain rfl := Option.some.inj H
                        exact ret_i C G rfl dX0_begin_237
  · have H := if_f H c1
    refine lv_iconst (v := 0) hx hb dX0_begin_7 (by decide) ?_
    obtain rfl := Option.some.inj H
    exact ret_i C G rfl dX0_begin_8
theorem c_X0_begin_all (l : Launch) (D : va_G) (cy : Nat → ClassId) (aAd bAd cAd dAd : Nat → Nat) : ∀ (n : Nat) (a_trc : Int32) (a_nrs : Nat → Int32) (b_sta : Int32) (c_wat : Int32) (c_lev : Nat → Int32) (c_kin : Nat → Int32) (c_cdp : Nat → Int32) (c_sil : Nat → Int32) (d_hour : Int32) (d_dep : Nat → Int32) (d_arr : Nat → Int32) (d_deb : Nat → Int32) (p1 p3 p4 : Int32) (z : (Int32 × Int32 × (Nat → Int32))), f_X0_begin n a_trc a_nrs c_kin c_sil d_dep p1 p3 p4 = some z → MI l yX0_begin wsX0_begin (rB n) D cy [.ref (aAd 0), .int p1, .ref (bAd 0), .int p3, .int p4] (w_Ask cy aAd a_trc a_nrs ++ w_Bay cy bAd (cAd 0) (dAd 0) b_sta ++ w_Ch cy cAd c_wat c_lev c_kin c_cdp c_sil ++ w_Led cy dAd d_hour d_dep d_arr d_deb) z.1 (w_Ask cy aAd z.2.1 z.2.2 ++ w_Bay cy bAd (cAd 0) (dAd 0) b_sta ++ w_Ch cy cAd c_wat c_lev c_kin c_cdp c_sil ++ w_Led cy dAd d_hour d_dep d_arr d_deb) := by
  intro n
  induction n with
  | zero => intro a_trc a_nrs b_sta c_wat c_lev c_kin c_cdp c_sil d_hour d_dep d_arr d_deb p1 p3 p4 z h; cases h
  | succ n ih =>
    intro a_trc a_nrs b_sta c_wat c_lev c_kin c_cdp c_sil d_hour d_dep d_arr d_deb p1 p3 p4 z h
    exact c_X0_beginH l D cy aAd bAd cAd dAd n ih (fun a_trc a_nrs b_sta c_wat c_lev c_kin c_cdp c_sil d_hour d_dep d_arr d_deb p2 p3 z h => c_X0_sizeH l D cy aAd bAd cAd dAd n _ ih a_trc a_nrs b_sta c_wat c_lev c_kin c_cdp c_sil d_hour d_dep d_arr d_deb p2 p3 z h) (fun a_trc a_nrs b_sta c_wat c_lev c_kin c_cdp c_sil d_hour d_dep d_arr d_deb p2 p3 z h => c_X0_markH l D cy aAd bAd cAd dAd n _ ih a_trc a_nrs b_sta c_wat c_lev c_kin c_cdp c_sil d_hour d_dep d_arr d_deb p2 p3 z h) a_trc a_nrs b_sta c_wat c_lev c_kin c_cdp c_sil d_hour d_dep d_arr d_deb p1 p3 p4 z h
def f_X0_size (a_trc : Int32) (a_nrs c_kin c_sil d_dep : Nat → Int32) (p2 p3 : Int32) : Option (Int32 × Int32 × (Nat → Int32)) := f_X0_sizeH (f_X0_begin 22) a_trc a_nrs c_kin c_sil d_dep p2 p3
theorem c_X0_size (l : Launch) (D : va_G) (cy : Nat → ClassId) (aAd bAd cAd dAd : Nat → Nat) (a_trc : Int32) (a_nrs : Nat → Int32) (b_sta : Int32) (c_wat : Int32) (c_lev : Nat → Int32) (c_kin : Nat → Int32) (c_cdp : Nat → Int32) (c_sil : Nat → Int32) (d_hour : Int32) (d_dep : Nat → Int32) (d_arr : Nat → Int32) (d_deb : Nat → Int32) (p2 p3 : Int32) (z : (Int32 × Int32 × (Nat → Int32))) (hz : f_X0_size a_trc a_nrs c_kin c_sil d_dep p2 p3 = some z) : MI l yX0_size wsX0_size ({ frames := 45, cells := 0, slots := 0, locals := 1350 } : Room) D cy [.ref (aAd 0), .ref (bAd 0), .int p2, .int p3] (w_Ask cy aAd a_trc a_nrs ++ w_Bay cy bAd (cAd 0) (dAd 0) b_sta ++ w_Ch cy cAd c_wat c_lev c_kin c_cdp c_sil ++ w_Led cy dAd d_hour d_dep d_arr d_deb) z.1 (w_Ask cy aAd z.2.1 z.2.2 ++ w_Bay cy bAd (cAd 0) (dAd 0) b_sta ++ w_Ch cy cAd c_wat c_lev c_kin c_cdp c_sil ++ w_Led cy dAd d_hour d_dep d_arr d_deb) := c_X0_sizeH l D cy aAd bAd cAd dAd 22 _ (c_X0_begin_all l D cy aAd bAd cAd dAd 22) a_trc a_nrs b_sta c_wat c_lev c_kin c_cdp c_sil d_hour d_dep d_arr d_deb p2 p3 z hz
def f_X0_mark (a_trc : Int32) (a_nrs c_kin c_sil d_dep : Nat → Int32) (p2 p3 : Int32) : Option (Int32 × Int32 × (Nat → Int32)) := f_X0_markH (f_X0_begin 22) a_trc a_nrs c_kin c_sil d_dep p2 p3
theorem c_X0_mark (l : Launch) (D : va_G) (cy : Nat → ClassId) (aAd bAd cAd dAd : Nat → Nat) (a_trc : Int32) (a_nrs : Nat → Int32) (b_sta : Int32) (c_wat : Int32) (c_lev : Nat → Int32) (c_kin : Nat → Int32) (c_cdp : Nat → Int32) (c_sil : Nat → Int32) (d_hour : Int32) (d_dep : Nat → Int32) (d_arr : Nat → Int32) (d_deb : Nat → Int32) (p2 p3 : Int32) (z : (Int32 × Int32 × (Nat → Int32))) (hz : f_X0_mark a_trc a_nrs c_kin c_sil d_dep p2 p3 = some z) : MI l yX0_mark wsX0_mark ({ frames := 45, cells := 0, slots := 0, locals := 1350 } : Room) D cy [.ref (aAd 0), .ref (bAd 0), .int p2, .int p3] (w_Ask cy aAd a_trc a_nrs ++ w_Bay cy bAd (cAd 0) (dAd 0) b_sta ++ w_Ch cy cAd c_wat c_lev c_kin c_cdp c_sil ++ w_Led cy dAd d_hour d_dep d_arr d_deb) z.1 (w_Ask cy aAd z.2.1 z.2.2 ++ w_Bay cy bAd (cAd 0) (dAd 0) b_sta ++ w_Ch cy cAd c_wat c_lev c_kin c_cdp c_sil ++ w_Led cy dAd d_hour d_dep d_arr d_deb) := c_X0_markH l D cy aAd bAd cAd dAd 22 _ (c_X0_begin_all l D cy aAd bAd cAd dAd 22) a_trc a_nrs b_sta c_wat c_lev c_kin c_cdp c_sil d_hour d_dep d_arr d_deb p2 p3 z hz
def f_X8_ask (wat : Int32) (kin sil dep : Nat → Int32) (trc : Int32) (nrs : Nat → Int32) (p1 p2 : Int32) : Option (Int32 × Int32 × (Nat → Int32)) := bd (f_X8_isWater wat p1) (fun z1 => if z1 = 0 then (some ((-1000001), trc, nrs)) else (if p2 < 0 then (some ((-1000001), trc, nrs)) else (if p2 ≤ 1 then (if p2 = 0 then (bd (f_X0_size 0 nrs kin sil dep p1 0) (fun z7 => some (z7.1, z7.2.1, z7.2.2))) else (bd (f_X0_mark 0 nrs kin sil dep p1 0) (fun z6 => some (z6.1, z6.2.1, z6.2.2)))) else (some ((-1000001), trc, nrs)))))
set_option maxHeartbeats 4000000 in
set_option maxRecDepth 100000 in
theorem c_X8_ask (l : Launch) (D : va_G) (cy : Nat → ClassId) (mAd : Nat → Nat) (GI GM GR : Nat → Option Nat) (lfa lfi : Int32) (lan siz : Nat → Int32) (len tok stt fin num flw : Int32) (byt : Nat → Int32) (dwat : Int32) (dlev dkin dcdp dsil : Nat → Int32) (sta wat : Int32) (lev kin cdp sil : Nat → Int32) (hour : Int32) (dep arr deb : Nat → Int32) (nxt kep fhour : Int32) (fdep farr fdeb : Nat → Int32) (gft : Int32) (bal giv tak inc : Nat → Int32) (trc : Int32) (nrs : Nat → Int32) (p1 p2 : Int32) (z : (Int32 × Int32 × (Nat → Int32))) (hz : f_X8_ask wat kin sil dep trc nrs p1 p2 = some z) : MI l yX8_ask wsX8_ask ({ frames := 46, cells := 0, slots := 0, locals := 1373 } : Room) D cy [.ref (mAd 0), .int p1, .int p2] (w_Top cy mAd GI GM GR lfa lfi lan siz len tok stt fin num flw byt dwat dlev dkin dcdp dsil sta wat lev kin cdp sil hour dep arr deb nxt kep fhour fdep farr fdeb gft bal giv tak inc trc nrs) z.1 (w_Top cy mAd GI GM GR lfa lfi lan siz len tok stt fin num flw byt dwat dlev dkin dcdp dsil sta wat lev kin cdp sil hour dep arr deb nxt kep fhour fdep farr fdeb gft bal giv tak inc z.2.1 z.2.2) := by
  refine met_start (Qf := fun A => MQi D cy z.1 (w_Top cy mAd GI GM GR lfa lfi lan siz len tok stt fin num flw byt dwat dlev dkin dcdp dsil sta wat lev kin cdp sil hour dep arr deb nxt kep fhour fdep farr fdeb gft bal giv tak inc z.2.1 z.2.2) A) (cc := cX8_ask) (nL := 3) (ret := (some .int)) RX8 rfl (by decide) rfl (Nat.le_of_ble_eq_true rfl) ?_
  intro p e s m below meth c A ls C G hl
  have hl : lv_has ls 3 [(0, .ref (mAd 0)), (1, .int p1), (2, .int p2)] := hl
  have H := hz
  unfold f_X8_ask at H
  obtain ⟨hx, hb, hr, hml, hown, hts, hlk, hK, hA, hE⟩ := id C
  have lk0 := hts (Cond.constant RX8 73 (-1000001)) (List.mem_of_getElem? (i := 1) rfl)
  have lk1 := hts (Cond.fieldLink RX8 65 "TideDebts" "asker" "LTideDebts$Asker;") (List.mem_of_getElem? (i := 2) rfl)
  have lk2 := hts (Cond.fieldLink RX8 258 "TideDebts$Asker" "traced" "I") (List.mem_of_getElem? (i := 3) rfl)
  have lk3 := hts (Cond.fieldLink RX8 33 "TideDebts" "now" "LTideDebts$Bay;") (List.mem_of_getElem? (i := 4) rfl)
  have hiX0 : ∀ w ∈ u_ws RX0 TX0 2, w ∈ wsX8_ask := fun _ h => List.mem_cons_of_mem _ (List.mem_append_left _ (List.mem_append_left _ (List.mem_append_left _ (List.mem_append_right _ h))))
  have hiX8 : ∀ w ∈ u_ws RX8 TX8 11, w ∈ wsX8_ask := fun _ h => List.mem_cons_of_mem _ (List.mem_append_left _ (List.mem_append_left _ (List.mem_append_left _ (List.mem_append_left _ (List.mem_append_right _ h)))))
  refine lv_aload_n hx hb dX8_ask_0 rfl (lv_at hl 0 rfl) ?_
  refine lv_iload_n hx hb dX8_ask_1 rfl (lv_at hl 1 rfl) ?_
  obtain ⟨z1, hz1, H⟩ := bd_some H
  refine MI.callVw z1 [.int p1] [] C G (c_X8_isWater l D cy mAd GI GM GR lfa lfi lan siz len tok stt fin num flw byt dwat dlev dkin dcdp dsil sta wat lev kin cdp sil hour dep arr deb nxt kep fhour fdep farr fdeb gft bal giv tak inc trc nrs p1 z1 hz1) gX8_ask_X8_isWater rfl rfl rfl (n := 1) (by decide +kernel) ⟨Nat.le_of_ble_eq_true rfl, Nat.le_of_ble_eq_true rfl⟩ (q0 := 0) (ci := 8) rfl rfl rfl rfl hl.1 rfl (Nat.le_of_ble_eq_true rfl) dX8_ask_2 ⟨Nat.zero_le _, Nat.zero_le _⟩ (fun U locs G => ?_)
  have G : Gd D A s (w_Top cy mAd GI GM GR lfa lfi lan siz len tok stt fin num flw byt dwat dlev dkin dcdp dsil sta wat lev kin cdp sil hour dep arr deb nxt kep fhour fdep farr fdeb gft bal giv tak inc trc nrs) U locs := G
  refine lv_if_eq (tgt := 17) hx hb dX8_ask_5 (by decide) (fun c2 => ?_) (fun c2 => ?_)
  · have H := if_t H c2
    refine lv_ldc hx hb hown lk0 dX8_ask_17 ?_
    obtain rfl := Option.some.inj H
    exact ret_i C G rfl dX8_ask_19
  · have H := if_f H c2
    refine lv_iload_n hx hb dX8_ask_8 rfl (lv_at hl 2 rfl) ?_
    refine lv_if_lt (tgt := 17) hx hb dX8_ask_9 (by decide) (fun c3 => ?_) (fun c3 => ?_)
    · have H := if_t H c3
      refine lv_ldc hx hb hown lk0 dX8_ask_17 ?_
      obtain rfl := Option.some.inj H
      exact ret_i C G rfl dX8_ask_19
    · have H := if_f H c3
      refine lv_iload_n hx hb dX8_ask_12 rfl (lv_at hl 2 rfl) ?_
      refine lv_iconst (v := 1) hx hb dX8_ask_13 (by decide) ?_
      refine lv_icmp_le (tgt := 20) hx hb dX8_ask_14 (by decide) (fun c4 => ?_) (fun c4 => ?_)
      · have H := if_t H c4
        refine lv_aload_n hx hb dX8_ask_20 rfl (lv_at hl 0 rfl) ?_
        refine va_get (D := D) (ci := 8) (v := .ref (mAd 34)) (C := RX8) (T := TX8) (N := 11) hx hb hts hiX8 hown hK G.1 0 rfl rfl 8 (by decide) lk1 (fun _ h9 => h9) rfl dX8_ask_21 ?_
        refine lv_iconst (v := 0) hx hb dX8_ask_24 (by decide) ?_
        refine va_put (D := D) (ci := 0) (v := .int 0) (ty := .int) (C := RX0) (T := TX0) (N := 2) hx hb hts hiX0 tyX0 tyX0_ok nmX0 hown hK G.1 G.2.1 G.2.2 34 rfl rfl 1 (by decide) lk2 (fun _ h9 => h9) rfl (tyX0_ok 1 (by decide)) rfl rfl (Nat.le_of_ble_eq_true rfl) dX8_ask_25 (fun U locs hP hD hS => ?_)
        have G : Gd D A s (w_Top cy mAd GI GM GR lfa lfi lan siz len tok stt fin num flw byt dwat dlev dkin dcdp dsil sta wat lev kin cdp sil hour dep arr deb nxt kep fhour fdep farr fdeb gft bal giv tak inc 0 nrs) U locs := ⟨hP, hD, hS⟩
        refine lv_iload_n hx hb dX8_ask_28 rfl (lv_at hl 2 rfl) ?_
        refine lv_if_ne (tgt := 48) hx hb dX8_ask_29 (by decide) (fun c5 => ?_) (fun c5 => ?_)
        · have H := if_f H c5
          refine lv_aload_n hx hb dX8_ask_48 rfl (lv_at hl 0 rfl) ?_
          refine va_get (D := D) (ci := 8) (v := .ref (mAd 34)) (C := RX8) (T := TX8) (N := 11) hx hb hts hiX8 hown hK G.1 0 rfl rfl 8 (by decide) lk1 (fun _ h9 => h9) rfl dX8_ask_49 ?_
          refine lv_aload_n hx hb dX8_ask_52 rfl (lv_at hl 0 rfl) ?_
          refine va_get (D := D) (ci := 8) (v := .ref (mAd 12)) (C := RX8) (T := TX8) (N := 11) hx hb hts hiX8 hown hK G.1 0 rfl rfl 3 (by decide) lk3 (fun _ h9 => h9) rfl dX8_ask_53 ?_
          refine lv_iload_n hx hb dX8_ask_56 rfl (lv_at hl 1 rfl) ?_
          refine lv_iconst (v := 0) hx hb dX8_ask_57 (by decide) ?_
          obtain ⟨z6, hz6, H⟩ := bd_some H
          refine MI.callV z6.1 [.ref (mAd 12), .int p1, .int 0] [] [34, 35, 12, 13, 14, 15, 16, 17, 18, 19, 20, 21] C G (c_X0_mark l D cy (fun k => mAd (k + 34)) (fun k => mAd (k + 12)) (fun k => mAd (k + 13)) (fun k => mAd (k + 18)) 0 nrs sta wat lev kin cdp sil hour dep arr deb p1 0 z6 hz6) gX8_ask_X0_mark rfl rfl rfl (n := 3) (by decide +kernel) ⟨Nat.le_of_ble_eq_true rfl, Nat.le_of_ble_eq_true rfl⟩ (q0 := 34) (ci := 0) rfl rfl rfl rfl rfl rfl rfl hl.1 rfl (Nat.le_of_ble_eq_true rfl) dX8_ask_58 ⟨Nat.zero_le _, Nat.zero_le _⟩ (fun U locs G => ?_)
          have G : Gd D A s (w_Top cy mAd GI GM GR lfa lfi lan siz len tok stt fin num flw byt dwat dlev dkin dcdp dsil sta wat lev kin cdp sil hour dep arr deb nxt kep fhour fdep farr fdeb gft bal giv tak inc z6.2.1 z6.2.2) U locs := G
          obtain rfl := Option.some.inj H
          exact ret_i C G rfl dX8_ask_61
        · have H := if_t H c5
          refine lv_aload_n hx hb dX8_ask_32 rfl (lv_at hl 0 rfl) ?_
          refine va_get (D := D) (ci := 8) (v := .ref (mAd 34)) (C := RX8) (T := TX8) (N := 11) hx hb hts hiX8 hown hK G.1 0 rfl rfl 8 (by decide) lk1 (fun _ h9 => h9) rfl dX8_ask_33 ?_
          refine lv_aload_n hx hb dX8_ask_36 rfl (lv_at hl 0 rfl) ?_
          refine va_get (D := D) (ci := 8) (v := .ref (mAd 12)) (C := RX8) (T := TX8) (N := 11) hx hb hts hiX8 hown hK G.1 0 rfl rfl 3 (by decide) lk3 (fun _ h9 => h9) rfl dX8_ask_37 ?_
          refine lv_iload_n hx hb dX8_ask_40 rfl (lv_at hl 1 rfl) ?_
          refine lv_iconst (v := 0) hx hb dX8_ask_41 (by decide) ?_
          obtain ⟨z7, hz7, H⟩ := bd_some H
          refine MI.callV z7.1 [.ref (mAd 12), .int p1, .int 0] [] [34, 35, 12, 13, 14, 15, 16, 17, 18, 19, 20, 21] C G (c_X0_size l D cy (fun k => mAd (k + 34)) (fun k => mAd (k + 12)) (fun k => mAd (k + 13)) (fun k => mAd (k + 18)) 0 nrs sta wat lev kin cdp sil hour dep arr deb p1 0 z7 hz7) gX8_ask_X0_size rfl rfl rfl (n := 3) (by decide +kernel) ⟨Nat.le_of_ble_eq_true rfl, Nat.le_of_ble_eq_true rfl⟩ (q0 := 34) (ci := 0) rfl rfl rfl rfl rfl rfl rfl hl.1 rfl (Nat.le_of_ble_eq_true rfl) dX8_ask_42 ⟨Nat.zero_le _, Nat.zero_le _⟩ (fun U locs G => ?_)
          have G : Gd D A s (w_Top cy mAd GI GM GR lfa lfi lan siz len tok stt fin num flw byt dwat dlev dkin dcdp dsil sta wat lev kin cdp sil hour dep arr deb nxt kep fhour fdep farr fdeb gft bal giv tak inc z7.2.1 z7.2.2) U locs := G
          refine lv_goto (tgt := 61) hx hb dX8_ask_45 (by decide) ?_
          obtain rfl := Option.some.inj H
          exact ret_i C G rfl dX8_ask_61
      · have H := if_f H c4
        refine lv_ldc hx hb hown lk0 dX8_ask_17 ?_
        obtain rfl := Option.some.inj H
        exact ret_i C G rfl dX8_ask_19
