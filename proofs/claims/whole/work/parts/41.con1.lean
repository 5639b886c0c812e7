set_option maxHeartbeats 4000000 in
set_option maxRecDepth 100000 in
theorem c_X0_init (l : Launch) (D : va_G) (cy : Nat → ClassId) (h0 : Nat) : MN l yX0_init wsX0_init ({ frames := 1, cells := 1, slots := 16, locals := 20 } : Room) D cy [.ref h0] [(h0, .inr (0, [.null, .int 0]))] 1 16 (fun u : Nat → Nat => u 0 = h0) (fun u => w_Ask cy u 0 (fun _ => 0)) := by
  refine met_startN (cc := cX0_init) (nL := 1) (ret := none) RX0 rfl rfl (by decide) rfl (Nat.le_of_ble_eq_true rfl) ?_
  intro p e s m below meth c A ls C hN hin G hl
  have hl : lv_has ls 1 [(0, .ref h0)] := hl
  obtain ⟨hx, hb, hr, hml, hown, hts, hlk, hK, hA, hE⟩ := id C
  have lk0 := hts (Cond.methodLink RX0 1 objectInit) (List.mem_of_getElem? (i := 1) rfl)
  have lk1 := hts (Cond.instanceMethod objectInit) (List.mem_of_getElem? (i := 2) rfl)
  have lk2 := hts (Cond.code objectInit ⟨#[0xb1]⟩ 1 none) (List.mem_of_getElem? (i := 3) rfl)
  have lk3 := hts (Cond.arrayClass .int) (List.mem_of_getElem? (i := 4) rfl)
  have lk4 := hts (Cond.fieldLink RX0 7 "TideDebts$Asker" "numbers" "[I") (List.mem_of_getElem? (i := 5) rfl)
  have hiX0 : ∀ w ∈ u_ws RX0 TX0 2, w ∈ wsX0_init := fun _ h => List.mem_cons_of_mem _ (List.mem_append_right _ h)
  refine lv_aload_n hx hb dX0_init_0 rfl (lv_at hl 0 rfl) ?_
  refine W.objInit hx hb hown lk0 lk1 lk2 rfl (by rw [hml]; exact hl.1) rfl dX0_init_1 (Nat.le_of_ble_eq_true rfl) (Nat.le_of_ble_eq_true rfl) ?_
  refine W.eq (g2 := F0 m 4 ls []) rfl ?_
  refine lv_aload_n hx hb dX0_init_4 rfl (lv_at hl 0 rfl) ?_
  refine lv_bipush (v := 16) hx hb dX0_init_5 (by decide) ?_
  refine g_newa (atype := .int) (ty := .int) C G 1 lk3 rfl rfl (by intro _ h; cases h) 16 (a0 := (16, .inl (fun _ => 0))) (fun cA => vp_cell_i cA 16 (fun _ => 0)) (by decide) (by decide) (by show 16 * 4 ≤ 536870912; omega) (Nat.le_of_ble_eq_true rfl) (Nat.le_of_ble_eq_true rfl) dX0_init_7 (fun q1 U G => ?_)
  have G : Gd D A s [(h0, .inr (0, [.null, .int 0])), (q1, .inl (cy 1, 16, .inl (fun _ => 0)))] _ _ := G
  refine va_putF (D := D) (ci := 0) (v := .ref q1) (ty := tyX0 0) (C := RX0) (T := TX0) (N := 2) hx hb hts hiX0 tyX0 tyX0_ok nmX0 hown hK G.1 G.2.1 G.2.2 0 rfl rfl 0 (by decide) lk4 (fun _ h9 => h9) rfl hin rfl (tyX0_ok 0 (by decide)) rfl rfl (Nat.le_of_ble_eq_true rfl) dX0_init_9 (fun U locs hP hD hS => ?_)
  have G : Gd D A s [(h0, .inr (0, [.ref q1, .int 0])), (q1, .inl (cy 1, 16, .inl (fun _ => 0)))] _ _ := ⟨hP, hD, hS⟩
  exact ret_N C G (adl [h0, q1]) rfl rfl dX0_init_12
set_option maxHeartbeats 4000000 in
set_option maxRecDepth 100000 in
theorem c_X2_init (l : Launch) (D : va_G) (cy : Nat → ClassId) (h0 : Nat) : MN l yX2_init wsX2_init ({ frames := 1, cells := 4, slots := 30, locals := 20 } : Room) D cy [.ref h0] [(h0, .inr (2, [.null, .null, .null, .null, .int 0]))] 4 30 (fun u : Nat → Nat => u 0 = h0) (fun u => w_Ch cy u 0 (fun _ => 0) (fun _ => 0) (fun _ => 0) (fun _ => 0)) := by
  refine met_startN (cc := cX2_init) (nL := 1) (ret := none) RX2 rfl rfl (by decide) rfl (Nat.le_of_ble_eq_true rfl) ?_
  intro p e s m below meth c A ls C hN hin G hl
  have hl : lv_has ls 1 [(0, .ref h0)] := hl
  obtain ⟨hx, hb, hr, hml, hown, hts, hlk, hK, hA, hE⟩ := id C
  have lk0 := hts (Cond.methodLink RX2 3 objectInit) (List.mem_of_getElem? (i := 1) rfl)
  have lk1 := hts (Cond.instanceMethod objectInit) (List.mem_of_getElem? (i := 2) rfl)
  have lk2 := hts (Cond.code objectInit ⟨#[0xb1]⟩ 1 none) (List.mem_of_getElem? (i := 3) rfl)
  have lk3 := hts (Cond.arrayClass .int) (List.mem_of_getElem? (i := 4) rfl)
  have lk4 := hts (Cond.fieldLink RX2 9 "TideDebts$Chart" "levels" "[I") (List.mem_of_getElem? (i := 5) rfl)
  have lk5 := hts (Cond.fieldLink RX2 15 "TideDebts$Chart" "kinds" "[I") (List.mem_of_getElem? (i := 6) rfl)
  have lk6 := hts (Cond.fieldLink RX2 18 "TideDebts$Chart" "depths" "[I") (List.mem_of_getElem? (i := 7) rfl)
  have lk7 := hts (Cond.fieldLink RX2 21 "TideDebts$Chart" "sills" "[I") (List.mem_of_getElem? (i := 8) rfl)
  have hiX2 : ∀ w ∈ u_ws RX2 TX2 5, w ∈ wsX2_init := fun _ h => List.mem_cons_of_mem _ (List.mem_append_right _ h)
  refine lv_aload_n hx hb dX2_init_0 rfl (lv_at hl 0 rfl) ?_
  refine W.objInit hx hb hown lk0 lk1 lk2 rfl (by rw [hml]; exact hl.1) rfl dX2_init_1 (Nat.le_of_ble_eq_true rfl) (Nat.le_of_ble_eq_true rfl) ?_
  refine W.eq (g2 := F0 m 4 ls []) rfl ?_
  refine lv_aload_n hx hb dX2_init_4 rfl (lv_at hl 0 rfl) ?_
  refine lv_bipush (v := 12) hx hb dX2_init_5 (by decide) ?_
  refine g_newa (atype := .int) (ty := .int) C G 1 lk3 rfl rfl (by intro _ h; cases h) 12 (a0 := (12, .inl (fun _ => 0))) (fun cA => vp_cell_i cA 12 (fun _ => 0)) (by decide) (by decide) (by show 12 * 4 ≤ 536870912; omega) (Nat.le_of_ble_eq_true rfl) (Nat.le_of_ble_eq_true rfl) dX2_init_7 (fun q1 U G => ?_)
  have G : Gd D A s [(h0, .inr (2, [.null, .null, .null, .null, .int 0])), (q1, .inl (cy 1, 12, .inl (fun _ => 0)))] _ _ := G
  refine va_putF (D := D) (ci := 2) (v := .ref q1) (ty := tyX2 0) (C := RX2) (T := TX2) (N := 5) hx hb hts hiX2 tyX2 tyX2_ok nmX2 hown hK G.1 G.2.1 G.2.2 0 rfl rfl 0 (by decide) lk4 (fun _ h9 => h9) rfl hin rfl (tyX2_ok 0 (by decide)) rfl rfl (Nat.le_of_ble_eq_true rfl) dX2_init_9 (fun U locs hP hD hS => ?_)
  have G : Gd D A s [(h0, .inr (2, [.ref q1, .null, .null, .null, .int 0])), (q1, .inl (cy 1, 12, .inl (fun _ => 0)))] _ _ := ⟨hP, hD, hS⟩
  refine lv_aload_n hx hb dX2_init_12 rfl (lv_at hl 0 rfl) ?_
  refine lv_bipush (v := 6) hx hb dX2_init_13 (by decide) ?_
  refine g_newa (atype := .int) (ty := .int) C G 1 lk3 rfl rfl (by intro _ h; cases h) 6 (a0 := (6, .inl (fun _ => 0))) (fun cA => vp_cell_i cA 6 (fun _ => 0)) (by decide) (by decide) (by show 6 * 4 ≤ 536870912; omega) (Nat.le_of_ble_eq_true rfl) (Nat.le_of_ble_eq_true rfl) dX2_init_15 (fun q2 U G => ?_)
  have G : Gd D A s [(h0, .inr (2, [.ref q1, .null, .null, .null, .int 0])), (q1, .inl (cy 1, 12, .inl (fun _ => 0))), (q2, .inl (cy 1, 6, .inl (fun _ => 0)))] _ _ := G
  refine va_putF (D := D) (ci := 2) (v := .ref q2) (ty := tyX2 1) (C := RX2) (T := TX2) (N := 5) hx hb hts hiX2 tyX2 tyX2_ok nmX2 hown hK G.1 G.2.1 G.2.2 0 rfl rfl 1 (by decide) lk5 (fun _ h9 => h9) rfl hin rfl (tyX2_ok 1 (by decide)) rfl rfl (Nat.le_of_ble_eq_true rfl) dX2_init_17 (fun U locs hP hD hS => ?_)
  have G : Gd D A s [(h0, .inr (2, [.ref q1, .ref q2, .null, .null, .int 0])), (q1, .inl (cy 1, 12, .inl (fun _ => 0))), (q2, .inl (cy 1, 6, .inl (fun _ => 0)))] _ _ := ⟨hP, hD, hS⟩
  refine lv_aload_n hx hb dX2_init_20 rfl (lv_at hl 0 rfl) ?_
  refine lv_bipush (v := 6) hx hb dX2_init_21 (by decide) ?_
  refine g_newa (atype := .int) (ty := .int) C G 1 lk3 rfl rfl (by intro _ h; cases h) 6 (a0 := (6, .inl (fun _ => 0))) (fun cA => vp_cell_i cA 6 (fun _ => 0)) (by decide) (by decide) (by show 6 * 4 ≤ 536870912; omega) (Nat.le_of_ble_eq_true rfl) (Nat.le_of_ble_eq_true rfl) dX2_init_23 (fun q3 U G => ?_)
  have G : Gd D A s [(h0, .inr (2, [.ref q1, .ref q2, .null, .null, .int 0])), (q1, .inl (cy 1, 12, .inl (fun _ => 0))), (q2, .inl (cy 1, 6, .inl (fun _ => 0))), (q3, .inl (cy 1, 6, .inl (fun _ => 0)))] _ _ := G
  refine va_putF (D := D) (ci := 2) (v := .ref q3) (ty := tyX2 2) (C := RX2) (T := TX2) (N := 5) hx hb hts hiX2 tyX2 tyX2_ok nmX2 hown hK G.1 G.2.1 G.2.2 0 rfl rfl 2 (by decide) lk6 (fun _ h9 => h9) rfl hin rfl (tyX2_ok 2 (by decide)) rfl rfl (Nat.le_of_ble_eq_true rfl) dX2_init_25 (fun U locs hP hD hS => ?_)
  have G : Gd D A s [(h0, .inr (2, [.ref q1, .ref q2, .ref q3, .null, .int 0])), (q1, .inl (cy 1, 12, .inl (fun _ => 0))), (q2, .inl (cy 1, 6, .inl (fun _ => 0))), (q3, .inl (cy 1, 6, .inl (fun _ => 0)))] _ _ := ⟨hP, hD, hS⟩
  refine lv_aload_n hx hb dX2_init_28 rfl (lv_at hl 0 rfl) ?_
  refine lv_bipush (v := 6) hx hb dX2_init_29 (by decide) ?_
  refine g_newa (atype := .int) (ty := .int) C G 1 lk3 rfl rfl (by intro _ h; cases h) 6 (a0 := (6, .inl (fun _ => 0))) (fun cA => vp_cell_i cA 6 (fun _ => 0)) (by decide) (by decide) (by show 6 * 4 ≤ 536870912; omega) (Nat.le_of_ble_eq_true rfl) (Nat.le_of_ble_eq_true rfl) dX2_init_31 (fun q4 U G => ?_)
  have G : Gd D A s [(h0, .inr (2, [.ref q1, .ref q2, .ref q3, .null, .int 0])), (q1, .inl (cy 1, 12, .inl (fun _ => 0))), (q2, .inl (cy 1, 6, .inl (fun _ => 0))), (q3, .inl (cy 1, 6, .inl (fun _ => 0))), (q4, .inl (cy 1, 6, .inl (fun _ => 0)))] _ _ := G
  refine va_putF (D := D) (ci := 2) (v := .ref q4) (ty := tyX2 3) (C := RX2) (T := TX2) (N := 5) hx hb hts hiX2 tyX2 tyX2_ok nmX2 hown hK G.1 G.2.1 G.2.2 0 rfl rfl 3 (by decide) lk7 (fun _ h9 => h9) rfl hin rfl (tyX2_ok 3 (by decide)) rfl rfl (Nat.le_of_ble_eq_true rfl) dX2_init_33 (fun U locs hP hD hS => ?_)
  have G : Gd D A s [(h0, .inr (2, [.ref q1, .ref q2, .ref q3, .ref q4, .int 0])), (q1, .inl (cy 1, 12, .inl (fun _ => 0))), (q2, .inl (cy 1, 6, .inl (fun _ => 0))), (q3, .inl (cy 1, 6, .inl (fun _ => 0))), (q4, .inl (cy 1, 6, .inl (fun _ => 0)))] _ _ := ⟨hP, hD, hS⟩
  exact ret_N C G (adl [h0, q1, q2, q3, q4]) rfl rfl dX2_init_36
set_option maxHeartbeats 4000000 in
set_option maxRecDepth 100000 in
theorem c_X3_init (l : Launch) (D : va_G) (cy : Nat → ClassId) (h0 : Nat) : MN l yX3_init wsX3_init ({ frames := 1, cells := 3, slots := 48, locals := 20 } : Room) D cy [.ref h0] [(h0, .inr (3, [.null, .null, .null, .int 0]))] 3 48 (fun u : Nat → Nat => u 0 = h0) (fun u => w_Led cy u 0 (fun _ => 0) (fun _ => 0) (fun _ => 0)) := by
  refine met_startN (cc := cX3_init) (nL := 1) (ret := none) RX3 rfl rfl (by decide) rfl (Nat.le_of_ble_eq_true rfl) ?_
  intro p e s m below meth c A ls C hN hin G hl
  have hl : lv_has ls 1 [(0, .ref h0)] := hl
  obtain ⟨hx, hb, hr, hml, hown, hts, hlk, hK, hA, hE⟩ := id C
  have lk0 := hts (Cond.methodLink RX3 3 objectInit) (List.mem_of_getElem? (i := 1) rfl)
  have lk1 := hts (Cond.instanceMethod objectInit) (List.mem_of_getElem? (i := 2) rfl)
  have lk2 := hts (Cond.code objectInit ⟨#[0xb1]⟩ 1 none) (List.mem_of_getElem? (i := 3) rfl)
  have lk3 := hts (Cond.arrayClass .int) (List.mem_of_getElem? (i := 4) rfl)
  have lk4 := hts (Cond.fieldLink RX3 9 "TideDebts$Ledger" "depths" "[I") (List.mem_of_getElem? (i := 5) rfl)
  have lk5 := hts (Cond.fieldLink RX3 15 "TideDebts$Ledger" "arrears" "[I") (List.mem_of_getElem? (i := 6) rfl)
  have lk6 := hts (Cond.fieldLink RX3 18 "TideDebts$Ledger" "debts" "[I") (List.mem_of_getElem? (i := 7) rfl)
  have hiX3 : ∀ w ∈ u_ws RX3 TX3 4, w ∈ wsX3_init := fun _ h => List.mem_cons_of_mem _ (List.mem_append_right _ h)
  refine lv_aload_n hx hb dX3_init_0 rfl (lv_at hl 0 rfl) ?_
  refine W.objInit hx hb hown lk0 lk1 lk2 rfl (by rw [hml]; exact hl.1) rfl dX3_init_1 (Nat.le_of_ble_eq_true rfl) (Nat.le_of_ble_eq_true rfl) ?_
  refine W.eq (g2 := F0 m 4 ls []) rfl ?_
  refine lv_aload_n hx hb dX3_init_4 rfl (lv_at hl 0 rfl) ?_
  refine lv_bipush (v := 6) hx hb dX3_init_5 (by decide) ?_
  refine g_newa (atype := .int) (ty := .int) C G 1 lk3 rfl rfl (by intro _ h; cases h) 6 (a0 := (6, .inl (fun _ => 0))) (fun cA => vp_cell_i cA 6 (fun _ => 0)) (by decide) (by decide) (by show 6 * 4 ≤ 536870912; omega) (Nat.le_of_ble_eq_true rfl) (Nat.le_of_ble_eq_true rfl) dX3_init_7 (fun q1 U G => ?_)
  have G : Gd D A s [(h0, .inr (3, [.null, .null, .null, .int 0])), (q1, .inl (cy 1, 6, .inl (fun _ => 0)))] _ _ := G
  refine va_putF (D := D) (ci := 3) (v := .ref q1) (ty := tyX3 0) (C := RX3) (T := TX3) (N := 4) hx hb hts hiX3 tyX3 tyX3_ok nmX3 hown hK G.1 G.2.1 G.2.2 0 rfl rfl 0 (by decide) lk4 (fun _ h9 => h9) rfl hin rfl (tyX3_ok 0 (by decide)) rfl rfl (Nat.le_of_ble_eq_true rfl) dX3_init_9 (fun U locs hP hD hS => ?_)
  have G : Gd D A s [(h0, .inr (3, [.ref q1, .null, .null, .int 0])), (q1, .inl (cy 1, 6, .inl (fun _ => 0)))] _ _ := ⟨hP, hD, hS⟩
  refine lv_aload_n hx hb dX3_init_12 rfl (lv_at hl 0 rfl) ?_
  refine lv_bipush (v := 6) hx hb dX3_init_13 (by decide) ?_
  refine g_newa (atype := .int) (ty := .int) C G 1 lk3 rfl rfl (by intro _ h; cases h) 6 (a0 := (6, .inl (fun _ => 0))) (fun cA => vp_cell_i cA 6 (fun _ => 0)) (by decide) (by decide) (by show 6 * 4 ≤ 536870912; omega) (Nat.le_of_ble_eq_true rfl) (Nat.le_of_ble_eq_true rfl) dX3_init_15 (fun q2 U G => ?_)
  have G : Gd D A s [(h0, .inr (3, [.ref q1, .null, .null, .int 0])), (q1, .inl (cy 1, 6, .inl (fun _ => 0))), (q2, .inl (cy 1, 6, .inl (fun _ => 0)))] _ _ := G
  refine va_putF (D := D) (ci := 3) (v := .ref q2) (ty := tyX3 1) (C := RX3) (T := TX3) (N := 4) hx hb hts hiX3 tyX3 tyX3_ok nmX3 hown hK G.1 G.2.1 G.2.2 0 rfl rfl 1 (by decide) lk5 (fun _ h9 => h9) rfl hin rfl (tyX3_ok 1 (by decide)) rfl rfl (Nat.le_of_ble_eq_true rfl) dX3_init_17 (fun U locs hP hD hS => ?_)
  have G : Gd D A s [(h0, .inr (3, [.ref q1, .ref q2, .null, .int 0])), (q1, .inl (cy 1, 6, .inl (fun _ => 0))), (q2, .inl (cy 1, 6, .inl (fun _ => 0)))] _ _ := ⟨hP, hD, hS⟩
  refine lv_aload_n hx hb dX3_init_20 rfl (lv_at hl 0 rfl) ?_
  refine lv_bipush (v := 36) hx hb dX3_init_21 (by decide) ?_
  refine g_newa (atype := .int) (ty := .int) C G 1 lk3 rfl rfl (by intro _ h; cases h) 36 (a0 := (36, .inl (fun _ => 0))) (fun cA => vp_cell_i cA 36 (fun _ => 0)) (by decide) (by decide) (by show 36 * 4 ≤ 536870912; omega) (Nat.le_of_ble_eq_true rfl) (Nat.le_of_ble_eq_true rfl) dX3_init_23 (fun q3 U G => ?_)
  have G : Gd D A s [(h0, .inr (3, [.ref q1, .ref q2, .null, .int 0])), (q1, .inl (cy 1, 6, .inl (fun _ => 0))), (q2, .inl (cy 1, 6, .inl (fun _ => 0))), (q3, .inl (cy 1, 36, .inl (fun _ => 0)))] _ _ := G
  refine va_putF (D := D) (ci := 3) (v := .ref q3) (ty := tyX3 2) (C := RX3) (T := TX3) (N := 4) hx hb hts hiX3 tyX3 tyX3_ok nmX3 hown hK G.1 G.2.1 G.2.2 0 rfl rfl 2 (by decide) lk6 (fun _ h9 => h9) rfl hin rfl (tyX3_ok 2 (by decide)) rfl rfl (Nat.le_of_ble_eq_true rfl) dX3_init_25 (fun U locs hP hD hS => ?_)
  have G : Gd D A s [(h0, .inr (3, [.ref q1, .ref q2, .ref q3, .int 0])), (q1, .inl (cy 1, 6, .inl (fun _ => 0))), (q2, .inl (cy 1, 6, .inl (fun _ => 0))), (q3, .inl (cy 1, 36, .inl (fun _ => 0)))] _ _ := ⟨hP, hD, hS⟩
  exact ret_N C G (adl [h0, q1, q2, q3]) rfl rfl dX3_init_28
set_option maxHeartbeats 4000000 in
set_option maxRecDepth 100000 in
theorem c_X4_init (l : Launch) (D : va_G) (cy : Nat → ClassId) (h0 : Nat) : MN l yX4_init wsX4_init ({ frames := 1, cells := 4, slots := 24, locals := 20 } : Room) D cy [.ref h0] [(h0, .inr (4, [.null, .null, .null, .null, .int 0]))] 4 24 (fun u : Nat → Nat => u 0 = h0) (fun u => w_Net cy u 0 (fun _ => 0) (fun _ => 0) (fun _ => 0) (fun _ => 0)) := by
  refine met_startN (cc := cX4_init) (nL := 1) (ret := none) RX4 rfl rfl (by decide) rfl (Nat.le_of_ble_eq_true rfl) ?_
  intro p e s m below meth c A ls C hN hin G hl
  have hl : lv_has ls 1 [(0, .ref h0)] := hl
  obtain ⟨hx, hb, hr, hml, hown, hts, hlk, hK, hA, hE⟩ := id C
  have lk0 := hts (Cond.methodLink RX4 3 objectInit) (List.mem_of_getElem? (i := 1) rfl)
  have lk1 := hts (Cond.instanceMethod objectInit) (List.mem_of_getElem? (i := 2) rfl)
  have lk2 := hts (Cond.code objectInit ⟨#[0xb1]⟩ 1 none) (List.mem_of_getElem? (i := 3) rfl)
  have lk3 := hts (Cond.arrayClass .int) (List.mem_of_getElem? (i := 4) rfl)
  have lk4 := hts (Cond.fieldLink RX4 9 "TideDebts$Netting" "balances" "[I") (List.mem_of_getElem? (i := 5) rfl)
  have lk5 := hts (Cond.fieldLink RX4 15 "TideDebts$Netting" "givers" "[I") (List.mem_of_getElem? (i := 6) rfl)
  have lk6 := hts (Cond.fieldLink RX4 18 "TideDebts$Netting" "takers" "[I") (List.mem_of_getElem? (i := 7) rfl)
  have lk7 := hts (Cond.fieldLink RX4 21 "TideDebts$Netting" "inches" "[I") (List.mem_of_getElem? (i := 8) rfl)
  have hiX4 : ∀ w ∈ u_ws RX4 TX4 5, w ∈ wsX4_init := fun _ h => List.mem_cons_of_mem _ (List.mem_append_right _ h)
  refine lv_aload_n hx hb dX4_init_0 rfl (lv_at hl 0 rfl) ?_
  refine W.objInit hx hb hown lk0 lk1 lk2 rfl (by rw [hml]; exact hl.1) rfl dX4_init_1 (Nat.le_of_ble_eq_true rfl) (Nat.le_of_ble_eq_true rfl) ?_
  refine W.eq (g2 := F0 m 4 ls []) rfl ?_
  refine lv_aload_n hx hb dX4_init_4 rfl (lv_at hl 0 rfl) ?_
  refine lv_bipush (v := 6) hx hb dX4_init_5 (by decide) ?_
  refine g_newa (atype := .int) (ty := .int) C G 1 lk3 rfl rfl (by intro _ h; cases h) 6 (a0 := (6, .inl (fun _ => 0))) (fun cA => vp_cell_i cA 6 (fun _ => 0)) (by decide) (by decide) (by show 6 * 4 ≤ 536870912; omega) (Nat.le_of_ble_eq_true rfl) (Nat.le_of_ble_eq_true rfl) dX4_init_7 (fun q1 U G => ?_)
  have G : Gd D A s [(h0, .inr (4, [.null, .null, .null, .null, .int 0])), (q1, .inl (cy 1, 6, .inl (fun _ => 0)))] _ _ := G
  refine va_putF (D := D) (ci := 4) (v := .ref q1) (ty := tyX4 0) (C := RX4) (T := TX4) (N := 5) hx hb hts hiX4 tyX4 tyX4_ok nmX4 hown hK G.1 G.2.1 G.2.2 0 rfl rfl 0 (by decide) lk4 (fun _ h9 => h9) rfl hin rfl (tyX4_ok 0 (by decide)) rfl rfl (Nat.le_of_ble_eq_true rfl) dX4_init_9 (fun U locs hP hD hS => ?_)
  have G : Gd D A s [(h0, .inr (4, [.ref q1, .null, .null, .null, .int 0])), (q1, .inl (cy 1, 6, .inl (fun _ => 0)))] _ _ := ⟨hP, hD, hS⟩
  refine lv_aload_n hx hb dX4_init_12 rfl (lv_at hl 0 rfl) ?_
  refine lv_bipush (v := 6) hx hb dX4_init_13 (by decide) ?_
  refine g_newa (atype := .int) (ty := .int) C G 1 lk3 rfl rfl (by intro _ h; cases h) 6 (a0 := (6, .inl (fun _ => 0))) (fun cA => vp_cell_i cA 6 (fun _ => 0)) (by decide) (by decide) (by show 6 * 4 ≤ 536870912; omega) (Nat.le_of_ble_eq_true rfl) (Nat.le_of_ble_eq_true rfl) dX4_init_15 (fun q2 U G => ?_)
  have G : Gd D A s [(h0, .inr (4, [.ref q1, .null, .null, .null, .int 0])), (q1, .inl (cy 1, 6, .inl (fun _ => 0))), (q2, .inl (cy 1, 6, .inl (fun _ => 0)))] _ _ := G
  refine va_putF (D := D) (ci := 4) (v := .ref q2) (ty := tyX4 1) (C := RX4) (T := TX4) (N := 5) hx hb hts hiX4 tyX4 tyX4_ok nmX4 hown hK G.1 G.2.1 G.2.2 0 rfl rfl 1 (by decide) lk5 (fun _ h9 => h9) rfl hin rfl (tyX4_ok 1 (by decide)) rfl rfl (Nat.le_of_ble_eq_true rfl) dX4_init_17 (fun U locs hP hD hS => ?_)
  have G : Gd D A s [(h0, .inr (4, [.ref q1, .ref q2, .null, .null, .int 0])), (q1, .inl (cy 1, 6, .inl (fun _ => 0))), (q2, .inl (cy 1, 6, .inl (fun _ => 0)))] _ _ := ⟨hP, hD, hS⟩
  refine lv_aload_n hx hb dX4_init_20 rfl (lv_at hl 0 rfl) ?_
  refine lv_bipush (v := 6) hx hb dX4_init_21 (by decide) ?_
  refine g_newa (atype := .int) (ty := .int) C G 1 lk3 rfl rfl (by intro _ h; cases h) 6 (a0 := (6, .inl (fun _ => 0))) (fun cA => vp_cell_i cA 6 (fun _ => 0)) (by decide) (by decide) (by show 6 * 4 ≤ 536870912; omega) (Nat.le_of_ble_eq_true rfl) (Nat.le_of_ble_eq_true rfl) dX4_init_23 (fun q3 U G => ?_)
  have G : Gd D A s [(h0, .inr (4, [.ref q1, .ref q2, .null, .null, .int 0])), (q1, .inl (cy 1, 6, .inl (fun _ => 0))), (q2, .inl (cy 1, 6, .inl (fun _ => 0))), (q3, .inl (cy 1, 6, .inl (fun _ => 0)))] _ _ := G
  refine va_putF (D := D) (ci := 4) (v := .ref q3) (ty := tyX4 2) (C := RX4) (T := TX4) (N := 5) hx hb hts hiX4 tyX4 tyX4_ok nmX4 hown hK G.1 G.2.1 G.2.2 0 rfl rfl 2 (by decide) lk6 (fun _ h9 => h9) rfl hin rfl (tyX4_ok 2 (by decide)) rfl rfl (Nat.le_of_ble_eq_true rfl) dX4_init_25 (fun U locs hP hD hS => ?_)
  have G : Gd D A s [(h0, .inr (4, [.ref q1, .ref q2, .ref q3, .null, .int 0])), (q1, .inl (cy 1, 6, .inl (fun _ => 0))), (q2, .inl (cy 1, 6, .inl (fun _ => 0))), (q3, .inl (cy 1, 6, .inl (fun _ => 0)))] _ _ := ⟨hP, hD, hS⟩
  refine lv_aload_n hx hb dX4_init_28 rfl (lv_at hl 0 rfl) ?_
  refine lv_bipush (v := 6) hx hb dX4_init_29 (by decide) ?_
  refine g_newa (atype := .int) (ty := .int) C G 1 lk3 rfl rfl (by intro _ h; cases h) 6 (a0 := (6, .inl (fun _ => 0))) (fun cA => vp_cell_i cA 6 (fun _ => 0)) (by decide) (by decide) (by show 6 * 4 ≤ 536870912; omega) (Nat.le_of_ble_eq_true rfl) (Nat.le_of_ble_eq_true rfl) dX4_init_31 (fun q4 U G => ?_)
  have G : Gd D A s [(h0, .inr (4, [.ref q1, .ref q2, .ref q3, .null, .int 0])), (q1, .inl (cy 1, 6, .inl (fun _ => 0))), (q2, .inl (cy 1, 6, .inl (fun _ => 0))), (q3, .inl (cy 1, 6, .inl (fun _ => 0))), (q4, .inl (cy 1, 6, .inl (fun _ => 0)))] _ _ := G
  refine va_putF (D := D) (ci := 4) (v := .ref q4) (ty := tyX4 3) (C := RX4) (T := TX4) (N := 5) hx hb hts hiX4 tyX4 tyX4_ok nmX4 hown hK G.1 G.2.1 G.2.2 0 rfl rfl 3 (by decide) lk7 (fun _ h9 => h9) rfl hin rfl (tyX4_ok 3 (by decide)) rfl rfl (Nat.le_of_ble_eq_true rfl) dX4_init_33 (fun U locs hP hD hS => ?_)
  have G : Gd D A s [(h0, .inr (4, [.ref q1, .ref q2, .ref q3, .ref q4, .int 0])), (q1, .inl (cy 1, 6, .inl (fun _ => 0))), (q2, .inl (cy 1, 6, .inl (fun _ => 0))), (q3, .inl (cy 1, 6, .inl (fun _ => 0))), (q4, .inl (cy 1, 6, .inl (fun _ => 0)))] _ _ := ⟨hP, hD, hS⟩
  exact ret_N C G (adl [h0, q1, q2, q3, q4]) rfl rfl dX4_init_36
set_option maxHeartbeats 4000000 in
set_option maxRecDepth 100000 in
theorem c_X7_init (l : Launch) (D : va_G) (cy : Nat → ClassId) (h0 : Nat) : MN l yX7_init wsX7_init ({ frames := 1, cells := 1, slots := 400, locals := 20 } : Room) D cy [.ref h0] [(h0, .inr (7, [.null, .int 0, .int 0, .int 0, .int 0, .int 0, .int 0]))] 1 400 (fun u : Nat → Nat => u 0 = h0) (fun u => w_Tape cy u 0 0 0 0 0 0 (fun _ => 0)) := by
  refine met_startN (cc := cX7_init) (nL := 1) (ret := none) RX7 rfl rfl (by decide) rfl (Nat.le_of_ble_eq_true rfl) ?_
  intro p e s m below meth c A ls C hN hin G hl
  have hl : lv_has ls 1 [(0, .ref h0)] := hl
  obtain ⟨hx, hb, hr, hml, hown, hts, hlk, hK, hA, hE⟩ := id C
  have lk0 := hts (Cond.methodLink RX7 3 objectInit) (List.mem_of_getElem? (i := 1) rfl)
  have lk1 := hts (Cond.instanceMethod objectInit) (List.mem_of_getElem? (i := 2) rfl)
  have lk2 := hts (Cond.code objectInit ⟨#[0xb1]⟩ 1 none) (List.mem_of_getElem? (i := 3) rfl)
  have lk3 := hts (Cond.arrayClass .byte) (List.mem_of_getElem? (i := 4) rfl)
  have lk4 := hts (Cond.fieldLink RX7 9 "TideDebts$Tape" "bytes" "[B") (List.mem_of_getElem? (i := 5) rfl)
  have hiX7 : ∀ w ∈ u_ws RX7 TX7 7, w ∈ wsX7_init := fun _ h => List.mem_cons_of_mem _ (List.mem_append_right _ h)
  refine lv_aload_n hx hb dX7_init_0 rfl (lv_at hl 0 rfl) ?_
  refine W.objInit hx hb hown lk0 lk1 lk2 rfl (by rw [hml]; exact hl.1) rfl dX7_init_1 (Nat.le_of_ble_eq_true rfl) (Nat.le_of_ble_eq_true rfl) ?_
  refine W.eq (g2 := F0 m 4 ls []) rfl ?_
  refine lv_aload_n hx hb dX7_init_4 rfl (lv_at hl 0 rfl) ?_
  refine lv_sipush (v := 400) hx hb dX7_init_5 (by decide) ?_
  refine g_newa (atype := .byte) (ty := .byte) C G 0 lk3 rfl rfl (by intro _ h; cases h) 400 (a0 := (400, .inl (fun _ => 0))) (fun cA => vp_cell_i cA 400 (fun _ => 0)) (by decide) (by decide) (by show 400 * 1 ≤ 536870912; omega) (Nat.le_of_ble_eq_true rfl) (Nat.le_of_ble_eq_true rfl) dX7_init_8 (fun q1 U G => ?_)
  have G : Gd D A s [(h0, .inr (7, [.null, .int 0, .int 0, .int 0, .int 0, .int 0, .int 0])), (q1, .inl (cy 0, 400, .inl (fun _ => 0)))] _ _ := G
  refine va_putF (D := D) (ci := 7) (v := .ref q1) (ty := tyX7 0) (C := RX7) (T := TX7) (N := 7) hx hb hts hiX7 tyX7 tyX7_ok nmX7 hown hK G.1 G.2.1 G.2.2 0 rfl rfl 0 (by decide) lk4 (fun _ h9 => h9) rfl hin rfl (tyX7_ok 0 (by decide)) rfl rfl (Nat.le_of_ble_eq_true rfl) dX7_init_10 (fun U locs hP hD hS => ?_)
  have G : Gd D A s [(h0, .inr (7, [.ref q1, .int 0, .int 0, .int 0, .int 0, .int 0, .int 0])), (q1, .inl (cy 0, 400, .inl (fun _ => 0)))] _ _ := ⟨hP, hD, hS⟩
  exact ret_N C G (adl [h0, q1]) rfl rfl dX7_init_13
set_option maxHeartbeats 4000000 in
set_option maxRecDepth 100000 in
theorem c_X1_init (l : Launch) (D : va_G) (cy : Nat → ClassId) (h0 : Nat) : MN l yX1_init wsX1_init ({ frames := 2, cells := 9, slots := 87, locals := 40 } : Room) D cy [.ref h0] [(h0, .inr (1, [.null, .null, .int 0]))] 9 87 (fun u : Nat → Nat => u 0 = h0) (fun u => w_BA cy u 0 0 (fun _ => 0) (fun _ => 0) (fun _ => 0) (fun _ => 0) 0 (fun _ => 0) (fun _ => 0) (fun _ => 0)) := by
  refine met_startN (cc := cX1_init) (nL := 1) (ret := none) RX1 rfl rfl (by decide) rfl (Nat.le_of_ble_eq_true rfl) ?_
  intro p e s m below meth c A ls C hN hin G hl
  have hl : lv_has ls 1 [(0, .ref h0)] := hl
  obtain ⟨hx, hb, hr, hml, hown, hts, hlk, hK, hA, hE⟩ := id C
  have lk0 := hts (Cond.methodLink RX1 1 objectInit) (List.mem_of_getElem? (i := 1) rfl)
  have lk1 := hts (Cond.instanceMethod objectInit) (List.mem_of_getElem? (i := 2) rfl)
  have lk2 := hts (Cond.code objectInit ⟨#[0xb1]⟩ 1 none) (List.mem_of_getElem? (i := 3) rfl)
  have lk3 := hts (Cond.classLink RX1 7 RX2) (List.mem_of_getElem? (i := 4) rfl)
  have lk4 := hts (Cond.instantiable RX2 5) (List.mem_of_getElem? (i := 5) rfl)
  have lk5 := hts (Cond.initialized RX2) (List.mem_of_getElem? (i := 6) rfl)
  have lk6 := hts (Cond.instanceMethod yX2_init) (List.mem_of_getElem? (i := 12) rfl)
  have lk7 := hts (Cond.fieldLink RX1 10 "TideDebts$Bay" "chart" "LTideDebts$Chart;") (List.mem_of_getElem? (i := 7) rfl)
  have lk8 := hts (Cond.classLink RX1 16 RX3) (List.mem_of_getElem? (i := 8) rfl)
  have lk9 := hts (Cond.instantiable RX3 4) (List.mem_of_getElem? (i := 9) rfl)
  have lk10 := hts (Cond.initialized RX3) (List.mem_of_getElem? (i := 10) rfl)
  have lk11 := hts (Cond.instanceMethod yX3_init) (List.mem_of_getElem? (i := 20) rfl)
  have lk12 := hts (Cond.fieldLink RX1 19 "TideDebts$Bay" "ledger" "LTideDebts$Ledger;") (List.mem_of_getElem? (i := 11) rfl)
  have hiX1 : ∀ w ∈ u_ws RX1 TX1 3, w ∈ wsX1_init := fun _ h => List.mem_cons_of_mem _ (List.mem_append_left _ (List.mem_append_right _ h))
  have hiX2 : ∀ w ∈ u_ws RX2 TX2 5, w ∈ wsX1_init := fun _ h => List.mem_cons_of_mem _ (List.mem_append_left _ (List.mem_append_left _ (List.mem_append_right _ h)))
  have hiX3 : ∀ w ∈ u_ws RX3 TX3 4, w ∈ wsX1_init := fun _ h => List.mem_cons_of_mem _ (List.mem_append_right _ h)
  refine lv_aload_n hx hb dX1_init_0 rfl (lv_at hl 0 rfl) ?_
  refine W.objInit hx hb hown lk0 lk1 lk2 rfl (by rw [hml]; exact hl.1) rfl dX1_init_1 (Nat.le_of_ble_eq_true rfl) (Nat.le_of_ble_eq_true rfl) ?_
  refine W.eq (g2 := F0 m 4 ls []) rfl ?_
  refine lv_aload_n hx hb dX1_init_4 rfl (lv_at hl 0 rfl) ?_
  refine va_new (ci := 2) (fs := [.null, .null, .null, .null, .int 0]) (C := RX2) (T := TX2) (N := 5) hx hb hts hiX2 tyX2 tyX2_ok hown lk3 lk4 lk5 hK G.1 G.2.1 G.2.2 hA rfl (fun j hj => by rcases (show j = 0 ∨ j = 1 ∨ j = 2 ∨ j = 3 ∨ j = 4 by omega) with rfl | rfl | rfl | rfl | rfl <;> rfl) (Nat.le_of_ble_eq_true rfl) (Nat.le_of_ble_eq_true rfl) dX1_init_5 (fun q1 U hP hD hS => ?_)
  have G : Gd D A s ([(h0, .inr (1, [.null, .null, .int 0]))] ++ [(q1, .inr (2, [.null, .null, .null, .null, .int 0]))]) _ _ := ⟨hP, hD, hS⟩
  refine lv_dup hx hb dX1_init_8 rfl ?_
  refine MN.callIN [.ref q1, .ref h0] C hN G (c_X2_init l D cy q1) gX1_init_X2_init_n9 rfl rfl rfl (hN.2.2.1.1) lk5 lk6 rfl (by decide +kernel) ⟨Nat.le_of_ble_eq_true rfl, Nat.le_of_ble_eq_true rfl⟩ hl.1 rfl (Nat.le_of_ble_eq_true rfl) dX1_init_9 ⟨Nat.le_of_ble_eq_true rfl, Nat.le_of_ble_eq_true rfl⟩ (fun u1 U locs hu G2 => ?_)
  subst hu
  have G : Gd D A s ([(h0, .inr (1, [.null, .null, .int 0]))] ++ w_Ch cy u1 0 (fun _ => 0) (fun _ => 0) (fun _ => 0) (fun _ => 0)) _ _ := G2
  refine va_putF (D := D) (ci := 1) (v := .ref (u1 0)) (ty := tyX1 0) (C := RX1) (T := TX1) (N := 3) hx hb hts hiX1 tyX1 tyX1_ok nmX1 hown hK G.1 G.2.1 G.2.2 0 rfl rfl 0 (by decide) lk7 (fun _ h9 => h9) rfl hin rfl (tyX1_ok 0 (by decide)) rfl rfl (Nat.le_of_ble_eq_true rfl) dX1_init_12 (fun U locs hP hD hS => ?_)
  have G : Gd D A s ([(h0, .inr (1, [.ref (u1 0), .null, .int 0]))] ++ w_Ch cy u1 0 (fun _ => 0) (fun _ => 0) (fun _ => 0) (fun _ => 0)) _ _ := ⟨hP, hD, hS⟩
  refine lv_aload_n hx hb dX1_init_15 rfl (lv_at hl 0 rfl) ?_
  refine va_new (ci := 3) (fs := [.null, .null, .null, .int 0]) (C := RX3) (T := TX3) (N := 4) hx hb hts hiX3 tyX3 tyX3_ok hown lk8 lk9 lk10 hK G.1 G.2.1 G.2.2 hA rfl (fun j hj => by rcases (show j = 0 ∨ j = 1 ∨ j = 2 ∨ j = 3 by omega) with rfl | rfl | rfl | rfl <;> rfl) (Nat.le_of_ble_eq_true rfl) (Nat.le_of_ble_eq_true rfl) dX1_init_16 (fun q2 U hP hD hS => ?_)
  have G : Gd D A s (([(h0, .inr (1, [.ref (u1 0), .null, .int 0]))] ++ w_Ch cy u1 0 (fun _ => 0) (fun _ => 0) (fun _ => 0) (fun _ => 0)) ++ [(q2, .inr (3, [.null, .null, .null, .int 0]))]) _ _ := ⟨hP, hD, hS⟩
  refine lv_dup hx hb dX1_init_19 rfl ?_
  refine MN.callIN [.ref q2, .ref h0] C hN G (c_X3_init l D cy q2) gX1_init_X3_init_n18 rfl rfl rfl (hN.2.2.1.2) lk10 lk11 rfl (by decide +kernel) ⟨Nat.le_of_ble_eq_true rfl, Nat.le_of_ble_eq_true rfl⟩ hl.1 rfl (Nat.le_of_ble_eq_true rfl) dX1_init_20 ⟨Nat.le_of_ble_eq_true rfl, Nat.le_of_ble_eq_true rfl⟩ (fun u2 U locs hu G2 => ?_)
  subst hu
  have G : Gd D A s ([(h0, .inr (1, [.ref (u1 0), .null, .int 0]))] ++ w_Ch cy u1 0 (fun _ => 0) (fun _ => 0) (fun _ => 0) (fun _ => 0) ++ w_Led cy u2 0 (fun _ => 0) (fun _ => 0) (fun _ => 0)) _ _ := G2
  refine va_putF (D := D) (ci := 1) (v := .ref (u2 0)) (ty := tyX1 1) (C := RX1) (T := TX1) (N := 3) hx hb hts hiX1 tyX1 tyX1_ok nmX1 hown hK G.1 G.2.1 G.2.2 0 rfl rfl 1 (by decide) lk12 (fun _ h9 => h9) rfl hin rfl (tyX1_ok 1 (by decide)) rfl rfl (Nat.le_of_ble_eq_true rfl) dX1_init_23 (fun U locs hP hD hS => ?_)
  have G : Gd D A s ([(h0, .inr (1, [.ref (u1 0), .ref (u2 0), .int 0]))] ++ w_Ch cy u1 0 (fun _ => 0) (fun _ => 0) (fun _ => 0) (fun _ => 0) ++ w_Led cy u2 0 (fun _ => 0) (fun _ => 0) (fun _ => 0)) _ _ := ⟨hP, hD, hS⟩
  exact ret_N C G (adl [h0, u1 0, u1 1, u1 2, u1 3, u1 4, u2 0, u2 1, u2 2, u2 3]) rfl rfl dX1_init_26
def laneI : Nat → Int32 := (upd (upd (upd (upd (upd (upd (upd (upd (fun _ => 0) 0 (-1)) 1 (-1)) 2 (-1)) 3 (-1)) 4 (-1)) 5 (-1)) 6 (-1)) 7 (-1))
set_option maxHeartbeats 4000000 in
set_option maxRecDepth 100000 in
theorem c_X9_init (l : Launch) (D : va_G) (cy : Nat → ClassId) (h0 : Nat) : MN l yX9_init wsX9_init ({ frames := 1, cells := 13, slots := 2971, locals := 20 } : Room) D cy [.ref h0] [(h0, .inr (9, [.int 0, .int 0, .null, .null, .null, .null, .null, .null, .null, .int 0, .null, .int 0, .int 0, .int 0, .int 0, .int 0, .int 0, .int 0, .int 0, .int 0, .null, .null, .int 0, .null, .null, .null, .int 0]))] 13 2971 (fun u : Nat → Nat => u 0 = h0) (fun u => w_M cy u 0 0 0 0 0 0 0 0 0 0 0 0 0 0 laneI (fun _ => 0) (fun _ => 0) (fun _ => 0) (fun _ => 0) (fun _ => 0) (fun _ => 0) (fun _ => 0) (fun _ => 0) (fun _ => 0) (fun _ => 0) (fun _ => 0) (fun _ => 0)) := by
  refine met_startN (cc := cX9_init) (nL := 1) (ret := none) RX9 rfl rfl (by decide) rfl (Nat.le_of_ble_eq_true rfl) ?_
  intro p e s m below meth c A ls C hN hin G hl
  have hl : lv_has ls 1 [(0, .ref h0)] := hl
  obtain ⟨hx, hb, hr, hml, hown, hts, hlk, hK, hA, hE⟩ := id C
  have lk0 := hts (Cond.methodLink RX9 1 objectInit) (List.mem_of_getElem? (i := 1) rfl)
  have lk1 := hts (Cond.instanceMethod objectInit) (List.mem_of_getElem? (i := 2) rfl)
  have lk2 := hts (Cond.code objectInit ⟨#[0xb1]⟩ 1 none) (List.mem_of_getElem? (i := 3) rfl)
  have lk3 := hts (Cond.arrayClass .int) (List.mem_of_getElem? (i := 4) rfl)
  have lk4 := hts (Cond.fieldLink RX9 7 "TideDebtsModel" "lane" "[I") (List.mem_of_getElem? (i := 5) rfl)
  have lk5 := hts (Cond.fieldLink RX9 13 "TideDebtsModel" "many" "[I") (List.mem_of_getElem? (i := 6) rfl)
  have lk6 := hts (Cond.fieldLink RX9 16 "TideDebtsModel" "item" "[I") (List.mem_of_getElem? (i := 7) rfl)
  have lk7 := hts (Cond.fieldLink RX9 19 "TideDebtsModel" "bay" "[I") (List.mem_of_getElem? (i := 8) rfl)
  have lk8 := hts (Cond.fieldLink RX9 22 "TideDebtsModel" "fresh" "[I") (List.mem_of_getElem? (i := 9) rfl)
  have lk9 := hts (Cond.fieldLink RX9 25 "TideDebtsModel" "then" "[I") (List.mem_of_getElem? (i := 10) rfl)
  have lk10 := hts (Cond.fieldLink RX9 28 "TideDebtsModel" "was" "[I") (List.mem_of_getElem? (i := 11) rfl)
  have lk11 := hts (Cond.fieldLink RX9 31 "TideDebtsModel" "tape" "[I") (List.mem_of_getElem? (i := 12) rfl)
  have lk12 := hts (Cond.fieldLink RX9 34 "TideDebtsModel" "left" "[I") (List.mem_of_getElem? (i := 13) rfl)
  have lk13 := hts (Cond.fieldLink RX9 37 "TideDebtsModel" "gift" "[I") (List.mem_of_getElem? (i := 14) rfl)
  have lk14 := hts (Cond.arrayClass .boolean) (List.mem_of_getElem? (i := 15) rfl)
  have lk15 := hts (Cond.fieldLink RX9 40 "TideDebtsModel" "isKept" "[Z") (List.mem_of_getElem? (i := 16) rfl)
  have lk16 := hts (Cond.fieldLink RX9 44 "TideDebtsModel" "kept" "[I") (List.mem_of_getElem? (i := 17) rfl)
  have lk17 := hts (Cond.fieldLink RX9 47 "TideDebtsModel" "trace" "[I") (List.mem_of_getElem? (i := 18) rfl)
  have hiX9 : ∀ w ∈ u_ws RX9 TX9 27, w ∈ wsX9_init := fun _ h => List.mem_cons_of_mem _ (List.mem_append_right _ h)
  refine lv_aload_n hx hb dX9_init_0 rfl (lv_at hl 0 rfl) ?_
  refine W.objInit hx hb hown lk0 lk1 lk2 rfl (by rw [hml]; exact hl.1) rfl dX9_init_1 (Nat.le_of_ble_eq_true rfl) (Nat.le_of_ble_eq_true rfl) ?_
  refine W.eq (g2 := F0 m 4 ls []) rfl ?_
  refine lv_aload_n hx hb dX9_init_4 rfl (lv_at hl 0 rfl) ?_
  refine lv_bipush (v := 8) hx hb dX9_init_5 (by decide) ?_
  refine g_newa (atype := .int) (ty := .int) C G 1 lk3 rfl rfl (by intro _ h; cases h) 8 (a0 := (8, .inl (fun _ => 0))) (fun cA => vp_cell_i cA 8 (fun _ => 0)) (by decide) (by decide) (by show 8 * 4 ≤ 536870912; omega) (Nat.le_of_ble_eq_true rfl) (Nat.le_of_ble_eq_true rfl) dX9_init_7 (fun q1 U G => ?_)
  have G : Gd D A s [(h0, .inr (9, [.int 0, .int 0, .null, .null, .null, .null, .null, .null, .null, .int 0, .null, .int 0, .int 0, .int 0, .int 0, .int 0, .int 0, .int 0, .int 0, .int 0, .null, .null, .int 0, .null, .null, .null, .int 0])), (q1, .inl (cy 1, 8, .inl (fun _ => 0)))] _ _ := G
  refine lv_dup hx hb dX9_init_9 rfl ?_
  refine lv_iconst (v := 0) hx hb dX9_init_10 (by decide) ?_
  refine lv_iconst (v := (-1)) hx hb dX9_init_11 (by decide) ?_
  refine va_iast hx hb hK G.1 G.2.1 G.2.2 1 1 rfl rfl (inb_in (by decide)) dX9_init_12 (fun U locs hP hD hS => ?_)
  have G : Gd D A s [(h0, .inr (9, [.int 0, .int 0, .null, .null, .null, .null, .null, .null, .null, .int 0, .null, .int 0, .int 0, .int 0, .int 0, .int 0, .int 0, .int 0, .int 0, .int 0, .null, .null, .int 0, .null, .null, .null, .int 0])), (q1, .inl (cy 1, 8, .inl (upd (fun _ => 0) 0 (-1))))] _ _ := ⟨hP, hD, hS⟩
  refine lv_dup hx hb dX9_init_13 rfl ?_
  refine lv_iconst (v := 1) hx hb dX9_init_14 (by decide) ?_
  refine lv_iconst (v := (-1)) hx hb dX9_init_15 (by decide) ?_
  refine va_iast hx hb hK G.1 G.2.1 G.2.2 1 1 rfl rfl (inb_in (by decide)) dX9_init_16 (fun U locs hP hD hS => ?_)
  have G : Gd D A s [(h0, .inr (9, [.int 0, .int 0, .null, .null, .null, .null, .null, .null, .null, .int 0, .null, .int 0, .int 0, .int 0, .int 0, .int 0, .int 0, .int 0, .int 0, .int 0, .null, .null, .int 0, .null, .null, .null, .int 0])), (q1, .inl (cy 1, 8, .inl (upd (upd (fun _ => 0) 0 (-1)) 1 (-1))))] _ _ := ⟨hP, hD, hS⟩
  refine lv_dup hx hb dX9_init_17 rfl ?_
  refine lv_iconst (v := 2) hx hb dX9_init_18 (by decide) ?_
  refine lv_iconst (v := (-1)) hx hb dX9_init_19 (by decide) ?_
  refine va_iast hx hb hK G.1 G.2.1 G.2.2 1 1 rfl rfl (inb_in (by decide)) dX9_init_20 (fun U locs hP hD hS => ?_)
  have G : Gd D A s [(h0, .inr (9, [.int 0, .int 0, .null, .null, .null, .null, .null, .null, .null, .int 0, .null, .int 0, .int 0, .int 0, .int 0, .int 0, .int 0, .int 0, .int 0, .int 0, .null, .null, .int 0, .null, .null, .null, .int 0])), (q1, .inl (cy 1, 8, .inl (upd (upd (upd (fun _ => 0) 0 (-1)) 1 (-1)) 2 (-1))))] _ _ := ⟨hP, hD, hS⟩
  refine lv_dup hx hb dX9_init_21 rfl ?_
  refine lv_iconst (v := 3) hx hb dX9_init_22 (by decide) ?_
  refine lv_iconst (v := (-1)) hx hb dX9_init_23 (by decide) ?_
  refine va_iast hx hb hK G.1 G.2.1 G.2.2 1 1 rfl rfl (inb_in (by decide)) dX9_init_24 (fun U locs hP hD hS => ?_)
  have G : Gd D A s [(h0, .inr (9, [.int 0, .int 0, .null, .null, .null, .null, .null, .null, .null, .int 0, .null, .int 0, .int 0, .int 0, .int 0, .int 0, .int 0, .int 0, .int 0, .int 0, .null, .null, .int 0, .null, .null, .null, .int 0])), (q1, .inl (cy 1, 8, .inl (upd (upd (upd (upd (fun _ => 0) 0 (-1)) 1 (-1)) 2 (-1)) 3 (-1))))] _ _ := ⟨hP, hD, hS⟩
  refine lv_dup hx hb dX9_init_25 rfl ?_
  refine lv_iconst (v := 4) hx hb dX9_init_26 (by decide) ?_
  refine lv_iconst (v := (-1)) hx hb dX9_init_27 (by decide) ?_
  refine va_iast hx hb hK G.1 G.2.1 G.2.2 1 1 rfl rfl (inb_in (by decide)) dX9_init_28 (fun U locs hP hD hS => ?_)
  have G : Gd D A s [(h0, .inr (9, [.int 0, .int 0, .null, .null, .null, .null, .null, .null, .null, .int 0, .null, .int 0, .int 0, .int 0, .int 0, .int 0, .int 0, .int 0, .int 0, .int 0, .null, .null, .int 0, .null, .null, .null, .int 0])), (q1, .inl (cy 1, 8, .inl (upd (upd (upd (upd (upd (fun _ => 0) 0 (-1)) 1 (-1)) 2 (-1)) 3 (-1)) 4 (-1))))] _ _ := ⟨hP, hD, hS⟩
  refine lv_dup hx hb dX9_init_29 rfl ?_
  refine lv_iconst (v := 5) hx hb dX9_init_30 (by decide) ?_
  refine lv_iconst (v := (-1)) hx hb dX9_init_31 (by decide) ?_
  refine va_iast hx hb hK G.1 G.2.1 G.2.2 1 1 rfl rfl (inb_in (by decide)) dX9_init_32 (fun U locs hP hD hS => ?_)
  have G : Gd D A s [(h0, .inr (9, [.int 0, .int 0, .null, .null, .null, .null, .null, .null, .null, .int 0, .null, .int 0, .int 0, .int 0, .int 0, .int 0, .int 0, .int 0, .int 0, .int 0, .null, .null, .int 0, .null, .null, .null, .int 0])), (q1, .inl (cy 1, 8, .inl (upd (upd (upd (upd (upd (upd (fun _ => 0) 0 (-1)) 1 (-1)) 2 (-1)) 3 (-1)) 4 (-1)) 5 (-1))))] _ _ := ⟨hP, hD, hS⟩
  refine lv_dup hx hb dX9_init_33 rfl ?_
  refine lv_bipush (v := 6) hx hb dX9_init_34 (by decide) ?_
  refine lv_iconst (v := (-1)) hx hb dX9_init_36 (by decide) ?_
  refine va_iast hx hb hK G.1 G.2.1 G.2.2 1 1 rfl rfl (inb_in (by decide)) dX9_init_37 (fun U locs hP hD hS => ?_)
  have G : Gd D A s [(h0, .inr (9, [.int 0, .int 0, .null, .null, .null, .null, .null, .null, .null, .int 0, .null, .int 0, .int 0, .int 0, .int 0, .int 0, .int 0, .int 0, .int 0, .int 0, .null, .null, .int 0, .null, .null, .null, .int 0])), (q1, .inl (cy 1, 8, .inl (upd (upd (upd (upd (upd (upd (upd (fun _ => 0) 0 (-1)) 1 (-1)) 2 (-1)) 3 (-1)) 4 (-1)) 5 (-1)) 6 (-1))))] _ _ := ⟨hP, hD, hS⟩
  refine lv_dup hx hb dX9_init_38 rfl ?_
  refine lv_bipush (v := 7) hx hb dX9_init_39 (by decide) ?_
  refine lv_iconst (v := (-1)) hx hb dX9_init_41 (by decide) ?_
  refine va_iast hx hb hK G.1 G.2.1 G.2.2 1 1 rfl rfl (inb_in (by decide)) dX9_init_42 (fun U locs hP hD hS => ?_)
  have G : Gd D A s [(h0, .inr (9, [.int 0, .int 0, .null, .null, .null, .null, .null, .null, .null, .int 0, .null, .int 0, .int 0, .int 0, .int 0, .int 0, .int 0, .int 0, .int 0, .int 0, .null, .null, .int 0, .null, .null, .null, .int 0])), (q1, .inl (cy 1, 8, .inl (upd (upd (upd (upd (upd (upd (upd (upd (fun _ => 0) 0 (-1)) 1 (-1)) 2 (-1)) 3 (-1)) 4 (-1)) 5 (-1)) 6 (-1)) 7 (-1))))] _ _ := ⟨hP, hD, hS⟩
  refine va_putF (D := D) (ci := 9) (v := .ref q1) (ty := tyX9 2) (C := RX9) (T := TX9) (N := 27) hx hb hts hiX9 tyX9 tyX9_ok nmX9 hown hK G.1 G.2.1 G.2.2 0 rfl rfl 2 (by decide) lk4 (fun _ h9 => h9) rfl hin rfl (tyX9_ok 2 (by decide)) rfl rfl (Nat.le_of_ble_eq_true rfl) dX9_init_43 (fun U locs hP hD hS => ?_)
  have G : Gd D A s [(h0, .inr (9, [.int 0, .int 0, .ref q1, .null, .null, .null, .null, .null, .null, .int 0, .null, .int 0, .int 0, .int 0, .int 0, .int 0, .int 0, .int 0, .int 0, .int 0, .null, .null, .int 0, .null, .null, .null, .int 0])), (q1, .inl (cy 1, 8, .inl (upd (upd (upd (upd (upd (upd (upd (upd (fun _ => 0) 0 (-1)) 1 (-1)) 2 (-1)) 3 (-1)) 4 (-1)) 5 (-1)) 6 (-1)) 7 (-1))))] _ _ := ⟨hP, hD, hS⟩
  refine lv_aload_n hx hb dX9_init_46 rfl (lv_at hl 0 rfl) ?_
  refine lv_bipush (v := 8) hx hb dX9_init_47 (by decide) ?_
  refine g_newa (atype := .int) (ty := .int) C G 1 lk3 rfl rfl (by intro _ h; cases h) 8 (a0 := (8, .inl (fun _ => 0))) (fun cA => vp_cell_i cA 8 (fun _ => 0)) (by decide) (by decide) (by show 8 * 4 ≤ 536870912; omega) (Nat.le_of_ble_eq_true rfl) (Nat.le_of_ble_eq_true rfl) dX9_init_49 (fun q2 U G => ?_)
  have G : Gd D A s [(h0, .inr (9, [.int 0, .int 0, .ref q1, .null, .null, .null, .null, .null, .null, .int 0, .null, .int 0, .int 0, .int 0, .int 0, .int 0, .int 0, .int 0, .int 0, .int 0, .null, .null, .int 0, .null, .null, .null, .int 0])), (q1, .inl (cy 1, 8, .inl (upd (upd (upd (upd (upd (upd (upd (upd (fun _ => 0) 0 (-1)) 1 (-1)) 2 (-1)) 3 (-1)) 4 (-1)) 5 (-1)) 6 (-1)) 7 (-1)))), (q2, .inl (cy 1, 8, .inl (fun _ => 0)))] _ _ := G
  refine va_putF (D := D) (ci := 9) (v := .ref q2) (ty := tyX9 3) (C := RX9) (T := TX9) (N := 27) hx hb hts hiX9 tyX9 tyX9_ok nmX9 hown hK G.1 G.2.1 G.2.2 0 rfl rfl 3 (by decide) lk5 (fun _ h9 => h9) rfl hin rfl (tyX9_ok 3 (by decide)) rfl rfl (Nat.le_of_ble_eq_true rfl) dX9_init_51 (fun U locs hP hD hS => ?_)
  have G : Gd D A s [(h0, .inr (9, [.int 0, .int 0, .ref q1, .ref q2, .null, .null, .null, .null, .null, .int 0, .null, .int 0, .int 0, .int 0, .int 0, .int 0, .int 0, .int 0, .int 0, .int 0, .null, .null, .int 0, .null, .null, .null, .int 0])), (q1, .inl (cy 1, 8, .inl (upd (upd (upd (upd (upd (upd (upd (upd (fun _ => 0) 0 (-1)) 1 (-1)) 2 (-1)) 3 (-1)) 4 (-1)) 5 (-1)) 6 (-1)) 7 (-1)))), (q2, .inl (cy 1, 8, .inl (fun _ => 0)))] _ _ := ⟨hP, hD, hS⟩
  refine lv_aload_n hx hb dX9_init_54 rfl (lv_at hl 0 rfl) ?_
  refine lv_sipush (v := 320) hx hb dX9_init_55 (by decide) ?_
  refine g_newa (atype := .int) (ty := .int) C G 1 lk3 rfl rfl (by intro _ h; cases h) 320 (a0 := (320, .inl (fun _ => 0))) (fun cA => vp_cell_i cA 320 (fun _ => 0)) (by decide) (by decide) (by show 320 * 4 ≤ 536870912; omega) (Nat.le_of_ble_eq_true rfl) (Nat.le_of_ble_eq_true rfl) dX9_init_58 (fun q3 U G => ?_)
  have G : Gd D A s [(h0, .inr (9, [.int 0, .int 0, .ref q1, .ref q2, .null, .null, .null, .null, .null, .int 0, .null, .int 0, .int 0, .int 0, .int 0, .int 0, .int 0, .int 0, .int 0, .int 0, .null, .null, .int 0, .null, .null, .null, .int 0])), (q1, .inl (cy 1, 8, .inl (upd (upd (upd (upd (upd (upd (upd (upd (fun _ => 0) 0 (-1)) 1 (-1)) 2 (-1)) 3 (-1)) 4 (-1)) 5 (-1)) 6 (-1)) 7 (-1)))), (q2, .inl (cy 1, 8, .inl (fun _ => 0))), (q3, .inl (cy 1, 320, .inl (fun _ => 0)))] _ _ := G
  refine va_putF (D := D) (ci := 9) (v := .ref q3) (ty := tyX9 4) (C := RX9) (T := TX9) (N := 27) hx hb hts hiX9 tyX9 tyX9_ok nmX9 hown hK G.1 G.2.1 G.2.2 0 rfl rfl 4 (by decide) lk6 (fun _ h9 => h9) rfl hin rfl (tyX9_ok 4 (by decide)) rfl rfl (Nat.le_of_ble_eq_true rfl) dX9_init_60 (fun U locs hP hD hS => ?_)
  have G : Gd D A s [(h0, .inr (9, [.int 0, .int 0, .ref q1, .ref q2, .ref q3, .null, .null, .null, .null, .int 0, .null, .int 0, .int 0, .int 0, .int 0, .int 0, .int 0, .int 0, .int 0, .int 0, .null, .null, .int 0, .null, .null, .null, .int 0])), (q1, .inl (cy 1, 8, .inl (upd (upd (upd (upd (upd (upd (upd (upd (fun _ => 0) 0 (-1)) 1 (-1)) 2 (-1)) 3 (-1)) 4 (-1)) 5 (-1)) 6 (-1)) 7 (-1)))), (q2, .inl (cy 1, 8, .inl (fun _ => 0))), (q3, .inl (cy 1, 320, .inl (fun _ => 0)))] _ _ := ⟨hP, hD, hS⟩
  refine lv_aload_n hx hb dX9_init_63 rfl (lv_at hl 0 rfl) ?_
  refine lv_bipush (v := 75) hx hb dX9_init_64 (by decide) ?_
  refine g_newa (atype := .int) (ty := .int) C G 1 lk3 rfl rfl (by intro _ h; cases h) 75 (a0 := (75, .inl (fun _ => 0))) (fun cA => vp_cell_i cA 75 (fun _ => 0)) (by decide) (by decide) (by show 75 * 4 ≤ 536870912; omega) (Nat.le_of_ble_eq_true rfl) (Nat.le_of_ble_eq_true rfl) dX9_init_66 (fun q4 U G => ?_)
  have G : Gd D A s [(h0, .inr (9, [.int 0, .int 0, .ref q1, .ref q2, .ref q3, .null, .null, .null, .null, .int 0, .null, .int 0, .int 0, .int 0, .int 0, .int 0, .int 0, .int 0, .int 0, .int 0, .null, .null, .int 0, .null, .null, .null, .int 0])), (q1, .inl (cy 1, 8, .inl (upd (upd (upd (upd (upd (upd (upd (upd (fun _ => 0) 0 (-1)) 1 (-1)) 2 (-1)) 3 (-1)) 4 (-1)) 5 (-1)) 6 (-1)) 7 (-1)))), (q2, .inl (cy 1, 8, .inl (fun _ => 0))), (q3, .inl (cy 1, 320, .inl (fun _ => 0))), (q4, .inl (cy 1, 75, .inl (fun _ => 0)))] _ _ := G
  refine va_putF (D := D) (ci := 9) (v := .ref q4) (ty := tyX9 5) (C := RX9) (T := TX9) (N := 27) hx hb hts hiX9 tyX9 tyX9_ok nmX9 hown hK G.1 G.2.1 G.2.2 0 rfl rfl 5 (by decide) lk7 (fun _ h9 => h9) rfl hin rfl (tyX9_ok 5 (by decide)) rfl rfl (Nat.le_of_ble_eq_true rfl) dX9_init_68 (fun U locs hP hD hS => ?_)
  have G : Gd D A s [(h0, .inr (9, [.int 0, .int 0, .ref q1, .ref q2, .ref q3, .ref q4, .null, .null, .null, .int 0, .null, .int 0, .int 0, .int 0, .int 0, .int 0, .int 0, .int 0, .int 0, .int 0, .null, .null, .int 0, .null, .null, .null, .int 0])), (q1, .inl (cy 1, 8, .inl (upd (upd (upd (upd (upd (upd (upd (upd (fun _ => 0) 0 (-1)) 1 (-1)) 2 (-1)) 3 (-1)) 4 (-1)) 5 (-1)) 6 (-1)) 7 (-1)))), (q2, .inl (cy 1, 8, .inl (fun _ => 0))), (q3, .inl (cy 1, 320, .inl (fun _ => 0))), (q4, .inl (cy 1, 75, .inl (fun _ => 0)))] _ _ := ⟨hP, hD, hS⟩
  refine lv_aload_n hx hb dX9_init_71 rfl (lv_at hl 0 rfl) ?_
  refine lv_bipush (v := 75) hx hb dX9_init_72 (by decide) ?_
  refine g_newa (atype := .int) (ty := .int) C G 1 lk3 rfl rfl (by intro _ h; cases h) 75 (a0 := (75, .inl (fun _ => 0))) (fun cA => vp_cell_i cA 75 (fun _ => 0)) (by decide) (by decide) (by show 75 * 4 ≤ 536870912; omega) (Nat.le_of_ble_eq_true rfl) (Nat.le_of_ble_eq_true rfl) dX9_init_74 (fun q5 U G => ?_)
  have G : Gd D A s [(h0, .inr (9, [.int 0, .int 0, .ref q1, .ref q2, .ref q3, .ref q4, .null, .null, .null, .int 0, .null, .int 0, .int 0, .int 0, .int 0, .int 0, .int 0, .int 0, .int 0, .int 0, .null, .null, .int 0, .null, .null, .null, .int 0])), (q1, .inl (cy 1, 8, .inl (upd (upd (upd (upd (upd (upd (upd (upd (fun _ => 0) 0 (-1)) 1 (-1)) 2 (-1)) 3 (-1)) 4 (-1)) 5 (-1)) 6 (-1)) 7 (-1)))), (q2, .inl (cy 1, 8, .inl (fun _ => 0))), (q3, .inl (cy 1, 320, .inl (fun _ => 0))), (q4, .inl (cy 1, 75, .inl (fun _ => 0))), (q5, .inl (cy 1, 75, .inl (fun _ => 0)))] _ _ := G
  refine va_putF (D := D) (ci := 9) (v := .ref q5) (ty := tyX9 6) (C := RX9) (T := TX9) (N := 27) hx hb hts hiX9 tyX9 tyX9_ok nmX9 hown hK G.1 G.2.1 G.2.2 0 rfl rfl 6 (by decide) lk8 (fun _ h9 => h9) rfl hin rfl (tyX9_ok 6 (by decide)) rfl rfl (Nat.le_of_ble_eq_true rfl) dX9_init_76 (fun U locs hP hD hS => ?_)
  have G : Gd D A s [(h0, .inr (9, [.int 0, .int 0, .ref q1, .ref q2, .ref q3, .ref q4, .ref q5, .null, .null, .int 0, .null, .int 0, .int 0, .int 0, .int 0, .int 0, .int 0, .int 0, .int 0, .int 0, .null, .null, .int 0, .null, .null, .null, .int 0])), (q1, .inl (cy 1, 8, .inl (upd (upd (upd (upd (upd (upd (upd (upd (fun _ => 0) 0 (-1)) 1 (-1)) 2 (-1)) 3 (-1)) 4 (-1)) 5 (-1)) 6 (-1)) 7 (-1)))), (q2, .inl (cy 1, 8, .inl (fun _ => 0))), (q3, .inl (cy 1, 320, .inl (fun _ => 0))), (q4, .inl (cy 1, 75, .inl (fun _ => 0))), (q5, .inl (cy 1, 75, .inl (fun _ => 0)))] _ _ := ⟨hP, hD, hS⟩
  refine lv_aload_n hx hb dX9_init_79 rfl (lv_at hl 0 rfl) ?_
  refine lv_bipush (v := 75) hx hb dX9_init_80 (by decide) ?_
  refine g_newa (atype := .int) (ty := .int) C G 1 lk3 rfl rfl (by intro _ h; cases h) 75 (a0 := (75, .inl (fun _ => 0))) (fun cA => vp_cell_i cA 75 (fun _ => 0)) (by decide) (by decide) (by show 75 * 4 ≤ 536870912; omega) (Nat.le_of_ble_eq_true rfl) (Nat.le_of_ble_eq_true rfl) dX9_init_82 (fun q6 U G => ?_)
  have G : Gd D A s [(h0, .inr (9, [.int 0, .int 0, .ref q1, .ref q2, .ref q3, .ref q4, .ref q5, .null, .null, .int 0, .null, .int 0, .int 0, .int 0, .int 0, .int 0, .int 0, .int 0, .int 0, .int 0, .null, .null, .int 0, .null, .null, .null, .int 0])), (q1, .inl (cy 1, 8, .inl (upd (upd (upd (upd (upd (upd (upd (upd (fun _ => 0) 0 (-1)) 1 (-1)) 2 (-1)) 3 (-1)) 4 (-1)) 5 (-1)) 6 (-1)) 7 (-1)))), (q2, .inl (cy 1, 8, .inl (fun _ => 0))), (q3, .inl (cy 1, 320, .inl (fun _ => 0))), (q4, .inl (cy 1, 75, .inl (fun _ => 0))), (q5, .inl (cy 1, 75, .inl (fun _ => 0))), (q6, .inl (cy 1, 75, .inl (fun _ => 0)))] _ _ := G
  refine va_putF (D := D) (ci := 9) (v := .ref q6) (ty := tyX9 7) (C := RX9) (T := TX9) (N := 27) hx hb hts hiX9 tyX9 tyX9_ok nmX9 hown hK G.1 G.2.1 G.2.2 0 rfl rfl 7 (by decide) lk9 (fun _ h9 => h9) rfl hin rfl (tyX9_ok 7 (by decide)) rfl rfl (Nat.le_of_ble_eq_true rfl) dX9_init_84 (fun U locs hP hD hS => ?_)
  have G : Gd D A s [(h0, .inr (9, [.int 0, .int 0, .ref q1, .ref q2, .ref q3, .ref q4, .ref q5, .ref q6, .null, .int 0, .null, .int 0, .int 0, .int 0, .int 0, .int 0, .int 0, .int 0, .int 0, .int 0, .null, .null, .int 0, .null, .null, .null, .int 0])), (q1, .inl (cy 1, 8, .inl (upd (upd (upd (upd (upd (upd (upd (upd (fun _ => 0) 0 (-1)) 1 (-1)) 2 (-1)) 3 (-1)) 4 (-1)) 5 (-1)) 6 (-1)) 7 (-1)))), (q2, .inl (cy 1, 8, .inl (fun _ => 0))), (q3, .inl (cy 1, 320, .inl (fun _ => 0))), (q4, .inl (cy 1, 75, .inl (fun _ => 0))), (q5, .inl (cy 1, 75, .inl (fun _ => 0))), (q6, .inl (cy 1, 75, .inl (fun _ => 0)))] _ _ := ⟨hP, hD, hS⟩
  refine lv_aload_n hx hb dX9_init_87 rfl (lv_at hl 0 rfl) ?_
  refine lv_sipush (v := 1800) hx hb dX9_init_88 (by decide) ?_
  refine g_newa (atype := .int) (ty := .int) C G 1 lk3 rfl rfl (by intro _ h; cases h) 1800 (a0 := (1800, .inl (fun _ => 0))) (fun cA => vp_cell_i cA 1800 (fun _ => 0)) (by decide) (by decide) (by show 1800 * 4 ≤ 536870912; omega) (Nat.le_of_ble_eq_true rfl) (Nat.le_of_ble_eq_true rfl) dX9_init_91 (fun q7 U G => ?_)
  have G : Gd D A s [(h0, .inr (9, [.int 0, .int 0, .ref q1, .ref q2, .ref q3, .ref q4, .ref q5, .ref q6, .null, .int 0, .null, .int 0, .int 0, .int 0, .int 0, .int 0, .int 0, .int 0, .int 0, .int 0, .null, .null, .int 0, .null, .null, .null, .int 0])), (q1, .inl (cy 1, 8, .inl (upd (upd (upd (upd (upd (upd (upd (upd (fun _ => 0) 0 (-1)) 1 (-1)) 2 (-1)) 3 (-1)) 4 (-1)) 5 (-1)) 6 (-1)) 7 (-1)))), (q2, .inl (cy 1, 8, .inl (fun _ => 0))), (q3, .inl (cy 1, 320, .inl (fun _ => 0))), (q4, .inl (cy 1, 75, .inl (fun _ => 0))), (q5, .inl (cy 1, 75, .inl (fun _ => 0))), (q6, .inl (cy 1, 75, .inl (fun _ => 0))), (q7, .inl (cy 1, 1800, .inl (fun _ => 0)))] _ _ := G
  refine va_putF (D := D) (ci := 9) (v := .ref q7) (ty := tyX9 8) (C := RX9) (T := TX9) (N := 27) hx hb hts hiX9 tyX9 tyX9_ok nmX9 hown hK G.1 G.2.1 G.2.2 0 rfl rfl 8 (by decide) lk10 (fun _ h9 => h9) rfl hin rfl (tyX9_ok 8 (by decide)) rfl rfl (Nat.le_of_ble_eq_true rfl) dX9_init_93 (fun U locs hP hD hS => ?_)
  have G : Gd D A s [(h0, .inr (9, [.int 0, .int 0, .ref q1, .ref q2, .ref q3, .ref q4, .ref q5, .ref q6, .ref q7, .int 0, .null, .int 0, .int 0, .int 0, .int 0, .int 0, .int 0, .int 0, .int 0, .int 0, .null, .null, .int 0, .null, .null, .null, .int 0])), (q1, .inl (cy 1, 8, .inl (upd (upd (upd (upd (upd (upd (upd (upd (fun _ => 0) 0 (-1)) 1 (-1)) 2 (-1)) 3 (-1)) 4 (-1)) 5 (-1)) 6 (-1)) 7 (-1)))), (q2, .inl (cy 1, 8, .inl (fun _ => 0))), (q3, .inl (cy 1, 320, .inl (fun _ => 0))), (q4, .inl (cy 1, 75, .inl (fun _ => 0))), (q5, .inl (cy 1, 75, .inl (fun _ => 0))), (q6, .inl (cy 1, 75, .inl (fun _ => 0))), (q7, .inl (cy 1, 1800, .inl (fun _ => 0)))] _ _ := ⟨hP, hD, hS⟩
  refine lv_aload_n hx hb dX9_init_96 rfl (lv_at hl 0 rfl) ?_
  refine lv_sipush (v := 400) hx hb dX9_init_97 (by decide) ?_
  refine g_newa (atype := .int) (ty := .int) C G 1 lk3 rfl rfl (by intro _ h; cases h) 400 (a0 := (400, .inl (fun _ => 0))) (fun cA => vp_cell_i cA 400 (fun _ => 0)) (by decide) (by decide) (by show 400 * 4 ≤ 536870912; omega) (Nat.le_of_ble_eq_true rfl) (Nat.le_of_ble_eq_true rfl) dX9_init_100 (fun q8 U G => ?_)
  have G : Gd D A s [(h0, .inr (9, [.int 0, .int 0, .ref q1, .ref q2, .ref q3, .ref q4, .ref q5, .ref q6, .ref q7, .int 0, .null, .int 0, .int 0, .int 0, .int 0, .int 0, .int 0, .int 0, .int 0, .int 0, .null, .null, .int 0, .null, .null, .null, .int 0])), (q1, .inl (cy 1, 8, .inl (upd (upd (upd (upd (upd (upd (upd (upd (fun _ => 0) 0 (-1)) 1 (-1)) 2 (-1)) 3 (-1)) 4 (-1)) 5 (-1)) 6 (-1)) 7 (-1)))), (q2, .inl (cy 1, 8, .inl (fun _ => 0))), (q3, .inl (cy 1, 320, .inl (fun _ => 0))), (q4, .inl (cy 1, 75, .inl (fun _ => 0))), (q5, .inl (cy 1, 75, .inl (fun _ => 0))), (q6, .inl (cy 1, 75, .inl (fun _ => 0))), (q7, .inl (cy 1, 1800, .inl (fun _ => 0))), (q8, .inl (cy 1, 400, .inl (fun _ => 0)))] _ _ := G
  refine va_putF (D := D) (ci := 9) (v := .ref q8) (ty := tyX9 10) (C := RX9) (T := TX9) (N := 27) hx hb hts hiX9 tyX9 tyX9_ok nmX9 hown hK G.1 G.2.1 G.2.2 0 rfl rfl 10 (by decide) lk11 (fun _ h9 => h9) rfl hin rfl (tyX9_ok 10 (by decide)) rfl rfl (Nat.le_of_ble_eq_true rfl) dX9_init_102 (fun U locs hP hD hS => ?_)
  have G : Gd D A s [(h0, .inr (9, [.int 0, .int 0, .ref q1, .ref q2, .ref q3, .ref q4, .ref q5, .ref q6, .ref q7, .int 0, .ref q8, .int 0, .int 0, .int 0, .int 0, .int 0, .int 0, .int 0, .int 0, .int 0, .null, .null, .int 0, .null, .null, .null, .int 0])), (q1, .inl (cy 1, 8, .inl (upd (upd (upd (upd (upd (upd (upd (upd (fun _ => 0) 0 (-1)) 1 (-1)) 2 (-1)) 3 (-1)) 4 (-1)) 5 (-1)) 6 (-1)) 7 (-1)))), (q2, .inl (cy 1, 8, .inl (fun _ => 0))), (q3, .inl (cy 1, 320, .inl (fun _ => 0))), (q4, .inl (cy 1, 75, .inl (fun _ => 0))), (q5, .inl (cy 1, 75, .inl (fun _ => 0))), (q6, .inl (cy 1, 75, .inl (fun _ => 0))), (q7, .inl (cy 1, 1800, .inl (fun _ => 0))), (q8, .inl (cy 1, 400, .inl (fun _ => 0)))] _ _ := ⟨hP, hD, hS⟩
  refine lv_aload_n hx hb dX9_init_105 rfl (lv_at hl 0 rfl) ?_
  refine lv_bipush (v := 6) hx hb dX9_init_106 (by decide) ?_
  refine g_newa (atype := .int) (ty := .int) C G 1 lk3 rfl rfl (by intro _ h; cases h) 6 (a0 := (6, .inl (fun _ => 0))) (fun cA => vp_cell_i cA 6 (fun _ => 0)) (by decide) (by decide) (by show 6 * 4 ≤ 536870912; omega) (Nat.le_of_ble_eq_true rfl) (Nat.le_of_ble_eq_true rfl) dX9_init_108 (fun q9 U G => ?_)
  have G : Gd D A s [(h0, .inr (9, [.int 0, .int 0, .ref q1, .ref q2, .ref q3, .ref q4, .ref q5, .ref q6, .ref q7, .int 0, .ref q8, .int 0, .int 0, .int 0, .int 0, .int 0, .int 0, .int 0, .int 0, .int 0, .null, .null, .int 0, .null, .null, .null, .int 0])), (q1, .inl (cy 1, 8, .inl (upd (upd (upd (upd (upd (upd (upd (upd (fun _ => 0) 0 (-1)) 1 (-1)) 2 (-1)) 3 (-1)) 4 (-1)) 5 (-1)) 6 (-1)) 7 (-1)))), (q2, .inl (cy 1, 8, .inl (fun _ => 0))), (q3, .inl (cy 1, 320, .inl (fun _ => 0))), (q4, .inl (cy 1, 75, .inl (fun _ => 0))), (q5, .inl (cy 1, 75, .inl (fun _ => 0))), (q6, .inl (cy 1, 75, .inl (fun _ => 0))), (q7, .inl (cy 1, 1800, .inl (fun _ => 0))), (q8, .inl (cy 1, 400, .inl (fun _ => 0))), (q9, .inl (cy 1, 6, .inl (fun _ => 0)))] _ _ := G
  refine va_putF (D := D) (ci := 9) (v := .ref q9) (ty := tyX9 20) (C := RX9) (T := TX9) (N := 27) hx hb hts hiX9 tyX9 tyX9_ok nmX9 hown hK G.1 G.2.1 G.2.2 0 rfl rfl 20 (by decide) lk12 (fun _ h9 => h9) rfl hin rfl (tyX9_ok 20 (by decide)) rfl rfl (Nat.le_of_ble_eq_true rfl) dX9_init_110 (fun U locs hP hD hS => ?_)
  have G : Gd D A s [(h0, .inr (9, [.int 0, .int 0, .ref q1, .ref q2, .ref q3, .ref q4, .ref q5, .ref q6, .ref q7, .int 0, .ref q8, .int 0, .int 0, .int 0, .int 0, .int 0, .int 0, .int 0, .int 0, .int 0, .ref q9, .null, .int 0, .null, .null, .null, .int 0])), (q1, .inl (cy 1, 8, .inl (upd (upd (upd (upd (upd (upd (upd (upd (fun _ => 0) 0 (-1)) 1 (-1)) 2 (-1)) 3 (-1)) 4 (-1)) 5 (-1)) 6 (-1)) 7 (-1)))), (q2, .inl (cy 1, 8, .inl (fun _ => 0))), (q3, .inl (cy 1, 320, .inl (fun _ => 0))), (q4, .inl (cy 1, 75, .inl (fun _ => 0))), (q5, .inl (cy 1, 75, .inl (fun _ => 0))), (q6, .inl (cy 1, 75, .inl (fun _ => 0))), (q7, .inl (cy 1, 1800, .inl (fun _ => 0))), (q8, .inl (cy 1, 400, .inl (fun _ => 0))), (q9, .inl (cy 1, 6, .inl (fun _ => 0)))] _ _ := ⟨hP, hD, hS⟩
  refine lv_aload_n hx hb dX9_init_113 rfl (lv_at hl 0 rfl) ?_
  refine lv_bipush (v := 36) hx hb dX9_init_114 (by decide) ?_
  refine g_newa (atype := .int) (ty := .int) C G 1 lk3 rfl rfl (by intro _ h; cases h) 36 (a0 := (36, .inl (fun _ => 0))) (fun cA => vp_cell_i cA 36 (fun _ => 0)) (by decide) (by decide) (by show 36 * 4 ≤ 536870912; omega) (Nat.le_of_ble_eq_true rfl) (Nat.le_of_ble_eq_true rfl) dX9_init_116 (fun q10 U G => ?_)
  have G : Gd D A s [(h0, .inr (9, [.int 0, .int 0, .ref q1, .ref q2, .ref q3, .ref q4, .ref q5, .ref q6, .ref q7, .int 0, .ref q8, .int 0, .int 0, .int 0, .int 0, .int 0, .int 0, .int 0, .int 0, .int 0, .ref q9, .null, .int 0, .null, .null, .null, .int 0])), (q1, .inl (cy 1, 8, .inl (upd (upd (upd (upd (upd (upd (upd (upd (fun _ => 0) 0 (-1)) 1 (-1)) 2 (-1)) 3 (-1)) 4 (-1)) 5 (-1)) 6 (-1)) 7 (-1)))), (q2, .inl (cy 1, 8, .inl (fun _ => 0))), (q3, .inl (cy 1, 320, .inl (fun _ => 0))), (q4, .inl (cy 1, 75, .inl (fun _ => 0))), (q5, .inl (cy 1, 75, .inl (fun _ => 0))), (q6, .inl (cy 1, 75, .inl (fun _ => 0))), (q7, .inl (cy 1, 1800, .inl (fun _ => 0))), (q8, .inl (cy 1, 400, .inl (fun _ => 0))), (q9, .inl (cy 1, 6, .inl (fun _ => 0))), (q10, .inl (cy 1, 36, .inl (fun _ => 0)))] _ _ := G
  refine va_putF (D := D) (ci := 9) (v := .ref q10) (ty := tyX9 21) (C := RX9) (T := TX9) (N := 27) hx hb hts hiX9 tyX9 tyX9_ok nmX9 hown hK G.1 G.2.1 G.2.2 0 rfl rfl 21 (by decide) lk13 (fun _ h9 => h9) rfl hin rfl (tyX9_ok 21 (by decide)) rfl rfl (Nat.le_of_ble_eq_true rfl) dX9_init_118 (fun U locs hP hD hS => ?_)
  have G : Gd D A s [(h0, .inr (9, [.int 0, .int 0, .ref q1, .ref q2, .ref q3, .ref q4, .ref q5, .ref q6, .ref q7, .int 0, .ref q8, .int 0, .int 0, .int 0, .int 0, .int 0, .int 0, .int 0, .int 0, .int 0, .ref q9, .ref q10, .int 0, .null, .null, .null, .int 0])), (q1, .inl (cy 1, 8, .inl (upd (upd (upd (upd (upd (upd (upd (upd (fun _ => 0) 0 (-1)) 1 (-1)) 2 (-1)) 3 (-1)) 4 (-1)) 5 (-1)) 6 (-1)) 7 (-1)))), (q2, .inl (cy 1, 8, .inl (fun _ => 0))), (q3, .inl (cy 1, 320, .inl (fun _ => 0))), (q4, .inl (cy 1, 75, .inl (fun _ => 0))), (q5, .inl (cy 1, 75, .inl (fun _ => 0))), (q6, .inl (cy 1, 75, .inl (fun _ => 0))), (q7, .inl (cy 1, 1800, .inl (fun _ => 0))), (q8, .inl (cy 1, 400, .inl (fun _ => 0))), (q9, .inl (cy 1, 6, .inl (fun _ => 0))), (q10, .inl (cy 1, 36, .inl (fun _ => 0)))] _ _ := ⟨hP, hD, hS⟩
  refine lv_aload_n hx hb dX9_init_121 rfl (lv_at hl 0 rfl) ?_
  refine lv_iconst (v := 2) hx hb dX9_init_122 (by decide) ?_
  refine g_newa (atype := .boolean) (ty := .boolean) C G 2 lk14 rfl rfl (by intro _ h; cases h) 2 (a0 := (2, .inl (fun _ => 0))) (fun cA => vp_cell_i cA 2 (fun _ => 0)) (by decide) (by decide) (by show 2 * 1 ≤ 536870912; omega) (Nat.le_of_ble_eq_true rfl) (Nat.le_of_ble_eq_true rfl) dX9_init_123 (fun q11 U G => ?_)
  have G : Gd D A s [(h0, .inr (9, [.int 0, .int 0, .ref q1, .ref q2, .ref q3, .ref q4, .ref q5, .ref q6, .ref q7, .int 0, .ref q8, .int 0, .int 0, .int 0, .int 0, .int 0, .int 0, .int 0, .int 0, .int 0, .ref q9, .ref q10, .int 0, .null, .null, .null, .int 0])), (q1, .inl (cy 1, 8, .inl (upd (upd (upd (upd (upd (upd (upd (upd (fun _ => 0) 0 (-1)) 1 (-1)) 2 (-1)) 3 (-1)) 4 (-1)) 5 (-1)) 6 (-1)) 7 (-1)))), (q2, .inl (cy 1, 8, .inl (fun _ => 0))), (q3, .inl (cy 1, 320, .inl (fun _ => 0))), (q4, .inl (cy 1, 75, .inl (fun _ => 0))), (q5, .inl (cy 1, 75, .inl (fun _ => 0))), (q6, .inl (cy 1, 75, .inl (fun _ => 0))), (q7, .inl (cy 1, 1800, .inl (fun _ => 0))), (q8, .inl (cy 1, 400, .inl (fun _ => 0))), (q9, .inl (cy 1, 6, .inl (fun _ => 0))), (q10, .inl (cy 1, 36, .inl (fun _ => 0))), (q11, .inl (cy 2, 2, .inl (fun _ => 0)))] _ _ := G
  refine va_putF (D := D) (ci := 9) (v := .ref q11) (ty := tyX9 23) (C := RX9) (T := TX9) (N := 27) hx hb hts hiX9 tyX9 tyX9_ok nmX9 hown hK G.1 G.2.1 G.2.2 0 rfl rfl 23 (by decide) lk15 (fun _ h9 => h9) rfl hin rfl (tyX9_ok 23 (by decide)) rfl rfl (Nat.le_of_ble_eq_true rfl) dX9_init_125 (fun U locs hP hD hS => ?_)
  have G : Gd D A s [(h0, .inr (9, [.int 0, .int 0, .ref q1, .ref q2, .ref q3, .ref q4, .ref q5, .ref q6, .ref q7, .int 0, .ref q8, .int 0, .int 0, .int 0, .int 0, .int 0, .int 0, .int 0, .int 0, .int 0, .ref q9, .ref q10, .int 0, .ref q11, .null, .null, .int 0])), (q1, .inl (cy 1, 8, .inl (upd (upd (upd (upd (upd (upd (upd (upd (fun _ => 0) 0 (-1)) 1 (-1)) 2 (-1)) 3 (-1)) 4 (-1)) 5 (-1)) 6 (-1)) 7 (-1)))), (q2, .inl (cy 1, 8, .inl (fun _ => 0))), (q3, .inl (cy 1, 320, .inl (fun _ => 0))), (q4, .inl (cy 1, 75, .inl (fun _ => 0))), (q5, .inl (cy 1, 75, .inl (fun _ => 0))), (q6, .inl (cy 1, 75, .inl (fun _ => 0))), (q7, .inl (cy 1, 1800, .inl (fun _ => 0))), (q8, .inl (cy 1, 400, .inl (fun _ => 0))), (q9, .inl (cy 1, 6, .inl (fun _ => 0))), (q10, .inl (cy 1, 36, .inl (fun _ => 0))), (q11, .inl (cy 2, 2, .inl (fun _ => 0)))] _ _ := ⟨hP, hD, hS⟩
  refine lv_aload_n hx hb dX9_init_128 rfl (lv_at hl 0 rfl) ?_
  refine lv_sipush (v := 150) hx hb dX9_init_129 (by decide) ?_
  refine g_newa (atype := .int) (ty := .int) C G 1 lk3 rfl rfl (by intro _ h; cases h) 150 (a0 := (150, .inl (fun _ => 0))) (fun cA => vp_cell_i cA 150 (fun _ => 0)) (by decide) (by decide) (by show 150 * 4 ≤ 536870912; omega) (Nat.le_of_ble_eq_true rfl) (Nat.le_of_ble_eq_true rfl) dX9_init_132 (fun q12 U G => ?_)
  have G : Gd D A s [(h0, .inr (9, [.int 0, .int 0, .ref q1, .ref q2, .ref q3, .ref q4, .ref q5, .ref q6, .ref q7, .int 0, .ref q8, .int 0, .int 0, .int 0, .int 0, .int 0, .int 0, .int 0, .int 0, .int 0, .ref q9, .ref q10, .int 0, .ref q11, .null, .null, .int 0])), (q1, .inl (cy 1, 8, .inl (upd (upd (upd (upd (upd (upd (upd (upd (fun _ => 0) 0 (-1)) 1 (-1)) 2 (-1)) 3 (-1)) 4 (-1)) 5 (-1)) 6 (-1)) 7 (-1)))), (q2, .inl (cy 1, 8, .inl (fun _ => 0))), (q3, .inl (cy 1, 320, .inl (fun _ => 0))), (q4, .inl (cy 1, 75, .inl (fun _ => 0))), (q5, .inl (cy 1, 75, .inl (fun _ => 0))), (q6, .inl (cy 1, 75, .inl (fun _ => 0))), (q7, .inl (cy 1, 1800, .inl (fun _ => 0))), (q8, .inl (cy 1, 400, .inl (fun _ => 0))), (q9, .inl (cy 1, 6, .inl (fun _ => 0))), (q10, .inl (cy 1, 36, .inl (fun _ => 0))), (q11, .inl (cy 2, 2, .inl (fun _ => 0))), (q12, .inl (cy 1, 150, .inl (fun _ => 0)))] _ _ := G
  refine va_putF (D := D) (ci := 9) (v := .ref q12) (ty := tyX9 24) (C := RX9) (T := TX9) (N := 27) hx hb hts hiX9 tyX9 tyX9_ok nmX9 hown hK G.1 G.2.1 G.2.2 0 rfl rfl 24 (by decide) lk16 (fun _ h9 => h9) rfl hin rfl (tyX9_ok 24 (by decide)) rfl rfl (Nat.le_of_ble_eq_true rfl) dX9_init_134 (fun U locs hP hD hS => ?_)
  have G : Gd D A s [(h0, .inr (9, [.int 0, .int 0, .ref q1, .ref q2, .ref q3, .ref q4, .ref q5, .ref q6, .ref q7, .int 0, .ref q8, .int 0, .int 0, .int 0, .int 0, .int 0, .int 0, .int 0, .int 0, .int 0, .ref q9, .ref q10, .int 0, .ref q11, .ref q12, .null, .int 0])), (q1, .inl (cy 1, 8, .inl (upd (upd (upd (upd (upd (upd (upd (upd (fun _ => 0) 0 (-1)) 1 (-1)) 2 (-1)) 3 (-1)) 4 (-1)) 5 (-1)) 6 (-1)) 7 (-1)))), (q2, .inl (cy 1, 8, .inl (fun _ => 0))), (q3, .inl (cy 1, 320, .inl (fun _ => 0))), (q4, .inl (cy 1, 75, .inl (fun _ => 0))), (q5, .inl (cy 1, 75, .inl (fun _ => 0))), (q6, .inl (cy 1, 75, .inl (fun _ => 0))), (q7, .inl (cy 1, 1800, .inl (fun _ => 0))), (q8, .inl (cy 1, 400, .inl (fun _ => 0))), (q9, .inl (cy 1, 6, .inl (fun _ => 0))), (q10, .inl (cy 1, 36, .inl (fun _ => 0))), (q11, .inl (cy 2, 2, .inl (fun _ => 0))), (q12, .inl (cy 1, 150, .inl (fun _ => 0)))] _ _ := ⟨hP, hD, hS⟩
  refine lv_aload_n hx hb dX9_init_137 rfl (lv_at hl 0 rfl) ?_
  refine lv_bipush (v := 16) hx hb dX9_init_138 (by decide) ?_
  refine g_newa (atype := .int) (ty := .int) C G 1 lk3 rfl rfl (by intro _ h; cases h) 16 (a0 := (16, .inl (fun _ => 0))) (fun cA => vp_cell_i cA 16 (fun _ => 0)) (by decide) (by decide) (by show 16 * 4 ≤ 536870912; omega) (Nat.le_of_ble_eq_true rfl) (Nat.le_of_ble_eq_true rfl) dX9_init_140 (fun q13 U G => ?_)
  have G : Gd D A s [(h0, .inr (9, [.int 0, .int 0, .ref q1, .ref q2, .ref q3, .ref q4, .ref q5, .ref q6, .ref q7, .int 0, .ref q8, .int 0, .int 0, .int 0, .int 0, .int 0, .int 0, .int 0, .int 0, .int 0, .ref q9, .ref q10, .int 0, .ref q11, .ref q12, .null, .int 0])), (q1, .inl (cy 1, 8, .inl (upd (upd (upd (upd (upd (upd (upd (upd (fun _ => 0) 0 (-1)) 1 (-1)) 2 (-1)) 3 (-1)) 4 (-1)) 5 (-1)) 6 (-1)) 7 (-1)))), (q2, .inl (cy 1, 8, .inl (fun _ => 0))), (q3, .inl (cy 1, 320, .inl (fun _ => 0))), (q4, .inl (cy 1, 75, .inl (fun _ => 0))), (q5, .inl (cy 1, 75, .inl (fun _ => 0))), (q6, .inl (cy 1, 75, .inl (fun _ => 0))), (q7, .inl (cy 1, 1800, .inl (fun _ => 0))), (q8, .inl (cy 1, 400, .inl (fun _ => 0))), (q9, .inl (cy 1, 6, .inl (fun _ => 0))), (q10, .inl (cy 1, 36, .inl (fun _ => 0))), (q11, .inl (cy 2, 2, .inl (fun _ => 0))), (q12, .inl (cy 1, 150, .inl (fun _ => 0))), (q13, .inl (cy 1, 16, .inl (fun _ => 0)))] _ _ := G
  refine va_putF (D := D) (ci := 9) (v := .ref q13) (ty := tyX9 25) (C := RX9) (T := TX9) (N := 27) hx hb hts hiX9 tyX9 tyX9_ok nmX9 hown hK G.1 G.2.1 G.2.2 0 rfl rfl 25 (by decide) lk17 (fun _ h9 => h9) rfl hin rfl (tyX9_ok 25 (by decide)) rfl rfl (Nat.le_of_ble_eq_true rfl) dX9_init_142 (fun U locs hP hD hS => ?_)
  have G : Gd D A s [(h0, .inr (9, [.int 0, .int 0, .ref q1, .ref q2, .ref q3, .ref q4, .ref q5, .ref q6, .ref q7, .int 0, .ref q8, .int 0, .int 0, .int 0, .int 0, .int 0, .int 0, .int 0, .int 0, .int 0, .ref q9, .ref q10, .int 0, .ref q11, .ref q12, .ref q13, .int 0])), (q1, .inl (cy 1, 8, .inl (upd (upd (upd (upd (upd (upd (upd (upd (fun _ => 0) 0 (-1)) 1 (-1)) 2 (-1)) 3 (-1)) 4 (-1)) 5 (-1)) 6 (-1)) 7 (-1)))), (q2, .inl (cy 1, 8, .inl (fun _ => 0))), (q3, .inl (cy 1, 320, .inl (fun _ => 0))), (q4, .inl (cy 1, 75, .inl (fun _ => 0))), (q5, .inl (cy 1, 75, .inl (fun _ => 0))), (q6, .inl (cy 1, 75, .inl (fun _ => 0))), (q7, .inl (cy 1, 1800, .inl (fun _ => 0))), (q8, .inl (cy 1, 400, .inl (fun _ => 0))), (q9, .inl (cy 1, 6, .inl (fun _ => 0))), (q10, .inl (cy 1, 36, .inl (fun _ => 0))), (q11, .inl (cy 2, 2, .inl (fun _ => 0))), (q12, .inl (cy 1, 150, .inl (fun _ => 0))), (q13, .inl (cy 1, 16, .inl (fun _ => 0)))] _ _ := ⟨hP, hD, hS⟩
  exact ret_N C G (adl [h0, q1, q2, q3, q4, q5, q6, q7, q8, q9, q10, q11, q12, q13]) rfl rfl dX9_init_145
