theorem perm_top (a b1 b2 f r : va_W) : ((((a ++ b1) ++ b2)) ++ (f ++ r)).Perm (((a ++ f) ++ (b1 ++ (b2 ++ []))) ++ r) := by
  rw [List.append_nil, ← List.append_assoc ((a ++ b1) ++ b2) f r, List.append_assoc a b1 b2]
  exact List.Perm.append_right r (perm_sw a (b1 ++ b2) f)
abbrev cT : Type := (Nat → Nat) × (Nat → Nat → Nat) × (Nat → Nat → Nat) × (Nat → Nat → Nat) × (Nat → Option Nat) × (Nat → Option Nat) × (Nat → Option Nat)
abbrev poT (h0 : Nat) : cT → Prop := fun u => u.1 0 = h0 ∧ (∀ k, k < 8 → u.2.2.2.2.1 k = some (u.2.1 k 0)) ∧ (∀ k, k < 2 → u.2.2.2.2.2.1 k = some (u.2.2.1 k 0)) ∧ ∀ k, k < 24 → u.2.2.2.2.2.2 k = some (u.2.2.2.1 k 0)
abbrev wT (cy : Nat → ClassId) : cT → va_W := fun u => ((w_Top cy u.1 u.2.2.2.2.1 u.2.2.2.2.2.1 u.2.2.2.2.2.2 0 0 lanF (fun _ => 0) 0 0 0 0 0 0 (fun _ => 0) 0 (fun _ => 0) (fun _ => 0) (fun _ => 0) (fun _ => 0) 0 0 (fun _ => 0) (fun _ => 0) (fun _ => 0) (fun _ => 0) 0 (fun _ => 0) (fun _ => 0) (fun _ => 0) 0 0 0 (fun _ => 0) (fun _ => 0) (fun _ => 0) 0 (fun _ => 0) (fun _ => 0) (fun _ => 0) (fun _ => 0) 0 (fun _ => 0) ++ w_FItm cy u.2.1 (fun _ _ => 0)) ++ w_FImg cy u.2.2.1 (fun _ => 0) (fun _ => 0) (fun _ _ => 0) (fun _ _ => 0) (fun _ _ => 0) (fun _ _ => 0) (fun _ => 0) (fun _ _ => 0) (fun _ _ => 0) (fun _ _ => 0)) ++ w_FRing cy u.2.2.2.1 (fun _ => 0) (fun _ _ => 0) (fun _ _ => 0) (fun _ _ => 0)
set_option maxHeartbeats 4000000 in
set_option maxRecDepth 100000 in
theorem c_X8_init (l : Launch) (D : va_G) (cy : Nat → ClassId) (h0 : Nat) : MN l yX8_init wsX8_init ({ frames := 3, cells := 159, slots := 2435, locals := 81 } : Room) D cy [.ref h0] [(h0, .inr (8, [.null, .null, .null, .null, .null, .null, .null, .null, .null, .int 0, .int 0]))] 159 2435 (poT h0) (wT cy) := by
  refine met_startN (cc := cX8_init) (nL := 2) (ret := none) RX8 rfl rfl (by decide) rfl (Nat.le_of_ble_eq_true rfl) ?_
  intro p e s m below meth c A ls C hN hin G hl
  have hl : lv_has ls 2 [(0, .ref h0)] := hl
  obtain ⟨hx, hb, hr, hml, hown, hts, hlk, hK, hA, hE⟩ := id C
  have lk0 := hts (Cond.methodLink RX8 1 objectInit) (List.mem_of_getElem? (i := 1) rfl)
  have lk1 := hts (Cond.instanceMethod objectInit) (List.mem_of_getElem? (i := 2) rfl)
  have lk2 := hts (Cond.code objectInit ⟨#[0xb1]⟩ 1 none) (List.mem_of_getElem? (i := 3) rfl)
  have lk3 := hts (Cond.classLink RX8 7 RX6) (List.mem_of_getElem? (i := 4) rfl)
  have lk4 := hts (Cond.instantiable RX6 3) (List.mem_of_getElem? (i := 5) rfl)
  have lk5 := hts (Cond.initialized RX6) (List.mem_of_getElem? (i := 6) rfl)
  have lk6 := hts (Cond.methodLink RX8 9 yX6_init) (List.mem_of_getElem? (i := 37) rfl)
  have lk7 := hts (Cond.instanceMethod yX6_init) (List.mem_of_getElem? (i := 38) rfl)
  have lk8 := hts (Cond.fieldLink RX8 10 "TideDebts" "rows" "LTideDebts$Rows;") (List.mem_of_getElem? (i := 7) rfl)
  have lk9 := hts (Cond.classLink RX8 16 RX7) (List.mem_of_getElem? (i := 8) rfl)
  have lk10 := hts (Cond.instantiable RX7 7) (List.mem_of_getElem? (i := 9) rfl)
  have lk11 := hts (Cond.initialized RX7) (List.mem_of_getElem? (i := 10) rfl)
  have lk12 := hts (Cond.instanceMethod yX7_init) (List.mem_of_getElem? (i := 50) rfl)
  have lk13 := hts (Cond.fieldLink RX8 19 "TideDebts" "tape" "LTideDebts$Tape;") (List.mem_of_getElem? (i := 11) rfl)
  have lk14 := hts (Cond.classLink RX8 23 RX2) (List.mem_of_getElem? (i := 12) rfl)
  have lk15 := hts (Cond.instantiable RX2 5) (List.mem_of_getElem? (i := 13) rfl)
  have lk16 := hts (Cond.initialized RX2) (List.mem_of_getElem? (i := 14) rfl)
  have lk17 := hts (Cond.instanceMethod yX2_init) (List.mem_of_getElem? (i := 55) rfl)
  have lk18 := hts (Cond.fieldLink RX8 26 "TideDebts" "draft" "LTideDebts$Chart;") (List.mem_of_getElem? (i := 15) rfl)
  have lk19 := hts (Cond.classLink RX8 30 RX1) (List.mem_of_getElem? (i := 16) rfl)
  have lk20 := hts (Cond.instantiable RX1 3) (List.mem_of_getElem? (i := 17) rfl)
  have lk21 := hts (Cond.initialized RX1) (List.mem_of_getElem? (i := 18) rfl)
  have lk22 := hts (Cond.instanceMethod yX1_init) (List.mem_of_getElem? (i := 62) rfl)
  have lk23 := hts (Cond.fieldLink RX8 33 "TideDebts" "now" "LTideDebts$Bay;") (List.mem_of_getElem? (i := 19) rfl)
  have lk24 := hts (Cond.fieldLink RX8 37 "TideDebts" "images" "[LTideDebts$Bay;") (List.mem_of_getElem? (i := 20) rfl)
  have lk25 := hts (Cond.classLink RX8 41 RX5) (List.mem_of_getElem? (i := 21) rfl)
  have lk26 := hts (Cond.instantiable RX5 3) (List.mem_of_getElem? (i := 22) rfl)
  have lk27 := hts (Cond.initialized RX5) (List.mem_of_getElem? (i := 23) rfl)
  have lk28 := hts (Cond.methodLink RX8 43 yX5_init) (List.mem_of_getElem? (i := 75) rfl)
  have lk29 := hts (Cond.instanceMethod yX5_init) (List.mem_of_getElem? (i := 76) rfl)
  have lk30 := hts (Cond.fieldLink RX8 44 "TideDebts" "past" "LTideDebts$Past;") (List.mem_of_getElem? (i := 24) rfl)
  have lk31 := hts (Cond.classLink RX8 48 RX3) (List.mem_of_getElem? (i := 25) rfl)
  have lk32 := hts (Cond.instantiable RX3 4) (List.mem_of_getElem? (i := 26) rfl)
  have lk33 := hts (Cond.initialized RX3) (List.mem_of_getElem? (i := 27) rfl)
  have lk34 := hts (Cond.instanceMethod yX3_init) (List.mem_of_getElem? (i := 69) rfl)
  have lk35 := hts (Cond.fieldLink RX8 51 "TideDebts" "foretold" "LTideDebts$Ledger;") (List.mem_of_getElem? (i := 28) rfl)
  have lk36 := hts (Cond.classLink RX8 55 RX4) (List.mem_of_getElem? (i := 29) rfl)
  have lk37 := hts (Cond.instantiable RX4 5) (List.mem_of_getElem? (i := 30) rfl)
  have lk38 := hts (Cond.initialized RX4) (List.mem_of_getElem? (i := 31) rfl)
  have lk39 := hts (Cond.instanceMethod yX4_init) (List.mem_of_getElem? (i := 81) rfl)
  have lk40 := hts (Cond.fieldLink RX8 58 "TideDebts" "netting" "LTideDebts$Netting;") (List.mem_of_getElem? (i := 32) rfl)
  have lk41 := hts (Cond.classLink RX8 62 RX0) (List.mem_of_getElem? (i := 33) rfl)
  have lk42 := hts (Cond.instantiable RX0 2) (List.mem_of_getElem? (i := 34) rfl)
  have lk43 := hts (Cond.initialized RX0) (List.mem_of_getElem? (i := 35) rfl)
  have lk44 := hts (Cond.instanceMethod yX0_init) (List.mem_of_getElem? (i := 88) rfl)
  have lk45 := hts (Cond.fieldLink RX8 65 "TideDebts" "asker" "LTideDebts$Asker;") (List.mem_of_getElem? (i := 36) rfl)
  have hiX0 : ∀ w ∈ u_ws RX0 TX0 2, w ∈ wsX8_init := fun _ h => List.mem_cons_of_mem _ (List.mem_append_right _ h)
  have hiX1 : ∀ w ∈ u_ws RX1 TX1 3, w ∈ wsX8_init := fun _ h => List.mem_cons_of_mem _ (List.mem_append_left _ (List.mem_append_left _ (List.mem_append_left _ (List.mem_append_left _ (List.mem_append_right _ h)))))
  have hiX2 : ∀ w ∈ u_ws RX2 TX2 5, w ∈ wsX8_init := fun _ h => List.mem_cons_of_mem _ (List.mem_append_left _ (List.mem_append_left _ (List.mem_append_left _ (List.mem_append_left _ (List.mem_append_left _ (List.mem_append_right _ h))))))
  have hiX3 : ∀ w ∈ u_ws RX3 TX3 4, w ∈ wsX8_init := fun _ h => List.mem_cons_of_mem _ (List.mem_append_left _ (List.mem_append_left _ (List.mem_append_right _ h)))
  have hiX4 : ∀ w ∈ u_ws RX4 TX4 5, w ∈ wsX8_init := fun _ h => List.mem_cons_of_mem _ (List.mem_append_left _ (List.mem_append_right _ h))
  have hiX5 : ∀ w ∈ u_ws RX5 TX5 3, w ∈ wsX8_init := fun _ h => List.mem_cons_of_mem _ (List.mem_append_left _ (List.mem_append_left _ (List.mem_append_left _ (List.mem_append_right _ h))))
  have hiX6 : ∀ w ∈ u_ws RX6 TX6 3, w ∈ wsX8_init := fun _ h => List.mem_cons_of_mem _ (List.mem_append_left _ (List.mem_append_left _ (List.mem_append_left _ (List.mem_append_left _ (List.mem_append_left _ (List.mem_append_left _ (List.mem_append_left _ (List.mem_append_left _ (List.mem_append_right _ h)))))))))
  have hiX7 : ∀ w ∈ u_ws RX7 TX7 7, w ∈ wsX8_init := fun _ h => List.mem_cons_of_mem _ (List.mem_append_left _ (List.mem_append_left _ (List.mem_append_left _ (List.mem_append_left _ (List.mem_append_left _ (List.mem_append_left _ (List.mem_append_right _ h)))))))
  have hiX8 : ∀ w ∈ u_ws RX8 TX8 11, w ∈ wsX8_init := fun _ h => List.mem_cons_of_mem _ (List.mem_append_left _ (List.mem_append_left _ (List.mem_append_left _ (List.mem_append_left _ (List.mem_append_left _ (List.mem_append_left _ (List.mem_append_left _ (List.mem_append_right _ h))))))))
  refine lv_aload_n hx hb dX8_init_0 rfl (lv_at hl 0 rfl) ?_
  refine W.objInit hx hb hown lk0 lk1 lk2 rfl (by rw [hml]; exact hl.1) rfl dX8_init_1 (Nat.le_of_ble_eq_true rfl) (Nat.le_of_ble_eq_true rfl) ?_
  refine W.eq (g2 := F0 m 4 ls []) rfl ?_
  refine lv_aload_n hx hb dX8_init_4 rfl (lv_at hl 0 rfl) ?_
  refine va_new (ci := 6) (fs := [.null, .null, .null]) (C := RX6) (T := TX6) (N := 3) hx hb hts hiX6 tyX6 tyX6_ok hown lk3 lk4 lk5 hK G.1 G.2.1 G.2.2 hA rfl (fun j hj => by rcases (show j = 0 ∨ j = 1 ∨ j = 2 by omega) with rfl | rfl | rfl <;> rfl) (Nat.le_of_ble_eq_true rfl) (Nat.le_of_ble_eq_true rfl) dX8_init_5 (fun q1 U hP hD hS => ?_)
  have G : Gd D A s ([(h0, .inr (8, [.null, .null, .null, .null, .null, .null, .null, .null, .null, .int 0, .int 0]))] ++ [(q1, .inr (6, [.null, .null, .null]))]) _ _ := ⟨hP, hD, hS⟩
  refine lv_dup hx hb dX8_init_8 rfl ?_
  refine MN.callI [.ref q1, .ref h0] C hN G (c_X6_init l D cy q1) gX8_init_X6_init rfl rfl rfl lk5 lk6 lk7 rfl (by decide +kernel) ⟨Nat.le_of_ble_eq_true rfl, Nat.le_of_ble_eq_true rfl⟩ hl.1 rfl (Nat.le_of_ble_eq_true rfl) dX8_init_9 ⟨Nat.le_of_ble_eq_true rfl, Nat.le_of_ble_eq_true rfl⟩ (fun u1 U locs hu G2 => ?_)
  obtain ⟨uR, iA, GI⟩ := u1
  obtain ⟨hu1, hGI⟩ := hu
  dsimp only at hu1 hGI G2
  subst hu1
  rw [← List.append_assoc] at G2
  generalize hFI : w_FItm cy iA (fun _ _ => 0) = FI at G2
  have G : Gd D A s (([(h0, .inr (8, [.null, .null, .null, .null, .null, .null, .null, .null, .null, .int 0, .int 0]))] ++ w_Rows cy uR GI lanF (fun _ => 0)) ++ FI) _ _ := G2
  refine va_putF (D := D) (ci := 8) (v := .ref (uR 0)) (ty := tyX8 0) (C := RX8) (T := TX8) (N := 11) hx hb hts hiX8 tyX8 tyX8_ok nmX8 hown hK G.1 G.2.1 G.2.2 0 rfl rfl 0 (by decide) lk8 (fun _ h9 => h9) rfl hin rfl (tyX8_ok 0 (by decide)) rfl rfl (Nat.le_of_ble_eq_true rfl) dX8_init_12 (fun U locs hP hD hS => ?_)
  have G : Gd D A s (([(h0, .inr (8, [.ref (uR 0), .null, .null, .null, .null, .null, .null, .null, .null, .int 0, .int 0]))] ++ w_Rows cy uR GI lanF (fun _ => 0)) ++ FI) _ _ := ⟨hP, hD, hS⟩
  refine lv_aload_n hx hb dX8_init_15 rfl (lv_at hl 0 rfl) ?_
  refine va_new (ci := 7) (fs := [.null, .int 0, .int 0, .int 0, .int 0, .int 0, .int 0]) (C := RX7) (T := TX7) (N := 7) hx hb hts hiX7 tyX7 tyX7_ok hown lk9 lk10 lk11 hK G.1 G.2.1 G.2.2 hA rfl (fun j hj => by rcases (show j = 0 ∨ j = 1 ∨ j = 2 ∨ j = 3 ∨ j = 4 ∨ j = 5 ∨ j = 6 by omega) with rfl | rfl | rfl | rfl | rfl | rfl | rfl <;> rfl) (Nat.le_of_ble_eq_true rfl) (Nat.le_of_ble_eq_true rfl) dX8_init_16 (fun q2 U hP hD hS => ?_)
  have G : Gd D A s ((([(h0, .inr (8, [.ref (uR 0), .null, .null, .null, .null, .null, .null, .null, .null, .int 0, .int 0]))] ++ w_Rows cy uR GI lanF (fun _ => 0)) ++ FI) ++ [(q2, .inr (7, [.null, .int 0, .int 0, .int 0, .int 0, .int 0, .int 0]))]) _ _ := ⟨hP, hD, hS⟩
  refine lv_dup hx hb dX8_init_19 rfl ?_
  refine MN.callIN [.ref q2, .ref h0] C hN G (c_X7_init l D cy q2) gX8_init_X7_init_n18 rfl rfl rfl (hN.2.1.1) lk11 lk12 rfl (by decide +kernel) ⟨Nat.le_of_ble_eq_true rfl, Nat.le_of_ble_eq_true rfl⟩ hl.1 rfl (Nat.le_of_ble_eq_true rfl) dX8_init_20 ⟨Nat.le_of_ble_eq_true rfl, Nat.le_of_ble_eq_true rfl⟩ (fun u2 U locs hu G2 => ?_)
  subst hu
  have G2 := G2.perm (perm_sw _ _ _)
  have G : Gd D A s (([(h0, .inr (8, [.ref (uR 0), .null, .null, .null, .null, .null, .null, .null, .null, .int 0, .int 0]))] ++ w_Rows cy uR GI lanF (fun _ => 0) ++ w_Tape cy u2 0 0 0 0 0 0 (fun _ => 0)) ++ FI) _ _ := G2
  refine va_putF (D := D) (ci := 8) (v := .ref (u2 0)) (ty := tyX8 1) (C := RX8) (T := TX8) (N := 11) hx hb hts hiX8 tyX8 tyX8_ok nmX8 hown hK G.1 G.2.1 G.2.2 0 rfl rfl 1 (by decide) lk13 (fun _ h9 => h9) rfl hin rfl (tyX8_ok 1 (by decide)) rfl rfl (Nat.le_of_ble_eq_true rfl) dX8_init_23 (fun U locs hP hD hS => ?_)
  have G : Gd D A s (([(h0, .inr (8, [.ref (uR 0), .ref (u2 0), .null, .null, .null, .null, .null, .null, .null, .int 0, .int 0]))] ++ w_Rows cy uR GI lanF (fun _ => 0) ++ w_Tape cy u2 0 0 0 0 0 0 (fun _ => 0)) ++ FI) _ _ := ⟨hP, hD, hS⟩
  refine lv_aload_n hx hb dX8_init_26 rfl (lv_at hl 0 rfl) ?_
  refine va_new (ci := 2) (fs := [.null, .null, .null, .null, .int 0]) (C := RX2) (T := TX2) (N := 5) hx hb hts hiX2 tyX2 tyX2_ok hown lk14 lk15 lk16 hK G.1 G.2.1 G.2.2 hA rfl (fun j hj => by rcases (show j = 0 ∨ j = 1 ∨ j = 2 ∨ j = 3 ∨ j = 4 by omega) with rfl | rfl | rfl | rfl | rfl <;> rfl) (Nat.le_of_ble_eq_true rfl) (Nat.le_of_ble_eq_true rfl) dX8_init_27 (fun q3 U hP hD hS => ?_)
  have G : Gd D A s ((([(h0, .inr (8, [.ref (uR 0), .ref (u2 0), .null, .null, .null, .null, .null, .null, .null, .int 0, .int 0]))] ++ w_Rows cy uR GI lanF (fun _ => 0) ++ w_Tape cy u2 0 0 0 0 0 0 (fun _ => 0)) ++ FI) ++ [(q3, .inr (2, [.null, .null, .null, .null, .int 0]))]) _ _ := ⟨hP, hD, hS⟩
  refine lv_dup hx hb dX8_init_30 rfl ?_
  refine MN.callIN [.ref q3, .ref h0] C hN G (c_X2_init l D cy q3) gX8_init_X2_init_n25 rfl rfl rfl (hN.2.1.2.1) lk16 lk17 rfl (by decide +kernel) ⟨Nat.le_of_ble_eq_true rfl, Nat.le_of_ble_eq_true rfl⟩ hl.1 rfl (Nat.le_of_ble_eq_true rfl) dX8_init_31 ⟨Nat.le_of_ble_eq_true rfl, Nat.le_of_ble_eq_true rfl⟩ (fun u3 U locs hu G2 => ?_)
  subst hu
  have G2 := G2.perm (perm_sw _ _ _)
  have G : Gd D A s (([(h0, .inr (8, [.ref (uR 0), .ref (u2 0), .null, .null, .null, .null, .null, .null, .null, .int 0, .int 0]))] ++ w_Rows cy uR GI lanF (fun _ => 0) ++ w_Tape cy u2 0 0 0 0 0 0 (fun _ => 0) ++ w_Ch cy u3 0 (fun _ => 0) (fun _ => 0) (fun _ => 0) (fun _ => 0)) ++ FI) _ _ := G2
  refine va_putF (D := D) (ci := 8) (v := .ref (u3 0)) (ty := tyX8 2) (C := RX8) (T := TX8) (N := 11) hx hb hts hiX8 tyX8 tyX8_ok nmX8 hown hK G.1 G.2.1 G.2.2 0 rfl rfl 2 (by decide) lk18 (fun _ h9 => h9) rfl hin rfl (tyX8_ok 2 (by decide)) rfl rfl (Nat.le_of_ble_eq_true rfl) dX8_init_34 (fun U locs hP hD hS => ?_)
  have G : Gd D A s (([(h0, .inr (8, [.ref (uR 0), .ref (u2 0), .ref (u3 0), .null, .null, .null, .null, .null, .null, .int 0, .int 0]))] ++ w_Rows cy uR GI lanF (fun _ => 0) ++ w_Tape cy u2 0 0 0 0 0 0 (fun _ => 0) ++ w_Ch cy u3 0 (fun _ => 0) (fun _ => 0) (fun _ => 0) (fun _ => 0)) ++ FI) _ _ := ⟨hP, hD, hS⟩
  refine lv_aload_n hx hb dX8_init_37 rfl (lv_at hl 0 rfl) ?_
  refine va_new (ci := 1) (fs := [.null, .null, .int 0]) (C := RX1) (T := TX1) (N := 3) hx hb hts hiX1 tyX1 tyX1_ok hown lk19 lk20 lk21 hK G.1 G.2.1 G.2.2 hA rfl (fun j hj => by rcases (show j = 0 ∨ j = 1 ∨ j = 2 by omega) with rfl | rfl | rfl <;> rfl) (Nat.le_of_ble_eq_true rfl) (Nat.le_of_ble_eq_true rfl) dX8_init_38 (fun q4 U hP hD hS => ?_)
  have G : Gd D A s ((([(h0, .inr (8, [.ref (uR 0), .ref (u2 0), .ref (u3 0), .null, .null, .null, .null, .null, .null, .int 0, .int 0]))] ++ w_Rows cy uR GI lanF (fun _ => 0) ++ w_Tape cy u2 0 0 0 0 0 0 (fun _ => 0) ++ w_Ch cy u3 0 (fun _ => 0) (fun _ => 0) (fun _ => 0) (fun _ => 0)) ++ FI) ++ [(q4, .inr (1, [.null, .null, .int 0]))]) _ _ := ⟨hP, hD, hS⟩
  refine lv_dup hx hb dX8_init_41 rfl ?_
  refine MN.callIN [.ref q4, .ref h0] C hN G (c_X1_init l D cy q4) gX8_init_X1_init_n32 rfl rfl rfl (hN.2.1.2.2.1) lk21 lk22 rfl (by decide +kernel) ⟨Nat.le_of_ble_eq_true rfl, Nat.le_of_ble_eq_true rfl⟩ hl.1 rfl (Nat.le_of_ble_eq_true rfl) dX8_init_42 ⟨Nat.le_of_ble_eq_true rfl, Nat.le_of_ble_eq_true rfl⟩ (fun u4 U locs hu G2 => ?_)
  subst hu
  have G2 := G2.perm (perm_sw _ _ _)
  have G : Gd D A s (([(h0, .inr (8, [.ref (uR 0), .ref (u2 0), .ref (u3 0), .null, .null, .null, .null, .null, .null, .int 0, .int 0]))] ++ w_Rows cy uR GI lanF (fun _ => 0) ++ w_Tape cy u2 0 0 0 0 0 0 (fun _ => 0) ++ w_Ch cy u3 0 (fun _ => 0) (fun _ => 0) (fun _ => 0) (fun _ => 0) ++ w_BA cy u4 0 0 (fun _ => 0) (fun _ => 0) (fun _ => 0) (fun _ => 0) 0 (fun _ => 0) (fun _ => 0) (fun _ => 0)) ++ FI) _ _ := G2
  refine va_putF (D := D) (ci := 8) (v := .ref (u4 0)) (ty := tyX8 3) (C := RX8) (T := TX8) (N := 11) hx hb hts hiX8 tyX8 tyX8_ok nmX8 hown hK G.1 G.2.1 G.2.2 0 rfl rfl 3 (by decide) lk23 (fun _ h9 => h9) rfl hin rfl (tyX8_ok 3 (by decide)) rfl rfl (Nat.le_of_ble_eq_true rfl) dX8_init_45 (fun U locs hP hD hS => ?_)
  have G : Gd D A s (([(h0, .inr (8, [.ref (uR 0), .ref (u2 0), .ref (u3 0), .ref (u4 0), .null, .null, .null, .null, .null, .int 0, .int 0]))] ++ w_Rows cy uR GI lanF (fun _ => 0) ++ w_Tape cy u2 0 0 0 0 0 0 (fun _ => 0) ++ w_Ch cy u3 0 (fun _ => 0) (fun _ => 0) (fun _ => 0) (fun _ => 0) ++ w_BA cy u4 0 0 (fun _ => 0) (fun _ => 0) (fun _ => 0) (fun _ => 0) 0 (fun _ => 0) (fun _ => 0) (fun _ => 0)) ++ FI) _ _ := ⟨hP, hD, hS⟩
  refine lv_aload_n hx hb dX8_init_48 rfl (lv_at hl 0 rfl) ?_
  refine lv_iconst (v := 2) hx hb dX8_init_49 (by decide) ?_
  refine g_newq C G 3 lk19 hN.1.2.1 rfl 2 (by decide) (by decide) (by omega) (Nat.le_of_ble_eq_true rfl) (Nat.le_of_ble_eq_true rfl) dX8_init_50 (fun q5 U G => ?_)
  have G := G.perm (perm_sw _ _ _)
  have G : Gd D A s (([(h0, .inr (8, [.ref (uR 0), .ref (u2 0), .ref (u3 0), .ref (u4 0), .null, .null, .null, .null, .null, .int 0, .int 0]))] ++ w_Rows cy uR GI lanF (fun _ => 0) ++ w_Tape cy u2 0 0 0 0 0 0 (fun _ => 0) ++ w_Ch cy u3 0 (fun _ => 0) (fun _ => 0) (fun _ => 0) (fun _ => 0) ++ w_BA cy u4 0 0 (fun _ => 0) (fun _ => 0) (fun _ => 0) (fun _ => 0) 0 (fun _ => 0) (fun _ => 0) (fun _ => 0) ++ [(q5, .inl (cy 3, 2, .inr (.inr (.inr (.inr (fun _ => none))))))]) ++ FI) _ _ := G
  refine va_putF (D := D) (ci := 8) (v := .ref q5) (ty := tyX8 4) (C := RX8) (T := TX8) (N := 11) hx hb hts hiX8 tyX8 tyX8_ok nmX8 hown hK G.1 G.2.1 G.2.2 0 rfl rfl 4 (by decide) lk24 (fun _ h9 => h9) rfl hin rfl (tyX8_ok 4 (by decide)) rfl rfl (Nat.le_of_ble_eq_true rfl) dX8_init_53 (fun U locs hP hD hS => ?_)
  have G : Gd D A s (([(h0, .inr (8, [.ref (uR 0), .ref (u2 0), .ref (u3 0), .ref (u4 0), .ref q5, .null, .null, .null, .null, .int 0, .int 0]))] ++ w_Rows cy uR GI lanF (fun _ => 0) ++ w_Tape cy u2 0 0 0 0 0 0 (fun _ => 0) ++ w_Ch cy u3 0 (fun _ => 0) (fun _ => 0) (fun _ => 0) (fun _ => 0) ++ w_BA cy u4 0 0 (fun _ => 0) (fun _ => 0) (fun _ => 0) (fun _ => 0) 0 (fun _ => 0) (fun _ => 0) (fun _ => 0) ++ [(q5, .inl (cy 3, 2, .inr (.inr (.inr (.inr (fun _ => none))))))]) ++ FI) _ _ := ⟨hP, hD, hS⟩
  refine lv_aload_n hx hb dX8_init_56 rfl (lv_at hl 0 rfl) ?_
  refine va_new (ci := 5) (fs := [.null, .int 0, .int 0]) (C := RX5) (T := TX5) (N := 3) hx hb hts hiX5 tyX5 tyX5_ok hown lk25 lk26 lk27 hK G.1 G.2.1 G.2.2 hA rfl (fun j hj => by rcases (show j = 0 ∨ j = 1 ∨ j = 2 by omega) with rfl | rfl | rfl <;> rfl) (Nat.le_of_ble_eq_true rfl) (Nat.le_of_ble_eq_true rfl) dX8_init_57 (fun q6 U hP hD hS => ?_)
  have G : Gd D A s ((([(h0, .inr (8, [.ref (uR 0), .ref (u2 0), .ref (u3 0), .ref (u4 0), .ref q5, .null, .null, .null, .null, .int 0, .int 0]))] ++ w_Rows cy uR GI lanF (fun _ => 0) ++ w_Tape cy u2 0 0 0 0 0 0 (fun _ => 0) ++ w_Ch cy u3 0 (fun _ => 0) (fun _ => 0) (fun _ => 0) (fun _ => 0) ++ w_BA cy u4 0 0 (fun _ => 0) (fun _ => 0) (fun _ => 0) (fun _ => 0) 0 (fun _ => 0) (fun _ => 0) (fun _ => 0) ++ [(q5, .inl (cy 3, 2, .inr (.inr (.inr (.inr (fun _ => none))))))]) ++ FI) ++ [(q6, .inr (5, [.null, .int 0, .int 0]))]) _ _ := ⟨hP, hD, hS⟩
  refine lv_dup hx hb dX8_init_60 rfl ?_
  refine MN.callI [.ref q6, .ref h0] C hN G (c_X5_init l D cy q6) gX8_init_X5_init rfl rfl rfl lk27 lk28 lk29 rfl (by decide +kernel) ⟨Nat.le_of_ble_eq_true rfl, Nat.le_of_ble_eq_true rfl⟩ hl.1 rfl (Nat.le_of_ble_eq_true rfl) dX8_init_61 ⟨Nat.le_of_ble_eq_true rfl, Nat.le_of_ble_eq_true rfl⟩ (fun u6 U locs hu G2 => ?_)
  obtain ⟨uP, rA, GR⟩ := u6
  obtain ⟨hu2, hGR⟩ := hu
  dsimp only at hu2 hGR G2
  subst hu2
  have G2 := G2.perm (perm_sw2 _ _ _ _)
  generalize hFR : w_FRing cy rA (fun _ => 0) (fun _ _ => 0) (fun _ _ => 0) (fun _ _ => 0) = FR at G2
  have G : Gd D A s (([(h0, .inr (8, [.ref (uR 0), .ref (u2 0), .ref (u3 0), .ref (u4 0), .ref q5, .null, .null, .null, .null, .int 0, .int 0]))] ++ w_Rows cy uR GI lanF (fun _ => 0) ++ w_Tape cy u2 0 0 0 0 0 0 (fun _ => 0) ++ w_Ch cy u3 0 (fun _ => 0) (fun _ => 0) (fun _ => 0) (fun _ => 0) ++ w_BA cy u4 0 0 (fun _ => 0) (fun _ => 0) (fun _ => 0) (fun _ => 0) 0 (fun _ => 0) (fun _ => 0) (fun _ => 0) ++ [(q5, .inl (cy 3, 2, .inr (.inr (.inr (.inr (fun _ => none))))))] ++ w_Past cy uP GR 0 0) ++ (FI ++ FR)) _ _ := G2
  refine va_putF (D := D) (ci := 8) (v := .ref (uP 0)) (ty := tyX8 5) (C := RX8) (T := TX8) (N := 11) hx hb hts hiX8 tyX8 tyX8_ok nmX8 hown hK G.1 G.2.1 G.2.2 0 rfl rfl 5 (by decide) lk30 (fun _ h9 => h9) rfl hin rfl (tyX8_ok 5 (by decide)) rfl rfl (Nat.le_of_ble_eq_true rfl) dX8_init_64 (fun U locs hP hD hS => ?_)
  have G : Gd D A s (([(h0, .inr (8, [.ref (uR 0), .ref (u2 0), .ref (u3 0), .ref (u4 0), .ref q5, .ref (uP 0), .null, .null, .null, .int 0, .int 0]))] ++ w_Rows cy uR GI lanF (fun _ => 0) ++ w_Tape cy u2 0 0 0 0 0 0 (fun _ => 0) ++ w_Ch cy u3 0 (fun _ => 0) (fun _ => 0) (fun _ => 0) (fun _ => 0) ++ w_BA cy u4 0 0 (fun _ => 0) (fun _ => 0) (fun _ => 0) (fun _ => 0) 0 (fun _ => 0) (fun _ => 0) (fun _ => 0) ++ [(q5, .inl (cy 3, 2, .inr (.inr (.inr (.inr (fun _ => none))))))] ++ w_Past cy uP GR 0 0) ++ (FI ++ FR)) _ _ := ⟨hP, hD, hS⟩
  refine lv_aload_n hx hb dX8_init_67 rfl (lv_at hl 0 rfl) ?_
  refine va_new (ci := 3) (fs := [.null, .null, .null, .int 0]) (C := RX3) (T := TX3) (N := 4) hx hb hts hiX3 tyX3 tyX3_ok hown lk31 lk32 lk33 hK G.1 G.2.1 G.2.2 hA rfl (fun j hj => by rcases (show j = 0 ∨ j = 1 ∨ j = 2 ∨ j = 3 by omega) with rfl | rfl | rfl | rfl <;> rfl) (Nat.le_of_ble_eq_true rfl) (Nat.le_of_ble_eq_true rfl) dX8_init_68 (fun q7 U hP hD hS => ?_)
  have G : Gd D A s ((([(h0, .inr (8, [.ref (uR 0), .ref (u2 0), .ref (u3 0), .ref (u4 0), .ref q5, .ref (uP 0), .null, .null, .null, .int 0, .int 0]))] ++ w_Rows cy uR GI lanF (fun _ => 0) ++ w_Tape cy u2 0 0 0 0 0 0 (fun _ => 0) ++ w_Ch cy u3 0 (fun _ => 0) (fun _ => 0) (fun _ => 0) (fun _ => 0) ++ w_BA cy u4 0 0 (fun _ => 0) (fun _ => 0) (fun _ => 0) (fun _ => 0) 0 (fun _ => 0) (fun _ => 0) (fun _ => 0) ++ [(q5, .inl (cy 3, 2, .inr (.inr (.inr (.inr (fun _ => none))))))] ++ w_Past cy uP GR 0 0) ++ (FI ++ FR)) ++ [(q7, .inr (3, [.null, .null, .null, .int 0]))]) _ _ := ⟨hP, hD, hS⟩
  refine lv_dup hx hb dX8_init_71 rfl ?_
  refine MN.callIN [.ref q7, .ref h0] C hN G (c_X3_init l D cy q7) gX8_init_X3_init_n50 rfl rfl rfl (hN.2.1.2.2.2.1) lk33 lk34 rfl (by decide +kernel) ⟨Nat.le_of_ble_eq_true rfl, Nat.le_of_ble_eq_true rfl⟩ hl.1 rfl (Nat.le_of_ble_eq_true rfl) dX8_init_72 ⟨Nat.le_of_ble_eq_true rfl, Nat.le_of_ble_eq_true rfl⟩ (fun u7 U locs hu G2 => ?_)
  subst hu
  have G2 := G2.perm (perm_sw _ _ _)
  have G : Gd D A s (([(h0, .inr (8, [.ref (uR 0), .ref (u2 0), .ref (u3 0), .ref (u4 0), .ref q5, .ref (uP 0), .null, .null, .null, .int 0, .int 0]))] ++ w_Rows cy uR GI lanF (fun _ => 0) ++ w_Tape cy u2 0 0 0 0 0 0 (fun _ => 0) ++ w_Ch cy u3 0 (fun _ => 0) (fun _ => 0) (fun _ => 0) (fun _ => 0) ++ w_BA cy u4 0 0 (fun _ => 0) (fun _ => 0) (fun _ => 0) (fun _ => 0) 0 (fun _ => 0) (fun _ => 0) (fun _ => 0) ++ [(q5, .inl (cy 3, 2, .inr (.inr (.inr (.inr (fun _ => none))))))] ++ w_Past cy uP GR 0 0 ++ w_Led cy u7 0 (fun _ => 0) (fun _ => 0) (fun _ => 0)) ++ (FI ++ FR)) _ _ := G2
  refine va_putF (D := D) (ci := 8) (v := .ref (u7 0)) (ty := tyX8 6) (C := RX8) (T := TX8) (N := 11) hx hb hts hiX8 tyX8 tyX8_ok nmX8 hown hK G.1 G.2.1 G.2.2 0 rfl rfl 6 (by decide) lk35 (fun _ h9 => h9) rfl hin rfl (tyX8_ok 6 (by decide)) rfl rfl (Nat.le_of_ble_eq_true rfl) dX8_init_75 (fun U locs hP hD hS => ?_)
  have G : Gd D A s (([(h0, .inr (8, [.ref (uR 0), .ref (u2 0), .ref (u3 0), .ref (u4 0), .ref q5, .ref (uP 0), .ref (u7 0), .null, .null, .int 0, .int 0]))] ++ w_Rows cy uR GI lanF (fun _ => 0) ++ w_Tape cy u2 0 0 0 0 0 0 (fun _ => 0) ++ w_Ch cy u3 0 (fun _ => 0) (fun _ => 0) (fun _ => 0) (fun _ => 0) ++ w_BA cy u4 0 0 (fun _ => 0) (fun _ => 0) (fun _ => 0) (fun _ => 0) 0 (fun _ => 0) (fun _ => 0) (fun _ => 0) ++ [(q5, .inl (cy 3, 2, .inr (.inr (.inr (.inr (fun _ => none))))))] ++ w_Past cy uP GR 0 0 ++ w_Led cy u7 0 (fun _ => 0) (fun _ => 0) (fun _ => 0)) ++ (FI ++ FR)) _ _ := ⟨hP, hD, hS⟩
  refine lv_aload_n hx hb dX8_init_78 rfl (lv_at hl 0 rfl) ?_
  refine va_new (ci := 4) (fs := [.null, .null, .null, .null, .int 0]) (C := RX4) (T := TX4) (N := 5) hx hb hts hiX4 tyX4 tyX4_ok hown lk36 lk37 lk38 hK G.1 G.2.1 G.2.2 hA rfl (fun j hj => by rcases (show j = 0 ∨ j = 1 ∨ j = 2 ∨ j = 3 ∨ j = 4 by omega) with rfl | rfl | rfl | rfl | rfl <;> rfl) (Nat.le_of_ble_eq_true rfl) (Nat.le_of_ble_eq_true rfl) dX8_init_79 (fun q8 U hP hD hS => ?_)
  have G : Gd D A s ((([(h0, .inr (8, [.ref (uR 0), .ref (u2 0), .ref (u3 0), .ref (u4 0), .ref q5, .ref (uP 0), .ref (u7 0), .null, .null, .int 0, .int 0]))] ++ w_Rows cy uR GI lanF (fun _ => 0) ++ w_Tape cy u2 0 0 0 0 0 0 (fun _ => 0) ++ w_Ch cy u3 0 (fun _ => 0) (fun _ => 0) (fun _ => 0) (fun _ => 0) ++ w_BA cy u4 0 0 (fun _ => 0) (fun _ => 0) (fun _ => 0) (fun _ => 0) 0 (fun _ => 0) (fun _ => 0) (fun _ => 0) ++ [(q5, .inl (cy 3, 2, .inr (.inr (.inr (.inr (fun _ => none))))))] ++ w_Past cy uP GR 0 0 ++ w_Led cy u7 0 (fun _ => 0) (fun _ => 0) (fun _ => 0)) ++ (FI ++ FR)) ++ [(q8, .inr (4, [.null, .null, .null, .null, .int 0]))]) _ _ := ⟨hP, hD, hS⟩
  refine lv_dup hx hb dX8_init_82 rfl ?_
  refine MN.callIN [.ref q8, .ref h0] C hN G (c_X4_init l D cy q8) gX8_init_X4_init_n57 rfl rfl rfl (hN.2.1.2.2.2.2.1) lk38 lk39 rfl (by decide +kernel) ⟨Nat.le_of_ble_eq_true rfl, Nat.le_of_ble_eq_true rfl⟩ hl.1 rfl (Nat.le_of_ble_eq_true rfl) dX8_init_83 ⟨Nat.le_of_ble_eq_true rfl, Nat.le_of_ble_eq_true rfl⟩ (fun u8 U locs hu G2 => ?_)
  subst hu
  have G2 := G2.perm (perm_sw _ _ _)
  have G : Gd D A s (([(h0, .inr (8, [.ref (uR 0), .ref (u2 0), .ref (u3 0), .ref (u4 0), .ref q5, .ref (uP 0), .ref (u7 0), .null, .null, .int 0, .int 0]))] ++ w_Rows cy uR GI lanF (fun _ => 0) ++ w_Tape cy u2 0 0 0 0 0 0 (fun _ => 0) ++ w_Ch cy u3 0 (fun _ => 0) (fun _ => 0) (fun _ => 0) (fun _ => 0) ++ w_BA cy u4 0 0 (fun _ => 0) (fun _ => 0) (fun _ => 0) (fun _ => 0) 0 (fun _ => 0) (fun _ => 0) (fun _ => 0) ++ [(q5, .inl (cy 3, 2, .inr (.inr (.inr (.inr (fun _ => none))))))] ++ w_Past cy uP GR 0 0 ++ w_Led cy u7 0 (fun _ => 0) (fun _ => 0) (fun _ => 0) ++ w_Net cy u8 0 (fun _ => 0) (fun _ => 0) (fun _ => 0) (fun _ => 0)) ++ (FI ++ FR)) _ _ := G2
  refine va_putF (D := D) (ci := 8) (v := .ref (u8 0)) (ty := tyX8 7) (C := RX8) (T := TX8) (N := 11) hx hb hts hiX8 tyX8 tyX8_ok nmX8 hown hK G.1 G.2.1 G.2.2 0 rfl rfl 7 (by decide) lk40 (fun _ h9 => h9) rfl hin rfl (tyX8_ok 7 (by decide)) rfl rfl (Nat.le_of_ble_eq_true rfl) dX8_init_86 (fun U locs hP hD hS => ?_)
  have G : Gd D A s (([(h0, .inr (8, [.ref (uR 0), .ref (u2 0), .ref (u3 0), .ref (u4 0), .ref q5, .ref (uP 0), .ref (u7 0), .ref (u8 0), .null, .int 0, .int 0]))] ++ w_Rows cy uR GI lanF (fun _ => 0) ++ w_Tape cy u2 0 0 0 0 0 0 (fun _ => 0) ++ w_Ch cy u3 0 (fun _ => 0) (fun _ => 0) (fun _ => 0) (fun _ => 0) ++ w_BA cy u4 0 0 (fun _ => 0) (fun _ => 0) (fun _ => 0) (fun _ => 0) 0 (fun _ => 0) (fun _ => 0) (fun _ => 0) ++ [(q5, .inl (cy 3, 2, .inr (.inr (.inr (.inr (fun _ => none))))))] ++ w_Past cy uP GR 0 0 ++ w_Led cy u7 0 (fun _ => 0) (fun _ => 0) (fun _ => 0) ++ w_Net cy u8 0 (fun _ => 0) (fun _ => 0) (fun _ => 0) (fun _ => 0)) ++ (FI ++ FR)) _ _ := ⟨hP, hD, hS⟩
  refine lv_aload_n hx hb dX8_init_89 rfl (lv_at hl 0 rfl) ?_
  refine va_new (ci := 0) (fs := [.null, .int 0]) (C := RX0) (T := TX0) (N := 2) hx hb hts hiX0 tyX0 tyX0_ok hown lk41 lk42 lk43 hK G.1 G.2.1 G.2.2 hA rfl (fun j hj => by rcases (show j = 0 ∨ j = 1 by omega) with rfl | rfl <;> rfl) (Nat.le_of_ble_eq_true rfl) (Nat.le_of_ble_eq_true rfl) dX8_init_90 (fun q9 U hP hD hS => ?_)
  have G : Gd D A s ((([(h0, .inr (8, [.ref (uR 0), .ref (u2 0), .ref (u3 0), .ref (u4 0), .ref q5, .ref (uP 0), .ref (u7 0), .ref (u8 0), .null, .int 0, .int 0]))] ++ w_Rows cy uR GI lanF (fun _ => 0) ++ w_Tape cy u2 0 0 0 0 0 0 (fun _ => 0) ++ w_Ch cy u3 0 (fun _ => 0) (fun _ => 0) (fun _ => 0) (fun _ => 0) ++ w_BA cy u4 0 0 (fun _ => 0) (fun _ => 0) (fun _ => 0) (fun _ => 0) 0 (fun _ => 0) (fun _ => 0) (fun _ => 0) ++ [(q5, .inl (cy 3, 2, .inr (.inr (.inr (.inr (fun _ => none))))))] ++ w_Past cy uP GR 0 0 ++ w_Led cy u7 0 (fun _ => 0) (fun _ => 0) (fun _ => 0) ++ w_Net cy u8 0 (fun _ => 0) (fun _ => 0) (fun _ => 0) (fun _ => 0)) ++ (FI ++ FR)) ++ [(q9, .inr (0, [.null, .int 0]))]) _ _ := ⟨hP, hD, hS⟩
  refine lv_dup hx hb dX8_init_93 rfl ?_
  refine MN.callIN [.ref q9, .ref h0] C hN G (c_X0_init l D cy q9) gX8_init_X0_init_n64 rfl rfl rfl (hN.2.1.2.2.2.2.2) lk43 lk44 rfl (by decide +kernel) ⟨Nat.le_of_ble_eq_true rfl, Nat.le_of_ble_eq_true rfl⟩ hl.1 rfl (Nat.le_of_ble_eq_true rfl) dX8_init_94 ⟨Nat.le_of_ble_eq_true rfl, Nat.le_of_ble_eq_true rfl⟩ (fun u9 U locs hu G2 => ?_)
  subst hu
  have G2 := G2.perm (perm_sw _ _ _)
  have G : Gd D A s (([(h0, .inr (8, [.ref (uR 0), .ref (u2 0), .ref (u3 0), .ref (u4 0), .ref q5, .ref (uP 0), .ref (u7 0), .ref (u8 0), .null, .int 0, .int 0]))] ++ w_Rows cy uR GI lanF (fun _ => 0) ++ w_Tape cy u2 0 0 0 0 0 0 (fun _ => 0) ++ w_Ch cy u3 0 (fun _ => 0) (fun _ => 0) (fun _ => 0) (fun _ => 0) ++ w_BA cy u4 0 0 (fun _ => 0) (fun _ => 0) (fun _ => 0) (fun _ => 0) 0 (fun _ => 0) (fun _ => 0) (fun _ => 0) ++ [(q5, .inl (cy 3, 2, .inr (.inr (.inr (.inr (fun _ => none))))))] ++ w_Past cy uP GR 0 0 ++ w_Led cy u7 0 (fun _ => 0) (fun _ => 0) (fun _ => 0) ++ w_Net cy u8 0 (fun _ => 0) (fun _ => 0) (fun _ => 0) (fun _ => 0) ++ w_Ask cy u9 0 (fun _ => 0)) ++ (FI ++ FR)) _ _ := G2
  refine va_putF (D := D) (ci := 8) (v := .ref (u9 0)) (ty := tyX8 8) (C := RX8) (T := TX8) (N := 11) hx hb hts hiX8 tyX8 tyX8_ok nmX8 hown hK G.1 G.2.1 G.2.2 0 rfl rfl 8 (by decide) lk45 (fun _ h9 => h9) rfl hin rfl (tyX8_ok 8 (by decide)) rfl rfl (Nat.le_of_ble_eq_true rfl) dX8_init_97 (fun U locs hP hD hS => ?_)
  have G : Gd D A s (([(h0, .inr (8, [.ref (uR 0), .ref (u2 0), .ref (u3 0), .ref (u4 0), .ref q5, .ref (uP 0), .ref (u7 0), .ref (u8 0), .ref (u9 0), .int 0, .int 0]))] ++ w_Rows cy uR GI lanF (fun _ => 0) ++ w_Tape cy u2 0 0 0 0 0 0 (fun _ => 0) ++ w_Ch cy u3 0 (fun _ => 0) (fun _ => 0) (fun _ => 0) (fun _ => 0) ++ w_BA cy u4 0 0 (fun _ => 0) (fun _ => 0) (fun _ => 0) (fun _ => 0) 0 (fun _ => 0) (fun _ => 0) (fun _ => 0) ++ [(q5, .inl (cy 3, 2, .inr (.inr (.inr (.inr (fun _ => none))))))] ++ w_Past cy uP GR 0 0 ++ w_Led cy u7 0 (fun _ => 0) (fun _ => 0) (fun _ => 0) ++ w_Net cy u8 0 (fun _ => 0) (fun _ => 0) (fun _ => 0) (fun _ => 0) ++ w_Ask cy u9 0 (fun _ => 0)) ++ (FI ++ FR)) _ _ := ⟨hP, hD, hS⟩
  refine lv_iconst (v := 0) hx hb dX8_init_100 (by decide) ?_
  refine lv_istore_n (lv' := [(1, .int 0), (0, .ref h0)]) hx hb dX8_init_101 rfl hl (by decide) rfl (fun ls hl => ?_)
  refine lv_iload_n hx hb dX8_init_102 rfl (lv_at hl 0 rfl) ?_
  refine lv_iconst (v := 2) hx hb dX8_init_103 (by decide) ?_
  refine lv_icmp_ge (tgt := 126) hx hb dX8_init_104 (by decide) (fun c1 => absurd c1 (by decide)) (fun _ => ?_)
  refine lv_aload_n hx hb dX8_init_107 rfl (lv_at hl 1 rfl) ?_
  refine va_get (D := D) (ci := 8) (v := .ref q5) (C := RX8) (T := TX8) (N := 11) hx hb hts hiX8 hown hK G.1 0 rfl rfl 4 (by decide) lk24 (fun _ h9 => h9) rfl dX8_init_108 ?_
  refine lv_iload_n hx hb dX8_init_111 rfl (lv_at hl 0 rfl) ?_
  refine va_new (ci := 1) (fs := [.null, .null, .int 0]) (C := RX1) (T := TX1) (N := 3) hx hb hts hiX1 tyX1 tyX1_ok hown lk19 lk20 lk21 hK G.1 G.2.1 G.2.2 hA rfl (fun j hj => by rcases (show j = 0 ∨ j = 1 ∨ j = 2 by omega) with rfl | rfl | rfl <;> rfl) (Nat.le_of_ble_eq_true rfl) (Nat.le_of_ble_eq_true rfl) dX8_init_112 (fun q10 U hP hD hS => ?_)
  have G : Gd D A s ((([(h0, .inr (8, [.ref (uR 0), .ref (u2 0), .ref (u3 0), .ref (u4 0), .ref q5, .ref (uP 0), .ref (u7 0), .ref (u8 0), .ref (u9 0), .int 0, .int 0]))] ++ w_Rows cy uR GI lanF (fun _ => 0) ++ w_Tape cy u2 0 0 0 0 0 0 (fun _ => 0) ++ w_Ch cy u3 0 (fun _ => 0) (fun _ => 0) (fun _ => 0) (fun _ => 0) ++ w_BA cy u4 0 0 (fun _ => 0) (fun _ => 0) (fun _ => 0) (fun _ => 0) 0 (fun _ => 0) (fun _ => 0) (fun _ => 0) ++ [(q5, .inl (cy 3, 2, .inr (.inr (.inr (.inr (fun _ => none))))))] ++ w_Past cy uP GR 0 0 ++ w_Led cy u7 0 (fun _ => 0) (fun _ => 0) (fun _ => 0) ++ w_Net cy u8 0 (fun _ => 0) (fun _ => 0) (fun _ => 0) (fun _ => 0) ++ w_Ask cy u9 0 (fun _ => 0)) ++ (FI ++ FR)) ++ [(q10, .inr (1, [.null, .null, .int 0]))]) _ _ := ⟨hP, hD, hS⟩
  refine lv_dup hx hb dX8_init_115 rfl ?_
  refine MN.callIN [.ref q10, .int 0, .ref q5] C hN G (c_X1_init l D cy q10) gX8_init_X1_init_n32 rfl rfl rfl (hN.2.1.2.2.1) lk21 lk22 rfl (by decide +kernel) ⟨Nat.le_of_ble_eq_true rfl, Nat.le_of_ble_eq_true rfl⟩ hl.1 rfl (Nat.le_of_ble_eq_true rfl) dX8_init_116 ⟨Nat.le_of_ble_eq_true rfl, Nat.le_of_ble_eq_true rfl⟩ (fun u10 U locs hu G2 => ?_)
  subst hu
  have G2 := G2.perm (perm_sw _ _ _)
  have G : Gd D A s (([(h0, .inr (8, [.ref (uR 0), .ref (u2 0), .ref (u3 0), .ref (u4 0), .ref q5, .ref (uP 0), .ref (u7 0), .ref (u8 0), .ref (u9 0), .int 0, .int 0]))] ++ w_Rows cy uR GI lanF (fun _ => 0) ++ w_Tape cy u2 0 0 0 0 0 0 (fun _ => 0) ++ w_Ch cy u3 0 (fun _ => 0) (fun _ => 0) (fun _ => 0) (fun _ => 0) ++ w_BA cy u4 0 0 (fun _ => 0) (fun _ => 0) (fun _ => 0) (fun _ => 0) 0 (fun _ => 0) (fun _ => 0) (fun _ => 0) ++ [(q5, .inl (cy 3, 2, .inr (.inr (.inr (.inr (fun _ => none))))))] ++ w_Past cy uP GR 0 0 ++ w_Led cy u7 0 (fun _ => 0) (fun _ => 0) (fun _ => 0) ++ w_Net cy u8 0 (fun _ => 0) (fun _ => 0) (fun _ => 0) (fun _ => 0) ++ w_Ask cy u9 0 (fun _ => 0) ++ w_BA cy u10 0 0 (fun _ => 0) (fun _ => 0) (fun _ => 0) (fun _ => 0) 0 (fun _ => 0) (fun _ => 0) (fun _ => 0)) ++ (FI ++ FR)) _ _ := G2
  refine va_astq hx hb hK G.1 G.2.1 G.2.2 22 3 36 1 rfl rfl rfl rfl (inb_in (by decide)) dX8_init_119 (fun U locs hP hD hS => ?_)
  have G : Gd D A s (([(h0, .inr (8, [.ref (uR 0), .ref (u2 0), .ref (u3 0), .ref (u4 0), .ref q5, .ref (uP 0), .ref (u7 0), .ref (u8 0), .ref (u9 0), .int 0, .int 0]))] ++ w_Rows cy uR GI lanF (fun _ => 0) ++ w_Tape cy u2 0 0 0 0 0 0 (fun _ => 0) ++ w_Ch cy u3 0 (fun _ => 0) (fun _ => 0) (fun _ => 0) (fun _ => 0) ++ w_BA cy u4 0 0 (fun _ => 0) (fun _ => 0) (fun _ => 0) (fun _ => 0) 0 (fun _ => 0) (fun _ => 0) (fun _ => 0) ++ [(q5, .inl (cy 3, 2, .inr (.inr (.inr (.inr (va_up (fun _ => none) 0 (some (u10 0))))))))] ++ w_Past cy uP GR 0 0 ++ w_Led cy u7 0 (fun _ => 0) (fun _ => 0) (fun _ => 0) ++ w_Net cy u8 0 (fun _ => 0) (fun _ => 0) (fun _ => 0) (fun _ => 0) ++ w_Ask cy u9 0 (fun _ => 0) ++ w_BA cy u10 0 0 (fun _ => 0) (fun _ => 0) (fun _ => 0) (fun _ => 0) 0 (fun _ => 0) (fun _ => 0) (fun _ => 0)) ++ (FI ++ FR)) _ _ := ⟨hP, hD, hS⟩
  refine lv_iinc (v := 1) (lv' := [(1, .int 1), (0, .ref h0)]) hx hb dX8_init_120 hl (k := 0) rfl (by decide) (by decide) rfl (fun ls hl => ?_)
  refine lv_goto (tgt := 102) hx hb dX8_init_123 (by decide) ?_
  refine lv_iload_n hx hb dX8_init_102 rfl (lv_at hl 0 rfl) ?_
  refine lv_iconst (v := 2) hx hb dX8_init_103 (by decide) ?_
  refine lv_icmp_ge (tgt := 126) hx hb dX8_init_104 (by decide) (fun c1 => absurd c1 (by decide)) (fun _ => ?_)
  refine lv_aload_n hx hb dX8_init_107 rfl (lv_at hl 1 rfl) ?_
  refine va_get (D := D) (ci := 8) (v := .ref q5) (C := RX8) (T := TX8) (N := 11) hx hb hts hiX8 hown hK G.1 0 rfl rfl 4 (by decide) lk24 (fun _ h9 => h9) rfl dX8_init_108 ?_
  refine lv_iload_n hx hb dX8_init_111 rfl (lv_at hl 0 rfl) ?_
  refine va_new (ci := 1) (fs := [.null, .null, .int 0]) (C := RX1) (T := TX1) (N := 3) hx hb hts hiX1 tyX1 tyX1_ok hown lk19 lk20 lk21 hK G.1 G.2.1 G.2.2 hA rfl (fun j hj => by rcases (show j = 0 ∨ j = 1 ∨ j = 2 by omega) with rfl | rfl | rfl <;> rfl) (Nat.le_of_ble_eq_true rfl) (Nat.le_of_ble_eq_true rfl) dX8_init_112 (fun q11 U hP hD hS => ?_)
  have G : Gd D A s ((([(h0, .inr (8, [.ref (uR 0), .ref (u2 0), .ref (u3 0), .ref (u4 0), .ref q5, .ref (uP 0), .ref (u7 0), .ref (u8 0), .ref (u9 0), .int 0, .int 0]))] ++ w_Rows cy uR GI lanF (fun _ => 0) ++ w_Tape cy u2 0 0 0 0 0 0 (fun _ => 0) ++ w_Ch cy u3 0 (fun _ => 0) (fun _ => 0) (fun _ => 0) (fun _ => 0) ++ w_BA cy u4 0 0 (fun _ => 0) (fun _ => 0) (fun _ => 0) (fun _ => 0) 0 (fun _ => 0) (fun _ => 0) (fun _ => 0) ++ [(q5, .inl (cy 3, 2, .inr (.inr (.inr (.inr (va_up (fun _ => none) 0 (some (u10 0))))))))] ++ w_Past cy uP GR 0 0 ++ w_Led cy u7 0 (fun _ => 0) (fun _ => 0) (fun _ => 0) ++ w_Net cy u8 0 (fun _ => 0) (fun _ => 0) (fun _ => 0) (fun _ => 0) ++ w_Ask cy u9 0 (fun _ => 0) ++ w_BA cy u10 0 0 (fun _ => 0) (fun _ => 0) (fun _ => 0) (fun _ => 0) 0 (fun _ => 0) (fun _ => 0) (fun _ => 0)) ++ (FI ++ FR)) ++ [(q11, .inr (1, [.null, .null, .int 0]))]) _ _ := ⟨hP, hD, hS⟩
  refine lv_dup hx hb dX8_init_115 rfl ?_
  refine MN.callIN [.ref q11, .int 1, .ref q5] C hN G (c_X1_init l D cy q11) gX8_init_X1_init_n32 rfl rfl rfl (hN.2.1.2.2.1) lk21 lk22 rfl (by decide +kernel) ⟨Nat.le_of_ble_eq_true rfl, Nat.le_of_ble_eq_true rfl⟩ hl.1 rfl (Nat.le_of_ble_eq_true rfl) dX8_init_116 ⟨Nat.le_of_ble_eq_true rfl, Nat.le_of_ble_eq_true rfl⟩ (fun u11 U locs hu G2 => ?_)
  subst hu
  have G2 := G2.perm (perm_sw _ _ _)
  have G : Gd D A s (([(h0, .inr (8, [.ref (uR 0), .ref (u2 0), .ref (u3 0), .ref (u4 0), .ref q5, .ref (uP 0), .ref (u7 0), .ref (u8 0), .ref (u9 0), .int 0, .int 0]))] ++ w_Rows cy uR GI lanF (fun _ => 0) ++ w_Tape cy u2 0 0 0 0 0 0 (fun _ => 0) ++ w_Ch cy u3 0 (fun _ => 0) (fun _ => 0) (fun _ => 0) (fun _ => 0) ++ w_BA cy u4 0 0 (fun _ => 0) (fun _ => 0) (fun _ => 0) (fun _ => 0) 0 (fun _ => 0) (fun _ => 0) (fun _ => 0) ++ [(q5, .inl (cy 3, 2, .inr (.inr (.inr (.inr (va_up (fun _ => none) 0 (some (u10 0))))))))] ++ w_Past cy uP GR 0 0 ++ w_Led cy u7 0 (fun _ => 0) (fun _ => 0) (fun _ => 0) ++ w_Net cy u8 0 (fun _ => 0) (fun _ => 0) (fun _ => 0) (fun _ => 0) ++ w_Ask cy u9 0 (fun _ => 0) ++ w_BA cy u10 0 0 (fun _ => 0) (fun _ => 0) (fun _ => 0) (fun _ => 0) 0 (fun _ => 0) (fun _ => 0) (fun _ => 0) ++ w_BA cy u11 0 0 (fun _ => 0) (fun _ => 0) (fun _ => 0) (fun _ => 0) 0 (fun _ => 0) (fun _ => 0) (fun _ => 0)) ++ (FI ++ FR)) _ _ := G2
  refine va_astq hx hb hK G.1 G.2.1 G.2.2 22 3 46 1 rfl rfl rfl rfl (inb_in (by decide)) dX8_init_119 (fun U locs hP hD hS => ?_)
  have G : Gd D A s (([(h0, .inr (8, [.ref (uR 0), .ref (u2 0), .ref (u3 0), .ref (u4 0), .ref q5, .ref (uP 0), .ref (u7 0), .ref (u8 0), .ref (u9 0), .int 0, .int 0]))] ++ w_Rows cy uR GI lanF (fun _ => 0) ++ w_Tape cy u2 0 0 0 0 0 0 (fun _ => 0) ++ w_Ch cy u3 0 (fun _ => 0) (fun _ => 0) (fun _ => 0) (fun _ => 0) ++ w_BA cy u4 0 0 (fun _ => 0) (fun _ => 0) (fun _ => 0) (fun _ => 0) 0 (fun _ => 0) (fun _ => 0) (fun _ => 0) ++ [(q5, .inl (cy 3, 2, .inr (.inr (.inr (.inr (va_up (va_up (fun _ => none) 0 (some (u10 0))) 1 (some (u11 0))))))))] ++ w_Past cy uP GR 0 0 ++ w_Led cy u7 0 (fun _ => 0) (fun _ => 0) (fun _ => 0) ++ w_Net cy u8 0 (fun _ => 0) (fun _ => 0) (fun _ => 0) (fun _ => 0) ++ w_Ask cy u9 0 (fun _ => 0) ++ w_BA cy u10 0 0 (fun _ => 0) (fun _ => 0) (fun _ => 0) (fun _ => 0) 0 (fun _ => 0) (fun _ => 0) (fun _ => 0) ++ w_BA cy u11 0 0 (fun _ => 0) (fun _ => 0) (fun _ => 0) (fun _ => 0) 0 (fun _ => 0) (fun _ => 0) (fun _ => 0)) ++ (FI ++ FR)) _ _ := ⟨hP, hD, hS⟩
  refine lv_iinc (v := 2) (lv' := [(1, .int 2), (0, .ref h0)]) hx hb dX8_init_120 hl (k := 0) rfl (by decide) (by decide) rfl (fun ls hl => ?_)
  refine lv_goto (tgt := 102) hx hb dX8_init_123 (by decide) ?_
  refine lv_iload_n hx hb dX8_init_102 rfl (lv_at hl 0 rfl) ?_
  refine lv_iconst (v := 2) hx hb dX8_init_103 (by decide) ?_
  refine lv_icmp_ge (tgt := 126) hx hb dX8_init_104 (by decide) (fun _ => ?_) (fun c1 => absurd (by decide) c1)
  subst hFI hFR
  have G : Gd D A s ((((([(h0, .inr (8, [.ref (uR 0), .ref (u2 0), .ref (u3 0), .ref (u4 0), .ref q5, .ref (uP 0), .ref (u7 0), .ref (u8 0), .ref (u9 0), .int 0, .int 0]))] ++ w_Rows cy uR GI lanF (fun _ => 0) ++ w_Tape cy u2 0 0 0 0 0 0 (fun _ => 0) ++ w_Ch cy u3 0 (fun _ => 0) (fun _ => 0) (fun _ => 0) (fun _ => 0) ++ w_BA cy u4 0 0 (fun _ => 0) (fun _ => 0) (fun _ => 0) (fun _ => 0) 0 (fun _ => 0) (fun _ => 0) (fun _ => 0) ++ [(q5, .inl (cy 3, 2, .inr (.inr (.inr (.inr (va_up (va_up (fun _ => none) 0 (some (u10 0))) 1 (some (u11 0))))))))] ++ w_Past cy uP GR 0 0 ++ w_Led cy u7 0 (fun _ => 0) (fun _ => 0) (fun _ => 0) ++ w_Net cy u8 0 (fun _ => 0) (fun _ => 0) (fun _ => 0) (fun _ => 0) ++ w_Ask cy u9 0 (fun _ => 0)) ++ w_BA cy u10 0 0 (fun _ => 0) (fun _ => 0) (fun _ => 0) (fun _ => 0) 0 (fun _ => 0) (fun _ => 0) (fun _ => 0)) ++ w_BA cy u11 0 0 (fun _ => 0) (fun _ => 0) (fun _ => 0) (fun _ => 0) 0 (fun _ => 0) (fun _ => 0) (fun _ => 0))) ++ (w_FItm cy iA (fun _ _ => 0) ++ w_FRing cy rA (fun _ => 0) (fun _ _ => 0) (fun _ _ => 0) (fun _ _ => 0))) _ _ := G
  have G := G.perm (perm_top _ _ _ _ _)
  exact ret_N (post := poT h0) (B := wT cy) C G (adl [h0, uR 0, uR 1, uR 2, uR 3, u2 0, u2 1, u3 0, u3 1, u3 2, u3 3, u3 4, u4 0, u4 1, u4 2, u4 3, u4 4, u4 5, u4 6, u4 7, u4 8, u4 9, q5, uP 0, uP 1, u7 0, u7 1, u7 2, u7 3, u8 0, u8 1, u8 2, u8 3, u8 4, u9 0, u9 1], iA, (fun k => if k = 0 then u10 else u11), rA, GI, (va_up (va_up (fun _ => none) 0 (some (u10 0))) 1 (some (u11 0))), GR) ⟨rfl, hGI, fun k hk => by rcases (show k = 0 ∨ k = 1 by omega) with rfl | rfl <;> rfl, hGR⟩ rfl dX8_init_126
