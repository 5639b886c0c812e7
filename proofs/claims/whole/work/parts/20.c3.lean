def f_X6_make_m (a_lan a_siz b_itm : Nat → Int32) (p1 p2 p3 : Int32) : Option ((Nat → Int32) × (Nat → Int32) × (Nat → Int32)) := gd (inb p1 8) (bd (f_J7_fill_53178 40 b_itm 0) (fun z2 => some (upd a_lan (ix p1) p2, upd a_siz (ix p1) p3, z2)))
set_option maxHeartbeats 4000000 in
set_option maxRecDepth 100000 in
theorem c_X6_make_m (l : Launch) (D : va_G) (cy : Nat → ClassId) (aAd : Nat → Nat) (bAd : Nat → Nat) (a_GI : Nat → Option Nat) (a_lan a_siz b_itm : Nat → Int32) (p1 p2 p3 : Int32) (hg1 : inb p1 8 = true → a_GI (ix p1) = some (bAd 0)) (z : ((Nat → Int32) × (Nat → Int32) × (Nat → Int32))) (hz : f_X6_make_m a_lan a_siz b_itm p1 p2 p3 = some z) : MV l yX6_make wsX6_make ({ frames := 1, cells := 0, slots := 0, locals := 23 } : Room) D cy [.ref (aAd 0), .int p1, .int p2, .int p3] (w_Rows cy aAd a_GI a_lan a_siz ++ w_Itm cy bAd b_itm) (w_Rows cy aAd a_GI z.1 z.2.1 ++ w_Itm cy bAd z.2.2) := by
  refine met_start (Qf := fun A => MQv D cy (w_Rows cy aAd a_GI z.1 z.2.1 ++ w_Itm cy bAd z.2.2) A) (cc := cX6_make) (nL := 4) (ret := none) RX6 rfl (by decide) rfl (Nat.le_of_ble_eq_true rfl) ?_
  intro p e s m below meth c A ls C G hl
  have hl : lv_has ls 4 [(0, .ref (aAd 0)), (1, .int p1), (2, .int p2), (3, .int p3)] := hl
  have H := hz
  unfold f_X6_make_m at H
  obtain ⟨hx, hb, hr, hml, hown, hts, hlk, hK, hA, hE⟩ := id C
  have lk0 := hts (Cond.fieldLink RX6 16 "TideDebts$Rows" "lanes" "[I") (List.mem_of_getElem? (i := 1) rfl)
  have lk1 := hts (Cond.fieldLink RX6 20 "TideDebts$Rows" "sizes" "[I") (List.mem_of_getElem? (i := 2) rfl)
  have lk2 := hts (Cond.fieldLink RX6 11 "TideDebts$Rows" "items" "[[I") (List.mem_of_getElem? (i := 3) rfl)
  have hiX6 : ∀ w ∈ u_ws RX6 TX6 3, w ∈ wsX6_make := fun _ h => List.mem_cons_of_mem _ (List.mem_append_right _ h)
  refine lv_aload_n hx hb dX6_make_0 rfl (lv_at hl 0 rfl) ?_
  refine va_get (D := D) (ci := 6) (v := .ref (aAd 1)) (C := RX6) (T := TX6) (N := 3) hx hb hts hiX6 hown hK G.1 0 rfl rfl 1 (by decide) lk0 (fun _ h9 => h9) rfl dX6_make_1 ?_
  refine lv_iload_n hx hb dX6_make_4 rfl (lv_at hl 1 rfl) ?_
  refine lv_iload_n hx hb dX6_make_5 rfl (lv_at hl 2 rfl) ?_
  obtain ⟨hb1, H⟩ := gd_some H
  refine va_iast hx hb hK G.1 G.2.1 G.2.2 1 1 rfl rfl (inb_in hb1) dX6_make_6 (fun U locs hP hD hS => ?_)
  have G : Gd D A s (w_Rows cy aAd a_GI (upd a_lan (ix p1) p2) a_siz ++ w_Itm cy bAd b_itm) U locs := ⟨hP, hD, hS⟩
  refine lv_aload_n hx hb dX6_make_7 rfl (lv_at hl 0 rfl) ?_
  refine va_get (D := D) (ci := 6) (v := .ref (aAd 2)) (C := RX6) (T := TX6) (N := 3) hx hb hts hiX6 hown hK G.1 0 rfl rfl 2 (by decide) lk1 (fun _ h9 => h9) rfl dX6_make_8 ?_
  refine lv_iload_n hx hb dX6_make_11 rfl (lv_at hl 1 rfl) ?_
  refine lv_iload_n hx hb dX6_make_12 rfl (lv_at hl 3 rfl) ?_
  refine va_iast hx hb hK G.1 G.2.1 G.2.2 2 1 rfl rfl (inb_in hb1) dX6_make_13 (fun U locs hP hD hS => ?_)
  have G : Gd D A s (w_Rows cy aAd a_GI (upd a_lan (ix p1) p2) (upd a_siz (ix p1) p3) ++ w_Itm cy bAd b_itm) U locs := ⟨hP, hD, hS⟩
  refine lv_aload_n hx hb dX6_make_14 rfl (lv_at hl 0 rfl) ?_
  refine va_get (D := D) (ci := 6) (v := .ref (aAd 3)) (C := RX6) (T := TX6) (N := 3) hx hb hts hiX6 hown hK G.1 0 rfl rfl 0 (by decide) lk2 (fun _ h9 => h9) rfl dX6_make_15 ?_
  refine lv_iload_n hx hb dX6_make_18 rfl (lv_at hl 1 rfl) ?_
  refine g_aald (x := bAd 0) hx hb hK G.1 3 5 rfl rfl rfl hb1 (hg1 hb1) dX6_make_19 ?_
  refine lv_iconst (v := 0) hx hb dX6_make_20 (by decide) ?_
  obtain ⟨z2, hz2, H⟩ := bd_some H
  refine MV.callS [.ref (bAd 0), .int 0] [] [4] C G (c_J7_fill_53178 l D cy bAd 40 b_itm 0 z2 hz2) gX6_make_J7_fill_53178 rfl rfl rfl (n := 2) (by decide +kernel) ⟨Nat.le_of_ble_eq_true rfl, Nat.le_of_ble_eq_true rfl⟩ rfl rfl rfl rfl hl.1 rfl (Nat.le_of_ble_eq_true rfl) dX6_make_21 ⟨Nat.zero_le _, Nat.zero_le _⟩ (fun U locs G => ?_)
  have G : Gd D A s (w_Rows cy aAd a_GI (upd a_lan (ix p1) p2) (upd a_siz (ix p1) p3) ++ w_Itm cy bAd z2) U locs := G
  obtain rfl := Option.some.inj H
  exact ret_v C G dX6_make_24
def f_X6_put_m (a_lan b_itm : Nat → Int32) (p1 p2 p3 : Int32) : Option (Int32 × (Nat → Int32)) := gd (inb p1 8) (if (a_lan (ix p1)) = 0 then (gd (inb p2 40) (some (p3.toInt8.toInt32, upd b_itm (ix p2) p3.toInt8.toInt32))) else (if (a_lan (ix p1)) = 1 then (gd (inb p2 40) (some (p3.toInt16.toInt32, upd b_itm (ix p2) p3.toInt16.toInt32))) else (gd (inb p2 40) (some (p3, upd b_itm (ix p2) p3)))))
set_option maxHeartbeats 4000000 in
set_option maxRecDepth 100000 in
theorem c_X6_put_m (l : Launch) (D : va_G) (cy : Nat → ClassId) (aAd : Nat → Nat) (bAd : Nat → Nat) (a_GI : Nat → Option Nat) (a_lan a_siz b_itm : Nat → Int32) (p1 p2 p3 : Int32) (hg1 : inb p1 8 = true → a_GI (ix p1) = some (bAd 0)) (z : (Int32 × (Nat → Int32))) (hz : f_X6_put_m a_lan b_itm p1 p2 p3 = some z) : MI l yX6_put wsX6_put ({ frames := 0, cells := 0, slots := 0, locals := 0 } : Room) D cy [.ref (aAd 0), .int p1, .int p2, .int p3] (w_Rows cy aAd a_GI a_lan a_siz ++ w_Itm cy bAd b_itm) z.1 (w_Rows cy aAd a_GI a_lan a_siz ++ w_Itm cy bAd z.2) := by
  refine met_start (Qf := fun A => MQi D cy z.1 (w_Rows cy aAd a_GI a_lan a_siz ++ w_Itm cy bAd z.2) A) (cc := cX6_put) (nL := 5) (ret := (some .int)) RX6 rfl (by decide) rfl (Nat.le_of_ble_eq_true rfl) ?_
  intro p e s m below meth c A ls C G hl
  have hl : lv_has ls 5 [(0, .ref (aAd 0)), (1, .int p1), (2, .int p2), (3, .int p3)] := hl
  have H := hz
  unfold f_X6_put_m at H
  obtain ⟨hx, hb, hr, hml, hown, hts, hlk, hK, hA, hE⟩ := id C
  have lk0 := hts (Cond.fieldLink RX6 16 "TideDebts$Rows" "lanes" "[I") (List.mem_of_getElem? (i := 1) rfl)
  have lk1 := hts (Cond.fieldLink RX6 11 "TideDebts$Rows" "items" "[[I") (List.mem_of_getElem? (i := 2) rfl)
  have hiX6 : ∀ w ∈ u_ws RX6 TX6 3, w ∈ wsX6_put := fun _ h => List.mem_cons_of_mem _ (List.mem_append_right _ h)
  refine lv_iload_n hx hb dX6_put_0 rfl (lv_at hl 3 rfl) ?_
  refine lv_istore (lv' := [(4, .int p3), (0, .ref (aAd 0)), (1, .int p1), (2, .int p2), (3, .int p3)]) hx hb dX6_put_1 hl (by decide) rfl (fun ls hl => ?_)
  refine lv_aload_n hx hb dX6_put_3 rfl (lv_at hl 1 rfl) ?_
  refine va_get (D := D) (ci := 6) (v := .ref (aAd 1)) (C := RX6) (T := TX6) (N := 3) hx hb hts hiX6 hown hK G.1 0 rfl rfl 1 (by decide) lk0 (fun _ h9 => h9) rfl dX6_put_4 ?_
  refine lv_iload_n hx hb dX6_put_7 rfl (lv_at hl 2 rfl) ?_
  obtain ⟨hb1, H⟩ := gd_some H
  refine g_iald (v := a_lan (ix p1)) hx hb hK G.1 1 1 rfl rfl hb1 rfl dX6_put_8 ?_
  refine lv_if_ne (tgt := 19) hx hb dX6_put_9 (by decide) (fun c2 => ?_) (fun c2 => ?_)
  · have H := if_f H c2
    refine lv_aload_n hx hb dX6_put_19 rfl (lv_at hl 1 rfl) ?_
    refine va_get (D := D) (ci := 6) (v := .ref (aAd 1)) (C := RX6) (T := TX6) (N := 3) hx hb hts hiX6 hown hK G.1 0 rfl rfl 1 (by decide) lk0 (fun _ h9 => h9) rfl dX6_put_20 ?_
    refine lv_iload_n hx hb dX6_put_23 rfl (lv_at hl 2 rfl) ?_
    refine g_iald (v := a_lan (ix p1)) hx hb hK G.1 1 1 rfl rfl hb1 rfl dX6_put_24 ?_
    refine lv_iconst (v := 1) hx hb dX6_put_25 (by decide) ?_
    refine lv_icmp_ne (tgt := 33) hx hb dX6_put_26 (by decide) (fun c3 => ?_) (fun c3 => ?_)
    · have H := if_f H c3
      refine lv_aload_n hx hb dX6_put_33 rfl (lv_at hl 1 rfl) ?_
      refine va_get (D := D) (ci := 6) (v := .ref (aAd 3)) (C := RX6) (T := TX6) (N := 3) hx hb hts hiX6 hown hK G.1 0 rfl rfl 0 (by decide) lk1 (fun _ h9 => h9) rfl dX6_put_34 ?_
      refine lv_iload_n hx hb dX6_put_37 rfl (lv_at hl 2 rfl) ?_
      refine g_aald (x := bAd 0) hx hb hK G.1 3 5 rfl rfl rfl hb1 (hg1 hb1) dX6_put_38 ?_
      refine lv_iload_n hx hb dX6_put_39 rfl (lv_at hl 3 rfl) ?_
      refine lv_iload hx hb dX6_put_40 (lv_at hl 0 rfl) ?_
      obtain ⟨hb4, H⟩ := gd_some H
      refine va_iast hx hb hK G.1 G.2.1 G.2.2 4 1 rfl rfl (inb_in hb4) dX6_put_42 (fun U locs hP hD hS => ?_)
      have G : Gd D A s (w_Rows cy aAd a_GI a_lan a_siz ++ w_Itm cy bAd (upd b_itm (ix p2) p3)) U locs := ⟨hP, hD, hS⟩
      refine lv_iload hx hb dX6_put_43 (lv_at hl 0 rfl) ?_
      obtain rfl := Option.some.inj H
      exact ret_i C G rfl dX6_put_45
    · have H := if_t H c3
      refine lv_iload_n hx hb dX6_put_29 rfl (lv_at hl 4 rfl) ?_
      refine lv_i2s hx hb dX6_put_30 rfl ?_
      refine lv_istore (lv' := [(4, .int p3.toInt16.toInt32), (0, .ref (aAd 0)), (1, .int p1), (2, .int p2), (3, .int p3)]) hx hb dX6_put_31 hl (by decide) rfl (fun ls hl => ?_)
      refine lv_aload_n hx hb dX6_put_33 rfl (lv_at hl 1 rfl) ?_
      refine va_get (D := D) (ci := 6) (v := .ref (aAd 3)) (C := RX6) (T := TX6) (N := 3) hx hb hts hiX6 hown hK G.1 0 rfl rfl 0 (by decide) lk1 (fun _ h9 => h9) rfl dX6_put_34 ?_
      refine lv_iload_n hx hb dX6_put_37 rfl (lv_at hl 2 rfl) ?_
      refine g_aald (x := bAd 0) hx hb hK G.1 3 5 rfl rfl rfl hb1 (hg1 hb1) dX6_put_38 ?_
      refine lv_iload_n hx hb dX6_put_39 rfl (lv_at hl 3 rfl) ?_
      refine lv_iload hx hb dX6_put_40 (lv_at hl 0 rfl) ?_
      obtain ⟨hb5, H⟩ := gd_some H
      refine va_iast hx hb hK G.1 G.2.1 G.2.2 4 1 rfl rfl (inb_in hb5) dX6_put_42 (fun U locs hP hD hS => ?_)
      have G : Gd D A s (w_Rows cy aAd a_GI a_lan a_siz ++ w_Itm cy bAd (upd b_itm (ix p2) p3.toInt16.toInt32)) U locs := ⟨hP, hD, hS⟩
      refine lv_iload hx hb dX6_put_43 (lv_at hl 0 rfl) ?_
      obtain rfl := Option.some.inj H
      exact ret_i C G rfl dX6_put_45
  · have H := if_t H c2
    refine lv_iload_n hx hb dX6_put_12 rfl (lv_at hl 4 rfl) ?_
    refine lv_i2b hx hb dX6_put_13 rfl ?_
    refine lv_istore (lv' := [(4, .int p3.toInt8.toInt32), (0, .ref (aAd 0)), (1, .int p1), (2, .int p2), (3, .int p3)]) hx hb dX6_put_14 hl (by decide) rfl (fun ls hl => ?_)
    refine lv_goto (tgt := 33) hx hb dX6_put_16 (by decide) ?_
    refine lv_aload_n hx hb dX6_put_33 rfl (lv_at hl 1 rfl) ?_
    refine va_get (D := D) (ci := 6) (v := .ref (aAd 3)) (C := RX6) (T := TX6) (N := 3) hx hb hts hiX6 hown hK G.1 0 rfl rfl 0 (by decide) lk1 (fun _ h9 => h9) rfl dX6_put_34 ?_
    refine lv_iload_n hx hb dX6_put_37 rfl (lv_at hl 2 rfl) ?_
    refine g_aald (x := bAd 0) hx hb hK G.1 3 5 rfl rfl rfl hb1 (hg1 hb1) dX6_put_38 ?_
    refine lv_iload_n hx hb dX6_put_39 rfl (lv_at hl 3 rfl) ?_
    refine lv_iload hx hb dX6_put_40 (lv_at hl 0 rfl) ?_
    obtain ⟨hb6, H⟩ := gd_some H
    refine va_iast hx hb hK G.1 G.2.1 G.2.2 4 1 rfl rfl (inb_in hb6) dX6_put_42 (fun U locs hP hD hS => ?_)
    have G : Gd D A s (w_Rows cy aAd a_GI a_lan a_siz ++ w_Itm cy bAd (upd b_itm (ix p2) p3.toInt8.toInt32)) U locs := ⟨hP, hD, hS⟩
    refine lv_iload hx hb dX6_put_43 (lv_at hl 0 rfl) ?_
    obtain rfl := Option.some.inj H
    exact ret_i C G rfl dX6_put_45
def f_X6_hasBelowZero_m_L3 (b_itm : Nat → Int32) (x1 x2 x3 : Int32) : Nat → Int32 → Option Int32
  | 0, _ => none
  | n + 1, x4 => if (x2 + x3) ≤ x4 then (some 0) else (gd (inb x1 8) (gd (inb x4 40) (if 0 ≤ (b_itm (ix x4)) then (f_X6_hasBelowZero_m_L3 b_itm x1 x2 x3 n (x4 + 1)) else (some 1))))
theorem f_X6_hasBelowZero_m_L3_z (b_itm : Nat → Int32) (x1 x2 x3 : Int32) (x4 : Int32) : f_X6_hasBelowZero_m_L3 b_itm x1 x2 x3 0 x4 = none := rfl
theorem f_X6_hasBelowZero_m_L3_s (b_itm : Nat → Int32) (x1 x2 x3 : Int32) (n : Nat) (x4 : Int32) : f_X6_hasBelowZero_m_L3 b_itm x1 x2 x3 (n + 1) x4 = if (x2 + x3) ≤ x4 then (some 0) else (gd (inb x1 8) (gd (inb x4 40) (if 0 ≤ (b_itm (ix x4)) then (f_X6_hasBelowZero_m_L3 b_itm x1 x2 x3 n (x4 + 1)) else (some 1)))) := rfl
set_option maxHeartbeats 4000000 in
set_option maxRecDepth 100000 in
theorem wl_X6_hasBelowZero_m_3 {p : Program} {l : Launch} {e : Env} {s : State} {m : MethodId} {below : List Frame} {meth : Method} {c : Code} {D : va_G} {cy : Nat → ClassId} {A : Nat → Prop} {args : Array Value} (C : Cx D cy A p s m meth c cX6_hasBelowZero 5 (some .boolean) wsX6_hasBelowZero RX6 args) (aAd : Nat → Nat) (bAd : Nat → Nat) (a_GI : Nat → Option Nat) (a_lan a_siz b_itm : Nat → Int32) (x1 x2 x3 : Int32) (hg1 : inb x1 8 = true → a_GI (ix x1) = some (bAd 0)) :
    ∀ (n : Nat) (x4 : Int32) (z : Int32), f_X6_hasBelowZero_m_L3 b_itm x1 x2 x3 n x4 = some z → ∀ (U : Heap) (locs : List Loc) (ls : Array Slot), Gd D A s (w_Rows cy aAd a_GI a_lan a_siz ++ w_Itm cy bAd b_itm) U locs → lv_has ls 5 [(0, .ref (aAd 0)), (1, .int x1), (2, .int x2), (3, .int x3), (4, .int x4)] → W p l e ({ frames := 0, cells := 0, slots := 0, locals := 0 } : Room) s m args below meth c U locs 0 0 (MQ below (MQi D cy z (w_Rows cy aAd a_GI a_lan a_siz ++ w_Itm cy bAd b_itm) A) args s 0 0 A) (F0 m 3 ls []) := by
  obtain ⟨hx, hb, hr, hml, hown, hts, hlk, hK, hA, hE⟩ := id C
  have lk0 := hts (Cond.fieldLink RX6 11 "TideDebts$Rows" "items" "[[I") (List.mem_of_getElem? (i := 1) rfl)
  have hiX6 : ∀ w ∈ u_ws RX6 TX6 3, w ∈ wsX6_hasBelowZero := fun _ h => List.mem_cons_of_mem _ (List.mem_append_right _ h)
  intro n
  induction n with
  | zero =>
    intro x4 z H
    rw [f_X6_hasBelowZero_m_L3_z] at H
    cases H
  | succ n ih =>
    intro x4 z H U locs ls G hl
    rw [f_X6_hasBelowZero_m_L3_s] at H
    refine lv_iload hx hb dX6_hasBelowZero_3 (lv_at hl 4 rfl) ?_
    refine lv_iload_n hx hb dX6_hasBelowZero_5 rfl (lv_at hl 2 rfl) ?_
    refine lv_iload_n hx hb dX6_hasBelowZero_6 rfl (lv_at hl 3 rfl) ?_
    refine lv_iadd hx hb dX6_hasBelowZero_7 ?_
    refine lv_icmp_ge (tgt := 31) hx hb dX6_hasBelowZero_8 (by decide) (fun c1 => ?_) (fun c1 => ?_)
    · have H := if_t H c1
      refine lv_iconst (v := 0) hx hb dX6_hasBelowZero_31 (by decide) ?_
      obtain rfl := Option.some.inj H
      exact ret_z C G rfl rfl dX6_hasBelowZero_32
    · have H := if_f H c1
      refine lv_aload_n hx hb dX6_hasBelowZero_11 rfl (lv_at hl 0 rfl) ?_
      refine va_get (D := D) (ci := 6) (v := .ref (aAd 3)) (C := RX6) (T := TX6) (N := 3) hx hb hts hiX6 hown hK G.1 0 rfl rfl 0 (by decide) lk0 (fun _ h9 => h9) rfl dX6_hasBelowZero_12 ?_
      refine lv_iload_n hx hb dX6_hasBelowZero_15 rfl (lv_at hl 1 rfl) ?_
      obtain ⟨hb2, H⟩ := gd_some H
      refine g_aald (x := bAd 0) hx hb hK G.1 3 5 rfl rfl rfl hb2 (hg1 hb2) dX6_hasBelowZero_16 ?_
      refine lv_iload hx hb dX6_hasBelowZero_17 (lv_at hl 4 rfl) ?_
      obtain ⟨hb3, H⟩ := gd_some H
      refine g_iald (v := b_itm (ix x4)) hx hb hK G.1 4 1 rfl rfl hb3 rfl dX6_hasBelowZero_19 ?_
      refine lv_if_ge (tgt := 25) hx hb dX6_hasBelowZero_20 (by decide) (fun c4 => ?_) (fun c4 => ?_)
      · have H := if_t H c4
        refine lv_iinc (v := x4 + 1) (lv' := [(4, .int (x4 + 1)), (0, .ref (aAd 0)), (1, .int x1), (2, .int x2), (3, .int x3)]) hx hb dX6_hasBelowZero_25 hl (k := 4) rfl rfl (by decide) rfl (fun ls hl => ?_)
        refine lv_goto (tgt := 3) hx hb dX6_hasBelowZero_28 (by decide) ?_
        exact ih (x4 + 1) z H _ _ _ G (lv_sub hl [1, 2, 3, 4, 0] rfl)
      · have H := if_f H c4
        refine lv_iconst (v := 1) hx hb dX6_hasBelowZero_23 (by decide) ?_
        obtain rfl := Option.some.inj H
        exact ret_z C G rfl rfl dX6_hasBelowZero_24
def f_X6_hasBelowZero_m (b_itm : Nat → Int32) (p1 p2 p3 : Int32) : Option Int32 := f_X6_hasBelowZero_m_L3 b_itm p1 p2 p3 2000 p2
set_option maxHeartbeats 4000000 in
set_option maxRecDepth 100000 in
theorem c_X6_hasBelowZero_m (l : Launch) (D : va_G) (cy : Nat → ClassId) (aAd : Nat → Nat) (bAd : Nat → Nat) (a_GI : Nat → Option Nat) (a_lan a_siz b_itm : Nat → Int32) (p1 p2 p3 : Int32) (hg1 : inb p1 8 = true → a_GI (ix p1) = some (bAd 0)) (z : Int32) (hz : f_X6_hasBelowZero_m b_itm p1 p2 p3 = some z) : MI l yX6_hasBelowZero wsX6_hasBelowZero ({ frames := 0, cells := 0, slots := 0, locals := 0 } : Room) D cy [.ref (aAd 0), .int p1, .int p2, .int p3] (w_Rows cy aAd a_GI a_lan a_siz ++ w_Itm cy bAd b_itm) z (w_Rows cy aAd a_GI a_lan a_siz ++ w_Itm cy bAd b_itm) := by
  refine met_start (Qf := fun A => MQi D cy z (w_Rows cy aAd a_GI a_lan a_siz ++ w_Itm cy bAd b_itm) A) (cc := cX6_hasBelowZero) (nL := 5) (ret := (some .boolean)) RX6 rfl (by decide) rfl (Nat.le_of_ble_eq_true rfl) ?_
  intro p e s m below meth c A ls C G hl
  have hl : lv_has ls 5 [(0, .ref (aAd 0)), (1, .int p1), (2, .int p2), (3, .int p3)] := hl
  have H := hz
  unfold f_X6_hasBelowZero_m at H
  obtain ⟨hx, hb, hr, hml, hown, hts, hlk, hK, hA, hE⟩ := id C
  refine lv_iload_n hx hb dX6_hasBelowZero_0 rfl (lv_at hl 2 rfl) ?_
  refine lv_istore (lv' := [(4, .int p2), (0, .ref (aAd 0)), (1, .int p1), (2, .int p2), (3, .int p3)]) hx hb dX6_hasBelowZero_1 hl (by decide) rfl (fun ls hl => ?_)
  exact wl_X6_hasBelowZero_m_3 C aAd bAd a_GI a_lan a_siz b_itm p1 p2 p3 hg1 _ p2 z H _ _ _ G (lv_sub hl [1, 2, 3, 4, 0] rfl)
def f_X5_keep_m (a_nxt a_kep b_hour : Int32) (b_dep b_arr b_deb : Nat → Int32) (c_hour : Int32) (c_dep c_arr c_deb : Nat → Int32) : Option (Int32 × Int32 × Int32 × (Nat → Int32) × (Nat → Int32) × (Nat → Int32)) := gd (inb a_nxt 24) (bd (f_X3_takeFrom c_hour c_dep c_arr c_deb b_hour b_dep b_arr b_deb) (fun z2 => some ((a_nxt + 1) - (a_nxt + 1) / 24 * 24, if 24 < (a_kep + 1) then 24 else a_kep + 1, z2.1, z2.2.1, z2.2.2.1, z2.2.2.2)))
set_option maxHeartbeats 4000000 in
set_option maxRecDepth 100000 in
theorem c_X5_keep_m (l : Launch) (D : va_G) (cy : Nat → ClassId) (aAd : Nat → Nat) (bAd : Nat → Nat) (cAd : Nat → Nat) (a_GR : Nat → Option Nat) (a_nxt a_kep b_hour : Int32) (b_dep b_arr b_deb : Nat → Int32) (c_hour : Int32) (c_dep c_arr c_deb : Nat → Int32) (hg2 : inb a_nxt 24 = true → a_GR (ix a_nxt) = some (cAd 0)) (z : (Int32 × Int32 × Int32 × (Nat → Int32) × (Nat → Int32) × (Nat → Int32))) (hz : f_X5_keep_m a_nxt a_kep b_hour b_dep b_arr b_deb c_hour c_dep c_arr c_deb = some z) : MV l yX5_keep wsX5_keep ({ frames := 2, cells := 0, slots := 0, locals := 81 } : Room) D cy [.ref (aAd 0), .ref (bAd 0)] (w_Past cy aAd a_GR a_nxt a_kep ++ w_Led cy bAd b_hour b_dep b_arr b_deb ++ w_Led cy cAd c_hour c_dep c_arr c_deb) (w_Past cy aAd a_GR z.1 z.2.1 ++ w_Led cy bAd b_hour b_dep b_arr b_deb ++ w_Led cy cAd z.2.2.1 z.2.2.2.1 z.2.2.2.2.1 z.2.2.2.2.2) := by
  refine met_start (Qf := fun A => MQv D cy (w_Past cy aAd a_GR z.1 z.2.1 ++ w_Led cy bAd b_hour b_dep b_arr b_deb ++ w_Led cy cAd z.2.2.1 z.2.2.2.1 z.2.2.2.2.1 z.2.2.2.2.2) A) (cc := cX5_keep) (nL := 2) (ret := none) RX5 rfl (by decide) rfl (Nat.le_of_ble_eq_true rfl) ?_
  intro p e s m below meth c A ls C G hl
  have hl : lv_has ls 2 [(0, .ref (aAd 0)), (1, .ref (bAd 0))] := hl
  have H := hz
  unfold f_X5_keep_m at H
  obtain ⟨hx, hb, hr, hml, hown, hts, hlk, hK, hA, hE⟩ := id C
  have lk0 := hts (Cond.fieldLink RX5 11 "TideDebts$Past" "ledgers" "[LTideDebts$Ledger;") (List.mem_of_getElem? (i := 1) rfl)
  have lk1 := hts (Cond.fieldLink RX5 18 "TideDebts$Past" "next" "I") (List.mem_of_getElem? (i := 2) rfl)
  have lk2 := hts (Cond.fieldLink RX5 26 "TideDebts$Past" "kept" "I") (List.mem_of_getElem? (i := 3) rfl)
  have lk3 := hts (Cond.methodLink RX5 29 Lib.Math.min.name) (List.mem_of_getElem? (i := 4) rfl)
  have lk4 := hts (Cond.static Lib.Math.min.name) (List.mem_of_getElem? (i := 5) rfl)
  have lk5 := hts (Cond.initialized "java/lang/Math") (List.mem_of_getElem? (i := 6) rfl)
  have lk6 := hts (Cond.code Lib.Math.min.name Lib.Math.min.code 2 (some .int)) (List.mem_of_getElem? (i := 7) rfl)
  have hiX5 : ∀ w ∈ u_ws RX5 TX5 3, w ∈ wsX5_keep := fun _ h => List.mem_cons_of_mem _ (List.mem_append_left _ (List.mem_append_right _ h))
  refine lv_aload_n hx hb dX5_keep_0 rfl (lv_at hl 0 rfl) ?_
  refine va_get (D := D) (ci := 5) (v := .ref (aAd 1)) (C := RX5) (T := TX5) (N := 3) hx hb hts hiX5 hown hK G.1 0 rfl rfl 0 (by decide) lk0 (fun _ h9 => h9) rfl dX5_keep_1 ?_
  refine lv_aload_n hx hb dX5_keep_4 rfl (lv_at hl 0 rfl) ?_
  refine va_get (D := D) (ci := 5) (v := .int a_nxt) (C := RX5) (T := TX5) (N := 3) hx hb hts hiX5 hown hK G.1 0 rfl rfl 1 (by decide) lk1 (fun _ h9 => h9) rfl dX5_keep_5 ?_
  obtain ⟨hb1, H⟩ := gd_some H
  refine g_aald (x := cAd 0) hx hb hK G.1 1 4 rfl rfl rfl hb1 (hg2 hb1) dX5_keep_8 ?_
  refine lv_aload_n hx hb dX5_keep_9 rfl (lv_at hl 1 rfl) ?_
  obtain ⟨z2, hz2, H⟩ := bd_some H
  refine MV.callV [.ref (bAd 0)] [] [6, 7, 8, 9, 2, 3, 4, 5] C G (c_X3_takeFrom l D cy cAd bAd c_hour c_dep c_arr c_deb b_hour b_dep b_arr b_deb z2 hz2) gX5_keep_X3_takeFrom rfl rfl rfl (n := 1) (by decide +kernel) ⟨Nat.le_of_ble_eq_true rfl, Nat.le_of_ble_eq_true rfl⟩ (q0 := 6) (ci := 3) rfl rfl rfl rfl rfl rfl rfl hl.1 rfl (Nat.le_of_ble_eq_true rfl) dX5_keep_10 ⟨Nat.zero_le _, Nat.zero_le _⟩ (fun U locs G => ?_)
  have G : Gd D A s (w_Past cy aAd a_GR a_nxt a_kep ++ w_Led cy bAd b_hour b_dep b_arr b_deb ++ w_Led cy cAd z2.1 z2.2.1 z2.2.2.1 z2.2.2.2) U locs := G
  refine lv_aload_n hx hb dX5_keep_13 rfl (lv_at hl 0 rfl) ?_
  refine lv_aload_n hx hb dX5_keep_14 rfl (lv_at hl 0 rfl) ?_
  refine va_get (D := D) (ci := 5) (v := .int a_nxt) (C := RX5) (T := TX5) (N := 3) hx hb hts hiX5 hown hK G.1 0 rfl rfl 1 (by decide) lk1 (fun _ h9 => h9) rfl dX5_keep_15 ?_
  refine lv_iconst (v := 1) hx hb dX5_keep_18 (by decide) ?_
  refine lv_iadd hx hb dX5_keep_19 ?_
  refine lv_bipush (v := 24) hx hb dX5_keep_20 (by decide) ?_
  refine lv_irem hx hb dX5_keep_22 (by decide) ?_
  refine va_put (D := D) (ci := 5) (v := .int ((a_nxt + 1) - (a_nxt + 1) / 24 * 24)) (ty := .int) (C := RX5) (T := TX5) (N := 3) hx hb hts hiX5 tyX5 tyX5_ok nmX5 hown hK G.1 G.2.1 G.2.2 0 rfl rfl 1 (by decide) lk1 (fun _ h9 => h9) rfl (tyX5_ok 1 (by decide)) rfl rfl (Nat.le_of_ble_eq_true rfl) dX5_keep_23 (fun U locs hP hD hS => ?_)
  have G : Gd D A s (w_Past cy aAd a_GR ((a_nxt + 1) - (a_nxt + 1) / 24 * 24) a_kep ++ w_Led cy bAd b_hour b_dep b_arr b_deb ++ w_Led cy cAd z2.1 z2.2.1 z2.2.2.1 z2.2.2.2) U locs := ⟨hP, hD, hS⟩
  refine lv_aload_n hx hb dX5_keep_26 rfl (lv_at hl 0 rfl) ?_
  refine lv_aload_n hx hb dX5_keep_27 rfl (lv_at hl 0 rfl) ?_
  refine va_get (D := D) (ci := 5) (v := .int a_kep) (C := RX5) (T := TX5) (N := 3) hx hb hts hiX5 hown hK G.1 0 rfl rfl 2 (by decide) lk2 (fun _ h9 => h9) rfl dX5_keep_28 ?_
  refine lv_iconst (v := 1) hx hb dX5_keep_31 (by decide) ?_
  refine lv_iadd hx hb dX5_keep_32 ?_
  refine lv_bipush (v := 24) hx hb dX5_keep_33 (by decide) ?_
  refine va_mmin hx hb (hml.trans hl.1.symm) hown lk3 lk4 lk5 lk6 (Nat.le_of_ble_eq_true rfl) (Nat.le_of_ble_eq_true rfl) (Nat.zero_le _) (Nat.zero_le _) dX5_keep_35 ?_
  refine va_put (D := D) (ci := 5) (v := .int (if 24 < (a_kep + 1) then 24 else a_kep + 1)) (ty := .int) (C := RX5) (T := TX5) (N := 3) hx hb hts hiX5 tyX5 tyX5_ok nmX5 hown hK G.1 G.2.1 G.2.2 0 rfl rfl 2 (by decide) lk2 (fun _ h9 => h9) rfl (tyX5_ok 2 (by decide)) rfl rfl (Nat.le_of_ble_eq_true rfl) dX5_keep_38 (fun U locs hP hD hS => ?_)
  have G : Gd D A s (w_Past cy aAd a_GR ((a_nxt + 1) - (a_nxt + 1) / 24 * 24) (if 24 < (a_kep + 1) then 24 else a_kep + 1) ++ w_Led cy bAd b_hour b_dep b_arr b_deb ++ w_Led cy cAd z2.1 z2.2.1 z2.2.2.1 z2.2.2.2) U locs := ⟨hP, hD, hS⟩
  obtain rfl := Option.some.inj H
  exact ret_v C G dX5_keep_41
def f_X5_giveBack_m (a_nxt a_kep b_hour : Int32) (b_dep b_arr b_deb : Nat → Int32) (c_hour : Int32) (c_dep c_arr c_deb : Nat → Int32) : Option (Int32 × Int32 × Int32 × (Nat → Int32) × (Nat → Int32) × (Nat → Int32)) := nm (((a_nxt + 24) - 1) - ((a_nxt + 24) - 1) / 24 * 24) (fun v_1 => gd (inb v_1 24) (bd (f_X3_takeFrom b_hour b_dep b_arr b_deb c_hour c_dep c_arr c_deb) (fun z3 => some (v_1, a_kep - 1, z3.1, z3.2.1, z3.2.2.1, z3.2.2.2))))
set_option maxHeartbeats 4000000 in
set_option maxRecDepth 100000 in
theorem c_X5_giveBack_m (l : Launch) (D : va_G) (cy : Nat → ClassId) (aAd : Nat → Nat) (bAd : Nat → Nat) (cAd : Nat → Nat) (a_GR : Nat → Option Nat) (a_nxt a_kep b_hour : Int32) (b_dep b_arr b_deb : Nat → Int32) (c_hour : Int32) (c_dep c_arr c_deb : Nat → Int32) (hg2 : inb (a_nxt + 24 - 1 - (a_nxt + 24 - 1) / 24 * 24) 24 = true → a_GR (ix (a_nxt + 24 - 1 - (a_nxt + 24 - 1) / 24 * 24)) = some (cAd 0)) (z : (Int32 × Int32 × Int32 × (Nat → Int32) × (Nat → Int32) × (Nat → Int32))) (hz : f_X5_giveBack_m a_nxt a_kep b_hour b_dep b_arr b_deb c_hour c_dep c_arr c_deb = some z) : MV l yX5_giveBack wsX5_giveBack ({ frames := 2, cells := 0, slots := 0, locals := 81 } : Room) D cy [.ref (aAd 0), .ref (bAd 0)] (w_Past cy aAd a_GR a_nxt a_kep ++ w_Led cy bAd b_hour b_dep b_arr b_deb ++ w_Led cy cAd c_hour c_dep c_arr c_deb) (w_Past cy aAd a_GR z.1 z.2.1 ++ w_Led cy bAd z.2.2.1 z.2.2.2.1 z.2.2.2.2.1 z.2.2.2.2.2 ++ w_Led cy cAd c_hour c_dep c_arr c_deb) := by
  refine met_start (Qf := fun A => MQv D cy (w_Past cy aAd a_GR z.1 z.2.1 ++ w_Led cy bAd z.2.2.1 z.2.2.2.1 z.2.2.2.2.1 z.2.2.2.2.2 ++ w_Led cy cAd c_hour c_dep c_arr c_deb) A) (cc := cX5_giveBack) (nL := 2) (ret := none) RX5 rfl (by decide) rfl (Nat.le_of_ble_eq_true rfl) ?_
  intro p e s m below meth c A ls C G hl
  have hl : lv_has ls 2 [(0, .ref (aAd 0)), (1, .ref (bAd 0))] := hl
  have H := hz
  unfold f_X5_giveBack_m at H
  obtain ⟨hx, hb, hr, hml, hown, hts, hlk, hK, hA, hE⟩ := id C
  have lk0 := hts (Cond.fieldLink RX5 18 "TideDebts$Past" "next" "I") (List.mem_of_getElem? (i := 1) rfl)
  have lk1 := hts (Cond.fieldLink RX5 26 "TideDebts$Past" "kept" "I") (List.mem_of_getElem? (i := 2) rfl)
  have lk2 := hts (Cond.fieldLink RX5 11 "TideDebts$Past" "ledgers" "[LTideDebts$Ledger;") (List.mem_of_getElem? (i := 3) rfl)
  have hiX5 : ∀ w ∈ u_ws RX5 TX5 3, w ∈ wsX5_giveBack := fun _ h => List.mem_cons_of_mem _ (List.mem_append_left _ (List.mem_append_right _ h))
  refine lv_aload_n hx hb dX5_giveBack_0 rfl (lv_at hl 0 rfl) ?_
  refine lv_aload_n hx hb dX5_giveBack_1 rfl (lv_at hl 0 rfl) ?_
  refine va_get (D := D) (ci := 5) (v := .int a_nxt) (C := RX5) (T := TX5) (N := 3) hx hb hts hiX5 hown hK G.1 0 rfl rfl 1 (by decide) lk0 (fun _ h9 => h9) rfl dX5_giveBack_2 ?_
  refine lv_bipush (v := 24) hx hb dX5_giveBack_5 (by decide) ?_
  refine lv_iadd hx hb dX5_giveBack_7 ?_
  refine lv_iconst (v := 1) hx hb dX5_giveBack_8 (by decide) ?_
  refine lv_isub hx hb dX5_giveBack_9 ?_
  refine lv_bipush (v := 24) hx hb dX5_giveBack_10 (by decide) ?_
  refine lv_irem hx hb dX5_giveBack_12 (by decide) ?_
  refine lv_topi (fun v_1 ev_1 => ?_)
  have H := nm_h H ev_1
  refine va_put (D := D) (ci := 5) (v := .int v_1) (ty := .int) (C := RX5) (T := TX5) (N := 3) hx hb hts hiX5 tyX5 tyX5_ok nmX5 hown hK G.1 G.2.1 G.2.2 0 rfl rfl 1 (by decide) lk0 (fun _ h9 => h9) rfl (tyX5_ok 1 (by decide)) rfl rfl (Nat.le_of_ble_eq_true rfl) dX5_giveBack_13 (fun U locs hP hD hS => ?_)
  have G : Gd D A s (w_Past cy aAd a_GR v_1 a_kep ++ w_Led cy bAd b_hour b_dep b_arr b_deb ++ w_Led cy cAd c_hour c_dep c_arr c_deb) U locs := ⟨hP, hD, hS⟩
  refine lv_aload_n hx hb dX5_giveBack_16 rfl (lv_at hl 0 rfl) ?_
  refine lv_dup hx hb dX5_giveBack_17 rfl ?_
  refine va_get (D := D) (ci := 5) (v := .int a_kep) (C := RX5) (T := TX5) (N := 3) hx hb hts hiX5 hown hK G.1 0 rfl rfl 2 (by decide) lk1 (fun _ h9 => h9) rfl dX5_giveBack_18 ?_
  refine lv_iconst (v := 1) hx hb dX5_giveBack_21 (by decide) ?_
  refine lv_isub hx hb dX5_giveBack_22 ?_
  refine va_put (D := D) (ci := 5) (v := .int (a_kep - 1)) (ty := .int) (C := RX5) (T := TX5) (N := 3) hx hb hts hiX5 tyX5 tyX5_ok nmX5 hown hK G.1 G.2.1 G.2.2 0 rfl rfl 2 (by decide) lk1 (fun _ h9 => h9) rfl (tyX5_ok 2 (by decide)) rfl rfl (Nat.le_of_ble_eq_true rfl) dX5_giveBack_23 (fun U locs hP hD hS => ?_)
  have G : Gd D A s (w_Past cy aAd a_GR v_1 (a_kep - 1) ++ w_Led cy bAd b_hour b_dep b_arr b_deb ++ w_Led cy cAd c_hour c_dep c_arr c_deb) U locs := ⟨hP, hD, hS⟩
  refine lv_aload_n hx hb dX5_giveBack_26 rfl (lv_at hl 1 rfl) ?_
  refine lv_aload_n hx hb dX5_giveBack_27 rfl (lv_at hl 0 rfl) ?_
  refine va_get (D := D) (ci := 5) (v := .ref (aAd 1)) (C := RX5) (T := TX5) (N := 3) hx hb hts hiX5 hown hK G.1 0 rfl rfl 0 (by decide) lk2 (fun _ h9 => h9) rfl dX5_giveBack_28 ?_
  refine lv_aload_n hx hb dX5_giveBack_31 rfl (lv_at hl 0 rfl) ?_
  refine va_get (D := D) (ci := 5) (v := .int v_1) (C := RX5) (T := TX5) (N := 3) hx hb hts hiX5 hown hK G.1 0 rfl rfl 1 (by decide) lk0 (fun _ h9 => h9) rfl dX5_giveBack_32 ?_
  obtain ⟨hb2, H⟩ := gd_some H
  refine g_aald (x := cAd 0) hx hb hK G.1 1 4 rfl rfl rfl hb2 (by rw [ev_1]; exact hg2 (by rw [← ev_1]; exact hb2)) dX5_giveBack_35 ?_
  obtain ⟨z3, hz3, H⟩ := bd_some H
  refine MV.callV [.ref (cAd 0)] [] [2, 3, 4, 5, 6, 7, 8, 9] C G (c_X3_takeFrom l D cy bAd cAd b_hour b_dep b_arr b_deb c_hour c_dep c_arr c_deb z3 hz3) gX5_giveBack_X3_takeFrom rfl rfl rfl (n := 1) (by decide +kernel) ⟨Nat.le_of_ble_eq_true rfl, Nat.le_of_ble_eq_true rfl⟩ (q0 := 2) (ci := 3) rfl rfl rfl rfl rfl rfl rfl hl.1 rfl (Nat.le_of_ble_eq_true rfl) dX5_giveBack_36 ⟨Nat.zero_le _, Nat.zero_le _⟩ (fun U locs G => ?_)
  have G : Gd D A s (w_Past cy aAd a_GR v_1 (a_kep - 1) ++ w_Led cy bAd z3.1 z3.2.1 z3.2.2.1 z3.2.2.2 ++ w_Led cy cAd c_hour c_dep c_arr c_deb) U locs := G
  obtain rfl := Option.some.inj H
  exact ret_v C G dX5_giveBack_39
