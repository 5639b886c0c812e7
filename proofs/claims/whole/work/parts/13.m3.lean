def f_X9_readWater (leng cursor token start till fault faultAt : Int32) (fresh tape : Nat → Int32) : Option (Int32 × Int32 × Int32 × Int32 × Int32 × Int32 × (Nat → Int32)) := if (fresh 1) = 6 then (bd (f_X9_bad start fault faultAt 3) (fun z30 => bd (f_X9_must leng cursor token start till z30.1 z30.2 tape 1) (fun z31 => bd (f_X9_name z31.2.1 z31.2.2.1 z31.2.2.2.1 z31.2.2.2.2.1 tape) (fun z32 => bd (f_X9_kindBy z32) (fun z33 => if z31.2.2.2.2.1 = 0 then (if z33 = (-1000000) then (bd (f_X9_must leng z31.1 z31.2.1 z31.2.2.1 z31.2.2.2.1 z31.2.2.2.2.1 z31.2.2.2.2.2 tape 0) (fun z43 => bd (f_X9_number leng z43.1 z43.2.1 z43.2.2.1 z43.2.2.2.1 z43.2.2.2.2.1 z43.2.2.2.2.2 tape 0 200) (fun z44 => bd (f_X9_number leng z44.2.1 z44.2.2.1 z44.2.2.2.1 z44.2.2.2.2.1 z44.2.2.2.2.2.1 z44.2.2.2.2.2.2 tape 0 40) (fun z45 => bd (f_X9_mustEnd leng z45.2.1 z45.2.2.1 z45.2.2.2.1 z45.2.2.2.2.1 z45.2.2.2.2.2.1 z45.2.2.2.2.2.2 tape) (fun z46 => if z46.2.2.2.2.1 = 0 then (gd (inb (15 + (4 * (fresh 1))) 75) (gd (inb ((15 + (4 * (fresh 1))) + 1) 75) (gd (inb ((15 + (4 * (fresh 1))) + 3) 75) (some (z46.1, z46.2.1, z46.2.2.1, z46.2.2.2.1, z46.2.2.2.2.1, z46.2.2.2.2.2, upd (upd (upd (upd fresh (ix (15 + (4 * (fresh 1)))) z33) (ix ((15 + (4 * (fresh 1))) + 1)) z44.1) (ix ((15 + (4 * (fresh 1))) + 3)) z45.1) 1 (((upd (upd (upd fresh (ix (15 + (4 * (fresh 1)))) z33) (ix ((15 + (4 * (fresh 1))) + 1)) z44.1) (ix ((15 + (4 * (fresh 1))) + 3)) z45.1) 1) + 1)))))) else (some (z46.1, z46.2.1, z46.2.2.1, z46.2.2.2.1, z46.2.2.2.2.1, z46.2.2.2.2.2, fresh))))))) else (bd (f_X9_must leng z31.1 z31.2.1 z31.2.2.1 z31.2.2.2.1 z31.2.2.2.2.1 z31.2.2.2.2.2 tape 1) (fun z51 => bd (f_X9_number leng z51.1 z51.2.1 z51.2.2.1 z51.2.2.2.1 z51.2.2.2.2.1 z51.2.2.2.2.2 tape 0 200) (fun z52 => bd (f_X9_number leng z52.2.1 z52.2.2.1 z52.2.2.2.1 z52.2.2.2.2.1 z52.2.2.2.2.2.1 z52.2.2.2.2.2.2 tape 0 40) (fun z53 => bd (f_X9_mustEnd leng z53.2.1 z53.2.2.1 z53.2.2.2.1 z53.2.2.2.2.1 z53.2.2.2.2.2.1 z53.2.2.2.2.2.2 tape) (fun z54 => if z54.2.2.2.2.1 = 0 then (gd (inb (15 + (4 * (fresh 1))) 75) (gd (inb ((15 + (4 * (fresh 1))) + 1) 75) (gd (inb ((15 + (4 * (fresh 1))) + 3) 75) (some (z54.1, z54.2.1, z54.2.2.1, z54.2.2.2.1, z54.2.2.2.2.1, z54.2.2.2.2.2, upd (upd (upd (upd fresh (ix (15 + (4 * (fresh 1)))) z33) (ix ((15 + (4 * (fresh 1))) + 1)) z52.1) (ix ((15 + (4 * (fresh 1))) + 3)) z53.1) 1 (((upd (upd (upd fresh (ix (15 + (4 * (fresh 1)))) z33) (ix ((15 + (4 * (fresh 1))) + 1)) z52.1) (ix ((15 + (4 * (fresh 1))) + 3)) z53.1) 1) + 1)))))) else (some (z54.1, z54.2.1, z54.2.2.1, z54.2.2.2.1, z54.2.2.2.2.1, z54.2.2.2.2.2, fresh)))))))) else (bd (f_X9_number leng z31.1 z31.2.1 z31.2.2.1 z31.2.2.2.1 z31.2.2.2.2.1 z31.2.2.2.2.2 tape 0 200) (fun z35 => bd (f_X9_number leng z35.2.1 z35.2.2.1 z35.2.2.2.1 z35.2.2.2.2.1 z35.2.2.2.2.2.1 z35.2.2.2.2.2.2 tape 0 40) (fun z36 => bd (f_X9_mustEnd leng z36.2.1 z36.2.2.1 z36.2.2.2.1 z36.2.2.2.2.1 z36.2.2.2.2.2.1 z36.2.2.2.2.2.2 tape) (fun z37 => if z37.2.2.2.2.1 = 0 then (gd (inb (15 + (4 * (fresh 1))) 75) (gd (inb ((15 + (4 * (fresh 1))) + 1) 75) (gd (inb ((15 + (4 * (fresh 1))) + 3) 75) (some (z37.1, z37.2.1, z37.2.2.1, z37.2.2.2.1, z37.2.2.2.2.1, z37.2.2.2.2.2, upd (upd (upd (upd fresh (ix (15 + (4 * (fresh 1)))) z33) (ix ((15 + (4 * (fresh 1))) + 1)) z35.1) (ix ((15 + (4 * (fresh 1))) + 3)) z36.1) 1 (((upd (upd (upd fresh (ix (15 + (4 * (fresh 1)))) z33) (ix ((15 + (4 * (fresh 1))) + 1)) z35.1) (ix ((15 + (4 * (fresh 1))) + 3)) z36.1) 1) + 1)))))) else (some (z37.1, z37.2.1, z37.2.2.1, z37.2.2.2.1, z37.2.2.2.2.1, z37.2.2.2.2.2, fresh))))))))))) else (bd (f_X9_must leng cursor token start till fault faultAt tape 1) (fun z2 => bd (f_X9_name z2.2.1 z2.2.2.1 z2.2.2.2.1 z2.2.2.2.2.1 tape) (fun z3 => bd (f_X9_kindBy z3) (fun z4 => if z2.2.2.2.2.1 = 0 then (if z4 = (-1000000) then (bd (f_X9_must leng z2.1 z2.2.1 z2.2.2.1 z2.2.2.2.1 z2.2.2.2.2.1 z2.2.2.2.2.2 tape 0) (fun z14 => bd (f_X9_number leng z14.1 z14.2.1 z14.2.2.1 z14.2.2.2.1 z14.2.2.2.2.1 z14.2.2.2.2.2 tape 0 200) (fun z15 => bd (f_X9_number leng z15.2.1 z15.2.2.1 z15.2.2.2.1 z15.2.2.2.2.1 z15.2.2.2.2.2.1 z15.2.2.2.2.2.2 tape 0 40) (fun z16 => bd (f_X9_mustEnd leng z16.2.1 z16.2.2.1 z16.2.2.2.1 z16.2.2.2.2.1 z16.2.2.2.2.2.1 z16.2.2.2.2.2.2 tape) (fun z17 => if z17.2.2.2.2.1 = 0 then (gd (inb (15 + (4 * (fresh 1))) 75) (gd (inb ((15 + (4 * (fresh 1))) + 1) 75) (gd (inb ((15 + (4 * (fresh 1))) + 3) 75) (some (z17.1, z17.2.1, z17.2.2.1, z17.2.2.2.1, z17.2.2.2.2.1, z17.2.2.2.2.2, upd (upd (upd (upd fresh (ix (15 + (4 * (fresh 1)))) z4) (ix ((15 + (4 * (fresh 1))) + 1)) z15.1) (ix ((15 + (4 * (fresh 1))) + 3)) z16.1) 1 (((upd (upd (upd fresh (ix (15 + (4 * (fresh 1)))) z4) (ix ((15 + (4 * (fresh 1))) + 1)) z15.1) (ix ((15 + (4 * (fresh 1))) + 3)) z16.1) 1) + 1)))))) else (some (z17.1, z17.2.1, z17.2.2.1, z17.2.2.2.1, z17.2.2.2.2.1, z17.2.2.2.2.2, fresh))))))) else (bd (f_X9_must leng z2.1 z2.2.1 z2.2.2.1 z2.2.2.2.1 z2.2.2.2.2.1 z2.2.2.2.2.2 tape 1) (fun z22 => bd (f_X9_number leng z22.1 z22.2.1 z22.2.2.1 z22.2.2.2.1 z22.2.2.2.2.1 z22.2.2.2.2.2 tape 0 200) (fun z23 => bd (f_X9_number leng z23.2.1 z23.2.2.1 z23.2.2.2.1 z23.2.2.2.2.1 z23.2.2.2.2.2.1 z23.2.2.2.2.2.2 tape 0 40) (fun z24 => bd (f_X9_mustEnd leng z24.2.1 z24.2.2.1 z24.2.2.2.1 z24.2.2.2.2.1 z24.2.2.2.2.2.1 z24.2.2.2.2.2.2 tape) (fun z25 => if z25.2.2.2.2.1 = 0 then (gd (inb (15 + (4 * (fresh 1))) 75) (gd (inb ((15 + (4 * (fresh 1))) + 1) 75) (gd (inb ((15 + (4 * (fresh 1))) + 3) 75) (some (z25.1, z25.2.1, z25.2.2.1, z25.2.2.2.1, z25.2.2.2.2.1, z25.2.2.2.2.2, upd (upd (upd (upd fresh (ix (15 + (4 * (fresh 1)))) z4) (ix ((15 + (4 * (fresh 1))) + 1)) z23.1) (ix ((15 + (4 * (fresh 1))) + 3)) z24.1) 1 (((upd (upd (upd fresh (ix (15 + (4 * (fresh 1)))) z4) (ix ((15 + (4 * (fresh 1))) + 1)) z23.1) (ix ((15 + (4 * (fresh 1))) + 3)) z24.1) 1) + 1)))))) else (some (z25.1, z25.2.1, z25.2.2.1, z25.2.2.2.1, z25.2.2.2.2.1, z25.2.2.2.2.2, fresh)))))))) else (bd (f_X9_number leng z2.1 z2.2.1 z2.2.2.1 z2.2.2.2.1 z2.2.2.2.2.1 z2.2.2.2.2.2 tape 0 200) (fun z6 => bd (f_X9_number leng z6.2.1 z6.2.2.1 z6.2.2.2.1 z6.2.2.2.2.1 z6.2.2.2.2.2.1 z6.2.2.2.2.2.2 tape 0 40) (fun z7 => bd (f_X9_mustEnd leng z7.2.1 z7.2.2.1 z7.2.2.2.1 z7.2.2.2.2.1 z7.2.2.2.2.2.1 z7.2.2.2.2.2.2 tape) (fun z8 => if z8.2.2.2.2.1 = 0 then (gd (inb (15 + (4 * (fresh 1))) 75) (gd (inb ((15 + (4 * (fresh 1))) + 1) 75) (gd (inb ((15 + (4 * (fresh 1))) + 3) 75) (some (z8.1, z8.2.1, z8.2.2.1, z8.2.2.2.1, z8.2.2.2.2.1, z8.2.2.2.2.2, upd (upd (upd (upd fresh (ix (15 + (4 * (fresh 1)))) z4) (ix ((15 + (4 * (fresh 1))) + 1)) z6.1) (ix ((15 + (4 * (fresh 1))) + 3)) z7.1) 1 (((upd (upd (upd fresh (ix (15 + (4 * (fresh 1)))) z4) (ix ((15 + (4 * (fresh 1))) + 1)) z6.1) (ix ((15 + (4 * (fresh 1))) + 3)) z7.1) 1) + 1)))))) else (some (z8.1, z8.2.1, z8.2.2.1, z8.2.2.2.1, z8.2.2.2.2.1, z8.2.2.2.2.2, fresh))))))))))
set_option maxHeartbeats 4000000 in
set_option maxRecDepth 100000 in
theorem c_X9_readWater (l : Launch) (D : va_G) (cy : Nat → ClassId) (mAd : Nat → Nat) (thrown status acts taped latest leng cursor token start till fault faultAt gifts traced : Int32) (lane many item bay fresh thn was tape left gift isKept kept trace : Nat → Int32) (z : (Int32 × Int32 × Int32 × Int32 × Int32 × Int32 × (Nat → Int32))) (hz : f_X9_readWater leng cursor token start till fault faultAt fresh tape = some z) : MV l yX9_readWater wsX9_readWater ({ frames := 4, cells := 0, slots := 0, locals := 86 } : Room) D cy [.ref (mAd 0)] (w_M cy mAd thrown status acts taped latest leng cursor token start till fault faultAt gifts traced lane many item bay fresh thn was tape left gift isKept kept trace) (w_M cy mAd thrown status acts taped latest leng z.1 z.2.1 z.2.2.1 z.2.2.2.1 z.2.2.2.2.1 z.2.2.2.2.2.1 gifts traced lane many item bay z.2.2.2.2.2.2 thn was tape left gift isKept kept trace) := by
  refine met_start (Qf := fun A => MQv D cy (w_M cy mAd thrown status acts taped latest leng z.1 z.2.1 z.2.2.1 z.2.2.2.1 z.2.2.2.2.1 z.2.2.2.2.2.1 gifts traced lane many item bay z.2.2.2.2.2.2 thn was tape left gift isKept kept trace) A) (cc := cX9_readWater) (nL := 5) (ret := none) RX9 rfl (by decide) rfl (Nat.le_of_ble_eq_true rfl) ?_
  intro p e s m below meth c A ls C G hl
  have hl : lv_has ls 5 [(0, .ref (mAd 0))] := hl
  have H := hz
  unfold f_X9_readWater at H
  obtain ⟨hx, hb, hr, hml, hown, hts, hlk, hK, hA, hE⟩ := id C
  have lk0 := hts (Cond.fieldLink RX9 22 "TideDebtsModel" "fresh" "[I") (List.mem_of_getElem? (i := 1) rfl)
  have lk1 := hts (Cond.fieldLink RX9 108 "TideDebtsModel" "fault" "I") (List.mem_of_getElem? (i := 2) rfl)
  have lk2 := hts (Cond.constant RX9 86 (-1000000)) (List.mem_of_getElem? (i := 3) rfl)
  have hiX9 : ∀ w ∈ u_ws RX9 TX9 27, w ∈ wsX9_readWater := fun _ h => List.mem_cons_of_mem _ (List.mem_append_right _ h)
  refine lv_aload_n hx hb dX9_readWater_0 rfl (lv_at hl 0 rfl) ?_
  refine va_get (D := D) (ci := 9) (v := .ref (mAd 5)) (C := RX9) (T := TX9) (N := 27) hx hb hts hiX9 hown hK G.1 0 rfl rfl 6 (by decide) lk0 (fun _ h9 => h9) rfl dX9_readWater_1 ?_
  refine lv_iconst (v := 1) hx hb dX9_readWater_4 (by decide) ?_
  refine g_iald (v := fresh 1) hx hb hK G.1 5 1 rfl rfl (by decide) rfl dX9_readWater_5 ?_
  refine lv_bipush (v := 6) hx hb dX9_readWater_6 (by decide) ?_
  refine lv_icmp_ne (tgt := 16) hx hb dX9_readWater_8 (by decide) (fun c1 => ?_) (fun c1 => ?_)
  · have H := if_f H c1
    refine lv_aload_n hx hb dX9_readWater_16 rfl (lv_at hl 0 rfl) ?_
    refine lv_iconst (v := 1) hx hb dX9_readWater_17 (by decide) ?_
    obtain ⟨z2, hz2, H⟩ := bd_some H
    refine MV.callVw [.int 1] [] C G (c_X9_must l D cy mAd thrown status acts taped latest leng cursor token start till fault faultAt gifts traced lane many item bay fresh thn was tape left gift isKept kept trace 1 z2 hz2) gX9_readWater_X9_must rfl rfl rfl (n := 1) (by decide +kernel) ⟨Nat.le_of_ble_eq_true rfl, Nat.le_of_ble_eq_true rfl⟩ (q0 := 0) (ci := 9) rfl rfl rfl rfl hl.1 rfl (Nat.le_of_ble_eq_true rfl) dX9_readWater_18 ⟨Nat.zero_le _, Nat.zero_le _⟩ (fun U locs G => ?_)
    have G : Gd D A s (w_M cy mAd thrown status acts taped latest leng z2.1 z2.2.1 z2.2.2.1 z2.2.2.2.1 z2.2.2.2.2.1 z2.2.2.2.2.2 gifts traced lane many item bay fresh thn was tape left gift isKept kept trace) U locs := G
    refine lv_aload_n hx hb dX9_readWater_21 rfl (lv_at hl 0 rfl) ?_
    obtain ⟨z3, hz3, H⟩ := bd_some H
    refine ML.callVw z3 [] [] C G (c_X9_name l D cy mAd thrown status acts taped latest leng z2.1 z2.2.1 z2.2.2.1 z2.2.2.2.1 z2.2.2.2.2.1 z2.2.2.2.2.2 gifts traced lane many item bay fresh thn was tape left gift isKept kept trace z3 hz3) gX9_readWater_X9_name rfl rfl rfl (n := 0) (by decide +kernel) ⟨Nat.le_of_ble_eq_true rfl, Nat.le_of_ble_eq_true rfl⟩ (q0 := 0) (ci := 9) rfl rfl rfl rfl hl.1 rfl (Nat.le_of_ble_eq_true rfl) dX9_readWater_22 ⟨Nat.zero_le _, Nat.zero_le _⟩ (fun U locs G => ?_)
    have G : Gd D A s (w_M cy mAd thrown status acts taped latest leng z2.1 z2.2.1 z2.2.2.1 z2.2.2.2.1 z2.2.2.2.2.1 z2.2.2.2.2.2 gifts traced lane many item bay fresh thn was tape left gift isKept kept trace) U locs := G
    obtain ⟨z4, hz4, H⟩ := bd_some H
    refine MI.callS z4 [.long z3] [] [] C G (c_X9_kindBy l D cy z3 z4 hz4) gX9_readWater_X9_kindBy rfl rfl rfl (n := 1) (by decide +kernel) ⟨Nat.le_of_ble_eq_true rfl, Nat.le_of_ble_eq_true rfl⟩ rfl rfl rfl rfl hl.1 rfl (Nat.le_of_ble_eq_true rfl) dX9_readWater_25 ⟨Nat.zero_le _, Nat.zero_le _⟩ (fun U locs G => ?_)
    have G : Gd D A s (w_M cy mAd thrown status acts taped latest leng z2.1 z2.2.1 z2.2.2.1 z2.2.2.2.1 z2.2.2.2.2.1 z2.2.2.2.2.2 gifts traced lane many item bay fresh thn was tape left gift isKept kept trace) U locs := G
    refine lv_istore_n (lv' := [(1, .int z4), (0, .ref (mAd 0))]) hx hb dX9_readWater_28 rfl hl (by decide) rfl (fun ls hl => ?_)
    refine lv_aload_n hx hb dX9_readWater_29 rfl (lv_at hl 1 rfl) ?_
    refine va_get (D := D) (ci := 9) (v := .int z2.2.2.2.2.1) (C := RX9) (T := TX9) (N := 27) hx hb hts hiX9 hown hK G.1 0 rfl rfl 18 (by decide) lk1 (fun _ h9 => h9) rfl dX9_readWater_30 ?_
    refine lv_if_ne (tgt := 51) hx hb dX9_readWater_33 (by decide) (fun c5 => ?_) (fun c5 => ?_)
    · have H := if_f H c5
      refine lv_aload_n hx hb dX9_readWater_51 rfl (lv_at hl 1 rfl) ?_
      refine lv_iconst (v := 0) hx hb dX9_readWater_52 (by decide) ?_
      refine lv_sipush (v := 200) hx hb dX9_readWater_53 (by decide) ?_
      obtain ⟨z6, hz6, H⟩ := bd_some H
      refine MI.callVw z6.1 [.int 0, .int 200] [] C G (c_X9_number l D cy mAd thrown status acts taped latest leng z2.1 z2.2.1 z2.2.2.1 z2.2.2.2.1 z2.2.2.2.2.1 z2.2.2.2.2.2 gifts traced lane many item bay fresh thn was tape left gift isKept kept trace 0 200 z6 hz6) gX9_readWater_X9_number rfl rfl rfl (n := 2) (by decide +kernel) ⟨Nat.le_of_ble_eq_true rfl, Nat.le_of_ble_eq_true rfl⟩ (q0 := 0) (ci := 9) rfl rfl rfl rfl hl.1 rfl (Nat.le_of_ble_eq_true rfl) dX9_readWater_56 ⟨Nat.zero_le _, Nat.zero_le _⟩ (fun U locs G => ?_)
      have G : Gd D A s (w_M cy mAd thrown status acts taped latest leng z6.2.1 z6.2.2.1 z6.2.2.2.1 z6.2.2.2.2.1 z6.2.2.2.2.2.1 z6.2.2.2.2.2.2 gifts traced lane many item bay fresh thn was tape left gift isKept kept trace) U locs := G
      refine lv_istore_n (lv' := [(2, .int z6.1), (1, .int z4), (0, .ref (mAd 0))]) hx hb dX9_readWater_59 rfl hl (by decide) rfl (fun ls hl => ?_)
      refine lv_aload_n hx hb dX9_readWater_60 rfl (lv_at hl 2 rfl) ?_
      refine lv_iconst (v := 0) hx hb dX9_readWater_61 (by decide) ?_
      refine lv_bipush (v := 40) hx hb dX9_readWater_62 (by decide) ?_
      obtain ⟨z7, hz7, H⟩ := bd_some H
      refine MI.callVw z7.1 [.int 0, .int 40] [] C G (c_X9_number l D cy mAd thrown status acts taped latest leng z6.2.1 z6.2.2.1 z6.2.2.2.1 z6.2.2.2.2.1 z6.2.2.2.2.2.1 z6.2.2.2.2.2.2 gifts traced lane many item bay fresh thn was tape left gift isKept kept trace 0 40 z7 hz7) gX9_readWater_X9_number rfl rfl rfl (n := 2) (by decide +kernel) ⟨Nat.le_of_ble_eq_true rfl, Nat.le_of_ble_eq_true rfl⟩ (q0 := 0) (ci := 9) rfl rfl rfl rfl hl.1 rfl (Nat.le_of_ble_eq_true rfl) dX9_readWater_64 ⟨Nat.zero_le _, Nat.zero_le _⟩ (fun U locs G => ?_)
      have G : Gd D A s (w_M cy mAd thrown status acts taped latest leng z7.2.1 z7.2.2.1 z7.2.2.2.1 z7.2.2.2.2.1 z7.2.2.2.2.2.1 z7.2.2.2.2.2.2 gifts traced lane many item bay fresh thn was tape left gift isKept kept trace) U locs := G
      refine lv_istore_n (lv' := [(3, .int z7.1), (2, .int z6.1), (1, .int z4), (0, .ref (mAd 0))]) hx hb dX9_readWater_67 rfl hl (by decide) rfl (fun ls hl => ?_)
      refine lv_aload_n hx hb dX9_readWater_68 rfl (lv_at hl 3 rfl) ?_
      obtain ⟨z8, hz8, H⟩ := bd_some H
      refine MV.callVw [] [] C G (c_X9_mustEnd l D cy mAd thrown status acts taped latest leng z7.2.1 z7.2.2.1 z7.2.2.2.1 z7.2.2.2.2.1 z7.2.2.2.2.2.1 z7.2.2.2.2.2.2 gifts traced lane many item bay fresh thn was tape left gift isKept kept trace z8 hz8) gX9_readWater_X9_mustEnd rfl rfl rfl (n := 0) (by decide +kernel) ⟨Nat.le_of_ble_eq_true rfl, Nat.le_of_ble_eq_true rfl⟩ (q0 := 0) (ci := 9) rfl rfl rfl rfl hl.1 rfl (Nat.le_of_ble_eq_true rfl) dX9_readWater_69 ⟨Nat.zero_le _, Nat.zero_le _⟩ (fun U locs G => ?_)
      have G : Gd D A s (w_M cy mAd thrown status acts taped latest leng z8.1 z8.2.1 z8.2.2.1 z8.2.2.2.1 z8.2.2.2.2.1 z8.2.2.2.2.2 gifts traced lane many item bay fresh thn was tape left gift isKept kept trace) U locs := G
      refine lv_aload_n hx hb dX9_readWater_72 rfl (lv_at hl 3 rfl) ?_
      refine va_get (D := D) (ci := 9) (v := .int z8.2.2.2.2.1) (C := RX9) (T := TX9) (N := 27) hx hb hts hiX9 hown hK G.1 0 rfl rfl 18 (by decide) lk1 (fun _ h9 => h9) rfl dX9_readWater_73 ?_
      refine lv_if_ne (tgt := 130) hx hb dX9_readWater_76 (by decide) (fun c9 => ?_) (fun c9 => ?_)
      · have H := if_f H c9
        obtain rfl := Option.some.inj H
        exact ret_v C G dX9_readWater_130
      · have H := if_t H c9
        refine lv_bipush (v := 15) hx hb dX9_readWater_79 (by decide) ?_
        refine lv_iconst (v := 4) hx hb dX9_readWater_81 (by decide) ?_
        refine lv_aload_n hx hb dX9_readWater_82 rfl (lv_at hl 3 rfl) ?_
        refine va_get (D := D) (ci := 9) (v := .ref (mAd 5)) (C := RX9) (T := TX9) (N := 27) hx hb hts hiX9 hown hK G.1 0 rfl rfl 6 (by decide) lk0 (fun _ h9 => h9) rfl dX9_readWater_83 ?_
        refine lv_iconst (v := 1) hx hb dX9_readWater_86 (by decide) ?_
        refine g_iald (v := fresh 1) hx hb hK G.1 5 1 rfl rfl (by decide) rfl dX9_readWater_87 ?_
        refine lv_imul hx hb dX9_readWater_88 ?_
        refine lv_iadd hx hb dX9_readWater_89 ?_
        refine lv_istore (lv' := [(4, .int (15 + (4 * (fresh 1)))), (3, .int z7.1), (2, .int z6.1), (1, .int z4), (0, .ref (mAd 0))]) hx hb dX9_readWater_90 hl (by decide) rfl (fun ls hl => ?_)
        refine lv_aload_n hx hb dX9_readWater_92 rfl (lv_at hl 4 rfl) ?_
        refine va_get (D := D) (ci := 9) (v := .ref (mAd 5)) (C := RX9) (T := TX9) (N := 27) hx hb hts hiX9 hown hK G.1 0 rfl rfl 6 (by decide) lk0 (fun _ h9 => h9) rfl dX9_readWater_93 ?_
        refine lv_iload hx hb dX9_readWater_96 (lv_at hl 0 rfl) ?_
        refine lv_iload_n hx hb dX9_readWater_98 rfl (lv_at hl 3 rfl) ?_
        obtain ⟨hb10, H⟩ := gd_some H
        refine va_iast hx hb hK G.1 G.2.1 G.2.2 5 1 rfl rfl (inb_in hb10) dX9_readWater_99 (fun U locs hP hD hS => ?_)
        have G : Gd D A s (w_M cy mAd thrown status acts taped latest leng z8.1 z8.2.1 z8.2.2.1 z8.2.2.2.1 z8.2.2.2.2.1 z8.2.2.2.2.2 gifts traced lane many item bay (upd fresh (ix (15 + (4 * (fresh 1)))) z4) thn was tape left gift isKept kept trace) U locs := ⟨hP, hD, hS⟩
        refine lv_aload_n hx hb dX9_readWater_100 rfl (lv_at hl 4 rfl) ?_
        refine va_get (D := D) (ci := 9) (v := .ref (mAd 5)) (C := RX9) (T := TX9) (N := 27) hx hb hts hiX9 hown hK G.1 0 rfl rfl 6 (by decide) lk0 (fun _ h9 => h9) rfl dX9_readWater_101 ?_
        refine lv_iload hx hb dX9_readWater_104 (lv_at hl 0 rfl) ?_
        refine lv_iconst (v := 1) hx hb dX9_readWater_106 (by decide) ?_
        refine lv_iadd hx hb dX9_readWater_107 ?_
        refine lv_iload_n hx hb dX9_readWater_108 rfl (lv_at hl 2 rfl) ?_
        obtain ⟨hb11, H⟩ := gd_some H
        refine va_iast hx hb hK G.1 G.2.1 G.2.2 5 1 rfl rfl (inb_in hb11) dX9_readWater_109 (fun U locs hP hD hS => ?_)
        have G : Gd D A s (w_M cy mAd thrown status acts taped latest leng z8.1 z8.2.1 z8.2.2.1 z8.2.2.2.1 z8.2.2.2.2.1 z8.2.2.2.2.2 gifts traced lane many item bay (upd (upd fresh (ix (15 + (4 * (fresh 1)))) z4) (ix ((15 + (4 * (fresh 1))) + 1)) z6.1) thn was tape left gift isKept kept trace) U locs := ⟨hP, hD, hS⟩
        refine lv_aload_n hx hb dX9_readWater_110 rfl (lv_at hl 4 rfl) ?_
        refine va_get (D := D) (ci := 9) (v := .ref (mAd 5)) (C := RX9) (T := TX9) (N := 27) hx hb hts hiX9 hown hK G.1 0 rfl rfl 6 (by decide) lk0 (fun _ h9 => h9) rfl dX9_readWater_111 ?_
        refine lv_iload hx hb dX9_readWater_114 (lv_at hl 0 rfl) ?_
        refine lv_iconst (v := 3) hx hb dX9_readWater_116 (by decide) ?_
        refine lv_iadd hx hb dX9_readWater_117 ?_
        refine lv_iload_n hx hb dX9_readWater_118 rfl (lv_at hl 1 rfl) ?_
        obtain ⟨hb12, H⟩ := gd_some H
        refine va_iast hx hb hK G.1 G.2.1 G.2.2 5 1 rfl rfl (inb_in hb12) dX9_readWater_119 (fun U locs hP hD hS => ?_)
        have G : Gd D A s (w_M cy mAd thrown status acts taped latest leng z8.1 z8.2.1 z8.2.2.1 z8.2.2.2.1 z8.2.2.2.2.1 z8.2.2.2.2.2 gifts traced lane many item bay (upd (upd (upd fresh (ix (15 + (4 * (fresh 1)))) z4) (ix ((15 + (4 * (fresh 1))) + 1)) z6.1) (ix ((15 + (4 * (fresh 1))) + 3)) z7.1) thn was tape left gift isKept kept trace) U locs := ⟨hP, hD, hS⟩
        refine lv_aload_n hx hb dX9_readWater_120 rfl (lv_at hl 4 rfl) ?_
        refine va_get (D := D) (ci := 9) (v := .ref (mAd 5)) (C := RX9) (T := TX9) (N := 27) hx hb hts hiX9 hown hK G.1 0 rfl rfl 6 (by decide) lk0 (fun _ h9 => h9) rfl dX9_readWater_121 ?_
        refine lv_iconst (v := 1) hx hb dX9_readWater_124 (by decide) ?_
        refine lv_dup2_11 hx hb dX9_readWater_125 rfl rfl ?_
        refine g_iald (v := (upd (upd (upd fresh (ix (15 + (4 * (fresh 1)))) z4) (ix ((15 + (4 * (fresh 1))) + 1)) z6.1) (ix ((15 + (4 * (fresh 1))) + 3)) z7.1) 1) hx hb hK G.1 5 1 rfl rfl (by decide) rfl dX9_readWater_126 ?_
        refine lv_iconst (v := 1) hx hb dX9_readWater_127 (by decide) ?_
        refine lv_iadd hx hb dX9_readWater_128 ?_
        refine va_iast hx hb hK G.1 G.2.1 G.2.2 5 1 rfl rfl (inb_in (by decide)) dX9_readWater_129 (fun U locs hP hD hS => ?_)
        have G : Gd D A s (w_M cy mAd thrown status acts taped latest leng z8.1 z8.2.1 z8.2.2.1 z8.2.2.2.1 z8.2.2.2.2.1 z8.2.2.2.2.2 gifts traced lane many item bay (upd (upd (upd (upd fresh (ix (15 + (4 * (fresh 1)))) z4) (ix ((15 + (4 * (fresh 1))) + 1)) z6.1) (ix ((15 + (4 * (fresh 1))) + 3)) z7.1) 1 (((upd (upd (upd fresh (ix (15 + (4 * (fresh 1)))) z4) (ix ((15 + (4 * (fresh 1))) + 1)) z6.1) (ix ((15 + (4 * (fresh 1))) + 3)) z7.1) 1) + 1)) thn was tape left gift isKept kept trace) U locs := ⟨hP, hD, hS⟩
        obtain rfl := Option.some.inj H
        exact ret_v C G dX9_readWater_130
    · have H := if_t H c5
      refine lv_aload_n hx hb dX9_readWater_36 rfl (lv_at hl 1 rfl) ?_
      refine lv_iload_n hx hb dX9_readWater_37 rfl (lv_at hl 0 rfl) ?_
      refine lv_ldc hx hb hown lk2 dX9_readWater_38 ?_
      refine lv_icmp_eq (tgt := 47) hx hb dX9_readWater_40 (by decide) (fun c13 => ?_) (fun c13 => ?_)
      · have H := if_t H c13
        refine lv_iconst (v := 0) hx hb dX9_readWater_47 (by decide) ?_
        obtain ⟨z14, hz14, H⟩ := bd_some H
        refine MV.callVw [.int 0] [] C G (c_X9_must l D cy mAd thrown status acts taped latest leng z2.1 z2.2.1 z2.2.2.1 z2.2.2.2.1 z2.2.2.2.2.1 z2.2.2.2.2.2 gifts traced lane many item bay fresh thn was tape left gift isKept kept trace 0 z14 hz14) gX9_readWater_X9_must rfl rfl rfl (n := 1) (by decide +kernel) ⟨Nat.le_of_ble_eq_true rfl, Nat.le_of_ble_eq_true rfl⟩ (q0 := 0) (ci := 9) rfl rfl rfl rfl hl.1 rfl (Nat.le_of_ble_eq_true rfl) dX9_readWater_48 ⟨Nat.zero_le _, Nat.zero_le _⟩ (fun U locs G => ?_)
        have G : Gd D A s (w_M cy mAd thrown status acts taped latest leng z14.1 z14.2.1 z14.2.2.1 z14.2.2.2.1 z14.2.2.2.2.1 z14.2.2.2.2.2 gifts traced lane many item bay fresh thn was tape left gift isKept kept trace) U locs := G
        refine lv_aload_n hx hb dX9_readWater_51 rfl (lv_at hl 1 rfl) ?_
        refine lv_iconst (v := 0) hx hb dX9_readWater_52 (by decide) ?_
        refine lv_sipush (v := 200) hx hb dX9_readWater_53 (by decide) ?_
        obtain ⟨z15, hz15, H⟩ := bd_some H
        refine MI.callVw z15.1 [.int 0, .int 200] [] C G (c_X9_number l D cy mAd thrown status acts taped latest leng z14.1 z14.2.1 z14.2.2.1 z14.2.2.2.1 z14.2.2.2.2.1 z14.2.2.2.2.2 gifts traced lane many item bay fresh thn was tape left gift isKept kept trace 0 200 z15 hz15) gX9_readWater_X9_number rfl rfl rfl (n := 2) (by decide +kernel) ⟨Nat.le_of_ble_eq_true rfl, Nat.le_of_ble_eq_true rfl⟩ (q0 := 0) (ci := 9) rfl rfl rfl rfl hl.1 rfl (Nat.le_of_ble_eq_true rfl) dX9_readWater_56 ⟨Nat.zero_le _, Nat.zero_le _⟩ (fun U locs G => ?_)
        have G : Gd D A s (w_M cy mAd thrown status acts taped latest leng z15.2.1 z15.2.2.1 z15.2.2.2.1 z15.2.2.2.2.1 z15.2.2.2.2.2.1 z15.2.2.2.2.2.2 gifts traced lane many item bay fresh thn was tape left gift isKept kept trace) U locs := G
        refine lv_istore_n (lv' := [(2, .int z15.1), (1, .int z4), (0, .ref (mAd 0))]) hx hb dX9_readWater_59 rfl hl (by decide) rfl (fun ls hl => ?_)
        refine lv_aload_n hx hb dX9_readWater_60 rfl (lv_at hl 2 rfl) ?_
        refine lv_iconst (v := 0) hx hb dX9_readWater_61 (by decide) ?_
        refine lv_bipush (v := 40) hx hb dX9_readWater_62 (by decide) ?_
        obtain ⟨z16, hz16, H⟩ := bd_some H
        refine MI.callVw z16.1 [.int 0, .int 40] [] C G (c_X9_number l D cy mAd thrown status acts taped latest leng z15.2.1 z15.2.2.1 z15.2.2.2.1 z15.2.2.2.2.1 z15.2.2.2.2.2.1 z15.2.2.2.2.2.2 gifts traced lane many item bay fresh thn was tape left gift isKept kept trace 0 40 z16 hz16) gX9_readWater_X9_number rfl rfl rfl (n := 2) (by decide +kernel) ⟨Nat.le_of_ble_eq_true rfl, Nat.le_of_ble_eq_true rfl⟩ (q0 := 0) (ci := 9) rfl rfl rfl rfl hl.1 rfl (Nat.le_of_ble_eq_true rfl) dX9_readWater_64 ⟨Nat.zero_le _, Nat.zero_le _⟩ (fun U locs G => ?_)
        have G : Gd D A s (w_M cy mAd thrown status acts taped latest leng z16.2.1 z16.2.2.1 z16.2.2.2.1 z16.2.2.2.2.1 z16.2.2.2.2.2.1 z16.2.2.2.2.2.2 gifts traced lane many item bay fresh thn was tape left gift isKept kept trace) U locs := G
        refine lv_istore_n (lv' := [(3, .int z16.1), (2, .int z15.1), (1, .int z4), (0, .ref (mAd 0))]) hx hb dX9_readWater_67 rfl hl (by decide) rfl (fun ls hl => ?_)
        refine lv_aload_n hx hb dX9_readWater_68 rfl (lv_at hl 3 rfl) ?_
        obtain ⟨z17, hz17, H⟩ := bd_some H
        refine MV.callVw [] [] C G (c_X9_mustEnd l D cy mAd thrown status acts taped latest leng z16.2.1 z16.2.2.1 z16.2.2.2.1 z16.2.2.2.2.1 z16.2.2.2.2.2.1 z16.2.2.2.2.2.2 gifts traced lane many item bay fresh thn was tape left gift isKept kept trace z17 hz17) gX9_readWater_X9_mustEnd rfl rfl rfl (n := 0) (by decide +kernel) ⟨Nat.le_of_ble_eq_true rfl, Nat.le_of_ble_eq_true rfl⟩ (q0 := 0) (ci := 9) rfl rfl rfl rfl hl.1 rfl (Nat.le_of_ble_eq_true rfl) dX9_readWater_69 ⟨Nat.zero_le _, Nat.zero_le _⟩ (fun U locs G => ?_)
        have G : Gd D A s (w_M cy mAd thrown status acts taped latest leng z17.1 z17.2.1 z17.2.2.1 z17.2.2.2.1 z17.2.2.2.2.1 z17.2.2.2.2.2 gifts traced lane many item bay fresh thn was tape left gift isKept kept trace) U locs := G
        refine lv_aload_n hx hb dX9_readWater_72 rfl (lv_at hl 3 rfl) ?_
        refine va_get (D := D) (ci := 9) (v := .int z17.2.2.2.2.1) (C := RX9) (T := TX9) (N := 27) hx hb hts hiX9 hown hK G.1 0 rfl rfl 18 (by decide) lk1 (fun _ h9 => h9) rfl dX9_readWater_73 ?_
        refine lv_if_ne (tgt := 130) hx hb dX9_readWater_76 (by decide) (fun c18 => ?_) (fun c18 => ?_)
        · have H := if_f H c18
          obtain rfl := Option.some.inj H
          exact ret_v C G dX9_readWater_130
        · have H := if_t H c18
          refine lv_bipush (v := 15) hx hb dX9_readWater_79 (by decide) ?_
          refine lv_iconst (v := 4) hx hb dX9_readWater_81 (by decide) ?_
          refine lv_aload_n hx hb dX9_readWater_82 rfl (lv_at hl 3 rfl) ?_
          refine va_get (D := D) (ci := 9) (v := .ref (mAd 5)) (C := RX9) (T := TX9) (N := 27) hx hb hts hiX9 hown hK G.1 0 rfl rfl 6 (by decide) lk0 (fun _ h9 => h9) rfl dX9_readWater_83 ?_
          refine lv_iconst (v := 1) hx hb dX9_readWater_86 (by decide) ?_
          refine g_iald (v := fresh 1) hx hb hK G.1 5 1 rfl rfl (by decide) rfl dX9_readWater_87 ?_
          refine lv_imul hx hb dX9_readWater_88 ?_
          refine lv_iadd hx hb dX9_readWater_89 ?_
          refine lv_istore (lv' := [(4, .int (15 + (4 * (fresh 1)))), (3, .int z16.1), (2, .int z15.1), (1, .int z4), (0, .ref (mAd 0))]) hx hb dX9_readWater_90 hl (by decide) rfl (fun ls hl => ?_)
          refine lv_aload_n hx hb dX9_readWater_92 rfl (lv_at hl 4 rfl) ?_
          refine va_get (D := D) (ci := 9) (v := .ref (mAd 5)) (C := RX9) (T := TX9) (N := 27) hx hb hts hiX9 hown hK G.1 0 rfl rfl 6 (by decide) lk0 (fun _ h9 => h9) rfl dX9_readWater_93 ?_
          refine lv_iload hx hb dX9_readWater_96 (lv_at hl 0 rfl) ?_
          refine lv_iload_n hx hb dX9_readWater_98 rfl (lv_at hl 3 rfl) ?_
          obtain ⟨hb19, H⟩ := gd_some H
          refine va_iast hx hb hK G.1 G.2.1 G.2.2 5 1 rfl rfl (inb_in hb19) dX9_readWater_99 (fun U locs hP hD hS => ?_)
          have G : Gd D A s (w_M cy mAd thrown status acts taped latest leng z17.1 z17.2.1 z17.2.2.1 z17.2.2.2.1 z17.2.2.2.2.1 z17.2.2.2.2.2 gifts traced lane many item bay (upd fresh (ix (15 + (4 * (fresh 1)))) z4) thn was tape left gift isKept kept trace) U locs := ⟨hP, hD, hS⟩
          refine lv_aload_n hx hb dX9_readWater_100 rfl (lv_at hl 4 rfl) ?_
          refine va_get (D := D) (ci := 9) (v := .ref (mAd 5)) (C := RX9) (T := TX9) (N := 27) hx hb hts hiX9 hown hK G.1 0 rfl rfl 6 (by decide) lk0 (fun _ h9 => h9) rfl dX9_readWater_101 ?_
          refine lv_iload hx hb dX9_readWater_104 (lv_at hl 0 rfl) ?_
          refine lv_iconst (v := 1) hx hb dX9_readWater_106 (by decide) ?_
          refine lv_iadd hx hb dX9_readWater_107 ?_
          refine lv_iload_n hx hb dX9_readWater_108 rfl (lv_at hl 2 rfl) ?_
          obtain ⟨hb20, H⟩ := gd_some H
          refine va_iast hx hb hK G.1 G.2.1 G.2.2 5 1 rfl rfl (inb_in hb20) dX9_readWater_109 (fun U locs hP hD hS => ?_)
          have G : Gd D A s (w_M cy mAd thrown status acts taped latest leng z17.1 z17.2.1 z17.2.2.1 z17.2.2.2.1 z17.2.2.2.2.1 z17.2.2.2.2.2 gifts traced lane many item bay (upd (upd fresh (ix (15 + (4 * (fresh 1)))) z4) (ix ((15 + (4 * (fresh 1))) + 1)) z15.1) thn was tape left gift isKept kept trace) U locs := ⟨hP, hD, hS⟩
          refine lv_aload_n hx hb dX9_readWater_110 rfl (lv_at hl 4 rfl) ?_
          refine va_get (D := D) (ci := 9) (v := .ref (mAd 5)) (C := RX9) (T := TX9) (N := 27) hx hb hts hiX9 hown hK G.1 0 rfl rfl 6 (by decide) lk0 (fun _ h9 => h9) rfl dX9_readWater_111 ?_
          refine lv_iload hx hb dX9_readWater_114 (lv_at hl 0 rfl) ?_
          refine lv_iconst (v := 3) hx hb dX9_readWater_116 (by decide) ?_
          refine lv_iadd hx hb dX9_readWater_117 ?_
          refine lv_iload_n hx hb dX9_readWater_118 rfl (lv_at hl 1 rfl) ?_
          obtain ⟨hb21, H⟩ := gd_some H
          refine va_iast hx hb hK G.1 G.2.1 G.2.2 5 1 rfl rfl (inb_in hb21) dX9_readWater_119 (fun U locs hP hD hS => ?_)
          have G : Gd D A s (w_M cy mAd thrown status acts taped latest leng z17.1 z17.2.1 z17.2.2.1 z17.2.2.2.1 z17.2.2.2.2.1 z17.2.2.2.2.2 gifts traced lane many item bay (upd (upd (upd fresh (ix (15 + (4 * (fresh 1)))) z4) (ix ((15 + (4 * (fresh 1))) + 1)) z15.1) (ix ((15 + (4 * (fresh 1))) + 3)) z16.1) thn was tape left gift isKept kept trace) U locs := ⟨hP, hD, hS⟩
          refine lv_aload_n hx hb dX9_readWater_120 rfl (lv_at hl 4 rfl) ?_
          refine va_get (D := D) (ci := 9) (v := .ref (mAd 5)) (C := RX9) (T := TX9) (N := 27) hx hb hts hiX9 hown hK G.1 0 rfl rfl 6 (by decide) lk0 (fun _ h9 => h9) rfl dX9_readWater_121 ?_
          refine lv_iconst (v := 1) hx hb dX9_readWater_124 (by decide) ?_
          refine lv_dup2_11 hx hb dX9_readWater_125 rfl rfl ?_
          refine g_iald (v := (upd (upd (upd fresh (ix (15 + (4 * (fresh 1)))) z4) (ix ((15 + (4 * (fresh 1))) + 1)) z15.1) (ix ((15 + (4 * (fresh 1))) + 3)) z16.1) 1) hx hb hK G.1 5 1 rfl rfl (by decide) rfl dX9_readWater_126 ?_
          refine lv_iconst (v := 1) hx hb dX9_readWater_127 (by decide) ?_
          refine lv_iadd hx hb dX9_readWater_128 ?_
          refine va_iast hx hb hK G.1 G.2.1 G.2.2 5 1 rfl rfl (inb_in (by decide)) dX9_readWater_129 (fun U locs hP hD hS => ?_)
          have G : Gd D A s (w_M cy mAd thrown status acts taped latest leng z17.1 z17.2.1 z17.2.2.1 z17.2.2.2.1 z17.2.2.2.2.1 z17.2.2.2.2.2 gifts traced lane many item bay (upd (upd (upd (upd fresh (ix (15 + (4 * (fresh 1)))) z4) (ix ((15 + (4 * (fresh 1))) + 1)) z15.1) (ix ((15 + (4 * (fresh 1))) + 3)) z16.1) 1 (((upd (upd (upd fresh (ix (15 + (4 * (fresh 1)))) z4) (ix ((15 + (4 * (fresh 1))) + 1)) z15.1) (ix ((15 + (4 * (fresh 1))) + 3)) z16.1) 1) + 1)) thn was tape left gift isKept kept trace) U locs := ⟨hP, hD, hS⟩
          obtain rfl := Option.some.inj H
          exact ret_v C G dX9_readWater_130
      · have H := if_f H c13
        refine lv_iconst (v := 1) hx hb dX9_readWater_43 (by decide) ?_
        refine lv_goto (tgt := 48) hx hb dX9_readWater_44 (by decide) ?_
        obtain ⟨z22, hz22, H⟩ := bd_some H
        refine MV.callVw [.int 1] [] C G (c_X9_must l D cy mAd thrown status acts taped latest leng z2.1 z2.2.1 z2.2.2.1 z2.2.2.2.1 z2.2.2.2.2.1 z2.2.2.2.2.2 gifts traced lane many item bay fresh thn was tape left gift isKept kept trace 1 z22 hz22) gX9_readWater_X9_must rfl rfl rfl (n := 1) (by decide +kernel) ⟨Nat.le_of_ble_eq_true rfl, Nat.le_of_ble_eq_true rfl⟩ (q0 := 0) (ci := 9) rfl rfl rfl rfl hl.1 rfl (Nat.le_of_ble_eq_true rfl) dX9_readWater_48 ⟨Nat.zero_le _, Nat.zero_le _⟩ (fun U locs G => ?_)
        have G : Gd D A s (w_M cy mAd thrown status acts taped latest leng z22.1 z22.2.1 z22.2.2.1 z22.2.2.2.1 z22.2.2.2.2.1 z22.2.2.2.2.2 gifts traced lane many item bay fresh thn was tape left gift isKept kept trace) U locs := G
        refine lv_aload_n hx hb dX9_readWater_51 rfl (lv_at hl 1 rfl) ?_
        refine lv_iconst (v := 0) hx hb dX9_readWater_52 (by decide) ?_
        refine lv_sipush (v := 200) hx hb dX9_readWater_53 (by decide) ?_
        obtain ⟨z23, hz23, H⟩ := bd_some H
        refine MI.callVw z23.1 [.int 0, .int 200] [] C G (c_X9_number l D cy mAd thrown status acts taped latest leng z22.1 z22.2.1 z22.2.2.1 z22.2.2.2.1 z22.2.2.2.2.1 z22.2.2.2.2.2 gifts traced lane many item bay fresh thn was tape left gift isKept kept trace 0 200 z23 hz23) gX9_readWater_X9_number rfl rfl rfl (n := 2) (by decide +kernel) ⟨Nat.le_of_ble_eq_true rfl, Nat.le_of_ble_eq_true rfl⟩ (q0 := 0) (ci := 9) rfl rfl rfl rfl hl.1 rfl (Nat.le_of_ble_eq_true rfl) dX9_readWater_56 ⟨Nat.zero_le _, Nat.zero_le _⟩ (fun U locs G => ?_)
        have G : Gd D A s (w_M cy mAd thrown status acts taped latest leng z23.2.1 z23.2.2.1 z23.2.2.2.1 z23.2.2.2.2.1 z23.2.2.2.2.2.1 z23.2.2.2.2.2.2 gifts traced lane many item bay fresh thn was tape left gift isKept kept trace) U locs := G
        refine lv_istore_n (lv' := [(2, .int z23.1), (1, .int z4), (0, .ref (mAd 0))]) hx hb dX9_readWater_59 rfl hl (by decide) rfl (fun ls hl => ?_)
        refine lv_aload_n hx hb dX9_readWater_60 rfl (lv_at hl 2 rfl) ?_
        refine lv_iconst (v := 0) hx hb dX9_readWater_61 (by decide) ?_
        refine lv_bipush (v := 40) hx hb dX9_readWater_62 (by decide) ?_
        obtain ⟨z24, hz24, H⟩ := bd_some H
        refine MI.callVw z24.1 [.int 0, .int 40] [] C G (c_X9_number l D cy mAd thrown status acts taped latest leng z23.2.1 z23.2.2.1 z23.2.2.2.1 z23.2.2.2.2.1 z23.2.2.2.2.2.1 z23.2.2.2.2.2.2 gifts traced lane many item bay fresh thn was tape left gift isKept kept trace 0 40 z24 hz24) gX9_readWater_X9_number rfl rfl rfl (n := 2) (by decide +kernel) ⟨Nat.le_of_ble_eq_true rfl, Nat.le_of_ble_eq_true rfl⟩ (q0 := 0) (ci := 9) rfl rfl rfl rfl hl.1 rfl (Nat.le_of_ble_eq_true rfl) dX9_readWater_64 ⟨Nat.zero_le _, Nat.zero_le _⟩ (fun U locs G => ?_)
        have G : Gd D A s (w_M cy mAd thrown status acts taped latest leng z24.2.1 z24.2.2.1 z24.2.2.2.1 z24.2.2.2.2.1 z24.2.2.2.2.2.1 z24.2.2.2.2.2.2 gifts traced lane many item bay fresh thn was tape left gift isKept kept trace) U locs := G
        refine lv_istore_n (lv' := [(3, .int z24.1), (2, .int z23.1), (1, .int z4), (0, .ref (mAd 0))]) hx hb dX9_readWater_67 rfl hl (by decide) rfl (fun ls hl => ?_)
        refine lv_aload_n hx hb dX9_readWater_68 rfl (lv_at hl 3 rfl) ?_
        obtain ⟨z25, hz25, H⟩ := bd_some H
        refine MV.callVw [] [] C G (c_X9_mustEnd l D cy mAd thrown status acts taped latest leng z24.2.1 z24.2.2.1 z24.2.2.2.1 z24.2.2.2.2.1 z24.2.2.2.2.2.1 z24.2.2.2.2.2.2 gifts traced lane many item bay fresh thn was tape left gift isKept kept trace z25 hz25) gX9_readWater_X9_mustEnd rfl rfl rfl (n := 0) (by decide +kernel) ⟨Nat.le_of_ble_eq_true rfl, Nat.le_of_ble_eq_true rfl⟩ (q0 := 0) (ci := 9) rfl rfl rfl rfl hl.1 rfl (Nat.le_of_ble_eq_true rfl) dX9_readWater_69 ⟨Nat.zero_le _, Nat.zero_le _⟩ (fun U locs G => ?_)
        have G : Gd D A s (w_M cy mAd thrown status acts taped latest leng z25.1 z25.2.1 z25.2.2.1 z25.2.2.2.1 z25.2.2.2.2.1 z25.2.2.2.2.2 gifts traced lane many item bay fresh thn was tape left gift isKept kept trace) U locs := G
        refine lv_aload_n hx hb dX9_readWater_72 rfl (lv_at hl 3 rfl) ?_
        refine va_get (D := D) (ci := 9) (v := .int z25.2.2.2.2.1) (C := RX9) (T := TX9) (N := 27) hx hb hts hiX9 hown hK G.1 0 rfl rfl 18 (by decide) lk1 (fun _ h9 => h9) rfl dX9_readWater_73 ?_
        refine lv_if_ne (tgt := 130) hx hb dX9_readWater_76 (by decide) (fun c26 => ?_) (fun c26 => ?_)
        · have H := if_f H c26
          obtain rfl := Option.some.inj H
          exact ret_v C G dX9_readWater_130
        · have H := if_t H c26
          refine lv_bipush (v := 15) hx hb dX9_readWater_79 (by decide) ?_
          refine lv_iconst (v := 4) hx hb dX9_readWater_81 (by decide) ?_
          refine lv_aload_n hx hb dX9_readWater_82 rfl (lv_at hl 3 rfl) ?_
          refine va_get (D := D) (ci := 9) (v := .ref (mAd 5)) (C := RX9) (T := TX9) (N := 27) hx hb hts hiX9 hown hK G.1 0 rfl rfl 6 (by decide) lk0 (fun _ h9 => h9) rfl dX9_readWater_83 ?_
          refine lv_iconst (v := 1) hx hb dX9_readWater_86 (by decide) ?_
          refine g_iald (v := fresh 1) hx hb hK G.1 5 1 rfl rfl (by decide) rfl dX9_readWater_87 ?_
          refine lv_imul hx hb dX9_readWater_88 ?_
          refine lv_iadd hx hb dX9_readWater_89 ?_
          refine lv_istore (lv' := [(4, .int (15 + (4 * (fresh 1)))), (3, .int z24.1), (2, .int z23.1), (1, .int z4), (0, .ref (mAd 0))]) hx hb dX9_readWater_90 hl (by decide) rfl (fun ls hl => ?_)
          refine lv_aload_n hx hb dX9_readWater_92 rfl (lv_at hl 4 rfl) ?_
          refine va_get (D := D) (ci := 9) (v := .ref (mAd 5)) (C := RX9) (T := TX9) (N := 27) hx hb hts hiX9 hown hK G.1 0 rfl rfl 6 (by decide) lk0 (fun _ h9 => h9) rfl dX9_readWater_93 ?_
          refine lv_iload hx hb dX9_readWater_96 (lv_at hl 0 rfl) ?_
          refine lv_iload_n hx hb dX9_readWater_98 rfl (lv_at hl 3 rfl) ?_
          obtain ⟨hb27, H⟩ := gd_some H
          refine va_iast hx hb hK G.1 G.2.1 G.2.2 5 1 rfl rfl (inb_in hb27) dX9_readWater_99 (fun U locs hP hD hS => ?_)
          have G : Gd D A s (w_M cy mAd thrown status acts taped latest leng z25.1 z25.2.1 z25.2.2.1 z25.2.2.2.1 z25.2.2.2.2.1 z25.2.2.2.2.2 gifts traced lane many item bay (upd fresh (ix (15 + (4 * (fresh 1)))) z4) thn was tape left gift isKept kept trace) U locs := ⟨hP, hD, hS⟩
          refine lv_aload_n hx hb dX9_readWater_100 rfl (lv_at hl 4 rfl) ?_
          refine va_get (D := D) (ci := 9) (v := .ref (mAd 5)) (C := RX9) (T := TX9) (N := 27) hx hb hts hiX9 hown hK G.1 0 rfl rfl 6 (by decide) lk0 (fun _ h9 => h9) rfl dX9_readWater_101 ?_
          refine lv_iload hx hb dX9_readWater_104 (lv_at hl 0 rfl) ?_
          refine lv_iconst (v := 1) hx hb dX9_readWater_106 (by decide) ?_
          refine lv_iadd hx hb dX9_readWater_107 ?_
          refine lv_iload_n hx hb dX9_readWater_108 rfl (lv_at hl 2 rfl) ?_
          obtain ⟨hb28, H⟩ := gd_some H
          refine va_iast hx hb hK G.1 G.2.1 G.2.2 5 1 rfl rfl (inb_in hb28) dX9_readWater_109 (fun U locs hP hD hS => ?_)
          have G : Gd D A s (w_M cy mAd thrown status acts taped latest leng z25.1 z25.2.1 z25.2.2.1 z25.2.2.2.1 z25.2.2.2.2.1 z25.2.2.2.2.2 gifts traced lane many item bay (upd (upd fresh (ix (15 + (4 * (fresh 1)))) z4) (ix ((15 + (4 * (fresh 1))) + 1)) z23.1) thn was tape left gift isKept kept trace) U locs := ⟨hP, hD, hS⟩
          refine lv_aload_n hx hb dX9_readWater_110 rfl (lv_at hl 4 rfl) ?_
          refine va_get (D := D) (ci := 9) (v := .ref (mAd 5)) (C := RX9) (T := TX9) (N := 27) hx hb hts hiX9 hown hK G.1 0 rfl rfl 6 (by decide) lk0 (fun _ h9 => h9) rfl dX9_readWater_111 ?_
          refine lv_iload hx hb dX9_readWater_114 (lv_at hl 0 rfl) ?_
          refine lv_iconst (v := 3) hx hb dX9_readWater_116 (by decide) ?_
          refine lv_iadd hx hb dX9_readWater_117 ?_
          refine lv_iload_n hx hb dX9_readWater_118 rfl (lv_at hl 1 rfl) ?_
          obtain ⟨hb29, H⟩ := gd_some H
          refine va_iast hx hb hK G.1 G.2.1 G.2.2 5 1 rfl rfl (inb_in hb29) dX9_readWater_119 (fun U locs hP hD hS => ?_)
          have G : Gd D A s (w_M cy mAd thrown status acts taped latest leng z25.1 z25.2.1 z25.2.2.1 z25.2.2.2.1 z25.2.2.2.2.1 z25.2.2.2.2.2 gifts traced lane many item bay (upd (upd (upd fresh (ix (15 + (4 * (fresh 1)))) z4) (ix ((15 + (4 * (fresh 1))) + 1)) z23.1) (ix ((15 + (4 * (fresh 1))) + 3)) z24.1) thn was tape left gift isKept kept trace) U locs := ⟨hP, hD, hS⟩
          refine lv_aload_n hx hb dX9_readWater_120 rfl (lv_at hl 4 rfl) ?_
          refine va_get (D := D) (ci := 9) (v := .ref (mAd 5)) (C := RX9) (T := TX9) (N := 27) hx hb hts hiX9 hown hK G.1 0 rfl rfl 6 (by decide) lk0 (fun _ h9 => h9) rfl dX9_readWater_121 ?_
          refine lv_iconst (v := 1) hx hb dX9_readWater_124 (by decide) ?_
          refine lv_dup2_11 hx hb dX9_readWater_125 rfl rfl ?_
          refine g_iald (v := (upd (upd (upd fresh (ix (15 + (4 * (fresh 1)))) z4) (ix ((15 + (4 * (fresh 1))) + 1)) z23.1) (ix ((15 + (4 * (fresh 1))) + 3)) z24.1) 1) hx hb hK G.1 5 1 rfl rfl (by decide) rfl dX9_readWater_126 ?_
          refine lv_iconst (v := 1) hx hb dX9_readWater_127 (by decide) ?_
          refine lv_iadd hx hb dX9_readWater_128 ?_
          refine va_iast hx hb hK G.1 G.2.1 G.2.2 5 1 rfl rfl (inb_in (by decide)) dX9_readWater_129 (fun U locs hP hD hS => ?_)
          have G : Gd D A s (w_M cy mAd thrown status acts taped latest leng z25.1 z25.2.1 z25.2.2.1 z25.2.2.2.1 z25.2.2.2.2.1 z25.2.2.2.2.2 gifts traced lane many item bay (upd (upd (upd (upd fresh (ix (15 + (4 * (fresh 1)))) z4) (ix ((15 + (4 * (fresh 1))) + 1)) z23.1) (ix ((15 + (4 * (fresh 1))) + 3)) z24.1) 1 (((upd (upd (upd fresh (ix (15 + (4 * (fresh 1)))) z4) (ix ((15 + (4 * (fresh 1))) + 1)) z23.1) (ix ((15 + (4 * (fresh 1))) + 3)) z24.1) 1) + 1)) thn was tape left gift isKept kept trace) U locs := ⟨hP, hD, hS⟩
          obtain rfl := Option.some.inj H
          exact ret_v C G dX9_readWater_130
  · have H := if_t H c1
    refine lv_aload_n hx hb dX9_readWater_11 rfl (lv_at hl 0 rfl) ?_
    refine lv_iconst (v := 3) hx hb dX9_readWater_12 (by decide) ?_
    obtain ⟨z30, hz30, H⟩ := bd_some H
    refine MV.callVw [.int 3] [] C G (c_X9_bad l D cy mAd thrown status acts taped latest leng cursor token start till fault faultAt gifts traced lane many item bay fresh thn was tape left gift isKept kept trace 3 z30 hz30) gX9_readWater_X9_bad rfl rfl rfl (n := 1) (by decide +kernel) ⟨Nat.le_of_ble_eq_true rfl, Nat.le_of_ble_eq_true rfl⟩ (q0 := 0) (ci := 9) rfl rfl rfl rfl hl.1 rfl (Nat.le_of_ble_eq_true rfl) dX9_readWater_13 ⟨Nat.zero_le _, Nat.zero_le _⟩ (fun U locs G => ?_)
    have G : Gd D A s (w_M cy mAd thrown status acts taped latest leng cursor token start till z30.1 z30.2 gifts traced lane many item bay fresh thn was tape left gift isKept kept trace) U locs := G
    refine lv_aload_n hx hb dX9_readWater_16 rfl (lv_at hl 0 rfl) ?_
    refine lv_iconst (v := 1) hx hb dX9_readWater_17 (by decide) ?_
    obtain ⟨z31, hz31, H⟩ := bd_some H
    refine MV.callVw [.int 1] [] C G (c_X9_must l D cy mAd thrown status acts taped latest leng cursor token start till z30.1 z30.2 gifts traced lane many item bay fresh thn was tape left gift isKept kept trace 1 z31 hz31) gX9_readWater_X9_must rfl rfl rfl (n := 1) (by decide +kernel) ⟨Nat.le_of_ble_eq_true rfl, Nat.le_of_ble_eq_true rfl⟩ (q0 := 0) (ci := 9) rfl rfl rfl rfl hl.1 rfl (Nat.le_of_ble_eq_true rfl) dX9_readWater_18 ⟨Nat.zero_le _, Nat.zero_le _⟩ (fun U locs G => ?_)
    have G : Gd D A s (w_M cy mAd thrown status acts taped latest leng z31.1 z31.2.1 z31.2.2.1 z31.2.2.2.1 z31.2.2.2.2.1 z31.2.2.2.2.2 gifts traced lane many item bay fresh thn was tape left gift isKept kept trace) U locs := G
    refine lv_aload_n hx hb dX9_readWater_21 rfl (lv_at hl 0 rfl) ?_
    obtain ⟨z32, hz32, H⟩ := bd_some H
    refine ML.callVw z32 [] [] C G (c_X9_name l D cy mAd thrown status acts taped latest leng z31.1 z31.2.1 z31.2.2.1 z31.2.2.2.1 z31.2.2.2.2.1 z31.2.2.2.2.2 gifts traced lane many item bay fresh thn was tape left gift isKept kept trace z32 hz32) gX9_readWater_X9_name rfl rfl rfl (n := 0) (by decide +kernel) ⟨Nat.le_of_ble_eq_true rfl, Nat.le_of_ble_eq_true rfl⟩ (q0 := 0) (ci := 9) rfl rfl rfl rfl hl.1 rfl (Nat.le_of_ble_eq_true rfl) dX9_readWater_22 ⟨Nat.zero_le _, Nat.zero_le _⟩ (fun U locs G => ?_)
    have G : Gd D A s (w_M cy mAd thrown status acts taped latest leng z31.1 z31.2.1 z31.2.2.1 z31.2.2.2.1 z31.2.2.2.2.1 z31.2.2.2.2.2 gifts traced lane many item bay fresh thn was tape left gift isKept kept trace) U locs := G
    obtain ⟨z33, hz33, H⟩ := bd_some H
    refine MI.callS z33 [.long z32] [] [] C G (c_X9_kindBy l D cy z32 z33 hz33) gX9_readWater_X9_kindBy rfl rfl rfl (n := 1) (by decide +kernel) ⟨Nat.le_of_ble_eq_true rfl, Nat.le_of_ble_eq_true rfl⟩ rfl rfl rfl rfl hl.1 rfl (Nat.le_of_ble_eq_true rfl) dX9_readWater_25 ⟨Nat.zero_le _, Nat.zero_le _⟩ (fun U locs G => ?_)
    have G : Gd D A s (w_M cy mAd thrown status acts taped latest leng z31.1 z31.2.1 z31.2.2.1 z31.2.2.2.1 z31.2.2.2.2.1 z31.2.2.2.2.2 gifts traced lane many item bay fresh thn was tape left gift isKept kept trace) U locs := G
    refine lv_istore_n (lv' := [(1, .int z33), (0, .ref (mAd 0))]) hx hb dX9_readWater_28 rfl hl (by decide) rfl (fun ls hl => ?_)
    refine lv_aload_n hx hb dX9_readWater_29 rfl (lv_at hl 1 rfl) ?_
    refine va_get (D := D) (ci := 9) (v := .int z31.2.2.2.2.1) (C := RX9) (T := TX9) (N := 27) hx hb hts hiX9 hown hK G.1 0 rfl rfl 18 (by decide) lk1 (fun _ h9 => h9) rfl dX9_readWater_30 ?_
    refine lv_if_ne (tgt := 51) hx hb dX9_readWater_33 (by decide) (fun c34 => ?_) (fun c34 => ?_)
    · have H := if_f H c34
      refine lv_aload_n hx hb dX9_readWater_51 rfl (lv_at hl 1 rfl) ?_
      refine lv_iconst (v := 0) hx hb dX9_readWater_52 (by decide) ?_
      refine lv_sipush (v := 200) hx hb dX9_readWater_53 (by decide) ?_
      obtain ⟨z35, hz35, H⟩ := bd_some H
      refine MI.callVw z35.1 [.int 0, .int 200] [] C G (c_X9_number l D cy mAd thrown status acts taped latest leng z31.1 z31.2.1 z31.2.2.1 z31.2.2.2.1 z31.2.2.2.2.1 z31.2.2.2.2.2 gifts traced lane many item bay fresh thn was tape left gift isKept kept trace 0 200 z35 hz35) gX9_readWater_X9_number rfl rfl rfl (n := 2) (by decide +kernel) ⟨Nat.le_of_ble_eq_true rfl, Nat.le_of_ble_eq_true rfl⟩ (q0 := 0) (ci := 9) rfl rfl rfl rfl hl.1 rfl (Nat.le_of_ble_eq_true rfl) dX9_readWater_56 ⟨Nat.zero_le _, Nat.zero_le _⟩ (fun U locs G => ?_)
      have G : Gd D A s (w_M cy mAd thrown status acts taped latest leng z35.2.1 z35.2.2.1 z35.2.2.2.1 z35.2.2.2.2.1 z35.2.2.2.2.2.1 z35.2.2.2.2.2.2 gifts traced lane many item bay fresh thn was tape left gift isKept kept trace) U locs := G
      refine lv_istore_n (lv' := [(2, .int z35.1), (1, .int z33), (0, .ref (mAd 0))]) hx hb dX9_readWater_59 rfl hl (by decide) rfl (fun ls hl => ?_)
      refine lv_aload_n hx hb dX9_readWater_60 rfl (lv_at hl 2 rfl) ?_
      refine lv_iconst (v := 0) hx hb dX9_readWater_61 (by decide) ?_
      refine lv_bipush (v := 40) hx hb dX9_readWater_62 (by decide) ?_
      obtain ⟨z36, hz36, H⟩ := bd_some H
      refine MI.callVw z36.1 [.int 0, .int 40] [] C G (c_X9_number l D cy mAd thrown status acts taped latest leng z35.2.1 z35.2.2.1 z35.2.2.2.1 z35.2.2.2.2.1 z35.2.2.2.2.2.1 z35.2.2.2.2.2.2 gifts traced lane many item bay fresh thn was tape left gift isKept kept trace 0 40 z36 hz36) gX9_readWater_X9_number rfl rfl rfl (n := 2) (by decide +kernel) ⟨Nat.le_of_ble_eq_true rfl, Nat.le_of_ble_eq_true rfl⟩ (q0 := 0) (ci := 9) rfl rfl rfl rfl hl.1 rfl (Nat.le_of_ble_eq_true rfl) dX9_readWater_64 ⟨Nat.zero_le _, Nat.zero_le _⟩ (fun U locs G => ?_)
      have G : Gd D A s (w_M cy mAd thrown status acts taped latest leng z36.2.1 z36.2.2.1 z36.2.2.2.1 z36.2.2.2.2.1 z36.2.2.2.2.2.1 z36.2.2.2.2.2.2 gifts traced lane many item bay fresh thn was tape left gift isKept kept trace) U locs := G
      refine lv_istore_n (lv' := [(3, .int z36.1), (2, .int z35.1), (1, .int z33), (0, .ref (mAd 0))]) hx hb dX9_readWater_67 rfl hl (by decide) rfl (fun ls hl => ?_)
      refine lv_aload_n hx hb dX9_readWater_68 rfl (lv_at hl 3 rfl) ?_
      obtain ⟨z37, hz37, H⟩ := bd_some H
      refine MV.callVw [] [] C G (c_X9_mustEnd l D cy mAd thrown status acts taped latest leng z36.2.1 z36.2.2.1 z36.2.2.2.1 z36.2.2.2.2.1 z36.2.2.2.2.2.1 z36.2.2.2.2.2.2 gifts traced lane many item bay fresh thn was tape left gift isKept kept trace z37 hz37) gX9_readWater_X9_mustEnd rfl rfl rfl (n := 0) (by decide +kernel) ⟨Nat.le_of_ble_eq_true rfl, Nat.le_of_ble_eq_true rfl⟩ (q0 := 0) (ci := 9) rfl rfl rfl rfl hl.1 rfl (Nat.le_of_ble_eq_true rfl) dX9_readWater_69 ⟨Nat.zero_le _, Nat.zero_le _⟩ (fun U locs G => ?_)
      have G : Gd D A s (w_M cy mAd thrown status acts taped latest leng z37.1 z37.2.1 z37.2.2.1 z37.2.2.2.1 z37.2.2.2.2.1 z37.2.2.2.2.2 gifts traced lane many item bay fresh thn was tape left gift isKept kept trace) U locs := G
      refine lv_aload_n hx hb dX9_readWater_72 rfl (lv_at hl 3 rfl) ?_
      refine va_get (D := D) (ci := 9) (v := .int z37.2.2.2.2.1) (C := RX9) (T := TX9) (N := 27) hx hb hts hiX9 hown hK G.1 0 rfl rfl 18 (by decide) lk1 (fun _ h9 => h9) rfl dX9_readWater_73 ?_
      refine lv_if_ne (tgt := 130) hx hb dX9_readWater_76 (by decide) (fun c38 => ?_) (fun c38 => ?_)
      · have H := if_f H c38
        obtain rfl := Option.some.inj H
        exact ret_v C G dX9_readWater_130
      · have H := if_t H c38
        refine lv_bipush (v := 15) hx hb dX9_readWater_79 (by decide) ?_
        refine lv_iconst (v := 4) hx hb dX9_readWater_81 (by decide) ?_
        refine lv_aload_n hx hb dX9_readWater_82 rfl (lv_at hl 3 rfl) ?_
        refine va_get (D := D) (ci := 9) (v := .ref (mAd 5)) (C := RX9) (T := TX9) (N := 27) hx hb hts hiX9 hown hK G.1 0 rfl rfl 6 (by decide) lk0 (fun _ h9 => h9) rfl dX9_readWater_83 ?_
        refine lv_iconst (v := 1) hx hb dX9_readWater_86 (by decide) ?_
        refine g_iald (v := fresh 1) hx hb hK G.1 5 1 rfl rfl (by decide) rfl dX9_readWater_87 ?_
        refine lv_imul hx hb dX9_readWater_88 ?_
        refine lv_iadd hx hb dX9_readWater_89 ?_
        refine lv_istore (lv' := [(4, .int (15 + (4 * (fresh 1)))), (3, .int z36.1), (2, .int z35.1), (1, .int z33), (0, .ref (mAd 0))]) hx hb dX9_readWater_90 hl (by decide) rfl (fun ls hl => ?_)
        refine lv_aload_n hx hb dX9_readWater_92 rfl (lv_at hl 4 rfl) ?_
        refine va_get (D := D) (ci := 9) (v := .ref (mAd 5)) (C := RX9) (T := TX9) (N := 27) hx hb hts hiX9 hown hK G.1 0 rfl rfl 6 (by decide) lk0 (fun _ h9 => h9) rfl dX9_readWater_93 ?_
        refine lv_iload hx hb dX9_readWater_96 (lv_at hl 0 rfl) ?_
        refine lv_iload_n hx hb dX9_readWater_98 rfl (lv_at hl 3 rfl) ?_
        obtain ⟨hb39, H⟩ := gd_some H
        refine va_iast hx hb hK G.1 G.2.1 G.2.2 5 1 rfl rfl (inb_in hb39) dX9_readWater_99 (fun U locs hP hD hS => ?_)
        have G : Gd D A s (w_M cy mAd thrown status acts taped latest leng z37.1 z37.2.1 z37.2.2.1 z37.2.2.2.1 z37.2.2.2.2.1 z37.2.2.2.2.2 gifts traced lane many item bay (upd fresh (ix (15 + (4 * (fresh 1)))) z33) thn was tape left gift isKept kept trace) U locs := ⟨hP, hD, hS⟩
        refine lv_aload_n hx hb dX9_readWater_100 rfl (lv_at hl 4 rfl) ?_
        refine va_get (D := D) (ci := 9) (v := .ref (mAd 5)) (C := RX9) (T := TX9) (N := 27) hx hb hts hiX9 hown hK G.1 0 rfl rfl 6 (by decide) lk0 (fun _ h9 => h9) rfl dX9_readWater_101 ?_
        refine lv_iload hx hb dX9_readWater_104 (lv_at hl 0 rfl) ?_
        refine lv_iconst (v := 1) hx hb dX9_readWater_106 (by decide) ?_
        refine lv_iadd hx hb dX9_readWater_107 ?_
        refine lv_iload_n hx hb dX9_readWater_108 rfl (lv_at hl 2 rfl) ?_
        obtain ⟨hb40, H⟩ := gd_some H
        refine va_iast hx hb hK G.1 G.2.1 G.2.2 5 1 rfl rfl (inb_in hb40) dX9_readWater_109 (fun U locs hP hD hS => ?_)
        have G : Gd D A s (w_M cy mAd thrown status acts taped latest leng z37.1 z37.2.1 z37.2.2.1 z37.2.2.2.1 z37.2.2.2.2.1 z37.2.2.2.2.2 gifts traced lane many item bay (upd (upd fresh (ix (15 + (4 * (fresh 1)))) z33) (ix ((15 + (4 * (fresh 1))) + 1)) z35.1) thn was tape left gift isKept kept trace) U locs := ⟨hP, hD, hS⟩
        refine lv_aload_n hx hb dX9_readWater_110 rfl (lv_at hl 4 rfl) ?_
        refine va_get (D := D) (ci := 9) (v := .ref (mAd 5)) (C := RX9) (T := TX9) (N := 27) hx hb hts hiX9 hown hK G.1 0 rfl rfl 6 (by decide) lk0 (fun _ h9 => h9) rfl dX9_readWater_111 ?_
        refine lv_iload hx hb dX9_readWater_114 (lv_at hl 0 rfl) ?_
        refine lv_iconst (v := 3) hx hb dX9_readWater_116 (by decide) ?_
        refine lv_iadd hx hb dX9_readWater_117 ?_
        refine lv_iload_n hx hb dX9_readWater_118 rfl (lv_at hl 1 rfl) ?_
        obtain ⟨hb41, H⟩ := gd_some H
        refine va_iast hx hb hK G.1 G.2.1 G.2.2 5 1 rfl rfl (inb_in hb41) dX9_readWater_119 (fun U locs hP hD hS => ?_)
        have G : Gd D A s (w_M cy mAd thrown status acts taped latest leng z37.1 z37.2.1 z37.2.2.1 z37.2.2.2.1 z37.2.2.2.2.1 z37.2.2.2.2.2 gifts traced lane many item bay (upd (upd (upd fresh (ix (15 + (4 * (fresh 1)))) z33) (ix ((15 + (4 * (fresh 1))) + 1)) z35.1) (ix ((15 + (4 * (fresh 1))) + 3)) z36.1) thn was tape left gift isKept kept trace) U locs := ⟨hP, hD, hS⟩
        refine lv_aload_n hx hb dX9_readWater_120 rfl (lv_at hl 4 rfl) ?_
        refine va_get (D := D) (ci := 9) (v := .ref (mAd 5)) (C := RX9) (T := TX9) (N := 27) hx hb hts hiX9 hown hK G.1 0 rfl rfl 6 (by decide) lk0 (fun _ h9 => h9) rfl dX9_readWater_121 ?_
        refine lv_iconst (v := 1) hx hb dX9_readWater_124 (by decide) ?_
        refine lv_dup2_11 hx hb dX9_readWater_125 rfl rfl ?_
        refine g_iald (v := (upd (upd (upd fresh (ix (15 + (4 * (fresh 1)))) z33) (ix ((15 + (4 * (fresh 1))) + 1)) z35.1) (ix ((15 + (4 * (fresh 1))) + 3)) z36.1) 1) hx hb hK G.1 5 1 rfl rfl (by decide) rfl dX9_readWater_126 ?_
        refine lv_iconst (v := 1) hx hb dX9_readWater_127 (by decide) ?_
        refine lv_iadd hx hb dX9_readWater_128 ?_
        refine va_iast hx hb hK G.1 G.2.1 G.2.2 5 1 rfl rfl (inb_in (by decide)) dX9_readWater_129 (fun U locs hP hD hS => ?_)
        have G : Gd D A s (w_M cy mAd thrown status acts taped latest leng z37.1 z37.2.1 z37.2.2.1 z37.2.2.2.1 z37.2.2.2.2.1 z37.2.2.2.2.2 gifts traced lane many item bay (upd (upd (upd (upd fresh (ix (15 + (4 * (fresh 1)))) z33) (ix ((15 + (4 * (fresh 1))) + 1)) z35.1) (ix ((15 + (4 * (fresh 1))) + 3)) z36.1) 1 (((upd (upd (upd fresh (ix (15 + (4 * (fresh 1)))) z33) (ix ((15 + (4 * (fresh 1))) + 1)) z35.1) (ix ((15 + (4 * (fresh 1))) + 3)) z36.1) 1) + 1)) thn was tape left gift isKept kept trace) U locs := ⟨hP, hD, hS⟩
        obtain rfl := Option.some.inj H
        exact ret_v C G dX9_readWater_130
    · have H := if_t H c34
      refine lv_aload_n hx hb dX9_readWater_36 rfl (lv_at hl 1 rfl) ?_
      refine lv_iload_n hx hb dX9_readWater_37 rfl (lv_at hl 0 rfl) ?_
      refine lv_ldc hx hb hown lk2 dX9_readWater_38 ?_
      refine lv_icmp_eq (tgt := 47) hx hb dX9_readWater_40 (by decide) (fun c42 => ?_) (fun c42 => ?_)
      · have H := if_t H c42
        refine lv_iconst (v := 0) hx hb dX9_readWater_47 (by decide) ?_
        obtain ⟨z43, hz43, H⟩ := bd_some H
        refine MV.callVw [.int 0] [] C G (c_X9_must l D cy mAd thrown status acts taped latest leng z31.1 z31.2.1 z31.2.2.1 z31.2.2.2.1 z31.2.2.2.2.1 z31.2.2.2.2.2 gifts traced lane many item bay fresh thn was tape left gift isKept kept trace 0 z43 hz43) gX9_readWater_X9_must rfl rfl rfl (n := 1) (by decide +kernel) ⟨Nat.le_of_ble_eq_true rfl, Nat.le_of_ble_eq_true rfl⟩ (q0 := 0) (ci := 9) rfl rfl rfl rfl hl.1 rfl (Nat.le_of_ble_eq_true rfl) dX9_readWater_48 ⟨Nat.zero_le _, Nat.zero_le _⟩ (fun U locs G => ?_)
        have G : Gd D A s (w_M cy mAd thrown status acts taped latest leng z43.1 z43.2.1 z43.2.2.1 z43.2.2.2.1 z43.2.2.2.2.1 z43.2.2.2.2.2 gifts traced lane many item bay fresh thn was tape left gift isKept kept trace) U locs := G
        refine lv_aload_n hx hb dX9_readWater_51 rfl (lv_at hl 1 rfl) ?_
        refine lv_iconst (v := 0) hx hb dX9_readWater_52 (by decide) ?_
        refine lv_sipush (v := 200) hx hb dX9_readWater_53 (by decide) ?_
        obtain ⟨z44, hz44, H⟩ := bd_some H
        refine MI.callVw z44.1 [.int 0, .int 200] [] C G (c_X9_number l D cy mAd thrown status acts taped latest leng z43.1 z43.2.1 z43.2.2.1 z43.2.2.2.1 z43.2.2.2.2.1 z43.2.2.2.2.2 gifts traced lane many item bay fresh thn was tape left gift isKept kept trace 0 200 z44 hz44) gX9_readWater_X9_number rfl rfl rfl (n := 2) (by decide +kernel) ⟨Nat.le_of_ble_eq_true rfl, Nat.le_of_ble_eq_true rfl⟩ (q0 := 0) (ci := 9) rfl rfl rfl rfl hl.1 rfl (Nat.le_of_ble_eq_true rfl) dX9_readWater_56 ⟨Nat.zero_le _, Nat.zero_le _⟩ (fun U locs G => ?_)
        have G : Gd D A s (w_M cy mAd thrown status acts taped latest leng z44.2.1 z44.2.2.1 z44.2.2.2.1 z44.2.2.2.2.1 z44.2.2.2.2.2.1 z44.2.2.2.2.2.2 gifts traced lane many item bay fresh thn was tape left gift isKept kept trace) U locs := G
        refine lv_istore_n (lv' := [(2, .int z44.1), (1, .int z33), (0, .ref (mAd 0))]) hx hb dX9_readWater_59 rfl hl (by decide) rfl (fun ls hl => ?_)
        refine lv_aload_n hx hb dX9_readWater_60 rfl (lv_at hl 2 rfl) ?_
        refine lv_iconst (v := 0) hx hb dX9_readWater_61 (by decide) ?_
        refine lv_bipush (v := 40) hx hb dX9_readWater_62 (by decide) ?_
        obtain ⟨z45, hz45, H⟩ := bd_some H
        refine MI.callVw z45.1 [.int 0, .int 40] [] C G (c_X9_number l D cy mAd thrown status acts taped latest leng z44.2.1 z44.2.2.1 z44.2.2.2.1 z44.2.2.2.2.1 z44.2.2.2.2.2.1 z44.2.2.2.2.2.2 gifts traced lane many item bay fresh thn was tape left gift isKept kept trace 0 40 z45 hz45) gX9_readWater_X9_number rfl rfl rfl (n := 2) (by decide +kernel) ⟨Nat.le_of_ble_eq_true rfl, Nat.le_of_ble_eq_true rfl⟩ (q0 := 0) (ci := 9) rfl rfl rfl rfl hl.1 rfl (Nat.le_of_ble_eq_true rfl) dX9_readWater_64 ⟨Nat.zero_le _, Nat.zero_le _⟩ (fun U locs G => ?_)
        have G : Gd D A s (w_M cy mAd thrown status acts taped latest leng z45.2.1 z45.2.2.1 z45.2.2.2.1 z45.2.2.2.2.1 z45.2.2.2.2.2.1 z45.2.2.2.2.2.2 gifts traced lane many item bay fresh thn was tape left gift isKept kept trace) U locs := G
        refine lv_istore_n (lv' := [(3, .int z45.1), (2, .int z44.1), (1, .int z33), (0, .ref (mAd 0))]) hx hb dX9_readWater_67 rfl hl (by decide) rfl (fun ls hl => ?_)
        refine lv_aload_n hx hb dX9_readWater_68 rfl (lv_at hl 3 rfl) ?_
        obtain ⟨z46, hz46, H⟩ := bd_some H
        refine MV.callVw [] [] C G (c_X9_mustEnd l D cy mAd thrown status acts taped latest leng z45.2.1 z45.2.2.1 z45.2.2.2.1 z45.2.2.2.2.1 z45.2.2.2.2.2.1 z45.2.2.2.2.2.2 gifts traced lane many item bay fresh thn was tape left gift isKept kept trace z46 hz46) gX9_readWater_X9_mustEnd rfl rfl rfl (n := 0) (by decide +kernel) ⟨Nat.le_of_ble_eq_true rfl, Nat.le_of_ble_eq_true rfl⟩ (q0 := 0) (ci := 9) rfl rfl rfl rfl hl.1 rfl (Nat.le_of_ble_eq_true rfl) dX9_readWater_69 ⟨Nat.zero_le _, Nat.zero_le _⟩ (fun U locs G => ?_)
        have G : Gd D A s (w_M cy mAd thrown status acts taped latest leng z46.1 z46.2.1 z46.2.2.1 z46.2.2.2.1 z46.2.2.2.2.1 z46.2.2.2.2.2 gifts traced lane many item bay fresh thn was tape left gift isKept kept trace) U locs := G
        refine lv_aload_n hx hb dX9_readWater_72 rfl (lv_at hl 3 rfl) ?_
        refine va_get (D := D) (ci := 9) (v := .int z46.2.2.2.2.1) (C := RX9) (T := TX9) (N := 27) hx hb hts hiX9 hown hK G.1 0 rfl rfl 18 (by decide) lk1 (fun _ h9 => h9) rfl dX9_readWater_73 ?_
        refine lv_if_ne (tgt := 130) hx hb dX9_readWater_76 (by decide) (fun c47 => ?_) (fun c47 => ?_)
        · have H := if_f H c47
          obtain rfl := Option.some.inj H
          exact ret_v C G dX9_readWater_130
        · have H := if_t H c47
          refine lv_bipush (v := 15) hx hb dX9_readWater_79 (by decide) ?_
          refine lv_iconst (v := 4) hx hb dX9_readWater_81 (by decide) ?_
          refine lv_aload_n hx hb dX9_readWater_82 rfl (lv_at hl 3 rfl) ?_
          refine va_get (D := D) (ci := 9) (v := .ref (mAd 5)) (C := RX9) (T := TX9) (N := 27) hx hb hts hiX9 hown hK G.1 0 rfl rfl 6 (by decide) lk0 (fun _ h9 => h9) rfl dX9_readWater_83 ?_
          refine lv_iconst (v := 1) hx hb dX9_readWater_86 (by decide) ?_
          refine g_iald (v := fresh 1) hx hb hK G.1 5 1 rfl rfl (by decide) rfl dX9_readWater_87 ?_
          refine lv_imul hx hb dX9_readWater_88 ?_
          refine lv_iadd hx hb dX9_readWater_89 ?_
          refine lv_istore (lv' := [(4, .int (15 + (4 * (fresh 1)))), (3, .int z45.1), (2, .int z44.1), (1, .int z33), (0, .ref (mAd 0))]) hx hb dX9_readWater_90 hl (by decide) rfl (fun ls hl => ?_)
          refine lv_aload_n hx hb dX9_readWater_92 rfl (lv_at hl 4 rfl) ?_
          refine va_get (D := D) (ci := 9) (v := .ref (mAd 5)) (C := RX9) (T := TX9) (N := 27) hx hb hts hiX9 hown hK G.1 0 rfl rfl 6 (by decide) lk0 (fun _ h9 => h9) rfl dX9_readWater_93 ?_
          refine lv_iload hx hb dX9_readWater_96 (lv_at hl 0 rfl) ?_
          refine lv_iload_n hx hb dX9_readWater_98 rfl (lv_at hl 3 rfl) ?_
          obtain ⟨hb48, H⟩ := gd_some H
          refine va_iast hx hb hK G.1 G.2.1 G.2.2 5 1 rfl rfl (inb_in hb48) dX9_readWater_99 (fun U locs hP hD hS => ?_)
          have G : Gd D A s (w_M cy mAd thrown status acts taped latest leng z46.1 z46.2.1 z46.2.2.1 z46.2.2.2.1 z46.2.2.2.2.1 z46.2.2.2.2.2 gifts traced lane many item bay (upd fresh (ix (15 + (4 * (fresh 1)))) z33) thn was tape left gift isKept kept trace) U locs := ⟨hP, hD, hS⟩
          refine lv_aload_n hx hb dX9_readWater_100 rfl (lv_at hl 4 rfl) ?_
          refine va_get (D := D) (ci := 9) (v := .ref (mAd 5)) (C := RX9) (T := TX9) (N := 27) hx hb hts hiX9 hown hK G.1 0 rfl rfl 6 (by decide) lk0 (fun _ h9 => h9) rfl dX9_readWater_101 ?_
          refine lv_iload hx hb dX9_readWater_104 (lv_at hl 0 rfl) ?_
          refine lv_iconst (v := 1) hx hb dX9_readWater_106 (by decide) ?_
          refine lv_iadd hx hb dX9_readWater_107 ?_
          refine lv_iload_n hx hb dX9_readWater_108 rfl (lv_at hl 2 rfl) ?_
          obtain ⟨hb49, H⟩ := gd_some H
          refine va_iast hx hb hK G.1 G.2.1 G.2.2 5 1 rfl rfl (inb_in hb49) dX9_readWater_109 (fun U locs hP hD hS => ?_)
          have G : Gd D A s (w_M cy mAd thrown status acts taped latest leng z46.1 z46.2.1 z46.2.2.1 z46.2.2.2.1 z46.2.2.2.2.1 z46.2.2.2.2.2 gifts traced lane many item bay (upd (upd fresh (ix (15 + (4 * (fresh 1)))) z33) (ix ((15 + (4 * (fresh 1))) + 1)) z44.1) thn was tape left gift isKept kept trace) U locs := ⟨hP, hD, hS⟩
          refine lv_aload_n hx hb dX9_readWater_110 rfl (lv_at hl 4 rfl) ?_
          refine va_get (D := D) (ci := 9) (v := .ref (mAd 5)) (C := RX9) (T := TX9) (N := 27) hx hb hts hiX9 hown hK G.1 0 rfl rfl 6 (by decide) lk0 (fun _ h9 => h9) rfl dX9_readWater_111 ?_
          refine lv_iload hx hb dX9_readWater_114 (lv_at hl 0 rfl) ?_
          refine lv_iconst (v := 3) hx hb dX9_readWater_116 (by decide) ?_
          refine lv_iadd hx hb dX9_readWater_117 ?_
          refine lv_iload_n hx hb dX9_readWater_118 rfl (lv_at hl 1 rfl) ?_
          obtain ⟨hb50, H⟩ := gd_some H
          refine va_iast hx hb hK G.1 G.2.1 G.2.2 5 1 rfl rfl (inb_in hb50) dX9_readWater_119 (fun U locs hP hD hS => ?_)
          have G : Gd D A s (w_M cy mAd thrown status acts taped latest leng z46.1 z46.2.1 z46.2.2.1 z46.2.2.2.1 z46.2.2.2.2.1 z46.2.2.2.2.2 gifts traced lane many item bay (upd (upd (upd fresh (ix (15 + (4 * (fresh 1)))) z33) (ix ((15 + (4 * (fresh 1))) + 1)) z44.1) (ix ((15 + (4 * (fresh 1))) + 3)) z45.1) thn was tape left gift isKept kept trace) U locs := ⟨hP, hD, hS⟩
          refine lv_aload_n hx hb dX9_readWater_120 rfl (lv_at hl 4 rfl) ?_
          refine va_get (D := D) (ci := 9) (v := .ref (mAd 5)) (C := RX9) (T := TX9) (N := 27) hx hb hts hiX9 hown hK G.1 0 rfl rfl 6 (by decide) lk0 (fun _ h9 => h9) rfl dX9_readWater_121 ?_
          refine lv_iconst (v := 1) hx hb dX9_readWater_124 (by decide) ?_
          refine lv_dup2_11 hx hb dX9_readWater_125 rfl rfl ?_
          refine g_iald (v := (upd (upd (upd fresh (ix (15 + (4 * (fresh 1)))) z33) (ix ((15 + (4 * (fresh 1))) + 1)) z44.1) (ix ((15 + (4 * (fresh 1))) + 3)) z45.1) 1) hx hb hK G.1 5 1 rfl rfl (by decide) rfl dX9_readWater_126 ?_
          refine lv_iconst (v := 1) hx hb dX9_readWater_127 (by decide) ?_
          refine lv_iadd hx hb dX9_readWater_128 ?_
          refine va_iast hx hb hK G.1 G.2.1 G.2.2 5 1 rfl rfl (inb_in (by decide)) dX9_readWater_129 (fun U locs hP hD hS => ?_)
          have G : Gd D A s (w_M cy mAd thrown status acts taped latest leng z46.1 z46.2.1 z46.2.2.1 z46.2.2.2.1 z46.2.2.2.2.1 z46.2.2.2.2.2 gifts traced lane many item bay (upd (upd (upd (upd fresh (ix (15 + (4 * (fresh 1)))) z33) (ix ((15 + (4 * (fresh 1))) + 1)) z44.1) (ix ((15 + (4 * (fresh 1))) + 3)) z45.1) 1 (((upd (upd (upd fresh (ix (15 + (4 * (fresh 1)))) z33) (ix ((15 + (4 * (fresh 1))) + 1)) z44.1) (ix ((15 + (4 * (fresh 1))) + 3)) z45.1) 1) + 1)) thn was tape left gift isKept kept trace) U locs := ⟨hP, hD, hS⟩
          obtain rfl := Option.some.inj H
          exact ret_v C G dX9_readWater_130
      · have H := if_f H c42
        refine lv_iconst (v := 1) hx hb dX9_readWater_43 (by decide) ?_
        refine lv_goto (tgt := 48) hx hb dX9_readWater_44 (by decide) ?_
        obtain ⟨z51, hz51, H⟩ := bd_some H
        refine MV.callVw [.int 1] [] C G (c_X9_must l D cy mAd thrown status acts taped latest leng z31.1 z31.2.1 z31.2.2.1 z31.2.2.2.1 z31.2.2.2.2.1 z31.2.2.2.2.2 gifts traced lane many item bay fresh thn was tape left gift isKept kept trace 1 z51 hz51) gX9_readWater_X9_must rfl rfl rfl (n := 1) (by decide +kernel) ⟨Nat.le_of_ble_eq_true rfl, Nat.le_of_ble_eq_true rfl⟩ (q0 := 0) (ci := 9) rfl rfl rfl rfl hl.1 rfl (Nat.le_of_ble_eq_true rfl) dX9_readWater_48 ⟨Nat.zero_le _, Nat.zero_le _⟩ (fun U locs G => ?_)
        have G : Gd D A s (w_M cy mAd thrown status acts taped latest leng z51.1 z51.2.1 z51.2.2.1 z51.2.2.2.1 z51.2.2.2.2.1 z51.2.2.2.2.2 gifts traced lane many item bay fresh thn was tape left gift isKept kept trace) U locs := G
        refine lv_aload_n hx hb dX9_readWater_51 rfl (lv_at hl 1 rfl) ?_
        refine lv_iconst (v := 0) hx hb dX9_readWater_52 (by decide) ?_
        refine lv_sipush (v := 200) hx hb dX9_readWater_53 (by decide) ?_
        obtain ⟨z52, hz52, H⟩ := bd_some H
        refine MI.callVw z52.1 [.int 0, .int 200] [] C G (c_X9_number l D cy mAd thrown status acts taped latest leng z51.1 z51.2.1 z51.2.2.1 z51.2.2.2.1 z51.2.2.2.2.1 z51.2.2.2.2.2 gifts traced lane many item bay fresh thn was tape left gift isKept kept trace 0 200 z52 hz52) gX9_readWater_X9_number rfl rfl rfl (n := 2) (by decide +kernel) ⟨Nat.le_of_ble_eq_true rfl, Nat.le_of_ble_eq_true rfl⟩ (q0 := 0) (ci := 9) rfl rfl rfl rfl hl.1 rfl (Nat.le_of_ble_eq_true rfl) dX9_readWater_56 ⟨Nat.zero_le _, Nat.zero_le _⟩ (fun U locs G => ?_)
        have G : Gd D A s (w_M cy mAd thrown status acts taped latest leng z52.2.1 z52.2.2.1 z52.2.2.2.1 z52.2.2.2.2.1 z52.2.2.2.2.2.1 z52.2.2.2.2.2.2 gifts traced lane many item bay fresh thn was tape left gift isKept kept trace) U locs := G
        refine lv_istore_n (lv' := [(2, .int z52.1), (1, .int z33), (0, .ref (mAd 0))]) hx hb dX9_readWater_59 rfl hl (by decide) rfl (fun ls hl => ?_)
        refine lv_aload_n hx hb dX9_readWater_60 rfl (lv_at hl 2 rfl) ?_
        refine lv_iconst (v := 0) hx hb dX9_readWater_61 (by decide) ?_
        refine lv_bipush (v := 40) hx hb dX9_readWater_62 (by decide) ?_
        obtain ⟨z53, hz53, H⟩ := bd_some H
        refine MI.callVw z53.1 [.int 0, .int 40] [] C G (c_X9_number l D cy mAd thrown status acts taped latest leng z52.2.1 z52.2.2.1 z52.2.2.2.1 z52.2.2.2.2.1 z52.2.2.2.2.2.1 z52.2.2.2.2.2.2 gifts traced lane many item bay fresh thn was tape left gift isKept kept trace 0 40 z53 hz53) gX9_readWater_X9_number rfl rfl rfl (n := 2) (by decide +kernel) ⟨Nat.le_of_ble_eq_true rfl, Nat.le_of_ble_eq_true rfl⟩ (q0 := 0) (ci := 9) rfl rfl rfl rfl hl.1 rfl (Nat.le_of_ble_eq_true rfl) dX9_readWater_64 ⟨Nat.zero_le _, Nat.zero_le _⟩ (fun U locs G => ?_)
        have G : Gd D A s (w_M cy mAd thrown status acts taped latest leng z53.2.1 z53.2.2.1 z53.2.2.2.1 z53.2.2.2.2.1 z53.2.2.2.2.2.1 z53.2.2.2.2.2.2 gifts traced lane many item bay fresh thn was tape left gift isKept kept trace) U locs := G
        refine lv_istore_n (lv' := [(3, .int z53.1), (2, .int z52.1), (1, .int z33), (0, .ref (mAd 0))]) hx hb dX9_readWater_67 rfl hl (by decide) rfl (fun ls hl => ?_)
        refine lv_aload_n hx hb dX9_readWater_68 rfl (lv_at hl 3 rfl) ?_
        obtain ⟨z54, hz54, H⟩ := bd_some H
        refine MV.callVw [] [] C G (c_X9_mustEnd l D cy mAd thrown status acts taped latest leng z53.2.1 z53.2.2.1 z53.2.2.2.1 z53.2.2.2.2.1 z53.2.2.2.2.2.1 z53.2.2.2.2.2.2 gifts traced lane many item bay fresh thn was tape left gift isKept kept trace z54 hz54) gX9_readWater_X9_mustEnd rfl rfl rfl (n := 0) (by decide +kernel) ⟨Nat.le_of_ble_eq_true rfl, Nat.le_of_ble_eq_true rfl⟩ (q0 := 0) (ci := 9) rfl rfl rfl rfl hl.1 rfl (Nat.le_of_ble_eq_true rfl) dX9_readWater_69 ⟨Nat.zero_le _, Nat.zero_le _⟩ (fun U locs G => ?_)
        have G : Gd D A s (w_M cy mAd thrown status acts taped latest leng z54.1 z54.2.1 z54.2.2.1 z54.2.2.2.1 z54.2.2.2.2.1 z54.2.2.2.2.2 gifts traced lane many item bay fresh thn was tape left gift isKept kept trace) U locs := G
        refine lv_aload_n hx hb dX9_readWater_72 rfl (lv_at hl 3 rfl) ?_
        refine va_get (D := D) (ci := 9) (v := .int z54.2.2.2.2.1) (C := RX9) (T := TX9) (N := 27) hx hb hts hiX9 hown hK G.1 0 rfl rfl 18 (by decide) lk1 (fun _ h9 => h9) rfl dX9_readWater_73 ?_
        refine lv_if_ne (tgt := 130) hx hb dX9_readWater_76 (by decide) (fun c55 => ?_) (fun c55 => ?_)
        · have H := if_f H c55
          obtain rfl := Option.some.inj H
          exact ret_v C G dX9_readWater_130
        · have H := if_t H c55
          refine lv_bipush (v := 15) hx hb dX9_readWater_79 (by decide) ?_
          refine lv_iconst (v := 4) hx hb dX9_readWater_81 (by decide) ?_
          refine lv_aload_n hx hb dX9_readWater_82 rfl (lv_at hl 3 rfl) ?_
          refine va_get (D := D) (ci := 9) (v := .ref (mAd 5)) (C := RX9) (T := TX9) (N := 27) hx hb hts hiX9 hown hK G.1 0 rfl rfl 6 (by decide) lk0 (fun _ h9 => h9) rfl dX9_readWater_83 ?_
          refine lv_iconst (v := 1) hx hb dX9_readWater_86 (by decide) ?_
          refine g_iald (v := fresh 1) hx hb hK G.1 5 1 rfl rfl (by decide) rfl dX9_readWater_87 ?_
          refine lv_imul hx hb dX9_readWater_88 ?_
          refine lv_iadd hx hb dX9_readWater_89 ?_
          refine lv_istore (lv' := [(4, .int (15 + (4 * (fresh 1)))), (3, .int z53.1), (2, .int z52.1), (1, .int z33), (0, .ref (mAd 0))]) hx hb dX9_readWater_90 hl (by decide) rfl (fun ls hl => ?_)
          refine lv_aload_n hx hb dX9_readWater_92 rfl (lv_at hl 4 rfl) ?_
          refine va_get (D := D) (ci := 9) (v := .ref (mAd 5)) (C := RX9) (T := TX9) (N := 27) hx hb hts hiX9 hown hK G.1 0 rfl rfl 6 (by decide) lk0 (fun _ h9 => h9) rfl dX9_readWater_93 ?_
          refine lv_iload hx hb dX9_readWater_96 (lv_at hl 0 rfl) ?_
          refine lv_iload_n hx hb dX9_readWater_98 rfl (lv_at hl 3 rfl) ?_
          obtain ⟨hb56, H⟩ := gd_some H
          refine va_iast hx hb hK G.1 G.2.1 G.2.2 5 1 rfl rfl (inb_in hb56) dX9_readWater_99 (fun U locs hP hD hS => ?_)
          have G : Gd D A s (w_M cy mAd thrown status acts taped latest leng z54.1 z54.2.1 z54.2.2.1 z54.2.2.2.1 z54.2.2.2.2.1 z54.2.2.2.2.2 gifts traced lane many item bay (upd fresh (ix (15 + (4 * (fresh 1)))) z33) thn was tape left gift isKept kept trace) U locs := ⟨hP, hD, hS⟩
          refine lv_aload_n hx hb dX9_readWater_100 rfl (lv_at hl 4 rfl) ?_
          refine va_get (D := D) (ci := 9) (v := .ref (mAd 5)) (C := RX9) (T := TX9) (N := 27) hx hb hts hiX9 hown hK G.1 0 rfl rfl 6 (by decide) lk0 (fun _ h9 => h9) rfl dX9_readWater_101 ?_
          refine lv_iload hx hb dX9_readWater_104 (lv_at hl 0 rfl) ?_
          refine lv_iconst (v := 1) hx hb dX9_readWater_106 (by decide) ?_
          refine lv_iadd hx hb dX9_readWater_107 ?_
          refine lv_iload_n hx hb dX9_readWater_108 rfl (lv_at hl 2 rfl) ?_
          obtain ⟨hb57, H⟩ := gd_some H
          refine va_iast hx hb hK G.1 G.2.1 G.2.2 5 1 rfl rfl (inb_in hb57) dX9_readWater_109 (fun U locs hP hD hS => ?_)
          have G : Gd D A s (w_M cy mAd thrown status acts taped latest leng z54.1 z54.2.1 z54.2.2.1 z54.2.2.2.1 z54.2.2.2.2.1 z54.2.2.2.2.2 gifts traced lane many item bay (upd (upd fresh (ix (15 + (4 * (fresh 1)))) z33) (ix ((15 + (4 * (fresh 1))) + 1)) z52.1) thn was tape left gift isKept kept trace) U locs := ⟨hP, hD, hS⟩
          refine lv_aload_n hx hb dX9_readWater_110 rfl (lv_at hl 4 rfl) ?_
          refine va_get (D := D) (ci := 9) (v := .ref (mAd 5)) (C := RX9) (T := TX9) (N := 27) hx hb hts hiX9 hown hK G.1 0 rfl rfl 6 (by decide) lk0 (fun _ h9 => h9) rfl dX9_readWater_111 ?_
          refine lv_iload hx hb dX9_readWater_114 (lv_at hl 0 rfl) ?_
          refine lv_iconst (v := 3) hx hb dX9_readWater_116 (by decide) ?_
          refine lv_iadd hx hb dX9_readWater_117 ?_
          refine lv_iload_n hx hb dX9_readWater_118 rfl (lv_at hl 1 rfl) ?_
          obtain ⟨hb58, H⟩ := gd_some H
          refine va_iast hx hb hK G.1 G.2.1 G.2.2 5 1 rfl rfl (inb_in hb58) dX9_readWater_119 (fun U locs hP hD hS => ?_)
          have G : Gd D A s (w_M cy mAd thrown status acts taped latest leng z54.1 z54.2.1 z54.2.2.1 z54.2.2.2.1 z54.2.2.2.2.1 z54.2.2.2.2.2 gifts traced lane many item bay (upd (upd (upd fresh (ix (15 + (4 * (fresh 1)))) z33) (ix ((15 + (4 * (fresh 1))) + 1)) z52.1) (ix ((15 + (4 * (fresh 1))) + 3)) z53.1) thn was tape left gift isKept kept trace) U locs := ⟨hP, hD, hS⟩
          refine lv_aload_n hx hb dX9_readWater_120 rfl (lv_at hl 4 rfl) ?_
          refine va_get (D := D) (ci := 9) (v := .ref (mAd 5)) (C := RX9) (T := TX9) (N := 27) hx hb hts hiX9 hown hK G.1 0 rfl rfl 6 (by decide) lk0 (fun _ h9 => h9) rfl dX9_readWater_121 ?_
          refine lv_iconst (v := 1) hx hb dX9_readWater_124 (by decide) ?_
          refine lv_dup2_11 hx hb dX9_readWater_125 rfl rfl ?_
          refine g_iald (v := (upd (upd (upd fresh (ix (15 + (4 * (fresh 1)))) z33) (ix ((15 + (4 * (fresh 1))) + 1)) z52.1) (ix ((15 + (4 * (fresh 1))) + 3)) z53.1) 1) hx hb hK G.1 5 1 rfl rfl (by decide) rfl dX9_readWater_126 ?_
          refine lv_iconst (v := 1) hx hb dX9_readWater_127 (by decide) ?_
          refine lv_iadd hx hb dX9_readWater_128 ?_
          refine va_iast hx hb hK G.1 G.2.1 G.2.2 5 1 rfl rfl (inb_in (by decide)) dX9_readWater_129 (fun U locs hP hD hS => ?_)
          have G : Gd D A s (w_M cy mAd thrown status acts taped latest leng z54.1 z54.2.1 z54.2.2.1 z54.2.2.2.1 z54.2.2.2.2.1 z54.2.2.2.2.2 gifts traced lane many item bay (upd (upd (upd (upd fresh (ix (15 + (4 * (fresh 1)))) z33) (ix ((15 + (4 * (fresh 1))) + 1)) z52.1) (ix ((15 + (4 * (fresh 1))) + 3)) z53.1) 1 (((upd (upd (upd fresh (ix (15 + (4 * (fresh 1)))) z33) (ix ((15 + (4 * (fresh 1))) + 1)) z52.1) (ix ((15 + (4 * (fresh 1))) + 3)) z53.1) 1) + 1)) thn was tape left gift isKept kept trace) U locs := ⟨hP, hD, hS⟩
          obtain rfl := Option.some.inj H
          exact ret_v C G dX9_readWater_130
def f_X9_bay_L11  : Nat → (Nat → Int32) → Int32 → Option (Nat → Int32)
  | 0, _, _ => none
  | n + 1, fresh, x1 => if 75 ≤ x1 then (some fresh) else (gd (inb x1 75) (f_X9_bay_L11 n (upd fresh (ix x1) 0) (x1 + 1)))
theorem f_X9_bay_L11_z  (fresh : Nat → Int32) (x1 : Int32) : f_X9_bay_L11 0 fresh x1 = none := rfl
theorem f_X9_bay_L11_s  (n : Nat) (fresh : Nat → Int32) (x1 : Int32) : f_X9_bay_L11 (n + 1) fresh x1 = if 75 ≤ x1 then (some fresh) else (gd (inb x1 75) (f_X9_bay_L11 n (upd fresh (ix x1) 0) (x1 + 1))) := rfl
set_option maxHeartbeats 4000000 in
set_option maxRecDepth 100000 in
theorem wl_X9_bay_11 {p : Program} {l : Launch} {e : Env} {s : State} {m : MethodId} {below : List Frame} {meth : Method} {c : Code} {D : va_G} {cy : Nat → ClassId} {A : Nat → Prop} {args : Array Value} {Q : State → Prop} (C : Cx D cy A p s m meth c cX9_bay 2 (some .int) wsX9_bay RX9 args) (mAd : Nat → Nat) (thrown status acts taped latest leng cursor token start till fault faultAt gifts traced : Int32) (lane many item bay thn was tape left gift isKept kept trace : Nat → Int32) :
    ∀ (n : Nat) (fresh : Nat → Int32) (x1 : Int32) (z : (Nat → Int32)), f_X9_bay_L11 n fresh x1 = some z → (∀ (U : Heap) (locs : List Loc) (ls : Array Slot), Gd D A s (w_M cy mAd thrown status acts taped latest leng cursor token start till fault faultAt gifts traced lane many item bay z thn was tape left gift isKept kept trace) U locs → lv_has ls 2 [(0, .ref (mAd 0))] → W p l e ({ frames := 5, cells := 0, slots := 0, locals := 110 } : Room) s m args below meth c U locs 0 0 Q (F0 m 30 ls [])) → ∀ (U : Heap) (locs : List Loc) (ls : Array Slot), Gd D A s (w_M cy mAd thrown status acts taped latest leng cursor token start till fault faultAt gifts traced lane many item bay fresh thn was tape left gift isKept kept trace) U locs → lv_has ls 2 [(0, .ref (mAd 0)), (1, .int x1)] → W p l e ({ frames := 5, cells := 0, slots := 0, locals := 110 } : Room) s m args below meth c U locs 0 0 Q (F0 m 11 ls []) := by
  obtain ⟨hx, hb, hr, hml, hown, hts, hlk, hK, hA, hE⟩ := id C
  have lk0 := hts (Cond.fieldLink RX9 22 "TideDebtsModel" "fresh" "[I") (List.mem_of_getElem? (i := 2) rfl)
  have hiX9 : ∀ w ∈ u_ws RX9 TX9 27, w ∈ wsX9_bay := fun _ h => List.mem_cons_of_mem _ (List.mem_append_right _ h)
  intro n
  induction n with
  | zero =>
    intro fresh x1 z H
    rw [f_X9_bay_L11_z] at H
    cases H
  | succ n ih =>
    intro fresh x1 z H kk U locs ls G hl
    rw [f_X9_bay_L11_s] at H
    refine lv_iload_n hx hb dX9_bay_11 rfl (lv_at hl 1 rfl) ?_
    refine lv_bipush (v := 75) hx hb dX9_bay_12 (by decide) ?_
    refine lv_icmp_ge (tgt := 30) hx hb dX9_bay_14 (by decide) (fun c2 => ?_) (fun c2 => ?_)
    · have H := if_t H c2
      obtain rfl := Option.some.inj H
      exact kk _ _ _ G (lv_sub hl [0] rfl)
    · have H := if_f H c2
      refine lv_aload_n hx hb dX9_bay_17 rfl (lv_at hl 0 rfl) ?_
      refine va_get (D := D) (ci := 9) (v := .ref (mAd 5)) (C := RX9) (T := TX9) (N := 27) hx hb hts hiX9 hown hK G.1 0 rfl rfl 6 (by decide) lk0 (fun _ h9 => h9) rfl dX9_bay_18 ?_
      refine lv_iload_n hx hb dX9_bay_21 rfl (lv_at hl 1 rfl) ?_
      refine lv_iconst (v := 0) hx hb dX9_bay_22 (by decide) ?_
      obtain ⟨hb3, H⟩ := gd_some H
      refine va_iast hx hb hK G.1 G.2.1 G.2.2 5 1 rfl rfl (inb_in hb3) dX9_bay_23 (fun U locs hP hD hS => ?_)
      have G : Gd D A s (w_M cy mAd thrown status acts taped latest leng cursor token start till fault faultAt gifts traced lane many item bay (upd fresh (ix x1) 0) thn was tape left gift isKept kept trace) U locs := ⟨hP, hD, hS⟩
      refine lv_iinc (v := x1 + 1) (lv' := [(1, .int (x1 + 1)), (0, .ref (mAd 0))]) hx hb dX9_bay_24 hl (k := 1) rfl rfl (by decide) rfl (fun ls hl => ?_)
      refine lv_goto (tgt := 11) hx hb dX9_bay_27 (by decide) ?_
      exact ih (upd fresh (ix x1) 0) (x1 + 1) z H kk _ _ _ G (lv_sub hl [1, 0] rfl)
def f_X9_bay_L34 (leng : Int32) (tape : Nat → Int32) : Nat → Int32 → Int32 → Int32 → Int32 → Int32 → Int32 → (Nat → Int32) → Option (Int32 × Int32 × Int32 × Int32 × Int32 × Int32 × (Nat → Int32))
  | 0, _, _, _, _, _, _, _ => none
  | n + 1, cursor, token, start, till, fault, faultAt, fresh => bd (f_X9_name token start till fault tape) (fun z6 => if (lg_cmp z6 512736126322) = 0 then (bd (f_X9_readWater leng cursor token start till fault faultAt fresh tape) (fun z8 => f_X9_bay_L34 leng tape n z8.1 z8.2.1 z8.2.2.1 z8.2.2.2.1 z8.2.2.2.2.1 z8.2.2.2.2.2.1 z8.2.2.2.2.2.2)) else (some (cursor, token, start, till, fault, faultAt, fresh)))
theorem f_X9_bay_L34_z (leng : Int32) (tape : Nat → Int32) (cursor token start till fault faultAt : Int32) (fresh : Nat → Int32) : f_X9_bay_L34 leng tape 0 cursor token start till fault faultAt fresh = none := rfl
theorem f_X9_bay_L34_s (leng : Int32) (tape : Nat → Int32) (n : Nat) (cursor token start till fault faultAt : Int32) (fresh : Nat → Int32) : f_X9_bay_L34 leng tape (n + 1) cursor token start till fault faultAt fresh = bd (f_X9_name token start till fault tape) (fun z6 => if (lg_cmp z6 512736126322) = 0 then (bd (f_X9_readWater leng cursor token start till fault faultAt fresh tape) (fun z8 => f_X9_bay_L34 leng tape n z8.1 z8.2.1 z8.2.2.1 z8.2.2.2.1 z8.2.2.2.2.1 z8.2.2.2.2.2.1 z8.2.2.2.2.2.2)) else (some (cursor, token, start, till, fault, faultAt, fresh))) := rfl
set_option maxHeartbeats 4000000 in
set_option maxRecDepth 100000 in
theorem wl_X9_bay_34 {p : Program} {l : Launch} {e : Env} {s : State} {m : MethodId} {below : List Frame} {meth : Method} {c : Code} {D : va_G} {cy : Nat → ClassId} {A : Nat → Prop} {args : Array Value} {Q : State → Prop} (C : Cx D cy A p s m meth c cX9_bay 2 (some .int) wsX9_bay RX9 args) (mAd : Nat → Nat) (thrown status acts taped latest leng gifts traced : Int32) (lane many item bay thn was tape left gift isKept kept trace : Nat → Int32) :
    ∀ (n : Nat) (cursor token start till fault faultAt : Int32) (fresh : Nat → Int32) (z : (Int32 × Int32 × Int32 × Int32 × Int32 × Int32 × (Nat → Int32))), f_X9_bay_L34 leng tape n cursor token start till fault faultAt fresh = some z → (∀ (U : Heap) (locs : List Loc) (ls : Array Slot), Gd D A s (w_M cy mAd thrown status acts taped latest leng z.1 z.2.1 z.2.2.1 z.2.2.2.1 z.2.2.2.2.1 z.2.2.2.2.2.1 gifts traced lane many item bay z.2.2.2.2.2.2 thn was tape left gift isKept kept trace) U locs → lv_has ls 2 [(0, .ref (mAd 0))] → W p l e ({ frames := 5, cells := 0, slots := 0, locals := 110 } : Room) s m args below meth c U locs 0 0 Q (F0 m 52 ls [])) → ∀ (U : Heap) (locs : List Loc) (ls : Array Slot), Gd D A s (w_M cy mAd thrown status acts taped latest leng cursor token start till fault faultAt gifts traced lane many item bay fresh thn was tape left gift isKept kept trace) U locs → lv_has ls 2 [(0, .ref (mAd 0))] → W p l e ({ frames := 5, cells := 0, slots := 0, locals := 110 } : Room) s m args below meth c U locs 0 0 Q (F0 m 34 ls []) := by
  obtain ⟨hx, hb, hr, hml, hown, hts, hlk, hK, hA, hE⟩ := id C
  have lk0 := hts (Cond.constantLong RX9 162 (512736126322)) (List.mem_of_getElem? (i := 3) rfl)
  intro n
  induction n with
  | zero =>
    intro cursor token start till fault faultAt fresh z H
    rw [f_X9_bay_L34_z] at H
    cases H
  | succ n ih =>
    intro cursor token start till fault faultAt fresh z H kk U locs ls G hl
    rw [f_X9_bay_L34_s] at H
    refine lv_aload_n hx hb dX9_bay_34 rfl (lv_at hl 0 rfl) ?_
    obtain ⟨z6, hz6, H⟩ := bd_some H
    refine ML.callVw z6 [] [] C G (c_X9_name l D cy mAd thrown status acts taped latest leng cursor token start till fault faultAt gifts traced lane many item bay fresh thn was tape left gift isKept kept trace z6 hz6) gX9_bay_X9_name rfl rfl rfl (n := 0) (by decide +kernel) ⟨Nat.le_of_ble_eq_true rfl, Nat.le_of_ble_eq_true rfl⟩ (q0 := 0) (ci := 9) rfl rfl rfl rfl hl.1 rfl (Nat.le_of_ble_eq_true rfl) dX9_bay_35 ⟨Nat.zero_le _, Nat.zero_le _⟩ (fun U locs G => ?_)
    have G : Gd D A s (w_M cy mAd thrown status acts taped latest leng cursor token start till fault faultAt gifts traced lane many item bay fresh thn was tape left gift isKept kept trace) U locs := G
    refine lv_ldc2 hx hb hown lk0 dX9_bay_38 ?_
    refine W.lcmp hx hb dX9_bay_41 ?_
    refine lv_if_ne (tgt := 52) hx hb dX9_bay_42 (by decide) (fun c7 => ?_) (fun c7 => ?_)
    · have H := if_f H c7
      obtain rfl := Option.some.inj H
      exact kk _ _ _ G (lv_sub hl [0] rfl)
    · have H := if_t H c7
      refine lv_aload_n hx hb dX9_bay_45 rfl (lv_at hl 0 rfl) ?_
      obtain ⟨z8, hz8, H⟩ := bd_some H
      refine MV.callVw [] [] C G (c_X9_readWater l D cy mAd thrown status acts taped latest leng cursor token start till fault faultAt gifts traced lane many item bay fresh thn was tape left gift isKept kept trace z8 hz8) gX9_bay_X9_readWater rfl rfl rfl (n := 0) (by decide +kernel) ⟨Nat.le_of_ble_eq_true rfl, Nat.le_of_ble_eq_true rfl⟩ (q0 := 0) (ci := 9) rfl rfl rfl rfl hl.1 rfl (Nat.le_of_ble_eq_true rfl) dX9_bay_46 ⟨Nat.zero_le _, Nat.zero_le _⟩ (fun U locs G => ?_)
      have G : Gd D A s (w_M cy mAd thrown status acts taped latest leng z8.1 z8.2.1 z8.2.2.1 z8.2.2.2.1 z8.2.2.2.2.1 z8.2.2.2.2.2.1 gifts traced lane many item bay z8.2.2.2.2.2.2 thn was tape left gift isKept kept trace) U locs := G
      refine lv_goto (tgt := 34) hx hb dX9_bay_49 (by decide) ?_
      exact ih z8.1 z8.2.1 z8.2.2.1 z8.2.2.2.1 z8.2.2.2.2.1 z8.2.2.2.2.2.1 z8.2.2.2.2.2.2 z H kk _ _ _ G (lv_sub hl [0] rfl)
def f_X9_bay_L102 (fresh : Nat → Int32) : Nat → (Nat → Int32) → Int32 → Option (Nat → Int32)
  | 0, _, _ => none
  | n + 1, bay, x1 => if 75 ≤ x1 then (some bay) else (gd (inb x1 75) (f_X9_bay_L102 fresh n (upd bay (ix x1) (fresh (ix x1))) (x1 + 1)))
theorem f_X9_bay_L102_z (fresh : Nat → Int32) (bay : Nat → Int32) (x1 : Int32) : f_X9_bay_L102 fresh 0 bay x1 = none := rfl
theorem f_X9_bay_L102_s (fresh : Nat → Int32) (n : Nat) (bay : Nat → Int32) (x1 : Int32) : f_X9_bay_L102 fresh (n + 1) bay x1 = if 75 ≤ x1 then (some bay) else (gd (inb x1 75) (f_X9_bay_L102 fresh n (upd bay (ix x1) (fresh (ix x1))) (x1 + 1))) := rfl
set_option maxHeartbeats 4000000 in
set_option maxRecDepth 100000 in
theorem wl_X9_bay_102 {p : Program} {l : Launch} {e : Env} {s : State} {m : MethodId} {below : List Frame} {meth : Method} {c : Code} {D : va_G} {cy : Nat → ClassId} {A : Nat → Prop} {args : Array Value} {Q : State → Prop} (C : Cx D cy A p s m meth c cX9_bay 2 (some .int) wsX9_bay RX9 args) (mAd : Nat → Nat) (thrown status acts taped latest leng cursor token start till fault faultAt gifts traced : Int32) (lane many item fresh thn was tape left gift isKept kept trace : Nat → Int32) :
    ∀ (n : Nat) (bay : Nat → Int32) (x1 : Int32) (z : (Nat → Int32)), f_X9_bay_L102 fresh n bay x1 = some z → (∀ (U : Heap) (locs : List Loc) (ls : Array Slot), Gd D A s (w_M cy mAd thrown status acts taped latest leng cursor token start till fault faultAt gifts traced lane many item z fresh thn was tape left gift isKept kept trace) U locs → lv_has ls 2 [(0, .ref (mAd 0))] → W p l e ({ frames := 5, cells := 0, slots := 0, locals := 110 } : Room) s m args below meth c U locs 0 0 Q (F0 m 126 ls [])) → ∀ (U : Heap) (locs : List Loc) (ls : Array Slot), Gd D A s (w_M cy mAd thrown status acts taped latest leng cursor token start till fault faultAt gifts traced lane many item bay fresh thn was tape left gift isKept kept trace) U locs → lv_has ls 2 [(0, .ref (mAd 0)), (1, .int x1)] → W p l e ({ frames := 5, cells := 0, slots := 0, locals := 110 } : Room) s m args below meth c U locs 0 0 Q (F0 m 102 ls []) := by
  obtain ⟨hx, hb, hr, hml, hown, hts, hlk, hK, hA, hE⟩ := id C
  have lk0 := hts (Cond.fieldLink RX9 19 "TideDebtsModel" "bay" "[I") (List.mem_of_getElem? (i := 10) rfl)
  have lk1 := hts (Cond.fieldLink RX9 22 "TideDebtsModel" "fresh" "[I") (List.mem_of_getElem? (i := 2) rfl)
  have hiX9 : ∀ w ∈ u_ws RX9 TX9 27, w ∈ wsX9_bay := fun _ h => List.mem_cons_of_mem _ (List.mem_append_right _ h)
  intro n
  induction n with
  | zero =>
    intro bay x1 z H
    rw [f_X9_bay_L102_z] at H
    cases H
  | succ n ih =>
    intro bay x1 z H kk U locs ls G hl
    rw [f_X9_bay_L102_s] at H
    refine lv_iload_n hx hb dX9_bay_102 rfl (lv_at hl 1 rfl) ?_
    refine lv_bipush (v := 75) hx hb dX9_bay_103 (by decide) ?_
    refine lv_icmp_ge (tgt := 126) hx hb dX9_bay_105 (by decide) (fun c12 => ?_) (fun c12 => ?_)
    · have H := if_t H c12
      obtain rfl := Option.some.inj H
      exact kk _ _ _ G (lv_sub hl [0] rfl)
    · have H := if_f H c12
      refine lv_aload_n hx hb dX9_bay_108 rfl (lv_at hl 0 rfl) ?_
      refine va_get (D := D) (ci := 9) (v := .ref (mAd 4)) (C := RX9) (T := TX9) (N := 27) hx hb hts hiX9 hown hK G.1 0 rfl rfl 5 (by decide) lk0 (fun _ h9 => h9) rfl dX9_bay_109 ?_
      refine lv_iload_n hx hb dX9_bay_112 rfl (lv_at hl 1 rfl) ?_
      refine lv_aload_n hx hb dX9_bay_113 rfl (lv_at hl 0 rfl) ?_
      refine va_get (D := D) (ci := 9) (v := .ref (mAd 5)) (C := RX9) (T := TX9) (N := 27) hx hb hts hiX9 hown hK G.1 0 rfl rfl 6 (by decide) lk1 (fun _ h9 => h9) rfl dX9_bay_114 ?_
      refine lv_iload_n hx hb dX9_bay_117 rfl (lv_at hl 1 rfl) ?_
      obtain ⟨hb13, H⟩ := gd_some H
      refine g_iald (v := fresh (ix x1)) hx hb hK G.1 5 1 rfl rfl hb13 rfl dX9_bay_118 ?_
      refine va_iast hx hb hK G.1 G.2.1 G.2.2 4 1 rfl rfl (inb_in hb13) dX9_bay_119 (fun U locs hP hD hS => ?_)
      have G : Gd D A s (w_M cy mAd thrown status acts taped latest leng cursor token start till fault faultAt gifts traced lane many item (upd bay (ix x1) (fresh (ix x1))) fresh thn was tape left gift isKept kept trace) U locs := ⟨hP, hD, hS⟩
      refine lv_iinc (v := x1 + 1) (lv' := [(1, .int (x1 + 1)), (0, .ref (mAd 0))]) hx hb dX9_bay_120 hl (k := 1) rfl rfl (by decide) rfl (fun ls hl => ?_)
      refine lv_goto (tgt := 102) hx hb dX9_bay_123 (by decide) ?_
      exact ih (upd bay (ix x1) (fresh (ix x1))) (x1 + 1) z H kk _ _ _ G (lv_sub hl [1, 0] rfl)
def f_X9_bay (thrown acts taped latest leng cursor token start till fault faultAt : Int32) (bay fresh tape : Nat → Int32) : Option (Int32 × Int32 × Int32 × Int32 × Int32 × Int32 × Int32 × Int32 × Int32 × Int32 × Int32 × Int32 × (Nat → Int32) × (Nat → Int32)) := bd (f_X9_begin taped leng cursor token start till fault tape) (fun z1 => bd (f_X9_bay_L11 2000 fresh 0) (fun z4 => bd (f_X9_readTide z1.2.1 z1.2.2.1 z1.2.2.2.1 z1.2.2.2.2.1 z1.2.2.2.2.2.1 z1.2.2.2.2.2.2 faultAt z4 tape) (fun z5 => bd (f_X9_bay_L34 z1.2.1 tape 2000 z5.1 z5.2.1 z5.2.2.1 z5.2.2.2.1 z5.2.2.2.2.1 z5.2.2.2.2.2.1 z5.2.2.2.2.2.2) (fun z9 => if z9.2.2.2.2.1 = 0 then (if z9.2.1 = 1 then (if z9.2.2.2.2.1 ≤ 0 then (bd (f_X9_bay_L102 z9.2.2.2.2.2.2 2000 bay 0) (fun z17 => some ((upd z17 0 1) 1, 0, 0, z1.1, latest, z1.2.1, z9.1, z9.2.1, z9.2.2.1, z9.2.2.2.1, z9.2.2.2.2.1, z9.2.2.2.2.2.1, upd z17 0 1, z9.2.2.2.2.2.2))) else (some ((-1000100) - z9.2.2.2.2.2.1, 0, acts, z1.1, z9.2.2.2.2.1, z1.2.1, z9.1, z9.2.1, z9.2.2.1, z9.2.2.2.1, z9.2.2.2.2.1, z9.2.2.2.2.2.1, bay, z9.2.2.2.2.2.2))) else (bd (f_X9_bad z9.2.2.1 z9.2.2.2.2.1 z9.2.2.2.2.2.1 1) (fun z18 => if z18.1 ≤ 0 then (bd (f_X9_bay_L102 z9.2.2.2.2.2.2 2000 bay 0) (fun z20 => some ((upd z20 0 1) 1, 0, 0, z1.1, latest, z1.2.1, z9.1, z9.2.1, z9.2.2.1, z9.2.2.2.1, z18.1, z18.2, upd z20 0 1, z9.2.2.2.2.2.2))) else (some ((-1000100) - z18.2, 0, acts, z1.1, z18.1, z1.2.1, z9.1, z9.2.1, z9.2.2.1, z9.2.2.2.1, z18.1, z18.2, bay, z9.2.2.2.2.2.2))))) else (if z9.2.2.2.2.1 ≤ 0 then (bd (f_X9_bay_L102 z9.2.2.2.2.2.2 2000 bay 0) (fun z14 => some ((upd z14 0 1) 1, 0, 0, z1.1, latest, z1.2.1, z9.1, z9.2.1, z9.2.2.1, z9.2.2.2.1, z9.2.2.2.2.1, z9.2.2.2.2.2.1, upd z14 0 1, z9.2.2.2.2.2.2))) else (some ((-1000100) - z9.2.2.2.2.2.1, 0, acts, z1.1, z9.2.2.2.2.1, z1.2.1, z9.1, z9.2.1, z9.2.2.1, z9.2.2.2.1, z9.2.2.2.2.1, z9.2.2.2.2.2.1, bay, z9.2.2.2.2.2.2)))))))
set_option maxHeartbeats 4000000 in
set_option maxRecDepth 100000 in
theorem c_X9_bay (l : Launch) (D : va_G) (cy : Nat → ClassId) (mAd : Nat → Nat) (thrown status acts taped latest leng cursor token start till fault faultAt gifts traced : Int32) (lane many item bay fresh thn was tape left gift isKept kept trace : Nat → Int32) (z : (Int32 × Int32 × Int32 × Int32 × Int32 × Int32 × Int32 × Int32 × Int32 × Int32 × Int32 × Int32 × (Nat → Int32) × (Nat → Int32))) (hz : f_X9_bay thrown acts taped latest leng cursor token start till fault faultAt bay fresh tape = some z) : MI l yX9_bay wsX9_bay ({ frames := 5, cells := 0, slots := 0, locals := 110 } : Room) D cy [.ref (mAd 0)] (w_M cy mAd thrown status acts taped latest leng cursor token start till fault faultAt gifts traced lane many item bay fresh thn was tape left gift isKept kept trace) z.1 (w_M cy mAd z.2.1 status z.2.2.1 z.2.2.2.1 z.2.2.2.2.1 z.2.2.2.2.2.1 z.2.2.2.2.2.2.1 z.2.2.2.2.2.2.2.1 z.2.2.2.2.2.2.2.2.1 z.2.2.2.2.2.2.2.2.2.1 z.2.2.2.2.2.2.2.2.2.2.1 z.2.2.2.2.2.2.2.2.2.2.2.1 gifts traced lane many item z.2.2.2.2.2.2.2.2.2.2.2.2.1 z.2.2.2.2.2.2.2.2.2.2.2.2.2 thn was tape left gift isKept kept trace) := by
  refine met_start (Qf := fun A => MQi D cy z.1 (w_M cy mAd z.2.1 status z.2.2.1 z.2.2.2.1 z.2.2.2.2.1 z.2.2.2.2.2.1 z.2.2.2.2.2.2.1 z.2.2.2.2.2.2.2.1 z.2.2.2.2.2.2.2.2.1 z.2.2.2.2.2.2.2.2.2.1 z.2.2.2.2.2.2.2.2.2.2.1 z.2.2.2.2.2.2.2.2.2.2.2.1 gifts traced lane many item z.2.2.2.2.2.2.2.2.2.2.2.2.1 z.2.2.2.2.2.2.2.2.2.2.2.2.2 thn was tape left gift isKept kept trace) A) (cc := cX9_bay) (nL := 2) (ret := (some .int)) RX9 rfl (by decide) rfl (Nat.le_of_ble_eq_true rfl) ?_
  intro p e s m below meth c A ls C G hl
  have hl : lv_has ls 2 [(0, .ref (mAd 0))] := hl
  have H := hz
  unfold f_X9_bay at H
  obtain ⟨hx, hb, hr, hml, hown, hts, hlk, hK, hA, hE⟩ := id C
  have lk0 := hts (Cond.fieldLink RX9 50 "TideDebtsModel" "thrown" "I") (List.mem_of_getElem? (i := 1) rfl)
  have lk1 := hts (Cond.fieldLink RX9 108 "TideDebtsModel" "fault" "I") (List.mem_of_getElem? (i := 4) rfl)
  have lk2 := hts (Cond.fieldLink RX9 171 "TideDebtsModel" "acts" "I") (List.mem_of_getElem? (i := 9) rfl)
  have lk3 := hts (Cond.fieldLink RX9 19 "TideDebtsModel" "bay" "[I") (List.mem_of_getElem? (i := 10) rfl)
  have lk4 := hts (Cond.fieldLink RX9 167 "TideDebtsModel" "latest" "I") (List.mem_of_getElem? (i := 6) rfl)
  have lk5 := hts (Cond.constant RX9 170 (-1000100)) (List.mem_of_getElem? (i := 7) rfl)
  have lk6 := hts (Cond.fieldLink RX9 114 "TideDebtsModel" "faultAt" "I") (List.mem_of_getElem? (i := 8) rfl)
  have lk7 := hts (Cond.fieldLink RX9 96 "TideDebtsModel" "token" "I") (List.mem_of_getElem? (i := 5) rfl)
  have hiX9 : ∀ w ∈ u_ws RX9 TX9 27, w ∈ wsX9_bay := fun _ h => List.mem_cons_of_mem _ (List.mem_append_right _ h)
  refine lv_aload_n hx hb dX9_bay_0 rfl (lv_at hl 0 rfl) ?_
  refine lv_iconst (v := 0) hx hb dX9_bay_1 (by decide) ?_
  refine va_put (D := D) (ci := 9) (v := .int 0) (ty := .int) (C := RX9) (T := TX9) (N := 27) hx hb hts hiX9 tyX9 tyX9_ok nmX9 hown hK G.1 G.2.1 G.2.2 0 rfl rfl 0 (by decide) lk0 (fun _ h9 => h9) rfl (tyX9_ok 0 (by decide)) rfl rfl (Nat.le_of_ble_eq_true rfl) dX9_bay_2 (fun U locs hP hD hS => ?_)
  have G : Gd D A s (w_M cy mAd 0 status acts taped latest leng cursor token start till fault faultAt gifts traced lane many item bay fresh thn was tape left gift isKept kept trace) U locs := ⟨hP, hD, hS⟩
  refine lv_aload_n hx hb dX9_bay_5 rfl (lv_at hl 0 rfl) ?_
  obtain ⟨z1, hz1, H⟩ := bd_some H
  refine MV.callVw [] [] C G (c_X9_begin l D cy mAd 0 status acts taped latest leng cursor token start till fault faultAt gifts traced lane many item bay fresh thn was tape left gift isKept kept trace z1 hz1) gX9_bay_X9_begin rfl rfl rfl (n := 0) (by decide +kernel) ⟨Nat.le_of_ble_eq_true rfl, Nat.le_of_ble_eq_true rfl⟩ (q0 := 0) (ci := 9) rfl rfl rfl rfl hl.1 rfl (Nat.le_of_ble_eq_true rfl) dX9_bay_6 ⟨Nat.zero_le _, Nat.zero_le _⟩ (fun U locs G => ?_)
  have G : Gd D A s (w_M cy mAd 0 status acts z1.1 latest z1.2.1 z1.2.2.1 z1.2.2.2.1 z1.2.2.2.2.1 z1.2.2.2.2.2.1 z1.2.2.2.2.2.2 faultAt gifts traced lane many item bay fresh thn was tape left gift isKept kept trace) U locs := G
  refine lv_iconst (v := 0) hx hb dX9_bay_9 (by decide) ?_
  refine lv_istore_n (lv' := [(1, .int 0), (0, .ref (mAd 0))]) hx hb dX9_bay_10 rfl hl (by decide) rfl (fun ls hl => ?_)
  obtain ⟨z4, hz4, H⟩ := bd_some H
  refine wl_X9_bay_11 C mAd 0 status acts z1.1 latest z1.2.1 z1.2.2.1 z1.2.2.2.1 z1.2.2.2.2.1 z1.2.2.2.2.2.1 z1.2.2.2.2.2.2 faultAt gifts traced lane many item bay thn was tape left gift isKept kept trace _ fresh 0 z4 hz4 (fun U locs ls G hl => ?_) _ _ _ G (lv_sub hl [1, 0] rfl)
  have G : Gd D A s (w_M cy mAd 0 status acts z1.1 latest z1.2.1 z1.2.2.1 z1.2.2.2.1 z1.2.2.2.2.1 z1.2.2.2.2.2.1 z1.2.2.2.2.2.2 faultAt gifts traced lane many item bay z4 thn was tape left gift isKept kept trace) U locs := G
  have hl : lv_has ls 2 [(0, .ref (mAd 0))] := hl
  refine lv_aload_n hx hb dX9_bay_30 rfl (lv_at hl 0 rfl) ?_
  obtain ⟨z5, hz5, H⟩ := bd_some H
  refine MV.callVw [] [] C G (c_X9_readTide l D cy mAd 0 status acts z1.1 latest z1.2.1 z1.2.2.1 z1.2.2.2.1 z1.2.2.2.2.1 z1.2.2.2.2.2.1 z1.2.2.2.2.2.2 faultAt gifts traced lane many item bay z4 thn was tape left gift isKept kept trace z5 hz5) gX9_bay_X9_readTide rfl rfl rfl (n := 0) (by decide +kernel) ⟨Nat.le_of_ble_eq_true rfl, Nat.le_of_ble_eq_true rfl⟩ (q0 := 0) (ci := 9) rfl rfl rfl rfl hl.1 rfl (Nat.le_of_ble_eq_true rfl) dX9_bay_31 ⟨Nat.zero_le _, Nat.zero_le _⟩ (fun U locs G => ?_)
  have G : Gd D A s (w_M cy mAd 0 status acts z1.1 latest z1.2.1 z5.1 z5.2.1 z5.2.2.1 z5.2.2.2.1 z5.2.2.2.2.1 z5.2.2.2.2.2.1 gifts traced lane many item bay z5.2.2.2.2.2.2 thn was tape left gift isKept kept trace) U locs := G
  obtain ⟨z9, hz9, H⟩ := bd_some H
  refine wl_X9_bay_34 C mAd 0 status acts z1.1 latest z1.2.1 gifts traced lane many item bay thn was tape left gift isKept kept trace _ z5.1 z5.2.1 z5.2.2.1 z5.2.2.2.1 z5.2.2.2.2.1 z5.2.2.2.2.2.1 z5.2.2.2.2.2.2 z9 hz9 (fun U locs ls G hl => ?_) _ _ _ G (lv_sub hl [0] rfl)
  have G : Gd D A s (w_M cy mAd 0 status acts z1.1 latest z1.2.1 z9.1 z9.2.1 z9.2.2.1 z9.2.2.2.1 z9.2.2.2.2.1 z9.2.2.2.2.2.1 gifts traced lane many item bay z9.2.2.2.2.2.2 thn was tape left gift isKept kept trace) U locs := G
  have hl : lv_has ls 2 [(0, .ref (mAd 0))] := hl
  refine lv_aload_n hx hb dX9_bay_52 rfl (lv_at hl 0 rfl) ?_
  refine va_get (D := D) (ci := 9) (v := .int z9.2.2.2.2.1) (C := RX9) (T := TX9) (N := 27) hx hb hts hiX9 hown hK G.1 0 rfl rfl 18 (by decide) lk1 (fun _ h9 => h9) rfl dX9_bay_53 ?_
  refine lv_if_ne (tgt := 72) hx hb dX9_bay_56 (by decide) (fun c10 => ?_) (fun c10 => ?_)
  · have H := if_f H c10
    refine lv_aload_n hx hb dX9_bay_72 rfl (lv_at hl 0 rfl) ?_
    refine va_get (D := D) (ci := 9) (v := .int z9.2.2.2.2.1) (C := RX9) (T := TX9) (N := 27) hx hb hts hiX9 hown hK G.1 0 rfl rfl 18 (by decide) lk1 (fun _ h9 => h9) rfl dX9_bay_73 ?_
    refine lv_if_le (tgt := 95) hx hb dX9_bay_76 (by decide) (fun c11 => ?_) (fun c11 => ?_)
    · have H := if_t H c11
      refine lv_aload_n hx hb dX9_bay_95 rfl (lv_at hl 0 rfl) ?_
      refine lv_iconst (v := 0) hx hb dX9_bay_96 (by decide) ?_
      refine va_put (D := D) (ci := 9) (v := .int 0) (ty := .int) (C := RX9) (T := TX9) (N := 27) hx hb hts hiX9 tyX9 tyX9_ok nmX9 hown hK G.1 G.2.1 G.2.2 0 rfl rfl 9 (by decide) lk2 (fun _ h9 => h9) rfl (tyX9_ok 9 (by decide)) rfl rfl (Nat.le_of_ble_eq_true rfl) dX9_bay_97 (fun U locs hP hD hS => ?_)
      have G : Gd D A s (w_M cy mAd 0 status 0 z1.1 latest z1.2.1 z9.1 z9.2.1 z9.2.2.1 z9.2.2.2.1 z9.2.2.2.2.1 z9.2.2.2.2.2.1 gifts traced lane many item bay z9.2.2.2.2.2.2 thn was tape left gift isKept kept trace) U locs := ⟨hP, hD, hS⟩
      refine lv_iconst (v := 0) hx hb dX9_bay_100 (by decide) ?_
      refine lv_istore_n (lv' := [(1, .int 0), (0, .ref (mAd 0))]) hx hb dX9_bay_101 rfl hl (by decide) rfl (fun ls hl => ?_)
      obtain ⟨z14, hz14, H⟩ := bd_some H
      refine wl_X9_bay_102 C mAd 0 status 0 z1.1 latest z1.2.1 z9.1 z9.2.1 z9.2.2.1 z9.2.2.2.1 z9.2.2.2.2.1 z9.2.2.2.2.2.1 gifts traced lane many item z9.2.2.2.2.2.2 thn was tape left gift isKept kept trace _ bay 0 z14 hz14 (fun U locs ls G hl => ?_) _ _ _ G (lv_sub hl [1, 0] rfl)
      have G : Gd D A s (w_M cy mAd 0 status 0 z1.1 latest z1.2.1 z9.1 z9.2.1 z9.2.2.1 z9.2.2.2.1 z9.2.2.2.2.1 z9.2.2.2.2.2.1 gifts traced lane many item z14 z9.2.2.2.2.2.2 thn was tape left gift isKept kept trace) U locs := G
      have hl : lv_has ls 2 [(0, .ref (mAd 0))] := hl
      refine lv_aload_n hx hb dX9_bay_126 rfl (lv_at hl 0 rfl) ?_
      refine va_get (D := D) (ci := 9) (v := .ref (mAd 4)) (C := RX9) (T := TX9) (N := 27) hx hb hts hiX9 hown hK G.1 0 rfl rfl 5 (by decide) lk3 (fun _ h9 => h9) rfl dX9_bay_127 ?_
      refine lv_iconst (v := 0) hx hb dX9_bay_130 (by decide) ?_
      refine lv_iconst (v := 1) hx hb dX9_bay_131 (by decide) ?_
      refine va_iast hx hb hK G.1 G.2.1 G.2.2 4 1 rfl rfl (inb_in (by decide)) dX9_bay_132 (fun U locs hP hD hS => ?_)
      have G : Gd D A s (w_M cy mAd 0 status 0 z1.1 latest z1.2.1 z9.1 z9.2.1 z9.2.2.1 z9.2.2.2.1 z9.2.2.2.2.1 z9.2.2.2.2.2.1 gifts traced lane many item (upd z14 0 1) z9.2.2.2.2.2.2 thn was tape left gift isKept kept trace) U locs := ⟨hP, hD, hS⟩
      refine lv_aload_n hx hb dX9_bay_133 rfl (lv_at hl 0 rfl) ?_
      refine va_get (D := D) (ci := 9) (v := .ref (mAd 4)) (C := RX9) (T := TX9) (N := 27) hx hb hts hiX9 hown hK G.1 0 rfl rfl 5 (by decide) lk3 (fun _ h9 => h9) rfl dX9_bay_134 ?_
      refine lv_iconst (v := 1) hx hb dX9_bay_137 (by decide) ?_
      refine g_iald (v := (upd z14 0 1) 1) hx hb hK G.1 4 1 rfl rfl (by decide) rfl dX9_bay_138 ?_
      obtain rfl := Option.some.inj H
      exact ret_i C G rfl dX9_bay_139
    · have H := if_f H c11
      refine lv_aload_n hx hb dX9_bay_79 rfl (lv_at hl 0 rfl) ?_
      refine lv_aload_n hx hb dX9_bay_80 rfl (lv_at hl 0 rfl) ?_
      refine va_get (D := D) (ci := 9) (v := .int z9.2.2.2.2.1) (C := RX9) (T := TX9) (N := 27) hx hb hts hiX9 hown hK G.1 0 rfl rfl 18 (by decide) lk1 (fun _ h9 => h9) rfl dX9_bay_81 ?_
      refine va_put (D := D) (ci := 9) (v := .int z9.2.2.2.2.1) (ty := .int) (C := RX9) (T := TX9) (N := 27) hx hb hts hiX9 tyX9 tyX9_ok nmX9 hown hK G.1 G.2.1 G.2.2 0 rfl rfl 12 (by decide) lk4 (fun _ h9 => h9) rfl (tyX9_ok 12 (by decide)) rfl rfl (Nat.le_of_ble_eq_true rfl) dX9_bay_84 (fun U locs hP hD hS => ?_)
      have G : Gd D A s (w_M cy mAd 0 status acts z1.1 z9.2.2.2.2.1 z1.2.1 z9.1 z9.2.1 z9.2.2.1 z9.2.2.2.1 z9.2.2.2.2.1 z9.2.2.2.2.2.1 gifts traced lane many item bay z9.2.2.2.2.2.2 thn was tape left gift isKept kept trace) U locs := ⟨hP, hD, hS⟩
      refine lv_ldc hx hb hown lk5 dX9_bay_87 ?_
      refine lv_aload_n hx hb dX9_bay_89 rfl (lv_at hl 0 rfl) ?_
      refine va_get (D := D) (ci := 9) (v := .int z9.2.2.2.2.2.1) (C := RX9) (T := TX9) (N := 27) hx hb hts hiX9 hown hK G.1 0 rfl rfl 19 (by decide) lk6 (fun _ h9 => h9) rfl dX9_bay_90 ?_
      refine lv_isub hx hb dX9_bay_93 ?_
      obtain rfl := Option.some.inj H
      exact ret_i C G rfl dX9_bay_94
  · have H := if_t H c10
    refine lv_aload_n hx hb dX9_bay_59 rfl (lv_at hl 0 rfl) ?_
    refine va_get (D := D) (ci := 9) (v := .int z9.2.1) (C := RX9) (T := TX9) (N := 27) hx hb hts hiX9 hown hK G.1 0 rfl rfl 15 (by decide) lk7 (fun _ h9 => h9) rfl dX9_bay_60 ?_
    refine lv_iconst (v := 1) hx hb dX9_bay_63 (by decide) ?_
    refine lv_icmp_eq (tgt := 72) hx hb dX9_bay_64 (by decide) (fun c15 => ?_) (fun c15 => ?_)
    · have H := if_t H c15
      refine lv_aload_n hx hb dX9_bay_72 rfl (lv_at hl 0 rfl) ?_
      refine va_get (D := D) (ci := 9) (v := .int z9.2.2.2.2.1) (C := RX9) (T := TX9) (N := 27) hx hb hts hiX9 hown hK G.1 0 rfl rfl 18 (by decide) lk1 (fun _ h9 => h9) rfl dX9_bay_73 ?_
      refine lv_if_le (tgt := 95) hx hb dX9_bay_76 (by decide) (fun c16 => ?_) (fun c16 => ?_)
      · have H := if_t H c16
        refine lv_aload_n hx hb dX9_bay_95 rfl (lv_at hl 0 rfl) ?_
        refine lv_iconst (v := 0) hx hb dX9_bay_96 (by decide) ?_
        refine va_put (D := D) (ci := 9) (v := .int 0) (ty := .int) (C := RX9) (T := TX9) (N := 27) hx hb hts hiX9 tyX9 tyX9_ok nmX9 hown hK G.1 G.2.1 G.2.2 0 rfl rfl 9 (by decide) lk2 (fun _ h9 => h9) rfl (tyX9_ok 9 (by decide)) rfl rfl (Nat.le_of_ble_eq_true rfl) dX9_bay_97 (fun U locs hP hD hS => ?_)
        have G : Gd D A s (w_M cy mAd 0 status 0 z1.1 latest z1.2.1 z9.1 z9.2.1 z9.2.2.1 z9.2.2.2.1 z9.2.2.2.2.1 z9.2.2.2.2.2.1 gifts traced lane many item bay z9.2.2.2.2.2.2 thn was tape left gift isKept kept trace) U locs := ⟨hP, hD, hS⟩
        refine lv_iconst (v := 0) hx hb dX9_bay_100 (by decide) ?_
        refine lv_istore_n (lv' := [(1, .int 0), (0, .ref (mAd 0))]) hx hb dX9_bay_101 rfl hl (by decide) rfl (fun ls hl => ?_)
        obtain ⟨z17, hz17, H⟩ := bd_some H
        refine wl_X9_bay_102 C mAd 0 status 0 z1.1 latest z1.2.1 z9.1 z9.2.1 z9.2.2.1 z9.2.2.2.1 z9.2.2.2.2.1 z9.2.2.2.2.2.1 gifts traced lane many item z9.2.2.2.2.2.2 thn was tape left gift isKept kept trace _ bay 0 z17 hz17 (fun U locs ls G hl => ?_) _ _ _ G (lv_sub hl [1, 0] rfl)
        have G : Gd D A s (w_M cy mAd 0 status 0 z1.1 latest z1.2.1 z9.1 z9.2.1 z9.2.2.1 z9.2.2.2.1 z9.2.2.2.2.1 z9.2.2.2.2.2.1 gifts traced lane many item z17 z9.2.2.2.2.2.2 thn was tape left gift isKept kept trace) U locs := G
        have hl : lv_has ls 2 [(0, .ref (mAd 0))] := hl
        refine lv_aload_n hx hb dX9_bay_126 rfl (lv_at hl 0 rfl) ?_
        refine va_get (D := D) (ci := 9) (v := .ref (mAd 4)) (C := RX9) (T := TX9) (N := 27) hx hb hts hiX9 hown hK G.1 0 rfl rfl 5 (by decide) lk3 (fun _ h9 => h9) rfl dX9_bay_127 ?_
        refine lv_iconst (v := 0) hx hb dX9_bay_130 (by decide) ?_
        refine lv_iconst (v := 1) hx hb dX9_bay_131 (by decide) ?_
        refine va_iast hx hb hK G.1 G.2.1 G.2.2 4 1 rfl rfl (inb_in (by decide)) dX9_bay_132 (fun U locs hP hD hS => ?_)
        have G : Gd D A s (w_M cy mAd 0 status 0 z1.1 latest z1.2.1 z9.1 z9.2.1 z9.2.2.1 z9.2.2.2.1 z9.2.2.2.2.1 z9.2.2.2.2.2.1 gifts traced lane many item (upd z17 0 1) z9.2.2.2.2.2.2 thn was tape left gift isKept kept trace) U locs := ⟨hP, hD, hS⟩
        refine lv_aload_n hx hb dX9_bay_133 rfl (lv_at hl 0 rfl) ?_
        refine va_get (D := D) (ci := 9) (v := .ref (mAd 4)) (C := RX9) (T := TX9) (N := 27) hx hb hts hiX9 hown hK G.1 0 rfl rfl 5 (by decide) lk3 (fun _ h9 => h9) rfl dX9_bay_134 ?_
        refine lv_iconst (v := 1) hx hb dX9_bay_137 (by decide) ?_
        refine g_iald (v := (upd z17 0 1) 1) hx hb hK G.1 4 1 rfl rfl (by decide) rfl dX9_bay_138 ?_
        obtain rfl := Option.some.inj H
        exact ret_i C G rfl dX9_bay_139
      · have H := if_f H c16
        refine lv_aload_n hx hb dX9_bay_79 rfl (lv_at hl 0 rfl) ?_
        refine lv_aload_n hx hb dX9_bay_80 rfl (lv_at hl 0 rfl) ?_
        refine va_get (D := D) (ci := 9) (v := .int z9.2.2.2.2.1) (C := RX9) (T := TX9) (N := 27) hx hb hts hiX9 hown hK G.1 0 rfl rfl 18 (by decide) lk1 (fun _ h9 => h9) rfl dX9_bay_81 ?_
        refine va_put (D := D) (ci := 9) (v := .int z9.2.2.2.2.1) (ty := .int) (C := RX9) (T := TX9) (N := 27) hx hb hts hiX9 tyX9 tyX9_ok nmX9 hown hK G.1 G.2.1 G.2.2 0 rfl rfl 12 (by decide) lk4 (fun _ h9 => h9) rfl (tyX9_ok 12 (by decide)) rfl rfl (Nat.le_of_ble_eq_true rfl) dX9_bay_84 (fun U locs hP hD hS => ?_)
        have G : Gd D A s (w_M cy mAd 0 status acts z1.1 z9.2.2.2.2.1 z1.2.1 z9.1 z9.2.1 z9.2.2.1 z9.2.2.2.1 z9.2.2.2.2.1 z9.2.2.2.2.2.1 gifts traced lane many item bay z9.2.2.2.2.2.2 thn was tape left gift isKept kept trace) U locs := ⟨hP, hD, hS⟩
        refine lv_ldc hx hb hown lk5 dX9_bay_87 ?_
        refine lv_aload_n hx hb dX9_bay_89 rfl (lv_at hl 0 rfl) ?_
        refine va_get (D := D) (ci := 9) (v := .int z9.2.2.2.2.2.1) (C := RX9) (T := TX9) (N := 27) hx hb hts hiX9 hown hK G.1 0 rfl rfl 19 (by decide) lk6 (fun _ h9 => h9) rfl dX9_bay_90 ?_
        refine lv_isub hx hb dX9_bay_93 ?_
        obtain rfl := Option.some.inj H
        exact ret_i C G rfl dX9_bay_94
    · have H := if_f H c15
      refine lv_aload_n hx hb dX9_bay_67 rfl (lv_at hl 0 rfl) ?_
      refine lv_iconst (v := 1) hx hb dX9_bay_68 (by decide) ?_
      obtain ⟨z18, hz18, H⟩ := bd_some H
      refine MV.callVw [.int 1] [] C G (c_X9_bad l D cy mAd 0 status acts z1.1 latest z1.2.1 z9.1 z9.2.1 z9.2.2.1 z9.2.2.2.1 z9.2.2.2.2.1 z9.2.2.2.2.2.1 gifts traced lane many item bay z9.2.2.2.2.2.2 thn was tape left gift isKept kept trace 1 z18 hz18) gX9_bay_X9_bad rfl rfl rfl (n := 1) (by decide +kernel) ⟨Nat.le_of_ble_eq_true rfl, Nat.le_of_ble_eq_true rfl⟩ (q0 := 0) (ci := 9) rfl rfl rfl rfl hl.1 rfl (Nat.le_of_ble_eq_true rfl) dX9_bay_69 ⟨Nat.zero_le _, Nat.zero_le _⟩ (fun U locs G => ?_)
      have G : Gd D A s (w_M cy mAd 0 status acts z1.1 latest z1.2.1 z9.1 z9.2.1 z9.2.2.1 z9.2.2.2.1 z18.1 z18.2 gifts traced lane many item bay z9.2.2.2.2.2.2 thn was tape left gift isKept kept trace) U locs := G
      refine lv_aload_n hx hb dX9_bay_72 rfl (lv_at hl 0 rfl) ?_
      refine va_get (D := D) (ci := 9) (v := .int z18.1) (C := RX9) (T := TX9) (N := 27) hx hb hts hiX9 hown hK G.1 0 rfl rfl 18 (by decide) lk1 (fun _ h9 => h9) rfl dX9_bay_73 ?_
      refine lv_if_le (tgt := 95) hx hb dX9_bay_76 (by decide) (fun c19 => ?_) (fun c19 => ?_)
      · have H := if_t H c19
        refine lv_aload_n hx hb dX9_bay_95 rfl (lv_at hl 0 rfl) ?_
        refine lv_iconst (v := 0) hx hb dX9_bay_96 (by decide) ?_
        refine va_put (D := D) (ci := 9) (v := .int 0) (ty := .int) (C := RX9) (T := TX9) (N := 27) hx hb hts hiX9 tyX9 tyX9_ok nmX9 hown hK G.1 G.2.1 G.2.2 0 rfl rfl 9 (by decide) lk2 (fun _ h9 => h9) rfl (tyX9_ok 9 (by decide)) rfl rfl (Nat.le_of_ble_eq_true rfl) dX9_bay_97 (fun U locs hP hD hS => ?_)
        have G : Gd D A s (w_M cy mAd 0 status 0 z1.1 latest z1.2.1 z9.1 z9.2.1 z9.2.2.1 z9.2.2.2.1 z18.1 z18.2 gifts traced lane many item bay z9.2.2.2.2.2.2 thn was tape left gift isKept kept trace) U locs := ⟨hP, hD, hS⟩
        refine lv_iconst (v := 0) hx hb dX9_bay_100 (by decide) ?_
        refine lv_istore_n (lv' := [(1, .int 0), (0, .ref (mAd 0))]) hx hb dX9_bay_101 rfl hl (by decide) rfl (fun ls hl => ?_)
        obtain ⟨z20, hz20, H⟩ := bd_some H
        refine wl_X9_bay_102 C mAd 0 status 0 z1.1 latest z1.2.1 z9.1 z9.2.1 z9.2.2.1 z9.2.2.2.1 z18.1 z18.2 gifts traced lane many item z9.2.2.2.2.2.2 thn was tape left gift isKept kept trace _ bay 0 z20 hz20 (fun U locs ls G hl => ?_) _ _ _ G (lv_sub hl [1, 0] rfl)
        have G : Gd D A s (w_M cy mAd 0 status 0 z1.1 latest z1.2.1 z9.1 z9.2.1 z9.2.2.1 z9.2.2.2.1 z18.1 z18.2 gifts traced lane many item z20 z9.2.2.2.2.2.2 thn was tape left gift isKept kept trace) U locs := G
        have hl : lv_has ls 2 [(0, .ref (mAd 0))] := hl
        refine lv_aload_n hx hb dX9_bay_126 rfl (lv_at hl 0 rfl) ?_
        refine va_get (D := D) (ci := 9) (v := .ref (mAd 4)) (C := RX9) (T := TX9) (N := 27) hx hb hts hiX9 hown hK G.1 0 rfl rfl 5 (by decide) lk3 (fun _ h9 => h9) rfl dX9_bay_127 ?_
        refine lv_iconst (v := 0) hx hb dX9_bay_130 (by decide) ?_
        refine lv_iconst (v := 1) hx hb dX9_bay_131 (by decide) ?_
        refine va_iast hx hb hK G.1 G.2.1 G.2.2 4 1 rfl rfl (inb_in (by decide)) dX9_bay_132 (fun U locs hP hD hS => ?_)
        have G : Gd D A s (w_M cy mAd 0 status 0 z1.1 latest z1.2.1 z9.1 z9.2.1 z9.2.2.1 z9.2.2.2.1 z18.1 z18.2 gifts traced lane many item (upd z20 0 1) z9.2.2.2.2.2.2 thn was tape left gift isKept kept trace) U locs := ⟨hP, hD, hS⟩
        refine lv_aload_n hx hb dX9_bay_133 rfl (lv_at hl 0 rfl) ?_
        refine va_get (D := D) (ci := 9) (v := .ref (mAd 4)) (C := RX9) (T := TX9) (N := 27) hx hb hts hiX9 hown hK G.1 0 rfl rfl 5 (by decide) lk3 (fun _ h9 => h9) rfl dX9_bay_134 ?_
        refine lv_iconst (v := 1) hx hb dX9_bay_137 (by decide) ?_
        refine g_iald (v := (upd z20 0 1) 1) hx hb hK G.1 4 1 rfl rfl (by decide) rfl dX9_bay_138 ?_
        obtain rfl := Option.some.inj H
        exact ret_i C G rfl dX9_bay_139
      · have H := if_f H c19
        refine lv_aload_n hx hb dX9_bay_79 rfl (lv_at hl 0 rfl) ?_
        refine lv_aload_n hx hb dX9_bay_80 rfl (lv_at hl 0 rfl) ?_
        refine va_get (D := D) (ci := 9) (v := .int z18.1) (C := RX9) (T := TX9) (N := 27) hx hb hts hiX9 hown hK G.1 0 rfl rfl 18 (by decide) lk1 (fun _ h9 => h9) rfl dX9_bay_81 ?_
        refine va_put (D := D) (ci := 9) (v := .int z18.1) (ty := .int) (C := RX9) (T := TX9) (N := 27) hx hb hts hiX9 tyX9 tyX9_ok nmX9 hown hK G.1 G.2.1 G.2.2 0 rfl rfl 12 (by decide) lk4 (fun _ h9 => h9) rfl (tyX9_ok 12 (by decide)) rfl rfl (Nat.le_of_ble_eq_true rfl) dX9_bay_84 (fun U locs hP hD hS => ?_)
        have G : Gd D A s (w_M cy mAd 0 status acts z1.1 z18.1 z1.2.1 z9.1 z9.2.1 z9.2.2.1 z9.2.2.2.1 z18.1 z18.2 gifts traced lane many item bay z9.2.2.2.2.2.2 thn was tape left gift isKept kept trace) U locs := ⟨hP, hD, hS⟩
        refine lv_ldc hx hb hown lk5 dX9_bay_87 ?_
        refine lv_aload_n hx hb dX9_bay_89 rfl (lv_at hl 0 rfl) ?_
        refine va_get (D := D) (ci := 9) (v := .int z18.2) (C := RX9) (T := TX9) (N := 27) hx hb hts hiX9 hown hK G.1 0 rfl rfl 19 (by decide) lk6 (fun _ h9 => h9) rfl dX9_bay_90 ?_
        refine lv_isub hx hb dX9_bay_93 ?_
        obtain rfl := Option.some.inj H
        exact ret_i C G rfl dX9_bay_94
def f_X9_fault (thrown latest : Int32) : Option (Int32 × Int32) := some (latest, 0)
set_option maxHeartbeats 4000000 in
set_option maxRecDepth 100000 in
theorem c_X9_fault (l : Launch) (D : va_G) (cy : Nat → ClassId) (mAd : Nat → Nat) (thrown status acts taped latest leng cursor token start till fault faultAt gifts traced : Int32) (lane many item bay fresh thn was tape left gift isKept kept trace : Nat → Int32) (z : (Int32 × Int32)) (hz : f_X9_fault thrown latest = some z) : MI l yX9_fault wsX9_fault ({ frames := 0, cells := 0, slots := 0, locals := 0 } : Room) D cy [.ref (mAd 0)] (w_M cy mAd thrown status acts taped latest leng cursor token start till fault faultAt gifts traced lane many item bay fresh thn was tape left gift isKept kept trace) z.1 (w_M cy mAd z.2 status acts taped latest leng cursor token start till fault faultAt gifts traced lane many item bay fresh thn was tape left gift isKept kept trace) := by
  refine met_start (Qf := fun A => MQi D cy z.1 (w_M cy mAd z.2 status acts taped latest leng cursor token start till fault faultAt gifts traced lane many item bay fresh thn was tape left gift isKept kept trace) A) (cc := cX9_fault) (nL := 1) (ret := (some .int)) RX9 rfl (by decide) rfl (Nat.le_of_ble_eq_true rfl) ?_
  intro p e s m below meth c A ls C G hl
  have hl : lv_has ls 1 [(0, .ref (mAd 0))] := hl
  have H := hz
  unfold f_X9_fault at H
  obtain ⟨hx, hb, hr, hml, hown, hts, hlk, hK, hA, hE⟩ := id C
  have lk0 := hts (Cond.fieldLink RX9 50 "TideDebtsModel" "thrown" "I") (List.mem_of_getElem? (i := 1) rfl)
  have lk1 := hts (Cond.fieldLink RX9 167 "TideDebtsModel" "latest" "I") (List.mem_of_getElem? (i := 2) rfl)
  have hiX9 : ∀ w ∈ u_ws RX9 TX9 27, w ∈ wsX9_fault := fun _ h => List.mem_cons_of_mem _ (List.mem_append_right _ h)
  refine lv_aload_n hx hb dX9_fault_0 rfl (lv_at hl 0 rfl) ?_
  refine lv_iconst (v := 0) hx hb dX9_fault_1 (by decide) ?_
  refine va_put (D := D) (ci := 9) (v := .int 0) (ty := .int) (C := RX9) (T := TX9) (N := 27) hx hb hts hiX9 tyX9 tyX9_ok nmX9 hown hK G.1 G.2.1 G.2.2 0 rfl rfl 0 (by decide) lk0 (fun _ h9 => h9) rfl (tyX9_ok 0 (by decide)) rfl rfl (Nat.le_of_ble_eq_true rfl) dX9_fault_2 (fun U locs hP hD hS => ?_)
  have G : Gd D A s (w_M cy mAd 0 status acts taped latest leng cursor token start till fault faultAt gifts traced lane many item bay fresh thn was tape left gift isKept kept trace) U locs := ⟨hP, hD, hS⟩
  refine lv_aload_n hx hb dX9_fault_5 rfl (lv_at hl 0 rfl) ?_
  refine va_get (D := D) (ci := 9) (v := .int latest) (C := RX9) (T := TX9) (N := 27) hx hb hts hiX9 hown hK G.1 0 rfl rfl 12 (by decide) lk1 (fun _ h9 => h9) rfl dX9_fault_6 ?_
  obtain rfl := Option.some.inj H
  exact ret_i C G rfl dX9_fault_9
def f_X9_isThere (bay : Nat → Int32) : Option Int32 := if (bay 0) = 1 then (some 1) else (some 0)
set_option maxHeartbeats 4000000 in
set_option maxRecDepth 100000 in
theorem c_X9_isThere (l : Launch) (D : va_G) (cy : Nat → ClassId) (mAd : Nat → Nat) (thrown status acts taped latest leng cursor token start till fault faultAt gifts traced : Int32) (lane many item bay fresh thn was tape left gift isKept kept trace : Nat → Int32) (z : Int32) (hz : f_X9_isThere bay = some z) : MI l yX9_isThere wsX9_isThere ({ frames := 0, cells := 0, slots := 0, locals := 0 } : Room) D cy [.ref (mAd 0)] (w_M cy mAd thrown status acts taped latest leng cursor token start till fault faultAt gifts traced lane many item bay fresh thn was tape left gift isKept kept trace) z (w_M cy mAd thrown status acts taped latest leng cursor token start till fault faultAt gifts traced lane many item bay fresh thn was tape left gift isKept kept trace) := by
  refine met_start (Qf := fun A => MQi D cy z (w_M cy mAd thrown status acts taped latest leng cursor token start till fault faultAt gifts traced lane many item bay fresh thn was tape left gift isKept kept trace) A) (cc := cX9_isThere) (nL := 1) (ret := (some .boolean)) RX9 rfl (by decide) rfl (Nat.le_of_ble_eq_true rfl) ?_
  intro p e s m below meth c A ls C G hl
  have hl : lv_has ls 1 [(0, .ref (mAd 0))] := hl
  have H := hz
  unfold f_X9_isThere at H
  obtain ⟨hx, hb, hr, hml, hown, hts, hlk, hK, hA, hE⟩ := id C
  have lk0 := hts (Cond.fieldLink RX9 19 "TideDebtsModel" "bay" "[I") (List.mem_of_getElem? (i := 1) rfl)
  have hiX9 : ∀ w ∈ u_ws RX9 TX9 27, w ∈ wsX9_isThere := fun _ h => List.mem_cons_of_mem _ (List.mem_append_right _ h)
  refine lv_aload_n hx hb dX9_isThere_0 rfl (lv_at hl 0 rfl) ?_
  refine va_get (D := D) (ci := 9) (v := .ref (mAd 4)) (C := RX9) (T := TX9) (N := 27) hx hb hts hiX9 hown hK G.1 0 rfl rfl 5 (by decide) lk0 (fun _ h9 => h9) rfl dX9_isThere_1 ?_
  refine lv_iconst (v := 0) hx hb dX9_isThere_4 (by decide) ?_
  refine g_iald (v := bay 0) hx hb hK G.1 4 1 rfl rfl (by decide) rfl dX9_isThere_5 ?_
  refine lv_iconst (v := 1) hx hb dX9_isThere_6 (by decide) ?_
  refine lv_icmp_ne (tgt := 14) hx hb dX9_isThere_7 (by decide) (fun c1 => ?_) (fun c1 => ?_)
  · have H := if_f H c1
    refine lv_iconst (v := 0) hx hb dX9_isThere_14 (by decide) ?_
    obtain rfl := Option.some.inj H
    exact ret_z C G rfl rfl dX9_isThere_15
  · have H := if_t H c1
    refine lv_iconst (v := 1) hx hb dX9_isThere_10 (by decide) ?_
    refine lv_goto (tgt := 15) hx hb dX9_isThere_11 (by decide) ?_
    obtain rfl := Option.some.inj H
    exact ret_z C G rfl rfl dX9_isThere_15
def f_X9_isWater (bay : Nat → Int32) (p1 : Int32) : Option Int32 := bd (f_X9_in p1.toInt64 0 (((bay 1) - 1 : Int32).toInt64)) (fun z1 => gd (isz z1) (some z1))
set_option maxHeartbeats 4000000 in
set_option maxRecDepth 100000 in
theorem c_X9_isWater (l : Launch) (D : va_G) (cy : Nat → ClassId) (mAd : Nat → Nat) (thrown status acts taped latest leng cursor token start till fault faultAt gifts traced : Int32) (lane many item bay fresh thn was tape left gift isKept kept trace : Nat → Int32) (p1 : Int32) (z : Int32) (hz : f_X9_isWater bay p1 = some z) : MI l yX9_isWater wsX9_isWater ({ frames := 1, cells := 0, slots := 0, locals := 25 } : Room) D cy [.ref (mAd 0), .int p1] (w_M cy mAd thrown status acts taped latest leng cursor token start till fault faultAt gifts traced lane many item bay fresh thn was tape left gift isKept kept trace) z (w_M cy mAd thrown status acts taped latest leng cursor token start till fault faultAt gifts traced lane many item bay fresh thn was tape left gift isKept kept trace) := by
  refine met_start (Qf := fun A => MQi D cy z (w_M cy mAd thrown status acts taped latest leng cursor token start till fault faultAt gifts traced lane many item bay fresh thn was tape left gift isKept kept trace) A) (cc := cX9_isWater) (nL := 2) (ret := (some .boolean)) RX9 rfl (by decide) rfl (Nat.le_of_ble_eq_true rfl) ?_
  intro p e s m below meth c A ls C G hl
  have hl : lv_has ls 2 [(0, .ref (mAd 0)), (1, .int p1)] := hl
  have H := hz
  unfold f_X9_isWater at H
  obtain ⟨hx, hb, hr, hml, hown, hts, hlk, hK, hA, hE⟩ := id C
  have lk0 := hts (Cond.fieldLink RX9 19 "TideDebtsModel" "bay" "[I") (List.mem_of_getElem? (i := 1) rfl)
  have hiX9 : ∀ w ∈ u_ws RX9 TX9 27, w ∈ wsX9_isWater := fun _ h => List.mem_cons_of_mem _ (List.mem_append_right _ h)
  refine lv_iload_n hx hb dX9_isWater_0 rfl (lv_at hl 1 rfl) ?_
  refine lv_i2l hx hb dX9_isWater_1 rfl ?_
  refine lv_lconst (v := 0) hx hb dX9_isWater_2 (by decide) ?_
  refine lv_aload_n hx hb dX9_isWater_3 rfl (lv_at hl 0 rfl) ?_
  refine va_get (D := D) (ci := 9) (v := .ref (mAd 4)) (C := RX9) (T := TX9) (N := 27) hx hb hts hiX9 hown hK G.1 0 rfl rfl 5 (by decide) lk0 (fun _ h9 => h9) rfl dX9_isWater_4 ?_
  refine lv_iconst (v := 1) hx hb dX9_isWater_7 (by decide) ?_
  refine g_iald (v := bay 1) hx hb hK G.1 4 1 rfl rfl (by decide) rfl dX9_isWater_8 ?_
  refine lv_iconst (v := 1) hx hb dX9_isWater_9 (by decide) ?_
  refine lv_isub hx hb dX9_isWater_10 ?_
  refine lv_i2l hx hb dX9_isWater_11 rfl ?_
  obtain ⟨z1, hz1, H⟩ := bd_some H
  refine MI.callS z1 [.long p1.toInt64, .long 0, .long (((bay 1) - 1 : Int32).toInt64)] [] [] C G (c_X9_in l D cy p1.toInt64 0 (((bay 1) - 1 : Int32).toInt64) z1 hz1) gX9_isWater_X9_in rfl rfl rfl (n := 3) (by decide +kernel) ⟨Nat.le_of_ble_eq_true rfl, Nat.le_of_ble_eq_true rfl⟩ rfl rfl rfl rfl hl.1 rfl (Nat.le_of_ble_eq_true rfl) dX9_isWater_12 ⟨Nat.zero_le _, Nat.zero_le _⟩ (fun U locs G => ?_)
  have G : Gd D A s (w_M cy mAd thrown status acts taped latest leng cursor token start till fault faultAt gifts traced lane many item bay fresh thn was tape left gift isKept kept trace) U locs := G
  obtain ⟨hz2, H⟩ := gd_some H
  obtain rfl := Option.some.inj H
  exact ret_z C G rfl (isz_n hz2) dX9_isWater_15
def f_X9_areTwo (bay : Nat → Int32) (p1 p2 : Int32) : Option Int32 := bd (f_X9_isWater bay p1) (fun z1 => if z1 = 0 then (some 0) else (bd (f_X9_isWater bay p2) (fun z3 => if z3 = 0 then (some 0) else (if p1 = p2 then (some 0) else (some 1)))))
set_option maxHeartbeats 4000000 in
set_option maxRecDepth 100000 in
theorem c_X9_areTwo (l : Launch) (D : va_G) (cy : Nat → ClassId) (mAd : Nat → Nat) (thrown status acts taped latest leng cursor token start till fault faultAt gifts traced : Int32) (lane many item bay fresh thn was tape left gift isKept kept trace : Nat → Int32) (p1 p2 : Int32) (z : Int32) (hz : f_X9_areTwo bay p1 p2 = some z) : MI l yX9_areTwo wsX9_areTwo ({ frames := 2, cells := 0, slots := 0, locals := 46 } : Room) D cy [.ref (mAd 0), .int p1, .int p2] (w_M cy mAd thrown status acts taped latest leng cursor token start till fault faultAt gifts traced lane many item bay fresh thn was tape left gift isKept kept trace) z (w_M cy mAd thrown status acts taped latest leng cursor token start till fault faultAt gifts traced lane many item bay fresh thn was tape left gift isKept kept trace) := by
  refine met_start (Qf := fun A => MQi D cy z (w_M cy mAd thrown status acts taped latest leng cursor token start till fault faultAt gifts traced lane many item bay fresh thn was tape left gift isKept kept trace) A) (cc := cX9_areTwo) (nL := 3) (ret := (some .boolean)) RX9 rfl (by decide) rfl (Nat.le_of_ble_eq_true rfl) ?_
  intro p e s m below meth c A ls C G hl
  have hl : lv_has ls 3 [(0, .ref (mAd 0)), (1, .int p1), (2, .int p2)] := hl
  have H := hz
  unfold f_X9_areTwo at H
  obtain ⟨hx, hb, hr, hml, hown, hts, hlk, hK, hA, hE⟩ := id C
  refine lv_aload_n hx hb dX9_areTwo_0 rfl (lv_at hl 0 rfl) ?_
  refine lv_iload_n hx hb dX9_areTwo_1 rfl (lv_at hl 1 rfl) ?_
  obtain ⟨z1, hz1, H⟩ := bd_some H
  refine MI.callVw z1 [.int p1] [] C G (c_X9_isWater l D cy mAd thrown status acts taped latest leng cursor token start till fault faultAt gifts traced lane many item bay fresh thn was tape left gift isKept kept trace p1 z1 hz1) gX9_areTwo_X9_isWater rfl rfl rfl (n := 1) (by decide +kernel) ⟨Nat.le_of_ble_eq_true rfl, Nat.le_of_ble_eq_true rfl⟩ (q0 := 0) (ci := 9) rfl rfl rfl rfl hl.1 rfl (Nat.le_of_ble_eq_true rfl) dX9_areTwo_2 ⟨Nat.zero_le _, Nat.zero_le _⟩ (fun U locs G => ?_)
  have G : Gd D A s (w_M cy mAd thrown status acts taped latest leng cursor token start till fault faultAt gifts traced lane many item bay fresh thn was tape left gift isKept kept trace) U locs := G
  refine lv_if_eq (tgt := 25) hx hb dX9_areTwo_5 (by decide) (fun c2 => ?_) (fun c2 => ?_)
  · have H := if_t H c2
    refine lv_iconst (v := 0) hx hb dX9_areTwo_25 (by decide) ?_
    obtain rfl := Option.some.inj H
    exact ret_z C G rfl rfl dX9_areTwo_26
  · have H := if_f H c2
    refine lv_aload_n hx hb dX9_areTwo_8 rfl (lv_at hl 0 rfl) ?_
    refine lv_iload_n hx hb dX9_areTwo_9 rfl (lv_at hl 2 rfl) ?_
    obtain ⟨z3, hz3, H⟩ := bd_some H
    refine MI.callVw z3 [.int p2] [] C G (c_X9_isWater l D cy mAd thrown status acts taped latest leng cursor token start till fault faultAt gifts traced lane many item bay fresh thn was tape left gift isKept kept trace p2 z3 hz3) gX9_areTwo_X9_isWater rfl rfl rfl (n := 1) (by decide +kernel) ⟨Nat.le_of_ble_eq_true rfl, Nat.le_of_ble_eq_true rfl⟩ (q0 := 0) (ci := 9) rfl rfl rfl rfl hl.1 rfl (Nat.le_of_ble_eq_true rfl) dX9_areTwo_10 ⟨Nat.zero_le _, Nat.zero_le _⟩ (fun U locs G => ?_)
    have G : Gd D A s (w_M cy mAd thrown status acts taped latest leng cursor token start till fault faultAt gifts traced lane many item bay fresh thn was tape left gift isKept kept trace) U locs := G
    refine lv_if_eq (tgt := 25) hx hb dX9_areTwo_13 (by decide) (fun c4 => ?_) (fun c4 => ?_)
    · have H := if_t H c4
      refine lv_iconst (v := 0) hx hb dX9_areTwo_25 (by decide) ?_
      obtain rfl := Option.some.inj H
      exact ret_z C G rfl rfl dX9_areTwo_26
    · have H := if_f H c4
      refine lv_iload_n hx hb dX9_areTwo_16 rfl (lv_at hl 1 rfl) ?_
      refine lv_iload_n hx hb dX9_areTwo_17 rfl (lv_at hl 2 rfl) ?_
      refine lv_icmp_eq (tgt := 25) hx hb dX9_areTwo_18 (by decide) (fun c5 => ?_) (fun c5 => ?_)
      · have H := if_t H c5
        refine lv_iconst (v := 0) hx hb dX9_areTwo_25 (by decide) ?_
        obtain rfl := Option.some.inj H
        exact ret_z C G rfl rfl dX9_areTwo_26
      · have H := if_f H c5
        refine lv_iconst (v := 1) hx hb dX9_areTwo_21 (by decide) ?_
        refine lv_goto (tgt := 26) hx hb dX9_areTwo_22 (by decide) ?_
        obtain rfl := Option.some.inj H
        exact ret_z C G rfl rfl dX9_areTwo_26
def f_X9_at (p0 p1 : Int32) : Option Int32 := some ((15 + (4 * p0)) + p1)
set_option maxHeartbeats 4000000 in
set_option maxRecDepth 100000 in
theorem c_X9_at (l : Launch) (D : va_G) (cy : Nat → ClassId) (p0 p1 : Int32) (z : Int32) (hz : f_X9_at p0 p1 = some z) : MI l yX9_at wsX9_at ({ frames := 0, cells := 0, slots := 0, locals := 0 } : Room) D cy [.int p0, .int p1] [] z [] := by
  refine met_start (Qf := fun A => MQi D cy z [] A) (cc := cX9_at) (nL := 2) (ret := (some .int)) RX9 rfl (by decide) rfl (Nat.le_of_ble_eq_true rfl) ?_
  intro p e s m below meth c A ls C G hl
  have hl : lv_has ls 2 [(0, .int p0), (1, .int p1)] := hl
  have H := hz
  unfold f_X9_at at H
  obtain ⟨hx, hb, hr, hml, hown, hts, hlk, hK, hA, hE⟩ := id C
  refine lv_bipush (v := 15) hx hb dX9_at_0 (by decide) ?_
  refine lv_iconst (v := 4) hx hb dX9_at_2 (by decide) ?_
  refine lv_iload_n hx hb dX9_at_3 rfl (lv_at hl 0 rfl) ?_
  refine lv_imul hx hb dX9_at_4 ?_
  refine lv_iadd hx hb dX9_at_5 ?_
  refine lv_iload_n hx hb dX9_at_6 rfl (lv_at hl 1 rfl) ?_
  refine lv_iadd hx hb dX9_at_7 ?_
  obtain rfl := Option.some.inj H
  exact ret_i C G rfl dX9_at_8
def f_X9_debt (p0 p1 : Int32) : Option Int32 := some ((39 + (6 * p0)) + p1)
set_option maxHeartbeats 4000000 in
set_option maxRecDepth 100000 in
theorem c_X9_debt (l : Launch) (D : va_G) (cy : Nat → ClassId) (p0 p1 : Int32) (z : Int32) (hz : f_X9_debt p0 p1 = some z) : MI l yX9_debt wsX9_debt ({ frames := 0, cells := 0, slots := 0, locals := 0 } : Room) D cy [.int p0, .int p1] [] z [] := by
  refine met_start (Qf := fun A => MQi D cy z [] A) (cc := cX9_debt) (nL := 2) (ret := (some .int)) RX9 rfl (by decide) rfl (Nat.le_of_ble_eq_true rfl) ?_
  intro p e s m below meth c A ls C G hl
  have hl : lv_has ls 2 [(0, .int p0), (1, .int p1)] := hl
  have H := hz
  unfold f_X9_debt at H
  obtain ⟨hx, hb, hr, hml, hown, hts, hlk, hK, hA, hE⟩ := id C
  refine lv_bipush (v := 39) hx hb dX9_debt_0 (by decide) ?_
  refine lv_bipush (v := 6) hx hb dX9_debt_2 (by decide) ?_
  refine lv_iload_n hx hb dX9_debt_4 rfl (lv_at hl 0 rfl) ?_
  refine lv_imul hx hb dX9_debt_5 ?_
  refine lv_iadd hx hb dX9_debt_6 ?_
  refine lv_iload_n hx hb dX9_debt_7 rfl (lv_at hl 1 rfl) ?_
  refine lv_iadd hx hb dX9_debt_8 ?_
  obtain rfl := Option.some.inj H
  exact ret_i C G rfl dX9_debt_9
def f_X9_layNow_L2 (bay : Nat → Int32) : Nat → (Nat → Int32) → Int32 → Option (Nat → Int32)
  | 0, _, _ => none
  | n + 1, thn, x1 => if 75 ≤ x1 then (some thn) else (gd (inb x1 75) (f_X9_layNow_L2 bay n (upd thn (ix x1) (bay (ix x1))) (x1 + 1)))
theorem f_X9_layNow_L2_z (bay : Nat → Int32) (thn : Nat → Int32) (x1 : Int32) : f_X9_layNow_L2 bay 0 thn x1 = none := rfl
theorem f_X9_layNow_L2_s (bay : Nat → Int32) (n : Nat) (thn : Nat → Int32) (x1 : Int32) : f_X9_layNow_L2 bay (n + 1) thn x1 = if 75 ≤ x1 then (some thn) else (gd (inb x1 75) (f_X9_layNow_L2 bay n (upd thn (ix x1) (bay (ix x1))) (x1 + 1))) := rfl
set_option maxHeartbeats 4000000 in
set_option maxRecDepth 100000 in
theorem wl_X9_layNow_2 {p : Program} {l : Launch} {e : Env} {s : State} {m : MethodId} {below : List Frame} {meth : Method} {c : Code} {D : va_G} {cy : Nat → ClassId} {A : Nat → Prop} {args : Array Value} {Q : State → Prop} (C : Cx D cy A p s m meth c cX9_layNow 2 none wsX9_layNow RX9 args) (mAd : Nat → Nat) (thrown status acts taped latest leng cursor token start till fault faultAt gifts traced : Int32) (lane many item bay fresh was tape left gift isKept kept trace : Nat → Int32) :
    ∀ (n : Nat) (thn : Nat → Int32) (x1 : Int32) (z : (Nat → Int32)), f_X9_layNow_L2 bay n thn x1 = some z → (∀ (U : Heap) (locs : List Loc) (ls : Array Slot), Gd D A s (w_M cy mAd thrown status acts taped latest leng cursor token start till fault faultAt gifts traced lane many item bay fresh z was tape left gift isKept kept trace) U locs → lv_has ls 2 [] → W p l e ({ frames := 0, cells := 0, slots := 0, locals := 0 } : Room) s m args below meth c U locs 0 0 Q (F0 m 26 ls [])) → ∀ (U : Heap) (locs : List Loc) (ls : Array Slot), Gd D A s (w_M cy mAd thrown status acts taped latest leng cursor token start till fault faultAt gifts traced lane many item bay fresh thn was tape left gift isKept kept trace) U locs → lv_has ls 2 [(0, .ref (mAd 0)), (1, .int x1)] → W p l e ({ frames := 0, cells := 0, slots := 0, locals := 0 } : Room) s m args below meth c U locs 0 0 Q (F0 m 2 ls []) := by
  obtain ⟨hx, hb, hr, hml, hown, hts, hlk, hK, hA, hE⟩ := id C
  have lk0 := hts (Cond.fieldLink RX9 25 "TideDebtsModel" "then" "[I") (List.mem_of_getElem? (i := 1) rfl)
  have lk1 := hts (Cond.fieldLink RX9 19 "TideDebtsModel" "bay" "[I") (List.mem_of_getElem? (i := 2) rfl)
  have hiX9 : ∀ w ∈ u_ws RX9 TX9 27, w ∈ wsX9_layNow := fun _ h => List.mem_cons_of_mem _ (List.mem_append_right _ h)
  intro n
  induction n with
  | zero =>
    intro thn x1 z H
    rw [f_X9_layNow_L2_z] at H
    cases H
  | succ n ih =>
    intro thn x1 z H kk U locs ls G hl
    rw [f_X9_layNow_L2_s] at H
    refine lv_iload_n hx hb dX9_layNow_2 rfl (lv_at hl 1 rfl) ?_
    refine lv_bipush (v := 75) hx hb dX9_layNow_3 (by decide) ?_
    refine lv_icmp_ge (tgt := 26) hx hb dX9_layNow_5 (by decide) (fun c1 => ?_) (fun c1 => ?_)
    · have H := if_t H c1
      obtain rfl := Option.some.inj H
      exact kk _ _ _ G (lv_sub hl [] rfl)
    · have H := if_f H c1
      refine lv_aload_n hx hb dX9_layNow_8 rfl (lv_at hl 0 rfl) ?_
      refine va_get (D := D) (ci := 9) (v := .ref (mAd 6)) (C := RX9) (T := TX9) (N := 27) hx hb hts hiX9 hown hK G.1 0 rfl rfl 7 (by decide) lk0 (fun _ h9 => h9) rfl dX9_layNow_9 ?_
      refine lv_iload_n hx hb dX9_layNow_12 rfl (lv_at hl 1 rfl) ?_
      refine lv_aload_n hx hb dX9_layNow_13 rfl (lv_at hl 0 rfl) ?_
      refine va_get (D := D) (ci := 9) (v := .ref (mAd 4)) (C := RX9) (T := TX9) (N := 27) hx hb hts hiX9 hown hK G.1 0 rfl rfl 5 (by decide) lk1 (fun _ h9 => h9) rfl dX9_layNow_14 ?_
      refine lv_iload_n hx hb dX9_layNow_17 rfl (lv_at hl 1 rfl) ?_
      obtain ⟨hb2, H⟩ := gd_some H
      refine g_iald (v := bay (ix x1)) hx hb hK G.1 4 1 rfl rfl hb2 rfl dX9_layNow_18 ?_
      refine va_iast hx hb hK G.1 G.2.1 G.2.2 6 1 rfl rfl (inb_in hb2) dX9_layNow_19 (fun U locs hP hD hS => ?_)
      have G : Gd D A s (w_M cy mAd thrown status acts taped latest leng cursor token start till fault faultAt gifts traced lane many item bay fresh (upd thn (ix x1) (bay (ix x1))) was tape left gift isKept kept trace) U locs := ⟨hP, hD, hS⟩
      refine lv_iinc (v := x1 + 1) (lv' := [(1, .int (x1 + 1)), (0, .ref (mAd 0))]) hx hb dX9_layNow_20 hl (k := 1) rfl rfl (by decide) rfl (fun ls hl => ?_)
      refine lv_goto (tgt := 2) hx hb dX9_layNow_23 (by decide) ?_
      exact ih (upd thn (ix x1) (bay (ix x1))) (x1 + 1) z H kk _ _ _ G (lv_sub hl [1, 0] rfl)
def f_X9_layNow (bay thn : Nat → Int32) : Option (Nat → Int32) := bd (f_X9_layNow_L2 bay 2000 thn 0) (fun z3 => some z3)
set_option maxHeartbeats 4000000 in
set_option maxRecDepth 100000 in
theorem c_X9_layNow (l : Launch) (D : va_G) (cy : Nat → ClassId) (mAd : Nat → Nat) (thrown status acts taped latest leng cursor token start till fault faultAt gifts traced : Int32) (lane many item bay fresh thn was tape left gift isKept kept trace : Nat → Int32) (z : (Nat → Int32)) (hz : f_X9_layNow bay thn = some z) : MV l yX9_layNow wsX9_layNow ({ frames := 0, cells := 0, slots := 0, locals := 0 } : Room) D cy [.ref (mAd 0)] (w_M cy mAd thrown status acts taped latest leng cursor token start till fault faultAt gifts traced lane many item bay fresh thn was tape left gift isKept kept trace) (w_M cy mAd thrown status acts taped latest leng cursor token start till fault faultAt gifts traced lane many item bay fresh z was tape left gift isKept kept trace) := by
  refine met_start (Qf := fun A => MQv D cy (w_M cy mAd thrown status acts taped latest leng cursor token start till fault faultAt gifts traced lane many item bay fresh z was tape left gift isKept kept trace) A) (cc := cX9_layNow) (nL := 2) (ret := none) RX9 rfl (by decide) rfl (Nat.le_of_ble_eq_true rfl) ?_
  intro p e s m below meth c A ls C G hl
  have hl : lv_has ls 2 [(0, .ref (mAd 0))] := hl
  have H := hz
  unfold f_X9_layNow at H
  obtain ⟨hx, hb, hr, hml, hown, hts, hlk, hK, hA, hE⟩ := id C
  refine lv_iconst (v := 0) hx hb dX9_layNow_0 (by decide) ?_
  refine lv_istore_n (lv' := [(1, .int 0), (0, .ref (mAd 0))]) hx hb dX9_layNow_1 rfl hl (by decide) rfl (fun ls hl => ?_)
  obtain ⟨z3, hz3, H⟩ := bd_some H
  refine wl_X9_layNow_2 C mAd thrown status acts taped latest leng cursor token start till fault faultAt gifts traced lane many item bay fresh was tape left gift isKept kept trace _ thn 0 z3 hz3 (fun U locs ls G hl => ?_) _ _ _ G (lv_sub hl [1, 0] rfl)
  have G : Gd D A s (w_M cy mAd thrown status acts taped latest leng cursor token start till fault faultAt gifts traced lane many item bay fresh z3 was tape left gift isKept kept trace) U locs := G
  have hl : lv_has ls 2 [] := hl
  obtain rfl := Option.some.inj H
  exact ret_v C G dX9_layNow_26
def f_X9_riseAt (bay : Nat → Int32) (p1 : Int32) : Option Int32 := gd (inb (3 + ((p1 + 1) - (p1 + 1) / 12 * 12)) 75) (gd (inb (3 + (p1 - p1 / 12 * 12)) 75) (some ((bay (ix (3 + ((p1 + 1) - (p1 + 1) / 12 * 12)))) - (bay (ix (3 + (p1 - p1 / 12 * 12)))))))
set_option maxHeartbeats 4000000 in
set_option maxRecDepth 100000 in
theorem c_X9_riseAt (l : Launch) (D : va_G) (cy : Nat → ClassId) (mAd : Nat → Nat) (thrown status acts taped latest leng cursor token start till fault faultAt gifts traced : Int32) (lane many item bay fresh thn was tape left gift isKept kept trace : Nat → Int32) (p1 : Int32) (z : Int32) (hz : f_X9_riseAt bay p1 = some z) : MI l yX9_riseAt wsX9_riseAt ({ frames := 0, cells := 0, slots := 0, locals := 0 } : Room) D cy [.ref (mAd 0), .int p1] (w_M cy mAd thrown status acts taped latest leng cursor token start till fault faultAt gifts traced lane many item bay fresh thn was tape left gift isKept kept trace) z (w_M cy mAd thrown status acts taped latest leng cursor token start till fault faultAt gifts traced lane many item bay fresh thn was tape left gift isKept kept trace) := by
  refine met_start (Qf := fun A => MQi D cy z (w_M cy mAd thrown status acts taped latest leng cursor token start till fault faultAt gifts traced lane many item bay fresh thn was tape left gift isKept kept trace) A) (cc := cX9_riseAt) (nL := 2) (ret := (some .int)) RX9 rfl (by decide) rfl (Nat.le_of_ble_eq_true rfl) ?_
  intro p e s m below meth c A ls C G hl
  have hl : lv_has ls 2 [(0, .ref (mAd 0)), (1, .int p1)] := hl
  have H := hz
  unfold f_X9_riseAt at H
  obtain ⟨hx, hb, hr, hml, hown, hts, hlk, hK, hA, hE⟩ := id C
  have lk0 := hts (Cond.fieldLink RX9 19 "TideDebtsModel" "bay" "[I") (List.mem_of_getElem? (i := 1) rfl)
  have hiX9 : ∀ w ∈ u_ws RX9 TX9 27, w ∈ wsX9_riseAt := fun _ h => List.mem_cons_of_mem _ (List.mem_append_right _ h)
  refine lv_aload_n hx hb dX9_riseAt_0 rfl (lv_at hl 0 rfl) ?_
  refine va_get (D := D) (ci := 9) (v := .ref (mAd 4)) (C := RX9) (T := TX9) (N := 27) hx hb hts hiX9 hown hK G.1 0 rfl rfl 5 (by decide) lk0 (fun _ h9 => h9) rfl dX9_riseAt_1 ?_
  refine lv_iconst (v := 3) hx hb dX9_riseAt_4 (by decide) ?_
  refine lv_iload_n hx hb dX9_riseAt_5 rfl (lv_at hl 1 rfl) ?_
  refine lv_iconst (v := 1) hx hb dX9_riseAt_6 (by decide) ?_
  refine lv_iadd hx hb dX9_riseAt_7 ?_
  refine lv_bipush (v := 12) hx hb dX9_riseAt_8 (by decide) ?_
  refine lv_irem hx hb dX9_riseAt_10 (by decide) ?_
  refine lv_iadd hx hb dX9_riseAt_11 ?_
  obtain ⟨hb1, H⟩ := gd_some H
  refine g_iald (v := bay (ix (3 + ((p1 + 1) - (p1 + 1) / 12 * 12)))) hx hb hK G.1 4 1 rfl rfl hb1 rfl dX9_riseAt_12 ?_
  refine lv_aload_n hx hb dX9_riseAt_13 rfl (lv_at hl 0 rfl) ?_
  refine va_get (D := D) (ci := 9) (v := .ref (mAd 4)) (C := RX9) (T := TX9) (N := 27) hx hb hts hiX9 hown hK G.1 0 rfl rfl 5 (by decide) lk0 (fun _ h9 => h9) rfl dX9_riseAt_14 ?_
  refine lv_iconst (v := 3) hx hb dX9_riseAt_17 (by decide) ?_
  refine lv_iload_n hx hb dX9_riseAt_18 rfl (lv_at hl 1 rfl) ?_
  refine lv_bipush (v := 12) hx hb dX9_riseAt_19 (by decide) ?_
  refine lv_irem hx hb dX9_riseAt_21 (by decide) ?_
  refine lv_iadd hx hb dX9_riseAt_22 ?_
  obtain ⟨hb2, H⟩ := gd_some H
  refine g_iald (v := bay (ix (3 + (p1 - p1 / 12 * 12)))) hx hb hK G.1 4 1 rfl rfl hb2 rfl dX9_riseAt_23 ?_
  refine lv_isub hx hb dX9_riseAt_24 ?_
  obtain rfl := Option.some.inj H
  exact ret_i C G rfl dX9_riseAt_25
def f_X9_flowOf (bay : Nat → Int32) (p1 p2 : Int32) : Option Int32 := bd (f_X9_riseAt bay p2) (fun z1 => bd (f_X9_at p1 0) (fun z2 => gd (inb z2 75) (if (bay (ix z2)) = 1 then (some z1) else (if (bay (ix z2)) = 2 then (some (z1 / 2)) else (if (bay (ix z2)) = 3 then (gd (inb (3 + ((p2 + 1) - (p2 + 1) / 12 * 12)) 75) (bd (f_X9_at p1 3) (fun z8 => gd (inb z8 75) (if (bay (ix (3 + ((p2 + 1) - (p2 + 1) / 12 * 12)))) < (bay (ix z8)) then (some 0) else (some z1))))) else (if (bay (ix z2)) = 5 then (bd (f_X9_riseAt bay (p2 + 11)) (fun z12 => some z12)) else (some 0)))))))
set_option maxHeartbeats 4000000 in
set_option maxRecDepth 100000 in
theorem c_X9_flowOf (l : Launch) (D : va_G) (cy : Nat → ClassId) (mAd : Nat → Nat) (thrown status acts taped latest leng cursor token start till fault faultAt gifts traced : Int32) (lane many item bay fresh thn was tape left gift isKept kept trace : Nat → Int32) (p1 p2 : Int32) (z : Int32) (hz : f_X9_flowOf bay p1 p2 = some z) : MI l yX9_flowOf wsX9_flowOf ({ frames := 1, cells := 0, slots := 0, locals := 21 } : Room) D cy [.ref (mAd 0), .int p1, .int p2] (w_M cy mAd thrown status acts taped latest leng cursor token start till fault faultAt gifts traced lane many item bay fresh thn was tape left gift isKept kept trace) z (w_M cy mAd thrown status acts taped latest leng cursor token start till fault faultAt gifts traced lane many item bay fresh thn was tape left gift isKept kept trace) := by
  refine met_start (Qf := fun A => MQi D cy z (w_M cy mAd thrown status acts taped latest leng cursor token start till fault faultAt gifts traced lane many item bay fresh thn was tape left gift isKept kept trace) A) (cc := cX9_flowOf) (nL := 4) (ret := (some .int)) RX9 rfl (by decide) rfl (Nat.le_of_ble_eq_true rfl) ?_
  intro p e s m below meth c A ls C G hl
  have hl : lv_has ls 4 [(0, .ref (mAd 0)), (1, .int p1), (2, .int p2)] := hl
  have H := hz
  unfold f_X9_flowOf at H
  obtain ⟨hx, hb, hr, hml, hown, hts, hlk, hK, hA, hE⟩ := id C
  have lk0 := hts (Cond.fieldLink RX9 19 "TideDebtsModel" "bay" "[I") (List.mem_of_getElem? (i := 1) rfl)
  have hiX9 : ∀ w ∈ u_ws RX9 TX9 27, w ∈ wsX9_flowOf := fun _ h => List.mem_cons_of_mem _ (List.mem_append_right _ h)
  refine lv_aload_n hx hb dX9_flowOf_0 rfl (lv_at hl 0 rfl) ?_
  refine lv_iload_n hx hb dX9_flowOf_1 rfl (lv_at hl 2 rfl) ?_
  obtain ⟨z1, hz1, H⟩ := bd_some H
  refine MI.callVw z1 [.int p2] [] C G (c_X9_riseAt l D cy mAd thrown status acts taped latest leng cursor token start till fault faultAt gifts traced lane many item bay fresh thn was tape left gift isKept kept trace p2 z1 hz1) gX9_flowOf_X9_riseAt rfl rfl rfl (n := 1) (by decide +kernel) ⟨Nat.le_of_ble_eq_true rfl, Nat.le_of_ble_eq_true rfl⟩ (q0 := 0) (ci := 9) rfl rfl rfl rfl hl.1 rfl (Nat.le_of_ble_eq_true rfl) dX9_flowOf_2 ⟨Nat.zero_le _, Nat.zero_le _⟩ (fun U locs G => ?_)
  have G : Gd D A s (w_M cy mAd thrown status acts taped latest leng cursor token start till fault faultAt gifts traced lane many item bay fresh thn was tape left gift isKept kept trace) U locs := G
  refine lv_istore_n (lv' := [(3, .int z1), (0, .ref (mAd 0)), (1, .int p1), (2, .int p2)]) hx hb dX9_flowOf_5 rfl hl (by decide) rfl (fun ls hl => ?_)
  refine lv_aload_n hx hb dX9_flowOf_6 rfl (lv_at hl 1 rfl) ?_
  refine va_get (D := D) (ci := 9) (v := .ref (mAd 4)) (C := RX9) (T := TX9) (N := 27) hx hb hts hiX9 hown hK G.1 0 rfl rfl 5 (by decide) lk0 (fun _ h9 => h9) rfl dX9_flowOf_7 ?_
  refine lv_iload_n hx hb dX9_flowOf_10 rfl (lv_at hl 2 rfl) ?_
  refine lv_iconst (v := 0) hx hb dX9_flowOf_11 (by decide) ?_
  obtain ⟨z2, hz2, H⟩ := bd_some H
  refine MI.callS z2 [.int p1, .int 0] [.ref (mAd 4)] [] C G (c_X9_at l D cy p1 0 z2 hz2) gX9_flowOf_X9_at rfl rfl rfl (n := 2) (by decide +kernel) ⟨Nat.le_of_ble_eq_true rfl, Nat.le_of_ble_eq_true rfl⟩ rfl rfl rfl rfl hl.1 rfl (Nat.le_of_ble_eq_true rfl) dX9_flowOf_12 ⟨Nat.zero_le _, Nat.zero_le _⟩ (fun U locs G => ?_)
  have G : Gd D A s (w_M cy mAd thrown status acts taped latest leng cursor token start till fault faultAt gifts traced lane many item bay fresh thn was tape left gift isKept kept trace) U locs := G
  obtain ⟨hb3, H⟩ := gd_some H
  refine g_iald (v := bay (ix z2)) hx hb hK G.1 4 1 rfl rfl hb3 rfl dX9_flowOf_15 ?_
  by_cases c4 : bay (ix z2) = 1
  · have H := if_t H c4
    refine lv_tableIn (off := 36) (tgt := 52) hx hb dX9_flowOf_16 (by rw [c4]; decide) (by rw [c4]; decide) (by rw [c4]; decide) (by decide) ?_
    refine lv_iload_n hx hb dX9_flowOf_52 rfl (lv_at hl 0 rfl) ?_
    obtain rfl := Option.some.inj H
    exact ret_i C G rfl dX9_flowOf_53
  · have H := if_f H c4
    by_cases c5 : bay (ix z2) = 2
    · have H := if_t H c5
      refine lv_tableIn (off := 38) (tgt := 54) hx hb dX9_flowOf_16 (by rw [c5]; decide) (by rw [c5]; decide) (by rw [c5]; decide) (by decide) ?_
      refine lv_iload_n hx hb dX9_flowOf_54 rfl (lv_at hl 0 rfl) ?_
      refine lv_iconst (v := 2) hx hb dX9_flowOf_55 (by decide) ?_
      refine lv_idiv hx hb dX9_flowOf_56 (by decide) ?_
      obtain rfl := Option.some.inj H
      exact ret_i C G rfl dX9_flowOf_57
    · have H := if_f H c5
      by_cases c6 : bay (ix z2) = 3
      · have H := if_t H c6
        refine lv_tableIn (off := 42) (tgt := 58) hx hb dX9_flowOf_16 (by rw [c6]; decide) (by rw [c6]; decide) (by rw [c6]; decide) (by decide) ?_
        refine lv_aload_n hx hb dX9_flowOf_58 rfl (lv_at hl 1 rfl) ?_
        refine va_get (D := D) (ci := 9) (v := .ref (mAd 4)) (C := RX9) (T := TX9) (N := 27) hx hb hts hiX9 hown hK G.1 0 rfl rfl 5 (by decide) lk0 (fun _ h9 => h9) rfl dX9_flowOf_59 ?_
        refine lv_iconst (v := 3) hx hb dX9_flowOf_62 (by decide) ?_
        refine lv_iload_n hx hb dX9_flowOf_63 rfl (lv_at hl 3 rfl) ?_
        refine lv_iconst (v := 1) hx hb dX9_flowOf_64 (by decide) ?_
        refine lv_iadd hx hb dX9_flowOf_65 ?_
        refine lv_bipush (v := 12) hx hb dX9_flowOf_66 (by decide) ?_
        refine lv_irem hx hb dX9_flowOf_68 (by decide) ?_
        refine lv_iadd hx hb dX9_flowOf_69 ?_
        obtain ⟨hb7, H⟩ := gd_some H
        refine g_iald (v := bay (ix (3 + ((p2 + 1) - (p2 + 1) / 12 * 12)))) hx hb hK G.1 4 1 rfl rfl hb7 rfl dX9_flowOf_70 ?_
        refine lv_aload_n hx hb dX9_flowOf_71 rfl (lv_at hl 1 rfl) ?_
        refine va_get (D := D) (ci := 9) (v := .ref (mAd 4)) (C := RX9) (T := TX9) (N := 27) hx hb hts hiX9 hown hK G.1 0 rfl rfl 5 (by decide) lk0 (fun _ h9 => h9) rfl dX9_flowOf_72 ?_
        refine lv_iload_n hx hb dX9_flowOf_75 rfl (lv_at hl 2 rfl) ?_
        refine lv_iconst (v := 3) hx hb dX9_flowOf_76 (by decide) ?_
        obtain ⟨z8, hz8, H⟩ := bd_some H
        refine MI.callS z8 [.int p1, .int 3] [.ref (mAd 4), .int (bay (ix (3 + ((p2 + 1) - (p2 + 1) / 12 * 12))))] [] C G (c_X9_at l D cy p1 3 z8 hz8) gX9_flowOf_X9_at rfl rfl rfl (n := 2) (by decide +kernel) ⟨Nat.le_of_ble_eq_true rfl, Nat.le_of_ble_eq_true rfl⟩ rfl rfl rfl rfl hl.1 rfl (Nat.le_of_ble_eq_true rfl) dX9_flowOf_77 ⟨Nat.zero_le _, Nat.zero_le _⟩ (fun U locs G => ?_)
        have G : Gd D A s (w_M cy mAd thrown status acts taped latest leng cursor token start till fault faultAt gifts traced lane many item bay fresh thn was tape left gift isKept kept trace) U locs := G
        obtain ⟨hb9, H⟩ := gd_some H
        refine g_iald (v := bay (ix z8)) hx hb hK G.1 4 1 rfl rfl hb9 rfl dX9_flowOf_80 ?_
        refine lv_icmp_lt (tgt := 88) hx hb dX9_flowOf_81 (by decide) (fun c10 => ?_) (fun c10 => ?_)
        · have H := if_t H c10
          refine lv_iconst (v := 0) hx hb dX9_flowOf_88 (by decide) ?_
          obtain rfl := Option.some.inj H
          exact ret_i C G rfl dX9_flowOf_89
        · have H := if_f H c10
          refine lv_iload_n hx hb dX9_flowOf_84 rfl (lv_at hl 0 rfl) ?_
          refine lv_goto (tgt := 89) hx hb dX9_flowOf_85 (by decide) ?_
          obtain rfl := Option.some.inj H
          exact ret_i C G rfl dX9_flowOf_89
      · have H := if_f H c6
        by_cases c11 : bay (ix z2) = 5
        · have H := if_t H c11
          refine lv_tableIn (off := 74) (tgt := 90) hx hb dX9_flowOf_16 (by rw [c11]; decide) (by rw [c11]; decide) (by rw [c11]; decide) (by decide) ?_
          refine lv_aload_n hx hb dX9_flowOf_90 rfl (lv_at hl 1 rfl) ?_
          refine lv_iload_n hx hb dX9_flowOf_91 rfl (lv_at hl 3 rfl) ?_
          refine lv_bipush (v := 11) hx hb dX9_flowOf_92 (by decide) ?_
          refine lv_iadd hx hb dX9_flowOf_94 ?_
          obtain ⟨z12, hz12, H⟩ := bd_some H
          refine MI.callVw z12 [.int (p2 + 11)] [] C G (c_X9_riseAt l D cy mAd thrown status acts taped latest leng cursor token start till fault faultAt gifts traced lane many item bay fresh thn was tape left gift isKept kept trace (p2 + 11) z12 hz12) gX9_flowOf_X9_riseAt rfl rfl rfl (n := 1) (by decide +kernel) ⟨Nat.le_of_ble_eq_true rfl, Nat.le_of_ble_eq_true rfl⟩ (q0 := 0) (ci := 9) rfl rfl rfl rfl hl.1 rfl (Nat.le_of_ble_eq_true rfl) dX9_flowOf_95 ⟨Nat.zero_le _, Nat.zero_le _⟩ (fun U locs G => ?_)
          have G : Gd D A s (w_M cy mAd thrown status acts taped latest leng cursor token start till fault faultAt gifts traced lane many item bay fresh thn was tape left gift isKept kept trace) U locs := G
          obtain rfl := Option.some.inj H
          exact ret_i C G rfl dX9_flowOf_98
        · have H := if_f H c11
          by_cases c13 : bay (ix z2) = 4
          · refine lv_tableIn (off := 83) (tgt := 99) hx hb dX9_flowOf_16 (by rw [c13]; decide) (by rw [c13]; decide) (by rw [c13]; decide) (by decide) ?_
            refine lv_iconst (v := 0) hx hb dX9_flowOf_99 (by decide) ?_
            obtain rfl := Option.some.inj H
            exact ret_i C G rfl dX9_flowOf_100
          have hout := sw_out (x := bay (ix z2)) (lo := 1) (hi := 5) (fun k h1 h2 => by
              have hk : k = 1 ∨ k = 2 ∨ k = 3 ∨ k = 4 ∨ k = 5 := by omega
              rcases hk with rfl | rfl | rfl | rfl | rfl
              · exact c4
              · exact c5
              · exact c6
              · exact c13
              · exact c11)
          refine lv_tableOut (tgt := 99) hx hb dX9_flowOf_16 hout (by decide) ?_
          refine lv_iconst (v := 0) hx hb dX9_flowOf_99 (by decide) ?_
          obtain rfl := Option.some.inj H
          exact ret_i C G rfl dX9_flowOf_100
